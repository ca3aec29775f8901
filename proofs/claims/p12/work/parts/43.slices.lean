variable {f_depthLimit f_state f_trapCode f_begun f_tokenTotal f_printedTotal f_stackSize f_bodyCount f_declaredTwice f_liveDepth f_position : Int32} {a_tokenKind a_tokenValue a_printed a_stack a_bodyParent a_bodyStart a_declCount a_paramCount a_paramName a_declKind a_declTarget a_tokenBody a_branchTarget a_liveBody a_liveParent a_returnTo a_slotValue a_slotHome a_waitingOp a_waitingLeft a_leftKnown a_argKind a_argValue a_argHome : Nat → Int32}
variable {g_depthLimit g_state g_trapCode g_begun g_tokenTotal g_printedTotal g_stackSize g_bodyCount g_declaredTwice g_liveDepth g_position : Int32} {b_tokenKind b_tokenValue b_printed b_stack b_bodyParent b_bodyStart b_declCount b_paramCount b_paramName b_declKind b_declTarget b_tokenBody b_branchTarget b_liveBody b_liveParent b_returnTo b_slotValue b_slotHome b_waitingOp b_waitingLeft b_leftKnown b_argKind b_argValue b_argHome : Nat → Int32}
theorem de_cl {v : Int32} {F : Nat} (hF : pt_fu v F) {post : Int64 → Prop} (h : post (lN F)) : wpL_cl post () v := by
  obtain ⟨h1, h2, hF⟩ := hF
  rcases hF with ⟨a, b, rfl⟩ | ⟨a, rfl⟩ | ⟨a, b, rfl⟩
  · refine br_t a (br_t b ?_)
    rw [nI_l (by omega)]; exact h
  · exact br_f a h
  · exact br_t a (br_f b h)
def la_w370 (post : Int32 → Prop) (L : Nat) (xs : Nat → Int32) (x7 : Int64) (kc ks n : Nat) (x9 : Int64) (x11 x12 : Int32) (u v : St2) : Prop := match u, v with
  | (f_depthLimit, f_state, f_trapCode, f_begun, f_tokenTotal, f_printedTotal, f_stackSize, f_bodyCount, f_declaredTwice, f_liveDepth, f_position, a_tokenKind, a_tokenValue, a_printed, a_stack, a_bodyParent, a_bodyStart, a_declCount, a_paramCount, a_paramName, a_declKind, a_declTarget, a_tokenBody, a_branchTarget, a_liveBody, a_liveParent, a_returnTo, a_slotValue, a_slotHome, a_waitingOp, a_waitingLeft, a_leftKnown, a_argKind, a_argValue, a_argHome), (g_depthLimit, g_state, g_trapCode, g_begun, g_tokenTotal, g_printedTotal, g_stackSize, g_bodyCount, g_declaredTwice, g_liveDepth, g_position, b_tokenKind, b_tokenValue, b_printed, b_stack, b_bodyParent, b_bodyStart, b_declCount, b_paramCount, b_paramName, b_declKind, b_declTarget, b_tokenBody, b_branchTarget, b_liveBody, b_liveParent, b_returnTo, b_slotValue, b_slotHome, b_waitingOp, b_waitingLeft, b_leftKnown, b_argKind, b_argValue, b_argHome) => wL_law_370 post L xs x7 kc ks n x9 x11 x12 f_depthLimit f_state f_trapCode f_begun f_tokenTotal f_printedTotal f_stackSize f_bodyCount f_declaredTwice f_liveDepth f_position a_tokenKind a_tokenValue a_printed a_stack a_bodyParent a_bodyStart a_declCount a_paramCount a_paramName a_declKind a_declTarget a_tokenBody a_branchTarget a_liveBody a_liveParent a_returnTo a_slotValue a_slotHome a_waitingOp a_waitingLeft a_leftKnown a_argKind a_argValue a_argHome g_depthLimit g_state g_trapCode g_begun g_tokenTotal g_printedTotal g_stackSize g_bodyCount g_declaredTwice g_liveDepth g_position b_tokenKind b_tokenValue b_printed b_stack b_bodyParent b_bodyStart b_declCount b_paramCount b_paramName b_declKind b_declTarget b_tokenBody b_branchTarget b_liveBody b_liveParent b_returnTo b_slotValue b_slotHome b_waitingOp b_waitingLeft b_leftKnown b_argKind b_argValue b_argHome
theorem la_370 {L : Nat} {xs : Nat → Int32} {kc ks : Nat} (hL : L ≤ 260) {R : Nat → St2 → Prop} (hR : la_R R) {f c0 : Nat} (hf1 : 1 ≤ f) (hf : f ≤ 2048) (hc0 : c0 < 2 ^ 20) {u : St2} (hu : R f u) :
    ∀ (D d k it fx : Nat) (v : St2), d ≤ D → d + k = f → d < fx → it ≤ k → R k v → la_w370 (fun r => r = 1) L xs (lN f) kc ks fx (lN d) (nI (c0 + it)) (nI it) u v := by
  intro D
  induction D with
  | zero =>
    intro d k it fx v hd hk hfx hit hv
    obtain ⟨f1, rfl⟩ : ∃ f1, fx = f1 + 1 := ⟨fx - 1, by omega⟩
    have e : d = 0 := by omega
    subst e
    have e : k = f := by omega
    subst e
    have hh := la_440 (L := L) (xs := xs) (kc := kc) (ks := ks) hR hf1 hf hu hv
    obtain ⟨f_depthLimit, f_state, f_trapCode, f_begun, f_tokenTotal, f_printedTotal, f_stackSize, f_bodyCount, f_declaredTwice, f_liveDepth, f_position, a_tokenKind, a_tokenValue, a_printed, a_stack, a_bodyParent, a_bodyStart, a_declCount, a_paramCount, a_paramName, a_declKind, a_declTarget, a_tokenBody, a_branchTarget, a_liveBody, a_liveParent, a_returnTo, a_slotValue, a_slotHome, a_waitingOp, a_waitingLeft, a_leftKnown, a_argKind, a_argValue, a_argHome⟩ := u
    obtain ⟨g_depthLimit, g_state, g_trapCode, g_begun, g_tokenTotal, g_printedTotal, g_stackSize, g_bodyCount, g_declaredTwice, g_liveDepth, g_position, b_tokenKind, b_tokenValue, b_printed, b_stack, b_bodyParent, b_bodyStart, b_declCount, b_paramCount, b_paramName, b_declKind, b_declTarget, b_tokenBody, b_branchTarget, b_liveBody, b_liveParent, b_returnTo, b_slotValue, b_slotHome, b_waitingOp, b_waitingLeft, b_leftKnown, b_argKind, b_argValue, b_argHome⟩ := v
    exact br_f (nI_ge (b := 4096) (by omega) (by decide)) (br_t (by decide) hh)
  | succ D ih =>
    intro d k it fx v hd hk hfx hit hv
    by_cases hd0 : d = 0
    · subst hd0
      exact ih 0 k it fx v (by omega) hk hfx hit hv
    · obtain ⟨f1, rfl⟩ : ∃ f1, fx = f1 + 1 := ⟨fx - 1, by omega⟩
      have hrun := hR.1 k v
      have hnx : ∀ (F : Nat) (v' : St2), 1 ≤ F → F ≤ d → R (k + F) v' → la_w370 (fun r => r = 1) L xs (lN f) kc ks f1 (lN (d - F)) (nI (c0 + it + 1)) (nI (it + 1)) u v' := fun F v' h1 h2 h3 => ih (d - F) (k + F) (it + 1) f1 v' (by omega) (by omega) (by omega) (by omega) h3
      obtain ⟨f_depthLimit, f_state, f_trapCode, f_begun, f_tokenTotal, f_printedTotal, f_stackSize, f_bodyCount, f_declaredTwice, f_liveDepth, f_position, a_tokenKind, a_tokenValue, a_printed, a_stack, a_bodyParent, a_bodyStart, a_declCount, a_paramCount, a_paramName, a_declKind, a_declTarget, a_tokenBody, a_branchTarget, a_liveBody, a_liveParent, a_returnTo, a_slotValue, a_slotHome, a_waitingOp, a_waitingLeft, a_leftKnown, a_argKind, a_argValue, a_argHome⟩ := u
      obtain ⟨g_depthLimit, g_state, g_trapCode, g_begun, g_tokenTotal, g_printedTotal, g_stackSize, g_bodyCount, g_declaredTwice, g_liveDepth, g_position, b_tokenKind, b_tokenValue, b_printed, b_stack, b_bodyParent, b_bodyStart, b_declCount, b_paramCount, b_paramName, b_declKind, b_declTarget, b_tokenBody, b_branchTarget, b_liveBody, b_liveParent, b_returnTo, b_slotValue, b_slotHome, b_waitingOp, b_waitingLeft, b_leftKnown, b_argKind, b_argValue, b_argHome⟩ := v
      refine br_f (nI_ge (b := 4096) (by omega) (by decide)) (br_f (fun h => absurd ((lN_le (a := d) (b := 0) (by omega) (by decide)).mp h) (by omega)) (nm_r (nI_1 _) (de_cell hL (c0 + it) rfl (by omega) (fun g => ?_))))
      obtain ⟨F, hF⟩ := pt_fu_ex g
      refine de_cl hF ?_
      have hF1 := hF.1
      have hF2 := hF.2.1
      by_cases hc : F ≤ d
      · refine br_t ((lN_le (by omega) (by omega)).mpr hc) (hrun g F _ hv hF (fun v' hv' => ?_))
        have h3 := hnx F v' hF1 hc hv'
        obtain ⟨g_depthLimit, g_state, g_trapCode, g_begun, g_tokenTotal, g_printedTotal, g_stackSize, g_bodyCount, g_declaredTwice, g_liveDepth, g_position, b_tokenKind, b_tokenValue, b_printed, b_stack, b_bodyParent, b_bodyStart, b_declCount, b_paramCount, b_paramName, b_declKind, b_declTarget, b_tokenBody, b_branchTarget, b_liveBody, b_liveParent, b_returnTo, b_slotValue, b_slotHome, b_waitingOp, b_waitingLeft, b_leftKnown, b_argKind, b_argValue, b_argHome⟩ := v'
        exact nm_r (lN_sub hc) (nm_r (nI_1 it) h3)
      · refine br_f (fun h => hc ((lN_le (by omega) (by omega)).mp h)) ?_
        rw [lN_i]
        refine hrun (nI d) d _ hv (la_fu (by omega) (by omega)) (fun v' hv' => ?_)
        have h3 := hnx d v' (by omega) (Nat.le_refl _) hv'
        obtain ⟨g_depthLimit, g_state, g_trapCode, g_begun, g_tokenTotal, g_printedTotal, g_stackSize, g_bodyCount, g_declaredTwice, g_liveDepth, g_position, b_tokenKind, b_tokenValue, b_printed, b_stack, b_bodyParent, b_bodyStart, b_declCount, b_paramCount, b_paramName, b_declKind, b_declTarget, b_tokenBody, b_branchTarget, b_liveBody, b_liveParent, b_returnTo, b_slotValue, b_slotHome, b_waitingOp, b_waitingLeft, b_leftKnown, b_argKind, b_argValue, b_argHome⟩ := v'
        exact nm_r (lN_sub (Nat.le_refl _)) (nm_r (nI_1 it) h3)
def la_w313 (post : Int32 → Prop) (L : Nat) (xs : Nat → Int32) (x5 x6 : Int32) (kc ks n : Nat) (x7 : Int64) (x9 : Int32) (u v : St2) : Prop := match u, v with
  | (f_depthLimit, f_state, f_trapCode, f_begun, f_tokenTotal, f_printedTotal, f_stackSize, f_bodyCount, f_declaredTwice, f_liveDepth, f_position, a_tokenKind, a_tokenValue, a_printed, a_stack, a_bodyParent, a_bodyStart, a_declCount, a_paramCount, a_paramName, a_declKind, a_declTarget, a_tokenBody, a_branchTarget, a_liveBody, a_liveParent, a_returnTo, a_slotValue, a_slotHome, a_waitingOp, a_waitingLeft, a_leftKnown, a_argKind, a_argValue, a_argHome), (g_depthLimit, g_state, g_trapCode, g_begun, g_tokenTotal, g_printedTotal, g_stackSize, g_bodyCount, g_declaredTwice, g_liveDepth, g_position, b_tokenKind, b_tokenValue, b_printed, b_stack, b_bodyParent, b_bodyStart, b_declCount, b_paramCount, b_paramName, b_declKind, b_declTarget, b_tokenBody, b_branchTarget, b_liveBody, b_liveParent, b_returnTo, b_slotValue, b_slotHome, b_waitingOp, b_waitingLeft, b_leftKnown, b_argKind, b_argValue, b_argHome) => wL_law_313 post L xs x5 x6 kc ks n x7 x9 f_depthLimit f_state f_trapCode f_begun f_tokenTotal f_printedTotal f_stackSize f_bodyCount f_declaredTwice f_liveDepth f_position a_tokenKind a_tokenValue a_printed a_stack a_bodyParent a_bodyStart a_declCount a_paramCount a_paramName a_declKind a_declTarget a_tokenBody a_branchTarget a_liveBody a_liveParent a_returnTo a_slotValue a_slotHome a_waitingOp a_waitingLeft a_leftKnown a_argKind a_argValue a_argHome g_depthLimit g_state g_trapCode g_begun g_tokenTotal g_printedTotal g_stackSize g_bodyCount g_declaredTwice g_liveDepth g_position b_tokenKind b_tokenValue b_printed b_stack b_bodyParent b_bodyStart b_declCount b_paramCount b_paramName b_declKind b_declTarget b_tokenBody b_branchTarget b_liveBody b_liveParent b_returnTo b_slotValue b_slotHome b_waitingOp b_waitingLeft b_leftKnown b_argKind b_argValue b_argHome
theorem la_313 {L : Nat} {xs : Nat → Int32} {kc ks : Nat} (hL : L ≤ 260) {R : Nat → St2 → Prop} (hR : la_R R) {b m : Nat} (hb : b < 2 ^ 18) (hm1 : 1 ≤ m) (hm : m ≤ 8) {v : St2} (hv : R 0 v) :
    ∀ (r i k fx : Nat) (u : St2), r + i = m → r < fx → i ≤ k → k ≤ 256 * i → R k u → la_w313 (fun r => r = 1) L xs (nI b) (nI m) kc ks fx (lN k) (nI i) u v := by
  intro r
  induction r with
  | zero =>
    intro i k fx u hr hfx hik hki hu
    obtain ⟨f1, rfl⟩ : ∃ f1, fx = f1 + 1 := ⟨fx - 1, by omega⟩
    have hh := la_370 (xs := xs) (kc := kc) (ks := ks) hL hR (f := k) (c0 := b + 9) (by omega) (by omega) (by omega) hu k k 0 0 (k + 1) v (by omega) (by omega) (by omega) (by omega) hv
    obtain ⟨f_depthLimit, f_state, f_trapCode, f_begun, f_tokenTotal, f_printedTotal, f_stackSize, f_bodyCount, f_declaredTwice, f_liveDepth, f_position, a_tokenKind, a_tokenValue, a_printed, a_stack, a_bodyParent, a_bodyStart, a_declCount, a_paramCount, a_paramName, a_declKind, a_declTarget, a_tokenBody, a_branchTarget, a_liveBody, a_liveParent, a_returnTo, a_slotValue, a_slotHome, a_waitingOp, a_waitingLeft, a_leftKnown, a_argKind, a_argValue, a_argHome⟩ := u
    obtain ⟨g_depthLimit, g_state, g_trapCode, g_begun, g_tokenTotal, g_printedTotal, g_stackSize, g_bodyCount, g_declaredTwice, g_liveDepth, g_position, b_tokenKind, b_tokenValue, b_printed, b_stack, b_bodyParent, b_bodyStart, b_declCount, b_paramCount, b_paramName, b_declKind, b_declTarget, b_tokenBody, b_branchTarget, b_liveBody, b_liveParent, b_returnTo, b_slotValue, b_slotHome, b_waitingOp, b_waitingLeft, b_leftKnown, b_argKind, b_argValue, b_argHome⟩ := v
    exact br_t (nI_le (by omega) (by omega)) (nm_r (nI_add b 9) ⟨k + 1, hh⟩)
  | succ r ih =>
    intro i k fx u hr hfx hik hki hu
    obtain ⟨f1, rfl⟩ : ∃ f1, fx = f1 + 1 := ⟨fx - 1, by omega⟩
    have hrun := hR.1 k u
    have hnx := fun (F : Nat) (u' : St2) (h1 : 1 ≤ F) (h2 : F ≤ 256) (h3 : R (k + F) u') => ih (i + 1) (k + F) f1 u' (by omega) (by omega) (by omega) (by omega) h3
    obtain ⟨f_depthLimit, f_state, f_trapCode, f_begun, f_tokenTotal, f_printedTotal, f_stackSize, f_bodyCount, f_declaredTwice, f_liveDepth, f_position, a_tokenKind, a_tokenValue, a_printed, a_stack, a_bodyParent, a_bodyStart, a_declCount, a_paramCount, a_paramName, a_declKind, a_declTarget, a_tokenBody, a_branchTarget, a_liveBody, a_liveParent, a_returnTo, a_slotValue, a_slotHome, a_waitingOp, a_waitingLeft, a_leftKnown, a_argKind, a_argValue, a_argHome⟩ := u
    obtain ⟨g_depthLimit, g_state, g_trapCode, g_begun, g_tokenTotal, g_printedTotal, g_stackSize, g_bodyCount, g_declaredTwice, g_liveDepth, g_position, b_tokenKind, b_tokenValue, b_printed, b_stack, b_bodyParent, b_bodyStart, b_declCount, b_paramCount, b_paramName, b_declKind, b_declTarget, b_tokenBody, b_branchTarget, b_liveBody, b_liveParent, b_returnTo, b_slotValue, b_slotHome, b_waitingOp, b_waitingLeft, b_leftKnown, b_argKind, b_argValue, b_argHome⟩ := v
    refine br_f (nI_ge (by omega) (by omega)) (de_cell hL (b + 1 + i) ((congrArg (· + nI i) (nI_add b 1)).trans (nI_add (b + 1) i)) (by omega) (fun g => ?_))
    obtain ⟨F, hF⟩ := pt_fu_ex g
    have hF1 := hF.1
    have hF2 := hF.2.1
    refine hrun g F _ hu hF (fun u' hu' => ?_)
    have h3 := hnx F u' hF1 hF2 hu'
    obtain ⟨f_depthLimit, f_state, f_trapCode, f_begun, f_tokenTotal, f_printedTotal, f_stackSize, f_bodyCount, f_declaredTwice, f_liveDepth, f_position, a_tokenKind, a_tokenValue, a_printed, a_stack, a_bodyParent, a_bodyStart, a_declCount, a_paramCount, a_paramName, a_declKind, a_declTarget, a_tokenBody, a_branchTarget, a_liveBody, a_liveParent, a_returnTo, a_slotValue, a_slotHome, a_waitingOp, a_waitingLeft, a_leftKnown, a_argKind, a_argValue, a_argHome⟩ := u'
    exact de_cl hF (nm_r (lN_add k F) (nm_r (nI_1 i) h3))
