variable {f_depthLimit f_state f_trapCode f_begun f_tokenTotal f_printedTotal f_stackSize f_bodyCount f_declaredTwice f_liveDepth f_position : Int32} {a_tokenKind a_tokenValue a_printed a_stack a_bodyParent a_bodyStart a_declCount a_paramCount a_paramName a_declKind a_declTarget a_tokenBody a_branchTarget a_liveBody a_liveParent a_returnTo a_slotValue a_slotHome a_waitingOp a_waitingLeft a_leftKnown a_argKind a_argValue a_argHome : Nat → Int32}
variable {g_depthLimit g_state g_trapCode g_begun g_tokenTotal g_printedTotal g_stackSize g_bodyCount g_declaredTwice g_liveDepth g_position : Int32} {b_tokenKind b_tokenValue b_printed b_stack b_bodyParent b_bodyStart b_declCount b_paramCount b_paramName b_declKind b_declTarget b_tokenBody b_branchTarget b_liveBody b_liveParent b_returnTo b_slotValue b_slotHome b_waitingOp b_waitingLeft b_leftKnown b_argKind b_argValue b_argHome : Nat → Int32}
def la_w34 (post : Int32 → Prop) (L : Nat) (xs : Nat → Int32) (kc ks n : Nat) (x4 x5 : Int32) (u : St2) : Prop := match u with
  | (f_depthLimit, f_state, f_trapCode, f_begun, f_tokenTotal, f_printedTotal, f_stackSize, f_bodyCount, f_declaredTwice, f_liveDepth, f_position, a_tokenKind, a_tokenValue, a_printed, a_stack, a_bodyParent, a_bodyStart, a_declCount, a_paramCount, a_paramName, a_declKind, a_declTarget, a_tokenBody, a_branchTarget, a_liveBody, a_liveParent, a_returnTo, a_slotValue, a_slotHome, a_waitingOp, a_waitingLeft, a_leftKnown, a_argKind, a_argValue, a_argHome) => wL_law_34 post L xs kc ks n x4 x5 f_depthLimit f_state f_trapCode f_begun f_tokenTotal f_printedTotal f_stackSize f_bodyCount f_declaredTwice f_liveDepth f_position a_tokenKind a_tokenValue a_printed a_stack a_bodyParent a_bodyStart a_declCount a_paramCount a_paramName a_declKind a_declTarget a_tokenBody a_branchTarget a_liveBody a_liveParent a_returnTo a_slotValue a_slotHome a_waitingOp a_waitingLeft a_leftKnown a_argKind a_argValue a_argHome f_depthLimit f_state f_trapCode f_begun f_tokenTotal f_printedTotal f_stackSize f_bodyCount f_declaredTwice f_liveDepth f_position a_tokenKind a_tokenValue a_printed a_stack a_bodyParent a_bodyStart a_declCount a_paramCount a_paramName a_declKind a_declTarget a_tokenBody a_branchTarget a_liveBody a_liveParent a_returnTo a_slotValue a_slotHome a_waitingOp a_waitingLeft a_leftKnown a_argKind a_argValue a_argHome
theorem la_34 {L : Nat} {xs : Nat → Int32} {kc ks lim : Nat} (hL : L ≤ 260) (hl : lim ≤ 16) :
    ∀ (r sg fx b : Nat) (u : St2), r + sg = 13 → r < fx → b ≤ 8 + 48 * sg → pt_edt lim u → la_w34 (fun r => r = 1) L xs kc ks fx (nI b) (nI sg) u := by
  intro r
  induction r with
  | zero =>
    intro sg fx b u hr hf hb hu
    obtain ⟨f1, rfl⟩ : ∃ f1, fx = f1 + 1 := ⟨fx - 1, by omega⟩
    obtain ⟨R, hR, hc⟩ := la_ride hu hl
    obtain ⟨f_depthLimit, f_state, f_trapCode, f_begun, f_tokenTotal, f_printedTotal, f_stackSize, f_bodyCount, f_declaredTwice, f_liveDepth, f_position, a_tokenKind, a_tokenValue, a_printed, a_stack, a_bodyParent, a_bodyStart, a_declCount, a_paramCount, a_paramName, a_declKind, a_declTarget, a_tokenBody, a_branchTarget, a_liveBody, a_liveParent, a_returnTo, a_slotValue, a_slotHome, a_waitingOp, a_waitingLeft, a_leftKnown, a_argKind, a_argValue, a_argHome⟩ := u
    refine br_t (nI_le (a := 13) (by omega) (by omega)) (hc _ (fun r u' hr => ?_) (fun ua hua => ?_))
    · obtain ⟨g_depthLimit, g_state, g_trapCode, g_begun, g_tokenTotal, g_printedTotal, g_stackSize, g_bodyCount, g_declaredTwice, g_liveDepth, g_position, b_tokenKind, b_tokenValue, b_printed, b_stack, b_bodyParent, b_bodyStart, b_declCount, b_paramCount, b_paramName, b_declKind, b_declTarget, b_tokenBody, b_branchTarget, b_liveBody, b_liveParent, b_returnTo, b_slotValue, b_slotHome, b_waitingOp, b_waitingLeft, b_leftKnown, b_argKind, b_argValue, b_argHome⟩ := u'
      exact br_f hr rfl
    · have hx : ∀ ub, R 0 ub → ∀ m, 1 ≤ m → m ≤ 8 → la_w313 (fun r => r = 1) L xs (nI b) (nI m) kc ks (m + 1) (lN 0) (nI 0) ua ub := fun ub hub m h1 h2 => la_313 hL hR (by omega) h1 h2 hub m 0 0 (m + 1) ua (by omega) (by omega) (by omega) (by omega) hua
      obtain ⟨g_depthLimit, g_state, g_trapCode, g_begun, g_tokenTotal, g_printedTotal, g_stackSize, g_bodyCount, g_declaredTwice, g_liveDepth, g_position, b_tokenKind, b_tokenValue, b_printed, b_stack, b_bodyParent, b_bodyStart, b_declCount, b_paramCount, b_paramName, b_declKind, b_declTarget, b_tokenBody, b_branchTarget, b_liveBody, b_liveParent, b_returnTo, b_slotValue, b_slotHome, b_waitingOp, b_waitingLeft, b_leftKnown, b_argKind, b_argValue, b_argHome⟩ := ua
      refine br_t rfl (hc _ (fun r u' hr => ?_) (fun ub hub => ?_))
      · obtain ⟨f_depthLimit, f_state, f_trapCode, f_begun, f_tokenTotal, f_printedTotal, f_stackSize, f_bodyCount, f_declaredTwice, f_liveDepth, f_position, a_tokenKind, a_tokenValue, a_printed, a_stack, a_bodyParent, a_bodyStart, a_declCount, a_paramCount, a_paramName, a_declKind, a_declTarget, a_tokenBody, a_branchTarget, a_liveBody, a_liveParent, a_returnTo, a_slotValue, a_slotHome, a_waitingOp, a_waitingLeft, a_leftKnown, a_argKind, a_argValue, a_argHome⟩ := u'
        exact br_f hr rfl
      · have hx := hx ub hub
        obtain ⟨f_depthLimit, f_state, f_trapCode, f_begun, f_tokenTotal, f_printedTotal, f_stackSize, f_bodyCount, f_declaredTwice, f_liveDepth, f_position, a_tokenKind, a_tokenValue, a_printed, a_stack, a_bodyParent, a_bodyStart, a_declCount, a_paramCount, a_paramName, a_declKind, a_declTarget, a_tokenBody, a_branchTarget, a_liveBody, a_liveParent, a_returnTo, a_slotValue, a_slotHome, a_waitingOp, a_waitingLeft, a_leftKnown, a_argKind, a_argValue, a_argHome⟩ := ub
        refine br_t rfl (de_cell hL b rfl (by omega) (fun c => ?_))
        obtain ⟨m, hm, e⟩ := pk_andE c (m := 7) 3 (by decide)
        exact nm_r (show 1 + (c &&& 7) = nI (1 + m) by rw [e]; exact nI_add 1 m) ⟨_, hx (1 + m) (by omega) (by omega)⟩
  | succ r ih =>
    intro sg fx b u hr hf hb hu
    obtain ⟨f1, rfl⟩ : ∃ f1, fx = f1 + 1 := ⟨fx - 1, by omega⟩
    have hJ : ∀ b' u', b' ≤ b + 48 → pt_edt lim u' → la_J (wL_law_34 (fun r => r = 1) L xs kc ks f1) (nI b') (nI sg + 1) u' := by
      intro b' u' hb' hu'
      have h2 := ih (sg + 1) f1 b' u' (by omega) (by omega) (by omega) hu'
      rw [nI_1]
      obtain ⟨f_depthLimit, f_state, f_trapCode, f_begun, f_tokenTotal, f_printedTotal, f_stackSize, f_bodyCount, f_declaredTwice, f_liveDepth, f_position, a_tokenKind, a_tokenValue, a_printed, a_stack, a_bodyParent, a_bodyStart, a_declCount, a_paramCount, a_paramName, a_declKind, a_declTarget, a_tokenBody, a_branchTarget, a_liveBody, a_liveParent, a_returnTo, a_slotValue, a_slotHome, a_waitingOp, a_waitingLeft, a_leftKnown, a_argKind, a_argValue, a_argHome⟩ := u'
      exact h2
    have h51 := la_51 (post := fun r => r = 1) (L := L) (xs := xs) (kc := kc) (ks := ks) (x4 := nI b) (x5 := nI sg) (fun u' hu' => hJ b u' (by omega) hu') 16 0 17 u (by omega) (by omega) hu
    have h154 := fun x7 => la_154 (post := fun r => r = 1) (xs := xs) (kc := kc) (ks := ks) (x7 := x7) (g := sg / 2 ^ 1) hL (by omega) (by omega) hJ hu
    obtain ⟨f_depthLimit, f_state, f_trapCode, f_begun, f_tokenTotal, f_printedTotal, f_stackSize, f_bodyCount, f_declaredTwice, f_liveDepth, f_position, a_tokenKind, a_tokenValue, a_printed, a_stack, a_bodyParent, a_bodyStart, a_declCount, a_paramCount, a_paramName, a_declKind, a_declTarget, a_tokenBody, a_branchTarget, a_liveBody, a_liveParent, a_returnTo, a_slotValue, a_slotHome, a_waitingOp, a_waitingLeft, a_leftKnown, a_argKind, a_argValue, a_argHome⟩ := u
    refine br_f (nI_ge (b := 13) (by omega) (by decide)) ?_
    by_cases hc : (nI sg &&& 1) = 0
    · exact br_t hc ⟨17, h51⟩
    · refine br_f hc (nm_r (pk_shrN (n := sg) (by omega) _ 1 (by decide)) ?_)
      exact de_and (fun _ => h154 _) (fun _ => de_and (fun _ => de_and (fun _ => h154 _) (fun _ => h154 _)) (fun _ => h154 _))
