variable {f_depthLimit f_state f_trapCode f_begun f_tokenTotal f_printedTotal f_stackSize f_bodyCount f_declaredTwice f_liveDepth f_position : Int32} {a_tokenKind a_tokenValue a_printed a_stack a_bodyParent a_bodyStart a_declCount a_paramCount a_paramName a_declKind a_declTarget a_tokenBody a_branchTarget a_liveBody a_liveParent a_returnTo a_slotValue a_slotHome a_waitingOp a_waitingLeft a_leftKnown a_argKind a_argValue a_argHome : Nat → Int32}
theorem rx_apply {post : Int32 → St2 → Prop} {k : Nat} {l r : Int32} (h1 : 20 ≤ k) (h2 : k ≤ 26) (hs : ∀ c, gr_ap k l r = some c → post c (f_depthLimit, f_state, f_trapCode, f_begun, f_tokenTotal, f_printedTotal, f_stackSize, f_bodyCount, f_declaredTwice, f_liveDepth, f_position, a_tokenKind, a_tokenValue, a_printed, a_stack, a_bodyParent, a_bodyStart, a_declCount, a_paramCount, a_paramName, a_declKind, a_declTarget, a_tokenBody, a_branchTarget, a_liveBody, a_liveParent, a_returnTo, a_slotValue, a_slotHome, a_waitingOp, a_waitingLeft, a_leftKnown, a_argKind, a_argValue, a_argHome)) (hn : gr_ap k l r = none → post 0 (f_depthLimit, f_state, 1, f_begun, f_tokenTotal, f_printedTotal, f_stackSize, f_bodyCount, f_declaredTwice, f_liveDepth, f_position, a_tokenKind, a_tokenValue, a_printed, a_stack, a_bodyParent, a_bodyStart, a_declCount, a_paramCount, a_paramName, a_declKind, a_declTarget, a_tokenBody, a_branchTarget, a_liveBody, a_liveParent, a_returnTo, a_slotValue, a_slotHome, a_waitingOp, a_waitingLeft, a_leftKnown, a_argKind, a_argValue, a_argHome)) : wpX_apply post (f_depthLimit, f_state, f_trapCode, f_begun, f_tokenTotal, f_printedTotal, f_stackSize, f_bodyCount, f_declaredTwice, f_liveDepth, f_position, a_tokenKind, a_tokenValue, a_printed, a_stack, a_bodyParent, a_bodyStart, a_declCount, a_paramCount, a_paramName, a_declKind, a_declTarget, a_tokenBody, a_branchTarget, a_liveBody, a_liveParent, a_returnTo, a_slotValue, a_slotHome, a_waitingOp, a_waitingLeft, a_leftKnown, a_argKind, a_argValue, a_argHome) (nI k) l r := by
  unfold wpX_apply
  have hk : k = 20 ∨ k = 21 ∨ k = 22 ∨ k = 23 ∨ k = 24 ∨ k = 25 ∨ k = 26 := by omega
  rcases hk with e | e | e | e | e | e | e <;> subst e
  · exact br_f (by decide) (br_f (by decide) (br_t rfl (hs _ rfl)))
  · exact br_f (by decide) (br_f (by decide) (br_f (by decide) (br_t rfl (hs _ rfl))))
  · exact br_f (by decide) (br_f (by decide) (br_f (by decide) (br_f (by decide) (br_t rfl (hs _ rfl)))))
  · refine br_f (by decide) (br_f (by decide) (br_f (by decide) (br_f (by decide) (br_f (by decide) (br_t rfl ?_)))))
    unfold wX_apply_78
    by_cases r0 : r = 0
    · exact br_t r0 (hn (by simp [gr_ap, r0]))
    · exact br_f r0 (br_t rfl ⟨r0, hs _ (by simp [gr_ap, r0])⟩)
  · refine br_f (by decide) (br_f (by decide) (br_f (by decide) (br_f (by decide) (br_f (by decide) (br_f (by decide) (br_t rfl ?_))))))
    unfold wX_apply_78
    by_cases r0 : r = 0
    · exact br_t r0 (hn (by simp [gr_ap, r0]))
    · exact br_f r0 (br_f (by decide) ⟨r0, hs _ (by simp [gr_ap, r0])⟩)
  · refine br_f (by decide) (br_f (by decide) (br_f (by decide) (br_f (by decide) (br_f (by decide) (br_f (by decide) (br_f (by decide) (br_t rfl ?_)))))))
    by_cases c : r ≤ l
    · exact br_t c (hs 0 (by simp [gr_ap, Int32.not_lt.mpr c]))
    · exact br_f c (hs 1 (by simp [gr_ap, Int32.not_le.mp c]))
  · refine br_f (by decide) (br_f (by decide) (br_f (by decide) (br_f (by decide) (br_f (by decide) (br_f (by decide) (br_f (by decide) (br_f (by decide) (br_t rfl ?_))))))))
    by_cases c : l = r
    · exact br_t c (hs 1 (by simp [gr_ap, c]))
    · exact br_f c (hs 0 (by simp [gr_ap, c]))
theorem rx_isop {post : Int32 → Prop} {k : Nat} (hk : k ≤ 26) (h0 : k < 20 → post 0) (h1 : 20 ≤ k → post 1) : wpX_isOperator post () (nI k) := by
  unfold wpX_isOperator
  by_cases c : k < 20
  · exact br_t (nI_lt (b := 20) c (by decide)) (h0 c)
  · exact br_f (nI_nlt (b := 20) (by omega) (by omega)) (br_f (nI_nlt (a := 26) (by omega) (by decide)) (h1 (by omega)))
theorem rx_nb : vp_nar .boolean 0 = 0 ∧ vp_nar .boolean 1 = 1 := by decide
/-- the same below w -/
def rx_ag (w : Nat) (a b : Nat → Int32) : Prop := ∀ i, i < w → a i = b i
theorem rx_end {post : Int32 → St2 → Prop} {J : Int32 → Int32 → Int32 → Int32 → Int32 → Int32 → Int32 → Int32 → Int32 → Int32 → Int32 → Int32 → Int32 → (Nat → Int32) → (Nat → Int32) → (Nat → Int32) → (Nat → Int32) → (Nat → Int32) → (Nat → Int32) → (Nat → Int32) → (Nat → Int32) → (Nat → Int32) → (Nat → Int32) → (Nat → Int32) → (Nat → Int32) → (Nat → Int32) → (Nat → Int32) → (Nat → Int32) → (Nat → Int32) → (Nat → Int32) → (Nat → Int32) → (Nat → Int32) → (Nat → Int32) → (Nat → Int32) → (Nat → Int32) → (Nat → Int32) → (Nat → Int32) → Prop} {x : Int32} {i w : Nat} {ps tc : Int32} (wo wl lk : Nat → Int32) (hw : w < 2 ^ 31) (hw2 : w ≤ 256) (ht : ¬ tc = 0) (h : post x (f_depthLimit, f_state, tc, f_begun, f_tokenTotal, f_printedTotal, f_stackSize, f_bodyCount, f_declaredTwice, f_liveDepth, ps, a_tokenKind, a_tokenValue, a_printed, a_stack, a_bodyParent, a_bodyStart, a_declCount, a_paramCount, a_paramName, a_declKind, a_declTarget, a_tokenBody, a_branchTarget, a_liveBody, a_liveParent, a_returnTo, a_slotValue, a_slotHome, wo, wl, lk, a_argKind, a_argValue, a_argHome)) : wX_evaluate_92 post J (nI i) 1 (nI w) x f_depthLimit f_state tc f_begun f_tokenTotal f_printedTotal f_stackSize f_bodyCount f_declaredTwice f_liveDepth ps a_tokenKind a_tokenValue a_printed a_stack a_bodyParent a_bodyStart a_declCount a_paramCount a_paramName a_declKind a_declTarget a_tokenBody a_branchTarget a_liveBody a_liveParent a_returnTo a_slotValue a_slotHome wo wl lk a_argKind a_argValue a_argHome := by
  have h144 : wX_evaluate_144 post J (nI w) (nI i) x f_depthLimit f_state tc f_begun f_tokenTotal f_printedTotal f_stackSize f_bodyCount f_declaredTwice f_liveDepth ps a_tokenKind a_tokenValue a_printed a_stack a_bodyParent a_bodyStart a_declCount a_paramCount a_paramName a_declKind a_declTarget a_tokenBody a_branchTarget a_liveBody a_liveParent a_returnTo a_slotValue a_slotHome wo wl lk a_argKind a_argValue a_argHome := by
    unfold wX_evaluate_144
    exact br_c (fun _ => h) (fun _ => br_f ht h)
  refine br_c (fun _ => h144) (fun h0 => ⟨?_, br_c (fun _ => h144) (fun _ => br_f ht h144)⟩)
  have : 1 ≤ w := by
    by_cases e : w = 0
    · subst e; exact absurd (by decide) h0
    · omega
  rw [li_m1 this]
  exact vp_in_nI (by omega) (by decide)
/-- the component's evaluation, by the expression's tree -/
theorem rx_ev {post : Int32 → St2 → Prop} {K V : Nat → Nat} {n : Nat} {lf : Nat → Int32} (h256 : n ≤ 256) (htk : ∀ i, i < n → a_tokenKind i = nI (K i) ∧ 1 ≤ K i ∧ K i ≤ 26) (hnum : ∀ j, j < n → K j = 18 → a_tokenValue j = lf j) (hnam : ∀ j, j < n → K j = 19 → a_tokenValue j = nI (V j)) :
    ∀ (F j e : Nat) (v : Option Int32), gr_ev K lf F j = some (e, v) → e ≤ n → (∀ i, j ≤ i → i < e → 18 ≤ K i) →
      (∀ i, j ≤ i → i < e → K i = 19 → ∀ (P : Int32 → Prop) (ps : Int32) (wo wl lk : Nat → Int32), (∀ s, s < 272 → a_slotValue s = lf i → P (nI s)) → wpX_slotOf P (f_depthLimit, f_state, 0, f_begun, f_tokenTotal, f_printedTotal, f_stackSize, f_bodyCount, f_declaredTwice, f_liveDepth, ps, a_tokenKind, a_tokenValue, a_printed, a_stack, a_bodyParent, a_bodyStart, a_declCount, a_paramCount, a_paramName, a_declKind, a_declTarget, a_tokenBody, a_branchTarget, a_liveBody, a_liveParent, a_returnTo, a_slotValue, a_slotHome, wo, wl, lk, a_argKind, a_argValue, a_argHome) (nI (V i))) →
      (v = none → ∀ (r ps : Int32) (wo wl lk : Nat → Int32), post r (f_depthLimit, f_state, 1, f_begun, f_tokenTotal, f_printedTotal, f_stackSize, f_bodyCount, f_declaredTwice, f_liveDepth, ps, a_tokenKind, a_tokenValue, a_printed, a_stack, a_bodyParent, a_bodyStart, a_declCount, a_paramCount, a_paramName, a_declKind, a_declTarget, a_tokenBody, a_branchTarget, a_liveBody, a_liveParent, a_returnTo, a_slotValue, a_slotHome, wo, wl, lk, a_argKind, a_argValue, a_argHome)) →
      ∀ (f w i : Nat) (wo wl lk : Nat → Int32), w + (e - j) ≤ 256 → i + (e - j) ≤ 256 →
      (∀ x, v = some x → ∀ (wo' wl' lk' : Nat → Int32), rx_ag w wo' wo → rx_ag w wl' wl → rx_ag w lk' lk → ∃ m, wX_evaluate_92 post (wX_evaluate_4 post f) (nI (i + (e - j) - 1)) m (nI w) x f_depthLimit f_state 0 f_begun f_tokenTotal f_printedTotal f_stackSize f_bodyCount f_declaredTwice f_liveDepth (nI e) a_tokenKind a_tokenValue a_printed a_stack a_bodyParent a_bodyStart a_declCount a_paramCount a_paramName a_declKind a_declTarget a_tokenBody a_branchTarget a_liveBody a_liveParent a_returnTo a_slotValue a_slotHome wo' wl' lk' a_argKind a_argValue a_argHome) →
      wX_evaluate_4 post (f + (e - j)) (nI w) (nI i) f_depthLimit f_state 0 f_begun f_tokenTotal f_printedTotal f_stackSize f_bodyCount f_declaredTwice f_liveDepth (nI j) a_tokenKind a_tokenValue a_printed a_stack a_bodyParent a_bodyStart a_declCount a_paramCount a_paramName a_declKind a_declTarget a_tokenBody a_branchTarget a_liveBody a_liveParent a_returnTo a_slotValue a_slotHome wo wl lk a_argKind a_argValue a_argHome := by
  intro F
  induction F with
  | zero => intro j e v h; simp [gr_ev] at h
  | succ F ih =>
    intro j e v hev hen hk18 hleaf hnone f w i wo wl lk hw hi hcont
    have hje := gr_ev_lt _ _ _ _ hev
    have hjn : j < n := by omega
    obtain ⟨k1, k2, k3⟩ := htk j hjn
    have hin : vp_in (nI j) 256 := vp_in_nI (by omega) (by decide)
    have hcl : (nI j).toNatClampNeg = j := nI_clamp (by omega)
    obtain ⟨f1, hf1⟩ : ∃ f1, f + (e - j) = f1 + 1 := ⟨f + (e - j) - 1, by omega⟩
    rw [hf1]
    refine br_f (nI_ge (b := 256) (by omega) (by decide)) ⟨hin, ?_⟩
    rw [hcl]
    refine nm_r k1 ⟨hin, nm_e (nm_r (nI_1 j) ?_)⟩
    by_cases kl : K j = 18 ∨ K j = 19
    · obtain ⟨he, hv⟩ := gr_ev_leaf hev kl
      subst he; subst hv
      have hf2 : f1 = f := by omega
      subst hf2
      obtain ⟨m, hm⟩ := hcont (lf j) rfl wo wl lk (fun _ _ => rfl) (fun _ _ => rfl) (fun _ _ => rfl)
      rw [show i + (j + 1 - j) - 1 = i by omega] at hm
      refine rx_isop k3 (fun _ => br_t rfl ?_) (fun h => by omega)
      by_cases q : K j = 19
      · refine br_t (by rw [q]; rfl) ?_
        rw [hnam j hjn q]
        refine hleaf j (Nat.le_refl _) (by omega) q _ _ _ _ _ (fun s hs hsv => ⟨vp_in_nI hs (by decide), ?_⟩)
        rw [nI_clamp (by omega), hsv]
        exact nm_e ⟨m, hm⟩
      · refine br_f (fun h => q ((nI_eq (b := 19) (by omega) (by decide)).mp h)) ?_
        rw [hnum j hjn (by omega)]
        exact ⟨m, hm⟩
    · obtain ⟨j1, a, b, e1, e2, hv⟩ := gr_ev_op hev kl
      have hk20 : 20 ≤ K j := by have := hk18 j (Nat.le_refl _) hje; omega
      have l1 := gr_ev_lt _ _ _ _ e1
      have l2 := gr_ev_lt _ _ _ _ e2
      refine rx_isop k3 (fun h => by omega) (fun _ => br_f (by decide) ?_)
      rw [nI_clamp (n := w) (by omega)]
      refine ⟨vp_in_nI (by omega) (by decide), nm_e ⟨vp_in_nI (by omega) (by decide), nm_e (nm_r (nI_1 w) (nm_r (nI_1 i) ?_))⟩⟩
      -- the left operand
      have ef : f1 = (f + (e - j1)) + (j1 - (j + 1)) := by omega
      rw [ef]
      refine ih (j + 1) j1 a e1 (by omega) (fun q h3 h4 => hk18 q (by omega) (by omega)) (fun q h3 h4 => hleaf q (by omega) (by omega)) (fun ha => hnone (by rw [hv, ha]; rfl)) (f + (e - j1)) (w + 1) (i + 1) _ _ _ (by omega) (by omega) ?_
      intro x hx wo1 wl1 lk1 g1 g2 g3
      have o1 : wo1 w = nI (K j) := by rw [g1 w (by omega)]; exact lo_us
      have o3 : lk1 w = 0 := by rw [g3 w (by omega)]; exact lo_us
      refine ⟨1, ?_⟩
      refine br_f (nI_nle (by omega) (by omega)) ?_
      rw [nI_pred, nI_clamp (n := w) (by omega)]
      refine ⟨vp_in_nI (by omega) (by decide), br_t o3 ?_⟩
      unfold wX_evaluate_144
      refine br_f (nI_ne0 (by omega) (by omega)) (br_t rfl ?_)
      rw [nI_pred, nI_clamp (n := w) (by omega)]
      refine ⟨vp_in_nI (by omega) (by decide), nm_e ⟨vp_in_nI (by omega) (by decide), nm_e (nm_r (nI_1 _) ?_)⟩⟩
      -- the right operand
      refine ih j1 e b e2 hen (fun q h3 h4 => hk18 q (by omega) h4) (fun q h3 h4 => hleaf q (by omega) h4) (fun hb => hnone (by rw [hv, hb]; cases a <;> rfl)) f (w + 1) _ _ _ _ (by omega) (by omega) ?_
      intro y hy wo2 wl2 lk2 g4 g5 g6
      have p1 : wo2 w = nI (K j) := by rw [g4 w (by omega)]; exact o1
      have p2 : wl2 w = x := by rw [g5 w (by omega)]; exact lo_us
      have p3 : lk2 w = 1 := by rw [g6 w (by omega)]; exact lo_us
      rw [show i + 1 + (j1 - (j + 1)) - 1 + 1 + (e - j1) - 1 = i + (e - j) - 1 by omega]
      have fin : ∃ m, wpX_apply (fun r u => match u with | (f_depthLimit, f_state, f_trapCode, f_begun, f_tokenTotal, f_printedTotal, f_stackSize, f_bodyCount, f_declaredTwice, f_liveDepth, f_position, a_tokenKind, a_tokenValue, a_printed, a_stack, a_bodyParent, a_bodyStart, a_declCount, a_paramCount, a_paramName, a_declKind, a_declTarget, a_tokenBody, a_branchTarget, a_liveBody, a_liveParent, a_returnTo, a_slotValue, a_slotHome, a_waitingOp, a_waitingLeft, a_leftKnown, a_argKind, a_argValue, a_argHome) => ∀ y1 : Int32, y1 = nI w → wX_evaluate_92 post (wX_evaluate_4 post f) (nI (i + (e - j) - 1)) m y1 r f_depthLimit f_state f_trapCode f_begun f_tokenTotal f_printedTotal f_stackSize f_bodyCount f_declaredTwice f_liveDepth f_position a_tokenKind a_tokenValue a_printed a_stack a_bodyParent a_bodyStart a_declCount a_paramCount a_paramName a_declKind a_declTarget a_tokenBody a_branchTarget a_liveBody a_liveParent a_returnTo a_slotValue a_slotHome a_waitingOp a_waitingLeft a_leftKnown a_argKind a_argValue a_argHome) (f_depthLimit, f_state, 0, f_begun, f_tokenTotal, f_printedTotal, f_stackSize, f_bodyCount, f_declaredTwice, f_liveDepth, nI e, a_tokenKind, a_tokenValue, a_printed, a_stack, a_bodyParent, a_bodyStart, a_declCount, a_paramCount, a_paramName, a_declKind, a_declTarget, a_tokenBody, a_branchTarget, a_liveBody, a_liveParent, a_returnTo, a_slotValue, a_slotHome, wo2, wl2, lk2, a_argKind, a_argValue, a_argHome) (nI (K j)) x y := by
        have hvv : v = gr_ap (K j) x y := by rw [hv, hx, hy]; rfl
        cases hr : gr_ap (K j) x y with
        | some c =>
          obtain ⟨m, hm⟩ := hcont c (by rw [hvv, hr]) wo2 wl2 lk2 (fun q hq => by rw [g4 q (by omega), g1 q (by omega), lo_un (by omega)]) (fun q hq => by rw [g5 q (by omega), lo_un (by omega), g2 q (by omega)]) (fun q hq => by rw [g6 q (by omega), lo_un (by omega), g3 q (by omega), lo_un (by omega)])
          exact ⟨m, rx_apply hk20 k3 (fun c' hc => by rw [hr] at hc; injection hc with hc; subst hc; exact nm_e hm) (fun hc => by rw [hr] at hc; cases hc)⟩
        | none =>
          refine ⟨1, rx_apply hk20 k3 (fun c' hc => by rw [hr] at hc; cases hc) (fun _ => ?_)⟩
          exact nm_e (rx_end _ _ _ (by omega) (by omega) (by decide) (hnone (by rw [hvv, hr]) _ _ _ _ _))
      obtain ⟨m, hm⟩ := fin
      refine ⟨m + 1, ?_⟩
      have d1 : nI (w + 1) + (-1) = nI w := by rw [li_d1 (by omega)]; rfl
      refine br_f (nI_nle (by omega) (by omega)) ?_
      rw [nI_pred, nI_clamp (n := w) (by omega), p1, p2, d1]
      have iw : vp_in (nI w) 256 := vp_in_nI (by omega) (by decide)
      refine ⟨iw, br_f (by rw [p3]; decide) (br_t rfl ⟨iw, iw, ?_⟩)⟩
      exact hm
theorem rx_eval {post : Int32 → St2 → Prop} {K V : Nat → Nat} {n F j e : Nat} {v : Option Int32} {lf : Nat → Int32} (h256 : n ≤ 256) (htk : ∀ i, i < n → a_tokenKind i = nI (K i) ∧ 1 ≤ K i ∧ K i ≤ 26) (hnum : ∀ j, j < n → K j = 18 → a_tokenValue j = lf j) (hnam : ∀ j, j < n → K j = 19 → a_tokenValue j = nI (V j))
    (hev : gr_ev K lf F j = some (e, v)) (hen : e ≤ n) (hk : ∀ i, j ≤ i → i < e → 18 ≤ K i)
    (hleaf : ∀ i, j ≤ i → i < e → K i = 19 → ∀ (P : Int32 → Prop) (ps : Int32) (wo wl lk : Nat → Int32), (∀ s, s < 272 → a_slotValue s = lf i → P (nI s)) → wpX_slotOf P (f_depthLimit, f_state, 0, f_begun, f_tokenTotal, f_printedTotal, f_stackSize, f_bodyCount, f_declaredTwice, f_liveDepth, ps, a_tokenKind, a_tokenValue, a_printed, a_stack, a_bodyParent, a_bodyStart, a_declCount, a_paramCount, a_paramName, a_declKind, a_declTarget, a_tokenBody, a_branchTarget, a_liveBody, a_liveParent, a_returnTo, a_slotValue, a_slotHome, wo, wl, lk, a_argKind, a_argValue, a_argHome) (nI (V i)))
    (hnone : v = none → ∀ (r ps : Int32) (wo wl lk : Nat → Int32), post r (f_depthLimit, f_state, 1, f_begun, f_tokenTotal, f_printedTotal, f_stackSize, f_bodyCount, f_declaredTwice, f_liveDepth, ps, a_tokenKind, a_tokenValue, a_printed, a_stack, a_bodyParent, a_bodyStart, a_declCount, a_paramCount, a_paramName, a_declKind, a_declTarget, a_tokenBody, a_branchTarget, a_liveBody, a_liveParent, a_returnTo, a_slotValue, a_slotHome, wo, wl, lk, a_argKind, a_argValue, a_argHome))
    (hsome : ∀ x, v = some x → ∀ (wo wl lk : Nat → Int32), post x (f_depthLimit, f_state, 0, f_begun, f_tokenTotal, f_printedTotal, f_stackSize, f_bodyCount, f_declaredTwice, f_liveDepth, nI e, a_tokenKind, a_tokenValue, a_printed, a_stack, a_bodyParent, a_bodyStart, a_declCount, a_paramCount, a_paramName, a_declKind, a_declTarget, a_tokenBody, a_branchTarget, a_liveBody, a_liveParent, a_returnTo, a_slotValue, a_slotHome, wo, wl, lk, a_argKind, a_argValue, a_argHome)) :
    wpX_evaluate post (f_depthLimit, f_state, 0, f_begun, f_tokenTotal, f_printedTotal, f_stackSize, f_bodyCount, f_declaredTwice, f_liveDepth, nI j, a_tokenKind, a_tokenValue, a_printed, a_stack, a_bodyParent, a_bodyStart, a_declCount, a_paramCount, a_paramName, a_declKind, a_declTarget, a_tokenBody, a_branchTarget, a_liveBody, a_liveParent, a_returnTo, a_slotValue, a_slotHome, a_waitingOp, a_waitingLeft, a_leftKnown, a_argKind, a_argValue, a_argHome) := by
  unfold wpX_evaluate
  refine ⟨0 + (e - j), rx_ev h256 htk hnum hnam F j e v hev hen hk hleaf hnone 0 0 0 _ _ _ (by omega) (by omega) (fun x hx wo wl lk _ _ _ => ⟨1, ?_⟩)⟩
  refine br_t (by decide) ?_
  unfold wX_evaluate_144
  exact br_t rfl (hsome x hx wo wl lk)
