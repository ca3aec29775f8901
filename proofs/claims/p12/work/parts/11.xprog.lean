theorem li_e {k c : Nat} (hk : k < 2147483648) (hc : c < 2147483648) : (nI k = (OfNat.ofNat c : Int32)) ↔ k = OfNat.ofNat c := nI_eq hk hc
theorem li_lt {k c : Nat} (hk : k < 2147483648) (hc : c < 2147483648) : (nI k < (OfNat.ofNat c : Int32)) ↔ k < OfNat.ofNat c := nI_ltI hk hc
theorem li_gt {k c : Nat} (hk : k < 2147483648) (hc : c < 2147483648) : ((OfNat.ofNat c : Int32) < nI k) ↔ OfNat.ofNat c < k := nI_ltI hc hk
theorem li_le {k c : Nat} (hk : k < 2147483648) (hc : c < 2147483648) : (nI k ≤ (OfNat.ofNat c : Int32)) ↔ k ≤ OfNat.ofNat c := nI_leI hk hc
theorem li_ge {k c : Nat} (hk : k < 2147483648) (hc : c < 2147483648) : ((OfNat.ofNat c : Int32) ≤ nI k) ↔ OfNat.ofNat c ≤ k := nI_leI hc hk
theorem li_sub {a b : Nat} (h : b ≤ a) : nI a - nI b = nI (a - b) := by
  obtain ⟨c, rfl⟩ := Nat.exists_eq_add_of_le h
  rw [← nI_add, show b + c - b = c by omega]
  grind
theorem li_m1 {a : Nat} (h : 1 ≤ a) : nI a - 1 = nI (a - 1) := li_sub h
theorem li_d1 {a : Nat} (h : 1 ≤ a) : nI a + (-1) = nI (a - 1) := by
  rw [← li_m1 h]; grind
theorem li_mul (a b : Nat) : nI a * nI b = nI (a * b) := (Int32.ofNat_mul a b).symm
theorem li_m16 (a : Nat) : nI a * 16 = nI (a * 16) := li_mul a 16
theorem li_m4 (a : Nat) : nI a * 4 = nI (a * 4) := li_mul a 4
theorem li_0 (a : Nat) (h : a = 0) : nI a = 0 := by rw [h]; rfl
variable {f_depthLimit f_state f_trapCode f_begun f_tokenTotal f_printedTotal f_stackSize f_bodyCount f_declaredTwice f_liveDepth f_position : Int32} {a_tokenKind a_tokenValue a_printed a_stack a_bodyParent a_bodyStart a_declCount a_paramCount a_paramName a_declKind a_declTarget a_tokenBody a_branchTarget a_liveBody a_liveParent a_returnTo a_slotValue a_slotHome a_waitingOp a_waitingLeft a_leftKnown a_argKind a_argValue a_argHome : Nat → Int32}
theorem xc_push {post : St2 → Prop} {e : Int32} {s : Nat} (hs : s < 513) (h : post (f_depthLimit, f_state, f_trapCode, f_begun, f_tokenTotal, f_printedTotal, nI (s + 1), f_bodyCount, f_declaredTwice, f_liveDepth, f_position, a_tokenKind, a_tokenValue, a_printed, upd a_stack s e, a_bodyParent, a_bodyStart, a_declCount, a_paramCount, a_paramName, a_declKind, a_declTarget, a_tokenBody, a_branchTarget, a_liveBody, a_liveParent, a_returnTo, a_slotValue, a_slotHome, a_waitingOp, a_waitingLeft, a_leftKnown, a_argKind, a_argValue, a_argHome)) : wpX_push post (f_depthLimit, f_state, f_trapCode, f_begun, f_tokenTotal, f_printedTotal, nI s, f_bodyCount, f_declaredTwice, f_liveDepth, f_position, a_tokenKind, a_tokenValue, a_printed, a_stack, a_bodyParent, a_bodyStart, a_declCount, a_paramCount, a_paramName, a_declKind, a_declTarget, a_tokenBody, a_branchTarget, a_liveBody, a_liveParent, a_returnTo, a_slotValue, a_slotHome, a_waitingOp, a_waitingLeft, a_leftKnown, a_argKind, a_argValue, a_argHome) e := by
  unfold wpX_push
  refine br_f (nI_ge (b := 513) hs (by decide)) ⟨vp_in_nI hs (by decide), ?_⟩
  rw [nI_clamp (by omega), nI_1]
  exact nm_e (nm_e h)
theorem xc_fits {post : Int32 → Prop} {k w : Nat} (h1 : 1 ≤ k) (h2 : k ≤ 26) (hw : w ≤ 8) (ht : xs_fit k w → post 1) (hf : ¬ xs_fit k w → post 0) : wpX_fits post () (nI k) (nI w) := by
  have one : ∀ c : Nat, c < 9 → (xs_fit k w ↔ w = c) → (nI w = nI c → post 1) ∧ (¬ nI w = nI c → post 0) := by
    intro c hc e
    by_cases h : w = c
    · exact br_t (by rw [h]) (ht (e.mpr h))
    · exact br_f (fun h2 => h ((nI_eq (by omega) (by omega)).mp h2)) (hf (fun h2 => h (e.mp h2)))
  have two : ∀ c d : Nat, c < 9 → d < 9 → (xs_fit k w ↔ w = c ∨ w = d) → (nI w = nI c → post 1) ∧ (¬ nI w = nI c → (nI w = nI d → post 1) ∧ (¬ nI w = nI d → post 0)) := by
    intro c d hc hd e
    by_cases h : w = c
    · exact br_t (by rw [h]) (ht (e.mpr (.inl h)))
    · refine br_f (fun h2 => h ((nI_eq (by omega) (by omega)).mp h2)) ?_
      by_cases h3 : w = d
      · exact br_t (by rw [h3]) (ht (e.mpr (.inr h3)))
      · exact br_f (fun h2 => h3 ((nI_eq (by omega) (by omega)).mp h2)) (hf (fun h2 => by have := e.mp h2; omega))
  have thr : ∀ c d g : Nat, c < 9 → d < 9 → g < 9 → (xs_fit k w ↔ w = c ∨ w = d ∨ w = g) → (nI w = nI c → post 1) ∧ (¬ nI w = nI c → (nI w = nI d → post 1) ∧ (¬ nI w = nI d → (nI w = nI g → post 1) ∧ (¬ nI w = nI g → post 0))) := by
    intro c d g hc hd hg e
    by_cases h : w = c
    · exact br_t (by rw [h]) (ht (e.mpr (.inl h)))
    · refine br_f (fun h2 => h ((nI_eq (by omega) (by omega)).mp h2)) ?_
      by_cases h3 : w = d
      · exact br_t (by rw [h3]) (ht (e.mpr (.inr (.inl h3))))
      · refine br_f (fun h2 => h3 ((nI_eq (by omega) (by omega)).mp h2)) ?_
        by_cases h4 : w = g
        · exact br_t (by rw [h4]) (ht (e.mpr (.inr (.inr h4))))
        · exact br_f (fun h2 => h4 ((nI_eq (by omega) (by omega)).mp h2)) (hf (fun h2 => by have := e.mp h2; omega))
  unfold wpX_fits
  rcases xs_26 h1 h2 with h | h | h | h | h | h | h | h | h | h | h | h | h | h | h | h | h | h | h | h | h | h | h | h | h | h <;> subst h
  · exact br_f (by decide) (br_f (by decide) (br_t rfl (two 1 2 (by decide) (by decide) (by simp [xs_fit]))))
  · exact br_f (by decide) (br_f (by decide) (br_f (by decide) (br_t rfl (one 4 (by decide) (by simp [xs_fit])))))
  · exact br_f (by decide) (br_f (by decide) (br_f (by decide) (br_f (by decide) (br_t rfl (one 3 (by decide) (by simp [xs_fit]))))))
  · exact br_f (by decide) (br_f (by decide) (br_f (by decide) (br_f (by decide) (br_f (by decide) (br_t rfl (one 3 (by decide) (by simp [xs_fit])))))))
  · exact br_f (by decide) (br_f (by decide) (br_f (by decide) (br_f (by decide) (br_f (by decide) (br_f (by decide) (br_t rfl (one 2 (by decide) (by simp [xs_fit]))))))))
  · exact br_f (by decide) (br_f (by decide) (br_f (by decide) (br_f (by decide) (br_f (by decide) (br_f (by decide) (br_f (by decide) (br_t rfl (one 2 (by decide) (by simp [xs_fit])))))))))
  · exact br_f (by decide) (br_f (by decide) (br_f (by decide) (br_f (by decide) (br_f (by decide) (br_f (by decide) (br_f (by decide) (br_f (by decide) (br_t rfl (thr 4 5 6 (by decide) (by decide) (by decide) (by simp [xs_fit]))))))))))
  · exact br_f (by decide) (br_f (by decide) (br_f (by decide) (br_f (by decide) (br_f (by decide) (br_f (by decide) (br_f (by decide) (br_f (by decide) (br_f (by decide) (br_t rfl (thr 4 5 6 (by decide) (by decide) (by decide) (by simp [xs_fit])))))))))))
  · exact br_f (by decide) (br_f (by decide) (br_f (by decide) (br_f (by decide) (br_f (by decide) (br_f (by decide) (br_f (by decide) (br_f (by decide) (br_f (by decide) (br_f (by decide) (br_t rfl (thr 4 5 6 (by decide) (by decide) (by decide) (by simp [xs_fit]))))))))))))
  · exact br_f (by decide) (br_f (by decide) (br_f (by decide) (br_f (by decide) (br_f (by decide) (br_f (by decide) (br_f (by decide) (br_f (by decide) (br_f (by decide) (br_f (by decide) (br_f (by decide) (br_t rfl (one 4 (by decide) (by simp [xs_fit])))))))))))))
  · exact br_f (by decide) (br_f (by decide) (br_f (by decide) (br_f (by decide) (br_f (by decide) (br_f (by decide) (br_f (by decide) (br_f (by decide) (br_f (by decide) (br_f (by decide) (br_f (by decide) (br_f (by decide) (br_t rfl (thr 4 5 6 (by decide) (by decide) (by decide) (by simp [xs_fit]))))))))))))))
  · exact br_f (by decide) (br_f (by decide) (br_f (by decide) (br_f (by decide) (br_f (by decide) (br_f (by decide) (br_f (by decide) (br_f (by decide) (br_f (by decide) (br_f (by decide) (br_f (by decide) (br_f (by decide) (br_f (by decide) (br_t rfl (one 7 (by decide) (by simp [xs_fit])))))))))))))))
  · exact br_f (by decide) (br_f (by decide) (br_f (by decide) (br_f (by decide) (br_f (by decide) (br_f (by decide) (br_f (by decide) (br_f (by decide) (br_f (by decide) (br_f (by decide) (br_f (by decide) (br_f (by decide) (br_f (by decide) (br_f (by decide) (br_t rfl (one 7 (by decide) (by simp [xs_fit]))))))))))))))))
  · exact br_f (by decide) (br_f (by decide) (br_f (by decide) (br_f (by decide) (br_f (by decide) (br_f (by decide) (br_f (by decide) (br_f (by decide) (br_f (by decide) (br_f (by decide) (br_f (by decide) (br_f (by decide) (br_f (by decide) (br_f (by decide) (br_f (by decide) (br_t rfl (one 7 (by decide) (by simp [xs_fit])))))))))))))))))
  · exact br_f (by decide) (br_f (by decide) (br_f (by decide) (br_f (by decide) (br_f (by decide) (br_f (by decide) (br_f (by decide) (br_f (by decide) (br_f (by decide) (br_f (by decide) (br_f (by decide) (br_f (by decide) (br_f (by decide) (br_f (by decide) (br_f (by decide) (br_f (by decide) (br_t rfl (thr 4 5 6 (by decide) (by decide) (by decide) (by simp [xs_fit]))))))))))))))))))
  · exact br_f (by decide) (br_f (by decide) (br_f (by decide) (br_f (by decide) (br_f (by decide) (br_f (by decide) (br_f (by decide) (br_f (by decide) (br_f (by decide) (br_f (by decide) (br_f (by decide) (br_f (by decide) (br_f (by decide) (br_f (by decide) (br_f (by decide) (br_f (by decide) (br_f (by decide) (br_t rfl (one 5 (by decide) (by simp [xs_fit])))))))))))))))))))
  · exact br_f (by decide) (br_f (by decide) (br_f (by decide) (br_f (by decide) (br_f (by decide) (br_f (by decide) (br_f (by decide) (br_f (by decide) (br_f (by decide) (br_f (by decide) (br_f (by decide) (br_f (by decide) (br_f (by decide) (br_f (by decide) (br_f (by decide) (br_f (by decide) (br_f (by decide) (br_f (by decide) (br_t rfl (two 5 6 (by decide) (by decide) (by simp [xs_fit]))))))))))))))))))))
  · exact br_f (by decide) (br_t (by decide) (one 8 (by decide) (by simp [xs_fit])))
  · exact br_f (by decide) (br_t (by decide) (one 8 (by decide) (by simp [xs_fit])))
  · exact br_f (by decide) (br_t (by decide) (one 8 (by decide) (by simp [xs_fit])))
  · exact br_f (by decide) (br_t (by decide) (one 8 (by decide) (by simp [xs_fit])))
  · exact br_f (by decide) (br_t (by decide) (one 8 (by decide) (by simp [xs_fit])))
  · exact br_f (by decide) (br_t (by decide) (one 8 (by decide) (by simp [xs_fit])))
  · exact br_f (by decide) (br_t (by decide) (one 8 (by decide) (by simp [xs_fit])))
  · exact br_f (by decide) (br_t (by decide) (one 8 (by decide) (by simp [xs_fit])))
  · exact br_f (by decide) (br_t (by decide) (one 8 (by decide) (by simp [xs_fit])))
theorem xc_take {post : St2 → Prop} {k w : Nat} {M : List Nat} (h1 : 1 ≤ k) (h2 : k ≤ 26) (hM : M.length < 511) (has : lo_as a_stack (w :: M))
    (h : ∀ a', lo_as a' (xs_tk k w M) → post (f_depthLimit, f_state, f_trapCode, f_begun, f_tokenTotal, f_printedTotal, nI (xs_tk k w M).length, f_bodyCount, f_declaredTwice, f_liveDepth, f_position, a_tokenKind, a_tokenValue, a_printed, a', a_bodyParent, a_bodyStart, a_declCount, a_paramCount, a_paramName, a_declKind, a_declTarget, a_tokenBody, a_branchTarget, a_liveBody, a_liveParent, a_returnTo, a_slotValue, a_slotHome, a_waitingOp, a_waitingLeft, a_leftKnown, a_argKind, a_argValue, a_argHome)) : wpX_takeToken post (f_depthLimit, f_state, f_trapCode, f_begun, f_tokenTotal, f_printedTotal, nI (M.length + 1), f_bodyCount, f_declaredTwice, f_liveDepth, f_position, a_tokenKind, a_tokenValue, a_printed, a_stack, a_bodyParent, a_bodyStart, a_declCount, a_paramCount, a_paramName, a_declKind, a_declTarget, a_tokenBody, a_branchTarget, a_liveBody, a_liveParent, a_returnTo, a_slotValue, a_slotHome, a_waitingOp, a_waitingLeft, a_leftKnown, a_argKind, a_argValue, a_argHome) (nI k) := by
  have hsub : nI (M.length + 1) - 1 = nI M.length := nI_pred _
  have hin : vp_in (nI M.length) 513 := vp_in_nI (by omega) (by decide)
  have hcl : (nI M.length).toNatClampNeg = M.length := nI_clamp (by omega)
  have same : xs_tk k w M = w :: M → post (f_depthLimit, f_state, f_trapCode, f_begun, f_tokenTotal, f_printedTotal, nI (M.length + 1), f_bodyCount, f_declaredTwice, f_liveDepth, f_position, a_tokenKind, a_tokenValue, a_printed, a_stack, a_bodyParent, a_bodyStart, a_declCount, a_paramCount, a_paramName, a_declKind, a_declTarget, a_tokenBody, a_branchTarget, a_liveBody, a_liveParent, a_returnTo, a_slotValue, a_slotHome, a_waitingOp, a_waitingLeft, a_leftKnown, a_argKind, a_argValue, a_argHome) := by
    intro e; rw [e] at h; exact h a_stack has
  have pop : xs_tk k w M = M → wX_takeToken_123 post f_depthLimit f_state f_trapCode f_begun f_tokenTotal f_printedTotal (nI (M.length + 1)) f_bodyCount f_declaredTwice f_liveDepth f_position a_tokenKind a_tokenValue a_printed a_stack a_bodyParent a_bodyStart a_declCount a_paramCount a_paramName a_declKind a_declTarget a_tokenBody a_branchTarget a_liveBody a_liveParent a_returnTo a_slotValue a_slotHome a_waitingOp a_waitingLeft a_leftKnown a_argKind a_argValue a_argHome := by
    intro e; rw [e] at h
    unfold wX_takeToken_123
    rw [hsub]
    exact nm_e (h a_stack has.2)
  have psh : ∀ x : Nat, xs_tk k w M = x :: w :: M → wpX_push post (f_depthLimit, f_state, f_trapCode, f_begun, f_tokenTotal, f_printedTotal, nI (M.length + 1), f_bodyCount, f_declaredTwice, f_liveDepth, f_position, a_tokenKind, a_tokenValue, a_printed, a_stack, a_bodyParent, a_bodyStart, a_declCount, a_paramCount, a_paramName, a_declKind, a_declTarget, a_tokenBody, a_branchTarget, a_liveBody, a_liveParent, a_returnTo, a_slotValue, a_slotHome, a_waitingOp, a_waitingLeft, a_leftKnown, a_argKind, a_argValue, a_argHome) (nI x) := by
    intro x e; rw [e] at h
    refine xc_push (by omega) ?_
    exact h _ ⟨lo_us, lo_as_u has (by simp)⟩
  have rep : ∀ x : Nat, xs_tk k w M = x :: M → vp_in (nI (M.length + 1) - 1) 513 ∧ ∀ y, y = upd a_stack (nI (M.length + 1) - 1).toNatClampNeg (nI x) → post (f_depthLimit, f_state, f_trapCode, f_begun, f_tokenTotal, f_printedTotal, nI (M.length + 1), f_bodyCount, f_declaredTwice, f_liveDepth, f_position, a_tokenKind, a_tokenValue, a_printed, y, a_bodyParent, a_bodyStart, a_declCount, a_paramCount, a_paramName, a_declKind, a_declTarget, a_tokenBody, a_branchTarget, a_liveBody, a_liveParent, a_returnTo, a_slotValue, a_slotHome, a_waitingOp, a_waitingLeft, a_leftKnown, a_argKind, a_argValue, a_argHome) := by
    intro x e; rw [e] at h
    rw [hsub, hcl]
    exact ⟨hin, nm_e (h _ ⟨lo_us, lo_as_u has.2 (Nat.le_refl _)⟩)⟩
  have p15 : k = 15 → wpX_push (fun u => wpX_push post u 8) (f_depthLimit, f_state, f_trapCode, f_begun, f_tokenTotal, f_printedTotal, nI (M.length + 1), f_bodyCount, f_declaredTwice, f_liveDepth, f_position, a_tokenKind, a_tokenValue, a_printed, a_stack, a_bodyParent, a_bodyStart, a_declCount, a_paramCount, a_paramName, a_declKind, a_declTarget, a_tokenBody, a_branchTarget, a_liveBody, a_liveParent, a_returnTo, a_slotValue, a_slotHome, a_waitingOp, a_waitingLeft, a_leftKnown, a_argKind, a_argValue, a_argHome) 5 := by
    intro e; subst e
    refine xc_push (by omega) (xc_push (by omega) (h _ ⟨lo_us, ?_, ?_⟩))
    · rw [lo_un (by simp)]; exact lo_us
    · exact lo_as_u (lo_as_u has (by simp)) (by simp)
  unfold wpX_takeToken wX_takeToken_170
  rcases xs_26 h1 h2 with e | e | e | e | e | e | e | e | e | e | e | e | e | e | e | e | e | e | e | e | e | e | e | e | e | e <;> subst e
  · exact br_f (by decide) (br_f (by decide) (br_t rfl (rep 3 rfl)))
  · exact br_f (by decide) (br_f (by decide) (br_f (by decide) (br_t rfl (pop rfl))))
  · exact br_f (by decide) (br_f (by decide) (br_f (by decide) (br_f (by decide) (br_t rfl (same rfl)))))
  · exact br_f (by decide) (br_f (by decide) (br_f (by decide) (br_f (by decide) (br_f (by decide) (br_t rfl (psh 2 rfl))))))
  · exact br_f (by decide) (br_f (by decide) (br_f (by decide) (br_f (by decide) (br_f (by decide) (br_f (by decide) (br_t rfl (same rfl)))))))
  · exact br_f (by decide) (br_f (by decide) (br_f (by decide) (br_f (by decide) (br_f (by decide) (br_f (by decide) (br_f (by decide) (br_t rfl (same rfl))))))))
  · exact br_f (by decide) (br_f (by decide) (br_f (by decide) (br_f (by decide) (br_f (by decide) (br_f (by decide) (br_f (by decide) (br_f (by decide) (br_t rfl (psh 8 rfl)))))))))
  · exact br_f (by decide) (br_f (by decide) (br_f (by decide) (br_f (by decide) (br_f (by decide) (br_f (by decide) (br_f (by decide) (br_f (by decide) (br_f (by decide) (br_t rfl (psh 8 rfl))))))))))
  · exact br_f (by decide) (br_f (by decide) (br_f (by decide) (br_f (by decide) (br_f (by decide) (br_f (by decide) (br_f (by decide) (br_f (by decide) (br_f (by decide) (br_f (by decide) (br_t rfl (same rfl)))))))))))
  · exact br_f (by decide) (br_f (by decide) (br_f (by decide) (br_f (by decide) (br_f (by decide) (br_f (by decide) (br_f (by decide) (br_f (by decide) (br_f (by decide) (br_f (by decide) (br_f (by decide) (br_t rfl (same rfl))))))))))))
  · exact br_f (by decide) (br_f (by decide) (br_f (by decide) (br_f (by decide) (br_f (by decide) (br_f (by decide) (br_f (by decide) (br_f (by decide) (br_f (by decide) (br_f (by decide) (br_f (by decide) (br_f (by decide) (br_t rfl (psh 7 rfl)))))))))))))
  · exact br_f (by decide) (br_f (by decide) (br_f (by decide) (br_f (by decide) (br_f (by decide) (br_f (by decide) (br_f (by decide) (br_f (by decide) (br_f (by decide) (br_f (by decide) (br_f (by decide) (br_f (by decide) (br_f (by decide) (br_t rfl (psh 8 rfl))))))))))))))
  · exact br_f (by decide) (br_f (by decide) (br_f (by decide) (br_f (by decide) (br_f (by decide) (br_f (by decide) (br_f (by decide) (br_f (by decide) (br_f (by decide) (br_f (by decide) (br_f (by decide) (br_f (by decide) (br_f (by decide) (br_f (by decide) (br_t rfl (same rfl)))))))))))))))
  · exact br_f (by decide) (br_f (by decide) (br_f (by decide) (br_f (by decide) (br_f (by decide) (br_f (by decide) (br_f (by decide) (br_f (by decide) (br_f (by decide) (br_f (by decide) (br_f (by decide) (br_f (by decide) (br_f (by decide) (br_f (by decide) (br_f (by decide) (br_t rfl (pop rfl))))))))))))))))
  · exact br_f (by decide) (br_f (by decide) (br_f (by decide) (br_f (by decide) (br_f (by decide) (br_f (by decide) (br_f (by decide) (br_f (by decide) (br_f (by decide) (br_f (by decide) (br_f (by decide) (br_f (by decide) (br_f (by decide) (br_f (by decide) (br_f (by decide) (br_f (by decide) (br_t rfl (p15 rfl)))))))))))))))))
  · exact br_f (by decide) (br_f (by decide) (br_f (by decide) (br_f (by decide) (br_f (by decide) (br_f (by decide) (br_f (by decide) (br_f (by decide) (br_f (by decide) (br_f (by decide) (br_f (by decide) (br_f (by decide) (br_f (by decide) (br_f (by decide) (br_f (by decide) (br_f (by decide) (br_f (by decide) (br_t rfl (rep 6 rfl))))))))))))))))))
  · exact br_f (by decide) (br_f (by decide) (br_f (by decide) (br_f (by decide) (br_f (by decide) (br_f (by decide) (br_f (by decide) (br_f (by decide) (br_f (by decide) (br_f (by decide) (br_f (by decide) (br_f (by decide) (br_f (by decide) (br_f (by decide) (br_f (by decide) (br_f (by decide) (br_f (by decide) (br_f (by decide) (br_t rfl (pop rfl)))))))))))))))))))
  · exact br_f (by decide) (br_f (by decide) (br_f (by decide) (br_f (by decide) (br_f (by decide) (br_f (by decide) (br_f (by decide) (br_f (by decide) (br_f (by decide) (br_f (by decide) (br_f (by decide) (br_f (by decide) (br_f (by decide) (br_f (by decide) (br_f (by decide) (br_f (by decide) (br_f (by decide) (br_f (by decide) (br_f (by decide) (br_t rfl (pop rfl))))))))))))))))))))
  · exact br_f (by decide) (br_f (by decide) (br_f (by decide) (br_f (by decide) (br_f (by decide) (br_f (by decide) (br_f (by decide) (br_f (by decide) (br_f (by decide) (br_f (by decide) (br_f (by decide) (br_f (by decide) (br_f (by decide) (br_f (by decide) (br_f (by decide) (br_f (by decide) (br_f (by decide) (br_f (by decide) (br_f (by decide) (br_f (by decide) (br_t rfl (pop rfl)))))))))))))))))))))
  · exact br_f (by decide) (br_t (by decide) (psh 8 rfl))
  · exact br_f (by decide) (br_t (by decide) (psh 8 rfl))
  · exact br_f (by decide) (br_t (by decide) (psh 8 rfl))
  · exact br_f (by decide) (br_t (by decide) (psh 8 rfl))
  · exact br_f (by decide) (br_t (by decide) (psh 8 rfl))
  · exact br_f (by decide) (br_t (by decide) (psh 8 rfl))
  · exact br_f (by decide) (br_t (by decide) (psh 8 rfl))
theorem xc_70 {post : Int32 → St2 → Prop} {J : Int32 → Int32 → Int32 → Int32 → Int32 → Int32 → Int32 → Int32 → Int32 → Int32 → Int32 → Int32 → (Nat → Int32) → (Nat → Int32) → (Nat → Int32) → (Nat → Int32) → (Nat → Int32) → (Nat → Int32) → (Nat → Int32) → (Nat → Int32) → (Nat → Int32) → (Nat → Int32) → (Nat → Int32) → (Nat → Int32) → (Nat → Int32) → (Nat → Int32) → (Nat → Int32) → (Nat → Int32) → (Nat → Int32) → (Nat → Int32) → (Nat → Int32) → (Nat → Int32) → (Nat → Int32) → (Nat → Int32) → (Nat → Int32) → (Nat → Int32) → Prop}
    {k w i : Nat} {M : List Nat} (h1 : 1 ≤ k) (h2 : k ≤ 26) (hw : w ≤ 8) (hM : M.length < 511) (has : lo_as a_stack (w :: M))
    (hf : ¬ xs_fit k w → post 0 (f_depthLimit, f_state, f_trapCode, f_begun, f_tokenTotal, f_printedTotal, nI (M.length + 1), f_bodyCount, f_declaredTwice, f_liveDepth, f_position, a_tokenKind, a_tokenValue, a_printed, a_stack, a_bodyParent, a_bodyStart, a_declCount, a_paramCount, a_paramName, a_declKind, a_declTarget, a_tokenBody, a_branchTarget, a_liveBody, a_liveParent, a_returnTo, a_slotValue, a_slotHome, a_waitingOp, a_waitingLeft, a_leftKnown, a_argKind, a_argValue, a_argHome))
    (ht : xs_fit k w → ∀ a', lo_as a' (xs_tk k w M) → J (nI (i + 1)) f_depthLimit f_state f_trapCode f_begun f_tokenTotal f_printedTotal (nI (xs_tk k w M).length) f_bodyCount f_declaredTwice f_liveDepth f_position a_tokenKind a_tokenValue a_printed a' a_bodyParent a_bodyStart a_declCount a_paramCount a_paramName a_declKind a_declTarget a_tokenBody a_branchTarget a_liveBody a_liveParent a_returnTo a_slotValue a_slotHome a_waitingOp a_waitingLeft a_leftKnown a_argKind a_argValue a_argHome) :
    wX_isProgram_70 post J (nI i) (nI k) (nI M.length) f_depthLimit f_state f_trapCode f_begun f_tokenTotal f_printedTotal (nI (M.length + 1)) f_bodyCount f_declaredTwice f_liveDepth f_position a_tokenKind a_tokenValue a_printed a_stack a_bodyParent a_bodyStart a_declCount a_paramCount a_paramName a_declKind a_declTarget a_tokenBody a_branchTarget a_liveBody a_liveParent a_returnTo a_slotValue a_slotHome a_waitingOp a_waitingLeft a_leftKnown a_argKind a_argValue a_argHome := by
  unfold wX_isProgram_70
  refine ⟨vp_in_nI (by omega) (by decide), ?_⟩
  rw [nI_clamp (by omega), has.1]
  refine xc_fits h1 h2 hw (fun hfit => br_f (by decide) (xc_take h1 h2 hM has ?_)) (fun hfit => br_t rfl (hf hfit))
  intro a' ha'
  exact nm_r (nI_1 i) (ht hfit a' ha')
theorem xc_none {K : Nat → Nat} {n i : Nat} (h : gr_cf K (i + 1) = none) (hi : i < n) : gr_cf K n ≠ some ([], 0) := by
  intro hn
  obtain ⟨L, e, h2⟩ := gr_exle hn (show i + 1 ≤ n by omega)
  rw [h] at h2; cases h2
/-- the component's grammar check -/
theorem xc_12 {post : Int32 → St2 → Prop} {K : Nat → Nat} {n : Nat} (hn : n ≤ 256) (hk : ∀ i, i < n → a_tokenKind i = nI (K i) ∧ 1 ≤ K i ∧ K i ≤ 26)
    (ht : gr_cf K n = some ([], 0) → ∀ s a, post 1 (f_depthLimit, f_state, f_trapCode, f_begun, nI n, f_printedTotal, s, f_bodyCount, f_declaredTwice, f_liveDepth, f_position, a_tokenKind, a_tokenValue, a_printed, a, a_bodyParent, a_bodyStart, a_declCount, a_paramCount, a_paramName, a_declKind, a_declTarget, a_tokenBody, a_branchTarget, a_liveBody, a_liveParent, a_returnTo, a_slotValue, a_slotHome, a_waitingOp, a_waitingLeft, a_leftKnown, a_argKind, a_argValue, a_argHome)) (hf : gr_cf K n ≠ some ([], 0) → ∀ s a, post 0 (f_depthLimit, f_state, f_trapCode, f_begun, nI n, f_printedTotal, s, f_bodyCount, f_declaredTwice, f_liveDepth, f_position, a_tokenKind, a_tokenValue, a_printed, a, a_bodyParent, a_bodyStart, a_declCount, a_paramCount, a_paramName, a_declKind, a_declTarget, a_tokenBody, a_branchTarget, a_liveBody, a_liveParent, a_returnTo, a_slotValue, a_slotHome, a_waitingOp, a_waitingLeft, a_leftKnown, a_argKind, a_argValue, a_argHome)) :
    ∀ (d i f : Nat) (L : List (Nat × Nat)) (e : Nat) (a : Nat → Int32), i + d = n → d < f → gr_cf K i = some (L, e) → lo_as a (xs_ws L e) →
      wX_isProgram_12 post f (nI i) f_depthLimit f_state f_trapCode f_begun (nI n) f_printedTotal (nI (L.length + e)) f_bodyCount f_declaredTwice f_liveDepth f_position a_tokenKind a_tokenValue a_printed a a_bodyParent a_bodyStart a_declCount a_paramCount a_paramName a_declKind a_declTarget a_tokenBody a_branchTarget a_liveBody a_liveParent a_returnTo a_slotValue a_slotHome a_waitingOp a_waitingLeft a_leftKnown a_argKind a_argValue a_argHome := by
  intro d
  induction d with
  | zero =>
    intro i f L e a hi hfu hc has
    have : i = n := by omega
    subst this
    cases f with
    | zero => omega
    | succ f =>
      have hsz : L.length + e ≤ 2 * i + 1 := by
        by_cases h0 : i = 0
        · subst h0
          simp only [gr_cf, Option.some.injEq, Prod.mk.injEq] at hc
          rw [← hc.1, ← hc.2]; simp
        · have := (gr_size i L e (by omega) hc).2; omega
      refine br_t (nI_le (Nat.le_refl _) (by omega)) (br_c (fun h0 => ?_) (fun h0 => ?_))
      · refine ht ?_ _ _
        rw [li_e (by omega) (by decide)] at h0
        have h00 : L.length = 0 ∧ e = 0 := by
          have : L.length + e = 0 := h0
          omega
        rw [hc, h00.2, List.length_eq_zero_iff.mp h00.1]
      · refine hf ?_ _ _
        intro h2
        rw [hc] at h2
        cases h2
        exact h0 rfl
  | succ d ih =>
    intro i f L e a hi hfu hc has
    cases f with
    | zero => omega
    | succ f =>
      obtain ⟨k1, k2, k3⟩ := hk i (by omega)
      have hsz : L.length + e ≤ 2 * i + 1 := by
        by_cases h0 : i = 0
        · subst h0
          simp only [gr_cf, Option.some.injEq, Prod.mk.injEq] at hc
          rw [← hc.1, ← hc.2]; simp
        · have := (gr_size i L e (by omega) hc).2; omega
      refine br_f (nI_ge (by omega) (by omega)) ?_
      rcases xs_step hc k2 k3 with ⟨hw, hno⟩ | ⟨w, M, hw, hw8, hst⟩
      · have hl := @xs_len L e
        rw [hw] at hl
        refine br_t (li_0 _ ?_) (hf (xc_none hno (by omega)) _ _)
        simp at hl; omega
      · have hl := @xs_len L e
        rw [hw] at hl
        simp only [List.length_cons] at hl
        rw [← hl]
        rw [hw] at has
        have hMl : M.length < 511 := by omega
        refine br_f (nI_ne0 (by omega) (by omega)) ⟨vp_in_nI (by omega) (by decide), nm_r (show _ = nI (K i) by rw [nI_clamp (by omega)]; exact k1) (nm_r (nI_pred M.length) ⟨vp_in_nI (by omega) (by decide), ?_⟩)⟩
        rw [nI_clamp (by omega), has.1]
        have go : ∀ a2, lo_as a2 (xs_n (K i) w :: M) → wX_isProgram_70 post (wX_isProgram_12 post f) (nI i) (nI (K i)) (nI M.length) f_depthLimit f_state f_trapCode f_begun (nI n) f_printedTotal (nI (M.length + 1)) f_bodyCount f_declaredTwice f_liveDepth f_position a_tokenKind a_tokenValue a_printed a2 a_bodyParent a_bodyStart a_declCount a_paramCount a_paramName a_declKind a_declTarget a_tokenBody a_branchTarget a_liveBody a_liveParent a_returnTo a_slotValue a_slotHome a_waitingOp a_waitingLeft a_leftKnown a_argKind a_argValue a_argHome := by
          intro a2 ha2
          have hxn : xs_n (K i) w ≤ 8 := by unfold xs_n; split <;> omega
          refine xc_70 k2 k3 hxn hMl ha2 (fun hfit => ?_) (fun hfit a' ha' => ?_)
          · rcases hst with ⟨h3, _⟩ | ⟨_, h3⟩
            · exact absurd h3 hfit
            · exact hf (xc_none h3 (by omega)) _ _
          · rcases hst with ⟨_, L', e', h4, h5⟩ | ⟨h3, _⟩
            · rw [← h5] at ha' ⊢
              rw [xs_len]
              exact ih (i + 1) f L' e' a' (by omega) (by omega) h4 ha'
            · exact absurd hfit h3
        by_cases c3 : w = 3
        · subst c3
          refine br_t rfl ?_
          by_cases q3 : K i = 3
          · refine br_t (by rw [q3]; rfl) (go a ?_)
            simp only [xs_n, q3]; exact has
          · refine br_f (fun h => q3 ((li_e (by omega) (by decide)).mp h)) ?_
            by_cases q4 : K i = 4
            · refine br_t (by rw [q4]; rfl) (go a ?_)
              simp only [xs_n, q4]; exact has
            · refine br_f (fun h => q4 ((li_e (by omega) (by decide)).mp h)) ⟨vp_in_nI (by omega) (by decide), nm_e (go _ ?_)⟩
              have hx4 : xs_n (K i) 3 = 4 := by simp [xs_n, q3, q4]
              rw [hx4]
              exact ⟨lo_us, lo_as_u has.2 (Nat.le_refl _)⟩
        · refine br_f (fun h => c3 ((li_e (by omega) (by decide)).mp h)) (go a ?_)
          have hx : xs_n (K i) w = w := by simp [xs_n, c3]
          rw [hx]; exact has
theorem xc_prog {post : Int32 → St2 → Prop} {K : Nat → Nat} {n : Nat} (hn : n ≤ 256) (hk : ∀ i, i < n → a_tokenKind i = nI (K i) ∧ 1 ≤ K i ∧ K i ≤ 26)
    (ht : gr_cf K n = some ([], 0) → ∀ s a, post 1 (f_depthLimit, f_state, f_trapCode, f_begun, nI n, f_printedTotal, s, f_bodyCount, f_declaredTwice, f_liveDepth, f_position, a_tokenKind, a_tokenValue, a_printed, a, a_bodyParent, a_bodyStart, a_declCount, a_paramCount, a_paramName, a_declKind, a_declTarget, a_tokenBody, a_branchTarget, a_liveBody, a_liveParent, a_returnTo, a_slotValue, a_slotHome, a_waitingOp, a_waitingLeft, a_leftKnown, a_argKind, a_argValue, a_argHome)) (hf : gr_cf K n ≠ some ([], 0) → ∀ s a, post 0 (f_depthLimit, f_state, f_trapCode, f_begun, nI n, f_printedTotal, s, f_bodyCount, f_declaredTwice, f_liveDepth, f_position, a_tokenKind, a_tokenValue, a_printed, a, a_bodyParent, a_bodyStart, a_declCount, a_paramCount, a_paramName, a_declKind, a_declTarget, a_tokenBody, a_branchTarget, a_liveBody, a_liveParent, a_returnTo, a_slotValue, a_slotHome, a_waitingOp, a_waitingLeft, a_leftKnown, a_argKind, a_argValue, a_argHome)) :
    wpX_isProgram post (f_depthLimit, f_state, f_trapCode, f_begun, nI n, f_printedTotal, f_stackSize, f_bodyCount, f_declaredTwice, f_liveDepth, f_position, a_tokenKind, a_tokenValue, a_printed, a_stack, a_bodyParent, a_bodyStart, a_declCount, a_paramCount, a_paramName, a_declKind, a_declTarget, a_tokenBody, a_branchTarget, a_liveBody, a_liveParent, a_returnTo, a_slotValue, a_slotHome, a_waitingOp, a_waitingLeft, a_leftKnown, a_argKind, a_argValue, a_argHome) := by
  unfold wpX_isProgram
  refine xc_push (s := 0) (by decide) ⟨n + 1, ?_⟩
  exact xc_12 hn hk ht hf n 0 (n + 1) [(0, 0)] 0 _ (by omega) (by omega) rfl ⟨lo_us, trivial⟩
