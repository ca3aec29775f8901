variable {f_depthLimit f_state f_trapCode f_begun f_tokenTotal f_printedTotal f_stackSize f_bodyCount f_declaredTwice f_liveDepth f_position : Int32} {a_tokenKind a_tokenValue a_printed a_stack a_bodyParent a_bodyStart a_declCount a_paramCount a_paramName a_declKind a_declTarget a_tokenBody a_branchTarget a_liveBody a_liveParent a_returnTo a_slotValue a_slotHome a_waitingOp a_waitingLeft a_leftKnown a_argKind a_argValue a_argHome : Nat → Int32}
theorem xk_83 {post : St2 → Prop} {J : Int32 → Int32 → Int32 → Int32 → Int32 → Int32 → Int32 → Int32 → Int32 → Int32 → Int32 → Int32 → (Nat → Int32) → (Nat → Int32) → (Nat → Int32) → (Nat → Int32) → (Nat → Int32) → (Nat → Int32) → (Nat → Int32) → (Nat → Int32) → (Nat → Int32) → (Nat → Int32) → (Nat → Int32) → (Nat → Int32) → (Nat → Int32) → (Nat → Int32) → (Nat → Int32) → (Nat → Int32) → (Nat → Int32) → (Nat → Int32) → (Nat → Int32) → (Nat → Int32) → (Nat → Int32) → (Nat → Int32) → (Nat → Int32) → (Nat → Int32) → Prop} {i s k p : Nat} (hs : s ≤ 256) (hi : i < 256) (hk : k ≤ 26) (h0 : s = 0 ∨ k ≠ 17 → J (nI (i + 1)) f_depthLimit f_state f_trapCode f_begun f_tokenTotal f_printedTotal (nI s) f_bodyCount f_declaredTwice f_liveDepth f_position a_tokenKind a_tokenValue a_printed a_stack a_bodyParent a_bodyStart a_declCount a_paramCount a_paramName a_declKind a_declTarget a_tokenBody a_branchTarget a_liveBody a_liveParent a_returnTo a_slotValue a_slotHome a_waitingOp a_waitingLeft a_leftKnown a_argKind a_argValue a_argHome)
    (h1 : s ≠ 0 → k = 17 → a_stack (s - 1) = nI p ∧ p < 256 ∧ J (nI (i + 1)) f_depthLimit f_state f_trapCode f_begun f_tokenTotal f_printedTotal (nI (s - 1)) f_bodyCount f_declaredTwice f_liveDepth f_position a_tokenKind a_tokenValue a_printed a_stack a_bodyParent a_bodyStart a_declCount a_paramCount a_paramName a_declKind a_declTarget a_tokenBody (upd a_branchTarget p (nI (i + 1))) a_liveBody a_liveParent a_returnTo a_slotValue a_slotHome a_waitingOp a_waitingLeft a_leftKnown a_argKind a_argValue a_argHome) : wX_linkBranches_83 post J (nI i) (nI k) f_depthLimit f_state f_trapCode f_begun f_tokenTotal f_printedTotal (nI s) f_bodyCount f_declaredTwice f_liveDepth f_position a_tokenKind a_tokenValue a_printed a_stack a_bodyParent a_bodyStart a_declCount a_paramCount a_paramName a_declKind a_declTarget a_tokenBody a_branchTarget a_liveBody a_liveParent a_returnTo a_slotValue a_slotHome a_waitingOp a_waitingLeft a_leftKnown a_argKind a_argValue a_argHome := by
  unfold wX_linkBranches_83
  by_cases e : s = 0
  · subst e
    exact br_t (by decide) (nm_r (nI_1 i) (h0 (.inl rfl)))
  · refine br_f (nI_nle (by omega) (by omega)) ?_
    by_cases q : k = 17
    · obtain ⟨a1, a2, a3⟩ := h1 e q
      subst q
      refine br_t rfl ?_
      rw [li_m1 (by omega), nI_clamp (n := s - 1) (by omega), a1, nI_clamp (n := p) (by omega), nI_1]
      exact ⟨vp_in_nI (by omega) (by decide), vp_in_nI a2 (by decide), nm_e (nm_e (nm_e a3))⟩
    · exact br_f (fun h => q ((nI_eq (b := 17) (by omega) (by decide)).mp h)) (nm_r (nI_1 i) (h0 (.inr q)))
/-- the component links the branches -/
theorem xk_link {post : St2 → Prop} {K : Nat → Nat} {n : Nat} (hn : gr_cf K n = some ([], 0)) (h256 : n ≤ 256) (htk : ∀ i, i < n → a_tokenKind i = nI (K i) ∧ 1 ≤ K i ∧ K i ≤ 26)
    (h : ∀ (s : Int32) (st bt : Nat → Int32), lo_B K n bt → post (f_depthLimit, f_state, f_trapCode, f_begun, nI n, f_printedTotal, s, f_bodyCount, f_declaredTwice, f_liveDepth, f_position, a_tokenKind, a_tokenValue, a_printed, st, a_bodyParent, a_bodyStart, a_declCount, a_paramCount, a_paramName, a_declKind, a_declTarget, a_tokenBody, bt, a_liveBody, a_liveParent, a_returnTo, a_slotValue, a_slotHome, a_waitingOp, a_waitingLeft, a_leftKnown, a_argKind, a_argValue, a_argHome)) :
    ∀ (d i f : Nat) (L : List (Nat × Nat)) (e : Nat) (st bt : Nat → Int32), i + d = n → d < f → 1 ≤ i → gr_cf K i = some (L, e) → lo_as st (lo_br L) → lo_B K i bt →
      wX_linkBranches_7 post f (nI i) f_depthLimit f_state f_trapCode f_begun (nI n) f_printedTotal (nI (lo_br L).length) f_bodyCount f_declaredTwice f_liveDepth f_position a_tokenKind a_tokenValue a_printed st a_bodyParent a_bodyStart a_declCount a_paramCount a_paramName a_declKind a_declTarget a_tokenBody bt a_liveBody a_liveParent a_returnTo a_slotValue a_slotHome a_waitingOp a_waitingLeft a_leftKnown a_argKind a_argValue a_argHome := by
  intro d
  induction d with
  | zero =>
    intro i f L e st bt hi hf h1 hc has hB
    have : i = n := by omega
    subst this
    cases f with
    | zero => omega
    | succ f => exact br_t (nI_le (Nat.le_refl _) (by omega)) (h _ _ _ hB)
  | succ d ih =>
    intro i f L e st bt hi hf h1 hc has hB
    cases f with
    | zero => omega
    | succ f =>
      have hin : i < n := by omega
      obtain ⟨k1, k2, k3⟩ := htk i hin
      obtain ⟨L', e', hc'⟩ := gr_exle hn (show i + 1 ≤ n by omega)
      have hlen := (gr_size i _ _ h1 hc).1
      have hbl := @lo_br_le L
      have hso := gr_sorted i _ _ h1 hc
      refine br_f (nI_ge (by omega) (by omega)) ⟨vp_in_nI (by omega) (by decide), nm_r (show _ = nI (K i) by rw [nI_clamp (by omega)]; exact k1) ?_⟩
      rcases lo_brmv hn h1 hin hc hc' with ⟨q1, q2⟩ | ⟨q1, p, L2, q2, q3, q4, q5⟩ | ⟨q1, t, p, L2, q2, q3, q4, q5, q6⟩ | ⟨q1, q2, q3, q4⟩
      · refine br_t (by rw [q1]; rfl) (xc_push (by omega) (nm_r (nI_1 i) ?_))
        have := ih (i + 1) f L' e' (upd st (lo_br L).length (nI i)) bt (by omega) (by omega) (by omega) hc' (by rw [q2]; exact ⟨lo_us, lo_as_u has (Nat.le_refl _)⟩) (lo_B_n hB (by omega))
        rw [q2] at this
        exact this
      · subst q2; subst q3
        rw [q4] at has ⊢
        simp only [List.length_cons]
        have hp : p < 256 := by have : p < i := hso.1; omega
        have hl2 := hbl
        rw [q4] at hl2
        simp only [List.length_cons] at hl2 hlen
        refine br_f (by rw [q1]; decide) (br_f (nI_nle (by omega) (by omega)) (br_t (by rw [q1]; rfl) ?_))
        rw [nI_pred, nI_clamp (n := (lo_br L2).length) (by omega), has.1, nI_clamp (n := p) (by omega), nI_1]
        refine ⟨vp_in_nI (by omega) (by decide), vp_in_nI hp (by decide), nm_e ⟨vp_in_nI (by omega) (by decide), nm_e (nm_e ?_)⟩⟩
        have := ih (i + 1) f L' e' (upd st (lo_br L2).length (nI i)) (upd bt p (nI (i + 1))) (by omega) (by omega) (by omega) hc' (by rw [q5]; exact ⟨lo_us, lo_as_u has.2 (Nat.le_refl _)⟩) (lo_B_w hn hB hin hc)
        rw [q5] at this
        exact this
      · subst q3; subst q4
        rw [q5] at has ⊢
        simp only [List.length_cons]
        have hp : p < 256 := by have : p < i := hso.1; omega
        have hl2 := hbl
        rw [q5] at hl2
        simp only [List.length_cons] at hl2 hlen
        refine br_f (by rw [q1]; decide) (br_f (nI_nle (by omega) (by omega)) (br_f (by rw [q1]; decide) ?_))
        refine xk_83 (p := p) (by omega) (by omega) k3 (fun h => by omega) (fun _ _ => ⟨has.1, hp, ?_⟩)
        have := ih (i + 1) f L' e' st (upd bt p (nI (i + 1))) (by omega) (by omega) (by omega) hc' (by rw [q6]; exact has.2) (lo_B_w hn hB hin hc)
        rw [q6] at this
        exact this
      · have go := ih (i + 1) f L' e' st bt (by omega) (by omega) (by omega) hc' (by rw [q4]; exact has) (lo_B_n hB (by omega))
        rw [q4] at go
        have g83 : wX_linkBranches_83 post (wX_linkBranches_7 post f) (nI i) (nI (K i)) f_depthLimit f_state f_trapCode f_begun (nI n) f_printedTotal (nI (lo_br L).length) f_bodyCount f_declaredTwice f_liveDepth f_position a_tokenKind a_tokenValue a_printed st a_bodyParent a_bodyStart a_declCount a_paramCount a_paramName a_declKind a_declTarget a_tokenBody bt a_liveBody a_liveParent a_returnTo a_slotValue a_slotHome a_waitingOp a_waitingLeft a_leftKnown a_argKind a_argValue a_argHome :=
          xk_83 (p := 0) (by omega) (by omega) k3 (fun _ => go) (fun _ h => by omega)
        refine br_f (fun h => q1 ((nI_eq (b := 15) (by omega) (by decide)).mp h)) (br_c (fun _ => g83) (fun _ => br_f (fun h => q2 ((nI_eq (b := 16) (by omega) (by decide)).mp h)) g83))
theorem xk_linkB {post : St2 → Prop} {K : Nat → Nat} {n : Nat} (hn : gr_cf K n = some ([], 0)) (h256 : n ≤ 256) (htk : ∀ i, i < n → a_tokenKind i = nI (K i) ∧ 1 ≤ K i ∧ K i ≤ 26)
    (h : ∀ (s : Int32) (st bt : Nat → Int32), lo_B K n bt → post (f_depthLimit, f_state, f_trapCode, f_begun, nI n, f_printedTotal, s, f_bodyCount, f_declaredTwice, f_liveDepth, f_position, a_tokenKind, a_tokenValue, a_printed, st, a_bodyParent, a_bodyStart, a_declCount, a_paramCount, a_paramName, a_declKind, a_declTarget, a_tokenBody, bt, a_liveBody, a_liveParent, a_returnTo, a_slotValue, a_slotHome, a_waitingOp, a_waitingLeft, a_leftKnown, a_argKind, a_argValue, a_argHome)) : wpX_linkBranches post (f_depthLimit, f_state, f_trapCode, f_begun, nI n, f_printedTotal, f_stackSize, f_bodyCount, f_declaredTwice, f_liveDepth, f_position, a_tokenKind, a_tokenValue, a_printed, a_stack, a_bodyParent, a_bodyStart, a_declCount, a_paramCount, a_paramName, a_declKind, a_declTarget, a_tokenBody, a_branchTarget, a_liveBody, a_liveParent, a_returnTo, a_slotValue, a_slotHome, a_waitingOp, a_waitingLeft, a_leftKnown, a_argKind, a_argValue, a_argHome) := by
  unfold wpX_linkBranches
  have h01 := gr_k01 hn
  obtain ⟨k1, k2, k3⟩ := htk 0 (by omega)
  have hc1 : gr_cf K 1 = some ([(1, 0)], 0) := by
    obtain ⟨L, e, hc⟩ := gr_exle hn (show 1 ≤ n by omega)
    rw [hc, (gr_one hc).2]
  refine ⟨n + 1, br_f (nI_ge (a := 0) (by omega) (by omega)) ⟨vp_in_nI (n := 0) (by omega) (by decide), nm_r (show _ = nI 1 by rw [← h01.2]; exact k1) (br_f (by decide) (br_t (by decide) ?_))⟩⟩
  refine xk_83 (i := 0) (k := 1) (s := 0) (p := 0) (by omega) (by omega) (by omega) (fun _ => ?_) (fun h => absurd rfl h)
  exact xk_link hn h256 htk h (n - 1) 1 n [(1, 0)] 0 _ _ (by omega) (by omega) (by omega) hc1 trivial (fun q t p L a1 a2 => by omega)
theorem xk_open22 {post : St2 → Prop} {a k : Nat} (ha : a < 17) (hk : k < 16) (sv0 sh0 : Nat → Int32)
    (h : ∀ sv sh, (∀ x, x < 16 → sv (a * 16 + x) = a_declTarget (k * 16 + x) ∧ sh (a * 16 + x) = nI a) → (∀ j, (j < a * 16 ∨ a * 16 + 16 ≤ j) → sv j = sv0 j ∧ sh j = sh0 j) → post (f_depthLimit, f_state, f_trapCode, f_begun, f_tokenTotal, f_printedTotal, f_stackSize, f_bodyCount, f_declaredTwice, nI a, a_bodyStart k, a_tokenKind, a_tokenValue, a_printed, a_stack, a_bodyParent, a_bodyStart, a_declCount, a_paramCount, a_paramName, a_declKind, a_declTarget, a_tokenBody, a_branchTarget, a_liveBody, a_liveParent, a_returnTo, sv, sh, a_waitingOp, a_waitingLeft, a_leftKnown, a_argKind, a_argValue, a_argHome)) :
    ∀ (d i f : Nat) (sv sh : Nat → Int32), i + d = 16 → d < f → (∀ x, x < i → sv (a * 16 + x) = a_declTarget (k * 16 + x) ∧ sh (a * 16 + x) = nI a) → (∀ j, (j < a * 16 ∨ a * 16 + 16 ≤ j) → sv j = sv0 j ∧ sh j = sh0 j) →
      wX_openActivation_22 post (nI k) f_depthLimit f_state f_trapCode f_begun f_tokenTotal f_printedTotal f_stackSize f_bodyCount f_declaredTwice (nI a) f_position f (nI i) a_tokenKind a_tokenValue a_printed a_stack a_bodyParent a_bodyStart a_declCount a_paramCount a_paramName a_declKind a_declTarget a_tokenBody a_branchTarget a_liveBody a_liveParent a_returnTo sv sh a_waitingOp a_waitingLeft a_leftKnown a_argKind a_argValue a_argHome := by
  intro d
  induction d with
  | zero =>
    intro i f sv sh hi hf h1 h2
    have : i = 16 := by omega
    subst this
    cases f with
    | zero => omega
    | succ f =>
      refine br_t (by decide) ⟨vp_in_nI hk (by decide), ?_⟩
      rw [nI_clamp (by omega)]
      exact nm_e (h sv sh h1 h2)
  | succ d ih =>
    intro i f sv sh hi hf h1 h2
    cases f with
    | zero => omega
    | succ f =>
      refine br_f (nI_ge (b := 16) (by omega) (by decide)) (nm_r (show _ = nI (a * 16 + i) by rw [li_m16, nI_add]) ?_)
      rw [li_m16, nI_add, nI_clamp (n := k * 16 + i) (by omega), nI_clamp (n := a * 16 + i) (by omega)]
      refine ⟨vp_in_nI (by omega) (by decide), vp_in_nI (by omega) (by decide), nm_e ⟨vp_in_nI (by omega) (by decide), nm_e (nm_r (nI_1 i) (ih (i + 1) f _ _ (by omega) (by omega) ?_ ?_))⟩⟩
      · intro x hx
        by_cases e : x = i
        · subst e; exact ⟨lo_us, lo_us⟩
        · rw [lo_un (by omega), lo_un (by omega)]; exact h1 x (by omega)
      · intro j hj
        rw [lo_un (by omega), lo_un (by omega)]; exact h2 j hj
theorem xk_open {post : St2 → Prop} {a k : Nat} {p : Int32} (ha : a < 17) (hk : k < 16)
    (h : ∀ sv sh, (∀ x, x < 16 → sv (a * 16 + x) = a_declTarget (k * 16 + x) ∧ sh (a * 16 + x) = nI a) → (∀ j, (j < a * 16 ∨ a * 16 + 16 ≤ j) → sv j = a_slotValue j ∧ sh j = a_slotHome j) → post (f_depthLimit, f_state, f_trapCode, f_begun, f_tokenTotal, f_printedTotal, f_stackSize, f_bodyCount, f_declaredTwice, nI a, a_bodyStart k, a_tokenKind, a_tokenValue, a_printed, a_stack, a_bodyParent, a_bodyStart, a_declCount, a_paramCount, a_paramName, a_declKind, a_declTarget, a_tokenBody, a_branchTarget, upd a_liveBody a (nI k), upd a_liveParent a p, a_returnTo, sv, sh, a_waitingOp, a_waitingLeft, a_leftKnown, a_argKind, a_argValue, a_argHome)) :
    wpX_openActivation post (f_depthLimit, f_state, f_trapCode, f_begun, f_tokenTotal, f_printedTotal, f_stackSize, f_bodyCount, f_declaredTwice, nI a, f_position, a_tokenKind, a_tokenValue, a_printed, a_stack, a_bodyParent, a_bodyStart, a_declCount, a_paramCount, a_paramName, a_declKind, a_declTarget, a_tokenBody, a_branchTarget, a_liveBody, a_liveParent, a_returnTo, a_slotValue, a_slotHome, a_waitingOp, a_waitingLeft, a_leftKnown, a_argKind, a_argValue, a_argHome) (nI k) p := by
  unfold wpX_openActivation
  dsimp only
  rw [nI_clamp (by omega)]
  refine ⟨vp_in_nI ha (by decide), nm_e ⟨vp_in_nI ha (by decide), nm_e ⟨17, ?_⟩⟩⟩
  exact xk_open22 ha hk a_slotValue a_slotHome h 16 0 17 _ _ (by omega) (by omega) (fun x hx => by omega) (fun j _ => ⟨rfl, rfl⟩)
/-- the component's tables, once it has compiled -/
def sx_S (K V : Nat → Nat) (n : Nat) (bp bs pc pm dk dt bt : Nat → Int32) : Prop := sx_P K n bp ∧ sx_B K n bs ∧ sx_Q K V n pc pm ∧ sx_D K V n dk dt ∧ lo_B K n bt
theorem xk_compile {post : Int32 → St2 → Prop} {K V : Nat → Nat} {n : Nat} (h256 : n ≤ 256) (htk : ∀ i, i < n → a_tokenKind i = nI (K i) ∧ 1 ≤ K i ∧ K i ≤ 26) (htv : ∀ i, i < n → xn_nm (K i) → a_tokenValue i = nI (V i) ∧ V i < 16)
    (h1 : gr_cf K n ≠ some ([], 0) → ∀ (ss : Int32) (st : Nat → Int32), post 1 (f_depthLimit, 0, f_trapCode, f_begun, nI n, f_printedTotal, ss, f_bodyCount, f_declaredTwice, f_liveDepth, f_position, a_tokenKind, a_tokenValue, a_printed, st, a_bodyParent, a_bodyStart, a_declCount, a_paramCount, a_paramName, a_declKind, a_declTarget, a_tokenBody, a_branchTarget, a_liveBody, a_liveParent, a_returnTo, a_slotValue, a_slotHome, a_waitingOp, a_waitingLeft, a_leftKnown, a_argKind, a_argValue, a_argHome))
    (h2 : gr_cf K n = some ([], 0) → ¬ gr_LM K n → ∀ (ss bc tw : Int32) (st bp bs dc pc pm dk dt tb : Nat → Int32), post 2 (f_depthLimit, 0, f_trapCode, f_begun, nI n, f_printedTotal, ss, bc, tw, f_liveDepth, f_position, a_tokenKind, a_tokenValue, a_printed, st, bp, bs, dc, pc, pm, dk, dt, tb, a_branchTarget, a_liveBody, a_liveParent, a_returnTo, a_slotValue, a_slotHome, a_waitingOp, a_waitingLeft, a_leftKnown, a_argKind, a_argValue, a_argHome))
    (h3 : gr_cf K n = some ([], 0) → gr_LM K n → ¬ (gr_ND K V n ∧ gr_US K V n) → ∀ (ss bc tw : Int32) (st bp bs dc pc pm dk dt tb : Nat → Int32), post 3 (f_depthLimit, 0, f_trapCode, f_begun, nI n, f_printedTotal, ss, bc, tw, f_liveDepth, f_position, a_tokenKind, a_tokenValue, a_printed, st, bp, bs, dc, pc, pm, dk, dt, tb, a_branchTarget, a_liveBody, a_liveParent, a_returnTo, a_slotValue, a_slotHome, a_waitingOp, a_waitingLeft, a_leftKnown, a_argKind, a_argValue, a_argHome))
    (h4 : gr_cf K n = some ([], 0) → gr_LM K n → gr_ND K V n → gr_US K V n → ∀ (ss bc tw : Int32) (st bp bs dc pc pm dk dt tb bt sv sh : Nat → Int32), sx_S K V n bp bs pc pm dk dt bt → (∀ x, x < 16 → sv x = dt x ∧ sh x = 0) →
      post 0 (f_depthLimit, 1, 0, 0, nI n, 0, ss, bc, tw, 0, bs 0, a_tokenKind, a_tokenValue, a_printed, st, bp, bs, dc, pc, pm, dk, dt, tb, bt, upd a_liveBody 0 0, upd a_liveParent 0 0, a_returnTo, sv, sh, a_waitingOp, a_waitingLeft, a_leftKnown, a_argKind, a_argValue, a_argHome)) :
    wpX_compile post (f_depthLimit, 0, f_trapCode, f_begun, nI n, f_printedTotal, f_stackSize, f_bodyCount, f_declaredTwice, f_liveDepth, f_position, a_tokenKind, a_tokenValue, a_printed, a_stack, a_bodyParent, a_bodyStart, a_declCount, a_paramCount, a_paramName, a_declKind, a_declTarget, a_tokenBody, a_branchTarget, a_liveBody, a_liveParent, a_returnTo, a_slotValue, a_slotHome, a_waitingOp, a_waitingLeft, a_leftKnown, a_argKind, a_argValue, a_argHome) := by
  unfold wpX_compile
  refine br_t rfl (xc_prog h256 htk (fun hn ss st => br_f (by decide) ?_) (fun hn ss st => br_t rfl (h1 hn ss st)))
  have htd : ∀ i, i < n → gr_D (K i) → a_tokenValue i = nI (V i) ∧ V i < 16 := fun i hi h => htv i hi (by simp only [gr_D] at h; simp only [xn_nm]; omega)
  have h01 := gr_k01 hn
  have hc1 : gr_cf K 1 = some ([(1, 0)], 0) := by
    obtain ⟨L, e, hc⟩ := gr_exle hn (show 1 ≤ n by omega)
    rw [hc, (gr_one hc).2]
  have np0 : gr_np K 0 = 0 := rfl
  have np1 : gr_np K 1 = 0 := by rw [gr_np_n (show K 0 ≠ 4 by omega)]; rfl
  have hx0 : lo_x K n 0 = 0 := by unfold lo_x; rw [gr_bo_1 (by omega) h01.2]; rfl
  unfold wpX_layOutBodies
  refine xl_clear (fun dk dt hz => xl_add (c := 0) (by decide) ⟨n + 1, ?_⟩)
  have main : ∀ (tb : Nat → Int32), xl_A K n 1 tb → wX_layOutBodies_12 (fun r_39 u => match u with | (f_depthLimit, f_state, f_trapCode, f_begun, f_tokenTotal, f_printedTotal, f_stackSize, f_bodyCount, f_declaredTwice, f_liveDepth, f_position, a_tokenKind, a_tokenValue, a_printed, a_stack, a_bodyParent, a_bodyStart, a_declCount, a_paramCount, a_paramName, a_declKind, a_declTarget, a_tokenBody, a_branchTarget, a_liveBody, a_liveParent, a_returnTo, a_slotValue, a_slotHome, a_waitingOp, a_waitingLeft, a_leftKnown, a_argKind, a_argValue, a_argHome) => ((r_39 = 0 → post 2 (f_depthLimit, f_state, f_trapCode, f_begun, f_tokenTotal, f_printedTotal, f_stackSize, f_bodyCount, f_declaredTwice, f_liveDepth, f_position, a_tokenKind, a_tokenValue, a_printed, a_stack, a_bodyParent, a_bodyStart, a_declCount, a_paramCount, a_paramName, a_declKind, a_declTarget, a_tokenBody, a_branchTarget, a_liveBody, a_liveParent, a_returnTo, a_slotValue, a_slotHome, a_waitingOp, a_waitingLeft, a_leftKnown, a_argKind, a_argValue, a_argHome)) ∧ (¬ r_39 = 0 → ((f_declaredTwice = 0 → wpX_allUsesMatch (fun r_77 => ((r_77 = 0 → post 3 (f_depthLimit, f_state, f_trapCode, f_begun, f_tokenTotal, f_printedTotal, f_stackSize, f_bodyCount, f_declaredTwice, f_liveDepth, f_position, a_tokenKind, a_tokenValue, a_printed, a_stack, a_bodyParent, a_bodyStart, a_declCount, a_paramCount, a_paramName, a_declKind, a_declTarget, a_tokenBody, a_branchTarget, a_liveBody, a_liveParent, a_returnTo, a_slotValue, a_slotHome, a_waitingOp, a_waitingLeft, a_leftKnown, a_argKind, a_argValue, a_argHome)) ∧ (¬ r_77 = 0 → wpX_linkBranches (fun u => match u with | (f_depthLimit, f_state, f_trapCode, f_begun, f_tokenTotal, f_printedTotal, f_stackSize, f_bodyCount, f_declaredTwice, f_liveDepth, f_position, a_tokenKind, a_tokenValue, a_printed, a_stack, a_bodyParent, a_bodyStart, a_declCount, a_paramCount, a_paramName, a_declKind, a_declTarget, a_tokenBody, a_branchTarget, a_liveBody, a_liveParent, a_returnTo, a_slotValue, a_slotHome, a_waitingOp, a_waitingLeft, a_leftKnown, a_argKind, a_argValue, a_argHome) => wpX_startMain (fun u => match u with | (f_depthLimit, f_state, f_trapCode, f_begun, f_tokenTotal, f_printedTotal, f_stackSize, f_bodyCount, f_declaredTwice, f_liveDepth, f_position, a_tokenKind, a_tokenValue, a_printed, a_stack, a_bodyParent, a_bodyStart, a_declCount, a_paramCount, a_paramName, a_declKind, a_declTarget, a_tokenBody, a_branchTarget, a_liveBody, a_liveParent, a_returnTo, a_slotValue, a_slotHome, a_waitingOp, a_waitingLeft, a_leftKnown, a_argKind, a_argValue, a_argHome) => post 0 (f_depthLimit, f_state, f_trapCode, f_begun, f_tokenTotal, f_printedTotal, f_stackSize, f_bodyCount, f_declaredTwice, f_liveDepth, f_position, a_tokenKind, a_tokenValue, a_printed, a_stack, a_bodyParent, a_bodyStart, a_declCount, a_paramCount, a_paramName, a_declKind, a_declTarget, a_tokenBody, a_branchTarget, a_liveBody, a_liveParent, a_returnTo, a_slotValue, a_slotHome, a_waitingOp, a_waitingLeft, a_leftKnown, a_argKind, a_argValue, a_argHome)) (f_depthLimit, f_state, f_trapCode, f_begun, f_tokenTotal, f_printedTotal, f_stackSize, f_bodyCount, f_declaredTwice, f_liveDepth, f_position, a_tokenKind, a_tokenValue, a_printed, a_stack, a_bodyParent, a_bodyStart, a_declCount, a_paramCount, a_paramName, a_declKind, a_declTarget, a_tokenBody, a_branchTarget, a_liveBody, a_liveParent, a_returnTo, a_slotValue, a_slotHome, a_waitingOp, a_waitingLeft, a_leftKnown, a_argKind, a_argValue, a_argHome)) (f_depthLimit, f_state, f_trapCode, f_begun, f_tokenTotal, f_printedTotal, f_stackSize, f_bodyCount, f_declaredTwice, f_liveDepth, f_position, a_tokenKind, a_tokenValue, a_printed, a_stack, a_bodyParent, a_bodyStart, a_declCount, a_paramCount, a_paramName, a_declKind, a_declTarget, a_tokenBody, a_branchTarget, a_liveBody, a_liveParent, a_returnTo, a_slotValue, a_slotHome, a_waitingOp, a_waitingLeft, a_leftKnown, a_argKind, a_argValue, a_argHome)))) (f_depthLimit, f_state, f_trapCode, f_begun, f_tokenTotal, f_printedTotal, f_stackSize, f_bodyCount, f_declaredTwice, f_liveDepth, f_position, a_tokenKind, a_tokenValue, a_printed, a_stack, a_bodyParent, a_bodyStart, a_declCount, a_paramCount, a_paramName, a_declKind, a_declTarget, a_tokenBody, a_branchTarget, a_liveBody, a_liveParent, a_returnTo, a_slotValue, a_slotHome, a_waitingOp, a_waitingLeft, a_leftKnown, a_argKind, a_argValue, a_argHome)) ∧ (¬ f_declaredTwice = 0 → post 3 (f_depthLimit, f_state, f_trapCode, f_begun, f_tokenTotal, f_printedTotal, f_stackSize, f_bodyCount, f_declaredTwice, f_liveDepth, f_position, a_tokenKind, a_tokenValue, a_printed, a_stack, a_bodyParent, a_bodyStart, a_declCount, a_paramCount, a_paramName, a_declKind, a_declTarget, a_tokenBody, a_branchTarget, a_liveBody, a_liveParent, a_returnTo, a_slotValue, a_slotHome, a_waitingOp, a_waitingLeft, a_leftKnown, a_argKind, a_argValue, a_argHome))))))
      n (nI (gr_xb K [(1, 0)])) (nI 1) f_depthLimit 0 f_trapCode f_begun (nI n) f_printedTotal ss (nI (gr_np K 1 + 1)) 0 f_liveDepth f_position a_tokenKind a_tokenValue a_printed st (upd a_bodyParent 0 0) (upd a_bodyStart 0 (nI 1)) (upd a_declCount 0 0) (upd a_paramCount 0 0) a_paramName dk dt tb a_branchTarget a_liveBody a_liveParent a_returnTo a_slotValue a_slotHome a_waitingOp a_waitingLeft a_leftKnown a_argKind a_argValue a_argHome := by
    intro tb hA
    refine xl_12 hn h256 htk htd (fun hL => ?_) (fun hL => ?_) (n - 1) 1 n [(1, 0)] 0 _ _ _ _ _ _ _ _ _ (by omega) (by omega) (Nat.le_refl _) hc1 ?_ hA ?_ ?_ ?_ ?_ ?_
    · intro bc tw bp bs dc pc pm dk dt tb
      exact br_t rfl (h2 hn hL ss bc tw st bp bs dc pc pm dk dt tb)
    · intro bc tw bp bs dc pc pm dk dt tb hA hB hS hC hN hT
      refine br_f (by decide) ?_
      rcases hT with ⟨rfl, hT1, hT2⟩ | ⟨rfl, hT1⟩
      · refine br_t rfl ?_
        have hND := (lo_N_iff hn).mp hT1
        have hP := sx_P_of hn hB
        have hD := sx_D_of hn hL hT2
        unfold wpX_allUsesMatch
        refine ⟨n + 1, xn_all hn hL h256 htk htv hP hD hA (fun hU => br_f (by decide) ?_) (fun hU => br_t rfl ?_) n 0 (n + 1) (by omega) (by omega) (fun j hj => by omega)⟩
        · refine xk_linkB hn h256 htk (fun s st' bt hBt => ?_)
          unfold wpX_startMain
          refine xk_open (a := 0) (k := 0) (by decide) (by decide) (fun sv sh q1 q2 => ?_)
          refine h4 hn hL hND hU s bc 0 st' bp bs dc pc pm dk dt tb bt sv sh ⟨hP, hS.1, sx_Q_of hn hL hC hN, hD, hBt⟩ (fun x hx => ?_)
          have := q1 x hx
          rw [show 0 * 16 + x = x by omega] at this
          exact this
        · exact h3 hn hL (fun h => hU h.2) ss bc 0 st bp bs dc pc pm dk dt tb
      · refine br_f (by decide) (h3 hn hL (fun h => hT1 ((lo_N_iff hn).mpr h.1)) ss bc 1 st bp bs dc pc pm dk dt tb)
    · refine ⟨by omega, fun k hk _ => ?_⟩
      have := @lo_dn_n K n k 0 (fun h => by have := h.1; simp only [gr_D] at this; omega)
      have h2 := @lo_pn_n K n k 0 (fun h => by omega)
      rw [this, h2]
      exact ⟨Nat.zero_le _, Nat.zero_le _⟩
    · refine ⟨lo_us, fun q hq h4 => ?_⟩
      have : q = 0 := by omega
      subst this; omega
    · refine ⟨fun s b L a1 a2 => by omega, fun b L hc => ?_⟩
      rw [hc1] at hc
      injection hc with hc
      injection hc with hc _
      injection hc with hc _
      injection hc with _ hc
      subst hc
      exact lo_us
    · intro k hk
      have hk0 : k = 0 := by omega
      subst hk0
      have := @lo_dn_n K n 0 0 (fun h => by have := h.1; simp only [gr_D] at this; omega)
      have h2 := @lo_pn_n K n 0 0 (fun h => by omega)
      rw [this, h2]
      exact ⟨lo_us, lo_us⟩
    · intro j hj h5
      have : j = 0 := by omega
      subst this; omega
    · refine .inl ⟨rfl, fun c d h5 h6 => by omega, fun d hd h5 => ?_, fun k x hk hx _ => hz _ (by omega)⟩
      have : d = 0 := by omega
      subst this
      simp only [gr_D] at h5
      omega
  obtain ⟨k1, k2, k3⟩ := htk 0 (by omega)
  refine br_f (nI_ge (a := 0) (by omega) (by omega)) ⟨vp_in_nI (n := 0) (by decide) (by decide), nm_e ⟨vp_in_nI (n := 0) (by decide) (by decide), nm_r (show _ = nI 1 by rw [← h01.2]; exact k1) (br_f (by decide) (br_f (by decide) (xl_tok1 (b := 0) (i := 0) (by decide) (by decide) (by rw [← h01.2]; exact k1) ?_)))⟩⟩
  refine xl_90 (x := 0) (i := 0) (d := 0) (p := 0) (by decide) lo_us lo_us (by omega) (by omega) (fun h => absurd ⟨by omega, by omega⟩ h) (fun _ => ?_)
  have := main (upd a_tokenBody 0 0) (fun j hj => by
    have : j = 0 := by omega
    subst this
    rw [hx0]; exact lo_us)
  rw [np1] at this
  exact this
