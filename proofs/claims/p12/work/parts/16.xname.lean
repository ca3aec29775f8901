abbrev xn_nm (k : Nat) : Prop := k = 3 ∨ k = 4 ∨ k = 5 ∨ k = 6 ∨ k = 7 ∨ k = 9 ∨ k = 10 ∨ k = 11 ∨ k = 13 ∨ k = 19
theorem xn_car {post : Int32 → Prop} {k : Nat} (h1 : 1 ≤ k) (h2 : k ≤ 26) (ht : xn_nm k → post 1) (hf : ¬ xn_nm k → post 0) : wpX_carriesName post () (nI k) := by
  unfold wpX_carriesName
  rcases xs_26 h1 h2 with h | h | h | h | h | h | h | h | h | h | h | h | h | h | h | h | h | h | h | h | h | h | h | h | h | h <;> subst h
  · exact br_t (by decide) (hf (by omega))
  · exact br_t (by decide) (hf (by omega))
  · exact br_f (by decide) (br_f (by decide) (br_t rfl (ht (by omega))))
  · exact br_f (by decide) (br_f (by decide) (br_f (by decide) (br_t rfl (ht (by omega)))))
  · exact br_f (by decide) (br_f (by decide) (br_f (by decide) (br_f (by decide) (br_t rfl (ht (by omega))))))
  · exact br_f (by decide) (br_f (by decide) (br_f (by decide) (br_f (by decide) (br_f (by decide) (br_t rfl (ht (by omega)))))))
  · exact br_f (by decide) (br_f (by decide) (br_f (by decide) (br_f (by decide) (br_f (by decide) (br_f (by decide) (br_t rfl (ht (by omega))))))))
  · exact br_f (by decide) (br_f (by decide) (br_f (by decide) (br_f (by decide) (br_f (by decide) (br_f (by decide) (br_f (by decide) (br_t rfl (hf (by omega)))))))))
  · exact br_f (by decide) (br_f (by decide) (br_f (by decide) (br_f (by decide) (br_f (by decide) (br_f (by decide) (br_f (by decide) (br_f (by decide) (br_t rfl (ht (by omega))))))))))
  · exact br_f (by decide) (br_f (by decide) (br_f (by decide) (br_f (by decide) (br_f (by decide) (br_f (by decide) (br_f (by decide) (br_f (by decide) (br_f (by decide) (br_t rfl (ht (by omega)))))))))))
  · exact br_f (by decide) (br_f (by decide) (br_f (by decide) (br_f (by decide) (br_f (by decide) (br_f (by decide) (br_f (by decide) (br_f (by decide) (br_f (by decide) (br_f (by decide) (br_t rfl (ht (by omega))))))))))))
  · exact br_f (by decide) (br_f (by decide) (br_f (by decide) (br_f (by decide) (br_f (by decide) (br_f (by decide) (br_f (by decide) (br_f (by decide) (br_f (by decide) (br_f (by decide) (br_f (by decide) (br_t rfl (hf (by omega)))))))))))))
  · exact br_f (by decide) (br_f (by decide) (br_f (by decide) (br_f (by decide) (br_f (by decide) (br_f (by decide) (br_f (by decide) (br_f (by decide) (br_f (by decide) (br_f (by decide) (br_f (by decide) (br_f (by decide) (br_t rfl (ht (by omega))))))))))))))
  · exact br_f (by decide) (br_f (by decide) (br_f (by decide) (br_f (by decide) (br_f (by decide) (br_f (by decide) (br_f (by decide) (br_f (by decide) (br_f (by decide) (br_f (by decide) (br_f (by decide) (br_f (by decide) (br_f (by decide) (br_t rfl (hf (by omega)))))))))))))))
  · exact br_f (by decide) (br_f (by decide) (br_f (by decide) (br_f (by decide) (br_f (by decide) (br_f (by decide) (br_f (by decide) (br_f (by decide) (br_f (by decide) (br_f (by decide) (br_f (by decide) (br_f (by decide) (br_f (by decide) (br_f (by decide) (br_t rfl (hf (by omega))))))))))))))))
  · exact br_f (by decide) (br_f (by decide) (br_f (by decide) (br_f (by decide) (br_f (by decide) (br_f (by decide) (br_f (by decide) (br_f (by decide) (br_f (by decide) (br_f (by decide) (br_f (by decide) (br_f (by decide) (br_f (by decide) (br_f (by decide) (br_f (by decide) (br_t rfl (hf (by omega)))))))))))))))))
  · exact br_f (by decide) (br_f (by decide) (br_f (by decide) (br_f (by decide) (br_f (by decide) (br_f (by decide) (br_f (by decide) (br_f (by decide) (br_f (by decide) (br_f (by decide) (br_f (by decide) (br_f (by decide) (br_f (by decide) (br_f (by decide) (br_f (by decide) (br_f (by decide) (br_t rfl (hf (by omega))))))))))))))))))
  · exact br_f (by decide) (br_f (by decide) (br_f (by decide) (br_f (by decide) (br_f (by decide) (br_f (by decide) (br_f (by decide) (br_f (by decide) (br_f (by decide) (br_f (by decide) (br_f (by decide) (br_f (by decide) (br_f (by decide) (br_f (by decide) (br_f (by decide) (br_f (by decide) (br_f (by decide) (br_t rfl (hf (by omega)))))))))))))))))))
  · exact br_f (by decide) (br_f (by decide) (br_f (by decide) (br_f (by decide) (br_f (by decide) (br_f (by decide) (br_f (by decide) (br_f (by decide) (br_f (by decide) (br_f (by decide) (br_f (by decide) (br_f (by decide) (br_f (by decide) (br_f (by decide) (br_f (by decide) (br_f (by decide) (br_f (by decide) (br_f (by decide) (br_t rfl (ht (by omega))))))))))))))))))))
  · exact br_f (by decide) (br_t (by decide) (hf (by omega)))
  · exact br_f (by decide) (br_t (by decide) (hf (by omega)))
  · exact br_f (by decide) (br_t (by decide) (hf (by omega)))
  · exact br_f (by decide) (br_t (by decide) (hf (by omega)))
  · exact br_f (by decide) (br_t (by decide) (hf (by omega)))
  · exact br_f (by decide) (br_t (by decide) (hf (by omega)))
  · exact br_f (by decide) (br_t (by decide) (hf (by omega)))
theorem xn_mt {post : Int32 → Prop} {k d : Nat} (h1 : 1 ≤ k) (h2 : k ≤ 26) (hd : d ≤ 26) (ht : gr_mk k d → post 1) (hf : ¬ gr_mk k d → post 0) : wpX_matches post () (nI k) (nI d) := by
  have two : ∀ c e : Nat, c ≤ 26 → e ≤ 26 → (gr_mk k d ↔ d = c ∨ d = e) → (nI d = nI c → post 1) ∧ (¬ nI d = nI c → (nI d = nI e → post 1) ∧ (¬ nI d = nI e → post 0)) := by
    intro c e hc he h
    by_cases q : d = c
    · exact br_t (by rw [q]) (ht (h.mpr (.inl q)))
    · refine br_f (fun h2 => q ((nI_eq (by omega) (by omega)).mp h2)) ?_
      by_cases q2 : d = e
      · exact br_t (by rw [q2]) (ht (h.mpr (.inr q2)))
      · exact br_f (fun h2 => q2 ((nI_eq (by omega) (by omega)).mp h2)) (hf (fun h2 => by have := h.mp h2; omega))
  have one : (gr_mk k d ↔ d = 10) → (nI d = nI 10 → post 1) ∧ (¬ nI d = nI 10 → post 0) := by
    intro h
    by_cases q : d = 10
    · exact br_t (by rw [q]) (ht (h.mpr q))
    · exact br_f (fun h2 => q ((nI_eq (by omega) (by omega)).mp h2)) (hf (fun h2 => q (h.mp h2)))
  unfold wpX_matches
  rcases xs_26 h1 h2 with h | h | h | h | h | h | h | h | h | h | h | h | h | h | h | h | h | h | h | h | h | h | h | h | h | h <;> subst h
  · exact br_t (by decide) (ht (by simp [gr_mk]))
  · exact br_t (by decide) (ht (by simp [gr_mk]))
  · exact br_t (by decide) (ht (by simp [gr_mk]))
  · exact br_t (by decide) (ht (by simp [gr_mk]))
  · exact br_t (by decide) (ht (by simp [gr_mk]))
  · exact br_t (by decide) (ht (by simp [gr_mk]))
  · exact br_f (by decide) (br_f (by decide) (br_t rfl (two 3 5 (by decide) (by decide) (by simp [gr_mk]))))
  · exact br_f (by decide) (br_f (by decide) (br_f (by decide) (br_t rfl (ht (by simp [gr_mk])))))
  · exact br_f (by decide) (br_f (by decide) (br_f (by decide) (br_f (by decide) (br_t rfl (one (by simp [gr_mk]))))))
  · exact br_f (by decide) (br_f (by decide) (br_f (by decide) (br_f (by decide) (br_f (by decide) (br_t rfl (ht (by simp [gr_mk])))))))
  · exact br_f (by decide) (br_f (by decide) (br_f (by decide) (br_f (by decide) (br_f (by decide) (br_f (by decide) (br_t rfl (two 4 6 (by decide) (by decide) (by simp [gr_mk]))))))))
  · exact br_f (by decide) (br_f (by decide) (br_f (by decide) (br_f (by decide) (br_f (by decide) (br_f (by decide) (br_f (by decide) (br_t rfl (ht (by simp [gr_mk])))))))))
  · exact br_f (by decide) (br_f (by decide) (br_f (by decide) (br_f (by decide) (br_f (by decide) (br_f (by decide) (br_f (by decide) (br_f (by decide) (br_t rfl (two 4 6 (by decide) (by decide) (by simp [gr_mk]))))))))))
  · exact br_f (by decide) (br_f (by decide) (br_f (by decide) (br_f (by decide) (br_f (by decide) (br_f (by decide) (br_f (by decide) (br_f (by decide) (br_f (by decide) (br_t rfl (ht (by simp [gr_mk])))))))))))
  · exact br_f (by decide) (br_f (by decide) (br_f (by decide) (br_f (by decide) (br_f (by decide) (br_f (by decide) (br_f (by decide) (br_f (by decide) (br_f (by decide) (br_f (by decide) (br_t rfl (ht (by simp [gr_mk]))))))))))))
  · exact br_f (by decide) (br_f (by decide) (br_f (by decide) (br_f (by decide) (br_f (by decide) (br_f (by decide) (br_f (by decide) (br_f (by decide) (br_f (by decide) (br_f (by decide) (br_f (by decide) (br_t rfl (ht (by simp [gr_mk])))))))))))))
  · exact br_f (by decide) (br_f (by decide) (br_f (by decide) (br_f (by decide) (br_f (by decide) (br_f (by decide) (br_f (by decide) (br_f (by decide) (br_f (by decide) (br_f (by decide) (br_f (by decide) (br_f (by decide) (br_t rfl (ht (by simp [gr_mk]))))))))))))))
  · exact br_f (by decide) (br_f (by decide) (br_f (by decide) (br_f (by decide) (br_f (by decide) (br_f (by decide) (br_f (by decide) (br_f (by decide) (br_f (by decide) (br_f (by decide) (br_f (by decide) (br_f (by decide) (br_f (by decide) (br_t rfl (ht (by simp [gr_mk])))))))))))))))
  · exact br_f (by decide) (br_f (by decide) (br_f (by decide) (br_f (by decide) (br_f (by decide) (br_f (by decide) (br_f (by decide) (br_f (by decide) (br_f (by decide) (br_f (by decide) (br_f (by decide) (br_f (by decide) (br_f (by decide) (br_f (by decide) (br_t rfl (two 3 5 (by decide) (by decide) (by simp [gr_mk]))))))))))))))))
  · exact br_f (by decide) (br_t (by decide) (ht (by simp [gr_mk])))
  · exact br_f (by decide) (br_t (by decide) (ht (by simp [gr_mk])))
  · exact br_f (by decide) (br_t (by decide) (ht (by simp [gr_mk])))
  · exact br_f (by decide) (br_t (by decide) (ht (by simp [gr_mk])))
  · exact br_f (by decide) (br_t (by decide) (ht (by simp [gr_mk])))
  · exact br_f (by decide) (br_t (by decide) (ht (by simp [gr_mk])))
  · exact br_f (by decide) (br_t (by decide) (ht (by simp [gr_mk])))
variable {f_depthLimit f_state f_trapCode f_begun f_tokenTotal f_printedTotal f_stackSize f_bodyCount f_declaredTwice f_liveDepth f_position : Int32} {a_tokenKind a_tokenValue a_printed a_stack a_bodyParent a_bodyStart a_declCount a_paramCount a_paramName a_declKind a_declTarget a_tokenBody a_branchTarget a_liveBody a_liveParent a_returnTo a_slotValue a_slotHome a_waitingOp a_waitingLeft a_leftKnown a_argKind a_argValue a_argHome : Nat → Int32}
theorem xn_idx {b x : Nat} (hb : b < 16) (hx : x < 16) : nI b * 16 + nI x = nI (b * 16 + x) ∧ vp_in (nI (b * 16 + x)) 256 ∧ (nI (b * 16 + x)).toNatClampNeg = b * 16 + x := by
  refine ⟨by rw [li_m16, nI_add], vp_in_nI (by omega) (by decide), nI_clamp (by omega)⟩
theorem xn_39 {post : Int32 → Prop} {b x : Nat} (hb : b < 16) (hx : x < 16) (h : post (a_declKind (b * 16 + x))) : wX_nearestKind_39 post (nI x) (nI b) f_depthLimit f_state f_trapCode f_begun f_tokenTotal f_printedTotal f_stackSize f_bodyCount f_declaredTwice f_liveDepth f_position a_tokenKind a_tokenValue a_printed a_stack a_bodyParent a_bodyStart a_declCount a_paramCount a_paramName a_declKind a_declTarget a_tokenBody a_branchTarget a_liveBody a_liveParent a_returnTo a_slotValue a_slotHome a_waitingOp a_waitingLeft a_leftKnown a_argKind a_argValue a_argHome := by
  unfold wX_nearestKind_39
  have i := xn_idx hb hx
  rw [i.1, i.2.2]
  exact ⟨i.2.1, h⟩
theorem xn_near0 {post : Int32 → Prop} {x : Nat} (hx : x < 16) (hbp : a_bodyParent 0 = 0) (hdk : a_declKind x = 0) (h : post 0) : ∀ (d i f : Nat), i + d = 16 → d < f → wX_nearestKind_5 post (nI x) f_depthLimit f_state f_trapCode f_begun f_tokenTotal f_printedTotal f_stackSize f_bodyCount f_declaredTwice f_liveDepth f_position a_tokenKind a_tokenValue a_printed a_stack a_bodyParent a_bodyStart a_declCount a_paramCount a_paramName a_declKind a_declTarget a_tokenBody a_branchTarget a_liveBody a_liveParent a_returnTo a_slotValue a_slotHome a_waitingOp a_waitingLeft a_leftKnown a_argKind a_argValue a_argHome f (nI 0) (nI i) := by
  have e0 : (0 : Nat) * 16 + x = x := by omega
  intro d
  induction d with
  | zero =>
    intro i f hi hf
    cases f with
    | zero => omega
    | succ f => exact br_t (nI_le (a := 16) (by omega) (by omega)) (xn_39 (by decide) hx (by rw [e0, hdk]; exact h))
  | succ d ih =>
    intro i f hi hf
    cases f with
    | zero => omega
    | succ f =>
      refine br_f (nI_ge (b := 16) (by omega) (by decide)) ?_
      have ix := xn_idx (b := 0) (by decide) hx
      rw [ix.1, ix.2.2]
      refine ⟨ix.2.1, br_t (by rw [e0]; exact hdk) ⟨vp_in_nI (by decide) (by decide), nm_r (show _ = nI 0 from hbp) (nm_r (nI_1 i) (ih (i + 1) f (by omega) (by omega)))⟩⟩
theorem xn_near5 {post : Int32 → Prop} {K V : Nat → Nat} {n x : Nat} (hn : gr_cf K n = some ([], 0)) (hL : gr_LM K n) (hK : ∀ d, d < n → 1 ≤ K d ∧ K d ≤ 26) (hP : sx_P K n a_bodyParent) (hD : sx_D K V n a_declKind a_declTarget) (hx : x < 16) :
    ∀ (h b i f : Nat), gr_np K b ≤ h → b < n → K b = 1 → i + h < 16 → 16 - i < f → post (nI (sx_k K (gr_lk K V n b x))) → wX_nearestKind_5 post (nI x) f_depthLimit f_state f_trapCode f_begun f_tokenTotal f_printedTotal f_stackSize f_bodyCount f_declaredTwice f_liveDepth f_position a_tokenKind a_tokenValue a_printed a_stack a_bodyParent a_bodyStart a_declCount a_paramCount a_paramName a_declKind a_declTarget a_tokenBody a_branchTarget a_liveBody a_liveParent a_returnTo a_slotValue a_slotHome a_waitingOp a_waitingLeft a_leftKnown a_argKind a_argValue a_argHome f (nI (gr_np K b)) (nI i) := by
  intro h
  induction h with
  | zero =>
    intro b i f hb hbn hk hi hf hp
    have hb16 : gr_np K b < 16 := by omega
    cases hd : gr_dc K V n b x with
    | some d =>
      rw [gr_lk_d hd] at hp
      have hdd := (hD b x hbn hk hx).2 d hd
      have hKd := hK d (gr_dc_some hd).1
      cases f with
      | zero => omega
      | succ f =>
        refine br_f (nI_ge (b := 16) (by omega) (by decide)) ?_
        have ix := xn_idx hb16 hx
        rw [ix.1, ix.2.2]
        refine ⟨ix.2.1, br_f (by rw [hdd.1]; exact nI_ne0 (by omega) (by omega)) (xn_39 hb16 hx (by rw [hdd.1]; exact hp))⟩
    | none =>
      have hb0 : b = 0 := by
        by_cases e : b = 0
        · exact e
        · obtain ⟨q, a1, a2, a3, a4, a5⟩ := gr_beg hn hbn e hk
          have := gr_np_4 a2
          omega
      subst hb0
      rw [gr_lk_0 hd (by simp [gr_pa, gr_cf, gr_cb])] at hp
      have hdd := ((hD 0 x hbn hk hx).1 hd).1
      have e0 : gr_np K 0 * 16 + x = x := by show 0 * 16 + x = x; omega
      rw [e0] at hdd
      exact xn_near0 hx hP.1 hdd hp (16 - i) i f (by omega) hf
  | succ h ih =>
    intro b i f hb hbn hk hi hf hp
    have hb16 : gr_np K b < 16 := by have := @gr_np_mono K b n (by omega); have := hL.1; omega
    cases f with
    | zero => omega
    | succ f =>
    cases hd : gr_dc K V n b x with
    | some d =>
      rw [gr_lk_d hd] at hp
      have hdd := (hD b x hbn hk hx).2 d hd
      have hKd := hK d (gr_dc_some hd).1
      refine br_f (nI_ge (b := 16) (by omega) (by decide)) ?_
      have ix := xn_idx hb16 hx
      rw [ix.1, ix.2.2]
      exact ⟨ix.2.1, br_f (by rw [hdd.1]; exact nI_ne0 (by omega) (by omega)) (xn_39 hb16 hx (by rw [hdd.1]; exact hp))⟩
    | none =>
      cases hpa : gr_pa K b with
      | none =>
        have hb0 := gr_pa_no hn hbn hk hpa
        subst hb0
        rw [gr_lk_0 hd hpa] at hp
        have hdd := ((hD 0 x hbn hk hx).1 hd).1
        have e0 : gr_np K 0 * 16 + x = x := by show 0 * 16 + x = x; omega
        rw [e0] at hdd
        exact xn_near0 hx hP.1 hdd hp (16 - i) i (f + 1) (by omega) hf
      | some b' =>
        have hlt := gr_pa_lt hn hbn hk hpa
        rw [gr_lk_p hn hbn hk hd hpa] at hp
        have hdd := ((hD b x hbn hk hx).1 hd).1
        refine br_f (nI_ge (b := 16) (by omega) (by decide)) ?_
        have ix := xn_idx hb16 hx
        rw [ix.1, ix.2.2]
        refine ⟨ix.2.1, br_t hdd ⟨vp_in_nI hb16 (by decide), nm_r (show _ = nI (gr_np K b') by rw [nI_clamp (by omega)]; exact hP.2 b b' hbn hk hpa) (nm_r (nI_1 i) (ih b' (i + 1) f (by omega) (by omega) hlt.2.1 (by omega) (by omega) hp))⟩⟩
theorem xn_near {post : Int32 → Prop} {K V : Nat → Nat} {n x b : Nat} (hn : gr_cf K n = some ([], 0)) (hL : gr_LM K n) (hK : ∀ d, d < n → 1 ≤ K d ∧ K d ≤ 26) (hP : sx_P K n a_bodyParent) (hD : sx_D K V n a_declKind a_declTarget) (hx : x < 16)
    (hb : b < n) (hk : K b = 1) (h : post (nI (sx_k K (gr_lk K V n b x)))) : wpX_nearestKind post (f_depthLimit, f_state, f_trapCode, f_begun, f_tokenTotal, f_printedTotal, f_stackSize, f_bodyCount, f_declaredTwice, f_liveDepth, f_position, a_tokenKind, a_tokenValue, a_printed, a_stack, a_bodyParent, a_bodyStart, a_declCount, a_paramCount, a_paramName, a_declKind, a_declTarget, a_tokenBody, a_branchTarget, a_liveBody, a_liveParent, a_returnTo, a_slotValue, a_slotHome, a_waitingOp, a_waitingLeft, a_leftKnown, a_argKind, a_argValue, a_argHome) (nI (gr_np K b)) (nI x) := by
  unfold wpX_nearestKind
  have : gr_np K b ≤ 15 := by have := @gr_np_mono K b n (by omega); have := hL.1; omega
  exact ⟨17, xn_near5 hn hL hK hP hD hx 15 b 0 17 this hb hk (by omega) (by omega) h⟩
theorem xn_all {post : Int32 → Prop} {K V : Nat → Nat} {n : Nat} (hn : gr_cf K n = some ([], 0)) (hL : gr_LM K n) (h256 : n ≤ 256) (htk : ∀ i, i < n → a_tokenKind i = nI (K i) ∧ 1 ≤ K i ∧ K i ≤ 26) (htv : ∀ i, i < n → xn_nm (K i) → a_tokenValue i = nI (V i) ∧ V i < 16)
    (hP : sx_P K n a_bodyParent) (hD : sx_D K V n a_declKind a_declTarget) (hA : xl_A K n n a_tokenBody) (ht : gr_US K V n → post 1) (hf : ¬ gr_US K V n → post 0) :
    ∀ (d i f : Nat), i + d = n → d < f → (∀ j, j < i → gr_us K V n j) → wX_allUsesMatch_2 post f_depthLimit f_state f_trapCode f_begun (nI n) f_printedTotal f_stackSize f_bodyCount f_declaredTwice f_liveDepth f_position a_tokenKind a_tokenValue a_printed a_stack a_bodyParent a_bodyStart a_declCount a_paramCount a_paramName a_declKind a_declTarget a_tokenBody a_branchTarget a_liveBody a_liveParent a_returnTo a_slotValue a_slotHome a_waitingOp a_waitingLeft a_leftKnown a_argKind a_argValue a_argHome f (nI i) := by
  have hK : ∀ d, d < n → 1 ≤ K d ∧ K d ≤ 26 := fun d hd => (htk d hd).2
  intro d
  induction d with
  | zero =>
    intro i f hi hfu hu
    have : i = n := by omega
    subst this
    cases f with
    | zero => omega
    | succ f => exact br_t (nI_le (Nat.le_refl _) (by omega)) (ht hu)
  | succ d ih =>
    intro i f hi hfu hu
    cases f with
    | zero => omega
    | succ f =>
      obtain ⟨k1, k2, k3⟩ := htk i (by omega)
      have hin : vp_in (nI i) 256 := vp_in_nI (by omega) (by decide)
      have hcl : (nI i).toNatClampNeg = i := nI_clamp (by omega)
      have next : gr_us K V n i → wX_allUsesMatch_2 post f_depthLimit f_state f_trapCode f_begun (nI n) f_printedTotal f_stackSize f_bodyCount f_declaredTwice f_liveDepth f_position a_tokenKind a_tokenValue a_printed a_stack a_bodyParent a_bodyStart a_declCount a_paramCount a_paramName a_declKind a_declTarget a_tokenBody a_branchTarget a_liveBody a_liveParent a_returnTo a_slotValue a_slotHome a_waitingOp a_waitingLeft a_leftKnown a_argKind a_argValue a_argHome f (nI (i + 1)) := by
        intro h
        refine ih (i + 1) f (by omega) (by omega) (fun j hj => ?_)
        by_cases e : j = i
        · subst e; exact h
        · exact hu j (by omega)
      refine br_f (nI_ge (by omega) (by omega)) ⟨hin, nm_r (show _ = nI (K i) by rw [hcl]; exact k1) (xn_car k2 k3 (fun hnm => ?_) (fun hnm => ?_))⟩
      · obtain ⟨v1, v2⟩ := htv i (by omega) hnm
        obtain ⟨L, e, hc⟩ := gr_exle hn (show i ≤ n by omega)
        have hxb := gr_xbo hn (show i < n by omega) hc
        refine br_f (by decide) ⟨hin, hin, ?_⟩
        rw [hcl, hA i (by omega), v1]
        refine xn_near hn hL hK hP hD v2 hxb.2.2 hxb.2.1 (xn_mt k2 k3 ?_ (fun h => ?_) (fun h => ?_))
        · cases hlk : gr_lk K V n (gr_bo K n i) (V i) with
          | none => simp [sx_k]
          | some d2 =>
            have key : ∀ (h b : Nat), gr_lf K V n (V i) h b = some d2 → d2 < n := by
              intro h
              induction h with
              | zero => intro b h2; simp [gr_lf] at h2
              | succ h ih2 =>
                intro b h2
                simp only [gr_lf] at h2
                cases hd : gr_dc K V n b (V i) with
                | some d3 => rw [hd] at h2; simp only at h2; injection h2 with h2; subst h2; exact (gr_dc_some hd).1
                | none =>
                  rw [hd] at h2
                  simp only at h2
                  cases hp : gr_pa K b with
                  | none => rw [hp] at h2; cases h2
                  | some b' => rw [hp] at h2; exact ih2 b' h2
            exact (hK d2 (key _ _ hlk)).2
        · exact br_f (by decide) (nm_r (nI_1 i) (next (sx_us.mpr h)))
        · exact br_t rfl (hf (fun hU => h (sx_us.mp (hU i (by omega)))))
      · refine br_t rfl (nm_r (nI_1 i) (next ?_))
        intro hU
        simp only [gr_U] at hU
        exact absurd (by omega) hnm
