variable {g_n g_limit g_status g_trapCode g_exec g_top g_outN g_pc g_evEnd g_rq g_re : Int32} {b_kind b_val b_bod b_par b_lnk b_st b_si b_stk b_out b_abody b_apar b_aret b_avar b_apq b_ape b_tk b_tv b_tq b_te : Nat → Int32}
/-- one token of the reference's parse, behind the change of declarations to statements -/
theorem yp_167 {post : Int32 → SY → Prop} {J : Int32 → Int32 → Int32 → Int32 → (Nat → Int32) → (Nat → Int32) → (Nat → Int32) → (Nat → Int32) → (Nat → Int32) → (Nat → Int32) → (Nat → Int32) → (Nat → Int32) → (Nat → Int32) → (Nat → Int32) → (Nat → Int32) → (Nat → Int32) → (Nat → Int32) → (Nat → Int32) → (Nat → Int32) → (Nat → Int32) → (Nat → Int32) → (Nat → Int32) → (Nat → Int32) → Prop} {K : Nat → Nat} {n i g t p b : Nat} {L : List (Nat × Nat)} {bo pa lk st si : Nat → Int32} (h256 : n ≤ 256) (htk : ∀ i, i < n → b_kind i = nI (K i) ∧ 1 ≤ K i ∧ K i ≤ 26)
    (h1 : 1 ≤ i) (hin : i < n) (hc : gr_cf K i = some ((t, p) :: L, 0)) (hcb : gr_cb ((t, p) :: L) = some b) (hb : b < i) (hkb : K b = 1)
    (has : yp_as st si ((gr_n (K i) t, p) :: L)) (hb1 : ∀ j, j < i → bo j = yb_v K j) (hb2 : ∀ j, i ≤ j → j < n → bo j = -1) (hp : ∀ b, b < i → K b = 1 → pa b = yb_p (gr_pa K b)) (hl : lo_L K i lk)
    (hF : gr_cf K n ≠ some ([], 0) → ∀ (bo pa lk st si : Nat → Int32), post 0 (nI n, g_limit, g_status, g_trapCode, g_exec, g_top, g_outN, g_pc, g_evEnd, g_rq, g_re, b_kind, b_val, bo, pa, lk, st, si, b_stk, b_out, b_abody, b_apar, b_aret, b_avar, b_apq, b_ape, b_tk, b_tv, b_tq, b_te))
    (hJ : ∀ (i' : Nat) (L' : List (Nat × Nat)) (bo pa lk st si : Nat → Int32), i < i' → i' ≤ n → gr_cf K i' = some (L', 0) → yp_I K n i' L' bo pa lk st si → J (nI L'.length) (yb_p (gr_cb L')) (nI i') (nI (g + 1)) b_kind b_val bo pa lk st si b_stk b_out b_abody b_apar b_aret b_avar b_apq b_ape b_tk b_tv b_tq b_te) :
    wY_parse_167 post J (nI (L.length + 1)) (nI b) (nI i) (nI g) (nI (gr_n (K i) t)) (nI (K i)) (nI n) g_limit g_status g_trapCode g_exec g_top g_outN g_pc g_evEnd g_rq g_re b_kind b_val (upd bo i (nI b)) pa lk st si b_stk b_out b_abody b_apar b_aret b_avar b_apq b_ape b_tk b_tv b_tq b_te := by
  obtain ⟨k1, k2, k3⟩ := htk i hin
  have hlen := (gr_size i _ _ h1 hc).1
  simp only [List.length_cons] at hlen
  have hso := gr_sorted i _ _ h1 hc
  have hsh := gr_shape i _ _ h1 hc
  have hkd := gr_kinds i _ _ h1 hc
  have hpi : p < i := hso.1
  have hnext := gr_next hc
  have hnt := @gr_n_or (K i) t
  have ht16 : 1 ≤ t ∧ t ≤ 6 := by have := hkd.1; simp only at this; omega
  have iS : vp_in (nI (L.length + 1)) 256 := vp_in_nI (by omega) (by decide)
  have iL : vp_in (nI L.length) 256 := vp_in_nI (by omega) (by decide)
  have iI : vp_in (nI i) 256 := vp_in_nI (by omega) (by decide)
  have iP : vp_in (nI p) 256 := vp_in_nI (by omega) (by decide)
  have cS : (nI (L.length + 1)).toNatClampNeg = L.length + 1 := nI_clamp (by omega)
  have cL : (nI L.length).toNatClampNeg = L.length := nI_clamp (by omega)
  have cI : (nI i).toNatClampNeg = i := nI_clamp (by omega)
  have cP : (nI p).toNatClampNeg = p := nI_clamp (by omega)
  have pS : nI (L.length + 1) - 1 = nI L.length := nI_pred _
  have dS : nI (L.length + 1) + (-1) = nI L.length := by rw [li_d1 (by omega)]; rfl
  have fail : gr_cf K (i + 1) = none → ∀ (bo pa lk st si : Nat → Int32), post 0 (nI n, g_limit, g_status, g_trapCode, g_exec, g_top, g_outN, g_pc, g_evEnd, g_rq, g_re, b_kind, b_val, bo, pa, lk, st, si, b_stk, b_out, b_abody, b_apar, b_aret, b_avar, b_apq, b_ape, b_tk, b_tv, b_tq, b_te) := fun h => hF (xc_none h hin)
  have hv : K i ≠ 1 → upd bo i (nI b) = upd bo i (yb_v K i) := by
    intro hk
    have : yb_v K i = nI b := by
      unfold yb_v
      rw [if_neg hk, hc]
      simp [hcb]
    rw [this]
  have hp' : K i ≠ 1 → ∀ b, b < i + 1 → K b = 1 → pa b = yb_p (gr_pa K b) := by
    intro hk b' hb' hkb'
    by_cases e : b' = i
    · subst e; exact absurd hkb' hk
    · exact hp b' (by omega) hkb'
  have nox : ∀ q, i + 1 ≤ q → q < i + 1 → K q ≠ 1 ∧ ∃ L m, gr_cf K q = some (L, m + 1) := fun q h5 h6 => by omega
  -- a step to the next token
  have stay : ∀ (L' : List (Nat × Nat)) (lk st si : Nat → Int32), K i ≠ 1 → gr_cf K (i + 1) = some (L', 0) → lo_L K (i + 1) lk → yp_as st si L' → J (nI L'.length) (yb_p (gr_cb L')) (nI (i + 1)) (nI (g + 1)) b_kind b_val (upd bo i (nI b)) pa lk st si b_stk b_out b_abody b_apar b_aret b_avar b_apq b_ape b_tk b_tv b_tq b_te := by
    intro L' lk st si hk hc' hl' has'
    exact hJ (i + 1) L' _ _ _ _ _ (by omega) hin hc' (yp_mk has' hb1 hb2 (hv hk) (hp' hk) hl' (Nat.le_refl _) hin nox)
  -- an expression behind the token
  have expr : ∀ (P : Int32 → Prop) (L' : List (Nat × Nat)), K i ≠ 1 → gr_cf K (i + 1) = some (L', 1) → (∀ e, i + 1 ≤ e → e ≤ n → gr_cf K e = some (L', 0) → (∀ q, i + 1 ≤ q → q < e → K q ≠ 1 ∧ ∃ L m, gr_cf K q = some (L, m + 1)) → P (nI e)) → (gr_cf K n ≠ some ([], 0) → P (-1)) →
      wpY_exprEnd P (nI n, g_limit, g_status, g_trapCode, g_exec, g_top, g_outN, g_pc, g_evEnd, g_rq, g_re, b_kind, b_val, upd bo i (nI b), pa, lk, st, si, b_stk, b_out, b_abody, b_apar, b_aret, b_avar, b_apq, b_ape, b_tk, b_tv, b_tq, b_te) (nI i + 1) := by
    intro P L' hk hc' hP hN
    rw [nI_1]
    refine ye_end h256 htk hin ?_
    cases he : ye_e K (n - (i + 1)) (i + 1) 1 with
    | none => exact hN (ye_n (n - (i + 1)) (i + 1) 1 L' (by omega) hc' he)
    | some e =>
      obtain ⟨a1, a2, a3, a4⟩ := ye_s (n - (i + 1)) (i + 1) 1 L' e hc' he
      refine hP e a1 (by omega) a3 (fun q h5 h6 => ?_)
      have := a4 q h5 h6
      exact ⟨by omega, L', this.2⟩
  have inexpr : ∀ (L' : List (Nat × Nat)) (st si : Nat → Int32), K i ≠ 1 → gr_cf K (i + 1) = some (L', 1) → yp_as st si L' → lo_L K (i + 1) lk → ∀ e, i + 1 ≤ e → e ≤ n → gr_cf K e = some (L', 0) → (∀ q, i + 1 ≤ q → q < e → K q ≠ 1 ∧ ∃ L m, gr_cf K q = some (L, m + 1)) →
      J (nI L'.length) (yb_p (gr_cb L')) (nI e) (nI (g + 1)) b_kind b_val (upd bo i (nI b)) pa lk st si b_stk b_out b_abody b_apar b_aret b_avar b_apq b_ape b_tk b_tv b_tq b_te := by
    intro L' st si hk hc' has' hl' e he hen hce hq
    exact hJ e L' _ _ _ _ _ (by omega) hen hce (yp_mk has' hb1 hb2 (hv hk) (hp' hk) hl' he hen hq)
  have ln : ¬ gr_cl (K i) t → lo_L K (i + 1) lk := by
    intro h
    refine lo_L_n hl (fun t' p' L' hc2 => ?_)
    rw [hc] at hc2
    injection hc2 with hc2
    injection hc2 with hc2 _
    injection hc2 with hc2 _
    injection hc2 with hc2 _
    subst hc2; exact h
  have lw : lo_L K (i + 1) (upd lk p (nI i)) := lo_L_w hl hc
  have cbn : ∀ L', gr_cb L' = some b → yb_p (gr_cb L') = nI b := fun L' h => by rw [h]; rfl
  have ncl : ∀ c, K i = c → c ≠ 1 → c ≠ 16 → c ≠ 2 → c ≠ 14 → c ≠ 17 → ¬ gr_cl (K i) t := by
    intro c e a1 a2 a3 a4 a5 h
    simp only [gr_cl, gr_c5] at h
    omega
  -- the statements
  have s507 : gr_S (gr_n (K i) t) → K i ≠ 2 → K i ≠ 10 → K i ≠ 16 → K i ≠ 17 → wY_parse_507 post J (nI (L.length + 1)) (nI b) (nI i) (nI g) (nI (K i)) (nI n) g_limit g_status g_trapCode g_exec g_top g_outN g_pc g_evEnd g_rq g_re b_kind b_val (upd bo i (nI b)) pa lk st si b_stk b_out b_abody b_apar b_aret b_avar b_apq b_ape b_tk b_tv b_tq b_te := by
    intro hS n2 n10 n16 n17
    have hcb' : gr_cb ((gr_n (K i) t, p) :: L) = some b := by rw [gr_cb_t gr_n_t]; exact hcb
    by_cases q7 : K i = 7 ∨ K i = 8
    · have hc' : gr_cf K (i + 1) = some ((gr_n (K i) t, p) :: L, 1) := by
        rw [hnext]; simp only [gr_st]
        rw [if_neg (by omega), if_neg (by omega), if_neg (by omega), if_neg (by omega), if_neg (by omega), if_pos q7, if_pos hS]
      have s521 : wY_parse_521 post J (nI (L.length + 1)) (nI b) (nI i) (nI g) (nI n) g_limit g_status g_trapCode g_exec g_top g_outN g_pc g_evEnd g_rq g_re b_kind b_val (upd bo i (nI b)) pa lk st si b_stk b_out b_abody b_apar b_aret b_avar b_apq b_ape b_tk b_tv b_tq b_te := by
        unfold wY_parse_521
        refine expr _ _ (by omega) hc' (fun e he hen hce hq => br_t (nI_pos' (by omega)) (nm_r (nI_1 g) ?_)) (fun h => br_f (by decide) (hF h _ _ _ _ _))
        have := inexpr _ st si (by omega) hc' has (ln (fun h => by simp only [gr_cl, gr_c5] at h; omega)) e he hen hce hq
        rw [cbn _ hcb'] at this
        exact this
      unfold wY_parse_507
      rcases q7 with q | q
      · exact br_t (by rw [q]; rfl) s521
      · exact br_f (by rw [q]; decide) (br_t (by rw [q]; rfl) s521)
    · unfold wY_parse_507
      refine br_f (fun h => q7 (.inl ((nI_eq (b := 7) (by omega) (by decide)).mp h))) (br_f (fun h => q7 (.inr ((nI_eq (b := 8) (by omega) (by decide)).mp h))) ?_)
      by_cases q9 : K i = 9
      · have hc' : gr_cf K (i + 1) = some ((gr_n (K i) t, p) :: L, 0) := by
          rw [hnext]; simp only [gr_st]
          rw [if_neg (by omega), if_neg (by omega), if_neg (by omega), if_neg (by omega), if_neg (by omega), if_neg q7, if_pos q9, if_pos hS]
        refine br_t (by rw [q9]; rfl) (nm_r (nI_1 i) (nm_r (nI_1 g) ?_))
        have := stay _ lk st si (by omega) hc' (ln (fun h => by simp only [gr_cl, gr_c5] at h; omega)) has
        rw [cbn _ hcb'] at this
        exact this
      · refine br_f (fun h => q9 ((nI_eq (b := 9) (by omega) (by decide)).mp h)) ?_
        -- CALL and IF
        have s609 : ∀ (u e : Nat), u < 10 → (K i = 11 ∧ u = 6 ∧ e = i + 1 ∨ K i = 15 ∧ u = 4) → i + 1 ≤ e → e ≤ n → gr_cf K e = some ((u, i) :: (gr_n (K i) t, p) :: L, 0) → (∀ q, i + 1 ≤ q → q < e → K q ≠ 1 ∧ ∃ L m, gr_cf K q = some (L, m + 1)) →
            wY_parse_609 post J (nI (L.length + 1)) (nI b) (nI i) (nI g) (nI e) (nI u) (nI (L.length + 1)) (nI n) g_limit g_status g_trapCode g_exec g_top g_outN g_pc g_evEnd g_rq g_re b_kind b_val (upd bo i (nI b)) pa lk st si b_stk b_out b_abody b_apar b_aret b_avar b_apq b_ape b_tk b_tv b_tq b_te := by
          intro u e hu hue he hen hce hq
          unfold wY_parse_609
          rw [cS]
          refine ⟨iS, nm_e ⟨iS, nm_e (nm_r (nI_1 _) (nm_r (nI_1 g) ?_))⟩⟩
          have := hJ e ((u, i) :: (gr_n (K i) t, p) :: L) _ _ _ (upd st (L.length + 1) (nI u)) (upd si (L.length + 1) (nI i)) (by omega) hen hce (yp_mk ⟨lo_us, lo_us, yp_as_u has (by simp) (by simp)⟩ hb1 hb2 (hv (by omega)) (hp' (by omega)) (ln (fun h => by simp only [gr_cl, gr_c5] at h; omega)) he hen hq)
          rw [cbn _ (by rw [gr_cb_456 (by omega)]; exact hcb')] at this
          exact this
        by_cases q11 : K i = 11
        · have hc' : gr_cf K (i + 1) = some ((6, i) :: (gr_n (K i) t, p) :: L, 0) := by
            rw [hnext]; simp only [gr_st]
            rw [if_neg (by omega), if_neg (by omega), if_neg (by omega), if_neg (by omega), if_neg (by omega), if_neg q7, if_neg q9, if_neg (by omega), if_pos q11, if_pos hS]
          refine br_t (by rw [q11]; rfl) ?_
          unfold wY_parse_562
          refine br_f (by rw [q11]; decide) ?_
          unfold wY_parse_582
          rw [nI_1]
          refine br_t (nI_pos' (by omega)) (br_f (by rw [q11]; decide) ?_)
          exact s609 6 (i + 1) (by decide) (.inl ⟨q11, rfl, rfl⟩) (Nat.le_refl _) hin hc' nox
        · refine br_f (fun h => q11 ((nI_eq (b := 11) (by omega) (by decide)).mp h)) ?_
          by_cases q15 : K i = 15
          · have hc' : gr_cf K (i + 1) = some ((4, i) :: (gr_n (K i) t, p) :: L, 1) := by
              rw [hnext]; simp only [gr_st]
              rw [if_neg (by omega), if_neg (by omega), if_neg (by omega), if_neg (by omega), if_neg (by omega), if_neg q7, if_neg q9, if_neg (by omega), if_neg q11, if_neg (by omega), if_neg (by omega), if_neg (by omega), if_pos q15, if_pos hS]
            refine br_t (by rw [q15]; rfl) ?_
            unfold wY_parse_562
            refine br_t (by rw [q15]; rfl) ?_
            refine expr _ _ (by omega) hc' (fun e he hen hce hq => ?_) (fun h => ?_)
            · unfold wY_parse_582
              refine br_t (nI_pos' (by omega)) (br_t (by rw [q15]; rfl) ?_)
              exact s609 4 e (by decide) (.inr ⟨q15, rfl⟩) he hen hce hq
            · unfold wY_parse_582
              exact br_f (by decide) (hF h _ _ _ _ _)
          · refine br_f (fun h => q15 ((nI_eq (b := 15) (by omega) (by decide)).mp h)) (fail ?_ _ _ _ _ _)
            rw [hnext]; simp only [gr_st]
            have hS' := hS
            simp only [gr_S] at hS'
            by_cases kk : K i = 1
            · rw [if_pos kk, if_neg (by omega)]
            rw [if_neg kk, if_neg n2]
            by_cases kk : K i = 3
            · rw [if_pos kk, if_neg (by omega)]
            rw [if_neg kk]
            by_cases kk : K i = 4
            · rw [if_pos kk, if_neg (by omega)]
            rw [if_neg kk]
            by_cases kk : K i = 5 ∨ K i = 6
            · rw [if_pos kk, if_neg (by omega)]
            rw [if_neg kk, if_neg q7, if_neg q9, if_neg n10, if_neg q11]
            by_cases kk : K i = 12
            · rw [if_pos kk, if_neg (by omega)]
            rw [if_neg kk]
            by_cases kk : K i = 13
            · rw [if_pos kk, if_neg (by omega)]
            rw [if_neg kk]
            by_cases kk : K i = 14
            · rw [if_pos kk, if_neg (by omega)]
            rw [if_neg kk, if_neg q15, if_neg n16, if_neg n17]
  sorry
