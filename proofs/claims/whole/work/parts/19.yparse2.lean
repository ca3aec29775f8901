variable {g_n g_limit g_status g_trapCode g_exec g_top g_outN g_pc g_evEnd g_rq g_re : Int32} {b_kind b_val b_bod b_par b_lnk b_st b_si b_stk b_out b_abody b_apar b_aret b_avar b_apq b_ape b_tk b_tv b_tq b_te : Nat → Int32}
/-- one token of the reference's parse, behind the change of declarations to statements -/
theorem yp_167 {post : Int32 → SY → Prop} {J : Int32 → Int32 → Int32 → Int32 → (Nat → Int32) → (Nat → Int32) → (Nat → Int32) → (Nat → Int32) → (Nat → Int32) → (Nat → Int32) → (Nat → Int32) → (Nat → Int32) → (Nat → Int32) → (Nat → Int32) → (Nat → Int32) → (Nat → Int32) → (Nat → Int32) → (Nat → Int32) → (Nat → Int32) → (Nat → Int32) → (Nat → Int32) → (Nat → Int32) → (Nat → Int32) → Prop} {K : Nat → Nat} {n i g t p b : Nat} {L : List (Nat × Nat)} {bo pa lk st si : Nat → Int32} (h256 : n ≤ 256) (htk : ∀ i, i < n → b_kind i = nI (K i) ∧ 1 ≤ K i ∧ K i ≤ 26)
    (h1 : 1 ≤ i) (hin : i < n) (hc : gr_cf K i = some ((t, p) :: L, 0)) (hcb : gr_cb ((t, p) :: L) = some b) (hb : b < i) (hkb : K b = 1)
    (has : yp_as st si ((gr_n (K i) t, p) :: L)) (hb1 : ∀ j, j < i → bo j = yb_v K j) (hb2 : ∀ j, i ≤ j → j < n → bo j = -1) (hp : ∀ b, b < i → K b = 1 → pa b = yb_p (gr_pa K b)) (hl : lo_L K i lk)
    (hF : gr_cf K n ≠ some ([], 0) → ∀ (bo pa lk st si : Nat → Int32), post 0 (nI n, g_limit, g_status, g_trapCode, g_exec, g_top, g_outN, g_pc, g_evEnd, g_rq, g_re, b_kind, b_val, bo, pa, lk, st, si, b_stk, b_out, b_abody, b_apar, b_aret, b_avar, b_apq, b_ape, b_tk, b_tv, b_tq, b_te))
    (hJ : ∀ (i' : Nat) (L' : List (Nat × Nat)) (bo pa lk st si : Nat → Int32), i < i' → i' ≤ n → gr_cf K i' = some (L', 0) → yp_I K n i' L' bo pa lk st si → J (nI L'.length) (yb_p (gr_cb L')) (nI i') (nI (g + 1)) b_kind b_val bo pa lk st si b_stk b_out b_abody b_apar b_aret b_avar b_apq b_ape b_tk b_tv b_tq b_te) :
    wY_parse_167 post J (nI (L.length + 1)) (nI b) (nI i) (nI g) (nI (gr_n (K i) t)) (nI (K i)) (nI n) g_limit g_status g_trapCode g_exec g_top g_outN g_pc g_evEnd g_rq g_re b_kind b_val (upd bo i (nI b)) pa lk st si b_stk b_out b_abody b_apar b_aret b_avar b_apq b_ape b_tk b_tv b_tq b_te := by
  obtain ⟨k1, k2, k3⟩ := htk i hin
  have hlen := (gr_size i _ _ h1 hc).1
  simp only [List.length_cons] at hlen
  have hso := gr_sorted i _ _ h1 hc
  have hsh := gr_shape i _ _ h1 hc
  have hkd := gr_kinds i _ _ h1 hc
  have hpi : p < i := hso.1
  have hnext := gr_next hc
  have hnt := @gr_n_or (K i) t
  have ht16 : 1 ≤ t ∧ t ≤ 6 := by have := hkd.1; simp only at this; omega
  have iS : vp_in (nI (L.length + 1)) 256 := vp_in_nI (by omega) (by decide)
  have iL : vp_in (nI L.length) 256 := vp_in_nI (by omega) (by decide)
  have iI : vp_in (nI i) 256 := vp_in_nI (by omega) (by decide)
  have iP : vp_in (nI p) 256 := vp_in_nI (by omega) (by decide)
  have cS : (nI (L.length + 1)).toNatClampNeg = L.length + 1 := nI_clamp (by omega)
  have cL : (nI L.length).toNatClampNeg = L.length := nI_clamp (by omega)
  have cI : (nI i).toNatClampNeg = i := nI_clamp (by omega)
  have cP : (nI p).toNatClampNeg = p := nI_clamp (by omega)
  have pS : nI (L.length + 1) - 1 = nI L.length := nI_pred _
  have dS : nI (L.length + 1) + (-1) = nI L.length := by rw [li_d1 (by omega)]; rfl
  have fail : gr_cf K (i + 1) = none → ∀ (bo pa lk st si : Nat → Int32), post 0 (nI n, g_limit, g_status, g_trapCode, g_exec, g_top, g_outN, g_pc, g_evEnd, g_rq, g_re, b_kind, b_val, bo, pa, lk, st, si, b_stk, b_out, b_abody, b_apar, b_aret, b_avar, b_apq, b_ape, b_tk, b_tv, b_tq, b_te) := fun h => hF (xc_none h hin)
  have hv : K i ≠ 1 → upd bo i (nI b) = upd bo i (yb_v K i) := by
    intro hk
    have : yb_v K i = nI b := by
      unfold yb_v
      rw [if_neg hk, hc]
      simp [hcb]
    rw [this]
  have hp' : K i ≠ 1 → ∀ b, b < i + 1 → K b = 1 → pa b = yb_p (gr_pa K b) := by
    intro hk b' hb' hkb'
    by_cases e : b' = i
    · subst e; exact absurd hkb' hk
    · exact hp b' (by omega) hkb'
  have nox : ∀ q, i + 1 ≤ q → q < i + 1 → K q ≠ 1 ∧ ∃ L m, gr_cf K q = some (L, m + 1) := fun q h5 h6 => by omega
  -- a step to the next token
  have stay : ∀ (L' : List (Nat × Nat)) (lk st si : Nat → Int32), K i ≠ 1 → gr_cf K (i + 1) = some (L', 0) → lo_L K (i + 1) lk → yp_as st si L' → J (nI L'.length) (yb_p (gr_cb L')) (nI (i + 1)) (nI (g + 1)) b_kind b_val (upd bo i (nI b)) pa lk st si b_stk b_out b_abody b_apar b_aret b_avar b_apq b_ape b_tk b_tv b_tq b_te := by
    intro L' lk st si hk hc' hl' has'
    exact hJ (i + 1) L' _ _ _ _ _ (by omega) hin hc' (yp_mk has' hb1 hb2 (hv hk) (hp' hk) hl' (Nat.le_refl _) hin nox)
  -- an expression behind the token
  have expr : ∀ (P : Int32 → Prop) (L' : List (Nat × Nat)), K i ≠ 1 → gr_cf K (i + 1) = some (L', 1) → (∀ e, i + 1 ≤ e → e ≤ n → gr_cf K e = some (L', 0) → (∀ q, i + 1 ≤ q → q < e → K q ≠ 1 ∧ ∃ L m, gr_cf K q = some (L, m + 1)) → P (nI e)) → (gr_cf K n ≠ some ([], 0) → P (-1)) →
      wpY_exprEnd P (nI n, g_limit, g_status, g_trapCode, g_exec, g_top, g_outN, g_pc, g_evEnd, g_rq, g_re, b_kind, b_val, upd bo i (nI b), pa, lk, st, si, b_stk, b_out, b_abody, b_apar, b_aret, b_avar, b_apq, b_ape, b_tk, b_tv, b_tq, b_te) (nI i + 1) := by
    intro P L' hk hc' hP hN
    rw [nI_1]
    refine ye_end h256 htk hin ?_
    cases he : ye_e K (n - (i + 1)) (i + 1) 1 with
    | none => exact hN (ye_n (n - (i + 1)) (i + 1) 1 L' (by omega) hc' he)
    | some e =>
      obtain ⟨a1, a2, a3, a4⟩ := ye_s (n - (i + 1)) (i + 1) 1 L' e hc' he
      refine hP e a1 (by omega) a3 (fun q h5 h6 => ?_)
      have := a4 q h5 h6
      exact ⟨by omega, L', this.2⟩
  have inexpr : ∀ (L' : List (Nat × Nat)) (st si : Nat → Int32), K i ≠ 1 → gr_cf K (i + 1) = some (L', 1) → yp_as st si L' → lo_L K (i + 1) lk → ∀ e, i + 1 ≤ e → e ≤ n → gr_cf K e = some (L', 0) → (∀ q, i + 1 ≤ q → q < e → K q ≠ 1 ∧ ∃ L m, gr_cf K q = some (L, m + 1)) →
      J (nI L'.length) (yb_p (gr_cb L')) (nI e) (nI (g + 1)) b_kind b_val (upd bo i (nI b)) pa lk st si b_stk b_out b_abody b_apar b_aret b_avar b_apq b_ape b_tk b_tv b_tq b_te := by
    intro L' st si hk hc' has' hl' e he hen hce hq
    exact hJ e L' _ _ _ _ _ (by omega) hen hce (yp_mk has' hb1 hb2 (hv hk) (hp' hk) hl' he hen hq)
  have ln : ¬ gr_cl (K i) t → lo_L K (i + 1) lk := by
    intro h
    refine lo_L_n hl (fun t' p' L' hc2 => ?_)
    rw [hc] at hc2
    injection hc2 with hc2
    injection hc2 with hc2 _
    injection hc2 with hc2 _
    injection hc2 with hc2 _
    subst hc2; exact h
  have lw : lo_L K (i + 1) (upd lk p (nI i)) := lo_L_w hl hc
  have cbn : ∀ L', gr_cb L' = some b → yb_p (gr_cb L') = nI b := fun L' h => by rw [h]; rfl
  have ncl : ∀ c, K i = c → c ≠ 1 → c ≠ 16 → c ≠ 2 → c ≠ 14 → c ≠ 17 → ¬ gr_cl (K i) t := by
    intro c e a1 a2 a3 a4 a5 h
    simp only [gr_cl, gr_c5] at h
    omega
  -- the statements
  have s507 : gr_S (gr_n (K i) t) → K i ≠ 2 → K i ≠ 10 → K i ≠ 16 → K i ≠ 17 → wY_parse_507 post J (nI (L.length + 1)) (nI b) (nI i) (nI g) (nI (K i)) (nI n) g_limit g_status g_trapCode g_exec g_top g_outN g_pc g_evEnd g_rq g_re b_kind b_val (upd bo i (nI b)) pa lk st si b_stk b_out b_abody b_apar b_aret b_avar b_apq b_ape b_tk b_tv b_tq b_te := by
    intro hS n2 n10 n16 n17
    have hcb' : gr_cb ((gr_n (K i) t, p) :: L) = some b := by rw [gr_cb_t gr_n_t]; exact hcb
    by_cases q7 : K i = 7 ∨ K i = 8
    · have hc' : gr_cf K (i + 1) = some ((gr_n (K i) t, p) :: L, 1) := by
        rw [hnext]; simp only [gr_st]
        rw [if_neg (by omega), if_neg (by omega), if_neg (by omega), if_neg (by omega), if_neg (by omega), if_pos q7, if_pos hS]
      have s521 : wY_parse_521 post J (nI (L.length + 1)) (nI b) (nI i) (nI g) (nI n) g_limit g_status g_trapCode g_exec g_top g_outN g_pc g_evEnd g_rq g_re b_kind b_val (upd bo i (nI b)) pa lk st si b_stk b_out b_abody b_apar b_aret b_avar b_apq b_ape b_tk b_tv b_tq b_te := by
        unfold wY_parse_521
        refine expr _ _ (by omega) hc' (fun e he hen hce hq => br_t (nI_pos' (by omega)) (nm_r (nI_1 g) ?_)) (fun h => br_f (by decide) (hF h _ _ _ _ _))
        have := inexpr _ st si (by omega) hc' has (ln (fun h => by simp only [gr_cl, gr_c5] at h; omega)) e he hen hce hq
        rw [cbn _ hcb'] at this
        exact this
      unfold wY_parse_507
      rcases q7 with q | q
      · exact br_t (by rw [q]; rfl) s521
      · exact br_f (by rw [q]; decide) (br_t (by rw [q]; rfl) s521)
    · unfold wY_parse_507
      refine br_f (fun h => q7 (.inl ((nI_eq (b := 7) (by omega) (by decide)).mp h))) (br_f (fun h => q7 (.inr ((nI_eq (b := 8) (by omega) (by decide)).mp h))) ?_)
      by_cases q9 : K i = 9
      · have hc' : gr_cf K (i + 1) = some ((gr_n (K i) t, p) :: L, 0) := by
          rw [hnext]; simp only [gr_st]
          rw [if_neg (by omega), if_neg (by omega), if_neg (by omega), if_neg (by omega), if_neg (by omega), if_neg q7, if_pos q9, if_pos hS]
        refine br_t (by rw [q9]; rfl) (nm_r (nI_1 i) (nm_r (nI_1 g) ?_))
        have := stay _ lk st si (by omega) hc' (ln (fun h => by simp only [gr_cl, gr_c5] at h; omega)) has
        rw [cbn _ hcb'] at this
        exact this
      · refine br_f (fun h => q9 ((nI_eq (b := 9) (by omega) (by decide)).mp h)) ?_
        -- CALL and IF
        have s609 : ∀ (u e : Nat), u < 10 → (K i = 11 ∧ u = 6 ∧ e = i + 1 ∨ K i = 15 ∧ u = 4) → i + 1 ≤ e → e ≤ n → gr_cf K e = some ((u, i) :: (gr_n (K i) t, p) :: L, 0) → (∀ q, i + 1 ≤ q → q < e → K q ≠ 1 ∧ ∃ L m, gr_cf K q = some (L, m + 1)) →
            wY_parse_609 post J (nI (L.length + 1)) (nI b) (nI i) (nI g) (nI e) (nI u) (nI (L.length + 1)) (nI n) g_limit g_status g_trapCode g_exec g_top g_outN g_pc g_evEnd g_rq g_re b_kind b_val (upd bo i (nI b)) pa lk st si b_stk b_out b_abody b_apar b_aret b_avar b_apq b_ape b_tk b_tv b_tq b_te := by
          intro u e hu hue he hen hce hq
          unfold wY_parse_609
          rw [cS]
          refine ⟨iS, nm_e ⟨iS, nm_e (nm_r (nI_1 _) (nm_r (nI_1 g) ?_))⟩⟩
          have := hJ e ((u, i) :: (gr_n (K i) t, p) :: L) _ _ _ (upd st (L.length + 1) (nI u)) (upd si (L.length + 1) (nI i)) (by omega) hen hce (yp_mk ⟨lo_us, lo_us, yp_as_u has (by simp) (by simp)⟩ hb1 hb2 (hv (by omega)) (hp' (by omega)) (ln (fun h => by simp only [gr_cl, gr_c5] at h; omega)) he hen hq)
          rw [cbn _ (by rw [gr_cb_456 (by omega)]; exact hcb')] at this
          exact this
        by_cases q11 : K i = 11
        · have hc' : gr_cf K (i + 1) = some ((6, i) :: (gr_n (K i) t, p) :: L, 0) := by
            rw [hnext]; simp only [gr_st]
            rw [if_neg (by omega), if_neg (by omega), if_neg (by omega), if_neg (by omega), if_neg (by omega), if_neg q7, if_neg q9, if_neg (by omega), if_pos q11, if_pos hS]
          refine br_t (by rw [q11]; rfl) ?_
          unfold wY_parse_562
          refine br_f (by rw [q11]; decide) ?_
          unfold wY_parse_582
          rw [nI_1]
          refine br_t (nI_pos' (by omega)) (br_f (by rw [q11]; decide) ?_)
          exact s609 6 (i + 1) (by decide) (.inl ⟨q11, rfl, rfl⟩) (Nat.le_refl _) hin hc' nox
        · refine br_f (fun h => q11 ((nI_eq (b := 11) (by omega) (by decide)).mp h)) ?_
          by_cases q15 : K i = 15
          · have hc' : gr_cf K (i + 1) = some ((4, i) :: (gr_n (K i) t, p) :: L, 1) := by
              rw [hnext]; simp only [gr_st]
              rw [if_neg (by omega), if_neg (by omega), if_neg (by omega), if_neg (by omega), if_neg (by omega), if_neg q7, if_neg q9, if_neg (by omega), if_neg q11, if_neg (by omega), if_neg (by omega), if_neg (by omega), if_pos q15, if_pos hS]
            refine br_t (by rw [q15]; rfl) ?_
            unfold wY_parse_562
            refine br_t (by rw [q15]; rfl) ?_
            refine expr _ _ (by omega) hc' (fun e he hen hce hq => ?_) (fun h => ?_)
            · unfold wY_parse_582
              refine br_t (nI_pos' (by omega)) (br_t (by rw [q15]; rfl) ?_)
              exact s609 4 e (by decide) (.inr ⟨q15, rfl⟩) he hen hce hq
            · unfold wY_parse_582
              exact br_f (by decide) (hF h _ _ _ _ _)
          · refine br_f (fun h => q15 ((nI_eq (b := 15) (by omega) (by decide)).mp h)) (fail ?_ _ _ _ _ _)
            rw [hnext]; simp only [gr_st]
            have hS' := hS
            simp only [gr_S] at hS'
            by_cases kk : K i = 1
            · rw [if_pos kk, if_neg (by omega)]
            rw [if_neg kk, if_neg n2]
            by_cases kk : K i = 3
            · rw [if_pos kk, if_neg (by omega)]
            rw [if_neg kk]
            by_cases kk : K i = 4
            · rw [if_pos kk, if_neg (by omega)]
            rw [if_neg kk]
            by_cases kk : K i = 5 ∨ K i = 6
            · rw [if_pos kk, if_neg (by omega)]
            rw [if_neg kk, if_neg q7, if_neg q9, if_neg n10, if_neg q11]
            by_cases kk : K i = 12
            · rw [if_pos kk, if_neg (by omega)]
            rw [if_neg kk]
            by_cases kk : K i = 13
            · rw [if_pos kk, if_neg (by omega)]
            rw [if_neg kk]
            by_cases kk : K i = 14
            · rw [if_pos kk, if_neg (by omega)]
            rw [if_neg kk, if_neg q15, if_neg n16, if_neg n17]
  have f507 : K i ≠ 7 → K i ≠ 8 → K i ≠ 9 → K i ≠ 11 → K i ≠ 15 → gr_cf K (i + 1) = none → wY_parse_507 post J (nI (L.length + 1)) (nI b) (nI i) (nI g) (nI (K i)) (nI n) g_limit g_status g_trapCode g_exec g_top g_outN g_pc g_evEnd g_rq g_re b_kind b_val (upd bo i (nI b)) pa lk st si b_stk b_out b_abody b_apar b_aret b_avar b_apq b_ape b_tk b_tv b_tq b_te := by
    intro a1 a2 a3 a4 a5 h
    unfold wY_parse_507
    exact br_f (fun h => a1 ((nI_eq (b := 7) (by omega) (by decide)).mp h)) (br_f (fun h => a2 ((nI_eq (b := 8) (by omega) (by decide)).mp h)) (br_f (fun h => a3 ((nI_eq (b := 9) (by omega) (by decide)).mp h)) (br_f (fun h => a4 ((nI_eq (b := 11) (by omega) (by decide)).mp h)) (br_f (fun h => a5 ((nI_eq (b := 15) (by omega) (by decide)).mp h)) (fail h _ _ _ _ _)))))
  have nf : ∀ c, c ≤ 26 → K i ≠ c → ¬ nI (K i) = nI c := fun c hc h h2 => h ((nI_eq (by omega) (by omega)).mp h2)
  have hcb' : gr_cb ((gr_n (K i) t, p) :: L) = some b := by rw [gr_cb_t gr_n_t]; exact hcb
  have hsi : si L.length = nI p := has.2.1
  unfold wY_parse_167
  by_cases t1 : gr_n (K i) t = 1
  · have ht : t = 1 ∧ (K i = 3 ∨ K i = 4) := by
      have : gr_n (K i) t = 1 := t1
      unfold gr_n at this
      split at this <;> omega
    refine br_t (by rw [t1]; rfl) ?_
    by_cases q4 : K i = 4
    · have hc' : gr_cf K (i + 1) = some ((3, i) :: (gr_n (K i) t, p) :: L, 0) := by
        rw [hnext]; simp only [gr_st]
        rw [if_neg (by omega), if_neg (by omega), if_neg (by omega), if_pos q4, if_pos ht.1]
      refine br_t (by rw [q4]; rfl) ?_
      rw [cS]
      refine ⟨iS, nm_e ⟨iS, nm_e (nm_r (nI_1 _) (nm_r (nI_1 i) (nm_r (nI_1 g) ?_)))⟩⟩
      have := stay _ lk (upd st (L.length + 1) (nI 3)) (upd si (L.length + 1) (nI i)) (by omega) hc' (ln (ncl 4 q4 (by decide) (by decide) (by decide) (by decide) (by decide))) ⟨lo_us, lo_us, yp_as_u has (by simp) (by simp)⟩
      rw [cbn _ (by rw [gr_cb_456 (by omega)]; exact hcb')] at this
      exact this
    · have q3 : K i = 3 := by omega
      have hc' : gr_cf K (i + 1) = some ((gr_n (K i) t, p) :: L, 0) := by
        rw [hnext]; simp only [gr_st]
        rw [if_neg (by omega), if_neg (by omega), if_pos q3, if_pos ht.1]
      refine br_f (nf 4 (by decide) q4) (nm_r (nI_1 i) (nm_r (nI_1 g) ?_))
      have := stay _ lk st si (by omega) hc' (ln (ncl 3 q3 (by decide) (by decide) (by decide) (by decide) (by decide))) has
      rw [cbn _ hcb'] at this
      exact this
  · refine br_f (fun h => t1 ((nI_eq (b := 1) (by omega) (by decide)).mp h)) ?_
    by_cases t3 : gr_n (K i) t = 3
    · have ht : t = 3 := by omega
      subst ht
      refine br_t (by rw [t3]; rfl) ?_
      by_cases q1 : K i = 1
      · have hc' : gr_cf K (i + 1) = some ((1, i) :: L, 0) := by
          rw [hnext]; simp [gr_st, q1]
        refine br_t (by rw [q1]; rfl) ?_
        rw [pS, cL, hsi, cP, cI, nI_1]
        refine ⟨iL, iP, nm_e ⟨iL, nm_e ⟨iL, nm_e ⟨iI, nm_e ⟨iI, nm_e (nm_e (nm_r (nI_1 g) ?_))⟩⟩⟩⟩⟩
        have hpa : gr_pa K i = some b := by unfold gr_pa; rw [hc]; exact hcb
        have huu : upd (upd bo i (nI b)) i (nI i) = upd bo i (yb_v K i) := by
          funext j
          by_cases e : j = i
          · subst e; rw [lo_us, lo_us]; unfold yb_v; rw [if_pos q1]
          · rw [lo_un e, lo_un e, lo_un e]
        have := hJ (i + 1) ((1, i) :: L) (upd (upd bo i (nI b)) i (nI i)) (upd pa i (nI b)) (upd lk p (nI i)) (upd st L.length (nI 1)) (upd si L.length (nI i)) (by omega) hin hc'
          (yp_mk ⟨lo_us, lo_us, yp_as_u has.2.2 (Nat.le_refl _) (Nat.le_refl _)⟩ hb1 hb2 huu (fun b' hb' hkb' => by
            by_cases e : b' = i
            · subst e; rw [lo_us, hpa]; rfl
            · rw [lo_un e]; exact hp b' (by omega) hkb') lw (Nat.le_refl _) hin nox)
        rw [gr_cb_12 (.inl rfl)] at this
        exact this
      · refine br_f (nf 1 (by decide) q1) ?_
        by_cases q5 : K i = 5 ∨ K i = 6
        · have hc' : gr_cf K (i + 1) = some ((gr_n (K i) 3, p) :: L, 0) := by
            rw [hnext]; rcases q5 with q | q <;> simp [gr_st, q]
          have := stay _ lk st si (by omega) hc' (ln (fun h => by simp only [gr_cl, gr_c5] at h; omega)) has
          rw [cbn _ hcb'] at this
          rcases q5 with q | q
          · exact br_t (by rw [q]; rfl) (nm_r (nI_1 i) (nm_r (nI_1 g) this))
          · exact br_f (by rw [q]; decide) (br_t (by rw [q]; rfl) (nm_r (nI_1 i) (nm_r (nI_1 g) this)))
        · refine br_f (nf 5 (by decide) (by omega)) (br_f (nf 6 (by decide) (by omega)) (fail ?_ _ _ _ _ _))
          rw [hnext]
          cases hh : gr_st (K i) i ((3, p) :: L, 0) with
          | none => rfl
          | some c1 =>
            exfalso
            rcases gr_cases hh with ⟨L2, e2, e3, r1, r2, h3⟩ | ⟨t1, p1, L2, e3, r1, r2, h3⟩ | ⟨t1, p1, L2, u, e3, r1, r2, h3⟩ | ⟨t1, p1, L2, u, r1, r2, h3⟩ | ⟨t1, p1, L2, r1, r2, h3⟩
            · cases r1
            · cases r1; simp only [gr_c2, gr_S] at h3; omega
            · cases r1; simp only [gr_c3, gr_S] at h3; omega
            · cases r1; simp only [gr_c4] at h3; omega
            · cases r1; simp only [gr_c5] at h3; omega
    · refine br_f (fun h => t3 ((nI_eq (b := 3) (by omega) (by decide)).mp h)) ?_
      by_cases t6 : gr_n (K i) t = 6
      · have ht : t = 6 := by omega
        subst ht
        refine br_t (by rw [t6]; rfl) ?_
        by_cases q12 : K i = 12
        · have hc' : gr_cf K (i + 1) = some ((gr_n (K i) 6, p) :: L, 1) := by
            rw [hnext]; simp [gr_st, q12]
          refine br_t (by rw [q12]; rfl) ?_
          refine expr _ _ (by omega) hc' (fun e he hen hce hq => br_t (nI_pos' (by omega)) (nm_r (nI_1 g) ?_)) (fun h => br_f (by decide) (hF h _ _ _ _ _))
          have := inexpr _ st si (by omega) hc' has (ln (ncl 12 q12 (by decide) (by decide) (by decide) (by decide) (by decide))) e he hen hce hq
          rw [cbn _ hcb'] at this
          exact this
        · refine br_f (nf 12 (by decide) q12) ?_
          by_cases q13 : K i = 13
          · have hc' : gr_cf K (i + 1) = some ((gr_n (K i) 6, p) :: L, 0) := by
              rw [hnext]; simp [gr_st, q13]
            refine br_t (by rw [q13]; rfl) (nm_r (nI_1 i) (nm_r (nI_1 g) ?_))
            have := stay _ lk st si (by omega) hc' (ln (ncl 13 q13 (by decide) (by decide) (by decide) (by decide) (by decide))) has
            rw [cbn _ hcb'] at this
            exact this
          · refine br_f (nf 13 (by decide) q13) ?_
            by_cases q14 : K i = 14
            · have hc' : gr_cf K (i + 1) = some (L, 0) := by
                rw [hnext]; simp [gr_st, q14]
              refine br_t (by rw [q14]; rfl) ?_
              rw [pS, cL, hsi, cP]
              refine ⟨iL, iP, nm_e (nm_r dS (nm_r (nI_1 i) (nm_r (nI_1 g) ?_)))⟩
              have := stay L (upd lk p (nI i)) st si (by omega) hc' lw has.2.2
              rw [cbn _ (by rw [← hcb, gr_cb_456 (by omega)])] at this
              exact this
            · refine br_f (nf 14 (by decide) q14) (fail ?_ _ _ _ _ _)
              rw [hnext]
              cases hh : gr_st (K i) i ((6, p) :: L, 0) with
              | none => rfl
              | some c1 =>
                exfalso
                rcases gr_cases hh with ⟨L2, e2, e3, r1, r2, h3⟩ | ⟨t1, p1, L2, e3, r1, r2, h3⟩ | ⟨t1, p1, L2, u, e3, r1, r2, h3⟩ | ⟨t1, p1, L2, u, r1, r2, h3⟩ | ⟨t1, p1, L2, r1, r2, h3⟩
                · cases r1
                · cases r1; simp only [gr_c2, gr_S] at h3; omega
                · cases r1; simp only [gr_c3, gr_S] at h3; omega
                · cases r1; simp only [gr_c4] at h3; omega
                · cases r1; simp only [gr_c5] at h3; omega
      · refine br_f (fun h => t6 ((nI_eq (b := 6) (by omega) (by decide)).mp h)) ?_
        have hS : gr_S (gr_n (K i) t) := by simp only [gr_S]; omega
        -- no step from here
        have nos : (K i = 2 → gr_n (K i) t ≠ 2) → (K i = 10 → gr_n (K i) t ≠ 2) → (K i = 16 → t ≠ 4) → (K i = 17 → t ≠ 4 ∧ t ≠ 5) → K i ≠ 7 → K i ≠ 8 → K i ≠ 9 → K i ≠ 11 → K i ≠ 15 → gr_cf K (i + 1) = none := by
          intro m2 m10 m16 m17 m7 m8 m9 m11 m15
          rw [hnext]
          cases hh : gr_st (K i) i ((t, p) :: L, 0) with
          | none => rfl
          | some c1 =>
            exfalso
            simp only [gr_S] at hS
            rcases gr_cases hh with ⟨L2, e2, e3, r1, r2, h3⟩ | ⟨t1, p1, L2, e3, r1, r2, h3⟩ | ⟨t1, p1, L2, u, e3, r1, r2, h3⟩ | ⟨t1, p1, L2, u, r1, r2, h3⟩ | ⟨t1, p1, L2, r1, r2, h3⟩
            · cases r1
            · cases r1; simp only [gr_c2] at h3; omega
            · cases r1; simp only [gr_c3] at h3; omega
            · cases r1; simp only [gr_c4] at h3; omega
            · cases r1; simp only [gr_c5] at h3; omega
        have any507 : (K i = 2 → gr_n (K i) t ≠ 2) → (K i = 10 → gr_n (K i) t ≠ 2) → (K i = 16 → t ≠ 4) → (K i = 17 → t ≠ 4 ∧ t ≠ 5) → wY_parse_507 post J (nI (L.length + 1)) (nI b) (nI i) (nI g) (nI (K i)) (nI n) g_limit g_status g_trapCode g_exec g_top g_outN g_pc g_evEnd g_rq g_re b_kind b_val (upd bo i (nI b)) pa lk st si b_stk b_out b_abody b_apar b_aret b_avar b_apq b_ape b_tk b_tv b_tq b_te := by
          intro m2 m10 m16 m17
          by_cases q : K i = 2 ∨ K i = 10 ∨ K i = 16 ∨ K i = 17
          · exact f507 (by omega) (by omega) (by omega) (by omega) (by omega) (nos m2 m10 m16 m17 (by omega) (by omega) (by omega) (by omega) (by omega))
          · exact s507 hS (by omega) (by omega) (by omega) (by omega)
        by_cases t2 : gr_n (K i) t = 2
        · have ht : t = 1 ∨ t = 2 := by omega
          have hbp : b = p := by rw [gr_cb_12 ht] at hcb; injection hcb with hcb; exact hcb.symm
          refine br_t (by rw [t2]; rfl) ?_
          by_cases q2 : K i = 2
          · have hc' : gr_cf K (i + 1) = some (L, 0) := by
              rw [hnext]; simp only [gr_st]
              rw [if_neg (by omega), if_pos q2, if_pos t2]
            have hpa : gr_cb L = gr_pa K p := by
              by_cases p0 : p = 0
              · subst p0
                cases L with
                | nil => simp [gr_pa, gr_cf, gr_cb]
                | cons f L => have h5 : f.2 < 0 := hso.2.1; omega
              · obtain ⟨q, hq⟩ := (lo_suf i _ _ h1 hc).1 ht p0
                unfold gr_pa
                simp only at hq
                rw [hq]
                simp only
                rw [gr_cb_456 (by omega)]
            refine br_t (by rw [q2]; rfl) ?_
            rw [pS, cL, hsi, cP]
            refine ⟨iL, iP, nm_e ⟨vp_in_nI (by omega) (by decide), nm_r (show _ = yb_p (gr_cb L) by rw [nI_clamp (by omega), hpa, ← hbp]; exact hp b hb hkb) (nm_r dS (nm_r (nI_1 i) (nm_r (nI_1 g) ?_)))⟩⟩
            exact stay L (upd lk p (nI i)) st si (by omega) hc' lw has.2.2
          · refine br_f (nf 2 (by decide) q2) ?_
            unfold wY_parse_401
            refine br_t (by rw [t2]; rfl) ?_
            by_cases q10 : K i = 10
            · have hc' : gr_cf K (i + 1) = some ((gr_n (K i) t, p) :: L, 0) := by
                rw [hnext]; simp only [gr_st]
                rw [if_neg (by omega), if_neg (by omega), if_neg (by omega), if_neg (by omega), if_neg (by omega), if_neg (by omega), if_neg (by omega), if_pos q10, if_pos t2]
              refine br_t (by rw [q10]; rfl) (nm_r (nI_1 i) (nm_r (nI_1 g) ?_))
              have := stay _ lk st si (by omega) hc' (ln (ncl 10 q10 (by decide) (by decide) (by decide) (by decide) (by decide))) has
              rw [cbn _ hcb'] at this
              exact this
            · refine br_f (nf 10 (by decide) q10) ?_
              unfold wY_parse_420
              refine br_f (by rw [t2]; decide) ?_
              unfold wY_parse_471
              refine br_t (by rw [t2]; decide) (any507 (by omega) (by omega) (by omega) (by omega))
        · refine br_f (fun h => t2 ((nI_eq (b := 2) (by omega) (by decide)).mp h)) ?_
          have ht : t = gr_n (K i) t ∧ (t = 4 ∨ t = 5) := by simp only [gr_S] at hS; omega
          unfold wY_parse_401
          refine br_f (fun h => t2 ((nI_eq (b := 2) (by omega) (by decide)).mp h)) ?_
          have s471 : (K i = 16 → t ≠ 4) → wY_parse_471 post J (nI (L.length + 1)) (nI b) (nI i) (nI g) (nI (gr_n (K i) t)) (nI (K i)) (nI n) g_limit g_status g_trapCode g_exec g_top g_outN g_pc g_evEnd g_rq g_re b_kind b_val (upd bo i (nI b)) pa lk st si b_stk b_out b_abody b_apar b_aret b_avar b_apq b_ape b_tk b_tv b_tq b_te := by
            intro m16
            unfold wY_parse_471
            refine br_f (nI_nlt (b := 4) (by omega) (by omega)) ?_
            by_cases q17 : K i = 17
            · have hc' : gr_cf K (i + 1) = some (L, 0) := by
                rw [hnext]; simp only [gr_st]
                rw [if_neg (by omega), if_neg (by omega), if_neg (by omega), if_neg (by omega), if_neg (by omega), if_neg (by omega), if_neg (by omega), if_neg (by omega), if_neg (by omega), if_neg (by omega), if_neg (by omega), if_neg (by omega), if_neg (by omega), if_neg (by omega), if_pos q17, if_pos ht.2]
              refine br_t (by rw [q17]; rfl) ?_
              rw [pS, cL, hsi, cP]
              refine ⟨iL, iP, nm_e (nm_r dS (nm_r (nI_1 i) (nm_r (nI_1 g) ?_)))⟩
              have := stay L (upd lk p (nI i)) st si (by omega) hc' lw has.2.2
              rw [cbn _ (by rw [← hcb, gr_cb_456 (by omega)])] at this
              exact this
            · exact br_f (nf 17 (by decide) q17) (any507 (fun _ => t2) (fun _ => t2) m16 (by omega))
          unfold wY_parse_420
          by_cases t4 : gr_n (K i) t = 4
          · refine br_t (by rw [t4]; rfl) ?_
            by_cases q16 : K i = 16
            · have ht4 : t = 4 := by omega
              have hc' : gr_cf K (i + 1) = some ((5, i) :: L, 0) := by
                rw [hnext]; simp only [gr_st]
                rw [if_neg (by omega), if_neg (by omega), if_neg (by omega), if_neg (by omega), if_neg (by omega), if_neg (by omega), if_neg (by omega), if_neg (by omega), if_neg (by omega), if_neg (by omega), if_neg (by omega), if_neg (by omega), if_neg (by omega), if_pos q16, if_pos ht4]
              refine br_t (by rw [q16]; rfl) ?_
              rw [pS, cL, hsi, cP]
              refine ⟨iL, iP, nm_e ⟨iL, nm_e ⟨iL, nm_e (nm_r (nI_1 i) (nm_r (nI_1 g) ?_))⟩⟩⟩
              have := stay ((5, i) :: L) (upd lk p (nI i)) (upd st L.length (nI 5)) (upd si L.length (nI i)) (by omega) hc' lw ⟨lo_us, lo_us, yp_as_u has.2.2 (Nat.le_refl _) (Nat.le_refl _)⟩
              rw [cbn _ (by rw [← hcb, gr_cb_456 (by omega), gr_cb_456 (by omega)])] at this
              exact this
            · exact br_f (nf 16 (by decide) q16) (s471 (fun h => absurd h q16))
          · exact br_f (fun h => t4 ((nI_eq (b := 4) (by omega) (by decide)).mp h)) (s471 (fun _ => by omega))
