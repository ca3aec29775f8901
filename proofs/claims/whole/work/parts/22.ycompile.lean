variable {g_n g_limit g_status g_trapCode g_exec g_top g_outN g_pc g_evEnd g_rq g_re : Int32} {b_kind b_val b_bod b_par b_lnk b_st b_si b_stk b_out b_abody b_apar b_aret b_avar b_apq b_ape b_tk b_tv b_tq b_te : Nat → Int32}
theorem yn_lk {K V : Nat → Nat} {n x d : Nat} : ∀ (h b : Nat), gr_lf K V n x h b = some d → d < n ∧ V d = x ∧ gr_D (K d) := by
  intro h
  induction h with
  | zero => intro b h2; simp [gr_lf] at h2
  | succ h ih =>
    intro b h2
    simp only [gr_lf] at h2
    cases hd : gr_dc K V n b x with
    | some d3 =>
      rw [hd] at h2; simp only at h2; injection h2 with h2; subst h2
      have := gr_dc_some hd
      exact ⟨this.1, this.2.2⟩
    | none =>
      rw [hd] at h2
      simp only at h2
      cases hp : gr_pa K b with
      | none => rw [hp] at h2; cases h2
      | some b' => rw [hp] at h2; exact ih b' h2
theorem yn_205 {post : Int32 → Prop} {J : Int32 → Prop} {i k d : Nat} (hk : k ≤ 26) (hd : d ≤ 26) (h1 : (k = 9 → d = 10) → J (nI (i + 1))) (h2 : ¬ (k = 9 → d = 10) → post 1) : wY_badName_205 post J (nI i) (nI k) (nI d) g_n g_limit g_status g_trapCode g_exec g_top g_outN g_pc g_evEnd g_rq g_re b_kind b_val b_bod b_par b_lnk b_st b_si b_stk b_out b_abody b_apar b_aret b_avar b_apq b_ape b_tk b_tv b_tq b_te := by
  unfold wY_badName_205
  by_cases q : k = 9
  · refine br_t (by rw [q]; rfl) ?_
    by_cases q2 : d = 10
    · exact br_t (by rw [q2]; rfl) (nm_r (nI_1 i) (h1 (fun _ => q2)))
    · exact br_f (fun h => q2 ((nI_eq (b := 10) (by omega) (by decide)).mp h)) (h2 (fun h => q2 (h q)))
  · exact br_f (fun h => q ((nI_eq (b := 9) (by omega) (by decide)).mp h)) (nm_r (nI_1 i) (h1 (fun h => absurd h q)))
theorem yn_178 {post : Int32 → Prop} {J : Int32 → Prop} {i k d : Nat} (hk : k ≤ 26) (hd : d ≤ 26) (h1 : ((k = 11 ∨ k = 13) → d = 4 ∨ d = 6) ∧ (k = 9 → d = 10) → J (nI (i + 1))) (h2 : ¬ (((k = 11 ∨ k = 13) → d = 4 ∨ d = 6) ∧ (k = 9 → d = 10)) → post 1) : wY_badName_178 post J (nI i) (nI k) (nI d) g_n g_limit g_status g_trapCode g_exec g_top g_outN g_pc g_evEnd g_rq g_re b_kind b_val b_bod b_par b_lnk b_st b_si b_stk b_out b_abody b_apar b_aret b_avar b_apq b_ape b_tk b_tv b_tq b_te := by
  have s190 : (k = 11 ∨ k = 13) → wY_badName_190 post J (nI i) (nI k) (nI d) g_n g_limit g_status g_trapCode g_exec g_top g_outN g_pc g_evEnd g_rq g_re b_kind b_val b_bod b_par b_lnk b_st b_si b_stk b_out b_abody b_apar b_aret b_avar b_apq b_ape b_tk b_tv b_tq b_te := by
    intro hk2
    unfold wY_badName_190
    by_cases q4 : d = 4
    · exact br_t (by rw [q4]; rfl) (yn_205 hk hd (fun h => h1 ⟨fun _ => .inl q4, h⟩) (fun h => h2 (fun h3 => h h3.2)))
    · refine br_f (fun h => q4 ((nI_eq (b := 4) (by omega) (by decide)).mp h)) ?_
      by_cases q6 : d = 6
      · exact br_t (by rw [q6]; rfl) (yn_205 hk hd (fun h => h1 ⟨fun _ => .inr q6, h⟩) (fun h => h2 (fun h3 => h h3.2)))
      · exact br_f (fun h => q6 ((nI_eq (b := 6) (by omega) (by decide)).mp h)) (h2 (fun h => by have := h.1 hk2; omega))
  unfold wY_badName_178
  by_cases q : k = 11
  · exact br_t (by rw [q]; rfl) (s190 (.inl q))
  · refine br_f (fun h => q ((nI_eq (b := 11) (by omega) (by decide)).mp h)) ?_
    by_cases q2 : k = 13
    · exact br_t (by rw [q2]; rfl) (s190 (.inr q2))
    · exact br_f (fun h => q2 ((nI_eq (b := 13) (by omega) (by decide)).mp h)) (yn_205 hk hd (fun h => h1 ⟨fun h => by omega, h⟩) (fun h => h2 (fun h3 => h h3.2)))
theorem yn_164 {post : Int32 → Prop} {J : Int32 → Prop} {i k d : Nat} (hk : k ≤ 26) (hd : d ≤ 26) (hk2 : k = 7 ∨ k = 19) (h1 : gr_mk k d → J (nI (i + 1))) (h2 : ¬ gr_mk k d → post 1) : wY_badName_164 post J (nI i) (nI k) (nI d) g_n g_limit g_status g_trapCode g_exec g_top g_outN g_pc g_evEnd g_rq g_re b_kind b_val b_bod b_par b_lnk b_st b_si b_stk b_out b_abody b_apar b_aret b_avar b_apq b_ape b_tk b_tv b_tq b_te := by
  unfold wY_badName_164
  by_cases q3 : d = 3
  · exact br_t (by rw [q3]; rfl) (yn_178 hk hd (fun h => h1 ⟨fun _ => .inl q3, h⟩) (fun h => h2 (fun h3 => h h3.2)))
  · refine br_f (fun h => q3 ((nI_eq (b := 3) (by omega) (by decide)).mp h)) ?_
    by_cases q5 : d = 5
    · exact br_t (by rw [q5]; rfl) (yn_178 hk hd (fun h => h1 ⟨fun _ => .inr q5, h⟩) (fun h => h2 (fun h3 => h h3.2)))
    · exact br_f (fun h => q5 ((nI_eq (b := 5) (by omega) (by decide)).mp h)) (h2 (fun h => by have := h.1 hk2; omega))
theorem yn_29 {post : Int32 → Prop} {J : Int32 → Prop} {K V : Nat → Nat} {n i : Nat} (h256 : n ≤ 256) (htk : ∀ i, i < n → b_kind i = nI (K i) ∧ 1 ≤ K i ∧ K i ≤ 26) (htv : ∀ i, i < n → gr_D (K i) → b_val i = nI (V i) ∧ V i < 16) (hbo : ∀ i, i < n → b_bod i = nI (gr_bo K n i)) (hbl : ∀ i, i < n → gr_bo K n i < n)
    (hi : i < n) (hD : gr_D (K i)) (h1 : (∀ j, i < j → j < n → gr_D (K j) → gr_bo K n j = gr_bo K n i → V j = V i → False) → J (nI (i + 1))) (h2 : ¬ (∀ j, i < j → j < n → gr_D (K j) → gr_bo K n j = gr_bo K n i → V j = V i → False) → post 1) :
    ∀ (d j f : Nat), j + d = n → d < f → i < j → (∀ c, i < c → c < j → gr_D (K c) → gr_bo K n c = gr_bo K n i → V c = V i → False) → wY_badName_29 post J (nI i) (nI n) g_limit g_status g_trapCode g_exec g_top g_outN g_pc g_evEnd g_rq g_re b_kind b_val b_bod b_par b_lnk b_st b_si b_stk b_out b_abody b_apar b_aret b_avar b_apq b_ape b_tk b_tv b_tq b_te f (nI j) := by
  intro d
  induction d with
  | zero =>
    intro j f hj hf hij hno
    have : j = n := by omega
    subst this
    cases f with
    | zero => omega
    | succ f => exact br_t (nI_le (Nat.le_refl _) (by omega)) (nm_r (nI_1 i) (h1 hno))
  | succ d ih =>
    intro j f hj hf hij hno
    cases f with
    | zero => omega
    | succ f =>
      have hjn : j < n := by omega
      obtain ⟨k1, k2, k3⟩ := htk j hjn
      have hin : vp_in (nI j) 256 := vp_in_nI (by omega) (by decide)
      have hin2 : vp_in (nI i) 256 := vp_in_nI (by omega) (by decide)
      have vi := htv i hi hD
      have hbi := hbl i hi
      have hbj := hbl j hjn
      have next : ¬ (gr_D (K j) ∧ gr_bo K n j = gr_bo K n i ∧ V j = V i) → wY_badName_29 post J (nI i) (nI n) g_limit g_status g_trapCode g_exec g_top g_outN g_pc g_evEnd g_rq g_re b_kind b_val b_bod b_par b_lnk b_st b_si b_stk b_out b_abody b_apar b_aret b_avar b_apq b_ape b_tk b_tv b_tq b_te f (nI (j + 1)) := by
        intro h
        refine ih (j + 1) f (by omega) (by omega) (by omega) (fun c hc hcj a1 a2 a3 => ?_)
        by_cases e : c = j
        · subst e; exact h ⟨a1, a2, a3⟩
        · exact hno c hc (by omega) a1 a2 a3
      refine br_f (nI_ge (by omega) (by omega)) ⟨hin, ?_⟩
      rw [nI_clamp (n := j) (by omega), nI_clamp (n := i) (by omega), k1, hbo j hjn, hbo i hi, vi.1]
      refine yn_isd k3 (fun hDj => br_f (by decide) ⟨hin, hin2, ?_⟩) (fun hDj => br_t rfl (nm_r (nI_1 j) (next (fun h => hDj h.1))))
      have vj := htv j hjn hDj
      rw [vj.1]
      by_cases q1 : gr_bo K n j = gr_bo K n i
      · refine br_t (by rw [q1]) ⟨hin, hin2, ?_⟩
        by_cases q2 : V j = V i
        · exact br_t (by rw [q2]) (h2 (fun h => h j hij hjn hDj q1 q2))
        · exact br_f (fun h => q2 ((nI_eq (by omega) (by omega)).mp h)) (nm_r (nI_1 j) (next (fun h => q2 h.2.2)))
      · exact br_f (fun h => q1 ((nI_eq (by omega) (by omega)).mp h)) (nm_r (nI_1 j) (next (fun h => q1 h.2.1)))
theorem yn_bad {post : Int32 → Prop} {K V : Nat → Nat} {n : Nat} (hn : gr_cf K n = some ([], 0)) (h256 : n ≤ 256) (htk : ∀ i, i < n → b_kind i = nI (K i) ∧ 1 ≤ K i ∧ K i ≤ 26) (htv : ∀ i, i < n → xn_nm (K i) → b_val i = nI (V i) ∧ V i < 16)
    (hbo : ∀ i, i < n → b_bod i = nI (gr_bo K n i)) (hpa : ∀ b, b < n → K b = 1 → b_par b = yb_p (gr_pa K b)) (h0 : gr_ND K V n ∧ gr_US K V n → post 0) (h1 : ¬ (gr_ND K V n ∧ gr_US K V n) → post 1) :
    ∀ (d i f : Nat), i + d = n → d < f → (∀ c, c < i → gr_D (K c) → ∀ j, c < j → j < n → gr_D (K j) → gr_bo K n j = gr_bo K n c → V j = V c → False) → (∀ c, c < i → gr_us K V n c) → wY_badName_2 post (nI n) g_limit g_status g_trapCode g_exec g_top g_outN g_pc g_evEnd g_rq g_re b_kind b_val b_bod b_par b_lnk b_st b_si b_stk b_out b_abody b_apar b_aret b_avar b_apq b_ape b_tk b_tv b_tq b_te f (nI i) := by
  have htd : ∀ i, i < n → gr_D (K i) → b_val i = nI (V i) ∧ V i < 16 := fun i hi h => htv i hi (by simp only [gr_D] at h; simp only [xn_nm]; omega)
  have hbl : ∀ i, i < n → gr_bo K n i < n ∧ K (gr_bo K n i) = 1 := by
    intro i hi
    obtain ⟨L, e, hc⟩ := gr_exle hn (Nat.le_of_lt hi)
    have := gr_xbo hn hi hc
    exact ⟨this.2.2, this.2.1⟩
  intro d
  induction d with
  | zero =>
    intro i f hi hf ha hb
    have : i = n := by omega
    subst this
    cases f with
    | zero => omega
    | succ f => exact br_t (nI_le (Nat.le_refl _) (by omega)) (h0 ⟨fun c d h1 h2 h3 h4 h5 h6 => ha c (by omega) h3 d h1 h2 h4 h5 h6, hb⟩)
  | succ d ih =>
    intro i f hi hf ha hb
    cases f with
    | zero => omega
    | succ f =>
      have hin : i < n := by omega
      obtain ⟨k1, k2, k3⟩ := htk i hin
      have hv : vp_in (nI i) 256 := vp_in_nI (by omega) (by decide)
      have hcl : (nI i).toNatClampNeg = i := nI_clamp (by omega)
      have nf : ∀ c, c ≤ 26 → K i ≠ c → ¬ nI (K i) = nI c := fun c hc h h2 => h ((nI_eq (by omega) (by omega)).mp h2)
      have next : (gr_D (K i) → ∀ j, i < j → j < n → gr_D (K j) → gr_bo K n j = gr_bo K n i → V j = V i → False) → gr_us K V n i → wY_badName_2 post (nI n) g_limit g_status g_trapCode g_exec g_top g_outN g_pc g_evEnd g_rq g_re b_kind b_val b_bod b_par b_lnk b_st b_si b_stk b_out b_abody b_apar b_aret b_avar b_apq b_ape b_tk b_tv b_tq b_te f (nI (i + 1)) := by
        intro h3 h4
        refine ih (i + 1) f (by omega) (by omega) (fun c hc => ?_) (fun c hc => ?_)
        · by_cases e : c = i
          · subst e; exact h3
          · exact ha c (by omega)
        · by_cases e : c = i
          · subst e; exact h4
          · exact hb c (by omega)
      refine br_f (nI_ge (by omega) (by omega)) ⟨hv, ?_⟩
      rw [hcl]
      refine nm_r k1 (yn_isd k3 (fun hD => br_f (by decide) (nm_r (nI_1 i) ⟨n, ?_⟩)) (fun hD => br_t rfl ?_))
      · refine yn_29 h256 htk htd hbo (fun i hi => (hbl i hi).1) hin hD (fun h => next (fun _ => h) ?_) (fun h => h1 (fun h2 => h (fun j a1 a2 a3 a4 a5 => h2.1 i j a1 a2 hD a3 a4 a5))) (n - (i + 1)) (i + 1) n (by omega) (by omega) (by omega) (fun c a1 a2 => by omega)
        intro hU
        simp only [gr_U] at hU
        simp only [gr_D] at hD
        omega
      · have use : gr_U (K i) → wY_badName_121 post (wY_badName_2 post (nI n) g_limit g_status g_trapCode g_exec g_top g_outN g_pc g_evEnd g_rq g_re b_kind b_val b_bod b_par b_lnk b_st b_si b_stk b_out b_abody b_apar b_aret b_avar b_apq b_ape b_tk b_tv b_tq b_te f) (nI i) (nI (K i)) (nI n) g_limit g_status g_trapCode g_exec g_top g_outN g_pc g_evEnd g_rq g_re b_kind b_val b_bod b_par b_lnk b_st b_si b_stk b_out b_abody b_apar b_aret b_avar b_apq b_ape b_tk b_tv b_tq b_te := by
          intro hU
          obtain ⟨v1, v2⟩ := htv i hin (by simp only [gr_U] at hU; simp only [xn_nm]; omega)
          have hbb := hbl i hin
          unfold wY_badName_121
          refine ⟨hv, hv, ?_⟩
          rw [hcl, hbo i hin, v1]
          refine yn_decl hn h256 htk htd hbo hpa v2 hbb.1 hbb.2 ?_
          cases hlk : gr_lk K V n (gr_bo K n i) (V i) with
          | none =>
            refine br_f (by decide) (h1 (fun h => ?_))
            obtain ⟨d, h5, _⟩ := h.2 i hin hU
            rw [hlk] at h5; cases h5
          | some r =>
            have hr := yn_lk _ _ hlk
            obtain ⟨m1, m2, m3⟩ := htk r hr.1
            refine br_t (nI_pos' (by omega)) ⟨vp_in_nI (by omega) (by decide), ?_⟩
            rw [show (ye_r (some r)).toNatClampNeg = r from nI_clamp (by omega)]
            refine nm_r m1 ?_
            have ok : gr_mk (K i) (K r) → wY_badName_2 post (nI n) g_limit g_status g_trapCode g_exec g_top g_outN g_pc g_evEnd g_rq g_re b_kind b_val b_bod b_par b_lnk b_st b_si b_stk b_out b_abody b_apar b_aret b_avar b_apq b_ape b_tk b_tv b_tq b_te f (nI (i + 1)) := fun h => next (fun h2 => absurd h2 hD) (fun _ => ⟨r, hlk, h⟩)
            have no : ¬ gr_mk (K i) (K r) → post 1 := by
              intro h
              refine h1 (fun h2 => h ?_)
              obtain ⟨d, h5, h6⟩ := h2.2 i hin hU
              rw [hlk] at h5; injection h5 with h5; subst h5; exact h6
            by_cases q7 : K i = 7
            · exact br_t (by rw [q7]; rfl) (yn_164 k3 m3 (.inl q7) ok no)
            · refine br_f (nf 7 (by decide) q7) ?_
              by_cases q19 : K i = 19
              · exact br_t (by rw [q19]; rfl) (yn_164 k3 m3 (.inr q19) ok no)
              · exact br_f (nf 19 (by decide) q19) (yn_178 k3 m3 (fun h => ok ⟨fun h2 => by omega, h⟩) (fun h => no (fun h2 => h h2.2)))
        by_cases q7 : K i = 7
        · exact br_t (by rw [q7]; rfl) (use (.inl q7))
        refine br_f (nf 7 (by decide) q7) ?_
        by_cases q19 : K i = 19
        · exact br_t (by rw [q19]; rfl) (use (.inr (.inl q19)))
        refine br_f (nf 19 (by decide) q19) ?_
        by_cases q11 : K i = 11
        · exact br_t (by rw [q11]; rfl) (use (.inr (.inr (.inl q11))))
        refine br_f (nf 11 (by decide) q11) ?_
        by_cases q13 : K i = 13
        · exact br_t (by rw [q13]; rfl) (use (.inr (.inr (.inr (.inl q13)))))
        refine br_f (nf 13 (by decide) q13) ?_
        by_cases q9 : K i = 9
        · exact br_t (by rw [q9]; rfl) (use (.inr (.inr (.inr (.inr q9)))))
        refine br_f (nf 9 (by decide) q9) (nm_r (nI_1 i) (next (fun h => absurd h hD) (fun hU => ?_)))
        simp only [gr_U] at hU
        omega
/-- the first statement of a body -/
theorem yk_first6 {post : Int32 → Prop} {K : Nat → Nat} {n b : Nat} {L : List (Nat × Nat)} (hn : gr_cf K n = some ([], 0)) (h256 : n ≤ 256) (htk : ∀ i, i < n → b_kind i = nI (K i) ∧ 1 ≤ K i ∧ K i ≤ 26) (hlk : lo_L K n b_lnk)
    (h : ∀ s, 1 ≤ s → s < n → gr_cf K s = some ((1, b) :: L, 0) → K s ≠ 3 → K s ≠ 4 → gr_P K n s b → post (nI s)) :
    ∀ (d i g f : Nat), n - i ≤ d → d < f → 1 ≤ i → i ≤ n → g + d ≤ 256 → gr_cf K i = some ((1, b) :: L, 0) → wY_firstTop_6 post (nI n) g_limit g_status g_trapCode g_exec g_top g_outN g_pc g_evEnd g_rq g_re b_kind b_val b_bod b_par b_lnk b_st b_si b_stk b_out b_abody b_apar b_aret b_avar b_apq b_ape b_tk b_tv b_tq b_te f (nI i) (nI g) := by
  intro d
  induction d with
  | zero =>
    intro i g f hd hf h1 hin hg hc
    have : i = n := by omega
    subst this; rw [hn] at hc; cases hc
  | succ d ih =>
    intro i g f hd hf h1 hin hg hc
    have hlt : i < n := by
      by_cases e : i = n
      · subst e; rw [hn] at hc; cases hc
      · omega
    cases f with
    | zero => omega
    | succ f =>
      obtain ⟨k1, k2, k3⟩ := htk i hlt
      have hv : vp_in (nI i) 256 := vp_in_nI (by omega) (by decide)
      have hcl : (nI i).toNatClampNeg = i := nI_clamp (by omega)
      refine br_f (nI_ge (b := 256) (by omega) (by decide)) (br_f (nI_ge (by omega) (by omega)) ⟨hv, ?_⟩)
      rw [hcl, k1]
      rcases gr_decl hn h1 hlt hc with ⟨q, hc'⟩ | ⟨q, c, r, a1, a2, a3, a4, a5, ⟨t', a6, a7⟩, a8, a9⟩ | ⟨q3, q4, hP⟩
      · exact br_t (by rw [q]; rfl) (nm_r (nI_1 i) (nm_r (nI_1 g) (ih (i + 1) (g + 1) f (by omega) (by omega) (by omega) (by omega) (by omega) hc')))
      · refine br_f (by rw [q]; decide) ⟨hv, br_t (by rw [q]; rfl) ⟨hv, ?_⟩⟩
        have l1 : b_lnk i = nI c := hlk c 3 i _ (by omega) (by omega) a5 (.inl ⟨a4, rfl⟩)
        have l2 : b_lnk c = nI r := hlk r t' c _ (by omega) a3 a7 (.inr (.inr (.inl ⟨a8, by
          have := @gr_n_or (K r) t'
          rcases a6 with rfl | rfl
          · simp [gr_n, a8]
          · simp [gr_n]⟩)))
        rw [l1, nI_clamp (n := c) (by omega), l2]
        exact ⟨vp_in_nI (by omega) (by decide), nm_r (nI_1 r) (nm_r (nI_1 g) (ih (r + 1) (g + 1) f (by omega) (by omega) (by omega) (by omega) (by omega) a9))⟩
      · exact br_f (fun h => q3 ((nI_eq (b := 3) (by omega) (by decide)).mp h)) ⟨hv, br_f (fun h => q4 ((nI_eq (b := 4) (by omega) (by decide)).mp h)) (h i h1 hlt hc q3 q4 hP)⟩
theorem yk_first {post : Int32 → Prop} {K : Nat → Nat} {n b : Nat} {L : List (Nat × Nat)} (hn : gr_cf K n = some ([], 0)) (h256 : n ≤ 256) (htk : ∀ i, i < n → b_kind i = nI (K i) ∧ 1 ≤ K i ∧ K i ≤ 26) (hlk : lo_L K n b_lnk) (hb : b < n)
    (hc : gr_cf K (b + 1) = some ((1, b) :: L, 0)) (h : ∀ s, 1 ≤ s → s < n → gr_cf K s = some ((1, b) :: L, 0) → K s ≠ 3 → K s ≠ 4 → gr_P K n s b → post (nI s)) : wpY_firstTop post (nI n, g_limit, g_status, g_trapCode, g_exec, g_top, g_outN, g_pc, g_evEnd, g_rq, g_re, b_kind, b_val, b_bod, b_par, b_lnk, b_st, b_si, b_stk, b_out, b_abody, b_apar, b_aret, b_avar, b_apq, b_ape, b_tk, b_tv, b_tq, b_te) (nI b) := by
  unfold wpY_firstTop
  exact nm_r (nI_1 b) ⟨n + 1, yk_first6 hn h256 htk hlk h (n - (b + 1)) (b + 1) 0 (n + 1) (by omega) (by omega) (by omega) (by omega) (by omega) hc⟩
theorem yk_84 {post : Int32 → SY → Prop} {K : Nat → Nat} {n : Nat} (hn : gr_cf K n = some ([], 0)) (h256 : n ≤ 256) (htk : ∀ i, i < n → b_kind i = nI (K i) ∧ 1 ≤ K i ∧ K i ≤ 26) (hlk : lo_L K n b_lnk)
    (h : ∀ s (av aq ae : Nat → Int32), 1 ≤ s → s < n → gr_cf K s = some ([(1, 0)], 0) → K s ≠ 3 → K s ≠ 4 → gr_P K n s 0 → (∀ x, x < 16 → av x = 0) → post 0 (nI n, g_limit, g_status, g_trapCode, g_exec, g_top, g_outN, nI s, g_evEnd, g_rq, g_re, b_kind, b_val, b_bod, b_par, b_lnk, b_st, b_si, b_stk, b_out, b_abody, b_apar, b_aret, av, aq, ae, b_tk, b_tv, b_tq, b_te)) :
    ∀ (d i f : Nat) (av aq ae : Nat → Int32), i + d = 16 → d < f → (∀ x, x < i → av x = 0) → wY_compile_84 post (nI n) g_limit g_status g_trapCode g_exec g_top g_outN g_pc g_evEnd g_rq g_re f (nI i) b_kind b_val b_bod b_par b_lnk b_st b_si b_stk b_out b_abody b_apar b_aret av aq ae b_tk b_tv b_tq b_te := by
  have hc1 : gr_cf K 1 = some ([(1, 0)], 0) := by
    have h01 := gr_k01 hn
    obtain ⟨L, e, hc⟩ := gr_exle hn (show 1 ≤ n by omega)
    rw [hc, (gr_one hc).2]
  intro d
  induction d with
  | zero =>
    intro i f av aq ae hi hf ha
    have : i = 16 := by omega
    subst this
    cases f with
    | zero => omega
    | succ f =>
      refine br_t (by decide) ?_
      exact yk_first (b := 0) hn h256 htk hlk (by have := gr_k01 hn; omega) hc1 (fun s a1 a2 a3 a4 a5 a6 => h s av aq ae a1 a2 a3 a4 a5 a6 ha)
  | succ d ih =>
    intro i f av aq ae hi hf ha
    cases f with
    | zero => omega
    | succ f =>
      have hv : vp_in (nI i) 272 := vp_in_nI (by omega) (by decide)
      refine br_f (nI_ge (b := 16) (by omega) (by decide)) ?_
      rw [nI_clamp (by omega)]
      refine ⟨hv, nm_e ⟨hv, nm_e ⟨hv, nm_e (nm_r (nI_1 i) (ih (i + 1) f _ _ _ (by omega) (by omega) (fun x hx => ?_)))⟩⟩⟩
      by_cases e : x = i
      · subst e; exact lo_us
      · rw [lo_un e]; exact ha x (by omega)
theorem yk_compile {post : Int32 → SY → Prop} {K V : Nat → Nat} {n : Nat} (h256 : n ≤ 256) (htk : ∀ i, i < n → b_kind i = nI (K i) ∧ 1 ≤ K i ∧ K i ≤ 26) (htv : ∀ i, i < n → xn_nm (K i) → b_val i = nI (V i) ∧ V i < 16)
    (h1 : gr_cf K n ≠ some ([], 0) → ∀ (bo pa lk st si : Nat → Int32), post 1 (nI n, g_limit, 0, g_trapCode, g_exec, g_top, g_outN, g_pc, g_evEnd, g_rq, g_re, b_kind, b_val, bo, pa, lk, st, si, b_stk, b_out, b_abody, b_apar, b_aret, b_avar, b_apq, b_ape, b_tk, b_tv, b_tq, b_te))
    (h2 : gr_cf K n = some ([], 0) → ¬ gr_LM K n → ∀ (bo pa lk st si : Nat → Int32), post 2 (nI n, g_limit, 0, g_trapCode, g_exec, g_top, g_outN, g_pc, g_evEnd, g_rq, g_re, b_kind, b_val, bo, pa, lk, st, si, b_stk, b_out, b_abody, b_apar, b_aret, b_avar, b_apq, b_ape, b_tk, b_tv, b_tq, b_te))
    (h3 : gr_cf K n = some ([], 0) → gr_LM K n → ¬ (gr_ND K V n ∧ gr_US K V n) → ∀ (bo pa lk st si : Nat → Int32), post 3 (nI n, g_limit, 0, g_trapCode, g_exec, g_top, g_outN, g_pc, g_evEnd, g_rq, g_re, b_kind, b_val, bo, pa, lk, st, si, b_stk, b_out, b_abody, b_apar, b_aret, b_avar, b_apq, b_ape, b_tk, b_tv, b_tq, b_te))
    (h4 : gr_cf K n = some ([], 0) → gr_LM K n → gr_ND K V n → gr_US K V n → ∀ s (bo pa lk st si av aq ae : Nat → Int32), sy_S K n bo pa lk → 1 ≤ s → s < n → gr_cf K s = some ([(1, 0)], 0) → K s ≠ 3 → K s ≠ 4 → gr_P K n s 0 → (∀ x, x < 16 → av x = 0) →
      post 0 (nI n, g_limit, 1, 0, 0, 0, 0, nI s, g_evEnd, g_rq, g_re, b_kind, b_val, bo, pa, lk, st, si, b_stk, b_out, upd b_abody 0 0, upd b_apar 0 (-1), upd b_aret 0 0, av, aq, ae, b_tk, b_tv, b_tq, b_te)) :
    wpY_compile post (nI n, g_limit, 0, g_trapCode, g_exec, g_top, g_outN, g_pc, g_evEnd, g_rq, g_re, b_kind, b_val, b_bod, b_par, b_lnk, b_st, b_si, b_stk, b_out, b_abody, b_apar, b_aret, b_avar, b_apq, b_ape, b_tk, b_tv, b_tq, b_te) := by
  unfold wpY_compile
  refine br_t rfl (yp_parse h256 htk (fun hn bo pa lk st si => br_t rfl (h1 hn bo pa lk st si)) (fun hn bo pa lk st si hS => br_f (by decide) ?_))
  unfold wpY_overLimit
  refine ⟨n + 1, yn_over hn h256 htk hS.1 (fun hL => br_t rfl ?_) (fun hL => br_f (by decide) (h2 hn hL bo pa lk st si)) n 0 (n + 1) (by omega) (by omega) (fun b hb => by omega)⟩
  unfold wpY_badName
  refine ⟨n + 1, yn_bad hn h256 htk htv hS.1 hS.2.1 (fun hg => br_t rfl ?_) (fun hg => br_f (by decide) (h3 hn hL hg bo pa lk st si)) n 0 (n + 1) (by omega) (by omega) (fun c hc => by omega) (fun c hc => by omega)⟩
  refine nm_e (nm_e (nm_e ⟨17, ?_⟩))
  exact yk_84 hn h256 htk hS.2.2 (fun s av aq ae a1 a2 a3 a4 a5 a6 a7 => h4 hn hL hg.1 hg.2 s bo pa lk st si av aq ae hS a1 a2 a3 a4 a5 a6 a7) 16 0 17 _ _ _ (by omega) (by omega) (fun x hx => by omega)
