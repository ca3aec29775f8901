variable {g_n g_limit g_status g_trapCode g_exec g_top g_outN g_pc g_evEnd g_rq g_re : Int32} {b_kind b_val b_bod b_par b_lnk b_st b_si b_stk b_out b_abody b_apar b_aret b_avar b_apq b_ape b_tk b_tv b_tq b_te : Nat → Int32}
theorem yn_isd {post : Int32 → Prop} {k : Nat} (hk : k ≤ 26) (ht : gr_D k → post 1) (hf : ¬ gr_D k → post 0) : wpY_isDecl post (g_n, g_limit, g_status, g_trapCode, g_exec, g_top, g_outN, g_pc, g_evEnd, g_rq, g_re, b_kind, b_val, b_bod, b_par, b_lnk, b_st, b_si, b_stk, b_out, b_abody, b_apar, b_aret, b_avar, b_apq, b_ape, b_tk, b_tv, b_tq, b_te) (nI k) := by
  unfold wpY_isDecl
  have nf : ∀ c, c ≤ 26 → k ≠ c → ¬ nI k = nI c := fun c hc h h2 => h ((nI_eq (by omega) (by omega)).mp h2)
  by_cases q3 : k = 3
  · exact br_t (by rw [q3]; rfl) (ht (.inl q3))
  refine br_f (nf 3 (by decide) q3) ?_
  by_cases q4 : k = 4
  · exact br_t (by rw [q4]; rfl) (ht (.inr (.inl q4)))
  refine br_f (nf 4 (by decide) q4) ?_
  by_cases q5 : k = 5
  · exact br_t (by rw [q5]; rfl) (ht (.inr (.inr (.inl q5))))
  refine br_f (nf 5 (by decide) q5) ?_
  by_cases q6 : k = 6
  · exact br_t (by rw [q6]; rfl) (ht (.inr (.inr (.inr (.inl q6)))))
  refine br_f (nf 6 (by decide) q6) ?_
  by_cases q10 : k = 10
  · exact br_t (by rw [q10]; rfl) (ht (.inr (.inr (.inr (.inr q10)))))
  exact br_f (nf 10 (by decide) q10) (hf (fun h => by simp only [gr_D] at h; omega))
/-- BEGINs and PROCs -/
def yn_c3 : List (Nat × Nat) → Nat
  | [] => 0
  | f :: _ => if f.1 = 3 then 1 else 0
def yn_nb (K : Nat → Nat) (i : Nat) : Nat := gr_ct (fun j => decide (K j = 1)) i
theorem yn_nb_1 {K : Nat → Nat} {i : Nat} (h : K i = 1) : yn_nb K (i + 1) = yn_nb K i + 1 := gr_ct_t (by simp [h])
theorem yn_nb_n {K : Nat → Nat} {i : Nat} (h : K i ≠ 1) : yn_nb K (i + 1) = yn_nb K i := gr_ct_f (by simp [h])
theorem yn_beg {K : Nat → Nat} : ∀ i L e, 1 ≤ i → gr_cf K i = some (L, e) → yn_nb K i + yn_c3 L = gr_np K i + 1 := by
  refine gr_ind (fun i L e => yn_nb K i + yn_c3 L = gr_np K i + 1) ?_ ?_ ?_ ?_ ?_ ?_
  · intro h
    rw [yn_nb_1 h, gr_np_n (by omega)]; rfl
  · intro i L e e' _ _ h hc
    simp only [gr_c1] at hc
    rw [yn_nb_n (by omega), gr_np_n (by omega)]; exact h
  · intro i t p L e' _ _ h hc
    have hn := @gr_n_t (K i) t
    have hk : K i ≠ 1 ∧ K i ≠ 4 := by simp only [gr_c2] at hc; omega
    rw [yn_nb_n hk.1, gr_np_n hk.2]
    simp only [yn_c3] at h ⊢
    by_cases t3 : t = 3
    · rw [if_pos (by omega)]; rw [if_pos t3] at h; exact h
    · rw [if_neg (by omega)]; rw [if_neg t3] at h; exact h
  · intro i t p L u e' _ _ h hc
    have hn := @gr_n_t (K i) t
    simp only [yn_c3] at h ⊢
    rcases hc with ⟨hk, ht, hu, _⟩ | ⟨hk, hS, hu, _⟩ | ⟨hk, hS, hu, _⟩
    · rw [yn_nb_n (by omega), gr_np_4 hk, if_pos hu]
      rw [if_neg (by omega)] at h
      omega
    · rw [yn_nb_n (by omega), gr_np_n (by omega), if_neg (by omega)]
      simp only [gr_S] at hS
      rw [if_neg (by omega)] at h
      exact h
    · rw [yn_nb_n (by omega), gr_np_n (by omega), if_neg (by omega)]
      simp only [gr_S] at hS
      rw [if_neg (by omega)] at h
      exact h
  · intro i t p L u h1 hcf h hc
    have ht0 : t ≠ 0 := by have := (gr_kinds i _ _ h1 hcf).1; simp only at this; omega
    simp only [yn_c3] at h ⊢
    rcases hc with ⟨hk, ht, hu⟩ | ⟨hk, ht, hu⟩
    · rw [yn_nb_1 hk, gr_np_n (by omega), if_neg (by omega)]
      rw [if_pos (by omega)] at h
      omega
    · rw [yn_nb_n (by omega), gr_np_n (by omega), if_neg (by omega)]
      rw [if_neg (by omega)] at h
      exact h
  · intro i t p L h1 hcf h hc
    have hn := @gr_n_t (K i) t
    have hsh := gr_shape i _ _ h1 hcf
    have hk : K i ≠ 1 ∧ K i ≠ 4 ∧ t ≠ 3 := by simp only [gr_c5] at hc; omega
    rw [yn_nb_n hk.1, gr_np_n hk.2.1]
    simp only [yn_c3] at h
    rw [if_neg hk.2.2] at h
    cases L with
    | nil => exact h
    | cons g L =>
      have h3 := hsh.1
      simp only [gr_S] at h3
      simp only [yn_c3]
      rw [if_neg (by omega)]
      exact h
theorem yn_36 {post : Int32 → Prop} {J : Int32 → Int32 → Prop} {K : Nat → Nat} {n b c : Nat} (hn : gr_cf K n = some ([], 0)) (h256 : n ≤ 256) (htk : ∀ i, i < n → b_kind i = nI (K i) ∧ 1 ≤ K i ∧ K i ≤ 26) (hbo : ∀ i, i < n → b_bod i = nI (gr_bo K n i)) (hb : b < n) (hkb : K b = 1)
    (hok : gr_dn K n (gr_np K b) n ≤ 8 ∧ gr_pn K n (gr_np K b) n ≤ 4 → J (nI c) (nI (b + 1))) (hbad : ¬ (gr_dn K n (gr_np K b) n ≤ 8 ∧ gr_pn K n (gr_np K b) n ≤ 4) → post 1) :
    ∀ (d j f : Nat), j + d = n → d < f → wY_overLimit_36 post J (nI c) (nI b) (nI n) g_limit g_status g_trapCode g_exec g_top g_outN g_pc g_evEnd g_rq g_re b_kind b_val b_bod b_par b_lnk b_st b_si b_stk b_out b_abody b_apar b_aret b_avar b_apq b_ape b_tk b_tv b_tq b_te f (nI (gr_dn K n (gr_np K b) j)) (nI (gr_pn K n (gr_np K b) j)) (nI j) := by
  intro d
  induction d with
  | zero =>
    intro j f hj hf
    have : j = n := by omega
    subst this
    have c2 := @lo_dn_le K j (gr_np K b) j
    cases f with
    | zero => omega
    | succ f =>
      refine br_t (nI_le (Nat.le_refl _) (by omega)) ?_
      by_cases e : 8 < gr_dn K j (gr_np K b) j
      · exact br_t (nI_lt (a := 8) e (by omega)) (hbad (by omega))
      · refine br_f (nI_nlt (a := 8) (by omega) (by decide)) ?_
        by_cases e2 : gr_pn K j (gr_np K b) j ≤ 4
        · exact br_t (nI_le (b := 4) e2 (by decide)) (nm_r (nI_1 b) (hok ⟨by omega, e2⟩))
        · exact br_f (nI_ge (a := 4) (by omega) (by omega)) (hbad (by omega))
  | succ d ih =>
    intro j f hj hf
    cases f with
    | zero => omega
    | succ f =>
      have hjn : j < n := by omega
      obtain ⟨k1, k2, k3⟩ := htk j hjn
      have hin : vp_in (nI j) 256 := vp_in_nI (by omega) (by decide)
      have next := ih (j + 1) f (by omega) (by omega)
      obtain ⟨L, e, hc⟩ := gr_exle hn (Nat.le_of_lt hjn)
      have hx := gr_xbo hn hjn hc
      refine br_f (nI_ge (by omega) (by omega)) ⟨hin, ?_⟩
      rw [nI_clamp (by omega), hbo j hjn, k1]
      by_cases q : gr_bo K n j = b
      · refine br_t (by rw [q]) ⟨hin, yn_isd k3 (fun hD => ?_) (fun hD => ?_)⟩
        · refine br_f (by decide) (nm_r (nI_1 _) ⟨hin, ?_⟩)
          have hd := @lo_dn_y K n (gr_np K b) j ⟨hD, by unfold lo_x; rw [q]⟩
          by_cases q5 : K j = 5
          · have hp := @lo_pn_y K n (gr_np K b) j ⟨.inl q5, by unfold lo_x; rw [q]⟩
            rw [hd, hp] at next
            exact br_t (by rw [q5]; rfl) (nm_r (nI_1 _) (nm_r (nI_1 j) next))
          · refine br_f (fun h => q5 ((nI_eq (b := 5) (by omega) (by decide)).mp h)) ⟨hin, ?_⟩
            by_cases q6 : K j = 6
            · have hp := @lo_pn_y K n (gr_np K b) j ⟨.inr q6, by unfold lo_x; rw [q]⟩
              rw [hd, hp] at next
              exact br_t (by rw [q6]; rfl) (nm_r (nI_1 _) (nm_r (nI_1 j) next))
            · have hp := @lo_pn_n K n (gr_np K b) j (fun h => by omega)
              rw [hd, hp] at next
              exact br_f (fun h => q6 ((nI_eq (b := 6) (by omega) (by decide)).mp h)) (nm_r (nI_1 j) next)
        · have hd := @lo_dn_n K n (gr_np K b) j (fun h => hD h.1)
          have hp := @lo_pn_n K n (gr_np K b) j (fun h => hD (by have := h.1; simp only [gr_D]; omega))
          rw [hd, hp] at next
          exact br_t rfl (nm_r (nI_1 j) next)
      · have hne : lo_x K n j ≠ gr_np K b := fun h => q ((gr_np_inj hn hx.2.2 hb hx.2.1 hkb).mp h)
        rw [lo_dn_n (fun h => hne h.2), lo_pn_n (fun h => hne h.2)] at next
        exact br_f (fun h => q ((nI_eq (by omega) (by omega)).mp h)) (nm_r (nI_1 j) next)
theorem yn_over {post : Int32 → Prop} {K : Nat → Nat} {n : Nat} (hn : gr_cf K n = some ([], 0)) (h256 : n ≤ 256) (htk : ∀ i, i < n → b_kind i = nI (K i) ∧ 1 ≤ K i ∧ K i ≤ 26) (hbo : ∀ i, i < n → b_bod i = nI (gr_bo K n i)) (h0 : gr_LM K n → post 0) (h1 : ¬ gr_LM K n → post 1) :
    ∀ (d i f : Nat), i + d = n → d < f → (∀ b, b < i → K b = 1 → gr_dn K n (gr_np K b) n ≤ 8 ∧ gr_pn K n (gr_np K b) n ≤ 4) → wY_overLimit_4 post (nI n) g_limit g_status g_trapCode g_exec g_top g_outN g_pc g_evEnd g_rq g_re b_kind b_val b_bod b_par b_lnk b_st b_si b_stk b_out b_abody b_apar b_aret b_avar b_apq b_ape b_tk b_tv b_tq b_te f (nI (yn_nb K i)) (nI i) := by
  intro d
  induction d with
  | zero =>
    intro i f hi hf hb
    have : i = n := by omega
    subst this
    have h01 := gr_k01 hn
    have hbe := yn_beg i [] 0 (by omega) hn
    simp only [yn_c3] at hbe
    have hnl : gr_np K i ≤ i := gr_ct_le i
    cases f with
    | zero => omega
    | succ f =>
      refine br_t (nI_le (Nat.le_refl _) (by omega)) ?_
      by_cases e : yn_nb K i ≤ 16
      · exact br_t (nI_le (b := 16) e (by decide)) (h0 ⟨by omega, hb⟩)
      · exact br_f (nI_ge (a := 16) (by omega) (by omega)) (h1 (fun h => by have := h.1; omega))
  | succ d ih =>
    intro i f hi hf hb
    cases f with
    | zero => omega
    | succ f =>
      have hin : i < n := by omega
      obtain ⟨k1, k2, k3⟩ := htk i hin
      refine br_f (nI_ge (by omega) (by omega)) ⟨vp_in_nI (by omega) (by decide), ?_⟩
      rw [nI_clamp (by omega), k1]
      by_cases q : K i = 1
      · refine br_t (by rw [q]; rfl) (nm_r (nI_1 _) ⟨n + 1, ?_⟩)
        refine yn_36 (c := yn_nb K i + 1) hn h256 htk hbo hin q (fun hok => ?_) (fun hbad => h1 (fun hL => hbad (hL.2 i hin q))) n 0 (n + 1) (by omega) (by omega)
        have := ih (i + 1) f (by omega) (by omega) (fun b hbi hkb => by
          by_cases e : b = i
          · subst e; exact hok
          · exact hb b (by omega) hkb)
        rw [yn_nb_1 q] at this
        exact this
      · have := ih (i + 1) f (by omega) (by omega) (fun b hbi hkb => by
          by_cases e : b = i
          · subst e; exact absurd hkb q
          · exact hb b (by omega) hkb)
        rw [yn_nb_n q] at this
        exact br_f (fun h => q ((nI_eq (b := 1) (by omega) (by decide)).mp h)) (nm_r (nI_1 i) this)
theorem yn_24 {post : Int32 → Prop} {J : Int32 → Int32 → Prop} {K V : Nat → Nat} {n b x h : Nat} (h256 : n ≤ 256) (htk : ∀ i, i < n → b_kind i = nI (K i) ∧ 1 ≤ K i ∧ K i ≤ 26) (htv : ∀ i, i < n → gr_D (K i) → b_val i = nI (V i) ∧ V i < 16) (hbo : ∀ i, i < n → b_bod i = nI (gr_bo K n i)) (hbl : ∀ i, i < n → gr_bo K n i < n)
    (hb : b < n) (hx : x < 16) : ∀ (d j f : Nat), j + d = n → d < f → (∀ r, gr_fs (fun i => decide (gr_bo K n i = b ∧ V i = x ∧ gr_D (K i))) d j = some r → post (nI r)) → (gr_fs (fun i => decide (gr_bo K n i = b ∧ V i = x ∧ gr_D (K i))) d j = none → J (b_par b) (nI (h + 1))) →
      wY_decl_24 post J (nI b) (nI x) (nI h) (nI n) g_limit g_status g_trapCode g_exec g_top g_outN g_pc g_evEnd g_rq g_re b_kind b_val b_bod b_par b_lnk b_st b_si b_stk b_out b_abody b_apar b_aret b_avar b_apq b_ape b_tk b_tv b_tq b_te f (nI j) := by
  intro d
  induction d with
  | zero =>
    intro j f hj hf h1 h2
    have : j = n := by omega
    subst this
    cases f with
    | zero => omega
    | succ f =>
      refine br_t (nI_le (Nat.le_refl _) (by omega)) ⟨vp_in_nI (by omega) (by decide), ?_⟩
      rw [nI_clamp (by omega)]
      exact nm_e (nm_r (nI_1 h) (h2 rfl))
  | succ d ih =>
    intro j f hj hf h1 h2
    cases f with
    | zero => omega
    | succ f =>
      have hjn : j < n := by omega
      obtain ⟨k1, k2, k3⟩ := htk j hjn
      have hin : vp_in (nI j) 256 := vp_in_nI (by omega) (by decide)
      have hbj := hbl j hjn
      refine br_f (nI_ge (by omega) (by omega)) ⟨hin, ?_⟩
      rw [nI_clamp (by omega), hbo j hjn, k1]
      simp only [gr_fs] at h1 h2
      by_cases hP : gr_bo K n j = b ∧ V j = x ∧ gr_D (K j)
      · rw [if_pos (decide_eq_true hP)] at h1
        have hv := htv j hjn hP.2.2
        refine br_t (by rw [hP.1]) ⟨hin, br_t (by rw [hv.1, hP.2.1]) ⟨hin, yn_isd k3 (fun _ => br_f (by decide) (h1 j rfl)) (fun hD => absurd hP.2.2 hD)⟩⟩
      · rw [if_neg (by rw [decide_eq_true_iff]; exact hP)] at h1 h2
        have next := ih (j + 1) f (by omega) (by omega) h1 h2
        refine br_c (fun e1 => ⟨hin, br_c (fun e2 => ⟨hin, yn_isd k3 (fun hD => ?_) (fun hD => br_t rfl (nm_r (nI_1 j) next))⟩) (fun e2 => nm_r (nI_1 j) next)⟩) (fun e1 => nm_r (nI_1 j) next)
        have hv := htv j hjn hD
        rw [hv.1] at e2
        exact absurd ⟨(nI_eq (by omega) (by omega)).mp e1, (nI_eq (by omega) (by omega)).mp e2, hD⟩ hP
theorem yn_decl2 {post : Int32 → Prop} {K V : Nat → Nat} {n x : Nat} (hn : gr_cf K n = some ([], 0)) (h256 : n ≤ 256) (htk : ∀ i, i < n → b_kind i = nI (K i) ∧ 1 ≤ K i ∧ K i ≤ 26) (htv : ∀ i, i < n → gr_D (K i) → b_val i = nI (V i) ∧ V i < 16)
    (hbo : ∀ i, i < n → b_bod i = nI (gr_bo K n i)) (hpa : ∀ b, b < n → K b = 1 → b_par b = yb_p (gr_pa K b)) (hx : x < 16) :
    ∀ (h b i f : Nat), b < h → b < n → K b = 1 → i + b < 256 → b + 1 < f → post (ye_r (gr_lk K V n b x)) → wY_decl_2 post (nI x) (nI n) g_limit g_status g_trapCode g_exec g_top g_outN g_pc g_evEnd g_rq g_re b_kind b_val b_bod b_par b_lnk b_st b_si b_stk b_out b_abody b_apar b_aret b_avar b_apq b_ape b_tk b_tv b_tq b_te f (nI b) (nI i) := by
  have hbl : ∀ i, i < n → gr_bo K n i < n := by
    intro i hi
    obtain ⟨L, e, hc⟩ := gr_exle hn (Nat.le_of_lt hi)
    exact (gr_xbo hn hi hc).2.2
  intro h
  induction h with
  | zero => intro b i f hb; omega
  | succ h ih =>
    intro b i f hb hbn hk hi hf hp
    cases f with
    | zero => omega
    | succ f =>
      refine br_f (nI_ge (b := 256) (by omega) (by decide)) (br_f (nI_pos (by omega)) (br_f (nI_ge (by omega) (by omega)) ⟨n + 1, ?_⟩))
      refine yn_24 (h := i) h256 htk htv hbo hbl hbn hx n 0 (n + 1) (by omega) (by omega) (fun r hr => ?_) (fun hr => ?_)
      · have hd : gr_dc K V n b x = some r := hr
        rw [gr_lk_d hd] at hp
        exact hp
      · have hd : gr_dc K V n b x = none := hr
        rw [hpa b hbn hk]
        cases hpb : gr_pa K b with
        | none =>
          rw [gr_lk_0 hd hpb] at hp
          cases f with
          | zero => omega
          | succ f => exact br_c (fun _ => hp) (fun _ => br_t (by decide) hp)
        | some b' =>
          have hlt := gr_pa_lt hn hbn hk hpb
          rw [gr_lk_p hn hbn hk hd hpb] at hp
          exact ih b' (i + 1) f (by omega) (by omega) hlt.2.1 (by omega) (by omega) hp
theorem yn_decl {post : Int32 → Prop} {K V : Nat → Nat} {n x b : Nat} (hn : gr_cf K n = some ([], 0)) (h256 : n ≤ 256) (htk : ∀ i, i < n → b_kind i = nI (K i) ∧ 1 ≤ K i ∧ K i ≤ 26) (htv : ∀ i, i < n → gr_D (K i) → b_val i = nI (V i) ∧ V i < 16)
    (hbo : ∀ i, i < n → b_bod i = nI (gr_bo K n i)) (hpa : ∀ b, b < n → K b = 1 → b_par b = yb_p (gr_pa K b)) (hx : x < 16) (hb : b < n) (hk : K b = 1) (h : post (ye_r (gr_lk K V n b x))) : wpY_decl post (nI n, g_limit, g_status, g_trapCode, g_exec, g_top, g_outN, g_pc, g_evEnd, g_rq, g_re, b_kind, b_val, b_bod, b_par, b_lnk, b_st, b_si, b_stk, b_out, b_abody, b_apar, b_aret, b_avar, b_apq, b_ape, b_tk, b_tv, b_tq, b_te) (nI b) (nI x) := by
  unfold wpY_decl
  exact ⟨b + 2, yn_decl2 hn h256 htk htv hbo hpa hx (b + 1) b 0 (b + 2) (by omega) hb hk (by omega) (by omega) h⟩
