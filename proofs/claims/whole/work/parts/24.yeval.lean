variable {g_n g_limit g_status g_trapCode g_exec g_top g_outN g_pc g_evEnd g_rq g_re : Int32} {b_kind b_val b_bod b_par b_lnk b_st b_si b_stk b_out b_abody b_apar b_aret b_avar b_apq b_ape b_tk b_tv b_tq b_te : Nat → Int32}
/-- the reference's evaluation, by the expression's tree, from its end -/
theorem ry_ev {post : Int32 → SY → Prop} {K V : Nat → Nat} {n p0 : Nat} {lf : Nat → Int32} (h256 : n ≤ 256) (htk : ∀ i, i < n → b_kind i = nI (K i) ∧ 1 ≤ K i ∧ K i ≤ 26) (hnum : ∀ j, j < n → K j = 18 → b_val j = lf j) (hnam : ∀ j, j < n → K j = 19 → b_val j = nI (V j)) :
    ∀ (F j e : Nat) (v : Option Int32), gr_ev K lf F j = some (e, v) → e ≤ n → p0 ≤ j → (∀ i, j ≤ i → i < e → 18 ≤ K i) →
      (∀ i, j ≤ i → i < e → K i = 19 → ∀ (P : Int32 → Prop) (sk : Nat → Int32), (∀ a, a < 17 → V i < 16 → b_avar (a * 16 + V i) = lf i → P (nI a)) → wpY_find P (g_n, g_limit, g_status, g_trapCode, g_exec, g_top, g_outN, g_pc, g_evEnd, g_rq, g_re, b_kind, b_val, b_bod, b_par, b_lnk, b_st, b_si, sk, b_out, b_abody, b_apar, b_aret, b_avar, b_apq, b_ape, b_tk, b_tv, b_tq, b_te) g_top (nI (V i))) →
      (v = none → ∀ (sk : Nat → Int32), post 0 (g_n, g_limit, 3, 1, g_exec, g_top, g_outN, g_pc, g_evEnd, g_rq, g_re, b_kind, b_val, b_bod, b_par, b_lnk, b_st, b_si, sk, b_out, b_abody, b_apar, b_aret, b_avar, b_apq, b_ape, b_tk, b_tv, b_tq, b_te)) →
      ∀ (f sp : Nat) (sk : Nat → Int32), sp + (e - j) ≤ 256 →
      (∀ x, v = some x → ∀ (sk' : Nat → Int32), (∀ i, i < sp → sk' i = sk i) → sk' sp = x → wY_eval_18 post (nI p0) g_n g_limit g_status g_trapCode g_exec g_top g_outN g_pc g_evEnd g_rq g_re f (nI (sp + 1)) (nI j + (-1)) b_kind b_val b_bod b_par b_lnk b_st b_si sk' b_out b_abody b_apar b_aret b_avar b_apq b_ape b_tk b_tv b_tq b_te) →
      wY_eval_18 post (nI p0) g_n g_limit g_status g_trapCode g_exec g_top g_outN g_pc g_evEnd g_rq g_re (f + (e - j)) (nI sp) (nI e + (-1)) b_kind b_val b_bod b_par b_lnk b_st b_si sk b_out b_abody b_apar b_aret b_avar b_apq b_ape b_tk b_tv b_tq b_te := by
  intro F
  induction F with
  | zero => intro j e v h; simp [gr_ev] at h
  | succ F ih =>
    intro j e v hev hen hp0 hk18 hleaf hnone f sp sk hsp hcont
    have hje := gr_ev_lt _ _ _ _ hev
    have hjn : j < n := by omega
    obtain ⟨k1, k2, k3⟩ := htk j hjn
    have hin : vp_in (nI j) 256 := vp_in_nI (by omega) (by decide)
    have hcl : (nI j).toNatClampNeg = j := nI_clamp (by omega)
    have hd : nI (j + 1) + (-1) = nI j := by rw [li_d1 (by omega)]; rfl
    by_cases kl : K j = 18 ∨ K j = 19
    · obtain ⟨he, hv⟩ := gr_ev_leaf hev kl
      subst he; subst hv
      rw [hd, show f + (j + 1 - j) = f + 1 by omega]
      refine br_f (nI_nlt hp0 (by omega)) (br_f (nI_pos (by omega)) ⟨hin, ?_⟩)
      rw [hcl]
      have s52 : wY_eval_52 post (wY_eval_18 post (nI p0) g_n g_limit g_status g_trapCode g_exec g_top g_outN g_pc g_evEnd g_rq g_re f) (nI p0) (nI sp) (nI j) (nI (K j)) g_n g_limit g_status g_trapCode g_exec g_top g_outN g_pc g_evEnd g_rq g_re b_kind b_val b_bod b_par b_lnk b_st b_si sk b_out b_abody b_apar b_aret b_avar b_apq b_ape b_tk b_tv b_tq b_te := by
        unfold wY_eval_52
        have isp : vp_in (nI sp) 256 := vp_in_nI (by omega) (by decide)
        refine br_t (nI_lt (b := 256) (by omega) (by decide)) ?_
        rw [hcl, nI_clamp (n := sp) (by omega)]
        have go : wY_eval_18 post (nI p0) g_n g_limit g_status g_trapCode g_exec g_top g_outN g_pc g_evEnd g_rq g_re f (nI (sp + 1)) (nI j + (-1)) b_kind b_val b_bod b_par b_lnk b_st b_si (upd sk sp (lf j)) b_out b_abody b_apar b_aret b_avar b_apq b_ape b_tk b_tv b_tq b_te := hcont (lf j) rfl _ (fun i hi => lo_un (by omega)) lo_us
        by_cases q : K j = 18
        · refine br_t (by rw [q]; rfl) ⟨hin, isp, ?_⟩
          rw [hnum j hjn q]
          exact nm_e (nm_r (nI_1 sp) (nm_e go))
        · have q19 : K j = 19 := by omega
          refine br_f (fun h => q ((nI_eq (b := 18) (by omega) (by decide)).mp h)) ⟨hin, ?_⟩
          rw [hnam j hjn q19]
          refine hleaf j (Nat.le_refl _) (by omega) q19 _ _ (fun a ha hv16 hav => ⟨hin, ?_⟩)
          rw [li_m16, nI_add, nI_clamp (n := a * 16 + V j) (by omega), hav]
          exact ⟨vp_in_nI (by omega) (by decide), isp, nm_e (nm_r (nI_1 sp) (nm_e go))⟩
      refine nm_r k1 ?_
      rcases kl with q | q
      · exact br_t (by rw [q]; rfl) s52
      · exact br_f (by rw [q]; decide) (br_t (by rw [q]; rfl) s52)
    · obtain ⟨j1, a, b, e1, e2, hv⟩ := gr_ev_op hev kl
      have hk20 : 20 ≤ K j := by have := hk18 j (Nat.le_refl _) hje; omega
      have l1 := gr_ev_lt _ _ _ _ e1
      have l2 := gr_ev_lt _ _ _ _ e2
      rw [show f + (e - j) = (f + 1 + (j1 - (j + 1))) + (e - j1) by omega]
      refine ih j1 e b e2 hen (by omega) (fun q h3 h4 => hk18 q (by omega) h4) (fun q h3 h4 => hleaf q (by omega) h4) (fun hb => hnone (by rw [hv, hb]; cases a <;> rfl)) _ sp sk (by omega) ?_
      intro y hy sk1 g1 g2
      refine ih (j + 1) j1 a e1 (by omega) (by omega) (fun q h3 h4 => hk18 q (by omega) (by omega)) (fun q h3 h4 => hleaf q (by omega) (by omega)) (fun ha => hnone (by rw [hv, ha]; rfl)) (f + 1) (sp + 1) sk1 (by omega) ?_
      intro x hx sk2 g3 g4
      have hvv : v = gr_ap (K j) x y := by rw [hv, hx, hy]; rfl
      have e1' : sk2 sp = y := by rw [g3 sp (by omega)]; exact g2
      rw [hd]
      refine br_f (nI_nlt hp0 (by omega)) (br_f (nI_pos (by omega)) ⟨hin, ?_⟩)
      rw [hcl]
      refine nm_r k1 (br_f (fun h => kl (.inl ((nI_eq (b := 18) (by omega) (by decide)).mp h))) (br_f (fun h => kl (.inr ((nI_eq (b := 19) (by omega) (by decide)).mp h))) (br_t (nI_le (a := 2) (by omega) (by omega)) ?_)))
      rw [nI_pred, nI_clamp (n := sp + 1) (by omega), show nI (sp + 1 + 1) - 2 = nI sp from (li_sub (b := 2) (by omega)).trans (by rw [show sp + 1 + 1 - 2 = sp by omega]), nI_clamp (n := sp) (by omega)]
      refine ⟨vp_in_nI (by omega) (by decide), nm_r g4 ⟨vp_in_nI (by omega) (by decide), nm_r e1' ?_⟩⟩
      have s281 : ∀ c, gr_ap (K j) x y = some c → wY_eval_281 post (wY_eval_18 post (nI p0) g_n g_limit g_status g_trapCode g_exec g_top g_outN g_pc g_evEnd g_rq g_re f) (nI p0) (nI (sp + 1 + 1)) (nI j) c g_n g_limit g_status g_trapCode g_exec g_top g_outN g_pc g_evEnd g_rq g_re b_kind b_val b_bod b_par b_lnk b_st b_si sk2 b_out b_abody b_apar b_aret b_avar b_apq b_ape b_tk b_tv b_tq b_te := by
        intro c hc
        unfold wY_eval_281
        refine nm_r (show _ = nI (sp + 1) by rw [li_d1 (by omega)]; rfl) ?_
        rw [nI_pred, nI_clamp (n := sp) (by omega)]
        refine ⟨vp_in_nI (by omega) (by decide), nm_e (nm_e (hcont c (by rw [hvv, hc]) _ (fun i hi => ?_) lo_us))⟩
        rw [lo_un (by omega), g3 i (by omega), g1 i hi]
      have hkk : K j = 20 ∨ K j = 21 ∨ K j = 22 ∨ K j = 23 ∨ K j = 24 ∨ K j = 25 ∨ K j = 26 := by omega
      have tr : gr_ap (K j) x y = none → wpY_trapWith (fun u => match u with | (g_n, g_limit, g_status, g_trapCode, g_exec, g_top, g_outN, g_pc, g_evEnd, g_rq, g_re, b_kind, b_val, b_bod, b_par, b_lnk, b_st, b_si, b_stk, b_out, b_abody, b_apar, b_aret, b_avar, b_apq, b_ape, b_tk, b_tv, b_tq, b_te) => post 0 (g_n, g_limit, g_status, g_trapCode, g_exec, g_top, g_outN, g_pc, g_evEnd, g_rq, g_re, b_kind, b_val, b_bod, b_par, b_lnk, b_st, b_si, b_stk, b_out, b_abody, b_apar, b_aret, b_avar, b_apq, b_ape, b_tk, b_tv, b_tq, b_te)) (g_n, g_limit, g_status, g_trapCode, g_exec, g_top, g_outN, g_pc, g_evEnd, g_rq, g_re, b_kind, b_val, b_bod, b_par, b_lnk, b_st, b_si, sk2, b_out, b_abody, b_apar, b_aret, b_avar, b_apq, b_ape, b_tk, b_tv, b_tq, b_te) 1 := fun h => hnone (by rw [hvv, h]) sk2
      have ap : ∀ k, K j = k → gr_ap (K j) x y = gr_ap k x y := fun k h => by rw [h]
      rcases hkk with q | q | q | q | q | q | q
      · have s := s281 (x + y) (by rw [ap _ q]; rfl)
        rw [q]
        exact br_t rfl (nm_e s)
      · have s := s281 (x - y) (by rw [ap _ q]; rfl)
        rw [q]
        exact br_f (by decide) (br_t rfl (nm_e s))
      · have s := s281 (x * y) (by rw [ap _ q]; rfl)
        rw [q]
        exact br_f (by decide) (br_f (by decide) (br_t rfl (nm_e s)))
      · have s := s281 (x / y)
        rw [ap _ q] at s tr
        rw [q]
        refine br_f (by decide) (br_f (by decide) (br_f (by decide) (br_f (by decide) (br_f (by decide) (?_)))))
        by_cases r0 : y = 0
        · exact br_t r0 (tr (by simp [gr_ap, r0]))
        · exact br_f r0 (br_t rfl ⟨r0, s (by simp [gr_ap, r0])⟩)
      · have s := s281 (x - x / y * y)
        rw [ap _ q] at s tr
        rw [q]
        refine br_f (by decide) (br_f (by decide) (br_f (by decide) (br_f (by decide) (br_f (by decide) (?_)))))
        by_cases r0 : y = 0
        · exact br_t r0 (tr (by simp [gr_ap, r0]))
        · exact br_f r0 (br_f (by decide) ⟨r0, s (by simp [gr_ap, r0])⟩)
      · have s0 := s281 0
        have s1 := s281 1
        rw [ap _ q] at s0 s1
        rw [q]
        refine br_f (by decide) (br_f (by decide) (br_f (by decide) (br_t rfl ?_)))
        by_cases c : y ≤ x
        · exact br_t c (s0 (by simp [gr_ap, Int32.not_lt.mpr c]))
        · exact br_f c (s1 (by simp [gr_ap, Int32.not_le.mp c]))
      · have s0 := s281 0
        have s1 := s281 1
        rw [ap _ q] at s0 s1
        rw [q]
        refine br_f (by decide) (br_f (by decide) (br_f (by decide) (br_f (by decide) (br_t rfl ?_))))
        by_cases c : x = y
        · exact br_t c (s1 (by simp [gr_ap, c]))
        · exact br_f c (s0 (by simp [gr_ap, c]))
theorem ry_eval {post : Int32 → SY → Prop} {K V : Nat → Nat} {n F j e : Nat} {v : Option Int32} {lf : Nat → Int32} {L : List (Nat × Nat)} (hn : gr_cf K n = some ([], 0)) (h256 : n ≤ 256) (htk : ∀ i, i < n → b_kind i = nI (K i) ∧ 1 ≤ K i ∧ K i ≤ 26) (hnum : ∀ j, j < n → K j = 18 → b_val j = lf j) (hnam : ∀ j, j < n → K j = 19 → b_val j = nI (V j))
    (hev : gr_ev K lf F j = some (e, v)) (h1 : 1 ≤ j) (hen : e ≤ n) (hc : gr_cf K j = some (L, 1)) (hce : gr_cf K e = some (L, 0)) (hk : ∀ i, j ≤ i → i < e → 18 ≤ K i ∧ ∃ m', gr_cf K i = some (L, m' + 1))
    (hleaf : ∀ i, j ≤ i → i < e → K i = 19 → ∀ (P : Int32 → Prop) (ee : Int32) (sk : Nat → Int32), (∀ a, a < 17 → V i < 16 → b_avar (a * 16 + V i) = lf i → P (nI a)) → wpY_find P (nI n, g_limit, g_status, g_trapCode, g_exec, g_top, g_outN, g_pc, ee, g_rq, g_re, b_kind, b_val, b_bod, b_par, b_lnk, b_st, b_si, sk, b_out, b_abody, b_apar, b_aret, b_avar, b_apq, b_ape, b_tk, b_tv, b_tq, b_te) g_top (nI (V i)))
    (hnone : v = none → ∀ (sk : Nat → Int32), post 0 (nI n, g_limit, 3, 1, g_exec, g_top, g_outN, g_pc, nI e, g_rq, g_re, b_kind, b_val, b_bod, b_par, b_lnk, b_st, b_si, sk, b_out, b_abody, b_apar, b_aret, b_avar, b_apq, b_ape, b_tk, b_tv, b_tq, b_te))
    (hsome : ∀ x, v = some x → ∀ (sk : Nat → Int32), post x (nI n, g_limit, g_status, g_trapCode, g_exec, g_top, g_outN, g_pc, nI e, g_rq, g_re, b_kind, b_val, b_bod, b_par, b_lnk, b_st, b_si, sk, b_out, b_abody, b_apar, b_aret, b_avar, b_apq, b_ape, b_tk, b_tv, b_tq, b_te)) :
    wpY_eval post (nI n, g_limit, g_status, g_trapCode, g_exec, g_top, g_outN, g_pc, g_evEnd, g_rq, g_re, b_kind, b_val, b_bod, b_par, b_lnk, b_st, b_si, b_stk, b_out, b_abody, b_apar, b_aret, b_avar, b_apq, b_ape, b_tk, b_tv, b_tq, b_te) (nI j) := by
  have hje := gr_ev_lt _ _ _ _ hev
  unfold wpY_eval
  refine ye_end h256 htk (by omega) ?_
  rw [ye_ev hn (by omega) hc hce hje hen (fun i a b => (hk i a b).2)]
  refine nm_r (show _ = nI e + (-1) by rw [li_d1 (by omega)]; exact li_m1 (by omega)) ⟨1 + (e - j), ?_⟩
  refine ry_ev (p0 := j) h256 htk hnum hnam F j e v hev hen (Nat.le_refl _) (fun i a b => (hk i a b).1) (fun i a b c P sk => hleaf i a b c P (nI e) sk) hnone 1 0 _ (by omega) (fun x hx sk' _ hs => ?_)
  refine br_t (by rw [li_d1 h1]; exact nI_lt (by omega) (by omega)) ?_
  unfold wY_eval_300
  refine br_f (by decide) ?_
  show post (sk' 0) _
  rw [hs]
  exact hsome x hx sk'
