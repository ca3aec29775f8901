variable {g_n g_limit g_status g_trapCode g_exec g_top g_outN g_pc g_evEnd g_rq g_re : Int32} {b_kind b_val b_bod b_par b_lnk b_st b_si b_stk b_out b_abody b_apar b_aret b_avar b_apq b_ape b_tk b_tv b_tq b_te : Nat → Int32}
def ye_r : Option Nat → Int32
  | some e => nI e
  | none => -1
theorem ye_88 {post : Int32 → Prop} {j : Nat} (h : post (nI j)) : wY_exprEnd_88 post (nI j) (nI 0) g_n g_limit g_status g_trapCode g_exec g_top g_outN g_pc g_evEnd g_rq g_re b_kind b_val b_bod b_par b_lnk b_st b_si b_stk b_out b_abody b_apar b_aret b_avar b_apq b_ape b_tk b_tv b_tq b_te := br_t rfl h
theorem ye_4 {post : Int32 → Prop} {K : Nat → Nat} {n : Nat} (h256 : n ≤ 256) (htk : ∀ i, i < n → b_kind i = nI (K i) ∧ 1 ≤ K i ∧ K i ≤ 26) :
    ∀ (d j m g f : Nat), j + d = n → g + d ≤ 256 → d < f → m + d ≤ 600 → post (ye_r (ye_e K d j m)) → wY_exprEnd_4 post (nI n) g_limit g_status g_trapCode g_exec g_top g_outN g_pc g_evEnd g_rq g_re b_kind b_val b_bod b_par b_lnk b_st b_si b_stk b_out b_abody b_apar b_aret b_avar b_apq b_ape b_tk b_tv b_tq b_te f (nI j) (nI m) (nI g) := by
  intro d
  induction d with
  | zero =>
    intro j m g f hj hg hf hm hp
    cases f with
    | zero => omega
    | succ f =>
      refine br_f (nI_nlt (a := 256) (by omega) (by decide)) ?_
      cases m with
      | zero => rw [ye_0] at hp; exact br_t (by decide) (ye_88 hp)
      | succ m => exact br_f (nI_nle (by omega) (by omega)) (br_f (nI_pos (by omega)) (br_f (nI_nlt (by omega) (by omega)) hp))
  | succ d ih =>
    intro j m g f hj hg hf hm hp
    cases f with
    | zero => omega
    | succ f =>
      refine br_f (nI_nlt (a := 256) (by omega) (by decide)) ?_
      cases m with
      | zero => rw [ye_0] at hp; exact br_t (by decide) (ye_88 hp)
      | succ m =>
        obtain ⟨k1, k2, k3⟩ := htk j (by omega)
        refine br_f (nI_nle (by omega) (by omega)) (br_f (nI_pos (by omega)) (br_t (nI_lt (by omega) (by omega)) ⟨vp_in_nI (by omega) (by decide), nm_r (show _ = nI (K j) by rw [nI_clamp (by omega)]; exact k1) ?_⟩))
        simp only [ye_e] at hp
        by_cases q1 : K j = 18
        · rw [if_pos (.inl q1)] at hp
          refine br_t (by rw [q1]; rfl) (nm_r (li_d1 (by omega)) (nm_r (nI_1 j) (nm_r (nI_1 g) ?_)))
          exact ih (j + 1) m (g + 1) f (by omega) (by omega) (by omega) (by omega) hp
        · refine br_f (fun h => q1 ((nI_eq (b := 18) (by omega) (by decide)).mp h)) ?_
          by_cases q2 : K j = 19
          · rw [if_pos (.inr q2)] at hp
            refine br_t (by rw [q2]; rfl) (nm_r (li_d1 (by omega)) (nm_r (nI_1 j) (nm_r (nI_1 g) ?_)))
            exact ih (j + 1) m (g + 1) f (by omega) (by omega) (by omega) (by omega) hp
          · refine br_f (fun h => q2 ((nI_eq (b := 19) (by omega) (by decide)).mp h)) ?_
            rw [if_neg (by omega)] at hp
            by_cases q3 : K j < 20
            · rw [if_neg (by omega)] at hp
              exact br_t (nI_lt (b := 20) q3 (by decide)) hp
            · rw [if_pos (by omega)] at hp
              refine br_f (nI_nlt (b := 20) (by omega) (by omega)) (br_f (nI_nlt (a := 26) (by omega) (by decide)) (nm_r (nI_1 (m + 1)) (nm_r (nI_1 j) (nm_r (nI_1 g) ?_))))
              exact ih (j + 1) (m + 2) (g + 1) f (by omega) (by omega) (by omega) (by omega) hp
theorem ye_end {post : Int32 → Prop} {K : Nat → Nat} {n j : Nat} (h256 : n ≤ 256) (htk : ∀ i, i < n → b_kind i = nI (K i) ∧ 1 ≤ K i ∧ K i ≤ 26) (hj : j ≤ n) (h : post (ye_r (ye_e K (n - j) j 1))) : wpY_exprEnd post (nI n, g_limit, g_status, g_trapCode, g_exec, g_top, g_outN, g_pc, g_evEnd, g_rq, g_re, b_kind, b_val, b_bod, b_par, b_lnk, b_st, b_si, b_stk, b_out, b_abody, b_apar, b_aret, b_avar, b_apq, b_ape, b_tk, b_tv, b_tq, b_te) (nI j) := by
  unfold wpY_exprEnd
  exact ⟨n - j + 1, ye_4 h256 htk (n - j) j 1 0 (n - j + 1) (by omega) (by omega) (by omega) (by omega) h⟩
/-- the reference's stack of frames -/
def yp_as (st si : Nat → Int32) : List (Nat × Nat) → Prop
  | [] => True
  | f :: L => st L.length = nI f.1 ∧ si L.length = nI f.2 ∧ yp_as st si L
theorem yp_as_u {st si : Nat → Int32} {j j' : Nat} {v v' : Int32} : ∀ {L : List (Nat × Nat)}, yp_as st si L → L.length ≤ j → L.length ≤ j' → yp_as (upd st j v) (upd si j' v') L := by
  intro L
  induction L with
  | nil => intro _ _ _; trivial
  | cons f L ih =>
    intro h hj hj'
    simp only [List.length_cons] at hj hj'
    exact ⟨by rw [lo_un (by omega)]; exact h.1, by rw [lo_un (by omega)]; exact h.2.1, ih h.2.2 (by omega) (by omega)⟩
theorem yp_as_t {st si : Nat → Int32} {j : Nat} {v : Int32} : ∀ {L : List (Nat × Nat)}, yp_as st si L → L.length ≤ j → yp_as (upd st j v) si L := by
  intro L
  induction L with
  | nil => intro _ _; trivial
  | cons f L ih =>
    intro h hj
    simp only [List.length_cons] at hj
    exact ⟨by rw [lo_un (by omega)]; exact h.1, h.2.1, ih h.2.2 (by omega)⟩
def yp_I (K : Nat → Nat) (n i : Nat) (L : List (Nat × Nat)) (bo pa lk st si : Nat → Int32) : Prop :=
  yp_as st si L ∧ (∀ j, j < i → bo j = yb_v K j) ∧ (∀ j, i ≤ j → j < n → bo j = -1) ∧ (∀ b, b < i → K b = 1 → pa b = yb_p (gr_pa K b)) ∧ lo_L K i lk
theorem yp_mk {K : Nat → Nat} {n i i' : Nat} {L' : List (Nat × Nat)} {bo bo' pa lk st si : Nat → Int32} (h1 : yp_as st si L') (hb : ∀ j, j < i → bo j = yb_v K j) (hb2 : ∀ j, i ≤ j → j < n → bo j = -1) (hbv : bo' = upd bo i (yb_v K i))
    (hp : ∀ b, b < i + 1 → K b = 1 → pa b = yb_p (gr_pa K b)) (hl : lo_L K (i + 1) lk) (hi : i + 1 ≤ i') (hin : i' ≤ n) (hx : ∀ q, i + 1 ≤ q → q < i' → K q ≠ 1 ∧ ∃ L m, gr_cf K q = some (L, m + 1)) : yp_I K n i' L' bo' pa lk st si := by
  subst hbv
  refine ⟨h1, fun j hj => ?_, fun j hj hjn => ?_, fun b hbi hkb => ?_, lo_L_x hl (fun q hq hqi => (hx q hq hqi).2)⟩
  · by_cases e : j = i
    · subst e; exact lo_us
    · rw [lo_un e]
      by_cases e2 : j < i
      · exact hb j e2
      · obtain ⟨h5, L, m, h6⟩ := hx j (by omega) hj
        rw [hb2 j (by omega) (by omega)]
        unfold yb_v
        rw [if_neg h5, h6]
        rfl
  · rw [lo_un (by omega)]
    exact hb2 j (by omega) hjn
  · by_cases e : b < i + 1
    · exact hp b e hkb
    · exact absurd hkb (hx b (by omega) hbi).1
theorem yp_cb {L : List (Nat × Nat)} (h : gr_sh L) (h0 : L ≠ []) : ∃ b, gr_cb L = some b := by
  induction L with
  | nil => exact absurd rfl h0
  | cons f L ih =>
    by_cases ht : f.1 = 1 ∨ f.1 = 2
    · exact ⟨f.2, by simp only [gr_cb]; rw [if_pos ht]⟩
    · cases L with
      | nil => have := h.1; omega
      | cons g L =>
        obtain ⟨b, hb⟩ := ih h.2 (by simp)
        exact ⟨b, by simp only [gr_cb] at hb ⊢; rw [if_neg ht]; exact hb⟩
/-- the last two passes -/
theorem yp_700 {post : Int32 → SY → Prop} {K : Nat → Nat} {n : Nat} (hn : gr_cf K n = some ([], 0)) (h256 : n ≤ 256) (htk : ∀ i, i < n → b_kind i = nI (K i) ∧ 1 ≤ K i ∧ K i ≤ 26)
    (h : ∀ bo, (∀ i, i < n → bo i = nI (gr_bo K n i)) → post 1 (nI n, g_limit, g_status, g_trapCode, g_exec, g_top, g_outN, g_pc, g_evEnd, g_rq, g_re, b_kind, b_val, bo, b_par, b_lnk, b_st, b_si, b_stk, b_out, b_abody, b_apar, b_aret, b_avar, b_apq, b_ape, b_tk, b_tv, b_tq, b_te)) :
    ∀ (c f : Nat) (bo : Nat → Int32), c + 1 ≤ n → c < f → (∀ i, c ≤ i → i < n → bo i = nI (gr_bo K n i)) → (∀ i, i < c → bo i = nI (yb_w K i)) → wY_parse_700 post (nI n) g_limit g_status g_trapCode g_exec g_top g_outN g_pc g_evEnd g_rq g_re f (nI c + (-1)) b_kind b_val bo b_par b_lnk b_st b_si b_stk b_out b_abody b_apar b_aret b_avar b_apq b_ape b_tk b_tv b_tq b_te := by
  intro c
  induction c with
  | zero =>
    intro f bo hc hf h1 h2
    cases f with
    | zero => omega
    | succ f => exact br_t (by decide) (h bo (fun i hi => h1 i (by omega) hi))
  | succ c ih =>
    intro f bo hc hf h1 h2
    rw [li_d1 (by omega), Nat.add_sub_cancel]
    cases f with
    | zero => omega
    | succ f =>
      obtain ⟨k1, k2, k3⟩ := htk c (by omega)
      obtain ⟨m1, m2, m3⟩ := htk (c + 1) (by omega)
      have hin : vp_in (nI c) 256 := vp_in_nI (by omega) (by decide)
      have hin1 : vp_in (nI (c + 1)) 256 := vp_in_nI (by omega) (by decide)
      have hcl : (nI c).toNatClampNeg = c := nI_clamp (by omega)
      have hcl1 : (nI (c + 1)).toNatClampNeg = c + 1 := nI_clamp (by omega)
      have par : K c = 5 ∨ K c = 6 → wY_parse_728 post (wY_parse_700 post (nI n) g_limit g_status g_trapCode g_exec g_top g_outN g_pc g_evEnd g_rq g_re f) (nI c) (nI n) g_limit g_status g_trapCode g_exec g_top g_outN g_pc g_evEnd g_rq g_re b_kind b_val bo b_par b_lnk b_st b_si b_stk b_out b_abody b_apar b_aret b_avar b_apq b_ape b_tk b_tv b_tq b_te := by
        intro hk
        have hbo := @gr_bo_p K n c (by omega) hk
        have step : ∀ v, v = nI (gr_bo K n c) → wY_parse_700 post (nI n) g_limit g_status g_trapCode g_exec g_top g_outN g_pc g_evEnd g_rq g_re f (nI c + (-1)) b_kind b_val (upd bo c v) b_par b_lnk b_st b_si b_stk b_out b_abody b_apar b_aret b_avar b_apq b_ape b_tk b_tv b_tq b_te := by
          intro v hv
          refine ih f _ (by omega) (by omega) (fun i hi hin => ?_) (fun i hi => ?_)
          · by_cases e : i = c
            · subst e; rw [lo_us]; exact hv
            · rw [lo_un e]; exact h1 i (by omega) hin
          · rw [lo_un (by omega)]; exact h2 i (by omega)
        unfold wY_parse_728
        rw [nI_1, hcl, hcl1, m1]
        by_cases q : K (c + 1) = 1
        · refine ⟨hin1, br_t (by rw [q]; rfl) ⟨hin, nm_e (nm_e (step _ ?_))⟩⟩
          rw [hbo, gr_bo_1 (by omega) q]
        · refine ⟨hin1, br_f (fun h => q ((nI_eq (b := 1) (by omega) (by decide)).mp h)) ⟨hin1, hin, nm_e (nm_e (step _ ?_))⟩⟩
          rw [hbo]; exact h1 (c + 1) (by omega) (by omega)
      refine br_f (nI_pos (by omega)) ⟨hin, ?_⟩
      rw [hcl, k1]
      by_cases q5 : K c = 5
      · exact br_t (by rw [q5]; rfl) (par (.inl q5))
      · refine br_f (fun h => q5 ((nI_eq (b := 5) (by omega) (by decide)).mp h)) ⟨hin, ?_⟩
        by_cases q6 : K c = 6
        · exact br_t (by rw [q6]; rfl) (par (.inr q6))
        · refine br_f (fun h => q6 ((nI_eq (b := 6) (by omega) (by decide)).mp h)) (nm_e (ih f bo (by omega) (by omega) (fun i hi hin => ?_) (fun i hi => h2 i (by omega))))
          by_cases e : i = c
          · subst e; rw [h2 i (by omega), yb_bo (show i < n by omega) q5 q6]
          · exact h1 i (by omega) hin
theorem yp_651 {post : Int32 → SY → Prop} {K : Nat → Nat} {n : Nat} (hn : gr_cf K n = some ([], 0)) (h256 : n ≤ 256) (htk : ∀ i, i < n → b_kind i = nI (K i) ∧ 1 ≤ K i ∧ K i ≤ 26)
    (h : ∀ bo, (∀ i, i < n → bo i = nI (gr_bo K n i)) → post 1 (nI n, g_limit, g_status, g_trapCode, g_exec, g_top, g_outN, g_pc, g_evEnd, g_rq, g_re, b_kind, b_val, bo, b_par, b_lnk, b_st, b_si, b_stk, b_out, b_abody, b_apar, b_aret, b_avar, b_apq, b_ape, b_tk, b_tv, b_tq, b_te)) :
    ∀ (d j f : Nat) (bo : Nat → Int32), j + d = n → d < f → 1 ≤ j → (∀ i, i < j → bo i = nI (yb_w K i)) → (∀ i, j ≤ i → i < n → bo i = yb_v K i) → wY_parse_651 post (nI n) g_limit g_status g_trapCode g_exec g_top g_outN g_pc g_evEnd g_rq g_re f (nI j) b_kind b_val bo b_par b_lnk b_st b_si b_stk b_out b_abody b_apar b_aret b_avar b_apq b_ape b_tk b_tv b_tq b_te := by
  intro d
  induction d with
  | zero =>
    intro j f bo hj hf h1j h1 h2
    have : j = n := by omega
    subst this
    have h01 := gr_k01 hn
    cases f with
    | zero => omega
    | succ f =>
      refine br_t (nI_le (Nat.le_refl _) (by omega)) (nm_r (show _ = nI (j - 1) + (-1) by rw [li_d1 (by omega)]; exact (li_sub (b := 2) (by omega)).trans (by rw [show j - 2 = j - 1 - 1 by omega])) ⟨j, ?_⟩)
      refine yp_700 hn h256 htk h (j - 1) j bo (by omega) (by omega) (fun i hi hin => ?_) (fun i hi => h1 i (by omega))
      have hi2 : i = j - 1 := by omega
      have hk : ¬ (K i = 5 ∨ K i = 6) := by
        intro hk
        have := (gr_bo_par hn hin hk).1
        obtain ⟨L, e, hc⟩ := gr_exle hn (Nat.le_of_lt hin)
        have := (gr_xbo hn hin hc).2.2
        omega
      rw [h1 i hin, yb_bo hin (by omega) (by omega)]
  | succ d ih =>
    intro j f bo hj hf h1j h1 h2
    cases f with
    | zero => omega
    | succ f =>
      obtain ⟨L, e, hc⟩ := gr_exle hn (show j ≤ n by omega)
      have hin : vp_in (nI j) 256 := vp_in_nI (by omega) (by decide)
      refine br_f (nI_ge (by omega) (by omega)) ⟨hin, ?_⟩
      rw [nI_clamp (by omega), h2 j (Nat.le_refl _) (by omega)]
      cases e with
      | zero =>
        have hv := yb_h hc
        have hw := @yb_w_lt K n j hn (by omega)
        refine br_t (by rw [hv]; exact nI_pos' (by omega)) (nm_r (nI_1 j) (ih (j + 1) f bo (by omega) (by omega) (by omega) (fun i hi => ?_) (fun i hi hin => h2 i (by omega) hin)))
        by_cases e : i = j
        · subst e; rw [h2 i (Nat.le_refl _) (by omega)]; exact hv
        · exact h1 i (by omega)
      | succ m =>
        obtain ⟨j', rfl⟩ : ∃ j', j = j' + 1 := ⟨j - 1, by omega⟩
        have hv := yb_x hn (by omega) hc
        rw [hv.2, nI_pred, nI_clamp (by omega)]
        refine br_f (by decide) ⟨vp_in_nI (by omega) (by decide), hin, nm_e (nm_r (nI_1 (j' + 1)) (ih (j' + 1 + 1) f _ (by omega) (by omega) (by omega) (fun i hi => ?_) (fun i hi hin => ?_)))⟩
        · by_cases e : i = j' + 1
          · subst e; rw [lo_us, hv.1]; exact h1 j' (by omega)
          · rw [lo_un e]; exact h1 i (by omega)
        · rw [lo_un (by omega)]; exact h2 i (by omega) hin
