variable {g_n g_limit g_status g_trapCode g_exec g_top g_outN g_pc g_evEnd g_rq g_re : Int32} {b_kind b_val b_bod b_par b_lnk b_st b_si b_stk b_out b_abody b_apar b_aret b_avar b_apq b_ape b_tk b_tv b_tq b_te : Nat → Int32}
theorem yp_cbk {K : Nat → Nat} {b : Nat} : ∀ (L : List (Nat × Nat)) (j : Nat), gr_kd K L → gr_so j L → gr_cb L = some b → K b = 1 ∧ b < j := by
  intro L
  induction L with
  | nil => intro j _ _ h; cases h
  | cons f L ih =>
    intro j h1 h2 h
    by_cases ht : f.1 = 1 ∨ f.1 = 2
    · simp only [gr_cb] at h
      rw [if_pos ht] at h
      injection h with h
      subst h
      have := h1.1
      exact ⟨by omega, h2.1⟩
    · simp only [gr_cb] at h
      rw [if_neg ht] at h
      have := ih f.2 h1.2 h2.2 h
      exact ⟨this.1, Nat.lt_trans this.2 h2.1⟩
/-- the reference's tables, once it has parsed -/
def sy_S (K : Nat → Nat) (n : Nat) (bo pa lk : Nat → Int32) : Prop := (∀ i, i < n → bo i = nI (gr_bo K n i)) ∧ (∀ b, b < n → K b = 1 → pa b = yb_p (gr_pa K b)) ∧ lo_L K n lk
theorem yp_79 {post : Int32 → SY → Prop} {K : Nat → Nat} {n : Nat} (h256 : n ≤ 256) (htk : ∀ i, i < n → b_kind i = nI (K i) ∧ 1 ≤ K i ∧ K i ≤ 26)
    (hF : gr_cf K n ≠ some ([], 0) → ∀ (bo pa lk st si : Nat → Int32), post 0 (nI n, g_limit, g_status, g_trapCode, g_exec, g_top, g_outN, g_pc, g_evEnd, g_rq, g_re, b_kind, b_val, bo, pa, lk, st, si, b_stk, b_out, b_abody, b_apar, b_aret, b_avar, b_apq, b_ape, b_tk, b_tv, b_tq, b_te))
    (hT : gr_cf K n = some ([], 0) → ∀ (bo pa lk st si : Nat → Int32), sy_S K n bo pa lk → post 1 (nI n, g_limit, g_status, g_trapCode, g_exec, g_top, g_outN, g_pc, g_evEnd, g_rq, g_re, b_kind, b_val, bo, pa, lk, st, si, b_stk, b_out, b_abody, b_apar, b_aret, b_avar, b_apq, b_ape, b_tk, b_tv, b_tq, b_te)) :
    ∀ (d i g f : Nat) (L : List (Nat × Nat)) (bo pa lk st si : Nat → Int32), n - i ≤ d → d < f → 1 ≤ i → i ≤ n → g ≤ i → gr_cf K i = some (L, 0) → yp_I K n i L bo pa lk st si →
      wY_parse_79 post (nI n) g_limit g_status g_trapCode g_exec g_top g_outN g_pc g_evEnd g_rq g_re f (nI L.length) (yb_p (gr_cb L)) (nI i) (nI g) b_kind b_val bo pa lk st si b_stk b_out b_abody b_apar b_aret b_avar b_apq b_ape b_tk b_tv b_tq b_te := by
  intro d
  induction d with
  | zero =>
    intro i g f L bo pa lk st si hd hf h1 hin hg hc hI
    have : i = n := by omega
    subst this
    have hlen := (gr_size i _ _ h1 hc).1
    cases f with
    | zero => omega
    | succ f =>
      refine br_f (nI_ge (b := 300) (by omega) (by decide)) (br_t (nI_le (Nat.le_refl _) (by omega)) ?_)
      unfold wY_parse_634
      cases L with
      | nil =>
        refine br_t rfl (br_t (nI_le (Nat.le_refl _) (by omega)) ⟨i, ?_⟩)
        refine yp_651 hc h256 htk (fun bo' hbo => hT hc bo' pa lk st si ⟨hbo, hI.2.2.2.1, hI.2.2.2.2⟩) (i - 1) 1 i bo (by omega) (by omega) (Nat.le_refl _) (fun j hj => ?_) (fun j hj hjn => hI.2.1 j hjn)
        have : j = 0 := by omega
        subst this
        rw [hI.2.1 0 (by omega)]
        exact yb_h rfl
      | cons fr L =>
        refine br_f (nI_ne0 (by simp) (by omega)) (hF ?_ _ _ _ _ _)
        rw [hc]; simp
  | succ d ih =>
    intro i g f L bo pa lk st si hd hf h1 hin hg hc hI
    by_cases hin2 : i = n
    · subst hin2
      have hlen := (gr_size i _ _ h1 hc).1
      cases f with
      | zero => omega
      | succ f =>
        refine br_f (nI_ge (b := 300) (by omega) (by decide)) (br_t (nI_le (Nat.le_refl _) (by omega)) ?_)
        unfold wY_parse_634
        cases L with
        | nil =>
          refine br_t rfl (br_t (nI_le (Nat.le_refl _) (by omega)) ⟨i, ?_⟩)
          refine yp_651 hc h256 htk (fun bo' hbo => hT hc bo' pa lk st si ⟨hbo, hI.2.2.2.1, hI.2.2.2.2⟩) (i - 1) 1 i bo (by omega) (by omega) (Nat.le_refl _) (fun j hj => ?_) (fun j hj hjn => hI.2.1 j hjn)
          have : j = 0 := by omega
          subst this
          rw [hI.2.1 0 (by omega)]
          exact yb_h rfl
        | cons fr L =>
          refine br_f (nI_ne0 (by simp) (by omega)) (hF ?_ _ _ _ _ _)
          rw [hc]; simp
    · have hlt : i < n := by omega
      have hlen := (gr_size i _ _ h1 hc).1
      cases f with
      | zero => omega
      | succ f =>
        refine br_f (nI_ge (b := 300) (by omega) (by decide)) (br_f (nI_ge (by omega) (by omega)) ?_)
        cases L with
        | nil => exact br_t (by decide) (hF (xc_none (by rw [gr_next hc]; rfl) hlt) _ _ _ _ _)
        | cons fr L =>
          obtain ⟨t, p⟩ := fr
          simp only [List.length_cons] at hlen ⊢
          obtain ⟨b, hb⟩ := yp_cb (gr_shape i _ _ h1 hc) (by simp)
          obtain ⟨hkb, hbi⟩ := yp_cbk _ i (gr_kinds i _ _ h1 hc) (gr_sorted i _ _ h1 hc) hb
          have ht16 : 1 ≤ t ∧ t ≤ 6 := by have := (gr_kinds i _ _ h1 hc).1; simp only at this; omega
          obtain ⟨k1, k2, k3⟩ := htk i hlt
          rw [hb]
          show _ ∧ _
          refine br_f (nI_nle (by omega) (by omega)) (br_f (nI_ge (b := 256) (by omega) (by decide)) (br_t (show (0 : Int32) ≤ nI b from nI_pos' (by omega)) ?_))
          have iL : vp_in (nI L.length) 256 := vp_in_nI (by omega) (by decide)
          rw [nI_pred, nI_clamp (n := L.length) (by omega), nI_clamp (n := i) (by omega)]
          refine ⟨iL, nm_r hI.1.1 ⟨vp_in_nI (by omega) (by decide), nm_r k1 ⟨vp_in_nI (by omega) (by decide), nm_e ?_⟩⟩⟩
          have go : ∀ st, yp_as st si ((gr_n (K i) t, p) :: L) → wY_parse_167 post (wY_parse_79 post (nI n) g_limit g_status g_trapCode g_exec g_top g_outN g_pc g_evEnd g_rq g_re f) (nI (L.length + 1)) (nI b) (nI i) (nI g) (nI (gr_n (K i) t)) (nI (K i)) (nI n) g_limit g_status g_trapCode g_exec g_top g_outN g_pc g_evEnd g_rq g_re b_kind b_val (upd bo i (nI b)) pa lk st si b_stk b_out b_abody b_apar b_aret b_avar b_apq b_ape b_tk b_tv b_tq b_te := by
            intro st' has'
            refine yp_167 h256 htk h1 hlt hc hb hbi hkb has' hI.2.1 hI.2.2.1 hI.2.2.2.1 hI.2.2.2.2 hF (fun i' L' bo' pa' lk' st' si' h5 h6 h7 h8 => ?_)
            exact ih i' (g + 1) f L' bo' pa' lk' st' si' (by omega) (by omega) (by omega) h6 (by omega) h7 h8
          by_cases e1 : t = 1
          · subst e1
            refine br_t rfl ?_
            by_cases q3 : K i = 3
            · have hnn : gr_n (K i) 1 = 1 := by simp [gr_n, q3]
              have := go st (by rw [hnn]; exact hI.1)
              rw [hnn] at this
              exact br_t (by rw [q3]; rfl) this
            · refine br_f (fun h => q3 ((nI_eq (b := 3) (by omega) (by decide)).mp h)) ?_
              by_cases q4 : K i = 4
              · have hnn : gr_n (K i) 1 = 1 := by simp [gr_n, q4]
                have := go st (by rw [hnn]; exact hI.1)
                rw [hnn] at this
                exact br_t (by rw [q4]; rfl) this
              · have hnn : gr_n (K i) 1 = 2 := by simp [gr_n, q3, q4]
                have := go (upd st L.length (nI 2)) (by rw [hnn]; exact ⟨lo_us, hI.1.2.1, yp_as_t hI.1.2.2 (Nat.le_refl _)⟩)
                rw [hnn] at this
                exact br_f (fun h => q4 ((nI_eq (b := 4) (by omega) (by decide)).mp h)) ⟨iL, nm_e this⟩
          · have hnn : gr_n (K i) t = t := by simp [gr_n, e1]
            have := go st (by rw [hnn]; exact hI.1)
            rw [hnn] at this
            exact br_f (fun h => e1 ((nI_eq (b := 1) (by omega) (by decide)).mp h)) this
theorem yp_2 {post : Int32 → SY → Prop} {K : Nat → Nat} {n : Nat} (h256 : n ≤ 256) (htk : ∀ i, i < n → b_kind i = nI (K i) ∧ 1 ≤ K i ∧ K i ≤ 26)
    (hF : gr_cf K n ≠ some ([], 0) → ∀ (bo pa lk st si : Nat → Int32), post 0 (nI n, g_limit, g_status, g_trapCode, g_exec, g_top, g_outN, g_pc, g_evEnd, g_rq, g_re, b_kind, b_val, bo, pa, lk, st, si, b_stk, b_out, b_abody, b_apar, b_aret, b_avar, b_apq, b_ape, b_tk, b_tv, b_tq, b_te))
    (hT : gr_cf K n = some ([], 0) → ∀ (bo pa lk st si : Nat → Int32), sy_S K n bo pa lk → post 1 (nI n, g_limit, g_status, g_trapCode, g_exec, g_top, g_outN, g_pc, g_evEnd, g_rq, g_re, b_kind, b_val, bo, pa, lk, st, si, b_stk, b_out, b_abody, b_apar, b_aret, b_avar, b_apq, b_ape, b_tk, b_tv, b_tq, b_te)) :
    ∀ (d i f : Nat) (bo : Nat → Int32), i + d = n → d < f → (∀ j, j < i → bo j = -1) → wY_parse_2 post (nI n) g_limit g_status g_trapCode g_exec g_top g_outN g_pc g_evEnd g_rq g_re f (nI i) b_kind b_val bo b_par b_lnk b_st b_si b_stk b_out b_abody b_apar b_aret b_avar b_apq b_ape b_tk b_tv b_tq b_te := by
  intro d
  induction d with
  | zero =>
    intro i f bo hi hf hb
    have : i = n := by omega
    subst this
    cases f with
    | zero => omega
    | succ f =>
      refine br_t (nI_le (Nat.le_refl _) (by omega)) ?_
      by_cases n0 : i = 0
      · subst n0
        exact br_t rfl (hF (by simp [gr_cf]) _ _ _ _ _)
      · refine br_f (nI_ne0 (by omega) (by omega)) ?_
        obtain ⟨k1, k2, k3⟩ := htk 0 (by omega)
        rw [k1]
        by_cases q : K 0 = 1
        · refine br_t (by rw [q]; rfl) (nm_e (nm_e (nm_e (nm_e ⟨i + 1, ?_⟩))))
          have hc1 : gr_cf K 1 = some ([(1, 0)], 0) := by
            rw [gr_next (show gr_cf K 0 = some ([(0, 0)], 0) from rfl)]; simp [gr_st, q]
          refine yp_79 h256 htk hF hT i 1 0 (i + 1) [(1, 0)] _ _ _ _ _ (by omega) (by omega) (Nat.le_refl _) (by omega) (by omega) hc1 ⟨⟨lo_us, lo_us, trivial⟩, fun j hj => ?_, fun j hj hjn => ?_, fun b hb hkb => ?_, fun q t p L a1 a2 => by omega⟩
          · have : j = 0 := by omega
            subst this
            rw [lo_us]; unfold yb_v; rw [if_pos q]; rfl
          · rw [lo_un (by omega)]; exact hb j hjn
          · have : b = 0 := by omega
            subst this
            rw [lo_us]
            simp [gr_pa, gr_cf, gr_cb, yb_p]
        · refine br_f (fun h => q ((nI_eq (b := 1) (by omega) (by decide)).mp h)) (hF ?_ _ _ _ _ _)
          refine xc_none (i := 0) ?_ (by omega)
          rw [gr_next (show gr_cf K 0 = some ([(0, 0)], 0) from rfl)]
          cases hh : gr_st (K 0) 0 ([(0, 0)], 0) with
          | none => rfl
          | some c =>
            exfalso
            exact q (gr_one (c := c) (by rw [gr_next (show gr_cf K 0 = some ([(0, 0)], 0) from rfl)]; exact hh)).1
  | succ d ih =>
    intro i f bo hi hf hb
    cases f with
    | zero => omega
    | succ f =>
      refine br_f (nI_ge (by omega) (by omega)) ⟨vp_in_nI (by omega) (by decide), ?_⟩
      rw [nI_clamp (by omega)]
      refine nm_e (nm_r (nI_1 i) (ih (i + 1) f _ (by omega) (by omega) (fun j hj => ?_)))
      by_cases e : j = i
      · subst e; exact lo_us
      · rw [lo_un e]; exact hb j (by omega)
theorem yp_parse {post : Int32 → SY → Prop} {K : Nat → Nat} {n : Nat} (h256 : n ≤ 256) (htk : ∀ i, i < n → b_kind i = nI (K i) ∧ 1 ≤ K i ∧ K i ≤ 26)
    (hF : gr_cf K n ≠ some ([], 0) → ∀ (bo pa lk st si : Nat → Int32), post 0 (nI n, g_limit, g_status, g_trapCode, g_exec, g_top, g_outN, g_pc, g_evEnd, g_rq, g_re, b_kind, b_val, bo, pa, lk, st, si, b_stk, b_out, b_abody, b_apar, b_aret, b_avar, b_apq, b_ape, b_tk, b_tv, b_tq, b_te))
    (hT : gr_cf K n = some ([], 0) → ∀ (bo pa lk st si : Nat → Int32), sy_S K n bo pa lk → post 1 (nI n, g_limit, g_status, g_trapCode, g_exec, g_top, g_outN, g_pc, g_evEnd, g_rq, g_re, b_kind, b_val, bo, pa, lk, st, si, b_stk, b_out, b_abody, b_apar, b_aret, b_avar, b_apq, b_ape, b_tk, b_tv, b_tq, b_te)) : wpY_parse post (nI n, g_limit, g_status, g_trapCode, g_exec, g_top, g_outN, g_pc, g_evEnd, g_rq, g_re, b_kind, b_val, b_bod, b_par, b_lnk, b_st, b_si, b_stk, b_out, b_abody, b_apar, b_aret, b_avar, b_apq, b_ape, b_tk, b_tv, b_tq, b_te) := by
  unfold wpY_parse
  exact ⟨n + 1, yp_2 h256 htk hF hT n 0 (n + 1) _ (by omega) (by omega) (fun j hj => by omega)⟩
