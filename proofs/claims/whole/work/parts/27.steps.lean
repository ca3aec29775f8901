variable {f_depthLimit f_state f_trapCode f_begun f_tokenTotal f_printedTotal f_stackSize f_bodyCount f_declaredTwice f_liveDepth f_position : Int32} {a_tokenKind a_tokenValue a_printed a_stack a_bodyParent a_bodyStart a_declCount a_paramCount a_paramName a_declKind a_declTarget a_tokenBody a_branchTarget a_liveBody a_liveParent a_returnTo a_slotValue a_slotHome a_waitingOp a_waitingLeft a_leftKnown a_argKind a_argValue a_argHome : Nat → Int32}
variable {g_n g_limit g_status g_trapCode g_exec g_top g_outN g_pc g_evEnd g_rq g_re : Int32} {b_kind b_val b_bod b_par b_lnk b_st b_si b_stk b_out b_abody b_apar b_aret b_avar b_apq b_ape b_tk b_tv b_tq b_te : Nat → Int32}
/-- the reference's state with its scratch fields unclosed -/
def rt_jk (v : SY) (ee rq re : Int32) (sk : Nat → Int32) : SY := match v with
  | (g_n, g_limit, g_status, g_trapCode, g_exec, g_top, g_outN, g_pc, g_evEnd, g_rq, g_re, b_kind, b_val, b_bod, b_par, b_lnk, b_st, b_si, b_stk, b_out, b_abody, b_apar, b_aret, b_avar, b_apq, b_ape, b_tk, b_tv, b_tq, b_te) => (g_n, g_limit, g_status, g_trapCode, g_exec, g_top, g_outN, g_pc, ee, rq, re, b_kind, b_val, b_bod, b_par, b_lnk, b_st, b_si, sk, b_out, b_abody, b_apar, b_aret, b_avar, b_apq, b_ape, b_tk, b_tv, b_tq, b_te)
/-- the reference's step, by the kind of the statement -/
theorem ry_57 {PY : SY → Prop} {n pc k : Nat} (h256 : n ≤ 256) (hpc : pc < n) (hk : b_kind pc = nI k) (hk2 : k = 7 ∨ k = 8 ∨ k = 15) (h : wY_step_57 PY (nI k) (b_val pc) (nI n) g_limit g_status g_trapCode g_exec g_top g_outN (nI pc) g_evEnd g_rq g_re b_kind b_val b_bod b_par b_lnk b_st b_si b_stk b_out b_abody b_apar b_aret b_avar b_apq b_ape b_tk b_tv b_tq b_te) : wpY_step PY (nI n, g_limit, g_status, g_trapCode, g_exec, g_top, g_outN, nI pc, g_evEnd, g_rq, g_re, b_kind, b_val, b_bod, b_par, b_lnk, b_st, b_si, b_stk, b_out, b_abody, b_apar, b_aret, b_avar, b_apq, b_ape, b_tk, b_tv, b_tq, b_te) := by
  unfold wpY_step
  have hin : vp_in (nI pc) 256 := vp_in_nI (by omega) (by decide)
  refine br_f (nI_pos (by omega)) (br_t (nI_lt hpc (by omega)) ⟨hin, ?_⟩)
  rw [nI_clamp (by omega), hk]
  refine nm_e ⟨hin, nm_e ?_⟩
  rcases hk2 with rfl | rfl | rfl
  · exact br_t rfl h
  · exact br_f (by decide) (br_t rfl h)
  · exact br_f (by decide) (br_f (by decide) (br_t rfl h))
theorem ry_9 {PY : SY → Prop} {n pc : Nat} (h256 : n ≤ 256) (hpc : pc < n) (hk : b_kind pc = nI 9) (h : vp_in g_top 17 ∧ wpY_decl (fun r => wpY_find (fun r' => ∀ p : Int32, p = r + 1 → PY (nI n, g_limit, g_status, g_trapCode, g_exec, r', g_outN, p, g_evEnd, g_rq, g_re, b_kind, b_val, b_bod, b_par, b_lnk, b_st, b_si, b_stk, b_out, b_abody, b_apar, b_aret, b_avar, b_apq, b_ape, b_tk, b_tv, b_tq, b_te)) (nI n, g_limit, g_status, g_trapCode, g_exec, g_top, g_outN, nI pc, g_evEnd, g_rq, g_re, b_kind, b_val, b_bod, b_par, b_lnk, b_st, b_si, b_stk, b_out, b_abody, b_apar, b_aret, b_avar, b_apq, b_ape, b_tk, b_tv, b_tq, b_te) g_top (b_val pc)) (nI n, g_limit, g_status, g_trapCode, g_exec, g_top, g_outN, nI pc, g_evEnd, g_rq, g_re, b_kind, b_val, b_bod, b_par, b_lnk, b_st, b_si, b_stk, b_out, b_abody, b_apar, b_aret, b_avar, b_apq, b_ape, b_tk, b_tv, b_tq, b_te) (b_abody g_top.toNatClampNeg) (b_val pc)) : wpY_step PY (nI n, g_limit, g_status, g_trapCode, g_exec, g_top, g_outN, nI pc, g_evEnd, g_rq, g_re, b_kind, b_val, b_bod, b_par, b_lnk, b_st, b_si, b_stk, b_out, b_abody, b_apar, b_aret, b_avar, b_apq, b_ape, b_tk, b_tv, b_tq, b_te) := by
  unfold wpY_step
  have hin : vp_in (nI pc) 256 := vp_in_nI (by omega) (by decide)
  refine br_f (nI_pos (by omega)) (br_t (nI_lt hpc (by omega)) ⟨hin, ?_⟩)
  rw [nI_clamp (by omega), hk]
  exact nm_e ⟨hin, nm_e (br_f (by decide) (br_f (by decide) (br_f (by decide) (br_t rfl h))))⟩
theorem ry_11 {PY : SY → Prop} {n pc : Nat} (h256 : n ≤ 256) (hpc : pc < n) (hk : b_kind pc = nI 11) (h : wpY_call PY (nI n, g_limit, g_status, g_trapCode, g_exec, g_top, g_outN, nI pc, g_evEnd, g_rq, g_re, b_kind, b_val, b_bod, b_par, b_lnk, b_st, b_si, b_stk, b_out, b_abody, b_apar, b_aret, b_avar, b_apq, b_ape, b_tk, b_tv, b_tq, b_te) (b_val pc)) : wpY_step PY (nI n, g_limit, g_status, g_trapCode, g_exec, g_top, g_outN, nI pc, g_evEnd, g_rq, g_re, b_kind, b_val, b_bod, b_par, b_lnk, b_st, b_si, b_stk, b_out, b_abody, b_apar, b_aret, b_avar, b_apq, b_ape, b_tk, b_tv, b_tq, b_te) := by
  unfold wpY_step
  have hin : vp_in (nI pc) 256 := vp_in_nI (by omega) (by decide)
  refine br_f (nI_pos (by omega)) (br_t (nI_lt hpc (by omega)) ⟨hin, ?_⟩)
  rw [nI_clamp (by omega), hk]
  exact nm_e ⟨hin, nm_e (br_f (by decide) (br_f (by decide) (br_f (by decide) (br_f (by decide) (br_t rfl h)))))⟩
theorem ry_10 {PY : SY → Prop} {n pc : Nat} (h256 : n ≤ 256) (hpc : pc < n) (hk : b_kind pc = nI 10) (h : PY (nI n, g_limit, g_status, g_trapCode, g_exec, g_top, g_outN, nI (pc + 1), g_evEnd, g_rq, g_re, b_kind, b_val, b_bod, b_par, b_lnk, b_st, b_si, b_stk, b_out, b_abody, b_apar, b_aret, b_avar, b_apq, b_ape, b_tk, b_tv, b_tq, b_te)) : wpY_step PY (nI n, g_limit, g_status, g_trapCode, g_exec, g_top, g_outN, nI pc, g_evEnd, g_rq, g_re, b_kind, b_val, b_bod, b_par, b_lnk, b_st, b_si, b_stk, b_out, b_abody, b_apar, b_aret, b_avar, b_apq, b_ape, b_tk, b_tv, b_tq, b_te) := by
  unfold wpY_step
  have hin : vp_in (nI pc) 256 := vp_in_nI (by omega) (by decide)
  refine br_f (nI_pos (by omega)) (br_t (nI_lt hpc (by omega)) ⟨hin, ?_⟩)
  rw [nI_clamp (by omega), hk, nI_1]
  exact nm_e ⟨hin, nm_e (br_f (by decide) (br_f (by decide) (br_f (by decide) (br_f (by decide) (br_f (by decide) (nm_e h))))))⟩
/-- a value stored into a variable on both sides -/
theorem rt_SL_set {K V : Nat → Nat} {n : Nat} {ab : Nat → Nat} {a a' d : Nat} {x : Int32} {sv sh av aq ae : Nat → Int32} (hN : gr_ND K V n) (hV : ∀ d, d < n → gr_D (K d) → V d < 16) (h : rt_SL K V n ab a sv sh av aq ae) (hd : d < n) (hD : gr_D (K d)) (hb : gr_bo K n d = ab a') (hk : K d = 3 ∨ K d = 5) :
    rt_SL K V n ab a (upd sv (a' * 16 + V d) x) sh (upd av (a' * 16 + V d) x) aq ae := by
  intro d2 hd2 hD2 hb2
  by_cases e : a * 16 + V d2 = a' * 16 + V d
  · have h1 := lo_ix (hV d2 hd2 hD2) (hV d hd hD) e
    obtain ⟨rfl, hv⟩ := h1
    have : d2 = d := by
      by_cases c1 : d2 < d
      · exact (hN d2 d c1 hd hD2 hD (by rw [hb, hb2]) hv.symm).elim
      · by_cases c2 : d < d2
        · exact (hN d d2 c2 hd2 hD hD2 (by rw [hb, hb2]) hv).elim
        · omega
    subst this
    refine ⟨fun _ => by rw [lo_us, lo_us], fun h4 => by omega, fun h4 => by omega, fun h4 => by omega⟩
  · have h1 := h d2 hd2 hD2 hb2
    rw [lo_un e, lo_un e]
    exact h1
theorem rt_R_set {K V : Nat → Nat} {n : Nat} {ab ap rt : Nat → Nat} {top a' d : Nat} {x : Int32} {lb lp rr sv sh yb yp yr av aq ae : Nat → Int32} (hN : gr_ND K V n) (hV : ∀ d, d < n → gr_D (K d) → V d < 16) (h : rt_R K V n ab ap rt top lb lp rr sv sh yb yp yr av aq ae) (hd : d < n) (hD : gr_D (K d)) (hb : gr_bo K n d = ab a') (hk : K d = 3 ∨ K d = 5) :
    rt_R K V n ab ap rt top lb lp rr (upd sv (a' * 16 + V d) x) sh yb yp yr (upd av (a' * 16 + V d) x) aq ae :=
  ⟨h.1, h.2.1, h.2.2.1, h.2.2.2.1, h.2.2.2.2.1, h.2.2.2.2.2.1, fun a ha => rt_SL_set hN hV (h.2.2.2.2.2.2 a ha) hd hD hb hk⟩
theorem rt_set {PX : SX → Prop} {K V : Nat → Nat} {n lim on top pc : Nat} {ex : Int32} {ab ap rt : Nat → Nat} (hT : rt_TK K V n a_tokenKind a_tokenValue) (hS : rt_ST K V n a_bodyParent a_bodyStart a_paramCount a_paramName a_declKind a_declTarget a_branchTarget b_bod b_par b_lnk) (hR : rt_R K V n ab ap rt top a_liveBody a_liveParent a_returnTo a_slotValue a_slotHome b_abody b_apar b_aret b_avar b_apq b_ape) (hP : gr_P K n pc (ab top)) (hon : on ≤ 32) (hl1 : 1 ≤ lim) (hl2 : lim ≤ 16) (hX : ∀ u' v0, (rt_run K V n lim u' v0 ∨ rt_trp K V n lim u' v0) → (∀ PY : SY → Prop, (∀ (ee rq re : Int32) (sk : Nat → Int32), PY (rt_jk v0 ee rq re sk)) → ∀ (ee0 rq0 re0 : Int32) (sk0 : Nat → Int32), wpY_step PY (nI n, nI lim, 1, 0, ex + 1, nI top, nI on, nI pc, ee0, rq0, re0, a_tokenKind, a_tokenValue, b_bod, b_par, b_lnk, b_st, b_si, sk0, a_printed, b_abody, b_apar, b_aret, b_avar, b_apq, b_ape, b_tk, b_tv, b_tq, b_te)) → PX u') (hk : K pc = 7) : wpX_doSet PX (nI lim, 1, 0, ex + 1, nI n, nI on, f_stackSize, f_bodyCount, f_declaredTwice, nI top, nI (pc + 1), a_tokenKind, a_tokenValue, a_printed, a_stack, a_bodyParent, a_bodyStart, a_declCount, a_paramCount, a_paramName, a_declKind, a_declTarget, a_tokenBody, a_branchTarget, a_liveBody, a_liveParent, a_returnTo, a_slotValue, a_slotHome, a_waitingOp, a_waitingLeft, a_leftKnown, a_argKind, a_argValue, a_argHome) (nI (V pc)) := by
  obtain ⟨h256, htk, htv⟩ := hT
  obtain ⟨hn, hL, hN, hU, hXX, hY⟩ := hS
  have hT : rt_TK K V n a_tokenKind a_tokenValue := ⟨h256, htk, htv⟩
  have hS : rt_ST K V n a_bodyParent a_bodyStart a_paramCount a_paramName a_declKind a_declTarget a_branchTarget b_bod b_par b_lnk := ⟨hn, hL, hN, hU, hXX, hY⟩
  have hpn := hP.2.1
  have hv := htv pc hpn (by simp only [xn_nm]; omega)
  have htd : ∀ i, i < n → gr_D (K i) → a_tokenValue i = nI (V i) ∧ V i < 16 := fun i hi h => htv i hi (by simp only [gr_D] at h; simp only [xn_nm]; omega)
  obtain ⟨L, c1, c2, c3⟩ := gr_P_78 hn hP (.inl hk)
  obtain ⟨e, v, e1, e2, e3, e4, e5⟩ := rt_exp (V := V) (rt_lf K V n ab ap top a_tokenValue b_avar) hn hpn c1 c2
  obtain ⟨d, hl, hm⟩ := rt_name hU hpn (.inl hk) (gr_P_k hn hP).2
  obtain ⟨a', ha', r1, r2, r3, r4, r5⟩ := rt_near hn hL hR hl
  have ht := hR.1
  have hkd := hm.1 (.inl hk)
  unfold wpX_doSet
  refine rt_xe hT hS hR e1 e4 (fun i a b => ⟨(e5 i a b).1, (e5 i a b).2.2⟩) (fun hv0 r ps wo wl lk => ?_) (fun x hx wo wl lk => ?_)
  · refine br_f (by decide) (hX _ (nI n, nI lim, 3, 1, ex + 1, nI top, nI on, nI pc, 0, 0, 0, a_tokenKind, a_tokenValue, b_bod, b_par, b_lnk, b_st, b_si, (fun _ => 0), a_printed, b_abody, b_apar, b_aret, b_avar, b_apq, b_ape, b_tk, b_tv, b_tq, b_te) (.inr ⟨rfl, rfl, rfl, rfl, by decide, rfl, rfl, rfl, rfl, rfl, rfl, rfl, hT, hS, rt_MV_of hR, on, top, hon, ht, rfl, rfl, rfl, rfl⟩) (fun PY hQ ee0 rq0 re0 sk0 => ry_57 h256 hpn (by rw [← hk]; exact (htk pc hpn).1) (.inl rfl) ?_))
    unfold wY_step_57
    rw [nI_1]
    exact rt_ye hT hS hR e1 (by omega) e4 c1 e2 e5 (fun _ sk => br_f (by decide) (hQ _ _ _ _)) (fun x hx => by rw [hv0] at hx; cases hx)
  · refine br_t rfl (rs_slot hn hL (fun d hd => (htk d hd).2) hXX.2.2.2.1 hv.2 hR.2.1 ht (fun a h => (hR.2.2.2.1 a h).1) hR.2.2.2.2.1 (fun a h1 h2 => (hR.2.2.2.2.2.1 a h1 h2).1) ?_)
    rw [← ha', nI_clamp (by omega)]
    refine ⟨vp_in_nI (by omega) (by decide), nm_e (hX _ (nI n, nI lim, 1, 0, ex + 1, nI top, nI on, nI e, 0, 0, 0, a_tokenKind, a_tokenValue, b_bod, b_par, b_lnk, b_st, b_si, (fun _ => 0), a_printed, b_abody, b_apar, b_aret, upd b_avar (a' * 16 + V pc) x, b_apq, b_ape, b_tk, b_tv, b_tq, b_te) (.inl ⟨rfl, rfl, rfl, rfl, rfl, rfl, rfl, rfl, rfl, rfl, rfl, rfl, hT, hS, on, top, e, ab, ap, rt, hon, rfl, rfl, rfl, rfl, rfl, rfl, c3 e (by omega) e4 e2, by rw [← r4]; exact rt_R_set hN (fun d hd h => (htd d hd h).2) hR r2 r5 r3 hkd⟩) (fun PY hQ ee0 rq0 re0 sk0 => ry_57 h256 hpn (by rw [← hk]; exact (htk pc hpn).1) (.inl rfl) ?_))⟩
    unfold wY_step_57
    rw [nI_1]
    refine rt_ye hT hS hR e1 (by omega) e4 c1 e2 e5 (fun h0 => by rw [h0] at hx; cases hx) (fun y hy sk => br_t rfl (br_t rfl ?_))
    rw [hx] at hy
    injection hy with hy
    subst hy
    rw [hv.1]
    refine rs_find hn hL h256 htk htd hR.2.1 ht hY.1 hY.2.1 (fun a h => (hR.2.2.2.1 a h).2) (fun a h1 h2 => (hR.2.2.2.2.2.1 a h1 h2).2) hv.2 (fun _ _ => ?_) (fun h => by rw [hl] at h; cases h)
    rw [← ha', li_m16, nI_add, nI_clamp (by omega)]
    exact ⟨vp_in_nI (by omega) (by decide), nm_e (hQ _ _ _ _)⟩
theorem rt_print {PX : SX → Prop} {K V : Nat → Nat} {n lim on top pc : Nat} {ex : Int32} {ab ap rt : Nat → Nat} (hT : rt_TK K V n a_tokenKind a_tokenValue) (hS : rt_ST K V n a_bodyParent a_bodyStart a_paramCount a_paramName a_declKind a_declTarget a_branchTarget b_bod b_par b_lnk) (hR : rt_R K V n ab ap rt top a_liveBody a_liveParent a_returnTo a_slotValue a_slotHome b_abody b_apar b_aret b_avar b_apq b_ape) (hP : gr_P K n pc (ab top)) (hon : on ≤ 32) (hl1 : 1 ≤ lim) (hl2 : lim ≤ 16) (hX : ∀ u' v0, (rt_run K V n lim u' v0 ∨ rt_trp K V n lim u' v0) → (∀ PY : SY → Prop, (∀ (ee rq re : Int32) (sk : Nat → Int32), PY (rt_jk v0 ee rq re sk)) → ∀ (ee0 rq0 re0 : Int32) (sk0 : Nat → Int32), wpY_step PY (nI n, nI lim, 1, 0, ex + 1, nI top, nI on, nI pc, ee0, rq0, re0, a_tokenKind, a_tokenValue, b_bod, b_par, b_lnk, b_st, b_si, sk0, a_printed, b_abody, b_apar, b_aret, b_avar, b_apq, b_ape, b_tk, b_tv, b_tq, b_te)) → PX u') (hk : K pc = 8) : wpX_doPrint PX (nI lim, 1, 0, ex + 1, nI n, nI on, f_stackSize, f_bodyCount, f_declaredTwice, nI top, nI (pc + 1), a_tokenKind, a_tokenValue, a_printed, a_stack, a_bodyParent, a_bodyStart, a_declCount, a_paramCount, a_paramName, a_declKind, a_declTarget, a_tokenBody, a_branchTarget, a_liveBody, a_liveParent, a_returnTo, a_slotValue, a_slotHome, a_waitingOp, a_waitingLeft, a_leftKnown, a_argKind, a_argValue, a_argHome) := by
  obtain ⟨h256, htk, htv⟩ := hT
  obtain ⟨hn, hL, hN, hU, hXX, hY⟩ := hS
  have hT : rt_TK K V n a_tokenKind a_tokenValue := ⟨h256, htk, htv⟩
  have hS : rt_ST K V n a_bodyParent a_bodyStart a_paramCount a_paramName a_declKind a_declTarget a_branchTarget b_bod b_par b_lnk := ⟨hn, hL, hN, hU, hXX, hY⟩
  have hpn := hP.2.1
  obtain ⟨L, c1, c2, c3⟩ := gr_P_78 hn hP (.inr hk)
  obtain ⟨e, v, e1, e2, e3, e4, e5⟩ := rt_exp (V := V) (rt_lf K V n ab ap top a_tokenValue b_avar) hn hpn c1 c2
  have ht := hR.1
  unfold wpX_doPrint
  refine rt_xe hT hS hR e1 e4 (fun i a b => ⟨(e5 i a b).1, (e5 i a b).2.2⟩) (fun hv0 r ps wo wl lk => ?_) (fun x hx wo wl lk => ?_)
  · refine br_f (by decide) (hX _ (nI n, nI lim, 3, 1, ex + 1, nI top, nI on, nI pc, 0, 0, 0, a_tokenKind, a_tokenValue, b_bod, b_par, b_lnk, b_st, b_si, (fun _ => 0), a_printed, b_abody, b_apar, b_aret, b_avar, b_apq, b_ape, b_tk, b_tv, b_tq, b_te) (.inr ⟨rfl, rfl, rfl, rfl, by decide, rfl, rfl, rfl, rfl, rfl, rfl, rfl, hT, hS, rt_MV_of hR, on, top, hon, ht, rfl, rfl, rfl, rfl⟩) (fun PY hQ ee0 rq0 re0 sk0 => ry_57 h256 hpn (by rw [← hk]; exact (htk pc hpn).1) (.inr (.inl rfl)) ?_))
    unfold wY_step_57
    rw [nI_1]
    exact rt_ye hT hS hR e1 (by omega) e4 c1 e2 e5 (fun _ sk => br_f (by decide) (hQ _ _ _ _)) (fun x hx => by rw [hv0] at hx; cases hx)
  · refine br_t rfl ?_
    by_cases o : on < 32
    · refine br_t (nI_lt (b := 32) o (by decide)) ⟨vp_in_nI o (by decide), ?_⟩
      rw [nI_clamp (by omega), nI_1]
      refine nm_e (nm_e (hX _ (nI n, nI lim, 1, 0, ex + 1, nI top, nI (on + 1), nI e, 0, 0, 0, a_tokenKind, a_tokenValue, b_bod, b_par, b_lnk, b_st, b_si, (fun _ => 0), upd a_printed on x, b_abody, b_apar, b_aret, b_avar, b_apq, b_ape, b_tk, b_tv, b_tq, b_te) (.inl ⟨rfl, rfl, rfl, rfl, rfl, rfl, rfl, rfl, rfl, rfl, rfl, rfl, hT, hS, on + 1, top, e, ab, ap, rt, by omega, rfl, rfl, rfl, rfl, rfl, rfl, c3 e (by omega) e4 e2, hR⟩) (fun PY hQ ee0 rq0 re0 sk0 => ry_57 h256 hpn (by rw [← hk]; exact (htk pc hpn).1) (.inr (.inl rfl)) ?_)))
      unfold wY_step_57
      rw [nI_1]
      refine rt_ye hT hS hR e1 (by omega) e4 c1 e2 e5 (fun h0 => by rw [h0] at hx; cases hx) (fun y hy sk => br_t rfl (br_f (by decide) (br_f (by decide) ?_)))
      rw [hx] at hy
      injection hy with hy
      subst hy
      refine br_t (nI_lt (b := 32) o (by decide)) ⟨vp_in_nI o (by decide), ?_⟩
      rw [nI_clamp (by omega), nI_1]
      exact nm_e (nm_e (hQ _ _ _ _))
    · refine br_f (nI_nlt (b := 32) (by omega) (by omega)) (hX _ (nI n, nI lim, 3, 4, ex + 1, nI top, nI on, nI pc, 0, 0, 0, a_tokenKind, a_tokenValue, b_bod, b_par, b_lnk, b_st, b_si, (fun _ => 0), a_printed, b_abody, b_apar, b_aret, b_avar, b_apq, b_ape, b_tk, b_tv, b_tq, b_te) (.inr ⟨rfl, rfl, rfl, rfl, by decide, rfl, rfl, rfl, rfl, rfl, rfl, rfl, hT, hS, rt_MV_of hR, on, top, hon, ht, rfl, rfl, rfl, rfl⟩) (fun PY hQ ee0 rq0 re0 sk0 => ry_57 h256 hpn (by rw [← hk]; exact (htk pc hpn).1) (.inr (.inl rfl)) ?_))
      unfold wY_step_57
      rw [nI_1]
      refine rt_ye hT hS hR e1 (by omega) e4 c1 e2 e5 (fun h0 => by rw [h0] at hx; cases hx) (fun y hy sk => br_t rfl (br_f (by decide) (br_f (by decide) ?_)))
      exact br_f (nI_nlt (b := 32) (by omega) (by omega)) (hQ _ _ _ _)
theorem rt_if {PX : SX → Prop} {K V : Nat → Nat} {n lim on top pc : Nat} {ex : Int32} {ab ap rt : Nat → Nat} (hT : rt_TK K V n a_tokenKind a_tokenValue) (hS : rt_ST K V n a_bodyParent a_bodyStart a_paramCount a_paramName a_declKind a_declTarget a_branchTarget b_bod b_par b_lnk) (hR : rt_R K V n ab ap rt top a_liveBody a_liveParent a_returnTo a_slotValue a_slotHome b_abody b_apar b_aret b_avar b_apq b_ape) (hP : gr_P K n pc (ab top)) (hon : on ≤ 32) (hl1 : 1 ≤ lim) (hl2 : lim ≤ 16) (hX : ∀ u' v0, (rt_run K V n lim u' v0 ∨ rt_trp K V n lim u' v0) → (∀ PY : SY → Prop, (∀ (ee rq re : Int32) (sk : Nat → Int32), PY (rt_jk v0 ee rq re sk)) → ∀ (ee0 rq0 re0 : Int32) (sk0 : Nat → Int32), wpY_step PY (nI n, nI lim, 1, 0, ex + 1, nI top, nI on, nI pc, ee0, rq0, re0, a_tokenKind, a_tokenValue, b_bod, b_par, b_lnk, b_st, b_si, sk0, a_printed, b_abody, b_apar, b_aret, b_avar, b_apq, b_ape, b_tk, b_tv, b_tq, b_te)) → PX u') (hk : K pc = 15) : wpX_doIf PX (nI lim, 1, 0, ex + 1, nI n, nI on, f_stackSize, f_bodyCount, f_declaredTwice, nI top, nI (pc + 1), a_tokenKind, a_tokenValue, a_printed, a_stack, a_bodyParent, a_bodyStart, a_declCount, a_paramCount, a_paramName, a_declKind, a_declTarget, a_tokenBody, a_branchTarget, a_liveBody, a_liveParent, a_returnTo, a_slotValue, a_slotHome, a_waitingOp, a_waitingLeft, a_leftKnown, a_argKind, a_argValue, a_argHome) (nI pc) := by
  obtain ⟨h256, htk, htv⟩ := hT
  obtain ⟨hn, hL, hN, hU, hXX, hY⟩ := hS
  have hT : rt_TK K V n a_tokenKind a_tokenValue := ⟨h256, htk, htv⟩
  have hS : rt_ST K V n a_bodyParent a_bodyStart a_paramCount a_paramName a_declKind a_declTarget a_branchTarget b_bod b_par b_lnk := ⟨hn, hL, hN, hU, hXX, hY⟩
  have hpn := hP.2.1
  obtain ⟨⟨L, c1, c2, c3⟩, q, L2, q1, q2, q3, q4, q5⟩ := gr_P_15 hn hP hk
  obtain ⟨e, v, e1, e2, e3, e4, e5⟩ := rt_exp (V := V) (rt_lf K V n ab ap top a_tokenValue b_avar) hn hpn c1 c2
  have ht := hR.1
  have hbt : a_branchTarget pc = nI (q + 1) := hXX.2.2.2.2 q 4 pc L2 (by omega) q2 q3 (.inl rfl) q4
  have hlk : b_lnk pc = nI q := hY.2.2 q 4 pc L2 (by omega) q2 q3 (lo_clo hn q2 q3 (.inl rfl) q4)
  unfold wpX_doIf
  refine rt_xe hT hS hR e1 e4 (fun i a b => ⟨(e5 i a b).1, (e5 i a b).2.2⟩) (fun hv0 r ps wo wl lk => ?_) (fun x hx wo wl lk => ?_)
  · refine br_f (by decide) (hX _ (nI n, nI lim, 3, 1, ex + 1, nI top, nI on, nI pc, 0, 0, 0, a_tokenKind, a_tokenValue, b_bod, b_par, b_lnk, b_st, b_si, (fun _ => 0), a_printed, b_abody, b_apar, b_aret, b_avar, b_apq, b_ape, b_tk, b_tv, b_tq, b_te) (.inr ⟨rfl, rfl, rfl, rfl, by decide, rfl, rfl, rfl, rfl, rfl, rfl, rfl, hT, hS, rt_MV_of hR, on, top, hon, ht, rfl, rfl, rfl, rfl⟩) (fun PY hQ ee0 rq0 re0 sk0 => ry_57 h256 hpn (by rw [← hk]; exact (htk pc hpn).1) (.inr (.inr rfl)) ?_))
    unfold wY_step_57
    rw [nI_1]
    exact rt_ye hT hS hR e1 (by omega) e4 c1 e2 e5 (fun _ sk => br_f (by decide) (hQ _ _ _ _)) (fun x hx => by rw [hv0] at hx; cases hx)
  · refine br_t rfl ?_
    have hcl : (nI pc).toNatClampNeg = pc := nI_clamp (by omega)
    have hin : vp_in (nI pc) 256 := vp_in_nI (by omega) (by decide)
    by_cases x0 : x = 0
    · refine br_t x0 ⟨hin, ?_⟩
      rw [hcl, hbt]
      refine nm_e (hX _ (nI n, nI lim, 1, 0, ex + 1, nI top, nI on, nI (q + 1), 0, 0, 0, a_tokenKind, a_tokenValue, b_bod, b_par, b_lnk, b_st, b_si, (fun _ => 0), a_printed, b_abody, b_apar, b_aret, b_avar, b_apq, b_ape, b_tk, b_tv, b_tq, b_te) (.inl ⟨rfl, rfl, rfl, rfl, rfl, rfl, rfl, rfl, rfl, rfl, rfl, rfl, hT, hS, on, top, q + 1, ab, ap, rt, hon, rfl, rfl, rfl, rfl, rfl, rfl, q5, hR⟩) (fun PY hQ ee0 rq0 re0 sk0 => ry_57 h256 hpn (by rw [← hk]; exact (htk pc hpn).1) (.inr (.inr rfl)) ?_))
      unfold wY_step_57
      rw [nI_1]
      refine rt_ye hT hS hR e1 (by omega) e4 c1 e2 e5 (fun h0 => by rw [h0] at hx; cases hx) (fun y hy sk => br_t rfl (br_f (by decide) (br_t rfl ?_)))
      rw [hx] at hy
      injection hy with hy
      subst hy
      refine br_t x0 ⟨hin, ?_⟩
      rw [hcl, hlk]
      exact nm_r (nI_1 q) (hQ _ _ _ _)
    · refine br_f x0 (hX _ (nI n, nI lim, 1, 0, ex + 1, nI top, nI on, nI e, 0, 0, 0, a_tokenKind, a_tokenValue, b_bod, b_par, b_lnk, b_st, b_si, (fun _ => 0), a_printed, b_abody, b_apar, b_aret, b_avar, b_apq, b_ape, b_tk, b_tv, b_tq, b_te) (.inl ⟨rfl, rfl, rfl, rfl, rfl, rfl, rfl, rfl, rfl, rfl, rfl, rfl, hT, hS, on, top, e, ab, ap, rt, hon, rfl, rfl, rfl, rfl, rfl, rfl, c3 e (by omega) e4 e2, hR⟩) (fun PY hQ ee0 rq0 re0 sk0 => ry_57 h256 hpn (by rw [← hk]; exact (htk pc hpn).1) (.inr (.inr rfl)) ?_))
      unfold wY_step_57
      rw [nI_1]
      refine rt_ye hT hS hR e1 (by omega) e4 c1 e2 e5 (fun h0 => by rw [h0] at hx; cases hx) (fun y hy sk => br_t rfl (br_f (by decide) (br_t rfl ?_)))
      rw [hx] at hy
      injection hy with hy
      subst hy
      exact br_f x0 (hQ _ _ _ _)
theorem rt_goto {PX : SX → Prop} {K V : Nat → Nat} {n lim on top pc : Nat} {ex : Int32} {ab ap rt : Nat → Nat} (hT : rt_TK K V n a_tokenKind a_tokenValue) (hS : rt_ST K V n a_bodyParent a_bodyStart a_paramCount a_paramName a_declKind a_declTarget a_branchTarget b_bod b_par b_lnk) (hR : rt_R K V n ab ap rt top a_liveBody a_liveParent a_returnTo a_slotValue a_slotHome b_abody b_apar b_aret b_avar b_apq b_ape) (hP : gr_P K n pc (ab top)) (hon : on ≤ 32) (hl1 : 1 ≤ lim) (hl2 : lim ≤ 16) (hX : ∀ u' v0, (rt_run K V n lim u' v0 ∨ rt_trp K V n lim u' v0) → (∀ PY : SY → Prop, (∀ (ee rq re : Int32) (sk : Nat → Int32), PY (rt_jk v0 ee rq re sk)) → ∀ (ee0 rq0 re0 : Int32) (sk0 : Nat → Int32), wpY_step PY (nI n, nI lim, 1, 0, ex + 1, nI top, nI on, nI pc, ee0, rq0, re0, a_tokenKind, a_tokenValue, b_bod, b_par, b_lnk, b_st, b_si, sk0, a_printed, b_abody, b_apar, b_aret, b_avar, b_apq, b_ape, b_tk, b_tv, b_tq, b_te)) → PX u') (hk : K pc = 9) : wpX_doGoto PX (nI lim, 1, 0, ex + 1, nI n, nI on, f_stackSize, f_bodyCount, f_declaredTwice, nI top, nI (pc + 1), a_tokenKind, a_tokenValue, a_printed, a_stack, a_bodyParent, a_bodyStart, a_declCount, a_paramCount, a_paramName, a_declKind, a_declTarget, a_tokenBody, a_branchTarget, a_liveBody, a_liveParent, a_returnTo, a_slotValue, a_slotHome, a_waitingOp, a_waitingLeft, a_leftKnown, a_argKind, a_argValue, a_argHome) (nI (V pc)) := by
  obtain ⟨h256, htk, htv⟩ := hT
  obtain ⟨hn, hL, hN, hU, hXX, hY⟩ := hS
  have hT : rt_TK K V n a_tokenKind a_tokenValue := ⟨h256, htk, htv⟩
  have hS : rt_ST K V n a_bodyParent a_bodyStart a_paramCount a_paramName a_declKind a_declTarget a_branchTarget b_bod b_par b_lnk := ⟨hn, hL, hN, hU, hXX, hY⟩
  have hpn := hP.2.1
  have hv := htv pc hpn (by simp only [xn_nm]; omega)
  have htd : ∀ i, i < n → gr_D (K i) → a_tokenValue i = nI (V i) ∧ V i < 16 := fun i hi h => htv i hi (by simp only [gr_D] at h; simp only [xn_nm]; omega)
  obtain ⟨d, hl, hm⟩ := rt_name hU hpn (.inr (.inr (.inr (.inr hk)))) (gr_P_k hn hP).2
  obtain ⟨a', ha', r1, r2, r3, r4, r5⟩ := rt_near hn hL hR hl
  have ht := hR.1
  have hkd := hm.2.2 hk
  have hsl := (hR.2.2.2.2.2.2 a' r1 d r2 r5 r3).2.2.1 hkd
  rw [r4] at hsl
  have hPd : gr_P K n (d + 1) (ab a') := by rw [← r3]; exact gr_label hn r2 hkd
  unfold wpX_doGoto
  refine rs_slot hn hL (fun d hd => (htk d hd).2) hXX.2.2.2.1 hv.2 hR.2.1 ht (fun a h => (hR.2.2.2.1 a h).1) hR.2.2.2.2.1 (fun a h1 h2 => (hR.2.2.2.2.2.1 a h1 h2).1) ?_
  rw [← ha', nI_clamp (by omega), hsl.1, hsl.2]
  refine ⟨vp_in_nI (by omega) (by decide), nm_e ⟨vp_in_nI (by omega) (by decide), nm_e (hX _ (nI n, nI lim, 1, 0, ex + 1, nI a', nI on, nI (d + 1), 0, 0, 0, a_tokenKind, a_tokenValue, b_bod, b_par, b_lnk, b_st, b_si, (fun _ => 0), a_printed, b_abody, b_apar, b_aret, b_avar, b_apq, b_ape, b_tk, b_tv, b_tq, b_te) (.inl ⟨rfl, rfl, rfl, rfl, rfl, rfl, rfl, rfl, rfl, rfl, rfl, rfl, hT, hS, on, a', d + 1, ab, ap, rt, hon, rfl, rfl, rfl, rfl, rfl, rfl, hPd, rt_R_le hR r1⟩) (fun PY hQ ee0 rq0 re0 sk0 => ry_9 h256 hpn (by rw [← hk]; exact (htk pc hpn).1) ⟨vp_in_nI (by omega) (by decide), ?_⟩))⟩⟩
  rw [nI_clamp (by omega), (hR.2.2.2.1 top (Nat.le_refl _)).2, hv.1]
  obtain ⟨b1, b2, b3, b4⟩ := hR.2.1 top (Nat.le_refl _)
  refine yn_decl hn h256 htk htd hY.1 hY.2.1 hv.2 b1 b2 ?_
  rw [hl]
  refine rs_find hn hL h256 htk htd hR.2.1 ht hY.1 hY.2.1 (fun a h => (hR.2.2.2.1 a h).2) (fun a h1 h2 => (hR.2.2.2.2.2.1 a h1 h2).2) hv.2 (fun _ _ => ?_) (fun h => by rw [hl] at h; cases h)
  rw [← ha']
  exact nm_r (nI_1 d) (hQ _ _ _ _)
