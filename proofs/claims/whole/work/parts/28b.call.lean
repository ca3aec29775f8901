variable {f_depthLimit f_state f_trapCode f_begun f_tokenTotal f_printedTotal f_stackSize f_bodyCount f_declaredTwice f_liveDepth f_position : Int32} {a_tokenKind a_tokenValue a_printed a_stack a_bodyParent a_bodyStart a_declCount a_paramCount a_paramName a_declKind a_declTarget a_tokenBody a_branchTarget a_liveBody a_liveParent a_returnTo a_slotValue a_slotHome a_waitingOp a_waitingLeft a_leftKnown a_argKind a_argValue a_argHome : Nat → Int32}
variable {g_n g_limit g_status g_trapCode g_exec g_top g_outN g_pc g_evEnd g_rq g_re : Int32} {b_kind b_val b_bod b_par b_lnk b_st b_si b_stk b_out b_abody b_apar b_aret b_avar b_apq b_ape b_tk b_tv b_tq b_te : Nat → Int32}
theorem rt_call {PX : SX → Prop} {K V : Nat → Nat} {n lim on top pc : Nat} {ex : Int32} {ab ap rt : Nat → Nat} (hT : rt_TK K V n a_tokenKind a_tokenValue) (hS : rt_ST K V n a_bodyParent a_bodyStart a_paramCount a_paramName a_declKind a_declTarget a_branchTarget b_bod b_par b_lnk) (hR : rt_R K V n ab ap rt top a_liveBody a_liveParent a_returnTo a_slotValue a_slotHome b_abody b_apar b_aret b_avar b_apq b_ape) (hP : gr_P K n pc (ab top)) (hon : on ≤ 32) (hl1 : 1 ≤ lim) (hl2 : lim ≤ 16) (hX : ∀ u' v0, (rt_run K V n lim u' v0 ∨ rt_trp K V n lim u' v0) → (∀ PY : SY → Prop, (∀ (ee rq re : Int32) (sk : Nat → Int32), PY (rt_jk v0 ee rq re sk)) → ∀ (ee0 rq0 re0 : Int32) (sk0 : Nat → Int32), wpY_step PY (nI n, nI lim, 1, 0, ex + 1, nI top, nI on, nI pc, ee0, rq0, re0, a_tokenKind, a_tokenValue, b_bod, b_par, b_lnk, b_st, b_si, sk0, a_printed, b_abody, b_apar, b_aret, b_avar, b_apq, b_ape, b_tk, b_tv, b_tq, b_te)) → PX u') (hk : K pc = 11) : wpX_doCall PX (nI lim, 1, 0, ex + 1, nI n, nI on, f_stackSize, f_bodyCount, f_declaredTwice, nI top, nI (pc + 1), a_tokenKind, a_tokenValue, a_printed, a_stack, a_bodyParent, a_bodyStart, a_declCount, a_paramCount, a_paramName, a_declKind, a_declTarget, a_tokenBody, a_branchTarget, a_liveBody, a_liveParent, a_returnTo, a_slotValue, a_slotHome, a_waitingOp, a_waitingLeft, a_leftKnown, a_argKind, a_argValue, a_argHome) (nI (V pc)) := by
  obtain ⟨h256, htk, htv⟩ := hT
  obtain ⟨hn, hL, hN, hU, hXX, hY⟩ := hS
  have hT : rt_TK K V n a_tokenKind a_tokenValue := ⟨h256, htk, htv⟩
  have hS : rt_ST K V n a_bodyParent a_bodyStart a_paramCount a_paramName a_declKind a_declTarget a_branchTarget b_bod b_par b_lnk := ⟨hn, hL, hN, hU, hXX, hY⟩
  have hpn := hP.2.1
  have hp1 := hP.1
  have hv := htv pc hpn (by simp only [xn_nm]; omega)
  have htd : ∀ i, i < n → gr_D (K i) → a_tokenValue i = nI (V i) ∧ V i < 16 := fun i hi h => htv i hi (by simp only [gr_D] at h; simp only [xn_nm]; omega)
  obtain ⟨dn, L, d1, d2, d3, d4, d5, d6, d7⟩ := gr_P_11 hn hP hk
  have hlk : b_lnk pc = nI dn := hY.2.2 dn 6 pc L (by omega) d2 d4 (.inr (.inr (.inr (.inl ⟨d5, rfl⟩))))
  obtain ⟨d, hl, hm⟩ := rt_name hU hpn (.inr (.inr (.inl hk))) (gr_P_k hn hP).2
  have hkd := hm.2.1 (.inl hk)
  obtain ⟨q, h, hVq, s1, s2, s3⟩ := rk_pv hn hL hR hl hkd
  have hle := ac_al_le (V := V) (x := V pc) hR.2.1 15 top (Nat.le_refl _)
  have ht := hR.1
  obtain ⟨b, L', c1, c2, c3, c4, c5, c6, c7, c8, c9⟩ := gr_proc hn hVq.1 hVq.2.1
  have hQ := hXX.2.2.1 q b hVq.1 hVq.2.1 c1 c2 c3 c6
  have h16 : gr_np K b < 16 := by have := @gr_np_mono K b n (by omega); have := hL.1; omega
  have hPr : rk_Pr K V n q b := by
    refine ⟨hVq.1, hVq.2.1, c1, c2, c3, fun i h1 h2 => ⟨c6 i h1 h2, (c5 i h1 (by omega)).2, ?_, ?_⟩, hQ.1, h16⟩
    · exact (htv i (by omega) (by have := c6 i h1 h2; simp only [xn_nm]; omega)).2
    · have := gr_dc_of hN (show i < n by omega) (by have := c6 i h1 h2; simp only [gr_D]; omega)
      rw [(c5 i h1 (by omega)).2] at this
      exact this
  have hlq : b_lnk q = nI b := hY.2.2 b 3 q _ (by omega) c2 (c5 b c1 (Nat.le_refl _)).1 (.inl ⟨c3, rfl⟩)
  obtain ⟨s, e1, e2, e3, e4, e5, e6⟩ := rk_first hn n (b + 1) (by omega) (by omega) (by omega) c9
  have hbs : a_bodyStart (gr_np K b) = nI s := hXX.2.1 s b _ e1 e2 e3 e4 e5
  unfold wpX_doCall
  refine rs_slot hn hL (fun d hd => (htk d hd).2) hXX.2.2.2.1 hv.2 hR.2.1 ht (fun a h => (hR.2.2.2.1 a h).1) hR.2.2.2.2.1 (fun a h1 h2 => (hR.2.2.2.2.2.1 a h1 h2).1) ?_
  have ix : vp_in (nI (ac_al K V n ab ap (V pc) 15 top * 16 + V pc)) 272 := vp_in_nI (by omega) (by decide)
  rw [nI_clamp (by omega), s1, s2, ← c7]
  refine ⟨ix, nm_e ⟨ix, nm_e ?_⟩⟩
  unfold wpX_takeArguments
  refine ⟨n, rk_args (b_st := b_st) (b_si := b_si) (YG := fun PY => ∀ (ee0 rq0 re0 : Int32) (sk0 : Nat → Int32), wpY_step PY (nI n, nI lim, 1, 0, ex + 1, nI top, nI on, nI pc, ee0, rq0, re0, a_tokenKind, a_tokenValue, b_bod, b_par, b_lnk, b_st, b_si, sk0, a_printed, b_abody, b_apar, b_aret, b_avar, b_apq, b_ape, b_tk, b_tv, b_tq, b_te)) (q := q) (h := h) hT hS hR d2 d4 d5 d6 (fun r ps ak av ah wo wl lk tk tv tq te hG => ?_) (fun c ak av ah wo wl lk tk tv tq te hc hA hG => ?_) (n - (pc + 1)) (pc + 1) 0 0 n n _ _ _ _ _ _ b_tk b_tv b_tq b_te (Nat.le_refl _) (by omega) (by omega) (by omega) (by omega) (by omega) (by omega) d3 (fun i hi => by omega) (fun PY hq ee0 rq0 re0 sk0 => ?_)⟩
  · exact br_f (by decide) (hX _ (nI n, nI lim, 3, 1, ex + 1, nI top, nI on, nI pc, 0, 0, 0, a_tokenKind, a_tokenValue, b_bod, b_par, b_lnk, b_st, b_si, (fun _ => 0), a_printed, b_abody, b_apar, b_aret, b_avar, b_apq, b_ape, tk, tv, tq, te) (.inr ⟨rfl, rfl, rfl, rfl, by decide, rfl, rfl, rfl, rfl, rfl, rfl, rfl, hT, hS, rt_MV_of hR, on, top, hon, ht, rfl, rfl, rfl, rfl⟩) (fun PY hQ => hG PY (fun ee rq re sk => hQ ee rq re sk)))
  · refine br_t rfl ?_
    have hA2 : ∀ i, i < c → i < 4 → (ak i = 5 ∧ tk i = 12) ∨ (ak i = 6 ∧ tk i = 13) := by
      intro i h1 h2
      rcases hA i h1 h2 with ⟨g1, g2, _⟩ | ⟨g1, g2, _⟩
      · exact .inl ⟨g1, g2⟩
      · exact .inr ⟨g1, g2⟩
    refine rk_fit (fun d hd => (htk d hd).2) hPr hXX.2.2.1 hXX.2.2.2.1 hc (fun hF => br_f (by decide) ?_) (fun hF => br_t rfl ?_)
    · by_cases hlt : top < lim
      · refine br_t (nI_lt hlt (by omega)) (nm_r (nI_1 top) ⟨vp_in_nI (by omega) (by decide), ?_⟩)
        rw [nI_clamp (n := top + 1) (by omega)]
        refine nm_e (xk_open (by omega) h16 (fun sv1 sh1 o1 o2 => ?_))
        unfold wpX_bindParams
        refine ⟨b - q, rk_bind hPr hXX.2.2.1 (by omega) sv1 sh1 (fun sv sh o3 o4 => ?_) (b - q - 1) 0 (b - q) _ _ (by omega) (by omega) (fun i' h => by omega) (fun j _ => ⟨rfl, rfl⟩)⟩
        rw [hbs]
        refine hX _ (nI n, nI lim, 1, 0, ex + 1, nI (top + 1), nI on, nI s, 0, 0, 0, a_tokenKind, a_tokenValue, b_bod, b_par, b_lnk, b_st, b_si, (fun _ => 0), a_printed, upd b_abody (top + 1) (nI b), upd b_apar (top + 1) (nI h), upd b_aret (top + 1) (nI (dn + 1)), rk_b1 V q (top + 1) tk tv (rk_z (top + 1) b_avar 16) (b - q - 1), rk_b2 V q (top + 1) tk tq (rk_z (top + 1) b_apq 16) (b - q - 1), rk_b2 V q (top + 1) tk te (rk_z (top + 1) b_ape 16) (b - q - 1), tk, tv, tq, te) (.inl ⟨rfl, rfl, rfl, rfl, rfl, rfl, rfl, rfl, rfl, rfl, rfl, rfl, hT, hS, on, top + 1, s, rk_u ab (top + 1) b, rk_u ap (top + 1) h, rk_u rt (top + 1) (dn + 1), hon, rfl, rfl, rfl, rfl, rfl, rfl, by rw [rk_us]; exact e6, rk_R hn hN (fun d hd h => (htd d hd h).2) hR hPr hVq c8 hA hF d7 (by omega) hXX.2.2.2.1 o1 o2 o3 o4⟩) (fun PY hQ => hG PY (fun ee rq re sk => ?_))
        refine rk_194 h256 htk hPr hlq hc hA2 (fun _ => ?_) (fun hF2 => absurd hF hF2)
        unfold wY_call_303
        refine br_t rfl (br_t (nI_lt hlt (by omega)) (nm_r (nI_1 top) ⟨vp_in_nI (by omega) (by decide), ?_⟩))
        rw [nI_clamp (n := top + 1) (by omega), nI_1]
        refine nm_e ⟨vp_in_nI (by omega) (by decide), nm_e ⟨vp_in_nI (by omega) (by decide), nm_e ⟨17, rk_378 h256 htv hPr hF.1 (by omega) ?_ 16 0 17 (by omega) (by omega)⟩⟩⟩
        unfold wY_call_555
        refine yk_first hn h256 htk hY.2.2 c2 c9 (fun s' g1 g2 g3 g4 g5 g6 => ?_)
        have hbs' : a_bodyStart (gr_np K b) = nI s' := hXX.2.1 s' b _ g1 g2 g3 g4 g5
        rw [← hbs', hbs]
        exact hQ ee rq re sk
      · refine br_f (nI_nlt (by omega) (by omega)) (hX _ (nI n, nI lim, 3, 2, ex + 1, nI top, nI on, nI pc, 0, 0, 0, a_tokenKind, a_tokenValue, b_bod, b_par, b_lnk, b_st, b_si, (fun _ => 0), a_printed, b_abody, b_apar, b_aret, b_avar, b_apq, b_ape, tk, tv, tq, te) (.inr ⟨rfl, rfl, rfl, rfl, by decide, rfl, rfl, rfl, rfl, rfl, rfl, rfl, hT, hS, rt_MV_of hR, on, top, hon, ht, rfl, rfl, rfl, rfl⟩) (fun PY hQ => hG PY (fun ee rq re sk => ?_)))
        refine rk_194 h256 htk hPr hlq hc hA2 (fun _ => ?_) (fun hF2 => absurd hF hF2)
        unfold wY_call_303
        exact br_t rfl (br_f (nI_nlt (by omega) (by omega)) (hQ ee rq re sk))
    · refine hX _ (nI n, nI lim, 3, 3, ex + 1, nI top, nI on, nI pc, 0, 0, 0, a_tokenKind, a_tokenValue, b_bod, b_par, b_lnk, b_st, b_si, (fun _ => 0), a_printed, b_abody, b_apar, b_aret, b_avar, b_apq, b_ape, tk, tv, tq, te) (.inr ⟨rfl, rfl, rfl, rfl, by decide, rfl, rfl, rfl, rfl, rfl, rfl, rfl, hT, hS, rt_MV_of hR, on, top, hon, ht, rfl, rfl, rfl, rfl⟩) (fun PY hQ => hG PY (fun ee rq re sk => ?_))
      refine rk_194 h256 htk hPr hlq hc hA2 (fun hF2 => absurd hF2 hF) (fun _ => ?_)
      unfold wY_call_303
      exact br_f (by decide) (hQ ee rq re sk)
  · refine ry_11 h256 hpn (by rw [← hk]; exact (htk pc hpn).1) ?_
    unfold wpY_call
    rw [hv.1]
    refine rk_ypv hT hS hR hv.2 hl s3 ⟨vp_in_nI (by omega) (by decide), ?_⟩
    rw [nI_clamp (n := pc) (by omega), hlk]
    exact nm_e (nm_r (nI_1 pc) ⟨n, hq _ _ _ _⟩)
