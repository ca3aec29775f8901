variable {f_depthLimit f_state f_trapCode f_begun f_tokenTotal f_printedTotal f_stackSize f_bodyCount f_declaredTwice f_liveDepth f_position : Int32} {a_tokenKind a_tokenValue a_printed a_stack a_bodyParent a_bodyStart a_declCount a_paramCount a_paramName a_declKind a_declTarget a_tokenBody a_branchTarget a_liveBody a_liveParent a_returnTo a_slotValue a_slotHome a_waitingOp a_waitingLeft a_leftKnown a_argKind a_argValue a_argHome : Nat → Int32}
variable {g_n g_limit g_status g_trapCode g_exec g_top g_outN g_pc g_evEnd g_rq g_re : Int32} {b_kind b_val b_bod b_par b_lnk b_st b_si b_stk b_out b_abody b_apar b_aret b_avar b_apq b_ape b_tk b_tv b_tq b_te : Nat → Int32}
/-- a procedure value that is alive: the procedure q of an activation h -/
def rt_V (K : Nat → Nat) (n : Nat) (ab : Nat → Nat) (top q h : Nat) : Prop := q < n ∧ K q = 4 ∧ h ≤ top ∧ gr_bo K n q = ab h
theorem rk_pv {K V : Nat → Nat} {n x d : Nat} {ab ap rt : Nat → Nat} {top : Nat} {lb lp rr sv sh yb yp yr av aq ae : Nat → Int32} (hn : gr_cf K n = some ([], 0)) (hL : gr_LM K n) (hR : rt_R K V n ab ap rt top lb lp rr sv sh yb yp yr av aq ae) (hl : gr_lk K V n (ab top) x = some d) (hk : K d = 4 ∨ K d = 6) :
    ∃ q h, rt_V K n ab top q h ∧ sv (ac_al K V n ab ap x 15 top * 16 + x) = nI (gr_np K (q + 1)) ∧ sh (ac_al K V n ab ap x 15 top * 16 + x) = nI h ∧
      ((K d = 4 ∧ q = d ∧ h = ac_al K V n ab ap x 15 top) ∨ (K d ≠ 4 ∧ aq (ac_al K V n ab ap x 15 top * 16 + x) = nI q ∧ ae (ac_al K V n ab ap x 15 top * 16 + x) = nI h)) := by
  obtain ⟨a', ha', r1, r2, r3, r4, r5⟩ := rt_near hn hL hR hl
  have hsl := hR.2.2.2.2.2.2 a' r1 d r2 r5 r3
  rw [r4] at hsl
  rw [← ha']
  rcases hk with k4 | k6
  · have := hsl.2.1 k4
    exact ⟨d, a', ⟨r2, k4, r1, r3⟩, this.1, this.2, .inl ⟨k4, rfl, rfl⟩⟩
  · obtain ⟨q, h, q1, q2, q3, q4, q5, q6, q7, q8⟩ := hsl.2.2.2 k6
    exact ⟨q, h, ⟨q1, q2, by omega, q4⟩, q5, q6, .inr ⟨by omega, q7, q8⟩⟩
/-- the reference's procedure value -/
theorem rk_ypv {PY : SY → Prop} {K V : Nat → Nat} {n x d q h : Nat} {ab ap rt : Nat → Nat} {top : Nat} {lb lp rr sv sh bp bs pc pm dk dt bt : Nat → Int32}
    (hT : rt_TK K V n b_kind b_val) (hS : rt_ST K V n bp bs pc pm dk dt bt b_bod b_par b_lnk) (hR : rt_R K V n ab ap rt top lb lp rr sv sh b_abody b_apar b_aret b_avar b_apq b_ape) (hx : x < 16) (hl : gr_lk K V n (ab top) x = some d)
    (hc : (K d = 4 ∧ q = d ∧ h = ac_al K V n ab ap x 15 top) ∨ (K d ≠ 4 ∧ b_apq (ac_al K V n ab ap x 15 top * 16 + x) = nI q ∧ b_ape (ac_al K V n ab ap x 15 top * 16 + x) = nI h))
    (hP : PY (nI n, g_limit, g_status, g_trapCode, g_exec, nI top, g_outN, g_pc, g_evEnd, nI q, nI h, b_kind, b_val, b_bod, b_par, b_lnk, b_st, b_si, b_stk, b_out, b_abody, b_apar, b_aret, b_avar, b_apq, b_ape, b_tk, b_tv, b_tq, b_te)) : wpY_procValue PY (nI n, g_limit, g_status, g_trapCode, g_exec, nI top, g_outN, g_pc, g_evEnd, g_rq, g_re, b_kind, b_val, b_bod, b_par, b_lnk, b_st, b_si, b_stk, b_out, b_abody, b_apar, b_aret, b_avar, b_apq, b_ape, b_tk, b_tv, b_tq, b_te) (nI x) := by
  obtain ⟨h256, htk, htv⟩ := hT
  obtain ⟨hn, hL, hN, hU, hX, hY⟩ := hS
  have htd : ∀ i, i < n → gr_D (K i) → b_val i = nI (V i) ∧ V i < 16 := fun i hi h => htv i hi (by simp only [gr_D] at h; simp only [xn_nm]; omega)
  have ht := hR.1
  obtain ⟨b1, b2, b3, b4⟩ := hR.2.1 top (Nat.le_refl _)
  have hle := ac_al_le (V := V) (x := x) hR.2.1 15 top (Nat.le_refl _)
  have hd := yn_lk _ _ hl
  have hkd := htk d hd.1
  unfold wpY_procValue
  refine ⟨vp_in_nI (by omega) (by decide), ?_⟩
  rw [nI_clamp (n := top) (by omega), (hR.2.2.2.1 top (Nat.le_refl _)).2]
  refine yn_decl hn h256 htk htd hY.1 hY.2.1 hx b1 b2 ?_
  rw [hl]
  refine rs_find hn hL h256 htk htd hR.2.1 ht hY.1 hY.2.1 (fun a h => (hR.2.2.2.1 a h).2) (fun a h1 h2 => (hR.2.2.2.2.2.1 a h1 h2).2) hx (fun _ _ => ?_) (fun h => by rw [hl] at h; cases h)
  refine br_f (nI_pos (by omega)) ⟨vp_in_nI (by omega) (by decide), ?_⟩
  rw [show (ye_r (some d)).toNatClampNeg = d from nI_clamp (by omega), hkd.1]
  rcases hc with ⟨k4, rfl, rfl⟩ | ⟨k4, e1, e2⟩
  · exact br_t (by rw [k4]; rfl) hP
  · refine br_f (fun h => k4 ((nI_eq (b := 4) (by omega) (by decide)).mp h)) ?_
    unfold wY_procValue_52
    rw [li_m16, nI_add, nI_clamp (by omega), e1, e2]
    have hv : vp_in (nI (ac_al K V n ab ap x 15 top * 16 + x)) 272 := vp_in_nI (by omega) (by decide)
    exact ⟨hv, nm_e ⟨hv, nm_e hP⟩⟩
/-- the first four arguments agree -/
def rk_A (K : Nat → Nat) (n : Nat) (ab : Nat → Nat) (top c : Nat) (ak av ah tk tv tq te : Nat → Int32) : Prop := ∀ i, i < c → i < 4 →
  (ak i = 5 ∧ tk i = 12 ∧ av i = tv i) ∨ (ak i = 6 ∧ tk i = 13 ∧ ∃ q h, rt_V K n ab top q h ∧ av i = nI (gr_np K (q + 1)) ∧ ah i = nI h ∧ tq i = nI q ∧ te i = nI h)
theorem rk_A_4 {K : Nat → Nat} {n : Nat} {ab : Nat → Nat} {top c : Nat} {ak av ah tk tv tq te : Nat → Int32} (h : rk_A K n ab top c ak av ah tk tv tq te) (hc : ¬ c < 4) : rk_A K n ab top (c + 1) ak av ah tk tv tq te :=
  fun i hi hi4 => h i (by omega) hi4
theorem rk_A_v {K : Nat → Nat} {n : Nat} {ab : Nat → Nat} {top c : Nat} {x a b d : Int32} {ak av ah tk tv tq te : Nat → Int32} (h : rk_A K n ab top c ak av ah tk tv tq te) : rk_A K n ab top (c + 1) (upd ak c 5) (upd av c x) (upd ah c a) (upd tk c 12) (upd tv c x) (upd tq c b) (upd te c d) := by
  intro i hi hi4
  by_cases e : i = c
  · subst e; exact .inl ⟨lo_us, lo_us, by rw [lo_us, lo_us]⟩
  · rw [lo_un e, lo_un e, lo_un e, lo_un e, lo_un e, lo_un e, lo_un e]; exact h i (by omega) hi4
theorem rk_A_p {K : Nat → Nat} {n : Nat} {ab : Nat → Nat} {top c q hh : Nat} {z : Int32} {ak av ah tk tv tq te : Nat → Int32} (h : rk_A K n ab top c ak av ah tk tv tq te) (hV : rt_V K n ab top q hh) : rk_A K n ab top (c + 1) (upd ak c 6) (upd av c (nI (gr_np K (q + 1)))) (upd ah c (nI hh)) (upd tk c 13) (upd tv c z) (upd tq c (nI q)) (upd te c (nI hh)) := by
  intro i hi hi4
  by_cases e : i = c
  · subst e; exact .inr ⟨lo_us, lo_us, q, hh, hV, lo_us, lo_us, lo_us, lo_us⟩
  · rw [lo_un e, lo_un e, lo_un e, lo_un e, lo_un e, lo_un e, lo_un e]; exact h i (by omega) hi4
theorem rk_keep {post : SX → Prop} {c : Nat} {k v h : Int32} (hc : c ≤ 1000) (h0 : c < 4 → post (f_depthLimit, f_state, f_trapCode, f_begun, f_tokenTotal, f_printedTotal, f_stackSize, f_bodyCount, f_declaredTwice, f_liveDepth, f_position, a_tokenKind, a_tokenValue, a_printed, a_stack, a_bodyParent, a_bodyStart, a_declCount, a_paramCount, a_paramName, a_declKind, a_declTarget, a_tokenBody, a_branchTarget, a_liveBody, a_liveParent, a_returnTo, a_slotValue, a_slotHome, a_waitingOp, a_waitingLeft, a_leftKnown, upd a_argKind c k, upd a_argValue c v, upd a_argHome c h)) (h1 : ¬ c < 4 → post (f_depthLimit, f_state, f_trapCode, f_begun, f_tokenTotal, f_printedTotal, f_stackSize, f_bodyCount, f_declaredTwice, f_liveDepth, f_position, a_tokenKind, a_tokenValue, a_printed, a_stack, a_bodyParent, a_bodyStart, a_declCount, a_paramCount, a_paramName, a_declKind, a_declTarget, a_tokenBody, a_branchTarget, a_liveBody, a_liveParent, a_returnTo, a_slotValue, a_slotHome, a_waitingOp, a_waitingLeft, a_leftKnown, a_argKind, a_argValue, a_argHome)) : wpX_keepArgument post (f_depthLimit, f_state, f_trapCode, f_begun, f_tokenTotal, f_printedTotal, f_stackSize, f_bodyCount, f_declaredTwice, f_liveDepth, f_position, a_tokenKind, a_tokenValue, a_printed, a_stack, a_bodyParent, a_bodyStart, a_declCount, a_paramCount, a_paramName, a_declKind, a_declTarget, a_tokenBody, a_branchTarget, a_liveBody, a_liveParent, a_returnTo, a_slotValue, a_slotHome, a_waitingOp, a_waitingLeft, a_leftKnown, a_argKind, a_argValue, a_argHome) (nI c) k v h := by
  unfold wpX_keepArgument
  by_cases e : c < 4
  · have hin : vp_in (nI c) 4 := vp_in_nI e (by decide)
    refine br_f (nI_ge (b := 4) e (by decide)) ?_
    rw [nI_clamp (by omega)]
    exact ⟨hin, nm_e ⟨hin, nm_e ⟨hin, nm_e (h0 e)⟩⟩⟩
  · exact br_t (nI_le (a := 4) (by omega) (by omega)) (h1 e)
theorem rk_143 {PY : SY → Prop} {J : Int32 → Int32 → Int32 → Int32 → Int32 → Int32 → Int32 → Int32 → Int32 → Int32 → Int32 → Int32 → Int32 → Int32 → (Nat → Int32) → (Nat → Int32) → (Nat → Int32) → (Nat → Int32) → (Nat → Int32) → (Nat → Int32) → (Nat → Int32) → (Nat → Int32) → (Nat → Int32) → (Nat → Int32) → (Nat → Int32) → (Nat → Int32) → (Nat → Int32) → (Nat → Int32) → (Nat → Int32) → (Nat → Int32) → (Nat → Int32) → (Nat → Int32) → (Nat → Int32) → Prop} {q h dn k x xq xe : Int32} {c g : Nat} {j : Int32} (hc : c ≤ 1000) (h0 : c < 4 → J (nI (c + 1)) j (nI (g + 1)) g_n g_limit g_status g_trapCode g_exec g_top g_outN g_pc g_evEnd g_rq g_re b_kind b_val b_bod b_par b_lnk b_st b_si b_stk b_out b_abody b_apar b_aret b_avar b_apq b_ape (upd b_tk c k) (upd b_tv c x) (upd b_tq c xq) (upd b_te c xe)) (h1 : ¬ c < 4 → J (nI (c + 1)) j (nI (g + 1)) g_n g_limit g_status g_trapCode g_exec g_top g_outN g_pc g_evEnd g_rq g_re b_kind b_val b_bod b_par b_lnk b_st b_si b_stk b_out b_abody b_apar b_aret b_avar b_apq b_ape b_tk b_tv b_tq b_te) :
    wY_call_143 PY J q h (nI c) dn j (nI g) k x xq xe g_n g_limit g_status g_trapCode g_exec g_top g_outN g_pc g_evEnd g_rq g_re b_kind b_val b_bod b_par b_lnk b_st b_si b_stk b_out b_abody b_apar b_aret b_avar b_apq b_ape b_tk b_tv b_tq b_te := by
  unfold wY_call_143
  by_cases e : c < 4
  · have hin : vp_in (nI c) 4 := vp_in_nI e (by decide)
    refine br_f (nI_ge (b := 4) e (by decide)) ?_
    rw [nI_clamp (by omega)]
    exact ⟨hin, nm_e ⟨hin, nm_e ⟨hin, nm_e ⟨hin, nm_e (nm_r (nI_1 c) (nm_r (nI_1 g) (h0 e)))⟩⟩⟩⟩
  · exact br_t (nI_le (a := 4) (by omega) (by omega)) (nm_r (nI_1 c) (nm_r (nI_1 g) (h1 e)))
/-- the arguments, in lockstep; YG: what the reference is asked at the start -/
theorem rk_args {Px : Int32 → SX → Prop} {YG : (SY → Prop) → Prop} {K V : Nat → Nat} {n lim on top pc q h dn : Nat} {ex : Int32} {L : List (Nat × Nat)} {ab ap rt : Nat → Nat} (hT : rt_TK K V n a_tokenKind a_tokenValue) (hS : rt_ST K V n a_bodyParent a_bodyStart a_paramCount a_paramName a_declKind a_declTarget a_branchTarget b_bod b_par b_lnk) (hR : rt_R K V n ab ap rt top a_liveBody a_liveParent a_returnTo a_slotValue a_slotHome b_abody b_apar b_aret b_avar b_apq b_ape)
    (hdn : dn < n) (hcd : gr_cf K dn = some ((6, pc) :: L, 0)) (hkd : K dn = 14) (hcb : gr_cb ((6, pc) :: L) = some (ab top))
    (hP1 : ∀ (r ps : Int32) (ak av ah wo wl lk tk tv tq te : Nat → Int32), (∀ PY : SY → Prop, (∀ (ee rq re : Int32) (sk : Nat → Int32), PY (nI n, nI lim, 3, 1, ex, nI top, nI on, nI pc, ee, rq, re, a_tokenKind, a_tokenValue, b_bod, b_par, b_lnk, b_st, b_si, sk, a_printed, b_abody, b_apar, b_aret, b_avar, b_apq, b_ape, tk, tv, tq, te)) → YG PY) → Px r (nI lim, 1, 1, ex, nI n, nI on, f_stackSize, f_bodyCount, f_declaredTwice, nI top, ps, a_tokenKind, a_tokenValue, a_printed, a_stack, a_bodyParent, a_bodyStart, a_declCount, a_paramCount, a_paramName, a_declKind, a_declTarget, a_tokenBody, a_branchTarget, a_liveBody, a_liveParent, a_returnTo, a_slotValue, a_slotHome, wo, wl, lk, ak, av, ah))
    (hP0 : ∀ (c : Nat) (ak av ah wo wl lk tk tv tq te : Nat → Int32), c ≤ 256 → rk_A K n ab top c ak av ah tk tv tq te → (∀ PY : SY → Prop, (∀ (ee rq re : Int32) (sk : Nat → Int32), wY_call_194 PY (nI q) (nI h) (nI c) (nI dn) (nI n) (nI lim) 1 0 ex (nI top) (nI on) (nI pc) ee rq re a_tokenKind a_tokenValue b_bod b_par b_lnk b_st b_si sk a_printed b_abody b_apar b_aret b_avar b_apq b_ape tk tv tq te) → YG PY) → Px (nI c) (nI lim, 1, 0, ex, nI n, nI on, f_stackSize, f_bodyCount, f_declaredTwice, nI top, nI (dn + 1), a_tokenKind, a_tokenValue, a_printed, a_stack, a_bodyParent, a_bodyStart, a_declCount, a_paramCount, a_paramName, a_declKind, a_declTarget, a_tokenBody, a_branchTarget, a_liveBody, a_liveParent, a_returnTo, a_slotValue, a_slotHome, wo, wl, lk, ak, av, ah)) :
    ∀ (m j c g fx fy : Nat) (ak av ah wo wl lk tk tv tq te : Nat → Int32), n - j ≤ m → 1 ≤ j → j ≤ dn → m < fx → m < fy → c + m ≤ 256 → g + m ≤ 255 → gr_cf K j = some ((6, pc) :: L, 0) → rk_A K n ab top c ak av ah tk tv tq te →
      (∀ PY : SY → Prop, (∀ (ee rq re : Int32) (sk : Nat → Int32), wY_call_40 PY (nI q) (nI h) (nI dn) fy (nI c) (nI j) (nI g) (nI n) (nI lim) 1 0 ex (nI top) (nI on) (nI pc) ee rq re a_tokenKind a_tokenValue b_bod b_par b_lnk b_st b_si sk a_printed b_abody b_apar b_aret b_avar b_apq b_ape tk tv tq te) → YG PY) →
      wX_takeArguments_4 Px fx (nI c) (nI g) (nI lim) 1 0 ex (nI n) (nI on) f_stackSize f_bodyCount f_declaredTwice (nI top) (nI j) a_tokenKind a_tokenValue a_printed a_stack a_bodyParent a_bodyStart a_declCount a_paramCount a_paramName a_declKind a_declTarget a_tokenBody a_branchTarget a_liveBody a_liveParent a_returnTo a_slotValue a_slotHome wo wl lk ak av ah := by
  obtain ⟨h256, htk, htv⟩ := hT
  obtain ⟨hn, hL, hN, hU, hX, hY⟩ := hS
  have hT : rt_TK K V n a_tokenKind a_tokenValue := ⟨h256, htk, htv⟩
  have hS : rt_ST K V n a_bodyParent a_bodyStart a_paramCount a_paramName a_declKind a_declTarget a_branchTarget b_bod b_par b_lnk := ⟨hn, hL, hN, hU, hX, hY⟩
  have ht := hR.1
  intro m
  induction m with
  | zero => intro j c g fx fy ak av ah wo wl lk tk tv tq te hm; omega
  | succ m ih =>
    intro j c g fx fy ak av ah wo wl lk tk tv tq te hm h1 hjd hfx hfy hcm hgm hc hA HY
    have hjn : j < n := by omega
    obtain ⟨k1, k2, k3⟩ := htk j hjn
    have hin : vp_in (nI j) 256 := vp_in_nI (by omega) (by decide)
    have hcl : (nI j).toNatClampNeg = j := nI_clamp (by omega)
    obtain ⟨f1, rfl⟩ : ∃ f1, fx = f1 + 1 := ⟨fx - 1, by omega⟩
    obtain ⟨f2, rfl⟩ : ∃ f2, fy = f2 + 1 := ⟨fy - 1, by omega⟩
    refine br_f (nI_ge (b := 256) (by omega) (by decide)) ⟨hin, ?_⟩
    rw [hcl, k1]
    by_cases q14 : K j = 14
    · have hjdn : j = dn := by
        by_cases e : j = dn
        · exact e
        · exact absurd rfl (gr_gone h1 hc (.inr (.inr (.inr (.inl ⟨q14, rfl⟩)))) (show j < dn by omega) hcd (6, pc) (by simp))
      subst hjdn
      refine br_t (by rw [q14]; rfl) ?_
      unfold wX_takeArguments_120
      rw [nI_1]
      refine nm_e (hP0 c ak av ah wo wl lk tk tv tq te (by omega) hA (fun PY hq => HY PY (fun ee rq re sk => ?_)))
      exact br_f (nI_ge (b := 256) (by omega) (by decide)) (br_t (nI_le (Nat.le_refl _) (by omega)) (hq ee rq re sk))
    · have hlt : j < dn := by
        by_cases e : j = dn
        · subst e; exact absurd hkd q14
        · omega
      refine br_f (fun h => q14 ((nI_eq (b := 14) (by omega) (by decide)).mp h)) ?_
      rw [nI_1]
      refine nm_e ⟨hin, ?_⟩
      have hbo : gr_bo K n j = ab top := by
        rcases gr_arg hn hjn hc with q | q | q
        · exact absurd q q14
        · exact gr_bo_c hjn (by omega) (by omega) (by omega) hc hcb
        · exact gr_bo_c hjn (by omega) (by omega) (by omega) hc hcb
      rcases gr_arg hn hjn hc with q | ⟨q13, hc'⟩ | ⟨q12, hc'⟩
      · exact absurd q q14
      · -- ARGP
        have hv := htv j hjn (by simp only [xn_nm]; omega)
        obtain ⟨d, hl, hmk⟩ := rt_name hU hjn (.inr (.inr (.inr (.inl q13)))) hbo
        have hkd2 := hmk.2.1 (.inr q13)
        obtain ⟨q2, h2, hV, s1, s2, s3⟩ := rk_pv hn hL hR hl hkd2
        have hle := ac_al_le (V := V) (x := V j) hR.2.1 15 top (Nat.le_refl _)
        refine br_t (by rw [q13]; rfl) ⟨hin, ?_⟩
        rw [hv.1]
        refine rs_slot hn hL (fun d hd => (htk d hd).2) hX.2.2.2.1 hv.2 hR.2.1 ht (fun a h => (hR.2.2.2.1 a h).1) hR.2.2.2.2.1 (fun a h1 h2 => (hR.2.2.2.2.2.1 a h1 h2).1) ?_
        have ix : vp_in (nI (ac_al K V n ab ap (V j) 15 top * 16 + V j)) 272 := vp_in_nI (by omega) (by decide)
        rw [nI_clamp (by omega), s1, s2]
        have yst : ∀ (tk' tv' tq' te' : Nat → Int32), (c < 4 → tk' = upd tk c 13 ∧ tv' = upd tv c 0 ∧ tq' = upd tq c (nI q2) ∧ te' = upd te c (nI h2)) → (¬ c < 4 → tk' = tk ∧ tv' = tv ∧ tq' = tq ∧ te' = te) →
            ∀ PY : SY → Prop, (∀ (ee rq re : Int32) (sk : Nat → Int32), wY_call_40 PY (nI q) (nI h) (nI dn) f2 (nI (c + 1)) (nI (j + 1)) (nI (g + 1)) (nI n) (nI lim) 1 0 ex (nI top) (nI on) (nI pc) ee rq re a_tokenKind a_tokenValue b_bod b_par b_lnk b_st b_si sk a_printed b_abody b_apar b_aret b_avar b_apq b_ape tk' tv' tq' te') → YG PY := by
          intro tk' tv' tq' te' e1 e2 PY hq
          refine HY PY (fun ee rq re sk => ?_)
          refine br_f (nI_ge (b := 256) (by omega) (by decide)) (br_f (nI_ge (by omega) (by omega)) (br_f (nI_ge (by omega) (by omega)) ⟨hin, ?_⟩))
          rw [hcl, k1, q13]
          refine nm_e (br_t rfl ⟨hin, ?_⟩)
          rw [hv.1]
          refine rk_ypv hT hS hR hv.2 hl s3 (nm_r (nI_1 j) ?_)
          refine rk_143 (by omega) (fun c4 => ?_) (fun c4 => ?_)
          · obtain ⟨rfl, rfl, rfl, rfl⟩ := e1 c4
            exact hq _ _ _ _
          · obtain ⟨rfl, rfl, rfl, rfl⟩ := e2 c4
            exact hq _ _ _ _
        refine ⟨ix, ix, rk_keep (by omega) (fun c4 => ?_) (fun c4 => ?_)⟩
        · unfold wX_takeArguments_102
          refine br_t rfl (nm_r (nI_1 c) (nm_r (nI_1 g) ?_))
          exact ih (j + 1) (c + 1) (g + 1) f1 f2 _ _ _ _ _ _ _ _ _ _ (by omega) (by omega) (by omega) (by omega) (by omega) (by omega) (by omega) hc' (rk_A_p hA hV) (yst _ _ _ _ (fun _ => ⟨rfl, rfl, rfl, rfl⟩) (fun h => absurd c4 h))
        · unfold wX_takeArguments_102
          refine br_t rfl (nm_r (nI_1 c) (nm_r (nI_1 g) ?_))
          exact ih (j + 1) (c + 1) (g + 1) f1 f2 _ _ _ _ _ _ _ _ _ _ (by omega) (by omega) (by omega) (by omega) (by omega) (by omega) (by omega) hc' (rk_A_4 hA c4) (yst _ _ _ _ (fun h => absurd h c4) (fun _ => ⟨rfl, rfl, rfl, rfl⟩))
      · -- ARGV
        obtain ⟨e, v, e1, e2, e3, e4, e5⟩ := rt_exp (V := V) (rt_lf K V n ab ap top a_tokenValue b_avar) hn hjn hc' hcb
        have hed : e ≤ dn := by
          by_cases c1 : e ≤ dn
          · exact c1
          · obtain ⟨_, ⟨m', h7⟩, _⟩ := e5 dn (by omega) (by omega)
            rw [hcd] at h7
            simp at h7
        refine br_f (by rw [q12]; decide) ?_
        have yev : ∀ PY : SY → Prop, (∀ (ee rq re : Int32) (sk : Nat → Int32), wpY_eval (fun r u => match u with | (g_n, g_limit, g_status, g_trapCode, g_exec, g_top, g_outN, g_pc, g_evEnd, g_rq, g_re, b_kind, b_val, b_bod, b_par, b_lnk, b_st, b_si, b_stk, b_out, b_abody, b_apar, b_aret, b_avar, b_apq, b_ape, b_tk, b_tv, b_tq, b_te) => ((g_status = 1 → wY_call_143 PY (wY_call_40 PY (nI q) (nI h) (nI dn) f2) (nI q) (nI h) (nI c) (nI dn) g_evEnd (nI g) (nI (K j)) r 0 0 g_n g_limit g_status g_trapCode g_exec g_top g_outN g_pc g_evEnd g_rq g_re b_kind b_val b_bod b_par b_lnk b_st b_si b_stk b_out b_abody b_apar b_aret b_avar b_apq b_ape b_tk b_tv b_tq b_te) ∧ (¬ g_status = 1 → PY (g_n, g_limit, g_status, g_trapCode, g_exec, g_top, g_outN, g_pc, g_evEnd, g_rq, g_re, b_kind, b_val, b_bod, b_par, b_lnk, b_st, b_si, b_stk, b_out, b_abody, b_apar, b_aret, b_avar, b_apq, b_ape, b_tk, b_tv, b_tq, b_te)))) (nI n, nI lim, 1, 0, ex, nI top, nI on, nI pc, ee, rq, re, a_tokenKind, a_tokenValue, b_bod, b_par, b_lnk, b_st, b_si, sk, a_printed, b_abody, b_apar, b_aret, b_avar, b_apq, b_ape, tk, tv, tq, te) (nI (j + 1))) → YG PY := by
          intro PY hq
          refine HY PY (fun ee rq re sk => ?_)
          refine br_f (nI_ge (b := 256) (by omega) (by decide)) (br_f (nI_ge (by omega) (by omega)) (br_f (nI_ge (by omega) (by omega)) ⟨hin, ?_⟩))
          rw [hcl, k1, nI_1]
          exact nm_e (br_f (by rw [q12]; decide) (hq ee rq re sk))
        refine rt_xe hT hS hR e1 e4 (fun i a b => ⟨(e5 i a b).1, (e5 i a b).2.2⟩) (fun hv0 r ps wo wl lk => ?_) (fun x hx wo wl lk => ?_)
        · have fin : ∀ (ak av ah : Nat → Int32), wX_takeArguments_102 Px (wX_takeArguments_4 Px f1) (nI c) (nI g) (nI lim) 1 1 ex (nI n) (nI on) f_stackSize f_bodyCount f_declaredTwice (nI top) ps a_tokenKind a_tokenValue a_printed a_stack a_bodyParent a_bodyStart a_declCount a_paramCount a_paramName a_declKind a_declTarget a_tokenBody a_branchTarget a_liveBody a_liveParent a_returnTo a_slotValue a_slotHome wo wl lk ak av ah := by
            intro ak av ah
            unfold wX_takeArguments_102
            refine br_f (by decide) (hP1 _ _ _ _ _ _ _ _ tk tv tq te (fun PY hq => yev PY (fun ee rq re sk => ?_)))
            exact rt_ye hT hS hR e1 (by omega) e4 hc' e2 e5 (fun _ sk => br_f (by decide) (hq _ _ _ _)) (fun x hx => by rw [hv0] at hx; cases hx)
          exact rk_keep (by omega) (fun _ => fin _ _ _) (fun _ => fin _ _ _)
        · have yst : ∀ (tk' tv' tq' te' : Nat → Int32), (c < 4 → tk' = upd tk c 12 ∧ tv' = upd tv c x ∧ tq' = upd tq c 0 ∧ te' = upd te c 0) → (¬ c < 4 → tk' = tk ∧ tv' = tv ∧ tq' = tq ∧ te' = te) →
              ∀ PY : SY → Prop, (∀ (ee rq re : Int32) (sk : Nat → Int32), wY_call_40 PY (nI q) (nI h) (nI dn) f2 (nI (c + 1)) (nI e) (nI (g + 1)) (nI n) (nI lim) 1 0 ex (nI top) (nI on) (nI pc) ee rq re a_tokenKind a_tokenValue b_bod b_par b_lnk b_st b_si sk a_printed b_abody b_apar b_aret b_avar b_apq b_ape tk' tv' tq' te') → YG PY := by
            intro tk' tv' tq' te' g1 g2 PY hq
            refine yev PY (fun ee rq re sk => ?_)
            refine rt_ye hT hS hR e1 (by omega) e4 hc' e2 e5 (fun h0 => by rw [h0] at hx; cases hx) (fun y hy sk => br_t rfl ?_)
            rw [hx] at hy
            injection hy with hy
            subst hy
            refine rk_143 (by omega) (fun c4 => ?_) (fun c4 => ?_)
            · obtain ⟨rfl, rfl, rfl, rfl⟩ := g1 c4
              rw [q12]
              exact hq _ _ _ _
            · obtain ⟨rfl, rfl, rfl, rfl⟩ := g2 c4
              exact hq _ _ _ _
          refine rk_keep (by omega) (fun c4 => ?_) (fun c4 => ?_)
          · unfold wX_takeArguments_102
            refine br_t rfl (nm_r (nI_1 c) (nm_r (nI_1 g) ?_))
            exact ih e (c + 1) (g + 1) f1 f2 _ _ _ _ _ _ _ _ _ _ (by omega) (by omega) hed (by omega) (by omega) (by omega) (by omega) e2 (rk_A_v hA) (yst _ _ _ _ (fun _ => ⟨rfl, rfl, rfl, rfl⟩) (fun h => absurd c4 h))
          · unfold wX_takeArguments_102
            refine br_t rfl (nm_r (nI_1 c) (nm_r (nI_1 g) ?_))
            exact ih e (c + 1) (g + 1) f1 f2 _ _ _ _ _ _ _ _ _ _ (by omega) (by omega) hed (by omega) (by omega) (by omega) (by omega) e2 (rk_A_4 hA c4) (yst _ _ _ _ (fun h => absurd h c4) (fun _ => ⟨rfl, rfl, rfl, rfl⟩))
