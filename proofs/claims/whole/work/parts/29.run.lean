variable {f_depthLimit f_state f_trapCode f_begun f_tokenTotal f_printedTotal f_stackSize f_bodyCount f_declaredTwice f_liveDepth f_position : Int32} {a_tokenKind a_tokenValue a_printed a_stack a_bodyParent a_bodyStart a_declCount a_paramCount a_paramName a_declKind a_declTarget a_tokenBody a_branchTarget a_liveBody a_liveParent a_returnTo a_slotValue a_slotHome a_waitingOp a_waitingLeft a_leftKnown a_argKind a_argValue a_argHome : Nat → Int32}
variable {g_n g_limit g_status g_trapCode g_exec g_top g_outN g_pc g_evEnd g_rq g_re : Int32} {b_kind b_val b_bod b_par b_lnk b_st b_si b_stk b_out b_abody b_apar b_aret b_avar b_apq b_ape b_tk b_tv b_tq b_te : Nat → Int32}
/-- one statement -/
theorem rt_step {PX : SX → Prop} {K V : Nat → Nat} {n lim on top pc : Nat} {ex : Int32} {ab ap rt : Nat → Nat} (hT : rt_TK K V n a_tokenKind a_tokenValue) (hS : rt_ST K V n a_bodyParent a_bodyStart a_paramCount a_paramName a_declKind a_declTarget a_branchTarget b_bod b_par b_lnk) (hR : rt_R K V n ab ap rt top a_liveBody a_liveParent a_returnTo a_slotValue a_slotHome b_abody b_apar b_aret b_avar b_apq b_ape) (hP : gr_P K n pc (ab top)) (hon : on ≤ 32) (hl1 : 1 ≤ lim) (hl2 : lim ≤ 16) (hX : ∀ u' v0, (rt_run K V n lim u' v0 ∨ rt_trp K V n lim u' v0) → (∀ PY : SY → Prop, (∀ (ee rq re : Int32) (sk : Nat → Int32), PY (rt_jk v0 ee rq re sk)) → ∀ (ee0 rq0 re0 : Int32) (sk0 : Nat → Int32), wpY_step PY (nI n, nI lim, 1, 0, ex + 1, nI top, nI on, nI pc, ee0, rq0, re0, a_tokenKind, a_tokenValue, b_bod, b_par, b_lnk, b_st, b_si, sk0, a_printed, b_abody, b_apar, b_aret, b_avar, b_apq, b_ape, b_tk, b_tv, b_tq, b_te)) → PX u') (hk2 : K pc ≠ 2) (hk16 : K pc ≠ 16) (hk17 : K pc ≠ 17) : wpX_doStatement PX (nI lim, 1, 0, ex, nI n, nI on, f_stackSize, f_bodyCount, f_declaredTwice, nI top, nI pc, a_tokenKind, a_tokenValue, a_printed, a_stack, a_bodyParent, a_bodyStart, a_declCount, a_paramCount, a_paramName, a_declKind, a_declTarget, a_tokenBody, a_branchTarget, a_liveBody, a_liveParent, a_returnTo, a_slotValue, a_slotHome, a_waitingOp, a_waitingLeft, a_leftKnown, a_argKind, a_argValue, a_argHome) := by
  have hpn := hP.2.1
  have h256 := hT.1
  have htk := hT.2.1 pc hpn
  have hkk := (gr_P_k hS.1 hP).1
  have hin : vp_in (nI pc) 256 := vp_in_nI (by omega) (by decide)
  unfold wpX_doStatement
  refine ⟨hin, ?_⟩
  rw [nI_clamp (by omega), htk.1]
  refine nm_e (nm_e (nm_r (nI_1 pc) ⟨hin, nm_e ?_⟩))
  have hk : K pc = 7 ∨ K pc = 8 ∨ K pc = 9 ∨ K pc = 10 ∨ K pc = 11 ∨ K pc = 15 := by omega
  have hvv : xn_nm (K pc) → a_tokenValue pc = nI (V pc) := fun h => (hT.2.2 pc hpn h).1
  rcases hk with q | q | q | q | q | q
  · rw [hvv (by simp only [xn_nm]; omega)]
    rw [q]
    exact br_f (by decide) (br_f (by decide) (br_t rfl (rt_set hT hS hR hP hon hl1 hl2 hX q)))
  · rw [q]
    exact br_f (by decide) (br_f (by decide) (br_f (by decide) (br_t rfl (rt_print hT hS hR hP hon hl1 hl2 hX q))))
  · rw [hvv (by simp only [xn_nm]; omega)]
    rw [q]
    exact br_f (by decide) (br_f (by decide) (br_f (by decide) (br_f (by decide) (br_t rfl (rt_goto hT hS hR hP hon hl1 hl2 hX q)))))
  · rw [q]
    exact br_f (by decide) (br_f (by decide) (br_f (by decide) (br_f (by decide) (br_f (by decide) (br_t rfl (hX _ (nI n, nI lim, 1, 0, ex + 1, nI top, nI on, nI (pc + 1), 0, 0, 0, a_tokenKind, a_tokenValue, b_bod, b_par, b_lnk, b_st, b_si, (fun _ => 0), a_printed, b_abody, b_apar, b_aret, b_avar, b_apq, b_ape, b_tk, b_tv, b_tq, b_te) (.inl ⟨rfl, rfl, rfl, rfl, rfl, rfl, rfl, rfl, rfl, rfl, rfl, rfl, hT, hS, on, top, pc + 1, ab, ap, rt, hon, rfl, rfl, rfl, rfl, rfl, rfl, gr_P_10 hS.1 hP q, hR⟩) (fun PY hQ ee0 rq0 re0 sk0 => ry_10 h256 hpn (by rw [htk.1, q]) (hQ _ _ _ _))))))))
  · rw [hvv (by simp only [xn_nm]; omega)]
    rw [q]
    exact br_f (by decide) (br_f (by decide) (br_f (by decide) (br_f (by decide) (br_f (by decide) (br_f (by decide) (br_t rfl (rt_call hT hS hR hP hon hl1 hl2 hX q)))))))
  · rw [q]
    exact br_f (by decide) (br_f (by decide) (br_f (by decide) (br_f (by decide) (br_f (by decide) (br_f (by decide) (br_f (by decide) (br_f (by decide) (br_f (by decide) (br_f (by decide) (br_t rfl (rt_if hT hS hR hP hon hl1 hl2 hX q)))))))))))
/-- both settle alike -/
theorem rt_settle {K V : Nat → Nat} {n : Nat} {ab ap rt : Nat → Nat} (hT : rt_TK K V n a_tokenKind a_tokenValue) (hS : rt_ST K V n a_bodyParent a_bodyStart a_paramCount a_paramName a_declKind a_declTarget a_branchTarget b_bod b_par b_lnk) :
    ∀ (M top pc : Nat), top * 256 + (256 - pc) ≤ M → rt_R K V n ab ap rt top a_liveBody a_liveParent a_returnTo a_slotValue a_slotHome b_abody b_apar b_aret b_avar b_apq b_ape → gr_P K n pc (ab top) →
      ∃ (s' : Int32) (top' pc' : Nat), ((s' = 1 ∧ top' ≤ top ∧ gr_P K n pc' (ab top') ∧ K pc' ≠ 2 ∧ K pc' ≠ 16 ∧ K pc' ≠ 17) ∨ (s' = 2 ∧ top' = 0)) ∧
        (∀ (f_depthLimit f_trapCode f_begun f_tokenTotal f_printedTotal f_stackSize f_bodyCount f_declaredTwice : Int32) (a_printed a_stack a_declCount a_tokenBody a_waitingOp a_waitingLeft a_leftKnown a_argKind a_argValue a_argHome : Nat → Int32) (post : SX → Prop) (i fx : Nat), i + M ≤ 4352 → M < fx → post (f_depthLimit, s', f_trapCode, f_begun, f_tokenTotal, f_printedTotal, f_stackSize, f_bodyCount, f_declaredTwice, nI top', nI pc', a_tokenKind, a_tokenValue, a_printed, a_stack, a_bodyParent, a_bodyStart, a_declCount, a_paramCount, a_paramName, a_declKind, a_declTarget, a_tokenBody, a_branchTarget, a_liveBody, a_liveParent, a_returnTo, a_slotValue, a_slotHome, a_waitingOp, a_waitingLeft, a_leftKnown, a_argKind, a_argValue, a_argHome) → wX_settle_2 post fx (nI i) f_depthLimit 1 f_trapCode f_begun f_tokenTotal f_printedTotal f_stackSize f_bodyCount f_declaredTwice (nI top) (nI pc) a_tokenKind a_tokenValue a_printed a_stack a_bodyParent a_bodyStart a_declCount a_paramCount a_paramName a_declKind a_declTarget a_tokenBody a_branchTarget a_liveBody a_liveParent a_returnTo a_slotValue a_slotHome a_waitingOp a_waitingLeft a_leftKnown a_argKind a_argValue a_argHome) ∧
        (∀ (g_limit g_trapCode g_exec g_outN g_evEnd g_rq g_re : Int32) (b_val b_st b_si b_stk b_out b_tk b_tv b_tq b_te : Nat → Int32) (post : SY → Prop) (i fy : Nat), i + M ≤ 8192 → M < fy → post (nI n, g_limit, s', g_trapCode, g_exec, nI top', g_outN, nI pc', g_evEnd, g_rq, g_re, a_tokenKind, b_val, b_bod, b_par, b_lnk, b_st, b_si, b_stk, b_out, b_abody, b_apar, b_aret, b_avar, b_apq, b_ape, b_tk, b_tv, b_tq, b_te) → wY_settle_2 post (nI n) g_limit 1 g_trapCode g_exec g_outN g_evEnd g_rq g_re a_tokenKind b_val b_bod b_par b_lnk b_st b_si b_stk b_out b_abody b_apar b_aret b_avar b_apq b_ape b_tk b_tv b_tq b_te fy (nI i) (nI top) (nI pc)) := by
  obtain ⟨h256, htk, htv⟩ := hT
  obtain ⟨hn, hL, hN, hU, hX, hY⟩ := hS
  intro M
  induction M with
  | zero =>
    intro top pc hM hR hP
    have := hP.2.1
    omega
  | succ M ih =>
    intro top pc hM hR hP
    have hpn := hP.2.1
    have hp1 := hP.1
    obtain ⟨k1, k2, k3⟩ := htk pc hpn
    have hin : vp_in (nI pc) 256 := vp_in_nI (by omega) (by decide)
    have hcl : (nI pc).toNatClampNeg = pc := nI_clamp (by omega)
    have ht := hR.1
    have hit : vp_in (nI top) 17 := vp_in_nI (by omega) (by decide)
    have hct : (nI top).toNatClampNeg = top := nI_clamp (by omega)
    have nf : ∀ c, c ≤ 26 → K pc ≠ c → ¬ nI (K pc) = nI c := fun c hc h h2 => h ((nI_eq (by omega) (by omega)).mp h2)
    by_cases q2 : K pc = 2
    · by_cases t0 : top = 0
      · subst t0
        refine ⟨2, 0, pc, .inr ⟨rfl, rfl⟩, fun _ _ _ _ _ _ _ _ _ _ _ _ _ _ _ _ _ _ post i fx hi hf hp => ?_, fun _ _ _ _ _ _ _ _ _ _ _ _ _ _ _ _ post i fy hi hf hp => ?_⟩
        · obtain ⟨f1, rfl⟩ : ∃ f1, fx = f1 + 1 + 1 := ⟨fx - 2, by omega⟩
          refine br_f (nI_ge (b := 4352) (by omega) (by decide)) (br_t rfl ⟨hin, ?_⟩)
          rw [hcl, k1, q2]
          refine nm_e (br_t rfl ?_)
          unfold wpX_leaveBody
          exact br_t rfl (nm_e (br_c (fun _ => hp) (fun _ => br_f (by decide) hp)))
        · obtain ⟨f1, rfl⟩ : ∃ f1, fy = f1 + 1 := ⟨fy - 1, by omega⟩
          refine br_f (nI_ge (b := 8192) (by omega) (by decide)) (br_f (nI_pos (by omega)) (br_t (nI_lt hpn (by omega)) ⟨hin, ?_⟩))
          rw [hcl, k1, q2]
          exact nm_e (br_f (by decide) (br_f (by decide) (br_t rfl (br_t rfl hp))))
      · obtain ⟨r1, r2, r3⟩ := hR.2.2.1 top (by omega) (Nat.le_refl _)
        have hr1 := r1.1
        obtain ⟨s', top', pc', c, hx, hy⟩ := ih (top - 1) (rt top) (by omega) (rt_R_le hR (by omega)) r1
        refine ⟨s', top', pc', ?_, fun _ _ _ _ _ _ _ _ _ _ _ _ _ _ _ _ _ _ post i fx hi hf hp => ?_, fun _ _ _ _ _ _ _ _ _ _ _ _ _ _ _ _ post i fy hi hf hp => ?_⟩
        · rcases c with ⟨a, b, c⟩ | c
          · exact .inl ⟨a, by omega, c⟩
          · exact .inr c
        · obtain ⟨f1, rfl⟩ : ∃ f1, fx = f1 + 1 := ⟨fx - 1, by omega⟩
          refine br_f (nI_ge (b := 4352) (by omega) (by decide)) (br_t rfl ⟨hin, ?_⟩)
          rw [hcl, k1, q2]
          refine nm_e (br_t rfl ?_)
          unfold wpX_leaveBody
          refine br_f (nI_ne0 (by omega) (by omega)) ⟨hit, ?_⟩
          rw [hct, r2]
          exact nm_e (nm_r (li_m1 (by omega)) (nm_r (nI_1 i) (hx _ _ _ _ _ _ _ _ _ _ _ _ _ _ _ _ _ _ post (i + 1) f1 (by omega) (by omega) hp)))
        · obtain ⟨f1, rfl⟩ : ∃ f1, fy = f1 + 1 := ⟨fy - 1, by omega⟩
          refine br_f (nI_ge (b := 8192) (by omega) (by decide)) (br_f (nI_pos (by omega)) (br_t (nI_lt hpn (by omega)) ⟨hin, ?_⟩))
          rw [hcl, k1, q2]
          refine nm_e (br_f (by decide) (br_f (by decide) (br_t rfl (br_f (nI_ne0 (by omega) (by omega)) ⟨hit, ?_⟩))))
          rw [hct, r3]
          exact nm_e (nm_r (li_m1 (by omega)) (nm_r (nI_1 i) (hy _ _ _ _ _ _ _ _ _ _ _ _ _ _ _ _ post (i + 1) f1 (by omega) (by omega) hp)))
    · by_cases q16 : K pc = 16
      · obtain ⟨q, L, a1, a2, a3, a4, a5⟩ := gr_P_16 hn hP q16
        have hbt : a_branchTarget pc = nI (q + 1) := hX.2.2.2.2 q 5 pc L (by omega) a2 a4 (.inr rfl) (.inr a3)
        have hlk : b_lnk pc = nI q := hY.2.2 q 5 pc L (by omega) a2 a4 (lo_clo hn a2 a4 (.inr rfl) (.inr a3))
        obtain ⟨s', top', pc', c, hx, hy⟩ := ih top (q + 1) (by omega) hR a5
        refine ⟨s', top', pc', c, fun _ _ _ _ _ _ _ _ _ _ _ _ _ _ _ _ _ _ post i fx hi hf hp => ?_, fun _ _ _ _ _ _ _ _ _ _ _ _ _ _ _ _ post i fy hi hf hp => ?_⟩
        · obtain ⟨f1, rfl⟩ : ∃ f1, fx = f1 + 1 := ⟨fx - 1, by omega⟩
          refine br_f (nI_ge (b := 4352) (by omega) (by decide)) (br_t rfl ⟨hin, ?_⟩)
          rw [hcl, k1, q16, hbt]
          exact nm_e (br_f (by decide) (br_t rfl ⟨hin, nm_e (nm_r (nI_1 i) (hx _ _ _ _ _ _ _ _ _ _ _ _ _ _ _ _ _ _ post (i + 1) f1 (by omega) (by omega) hp))⟩))
        · obtain ⟨f1, rfl⟩ : ∃ f1, fy = f1 + 1 := ⟨fy - 1, by omega⟩
          refine br_f (nI_ge (b := 8192) (by omega) (by decide)) (br_f (nI_pos (by omega)) (br_t (nI_lt hpn (by omega)) ⟨hin, ?_⟩))
          rw [hcl, k1, q16, hlk]
          exact nm_e (br_t rfl ⟨hin, nm_r (nI_1 q) (nm_r (nI_1 i) (hy _ _ _ _ _ _ _ _ _ _ _ _ _ _ _ _ post (i + 1) f1 (by omega) (by omega) hp))⟩)
      · by_cases q17 : K pc = 17
        · obtain ⟨s', top', pc', c, hx, hy⟩ := ih top (pc + 1) (by omega) hR (gr_P_17 hn hP q17)
          refine ⟨s', top', pc', c, fun _ _ _ _ _ _ _ _ _ _ _ _ _ _ _ _ _ _ post i fx hi hf hp => ?_, fun _ _ _ _ _ _ _ _ _ _ _ _ _ _ _ _ post i fy hi hf hp => ?_⟩
          · obtain ⟨f1, rfl⟩ : ∃ f1, fx = f1 + 1 := ⟨fx - 1, by omega⟩
            refine br_f (nI_ge (b := 4352) (by omega) (by decide)) (br_t rfl ⟨hin, ?_⟩)
            rw [hcl, k1, q17]
            exact nm_e (br_f (by decide) (br_f (by decide) (br_t rfl (nm_r (nI_1 pc) (nm_r (nI_1 i) (hx _ _ _ _ _ _ _ _ _ _ _ _ _ _ _ _ _ _ post (i + 1) f1 (by omega) (by omega) hp))))))
          · obtain ⟨f1, rfl⟩ : ∃ f1, fy = f1 + 1 := ⟨fy - 1, by omega⟩
            refine br_f (nI_ge (b := 8192) (by omega) (by decide)) (br_f (nI_pos (by omega)) (br_t (nI_lt hpn (by omega)) ⟨hin, ?_⟩))
            rw [hcl, k1, q17]
            exact nm_e (br_f (by decide) (br_t rfl (nm_r (nI_1 pc) (nm_r (nI_1 i) (hy _ _ _ _ _ _ _ _ _ _ _ _ _ _ _ _ post (i + 1) f1 (by omega) (by omega) hp)))))
        · refine ⟨1, top, pc, .inl ⟨rfl, Nat.le_refl _, hP, q2, q16, q17⟩, fun _ _ _ _ _ _ _ _ _ _ _ _ _ _ _ _ _ _ post i fx hi hf hp => ?_, fun _ _ _ _ _ _ _ _ _ _ _ _ _ _ _ _ post i fy hi hf hp => ?_⟩
          · obtain ⟨f1, rfl⟩ : ∃ f1, fx = f1 + 1 := ⟨fx - 1, by omega⟩
            refine br_f (nI_ge (b := 4352) (by omega) (by decide)) (br_t rfl ⟨hin, ?_⟩)
            rw [hcl, k1]
            exact nm_e (br_f (nf 2 (by decide) q2) (br_f (nf 16 (by decide) q16) (br_f (nf 17 (by decide) q17) hp)))
          · obtain ⟨f1, rfl⟩ : ∃ f1, fy = f1 + 1 := ⟨fy - 1, by omega⟩
            refine br_f (nI_ge (b := 8192) (by omega) (by decide)) (br_f (nI_pos (by omega)) (br_t (nI_lt hpn (by omega)) ⟨hin, ?_⟩))
            rw [hcl, k1]
            exact nm_e (br_f (nf 16 (by decide) q16) (br_f (nf 17 (by decide) q17) (br_f (nf 2 (by decide) q2) hp)))
