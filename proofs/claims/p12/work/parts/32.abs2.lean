variable {f_depthLimit f_state f_trapCode f_begun f_tokenTotal f_printedTotal f_stackSize f_bodyCount f_declaredTwice f_liveDepth f_position : Int32} {a_tokenKind a_tokenValue a_printed a_stack a_bodyParent a_bodyStart a_declCount a_paramCount a_paramName a_declKind a_declTarget a_tokenBody a_branchTarget a_liveBody a_liveParent a_returnTo a_slotValue a_slotHome a_waitingOp a_waitingLeft a_leftKnown a_argKind a_argValue a_argHome : Nat → Int32}
theorem pt_print {K V : Nat → Nat} {n lim top pc on : Nat} {ab ap rt : Nat → Nat} {kd vl av aq ae pr : Nat → Int32} {ex : Int32} {u0 : St2} (h0 : pt_rel K V n lim kd vl (0, top, pc, on, ab, ap, rt, av, aq, ae, pr, ex, 0) u0) (hk : K pc = 8) : ∃ A', pt_nx K V n lim kd vl (0, top, pc, on, ab, ap, rt, av, aq, ae, pr, ex, 0) A' := by
  obtain ⟨hT0, hn, hL, hN, hU, hP, hon0, lb0, lp0, rr0, sv0, sh0, hR0⟩ := pt_pure h0
  have hpn := hP.2.1
  obtain ⟨L, c1, c2, c3⟩ := gr_P_78 hn hP (.inr hk)
  obtain ⟨e, v, e1, e2, e3, e4, e5⟩ := rt_exp (V := V) (rt_lf K V n ab ap top vl av) hn hpn c1 c2
  refine ⟨match v with | none => (3, top, pc, on, ab, ap, rt, av, aq, ae, pr, ex + 1, 1) | some x => (if on < 32 then (0, top, e, on + 1, ab, ap, rt, av, aq, ae, upd pr on x, ex + 1, 0) else (3, top, pc, on, ab, ap, rt, av, aq, ae, pr, ex + 1, 4)), ?_, ?_, ?_⟩
  · (repeat' split) <;> rfl
  · (repeat' split) <;> first | exact .inl rfl | exact .inr rfl
  intro u hrel PX hPX
  obtain ⟨f_depthLimit, f_state, f_trapCode, f_begun, f_tokenTotal, f_printedTotal, f_stackSize, f_bodyCount, f_declaredTwice, f_liveDepth, f_position, a_tokenKind, a_tokenValue, a_printed, a_stack, a_bodyParent, a_bodyStart, a_declCount, a_paramCount, a_paramName, a_declKind, a_declTarget, a_tokenBody, a_branchTarget, a_liveBody, a_liveParent, a_returnTo, a_slotValue, a_slotHome, a_waitingOp, a_waitingLeft, a_leftKnown, a_argKind, a_argValue, a_argHome⟩ := u
  obtain ⟨rfl, rfl, rfl, rfl, rfl, rfl, rfl, rfl, rfl, hon, ht16, hT, hS, hM, hmd⟩ := hrel
  rcases hmd with ⟨_, rfl, _, rfl, _, hR⟩ | ⟨h, _⟩ | ⟨h, _⟩ | ⟨h, _⟩
  · have hin : vp_in (nI pc) 256 := vp_in_nI (by have := hT.1; omega) (by decide)
    unfold wpX_doStatement
    refine ⟨hin, ?_⟩
    rw [nI_clamp (by have := hT.1; omega), (hT.2.1 pc hpn).1]
    refine nm_e (nm_e (nm_r (nI_1 pc) ⟨hin, nm_e ?_⟩))
    rw [hk]
    refine br_f (by decide) (br_f (by decide) (br_f (by decide) (br_t rfl (ps_print hT hS hR hpn e1 e4 (fun i a b => ⟨(e5 i a b).1, (e5 i a b).2.2⟩) hon (fun hv0 ps wo wl lk => hPX _ ?_) (fun x hx o wo wl lk => hPX _ ?_) (fun x hx o wo wl lk => hPX _ ?_)))))
    · subst hv0
      exact ⟨rfl, rfl, rfl, rfl, rfl, rfl, rfl, rfl, rfl, hon, ht16, hT, hS, hM, .inr (.inr (.inr ⟨rfl, rfl, by decide⟩))⟩
    · subst hx
      simp only [if_neg o]
      exact ⟨rfl, rfl, rfl, rfl, rfl, rfl, rfl, rfl, rfl, hon, ht16, hT, hS, hM, .inr (.inr (.inr ⟨rfl, rfl, by decide⟩))⟩
    · subst hx
      simp only [if_pos o]
      exact ⟨rfl, rfl, rfl, rfl, rfl, rfl, rfl, rfl, rfl, by omega, ht16, hT, hS, hM, .inl ⟨rfl, rfl, rfl, rfl, c3 e (by omega) e4 e2, hR⟩⟩
  · omega
  · omega
  · omega
theorem pt_if {K V : Nat → Nat} {n lim top pc on : Nat} {ab ap rt : Nat → Nat} {kd vl av aq ae pr : Nat → Int32} {ex : Int32} {u0 : St2} (h0 : pt_rel K V n lim kd vl (0, top, pc, on, ab, ap, rt, av, aq, ae, pr, ex, 0) u0) (hk : K pc = 15) : ∃ A', pt_nx K V n lim kd vl (0, top, pc, on, ab, ap, rt, av, aq, ae, pr, ex, 0) A' := by
  obtain ⟨hT0, hn, hL, hN, hU, hP, hon0, lb0, lp0, rr0, sv0, sh0, hR0⟩ := pt_pure h0
  have hpn := hP.2.1
  obtain ⟨⟨L, c1, c2, c3⟩, q, L2, q1, q2, q3, q4, q5⟩ := gr_P_15 hn hP hk
  obtain ⟨e, v, e1, e2, e3, e4, e5⟩ := rt_exp (V := V) (rt_lf K V n ab ap top vl av) hn hpn c1 c2
  refine ⟨match v with | none => (3, top, pc, on, ab, ap, rt, av, aq, ae, pr, ex + 1, 1) | some x => (if x = 0 then (0, top, q + 1, on, ab, ap, rt, av, aq, ae, pr, ex + 1, 0) else (0, top, e, on, ab, ap, rt, av, aq, ae, pr, ex + 1, 0)), ?_, ?_, ?_⟩
  · (repeat' split) <;> rfl
  · (repeat' split) <;> first | exact .inl rfl | exact .inr rfl
  intro u hrel PX hPX
  obtain ⟨f_depthLimit, f_state, f_trapCode, f_begun, f_tokenTotal, f_printedTotal, f_stackSize, f_bodyCount, f_declaredTwice, f_liveDepth, f_position, a_tokenKind, a_tokenValue, a_printed, a_stack, a_bodyParent, a_bodyStart, a_declCount, a_paramCount, a_paramName, a_declKind, a_declTarget, a_tokenBody, a_branchTarget, a_liveBody, a_liveParent, a_returnTo, a_slotValue, a_slotHome, a_waitingOp, a_waitingLeft, a_leftKnown, a_argKind, a_argValue, a_argHome⟩ := u
  obtain ⟨rfl, rfl, rfl, rfl, rfl, rfl, rfl, rfl, rfl, hon, ht16, hT, hS, hM, hmd⟩ := hrel
  rcases hmd with ⟨_, rfl, _, rfl, _, hR⟩ | ⟨h, _⟩ | ⟨h, _⟩ | ⟨h, _⟩
  · have hin : vp_in (nI pc) 256 := vp_in_nI (by have := hT.1; omega) (by decide)
    unfold wpX_doStatement
    refine ⟨hin, ?_⟩
    rw [nI_clamp (by have := hT.1; omega), (hT.2.1 pc hpn).1]
    refine nm_e (nm_e (nm_r (nI_1 pc) ⟨hin, nm_e ?_⟩))
    rw [hk]
    have hbt : a_branchTarget pc = nI (q + 1) := hS.2.2.2.2.2.2.2.2 q 4 pc L2 (by omega) q2 q3 (.inl rfl) q4
    refine br_f (by decide) (br_f (by decide) (br_f (by decide) (br_f (by decide) (br_f (by decide) (br_f (by decide) (br_f (by decide) (br_f (by decide) (br_f (by decide) (br_f (by decide) (br_t rfl (ps_if hT hS hR hpn e1 e4 (fun i a b => ⟨(e5 i a b).1, (e5 i a b).2.2⟩) hbt (fun hv0 ps wo wl lk => hPX _ ?_) (fun x hx o wo wl lk => hPX _ ?_) (fun x hx o wo wl lk => hPX _ ?_))))))))))))
    · subst hv0
      exact ⟨rfl, rfl, rfl, rfl, rfl, rfl, rfl, rfl, rfl, hon, ht16, hT, hS, hM, .inr (.inr (.inr ⟨rfl, rfl, by decide⟩))⟩
    · subst hx
      simp only [if_pos o]
      exact ⟨rfl, rfl, rfl, rfl, rfl, rfl, rfl, rfl, rfl, hon, ht16, hT, hS, hM, .inl ⟨rfl, rfl, rfl, rfl, q5, hR⟩⟩
    · subst hx
      simp only [if_neg o]
      exact ⟨rfl, rfl, rfl, rfl, rfl, rfl, rfl, rfl, rfl, hon, ht16, hT, hS, hM, .inl ⟨rfl, rfl, rfl, rfl, c3 e (by omega) e4 e2, hR⟩⟩
  · omega
  · omega
  · omega
theorem pt_label {K V : Nat → Nat} {n lim top pc on : Nat} {ab ap rt : Nat → Nat} {kd vl av aq ae pr : Nat → Int32} {ex : Int32} {u0 : St2} (h0 : pt_rel K V n lim kd vl (0, top, pc, on, ab, ap, rt, av, aq, ae, pr, ex, 0) u0) (hk : K pc = 10) : ∃ A', pt_nx K V n lim kd vl (0, top, pc, on, ab, ap, rt, av, aq, ae, pr, ex, 0) A' := by
  obtain ⟨hT0, hn, hL, hN, hU, hP, hon0, lb0, lp0, rr0, sv0, sh0, hR0⟩ := pt_pure h0
  have hpn := hP.2.1
  refine ⟨(0, top, pc + 1, on, ab, ap, rt, av, aq, ae, pr, ex + 1, 0), ?_, ?_, ?_⟩
  · (repeat' split) <;> rfl
  · (repeat' split) <;> first | exact .inl rfl | exact .inr rfl
  intro u hrel PX hPX
  obtain ⟨f_depthLimit, f_state, f_trapCode, f_begun, f_tokenTotal, f_printedTotal, f_stackSize, f_bodyCount, f_declaredTwice, f_liveDepth, f_position, a_tokenKind, a_tokenValue, a_printed, a_stack, a_bodyParent, a_bodyStart, a_declCount, a_paramCount, a_paramName, a_declKind, a_declTarget, a_tokenBody, a_branchTarget, a_liveBody, a_liveParent, a_returnTo, a_slotValue, a_slotHome, a_waitingOp, a_waitingLeft, a_leftKnown, a_argKind, a_argValue, a_argHome⟩ := u
  obtain ⟨rfl, rfl, rfl, rfl, rfl, rfl, rfl, rfl, rfl, hon, ht16, hT, hS, hM, hmd⟩ := hrel
  rcases hmd with ⟨_, rfl, _, rfl, _, hR⟩ | ⟨h, _⟩ | ⟨h, _⟩ | ⟨h, _⟩
  · have hin : vp_in (nI pc) 256 := vp_in_nI (by have := hT.1; omega) (by decide)
    unfold wpX_doStatement
    refine ⟨hin, ?_⟩
    rw [nI_clamp (by have := hT.1; omega), (hT.2.1 pc hpn).1]
    refine nm_e (nm_e (nm_r (nI_1 pc) ⟨hin, nm_e ?_⟩))
    rw [hk]
    refine br_f (by decide) (br_f (by decide) (br_f (by decide) (br_f (by decide) (br_f (by decide) (br_t rfl (hPX _ ?_))))))
    exact ⟨rfl, rfl, rfl, rfl, rfl, rfl, rfl, rfl, rfl, hon, ht16, hT, hS, hM, .inl ⟨rfl, rfl, rfl, rfl, gr_P_10 hn hP hk, hR⟩⟩
  · omega
  · omega
  · omega
theorem pt_goto {K V : Nat → Nat} {n lim top pc on : Nat} {ab ap rt : Nat → Nat} {kd vl av aq ae pr : Nat → Int32} {ex : Int32} {u0 : St2} (h0 : pt_rel K V n lim kd vl (0, top, pc, on, ab, ap, rt, av, aq, ae, pr, ex, 0) u0) (hk : K pc = 9) : ∃ A', pt_nx K V n lim kd vl (0, top, pc, on, ab, ap, rt, av, aq, ae, pr, ex, 0) A' := by
  obtain ⟨hT0, hn, hL, hN, hU, hP, hon0, lb0, lp0, rr0, sv0, sh0, hR0⟩ := pt_pure h0
  have hpn := hP.2.1
  have hv := hT0.2.2 pc hpn (by simp only [xn_nm]; omega)
  obtain ⟨d, hl, hm⟩ := rt_name hU hpn (.inr (.inr (.inr (.inr hk)))) (gr_P_k hn hP).2
  obtain ⟨a', ha', r1, r2, r3, r4, r5⟩ := rt_near hn hL hR0 hl
  have hkd := hm.2.2 hk
  have hPd : gr_P K n (d + 1) (ab a') := by rw [← r3]; exact gr_label hn r2 hkd
  refine ⟨(0, a', d + 1, on, ab, ap, rt, av, aq, ae, pr, ex + 1, 0), ?_, ?_, ?_⟩
  · (repeat' split) <;> rfl
  · (repeat' split) <;> first | exact .inl rfl | exact .inr rfl
  intro u hrel PX hPX
  obtain ⟨f_depthLimit, f_state, f_trapCode, f_begun, f_tokenTotal, f_printedTotal, f_stackSize, f_bodyCount, f_declaredTwice, f_liveDepth, f_position, a_tokenKind, a_tokenValue, a_printed, a_stack, a_bodyParent, a_bodyStart, a_declCount, a_paramCount, a_paramName, a_declKind, a_declTarget, a_tokenBody, a_branchTarget, a_liveBody, a_liveParent, a_returnTo, a_slotValue, a_slotHome, a_waitingOp, a_waitingLeft, a_leftKnown, a_argKind, a_argValue, a_argHome⟩ := u
  obtain ⟨rfl, rfl, rfl, rfl, rfl, rfl, rfl, rfl, rfl, hon, ht16, hT, hS, hM, hmd⟩ := hrel
  rcases hmd with ⟨_, rfl, _, rfl, _, hR⟩ | ⟨h, _⟩ | ⟨h, _⟩ | ⟨h, _⟩
  · have hin : vp_in (nI pc) 256 := vp_in_nI (by have := hT.1; omega) (by decide)
    unfold wpX_doStatement
    refine ⟨hin, ?_⟩
    rw [nI_clamp (by have := hT.1; omega), (hT.2.1 pc hpn).1, hv.1]
    refine nm_e (nm_e (nm_r (nI_1 pc) ⟨hin, nm_e ?_⟩))
    rw [hk]
    refine br_f (by decide) (br_f (by decide) (br_f (by decide) (br_f (by decide) (br_t rfl (ps_goto hT hS hR hpn hv.2 hl hkd (hPX _ ?_))))))
    rw [← ha']
    exact ⟨rfl, rfl, rfl, rfl, rfl, rfl, rfl, rfl, rfl, hon, by omega, hT, hS, hM, .inl ⟨rfl, rfl, rfl, rfl, hPd, rt_R_le hR r1⟩⟩
  · omega
  · omega
  · omega
def pt_F (K : Nat → Nat) (q P c : Nat) (tk : Nat → Int32) : Prop := c = P ∧ ∀ i, i < P → (tk i = 12 ∧ K (q + 1 + i) = 5) ∨ (tk i = 13 ∧ K (q + 1 + i) = 6)
theorem pt_F_iff {K V : Nat → Nat} {n q b c : Nat} {ab : Nat → Nat} {top : Nat} {ak va ah tk tv tq te : Nat → Int32} (hPr : rk_Pr K V n q b) (hA : rk_A K n ab top c ak va ah tk tv tq te) : rk_F K q (b - q - 1) c ak ↔ pt_F K q (b - q - 1) c tk := by
  have p7 := hPr.2.2.2.2.2.2.1
  constructor
  · rintro ⟨h1, h2⟩
    refine ⟨h1, fun i hi => ?_⟩
    have r := rk_par hPr hi
    have hk := h2 i hi
    rcases hA i (by omega) (by omega) with ⟨a1, a2, _⟩ | ⟨a1, a2, _⟩
    · rw [a1] at hk
      exact .inl ⟨a2, ((nI_eq (a := 5) (by decide) (by omega)).mp hk).symm⟩
    · rw [a1] at hk
      exact .inr ⟨a2, ((nI_eq (a := 6) (by decide) (by omega)).mp hk).symm⟩
  · rintro ⟨h1, h2⟩
    refine ⟨h1, fun i hi => ?_⟩
    rcases hA i (by omega) (by omega) with ⟨a1, a2, _⟩ | ⟨a1, a2, _⟩
    · rcases h2 i hi with ⟨b1, b2⟩ | ⟨b1, b2⟩
      · rw [a1, b2]; rfl
      · rw [a2] at b1; exact absurd b1 (by decide)
    · rcases h2 i hi with ⟨b1, b2⟩ | ⟨b1, b2⟩
      · rw [a2] at b1; exact absurd b1 (by decide)
      · rw [a1, b2]; rfl
noncomputable def pt_cl (K V : Nat → Nat) (lim top pc on : Nat) (ab ap rt : Nat → Nat) (av aq ae pr : Nat → Int32) (ex : Int32) (q h b s dn : Nat) : Option (Nat × (Nat → Int32) × (Nat → Int32) × (Nat → Int32) × (Nat → Int32)) → pt_AS
  | none => (3, top, pc, on, ab, ap, rt, av, aq, ae, pr, ex + 1, 1)
  | some (c, tk, tv, tq, te) => @ite _ (pt_F K q (b - q - 1) c tk) (Classical.propDecidable _)
      (if top < lim then (0, top + 1, s, on, rk_u ab (top + 1) b, rk_u ap (top + 1) h, rk_u rt (top + 1) (dn + 1), rk_b1 V q (top + 1) tk tv (rk_z (top + 1) av 16) (b - q - 1), rk_b2 V q (top + 1) tk tq (rk_z (top + 1) aq 16) (b - q - 1), rk_b2 V q (top + 1) tk te (rk_z (top + 1) ae 16) (b - q - 1), pr, ex + 1, 0)
       else (3, top, pc, on, ab, ap, rt, av, aq, ae, pr, ex + 1, 2))
      (3, top, pc, on, ab, ap, rt, av, aq, ae, pr, ex + 1, 3)
theorem pt_call {K V : Nat → Nat} {n lim top pc on : Nat} {ab ap rt : Nat → Nat} {kd vl av aq ae pr : Nat → Int32} {ex : Int32} {u0 : St2} (h0 : pt_rel K V n lim kd vl (0, top, pc, on, ab, ap, rt, av, aq, ae, pr, ex, 0) u0) (hl2 : lim ≤ 16) (hk : K pc = 11) : ∃ A', pt_nx K V n lim kd vl (0, top, pc, on, ab, ap, rt, av, aq, ae, pr, ex, 0) A' := by
  obtain ⟨hT0, hn, hL, hN, hU, hP, hon0, lb0, lp0, rr0, sv0, sh0, hR0⟩ := pt_pure h0
  have hpn := hP.2.1
  have hv := hT0.2.2 pc hpn (by simp only [xn_nm]; omega)
  obtain ⟨h256, htk, htv⟩ := hT0
  have hT0 : rt_TK K V n kd vl := ⟨h256, htk, htv⟩
  have hp1 := hP.1
  have hVd : ∀ d, d < n → gr_D (K d) → V d < 16 := fun d hd h => (htv d hd (by simp only [gr_D] at h; simp only [xn_nm]; omega)).2
  obtain ⟨dn, L, d1, d2, d3, d4, d5, d6, d7⟩ := gr_P_11 hn hP hk
  obtain ⟨d, hl, hm⟩ := rt_name hU hpn (.inr (.inr (.inl hk))) (gr_P_k hn hP).2
  obtain ⟨q, h, hVq, hpv⟩ := pa_pv h256 hn hL hR0 hl (hm.2.1 (.inl hk))
  obtain ⟨b, L', c1, c2, c3, c4, c5, c6, c7, c8, c9⟩ := gr_proc hn hVq.1 hVq.2.1
  obtain ⟨s, e1, e2, e3, e4, e5, e6⟩ := rk_first hn n (b + 1) (by omega) (by omega) (by omega) c9
  have h16 : gr_np K b < 16 := by have := @gr_np_mono K b n (by omega); have := hL.1; omega
  obtain ⟨res, hres⟩ := pa_args hT0 hn hL hU hR0 d2 d4 d5 d6 (n - (pc + 1)) (pc + 1) 0 (fun _ => 0) (fun _ => 0) (fun _ => 0) (fun _ => 0) (Nat.le_refl _) (by omega) (by omega) (by omega) d3
  refine ⟨pt_cl K V lim top pc on ab ap rt av aq ae pr ex q h b s dn res, ?_, ?_, ?_⟩
  · unfold pt_cl; (repeat' split) <;> rfl
  · unfold pt_cl; (repeat' split) <;> first | exact .inl rfl | exact .inr rfl
  intro u hrel PX hPX
  obtain ⟨f_depthLimit, f_state, f_trapCode, f_begun, f_tokenTotal, f_printedTotal, f_stackSize, f_bodyCount, f_declaredTwice, f_liveDepth, f_position, a_tokenKind, a_tokenValue, a_printed, a_stack, a_bodyParent, a_bodyStart, a_declCount, a_paramCount, a_paramName, a_declKind, a_declTarget, a_tokenBody, a_branchTarget, a_liveBody, a_liveParent, a_returnTo, a_slotValue, a_slotHome, a_waitingOp, a_waitingLeft, a_leftKnown, a_argKind, a_argValue, a_argHome⟩ := u
  obtain ⟨rfl, rfl, rfl, rfl, rfl, rfl, rfl, rfl, rfl, hon, ht16, hT, hS, hM, hmd⟩ := hrel
  rcases hmd with ⟨_, rfl, _, rfl, _, hR⟩ | ⟨h, _⟩ | ⟨h, _⟩ | ⟨h, _⟩
  · have hin : vp_in (nI pc) 256 := vp_in_nI (by have := hT.1; omega) (by decide)
    unfold wpX_doStatement
    refine ⟨hin, ?_⟩
    rw [nI_clamp (by have := hT.1; omega), (hT.2.1 pc hpn).1, hv.1]
    refine nm_e (nm_e (nm_r (nI_1 pc) ⟨hin, nm_e ?_⟩))
    rw [hk]
    have hXX := hS.2.2.2.2
    have hPr : rk_Pr K V n q b := by
      refine ⟨hVq.1, hVq.2.1, c1, c2, c3, fun i h1 h2 => ⟨c6 i h1 h2, (c5 i h1 (by omega)).2, ?_, ?_⟩, (hXX.2.2.1 q b hVq.1 hVq.2.1 c1 c2 c3 c6).1, h16⟩
      · exact (htv i (by omega) (by have := c6 i h1 h2; simp only [xn_nm]; omega)).2
      · have := gr_dc_of hN (show i < n by omega) (by have := c6 i h1 h2; simp only [gr_D]; omega)
        rw [(c5 i h1 (by omega)).2] at this
        exact this
    have hbs : a_bodyStart (gr_np K b) = nI s := hXX.2.1 s b _ e1 e2 e3 e4 e5
    obtain ⟨s1, s2⟩ := hpv _ _ _ _ _ _ _ _ hR
    have hle : ac_al K V n ab ap (V pc) 15 top ≤ top := ac_al_le hR.2.1 15 top (Nat.le_refl _)
    refine br_f (by decide) (br_f (by decide) (br_f (by decide) (br_f (by decide) (br_f (by decide) (br_f (by decide) (br_t rfl ?_))))))
    unfold wpX_doCall
    refine rs_slot hn hL (fun d hd => (htk d hd).2) hXX.2.2.2.1 hv.2 hR.2.1 hR.1 (fun a h => (hR.2.2.2.1 a h).1) hR.2.2.2.2.1 (fun a h1 h2 => (hR.2.2.2.2.2.1 a h1 h2).1) ?_
    have ix : vp_in (nI (ac_al K V n ab ap (V pc) 15 top * 16 + V pc)) 272 := vp_in_nI (by omega) (by decide)
    rw [nI_clamp (by omega), s1, s2, ← c7]
    refine ⟨ix, nm_e ⟨ix, nm_e ?_⟩⟩
    unfold wpX_takeArguments
    refine ⟨n, hres lim on (f_begun + 1) _ _ _ _ _ _ _ _ _ _ _ _ _ _ _ _ _ _ _ _ _ _ _ 0 n _ _ _ _ _ _ hS hR (fun i hi => by omega) (by omega) (by omega) (fun hr r ps ak av_ ah wo wl lk => ?_) (fun c tk tv tq te hr hc ak av_ ah wo wl lk hA => ?_)⟩
    · refine br_f (by decide) (hPX _ ?_)
      subst hr
      exact ⟨rfl, rfl, rfl, rfl, rfl, rfl, rfl, rfl, rfl, hon, ht16, hT, hS, hM, .inr (.inr (.inr ⟨rfl, rfl, by decide⟩))⟩
    · subst hr
      have hFF := pt_F_iff hPr hA
      refine br_t rfl (rk_fit (fun d hd => (htk d hd).2) hPr hXX.2.2.1 hXX.2.2.2.1 hc (fun hF => br_f (by decide) ?_) (fun hF => br_t rfl (hPX _ ?_)))
      · have hF2 := hFF.mp hF
        by_cases hlt : top < lim
        · refine br_t (nI_lt hlt (by omega)) (nm_r (nI_1 top) ⟨vp_in_nI (by omega) (by decide), ?_⟩)
          rw [nI_clamp (n := top + 1) (by omega)]
          refine nm_e (xk_open (by omega) h16 (fun sv1 sh1 o1 o2 => ?_))
          unfold wpX_bindParams
          refine ⟨b - q, rk_bind hPr hXX.2.2.1 (by omega) sv1 sh1 (fun sv sh o3 o4 => ?_) (b - q - 1) 0 (b - q) _ _ (by omega) (by omega) (fun i' h => by omega) (fun j _ => ⟨rfl, rfl⟩)⟩
          rw [hbs]
          refine hPX _ ?_
          simp only [pt_cl]
          rw [if_pos hF2, if_pos hlt]
          have hR' := pt_R_y (rk_R (dk := a_declKind) (dt := a_declTarget) hn hN hVd hR hPr hVq c8 hA hF d7 (by omega) hXX.2.2.2.1 o1 o2 o3 o4)
          exact ⟨rfl, rfl, rfl, rfl, rfl, rfl, rfl, rfl, rfl, hon, by omega, hT, hS, rt_MV_of hR', .inl ⟨rfl, rfl, rfl, rfl, by rw [rk_us]; exact e6, hR'⟩⟩
        · refine br_f (nI_nlt (by omega) (by omega)) (hPX _ ?_)
          simp only [pt_cl]
          rw [if_pos hF2, if_neg hlt]
          exact ⟨rfl, rfl, rfl, rfl, rfl, rfl, rfl, rfl, rfl, hon, ht16, hT, hS, hM, .inr (.inr (.inr ⟨rfl, rfl, by decide⟩))⟩
      · have hF2 : ¬ pt_F K q (b - q - 1) c tk := fun h => hF (hFF.mpr h)
        simp only [pt_cl]
        rw [if_neg hF2]
        exact ⟨rfl, rfl, rfl, rfl, rfl, rfl, rfl, rfl, rfl, hon, ht16, hT, hS, hM, .inr (.inr (.inr ⟨rfl, rfl, by decide⟩))⟩
  · omega
  · omega
  · omega
