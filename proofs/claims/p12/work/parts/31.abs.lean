variable {f_depthLimit f_state f_trapCode f_begun f_tokenTotal f_printedTotal f_stackSize f_bodyCount f_declaredTwice f_liveDepth f_position : Int32} {a_tokenKind a_tokenValue a_printed a_stack a_bodyParent a_bodyStart a_declCount a_paramCount a_paramName a_declKind a_declTarget a_tokenBody a_branchTarget a_liveBody a_liveParent a_returnTo a_slotValue a_slotHome a_waitingOp a_waitingLeft a_leftKnown a_argKind a_argValue a_argHome : Nat → Int32}
theorem pt_R_y {K V : Nat → Nat} {n : Nat} {ab ap rt : Nat → Nat} {top : Nat} {lb lp rr sv sh yb yp yr av aq ae : Nat → Int32} (h : rt_R K V n ab ap rt top lb lp rr sv sh yb yp yr av aq ae) : rt_R K V n ab ap rt top lb lp rr sv sh (fun a => nI (ab a)) (fun a => nI (ap a)) (fun a => nI (rt a)) av aq ae :=
  ⟨h.1, h.2.1, fun a h1 h2 => ⟨(h.2.2.1 a h1 h2).1, (h.2.2.1 a h1 h2).2.1, rfl⟩, fun a h1 => ⟨(h.2.2.2.1 a h1).1, rfl⟩, h.2.2.2.2.1, fun a h1 h2 => ⟨(h.2.2.2.2.2.1 a h1 h2).1, rfl⟩, h.2.2.2.2.2.2⟩
/-- (mode, top, pc, outputs, bodies, parents, returns, variables, procedure values, their homes, output, statements, trap) -/
abbrev pt_AS : Type := Nat × Nat × Nat × Nat × (Nat → Nat) × (Nat → Nat) × (Nat → Nat) × (Nat → Int32) × (Nat → Int32) × (Nat → Int32) × (Nat → Int32) × Int32 × Int32
def pt_rel (K V : Nat → Nat) (n lim : Nat) (kd vl : Nat → Int32) (A : pt_AS) (u : St2) : Prop := match A, u with
  | (md, top, pc, on, ab, ap, rt, av, aq, ae, pr, ex, tc), (f_depthLimit, f_state, f_trapCode, f_begun, f_tokenTotal, f_printedTotal, f_stackSize, f_bodyCount, f_declaredTwice, f_liveDepth, f_position, a_tokenKind, a_tokenValue, a_printed, a_stack, a_bodyParent, a_bodyStart, a_declCount, a_paramCount, a_paramName, a_declKind, a_declTarget, a_tokenBody, a_branchTarget, a_liveBody, a_liveParent, a_returnTo, a_slotValue, a_slotHome, a_waitingOp, a_waitingLeft, a_leftKnown, a_argKind, a_argValue, a_argHome) => f_depthLimit = nI lim ∧ f_begun = ex ∧ f_tokenTotal = nI n ∧ f_printedTotal = nI on ∧ a_tokenKind = kd ∧ a_tokenValue = vl ∧ a_printed = pr ∧ f_liveDepth = nI top ∧ f_trapCode = tc ∧ on ≤ 32 ∧ top ≤ 16 ∧ rt_TK K V n kd vl ∧
    rt_ST K V n a_bodyParent a_bodyStart a_paramCount a_paramName a_declKind a_declTarget a_branchTarget ∧ rt_MV K V n a_slotValue av ∧
    ((md = 0 ∧ f_state = 1 ∧ tc = 0 ∧ f_position = nI pc ∧ gr_P K n pc (ab top) ∧ rt_R K V n ab ap rt top a_liveBody a_liveParent a_returnTo a_slotValue a_slotHome (fun a => nI (ab a)) (fun a => nI (ap a)) (fun a => nI (rt a)) av aq ae) ∨
     (md = 1 ∧ f_state = 2 ∧ tc = 0 ∧ top = 0) ∨ (md = 2 ∧ f_state = 3 ∧ ¬ tc = 0) ∨ (md = 3 ∧ f_state = 1 ∧ ¬ tc = 0))
/-- one statement: its outcome ahead of any state -/
def pt_ex (A : pt_AS) : Int32 := match A with
  | (_, _, _, _, _, _, _, _, _, _, _, ex, _) => ex
def pt_md (A : pt_AS) : Nat := A.1
def pt_nx (K V : Nat → Nat) (n lim : Nat) (kd vl : Nat → Int32) (A A' : pt_AS) : Prop := pt_ex A' = pt_ex A + 1 ∧ (pt_md A' = 0 ∨ pt_md A' = 3) ∧ ∀ u, pt_rel K V n lim kd vl A u → ∀ PX : St2 → Prop, (∀ u', pt_rel K V n lim kd vl A' u' → PX u') → wpX_doStatement PX u
theorem pt_rt_set {K V : Nat → Nat} {n : Nat} {ab ap rt : Nat → Nat} {top a' d : Nat} {x : Int32} {lb lp rr sv sh yb yp yr av aq ae : Nat → Int32} (hN : gr_ND K V n) (hV : ∀ d, d < n → gr_D (K d) → V d < 16) (h : rt_R K V n ab ap rt top lb lp rr sv sh yb yp yr av aq ae) (hd : d < n) (hD : gr_D (K d)) (hb : gr_bo K n d = ab a') (hk : K d = 3 ∨ K d = 5) :
    rt_R K V n ab ap rt top lb lp rr (upd sv (a' * 16 + V d) x) sh yb yp yr (upd av (a' * 16 + V d) x) aq ae := by
  refine ⟨h.1, h.2.1, h.2.2.1, h.2.2.2.1, h.2.2.2.2.1, h.2.2.2.2.2.1, fun a ha => ?_⟩
  intro d2 hd2 hD2 hb2
  by_cases e : a * 16 + V d2 = a' * 16 + V d
  · have h1 := lo_ix (hV d2 hd2 hD2) (hV d hd hD) e
    obtain ⟨rfl, hv⟩ := h1
    have : d2 = d := by
      by_cases c1 : d2 < d
      · exact (hN d2 d c1 hd hD2 hD (by rw [hb, hb2]) hv.symm).elim
      · by_cases c2 : d < d2
        · exact (hN d d2 c2 hd2 hD hD2 (by rw [hb, hb2]) hv).elim
        · omega
    subst this
    exact ⟨fun _ => by rw [lo_us, lo_us], fun h4 => by omega, fun h4 => by omega, fun h4 => by omega⟩
  · have h1 := h.2.2.2.2.2.2 a ha d2 hd2 hD2 hb2
    rw [lo_un e, lo_un e]
    exact h1
/-- what a running abstract state holds by itself -/
theorem pt_pure {K V : Nat → Nat} {n lim top pc on : Nat} {ab ap rt : Nat → Nat} {kd vl av aq ae pr : Nat → Int32} {ex : Int32} {u0 : St2} (h0 : pt_rel K V n lim kd vl (0, top, pc, on, ab, ap, rt, av, aq, ae, pr, ex, 0) u0) : rt_TK K V n kd vl ∧ gr_cf K n = some ([], 0) ∧ gr_LM K n ∧ gr_ND K V n ∧ gr_US K V n ∧ gr_P K n pc (ab top) ∧ on ≤ 32 ∧ ∃ lb lp rr sv sh, rt_R K V n ab ap rt top lb lp rr sv sh (fun a => nI (ab a)) (fun a => nI (ap a)) (fun a => nI (rt a)) av aq ae := by
  obtain ⟨f_depthLimit, f_state, f_trapCode, f_begun, f_tokenTotal, f_printedTotal, f_stackSize, f_bodyCount, f_declaredTwice, f_liveDepth, f_position, a_tokenKind, a_tokenValue, a_printed, a_stack, a_bodyParent, a_bodyStart, a_declCount, a_paramCount, a_paramName, a_declKind, a_declTarget, a_tokenBody, a_branchTarget, a_liveBody, a_liveParent, a_returnTo, a_slotValue, a_slotHome, a_waitingOp, a_waitingLeft, a_leftKnown, a_argKind, a_argValue, a_argHome⟩ := u0
  obtain ⟨_, _, _, _, _, _, _, _, _, hon, ht16, hT, hS, hM, hmd⟩ := h0
  rcases hmd with ⟨_, _, _, _, hP, hR⟩ | ⟨h, _⟩ | ⟨h, _⟩ | ⟨h, _⟩
  · exact ⟨hT, hS.1, hS.2.1, hS.2.2.1, hS.2.2.2.1, hP, hon, _, _, _, _, _, hR⟩
  · omega
  · omega
  · omega
theorem pt_set {K V : Nat → Nat} {n lim top pc on : Nat} {ab ap rt : Nat → Nat} {kd vl av aq ae pr : Nat → Int32} {ex : Int32} {u0 : St2} (h0 : pt_rel K V n lim kd vl (0, top, pc, on, ab, ap, rt, av, aq, ae, pr, ex, 0) u0) (hk : K pc = 7) : ∃ A', pt_nx K V n lim kd vl (0, top, pc, on, ab, ap, rt, av, aq, ae, pr, ex, 0) A' := by
  obtain ⟨hT0, hn, hL, hN, hU, hP, hon0, lb0, lp0, rr0, sv0, sh0, hR0⟩ := pt_pure h0
  have hpn := hP.2.1
  have hv := hT0.2.2 pc hpn (by simp only [xn_nm]; omega)
  obtain ⟨L, c1, c2, c3⟩ := gr_P_78 hn hP (.inl hk)
  obtain ⟨e, v, e1, e2, e3, e4, e5⟩ := rt_exp (V := V) (rt_lf K V n ab ap top vl av) hn hpn c1 c2
  obtain ⟨d, hl, hm⟩ := rt_name hU hpn (.inl hk) (gr_P_k hn hP).2
  obtain ⟨a', ha', r1, r2, r3, r4, r5⟩ := rt_near hn hL hR0 hl
  have hkd := hm.1 (.inl hk)
  have hVd : ∀ d, d < n → gr_D (K d) → V d < 16 := fun d hd h => (hT0.2.2 d hd (by simp only [gr_D] at h; simp only [xn_nm]; omega)).2
  refine ⟨match v with | none => (3, top, pc, on, ab, ap, rt, av, aq, ae, pr, ex + 1, 1) | some x => (0, top, e, on, ab, ap, rt, upd av (a' * 16 + V pc) x, aq, ae, pr, ex + 1, 0), ?_, ?_, ?_⟩
  · (repeat' split) <;> rfl
  · (repeat' split) <;> first | exact .inl rfl | exact .inr rfl
  intro u hrel PX hPX
  obtain ⟨f_depthLimit, f_state, f_trapCode, f_begun, f_tokenTotal, f_printedTotal, f_stackSize, f_bodyCount, f_declaredTwice, f_liveDepth, f_position, a_tokenKind, a_tokenValue, a_printed, a_stack, a_bodyParent, a_bodyStart, a_declCount, a_paramCount, a_paramName, a_declKind, a_declTarget, a_tokenBody, a_branchTarget, a_liveBody, a_liveParent, a_returnTo, a_slotValue, a_slotHome, a_waitingOp, a_waitingLeft, a_leftKnown, a_argKind, a_argValue, a_argHome⟩ := u
  obtain ⟨rfl, rfl, rfl, rfl, rfl, rfl, rfl, rfl, rfl, hon, ht16, hT, hS, hM, hmd⟩ := hrel
  rcases hmd with ⟨_, rfl, _, rfl, _, hR⟩ | ⟨h, _⟩ | ⟨h, _⟩ | ⟨h, _⟩
  · have hin : vp_in (nI pc) 256 := vp_in_nI (by have := hT.1; omega) (by decide)
    unfold wpX_doStatement
    refine ⟨hin, ?_⟩
    rw [nI_clamp (by have := hT.1; omega), (hT.2.1 pc hpn).1, hv.1]
    refine nm_e (nm_e (nm_r (nI_1 pc) ⟨hin, nm_e ?_⟩))
    rw [hk]
    refine br_f (by decide) (br_f (by decide) (br_t rfl (ps_set hT hS hR hpn e1 e4 (fun i a b => ⟨(e5 i a b).1, (e5 i a b).2.2⟩) hv.2 hl (fun hv0 ps wo wl lk => hPX _ ?_) (fun x hx wo wl lk => hPX _ ?_))))
    · subst hv0
      exact ⟨rfl, rfl, rfl, rfl, rfl, rfl, rfl, rfl, rfl, hon, ht16, hT, hS, hM, .inr (.inr (.inr ⟨rfl, rfl, by decide⟩))⟩
    · subst hx
      have hR' := pt_rt_set (x := x) hN hVd hR r2 r5 r3 hkd
      rw [r4, ha'] at hR'
      rw [ha']
      exact ⟨rfl, rfl, rfl, rfl, rfl, rfl, rfl, rfl, rfl, hon, ht16, hT, hS, rt_MV_of hR', .inl ⟨rfl, rfl, rfl, rfl, c3 e (by omega) e4 e2, hR'⟩⟩
  · omega
  · omega
  · omega
