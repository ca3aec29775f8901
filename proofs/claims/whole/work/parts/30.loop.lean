variable {f_depthLimit f_state f_trapCode f_begun f_tokenTotal f_printedTotal f_stackSize f_bodyCount f_declaredTwice f_liveDepth f_position : Int32} {a_tokenKind a_tokenValue a_printed a_stack a_bodyParent a_bodyStart a_declCount a_paramCount a_paramName a_declKind a_declTarget a_tokenBody a_branchTarget a_liveBody a_liveParent a_returnTo a_slotValue a_slotHome a_waitingOp a_waitingLeft a_leftKnown a_argKind a_argValue a_argHome : Nat → Int32}
variable {g_n g_limit g_status g_trapCode g_exec g_top g_outN g_pc g_evEnd g_rq g_re : Int32} {b_kind b_val b_bod b_par b_lnk b_st b_si b_stk b_out b_abody b_apar b_aret b_avar b_apq b_ape b_tk b_tv b_tq b_te : Nat → Int32}
/-- both have ended, and agree -/
def rt_end (K V : Nat → Nat) (n lim : Nat) (u : SX) (v : SY) : Prop := match u, v with
  | (f_depthLimit, f_state, f_trapCode, f_begun, f_tokenTotal, f_printedTotal, f_stackSize, f_bodyCount, f_declaredTwice, f_liveDepth, f_position, a_tokenKind, a_tokenValue, a_printed, a_stack, a_bodyParent, a_bodyStart, a_declCount, a_paramCount, a_paramName, a_declKind, a_declTarget, a_tokenBody, a_branchTarget, a_liveBody, a_liveParent, a_returnTo, a_slotValue, a_slotHome, a_waitingOp, a_waitingLeft, a_leftKnown, a_argKind, a_argValue, a_argHome), (g_n, g_limit, g_status, g_trapCode, g_exec, g_top, g_outN, g_pc, g_evEnd, g_rq, g_re, b_kind, b_val, b_bod, b_par, b_lnk, b_st, b_si, b_stk, b_out, b_abody, b_apar, b_aret, b_avar, b_apq, b_ape, b_tk, b_tv, b_tq, b_te) => f_depthLimit = nI lim ∧ g_limit = nI lim ∧ ((f_state = 2 ∧ g_status = 2 ∧ f_trapCode = 0 ∧ f_liveDepth = 0) ∨ (f_state = 3 ∧ g_status = 3 ∧ g_trapCode = f_trapCode ∧ g_top = f_liveDepth)) ∧ g_exec = f_begun ∧ f_tokenTotal = nI n ∧ g_n = nI n ∧ b_kind = a_tokenKind ∧ b_val = a_tokenValue ∧ b_out = a_printed ∧
    rt_TK K V n a_tokenKind a_tokenValue ∧ rt_ST K V n a_bodyParent a_bodyStart a_paramCount a_paramName a_declKind a_declTarget a_branchTarget b_bod b_par b_lnk ∧ rt_MV K V n a_slotValue b_avar ∧ ∃ on : Nat, on ≤ 32 ∧ f_printedTotal = nI on ∧ g_outN = nI on
/-- both are edited, and agree -/
def rt_edt (K V : Nat → Nat) (n lim : Nat) (u : SX) (v : SY) : Prop := match u, v with
  | (f_depthLimit, f_state, f_trapCode, f_begun, f_tokenTotal, f_printedTotal, f_stackSize, f_bodyCount, f_declaredTwice, f_liveDepth, f_position, a_tokenKind, a_tokenValue, a_printed, a_stack, a_bodyParent, a_bodyStart, a_declCount, a_paramCount, a_paramName, a_declKind, a_declTarget, a_tokenBody, a_branchTarget, a_liveBody, a_liveParent, a_returnTo, a_slotValue, a_slotHome, a_waitingOp, a_waitingLeft, a_leftKnown, a_argKind, a_argValue, a_argHome), (g_n, g_limit, g_status, g_trapCode, g_exec, g_top, g_outN, g_pc, g_evEnd, g_rq, g_re, b_kind, b_val, b_bod, b_par, b_lnk, b_st, b_si, b_stk, b_out, b_abody, b_apar, b_aret, b_avar, b_apq, b_ape, b_tk, b_tv, b_tq, b_te) => f_depthLimit = nI lim ∧ g_limit = nI lim ∧ f_state = 0 ∧ g_status = 0 ∧ f_trapCode = 0 ∧ f_liveDepth = 0 ∧ g_exec = f_begun ∧ f_tokenTotal = nI n ∧ g_n = nI n ∧ b_kind = a_tokenKind ∧ b_val = a_tokenValue ∧ b_out = a_printed ∧
    rt_TK K V n a_tokenKind a_tokenValue ∧ ∃ on : Nat, on ≤ 32 ∧ f_printedTotal = nI on ∧ g_outN = nI on
def rt_c28 (post : Int32 → SX → Prop) (x2 : Int32) (f : Nat) (x3 : Int32) (u : SX) : Prop := match u with
  | (f_depthLimit, f_state, f_trapCode, f_begun, f_tokenTotal, f_printedTotal, f_stackSize, f_bodyCount, f_declaredTwice, f_liveDepth, f_position, a_tokenKind, a_tokenValue, a_printed, a_stack, a_bodyParent, a_bodyStart, a_declCount, a_paramCount, a_paramName, a_declKind, a_declTarget, a_tokenBody, a_branchTarget, a_liveBody, a_liveParent, a_returnTo, a_slotValue, a_slotHome, a_waitingOp, a_waitingLeft, a_leftKnown, a_argKind, a_argValue, a_argHome) => wX_run_28 post x2 f x3 f_depthLimit f_state f_trapCode f_begun f_tokenTotal f_printedTotal f_stackSize f_bodyCount f_declaredTwice f_liveDepth f_position a_tokenKind a_tokenValue a_printed a_stack a_bodyParent a_bodyStart a_declCount a_paramCount a_paramName a_declKind a_declTarget a_tokenBody a_branchTarget a_liveBody a_liveParent a_returnTo a_slotValue a_slotHome a_waitingOp a_waitingLeft a_leftKnown a_argKind a_argValue a_argHome
def rt_c39 (PY : Int32 → SY → Prop) (f : Nat) (x2 x3 : Int32) (v : SY) : Prop := match v with
  | (g_n, g_limit, g_status, g_trapCode, g_exec, g_top, g_outN, g_pc, g_evEnd, g_rq, g_re, b_kind, b_val, b_bod, b_par, b_lnk, b_st, b_si, b_stk, b_out, b_abody, b_apar, b_aret, b_avar, b_apq, b_ape, b_tk, b_tv, b_tq, b_te) => wY_run_39 PY f x2 x3 g_n g_limit g_status g_trapCode g_exec g_top g_outN g_pc g_evEnd g_rq g_re b_kind b_val b_bod b_par b_lnk b_st b_si b_stk b_out b_abody b_apar b_aret b_avar b_apq b_ape b_tk b_tv b_tq b_te
theorem rt_run_x {K V : Nat → Nat} {n lim : Nat} {u : SX} {v : SY} (h : rt_run K V n lim u v) : u.2.2.1 = 0 := by
  obtain ⟨f_depthLimit, f_state, f_trapCode, f_begun, f_tokenTotal, f_printedTotal, f_stackSize, f_bodyCount, f_declaredTwice, f_liveDepth, f_position, a_tokenKind, a_tokenValue, a_printed, a_stack, a_bodyParent, a_bodyStart, a_declCount, a_paramCount, a_paramName, a_declKind, a_declTarget, a_tokenBody, a_branchTarget, a_liveBody, a_liveParent, a_returnTo, a_slotValue, a_slotHome, a_waitingOp, a_waitingLeft, a_leftKnown, a_argKind, a_argValue, a_argHome⟩ := u
  obtain ⟨g_n, g_limit, g_status, g_trapCode, g_exec, g_top, g_outN, g_pc, g_evEnd, g_rq, g_re, b_kind, b_val, b_bod, b_par, b_lnk, b_st, b_si, b_stk, b_out, b_abody, b_apar, b_aret, b_avar, b_apq, b_ape, b_tk, b_tv, b_tq, b_te⟩ := v
  exact h.2.2.2.2.1
/-- the run, ahead of a settling -/
theorem rt_A {K V : Nat → Nat} {n lim F : Nat} (hF : F ≤ 256) (hl1 : 1 ≤ lim) (hl2 : lim ≤ 16) {G : (Int32 → SY → Prop) → Prop} {RR : SX → SY → Prop} (hRR : ∀ u v, rt_run K V n lim u v ∨ rt_end K V n lim u v → RR u v) :
    ∀ (r sp fx : Nat) (u : SX) (v : SY), r + sp = F → r < fx → rt_run K V n lim u v →
      (∀ PY : Int32 → SY → Prop, (∀ (ee rq re : Int32) (sk : Nat → Int32), rt_c39 PY (r + 1) (nI r) (nI sp) (rt_jk v ee rq re sk)) → G PY) →
      ∀ (C : SX → Prop), (∀ u1, rt_c28 (fun rr u' => G (fun r' v' => r' = rr ∧ RR u' v')) (nI F) fx (nI sp) u1 → C u1) → wpX_settle C u := by
  intro r
  induction r with
  | zero =>
    intro sp fx u v hr hfx hrel HY C hC
    obtain ⟨f_depthLimit, f_state, f_trapCode, f_begun, f_tokenTotal, f_printedTotal, f_stackSize, f_bodyCount, f_declaredTwice, f_liveDepth, f_position, a_tokenKind, a_tokenValue, a_printed, a_stack, a_bodyParent, a_bodyStart, a_declCount, a_paramCount, a_paramName, a_declKind, a_declTarget, a_tokenBody, a_branchTarget, a_liveBody, a_liveParent, a_returnTo, a_slotValue, a_slotHome, a_waitingOp, a_waitingLeft, a_leftKnown, a_argKind, a_argValue, a_argHome⟩ := u
    obtain ⟨g_n, g_limit, g_status, g_trapCode, g_exec, g_top, g_outN, g_pc, g_evEnd, g_rq, g_re, b_kind, b_val, b_bod, b_par, b_lnk, b_st, b_si, b_stk, b_out, b_abody, b_apar, b_aret, b_avar, b_apq, b_ape, b_tk, b_tv, b_tq, b_te⟩ := v
    obtain ⟨rfl, rfl, rfl, rfl, rfl, rfl, rfl, rfl, rfl, rfl, rfl, rfl, hT, hS, on, top, pc, ab, ap, rt, hon, rfl, rfl, rfl, rfl, rfl, rfl, hP, hR⟩ := hrel
    have ht := hR.1
    obtain ⟨s', top', pc', hc, hx, hy⟩ := rt_settle hT hS 4352 top pc (by omega) hR hP
    unfold wpX_settle
    refine ⟨4353, hx _ _ _ _ _ _ _ _ _ _ _ _ _ _ _ _ _ _ _ 0 4353 (by omega) (by omega) (hC _ ?_)⟩
    have HY2 : ∀ PY : Int32 → SY → Prop, (∀ (ee rq re : Int32) (sk : Nat → Int32), wY_run_58 PY (wY_run_39 PY 0) (nI 0) (nI sp) (nI n) (nI lim) s' 0 g_exec (nI top') (nI on) (nI pc') ee rq re b_kind b_val b_bod b_par b_lnk b_st b_si sk b_out b_abody b_apar b_aret b_avar b_apq b_ape b_tk b_tv b_tq b_te) → G PY := by
      intro PY h
      refine HY PY (fun ee rq re sk => ?_)
      refine br_f (nI_nlt (a := 256) (by omega) (by decide)) (br_t rfl ?_)
      unfold wpY_settle
      exact ⟨8193, hy _ _ _ _ _ _ _ _ _ _ _ _ _ _ _ _ _ 0 8193 (by omega) (by omega) (h ee rq re sk)⟩
    rcases hc with ⟨rfl, c1, c2, c3, c4, c5⟩ | ⟨rfl, rfl⟩
    · obtain ⟨f1, rfl⟩ : ∃ f1, fx = f1 + 1 := ⟨fx - 1, by omega⟩
      refine br_t (nI_le (by omega) (by omega)) (HY2 _ (fun ee rq re sk => br_t rfl (br_f (by decide) ⟨rfl, hRR _ _ (.inl ?_)⟩)))
      exact ⟨rfl, rfl, rfl, rfl, rfl, rfl, rfl, rfl, rfl, rfl, rfl, rfl, hT, hS, on, top', pc', ab, ap, rt, hon, rfl, rfl, rfl, rfl, rfl, rfl, c2, rt_R_le hR c1⟩
    · have fin : G (fun r' v' => r' = 2 ∧ RR (nI lim, 2, 0, g_exec, nI n, nI on, f_stackSize, f_bodyCount, f_declaredTwice, nI 0, nI pc', b_kind, b_val, b_out, a_stack, a_bodyParent, a_bodyStart, a_declCount, a_paramCount, a_paramName, a_declKind, a_declTarget, a_tokenBody, a_branchTarget, a_liveBody, a_liveParent, a_returnTo, a_slotValue, a_slotHome, a_waitingOp, a_waitingLeft, a_leftKnown, a_argKind, a_argValue, a_argHome) v') := by
        refine HY2 _ (fun ee rq re sk => br_f (by decide) ⟨rfl, hRR _ _ (.inr ?_)⟩)
        exact ⟨rfl, rfl, .inl ⟨rfl, rfl, rfl, rfl⟩, rfl, rfl, rfl, rfl, rfl, rfl, hT, hS, rt_MV_of hR, on, hon, rfl, rfl⟩
      obtain ⟨f1, rfl⟩ : ∃ f1, fx = f1 + 1 := ⟨fx - 1, by omega⟩
      exact br_c (fun _ => fin) (fun _ => br_f (by decide) fin)
  | succ r ih =>
    intro sp fx u v hr hfx hrel HY C hC
    obtain ⟨f_depthLimit, f_state, f_trapCode, f_begun, f_tokenTotal, f_printedTotal, f_stackSize, f_bodyCount, f_declaredTwice, f_liveDepth, f_position, a_tokenKind, a_tokenValue, a_printed, a_stack, a_bodyParent, a_bodyStart, a_declCount, a_paramCount, a_paramName, a_declKind, a_declTarget, a_tokenBody, a_branchTarget, a_liveBody, a_liveParent, a_returnTo, a_slotValue, a_slotHome, a_waitingOp, a_waitingLeft, a_leftKnown, a_argKind, a_argValue, a_argHome⟩ := u
    obtain ⟨g_n, g_limit, g_status, g_trapCode, g_exec, g_top, g_outN, g_pc, g_evEnd, g_rq, g_re, b_kind, b_val, b_bod, b_par, b_lnk, b_st, b_si, b_stk, b_out, b_abody, b_apar, b_aret, b_avar, b_apq, b_ape, b_tk, b_tv, b_tq, b_te⟩ := v
    obtain ⟨rfl, rfl, rfl, rfl, rfl, rfl, rfl, rfl, rfl, rfl, rfl, rfl, hT, hS, on, top, pc, ab, ap, rt, hon, rfl, rfl, rfl, rfl, rfl, rfl, hP, hR⟩ := hrel
    have ht := hR.1
    obtain ⟨s', top', pc', hc, hx, hy⟩ := rt_settle hT hS 4352 top pc (by omega) hR hP
    unfold wpX_settle
    refine ⟨4353, hx _ _ _ _ _ _ _ _ _ _ _ _ _ _ _ _ _ _ _ 0 4353 (by omega) (by omega) (hC _ ?_)⟩
    have HY2 : ∀ PY : Int32 → SY → Prop, (∀ (ee rq re : Int32) (sk : Nat → Int32), wY_run_58 PY (wY_run_39 PY (r + 1)) (nI (r + 1)) (nI sp) (nI n) (nI lim) s' 0 g_exec (nI top') (nI on) (nI pc') ee rq re b_kind b_val b_bod b_par b_lnk b_st b_si sk b_out b_abody b_apar b_aret b_avar b_apq b_ape b_tk b_tv b_tq b_te) → G PY := by
      intro PY h
      refine HY PY (fun ee rq re sk => ?_)
      refine br_f (nI_nlt (a := 256) (by omega) (by decide)) (br_t rfl ?_)
      unfold wpY_settle
      exact ⟨8193, hy _ _ _ _ _ _ _ _ _ _ _ _ _ _ _ _ _ 0 8193 (by omega) (by omega) (h ee rq re sk)⟩
    rcases hc with ⟨rfl, c1, c2, c3, c4, c5⟩ | ⟨rfl, rfl⟩
    · obtain ⟨f1, rfl⟩ : ∃ f1, fx = f1 + 1 := ⟨fx - 1, by omega⟩
      refine br_f (nI_ge (by omega) (by omega)) (br_t rfl (rt_step (b_st := b_st) (b_si := b_si) (b_tk := b_tk) (b_tv := b_tv) (b_tq := b_tq) (b_te := b_te) hT hS (rt_R_le hR c1) c2 hon hl1 hl2 (fun u' v0 hrel hW => ?_) c3 c4 c5))
      have HY3 : ∀ PY : Int32 → SY → Prop, (∀ (ee rq re : Int32) (sk : Nat → Int32), rt_c39 PY (r + 1) (nI r) (nI (sp + 1)) (rt_jk v0 ee rq re sk)) → G PY := by
        intro PY h
        refine HY2 PY (fun ee rq re sk => br_t rfl (br_t (nI_lt (a := 0) (by omega) (by omega)) (nm_r (show _ = nI r by rw [li_d1 (by omega)]; rfl) (nm_e ?_))))
        refine hW _ (fun ee rq re sk => ?_) ee rq re sk
        have := h ee rq re sk
        exact nm_r (nI_1 sp) this
      rcases hrel with hrel | hrel
      · have go := ih (sp + 1) f1 u' v0 (by omega) (by omega) hrel HY3
        have h0 := rt_run_x hrel
        clear hW HY3 hrel hx hy HY2
        obtain ⟨f_depthLimit, f_state, f_trapCode, f_begun, f_tokenTotal, f_printedTotal, f_stackSize, f_bodyCount, f_declaredTwice, f_liveDepth, f_position, a_tokenKind, a_tokenValue, a_printed, a_stack, a_bodyParent, a_bodyStart, a_declCount, a_paramCount, a_paramName, a_declKind, a_declTarget, a_tokenBody, a_branchTarget, a_liveBody, a_liveParent, a_returnTo, a_slotValue, a_slotHome, a_waitingOp, a_waitingLeft, a_leftKnown, a_argKind, a_argValue, a_argHome⟩ := u'
        refine br_t h0 ?_
        unfold wX_run_57
        refine go _ (fun u1 h1 => ?_)
        obtain ⟨f_depthLimit, f_state, f_trapCode, f_begun, f_tokenTotal, f_printedTotal, f_stackSize, f_bodyCount, f_declaredTwice, f_liveDepth, f_position, a_tokenKind, a_tokenValue, a_printed, a_stack, a_bodyParent, a_bodyStart, a_declCount, a_paramCount, a_paramName, a_declKind, a_declTarget, a_tokenBody, a_branchTarget, a_liveBody, a_liveParent, a_returnTo, a_slotValue, a_slotHome, a_waitingOp, a_waitingLeft, a_leftKnown, a_argKind, a_argValue, a_argHome⟩ := u1
        exact nm_r (nI_1 sp) h1
      · clear hx hy hW HY2 hC hR hP HY
        obtain ⟨f_depthLimit, f_state, f_trapCode, f_begun, f_tokenTotal, f_printedTotal, f_stackSize, f_bodyCount, f_declaredTwice, f_liveDepth, f_position, a_tokenKind, a_tokenValue, a_printed, a_stack, a_bodyParent, a_bodyStart, a_declCount, a_paramCount, a_paramName, a_declKind, a_declTarget, a_tokenBody, a_branchTarget, a_liveBody, a_liveParent, a_returnTo, a_slotValue, a_slotHome, a_waitingOp, a_waitingLeft, a_leftKnown, a_argKind, a_argValue, a_argHome⟩ := u'
        obtain ⟨g_n, g_limit, g_status, g_trapCode, g_exec, g_top, g_outN, g_pc, g_evEnd, g_rq, g_re, b_kind, b_val, b_bod, b_par, b_lnk, b_st, b_si, b_stk, b_out, b_abody, b_apar, b_aret, b_avar, b_apq, b_ape, b_tk, b_tv, b_tq, b_te⟩ := v0
        obtain ⟨rfl, rfl, rfl, rfl, htc, rfl, rfl, rfl, rfl, rfl, rfl, rfl, hT', hS', hM', on', top2, hon', ht', rfl, rfl, rfl, rfl⟩ := hrel
        refine br_f htc ?_
        unfold wX_run_57 wpX_settle
        obtain ⟨f2, rfl⟩ : ∃ f2, f1 = f2 + 1 := ⟨f1 - 1, by omega⟩
        have fin : G (fun r' v' => r' = 3 ∧ RR (nI lim, 3, g_trapCode, g_exec, nI n, nI on', f_stackSize, f_bodyCount, f_declaredTwice, nI top2, f_position, b_kind, b_val, b_out, a_stack, a_bodyParent, a_bodyStart, a_declCount, a_paramCount, a_paramName, a_declKind, a_declTarget, a_tokenBody, a_branchTarget, a_liveBody, a_liveParent, a_returnTo, a_slotValue, a_slotHome, a_waitingOp, a_waitingLeft, a_leftKnown, a_argKind, a_argValue, a_argHome) v') := by
          refine HY3 _ (fun ee rq re sk => br_f (nI_nlt (a := 256) (by omega) (by decide)) (br_f (by decide) (br_f (by decide) ⟨rfl, hRR _ _ (.inr ?_)⟩)))
          exact ⟨rfl, rfl, .inr ⟨rfl, rfl, rfl, rfl⟩, rfl, rfl, rfl, rfl, rfl, rfl, hT', hS', hM', on', hon', rfl, rfl⟩
        exact ⟨1, br_f (by decide) (br_f (by decide) (nm_r (nI_1 sp) (br_c (fun _ => fin) (fun _ => br_f (by decide) fin))))⟩
    · have fin : G (fun r' v' => r' = 2 ∧ RR (nI lim, 2, 0, g_exec, nI n, nI on, f_stackSize, f_bodyCount, f_declaredTwice, nI 0, nI pc', b_kind, b_val, b_out, a_stack, a_bodyParent, a_bodyStart, a_declCount, a_paramCount, a_paramName, a_declKind, a_declTarget, a_tokenBody, a_branchTarget, a_liveBody, a_liveParent, a_returnTo, a_slotValue, a_slotHome, a_waitingOp, a_waitingLeft, a_leftKnown, a_argKind, a_argValue, a_argHome) v') := by
        refine HY2 _ (fun ee rq re sk => br_f (by decide) ⟨rfl, hRR _ _ (.inr ?_)⟩)
        exact ⟨rfl, rfl, .inl ⟨rfl, rfl, rfl, rfl⟩, rfl, rfl, rfl, rfl, rfl, rfl, hT, hS, rt_MV_of hR, on, hon, rfl, rfl⟩
      obtain ⟨f1, rfl⟩ : ∃ f1, fx = f1 + 1 := ⟨fx - 1, by omega⟩
      exact br_c (fun _ => fin) (fun _ => br_f (by decide) fin)
