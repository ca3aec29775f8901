variable {f_depthLimit f_state f_trapCode f_begun f_tokenTotal f_printedTotal f_stackSize f_bodyCount f_declaredTwice f_liveDepth f_position : Int32} {a_tokenKind a_tokenValue a_printed a_stack a_bodyParent a_bodyStart a_declCount a_paramCount a_paramName a_declKind a_declTarget a_tokenBody a_branchTarget a_liveBody a_liveParent a_returnTo a_slotValue a_slotHome a_waitingOp a_waitingLeft a_leftKnown a_argKind a_argValue a_argHome : Nat → Int32}
variable {g_n g_limit g_status g_trapCode g_exec g_top g_outN g_pc g_evEnd g_rq g_re : Int32} {b_kind b_val b_bod b_par b_lnk b_st b_si b_stk b_out b_abody b_apar b_aret b_avar b_apq b_ape b_tk b_tv b_tq b_te : Nat → Int32}
/-- the two states agree -/
def i_Rel (_ : Nat) (u : SX) (v : SY) : Prop := ∃ (K V : Nat → Nat) (n lim : Nat), 1 ≤ lim ∧ lim ≤ 16 ∧ (rt_edt K V n lim u v ∨ rt_run K V n lim u v ∨ rt_end K V n lim u v)
theorem i_up {k : Nat} {u : SX} {v : SY} (h : i_Rel k u v) : i_Rel (k + 3) u v := h
theorem ow_0 {lim : Nat} (h1 : 1 ≤ lim) (h2 : lim ≤ 16) : i_Rel 1 (nI lim, 0, 0, 0, 0, 0, 0, 0, 0, 0, 0, (fun _ => 0), (fun _ => 0), (fun _ => 0), (fun _ => 0), (fun _ => 0), (fun _ => 0), (fun _ => 0), (fun _ => 0), (fun _ => 0), (fun _ => 0), (fun _ => 0), (fun _ => 0), (fun _ => 0), (fun _ => 0), (fun _ => 0), (fun _ => 0), (fun _ => 0), (fun _ => 0), (fun _ => 0), (fun _ => 0), (fun _ => 0), (fun _ => 0), (fun _ => 0), (fun _ => 0)) (0, nI lim, 0, 0, 0, 0, 0, 0, 0, 0, 0, (fun _ => 0), (fun _ => 0), (fun _ => 0), (fun _ => 0), (fun _ => 0), (fun _ => 0), (fun _ => 0), (fun _ => 0), (fun _ => 0), (fun _ => 0), (fun _ => 0), (fun _ => 0), (fun _ => 0), (fun _ => 0), (fun _ => 0), (fun _ => 0), (fun _ => 0), (fun _ => 0), (fun _ => 0)) :=
  ⟨fun _ => 0, fun _ => 0, 0, lim, h1, h2, .inl ⟨rfl, rfl, rfl, rfl, rfl, rfl, rfl, rfl, rfl, rfl, rfl, rfl, ⟨by omega, fun i hi => by omega, fun i hi => by omega⟩, 0, by omega, rfl, rfl⟩⟩
theorem i_vc0 (k0 : Int32) : wpX_init (fun u => wpY_init (fun v => i_Rel 1 u v) k0) k0 := by
  unfold wpX_init wpX_clamp
  by_cases h1 : 1 ≤ k0
  · by_cases h2 : k0 ≤ 16
    · obtain ⟨lim, hl, rfl⟩ := nI_of2 (x := k0) (M := 16) (n := 16) (by decide) (Int32.not_lt.mpr (Int32.le_trans (by decide) h1)) h2
      have hl1 : 1 ≤ lim := by
        by_cases e : lim = 0
        · subst e; exact absurd h1 (by decide)
        · omega
      exact br_t h1 (br_t h2 (br_t h1 (br_t h2 (ow_0 hl1 hl))))
    · exact br_t h1 (br_f h2 (br_t h1 (br_f h2 (ow_0 (lim := 16) (by omega) (by omega)))))
  · exact br_f h1 (br_f h1 (ow_0 (lim := 1) (by omega) (by omega)))
theorem i_vc_tokenCount {k : Nat} {u : SX} {v : SY} (I : i_Rel k u v) (hk : k + 3 ≤ 1537) : wpX_tokenCount (fun r => wpY_tokenCount (fun r' => r' = r ∧ i_Rel (k + 3) u v) v) u := by
  have J := I
  obtain ⟨f_depthLimit, f_state, f_trapCode, f_begun, f_tokenTotal, f_printedTotal, f_stackSize, f_bodyCount, f_declaredTwice, f_liveDepth, f_position, a_tokenKind, a_tokenValue, a_printed, a_stack, a_bodyParent, a_bodyStart, a_declCount, a_paramCount, a_paramName, a_declKind, a_declTarget, a_tokenBody, a_branchTarget, a_liveBody, a_liveParent, a_returnTo, a_slotValue, a_slotHome, a_waitingOp, a_waitingLeft, a_leftKnown, a_argKind, a_argValue, a_argHome⟩ := u
  obtain ⟨g_n, g_limit, g_status, g_trapCode, g_exec, g_top, g_outN, g_pc, g_evEnd, g_rq, g_re, b_kind, b_val, b_bod, b_par, b_lnk, b_st, b_si, b_stk, b_out, b_abody, b_apar, b_aret, b_avar, b_apq, b_ape, b_tk, b_tv, b_tq, b_te⟩ := v
  obtain ⟨K, V, n, lim, hl1, hl2, h | h | h⟩ := I
  · obtain ⟨rfl, rfl, rfl, rfl, rfl, rfl, rfl, rfl, rfl, rfl, rfl, rfl, hT, on, hon, rfl, rfl⟩ := h; exact ⟨rfl, J⟩
  · obtain ⟨rfl, rfl, rfl, rfl, rfl, rfl, rfl, rfl, rfl, rfl, rfl, rfl, hT, hS, on, top, pc, ab, ap, rt, hon, rfl, rfl, rfl, rfl, rfl, rfl, hP, hR⟩ := h; exact ⟨rfl, J⟩
  · obtain ⟨rfl, rfl, hst, rfl, rfl, rfl, rfl, rfl, rfl, hT, hS, hM, on, hon, rfl, rfl⟩ := h; exact ⟨rfl, J⟩
theorem i_vc_status {k : Nat} {u : SX} {v : SY} (I : i_Rel k u v) (hk : k + 3 ≤ 1537) : wpX_status (fun r => wpY_status (fun r' => r' = r ∧ i_Rel (k + 3) u v) v) u := by
  have J := I
  obtain ⟨f_depthLimit, f_state, f_trapCode, f_begun, f_tokenTotal, f_printedTotal, f_stackSize, f_bodyCount, f_declaredTwice, f_liveDepth, f_position, a_tokenKind, a_tokenValue, a_printed, a_stack, a_bodyParent, a_bodyStart, a_declCount, a_paramCount, a_paramName, a_declKind, a_declTarget, a_tokenBody, a_branchTarget, a_liveBody, a_liveParent, a_returnTo, a_slotValue, a_slotHome, a_waitingOp, a_waitingLeft, a_leftKnown, a_argKind, a_argValue, a_argHome⟩ := u
  obtain ⟨g_n, g_limit, g_status, g_trapCode, g_exec, g_top, g_outN, g_pc, g_evEnd, g_rq, g_re, b_kind, b_val, b_bod, b_par, b_lnk, b_st, b_si, b_stk, b_out, b_abody, b_apar, b_aret, b_avar, b_apq, b_ape, b_tk, b_tv, b_tq, b_te⟩ := v
  obtain ⟨K, V, n, lim, hl1, hl2, h | h | h⟩ := I
  · obtain ⟨rfl, rfl, rfl, rfl, rfl, rfl, rfl, rfl, rfl, rfl, rfl, rfl, hT, on, hon, rfl, rfl⟩ := h; exact ⟨rfl, J⟩
  · obtain ⟨rfl, rfl, rfl, rfl, rfl, rfl, rfl, rfl, rfl, rfl, rfl, rfl, hT, hS, on, top, pc, ab, ap, rt, hon, rfl, rfl, rfl, rfl, rfl, rfl, hP, hR⟩ := h; exact ⟨rfl, J⟩
  · obtain ⟨rfl, rfl, hst, rfl, rfl, rfl, rfl, rfl, rfl, hT, hS, hM, on, hon, rfl, rfl⟩ := h
    rcases hst with ⟨rfl, rfl, rfl, rfl⟩ | ⟨rfl, rfl, rfl, rfl⟩
    · exact ⟨rfl, J⟩
    · exact ⟨rfl, J⟩
theorem i_vc_trap {k : Nat} {u : SX} {v : SY} (I : i_Rel k u v) (hk : k + 3 ≤ 1537) : wpX_trap (fun r => wpY_trap (fun r' => r' = r ∧ i_Rel (k + 3) u v) v) u := by
  have J := I
  obtain ⟨f_depthLimit, f_state, f_trapCode, f_begun, f_tokenTotal, f_printedTotal, f_stackSize, f_bodyCount, f_declaredTwice, f_liveDepth, f_position, a_tokenKind, a_tokenValue, a_printed, a_stack, a_bodyParent, a_bodyStart, a_declCount, a_paramCount, a_paramName, a_declKind, a_declTarget, a_tokenBody, a_branchTarget, a_liveBody, a_liveParent, a_returnTo, a_slotValue, a_slotHome, a_waitingOp, a_waitingLeft, a_leftKnown, a_argKind, a_argValue, a_argHome⟩ := u
  obtain ⟨g_n, g_limit, g_status, g_trapCode, g_exec, g_top, g_outN, g_pc, g_evEnd, g_rq, g_re, b_kind, b_val, b_bod, b_par, b_lnk, b_st, b_si, b_stk, b_out, b_abody, b_apar, b_aret, b_avar, b_apq, b_ape, b_tk, b_tv, b_tq, b_te⟩ := v
  obtain ⟨K, V, n, lim, hl1, hl2, h | h | h⟩ := I
  · obtain ⟨rfl, rfl, rfl, rfl, rfl, rfl, rfl, rfl, rfl, rfl, rfl, rfl, hT, on, hon, rfl, rfl⟩ := h; exact br_f (by decide) ⟨rfl, J⟩
  · obtain ⟨rfl, rfl, rfl, rfl, rfl, rfl, rfl, rfl, rfl, rfl, rfl, rfl, hT, hS, on, top, pc, ab, ap, rt, hon, rfl, rfl, rfl, rfl, rfl, rfl, hP, hR⟩ := h; exact br_f (by decide) ⟨rfl, J⟩
  · obtain ⟨rfl, rfl, hst, rfl, rfl, rfl, rfl, rfl, rfl, hT, hS, hM, on, hon, rfl, rfl⟩ := h
    rcases hst with ⟨rfl, rfl, rfl, rfl⟩ | ⟨rfl, rfl, rfl, rfl⟩
    · exact br_f (by decide) ⟨rfl, J⟩
    · exact br_t rfl ⟨rfl, J⟩
theorem i_vc_executed {k : Nat} {u : SX} {v : SY} (I : i_Rel k u v) (hk : k + 3 ≤ 1537) : wpX_executed (fun r => wpY_executed (fun r' => r' = r ∧ i_Rel (k + 3) u v) v) u := by
  have J := I
  obtain ⟨f_depthLimit, f_state, f_trapCode, f_begun, f_tokenTotal, f_printedTotal, f_stackSize, f_bodyCount, f_declaredTwice, f_liveDepth, f_position, a_tokenKind, a_tokenValue, a_printed, a_stack, a_bodyParent, a_bodyStart, a_declCount, a_paramCount, a_paramName, a_declKind, a_declTarget, a_tokenBody, a_branchTarget, a_liveBody, a_liveParent, a_returnTo, a_slotValue, a_slotHome, a_waitingOp, a_waitingLeft, a_leftKnown, a_argKind, a_argValue, a_argHome⟩ := u
  obtain ⟨g_n, g_limit, g_status, g_trapCode, g_exec, g_top, g_outN, g_pc, g_evEnd, g_rq, g_re, b_kind, b_val, b_bod, b_par, b_lnk, b_st, b_si, b_stk, b_out, b_abody, b_apar, b_aret, b_avar, b_apq, b_ape, b_tk, b_tv, b_tq, b_te⟩ := v
  obtain ⟨K, V, n, lim, hl1, hl2, h | h | h⟩ := I
  · obtain ⟨rfl, rfl, rfl, rfl, rfl, rfl, rfl, rfl, rfl, rfl, rfl, rfl, hT, on, hon, rfl, rfl⟩ := h; exact ⟨rfl, J⟩
  · obtain ⟨rfl, rfl, rfl, rfl, rfl, rfl, rfl, rfl, rfl, rfl, rfl, rfl, hT, hS, on, top, pc, ab, ap, rt, hon, rfl, rfl, rfl, rfl, rfl, rfl, hP, hR⟩ := h; exact ⟨rfl, J⟩
  · obtain ⟨rfl, rfl, hst, rfl, rfl, rfl, rfl, rfl, rfl, hT, hS, hM, on, hon, rfl, rfl⟩ := h; exact ⟨rfl, J⟩
theorem i_vc_depth {k : Nat} {u : SX} {v : SY} (I : i_Rel k u v) (hk : k + 3 ≤ 1537) : wpX_depth (fun r => wpY_depth (fun r' => r' = r ∧ i_Rel (k + 3) u v) v) u := by
  have J := I
  obtain ⟨f_depthLimit, f_state, f_trapCode, f_begun, f_tokenTotal, f_printedTotal, f_stackSize, f_bodyCount, f_declaredTwice, f_liveDepth, f_position, a_tokenKind, a_tokenValue, a_printed, a_stack, a_bodyParent, a_bodyStart, a_declCount, a_paramCount, a_paramName, a_declKind, a_declTarget, a_tokenBody, a_branchTarget, a_liveBody, a_liveParent, a_returnTo, a_slotValue, a_slotHome, a_waitingOp, a_waitingLeft, a_leftKnown, a_argKind, a_argValue, a_argHome⟩ := u
  obtain ⟨g_n, g_limit, g_status, g_trapCode, g_exec, g_top, g_outN, g_pc, g_evEnd, g_rq, g_re, b_kind, b_val, b_bod, b_par, b_lnk, b_st, b_si, b_stk, b_out, b_abody, b_apar, b_aret, b_avar, b_apq, b_ape, b_tk, b_tv, b_tq, b_te⟩ := v
  obtain ⟨K, V, n, lim, hl1, hl2, h | h | h⟩ := I
  · obtain ⟨rfl, rfl, rfl, rfl, rfl, rfl, rfl, rfl, rfl, rfl, rfl, rfl, hT, on, hon, rfl, rfl⟩ := h; exact br_t rfl ⟨rfl, J⟩
  · obtain ⟨rfl, rfl, rfl, rfl, rfl, rfl, rfl, rfl, rfl, rfl, rfl, rfl, hT, hS, on, top, pc, ab, ap, rt, hon, rfl, rfl, rfl, rfl, rfl, rfl, hP, hR⟩ := h; exact br_f (by decide) (br_f (by decide) ⟨rfl, J⟩)
  · obtain ⟨rfl, rfl, hst, rfl, rfl, rfl, rfl, rfl, rfl, hT, hS, hM, on, hon, rfl, rfl⟩ := h
    rcases hst with ⟨rfl, rfl, rfl, rfl⟩ | ⟨rfl, rfl, rfl, rfl⟩
    · exact br_f (by decide) (br_t rfl ⟨rfl, J⟩)
    · exact br_f (by decide) (br_f (by decide) ⟨rfl, J⟩)
theorem i_vc_outputCount {k : Nat} {u : SX} {v : SY} (I : i_Rel k u v) (hk : k + 3 ≤ 1537) : wpX_outputCount (fun r => wpY_outputCount (fun r' => r' = r ∧ i_Rel (k + 3) u v) v) u := by
  have J := I
  obtain ⟨f_depthLimit, f_state, f_trapCode, f_begun, f_tokenTotal, f_printedTotal, f_stackSize, f_bodyCount, f_declaredTwice, f_liveDepth, f_position, a_tokenKind, a_tokenValue, a_printed, a_stack, a_bodyParent, a_bodyStart, a_declCount, a_paramCount, a_paramName, a_declKind, a_declTarget, a_tokenBody, a_branchTarget, a_liveBody, a_liveParent, a_returnTo, a_slotValue, a_slotHome, a_waitingOp, a_waitingLeft, a_leftKnown, a_argKind, a_argValue, a_argHome⟩ := u
  obtain ⟨g_n, g_limit, g_status, g_trapCode, g_exec, g_top, g_outN, g_pc, g_evEnd, g_rq, g_re, b_kind, b_val, b_bod, b_par, b_lnk, b_st, b_si, b_stk, b_out, b_abody, b_apar, b_aret, b_avar, b_apq, b_ape, b_tk, b_tv, b_tq, b_te⟩ := v
  obtain ⟨K, V, n, lim, hl1, hl2, h | h | h⟩ := I
  · obtain ⟨rfl, rfl, rfl, rfl, rfl, rfl, rfl, rfl, rfl, rfl, rfl, rfl, hT, on, hon, rfl, rfl⟩ := h; exact ⟨rfl, J⟩
  · obtain ⟨rfl, rfl, rfl, rfl, rfl, rfl, rfl, rfl, rfl, rfl, rfl, rfl, hT, hS, on, top, pc, ab, ap, rt, hon, rfl, rfl, rfl, rfl, rfl, rfl, hP, hR⟩ := h; exact ⟨rfl, J⟩
  · obtain ⟨rfl, rfl, hst, rfl, rfl, rfl, rfl, rfl, rfl, hT, hS, hM, on, hon, rfl, rfl⟩ := h; exact ⟨rfl, J⟩
theorem ow_out {P : Prop} {on : Nat} {v1 : Int32} {pr : Nat → Int32} (hon : on ≤ 32) (J : P) :
    (v1 < 0 → (v1 < 0 → (0 : Int32) = 0 ∧ P) ∧ (¬ v1 < 0 → (nI on ≤ v1 → (0 : Int32) = 0 ∧ P) ∧ (¬ nI on ≤ v1 → (32 ≤ v1 → (0 : Int32) = 0 ∧ P) ∧ (¬ 32 ≤ v1 → vp_in v1 32 ∧ pr v1.toNatClampNeg = 0 ∧ P)))) ∧
    (¬ v1 < 0 → (nI on ≤ v1 → (v1 < 0 → (0 : Int32) = 0 ∧ P) ∧ (¬ v1 < 0 → (nI on ≤ v1 → (0 : Int32) = 0 ∧ P) ∧ (¬ nI on ≤ v1 → (32 ≤ v1 → (0 : Int32) = 0 ∧ P) ∧ (¬ 32 ≤ v1 → vp_in v1 32 ∧ pr v1.toNatClampNeg = 0 ∧ P)))) ∧
      (¬ nI on ≤ v1 → vp_in v1 32 ∧ ((v1 < 0 → 0 = pr v1.toNatClampNeg ∧ P) ∧ (¬ v1 < 0 → (nI on ≤ v1 → 0 = pr v1.toNatClampNeg ∧ P) ∧ (¬ nI on ≤ v1 → (32 ≤ v1 → 0 = pr v1.toNatClampNeg ∧ P) ∧ (¬ 32 ≤ v1 → vp_in v1 32 ∧ pr v1.toNatClampNeg = pr v1.toNatClampNeg ∧ P)))))) := by
  by_cases h0 : v1 < 0
  · exact br_t h0 (br_t h0 ⟨rfl, J⟩)
  · refine br_f h0 ?_
    by_cases h1 : nI on ≤ v1
    · exact br_t h1 (br_f h0 (br_t h1 ⟨rfl, J⟩))
    · obtain ⟨j, hj, rfl⟩ := nI_of h0
      rw [nI_leI (by omega) hj] at h1
      have hin : vp_in (nI j) 32 := vp_in_nI (by omega) (by decide)
      exact br_f (by rw [nI_leI (by omega) hj]; exact h1) ⟨hin, br_f h0 (br_f (by rw [nI_leI (by omega) hj]; exact h1) (br_f (nI_ge (b := 32) (by omega) (by decide)) ⟨hin, rfl, J⟩))⟩
theorem i_vc_output {k : Nat} {u : SX} {v : SY} (I : i_Rel k u v) (hk : k + 3 ≤ 1537) (v1 : Int32) : wpX_output (fun r => wpY_output (fun r' => r' = r ∧ i_Rel (k + 3) u v) v v1) u v1 := by
  have J := I
  obtain ⟨f_depthLimit, f_state, f_trapCode, f_begun, f_tokenTotal, f_printedTotal, f_stackSize, f_bodyCount, f_declaredTwice, f_liveDepth, f_position, a_tokenKind, a_tokenValue, a_printed, a_stack, a_bodyParent, a_bodyStart, a_declCount, a_paramCount, a_paramName, a_declKind, a_declTarget, a_tokenBody, a_branchTarget, a_liveBody, a_liveParent, a_returnTo, a_slotValue, a_slotHome, a_waitingOp, a_waitingLeft, a_leftKnown, a_argKind, a_argValue, a_argHome⟩ := u
  obtain ⟨g_n, g_limit, g_status, g_trapCode, g_exec, g_top, g_outN, g_pc, g_evEnd, g_rq, g_re, b_kind, b_val, b_bod, b_par, b_lnk, b_st, b_si, b_stk, b_out, b_abody, b_apar, b_aret, b_avar, b_apq, b_ape, b_tk, b_tv, b_tq, b_te⟩ := v
  obtain ⟨K, V, n, lim, hl1, hl2, h | h | h⟩ := I
  · obtain ⟨rfl, rfl, rfl, rfl, rfl, rfl, rfl, rfl, rfl, rfl, rfl, rfl, hT, on, hon, rfl, rfl⟩ := h; exact ow_out hon J
  · obtain ⟨rfl, rfl, rfl, rfl, rfl, rfl, rfl, rfl, rfl, rfl, rfl, rfl, hT, hS, on, top, pc, ab, ap, rt, hon, rfl, rfl, rfl, rfl, rfl, rfl, hP, hR⟩ := h; exact ow_out hon J
  · obtain ⟨rfl, rfl, hst, rfl, rfl, rfl, rfl, rfl, rfl, hT, hS, hM, on, hon, rfl, rfl⟩ := h; exact ow_out hon J
theorem i_vc_reset {k : Nat} {u : SX} {v : SY} (I : i_Rel k u v) (hk : k + 3 ≤ 1537) : wpX_reset (fun u' => wpY_reset (fun v' => i_Rel (k + 3) u' v') v) u := by
  obtain ⟨f_depthLimit, f_state, f_trapCode, f_begun, f_tokenTotal, f_printedTotal, f_stackSize, f_bodyCount, f_declaredTwice, f_liveDepth, f_position, a_tokenKind, a_tokenValue, a_printed, a_stack, a_bodyParent, a_bodyStart, a_declCount, a_paramCount, a_paramName, a_declKind, a_declTarget, a_tokenBody, a_branchTarget, a_liveBody, a_liveParent, a_returnTo, a_slotValue, a_slotHome, a_waitingOp, a_waitingLeft, a_leftKnown, a_argKind, a_argValue, a_argHome⟩ := u
  obtain ⟨g_n, g_limit, g_status, g_trapCode, g_exec, g_top, g_outN, g_pc, g_evEnd, g_rq, g_re, b_kind, b_val, b_bod, b_par, b_lnk, b_st, b_si, b_stk, b_out, b_abody, b_apar, b_aret, b_avar, b_apq, b_ape, b_tk, b_tv, b_tq, b_te⟩ := v
  obtain ⟨K, V, n, lim, hl1, hl2, h⟩ := I
  have c : f_depthLimit = nI lim ∧ g_limit = nI lim ∧ b_kind = a_tokenKind ∧ b_val = a_tokenValue ∧ b_out = a_printed := by
    rcases h with h | h | h
    · obtain ⟨rfl, rfl, rfl, rfl, rfl, rfl, rfl, rfl, rfl, rfl, rfl, rfl, hT, on, hon, rfl, rfl⟩ := h; exact ⟨rfl, rfl, rfl, rfl, rfl⟩
    · obtain ⟨rfl, rfl, rfl, rfl, rfl, rfl, rfl, rfl, rfl, rfl, rfl, rfl, hT, hS, on, top, pc, ab, ap, rt, hon, rfl, rfl, rfl, rfl, rfl, rfl, hP, hR⟩ := h; exact ⟨rfl, rfl, rfl, rfl, rfl⟩
    · obtain ⟨rfl, rfl, hst, rfl, rfl, rfl, rfl, rfl, rfl, hT, hS, hM, on, hon, rfl, rfl⟩ := h; exact ⟨rfl, rfl, rfl, rfl, rfl⟩
  obtain ⟨rfl, rfl, rfl, rfl, rfl⟩ := c
  exact ⟨fun _ => 0, fun _ => 0, 0, lim, hl1, hl2, .inl ⟨rfl, rfl, rfl, rfl, rfl, rfl, rfl, rfl, rfl, rfl, rfl, rfl, ⟨by omega, fun i hi => by omega, fun i hi => by omega⟩, 0, by omega, rfl, rfl⟩⟩
theorem i_vc_run {k : Nat} {u : SX} {v : SY} (I : i_Rel k u v) (hk : k + 3 ≤ 1537) (v1 : Int32) : wpX_run (fun r u' => wpY_run (fun r' v' => r' = r ∧ i_Rel (k + 3) u' v') v v1) u v1 := by
  have J := I
  obtain ⟨K, V, n, lim, hl1, hl2, h | h | h⟩ := I
  · obtain ⟨f_depthLimit, f_state, f_trapCode, f_begun, f_tokenTotal, f_printedTotal, f_stackSize, f_bodyCount, f_declaredTwice, f_liveDepth, f_position, a_tokenKind, a_tokenValue, a_printed, a_stack, a_bodyParent, a_bodyStart, a_declCount, a_paramCount, a_paramName, a_declKind, a_declTarget, a_tokenBody, a_branchTarget, a_liveBody, a_liveParent, a_returnTo, a_slotValue, a_slotHome, a_waitingOp, a_waitingLeft, a_leftKnown, a_argKind, a_argValue, a_argHome⟩ := u
    obtain ⟨g_n, g_limit, g_status, g_trapCode, g_exec, g_top, g_outN, g_pc, g_evEnd, g_rq, g_re, b_kind, b_val, b_bod, b_par, b_lnk, b_st, b_si, b_stk, b_out, b_abody, b_apar, b_aret, b_avar, b_apq, b_ape, b_tk, b_tv, b_tq, b_te⟩ := v
    obtain ⟨rfl, rfl, rfl, rfl, rfl, rfl, rfl, rfl, rfl, rfl, rfl, rfl, hT, on, hon, rfl, rfl⟩ := h
    exact br_f (by decide) (br_f (by decide) ⟨rfl, J⟩)
  · have go : ∀ F : Nat, F ≤ 256 → (∀ PY : Int32 → SY → Prop, (∃ n39, rt_c39 PY n39 (nI F) 0 v) → wpY_run PY v v1) → wpX_settle (fun u => match u with | (f_depthLimit, f_state, f_trapCode, f_begun, f_tokenTotal, f_printedTotal, f_stackSize, f_bodyCount, f_declaredTwice, f_liveDepth, f_position, a_tokenKind, a_tokenValue, a_printed, a_stack, a_bodyParent, a_bodyStart, a_declCount, a_paramCount, a_paramName, a_declKind, a_declTarget, a_tokenBody, a_branchTarget, a_liveBody, a_liveParent, a_returnTo, a_slotValue, a_slotHome, a_waitingOp, a_waitingLeft, a_leftKnown, a_argKind, a_argValue, a_argHome) => ∃ n28, wX_run_28 (fun r u' => wpY_run (fun r' v' => r' = r ∧ i_Rel (k + 3) u' v') v v1) (nI F) n28 0 f_depthLimit f_state f_trapCode f_begun f_tokenTotal f_printedTotal f_stackSize f_bodyCount f_declaredTwice f_liveDepth f_position a_tokenKind a_tokenValue a_printed a_stack a_bodyParent a_bodyStart a_declCount a_paramCount a_paramName a_declKind a_declTarget a_tokenBody a_branchTarget a_liveBody a_liveParent a_returnTo a_slotValue a_slotHome a_waitingOp a_waitingLeft a_leftKnown a_argKind a_argValue a_argHome) u := by
      intro F hF hG
      refine rt_A hF hl1 hl2 (G := fun PY => wpY_run PY v v1) (RR := fun u' v' => i_Rel (k + 3) u' v') (fun u' v' h' => ⟨K, V, n, lim, hl1, hl2, .inr h'⟩) F 0 (F + 1) u v (by omega) (by omega) h (fun PY hP => hG PY ⟨F + 1, ?_⟩) _ (fun u1 h1 => ?_)
      · obtain ⟨g_n, g_limit, g_status, g_trapCode, g_exec, g_top, g_outN, g_pc, g_evEnd, g_rq, g_re, b_kind, b_val, b_bod, b_par, b_lnk, b_st, b_si, b_stk, b_out, b_abody, b_apar, b_aret, b_avar, b_apq, b_ape, b_tk, b_tv, b_tq, b_te⟩ := v
        exact hP g_evEnd g_rq g_re b_stk
      · obtain ⟨f_depthLimit, f_state, f_trapCode, f_begun, f_tokenTotal, f_printedTotal, f_stackSize, f_bodyCount, f_declaredTwice, f_liveDepth, f_position, a_tokenKind, a_tokenValue, a_printed, a_stack, a_bodyParent, a_bodyStart, a_declCount, a_paramCount, a_paramName, a_declKind, a_declTarget, a_tokenBody, a_branchTarget, a_liveBody, a_liveParent, a_returnTo, a_slotValue, a_slotHome, a_waitingOp, a_waitingLeft, a_leftKnown, a_argKind, a_argValue, a_argHome⟩ := u1
        exact ⟨F + 1, h1⟩
    obtain ⟨f_depthLimit, f_state, f_trapCode, f_begun, f_tokenTotal, f_printedTotal, f_stackSize, f_bodyCount, f_declaredTwice, f_liveDepth, f_position, a_tokenKind, a_tokenValue, a_printed, a_stack, a_bodyParent, a_bodyStart, a_declCount, a_paramCount, a_paramName, a_declKind, a_declTarget, a_tokenBody, a_branchTarget, a_liveBody, a_liveParent, a_returnTo, a_slotValue, a_slotHome, a_waitingOp, a_waitingLeft, a_leftKnown, a_argKind, a_argValue, a_argHome⟩ := u
    obtain ⟨g_n, g_limit, g_status, g_trapCode, g_exec, g_top, g_outN, g_pc, g_evEnd, g_rq, g_re, b_kind, b_val, b_bod, b_par, b_lnk, b_st, b_si, b_stk, b_out, b_abody, b_apar, b_aret, b_avar, b_apq, b_ape, b_tk, b_tv, b_tq, b_te⟩ := v
    obtain ⟨rfl, rfl, rfl, rfl, rfl, rfl, rfl, rfl, rfl, rfl, rfl, rfl, hT, hS, on, top, pc, ab, ap, rt, hon, rfl, rfl, rfl, rfl, rfl, rfl, hP, hR⟩ := h
    refine br_t rfl ?_
    unfold wpX_clamp
    by_cases h1 : 1 ≤ v1
    · by_cases h2 : v1 ≤ 256
      · obtain ⟨F, hF, rfl⟩ := nI_of2 (x := v1) (M := 256) (n := 256) (by decide) (Int32.not_lt.mpr (Int32.le_trans (by decide) h1)) h2
        exact br_t h1 (br_t h2 (go F hF (fun PY h => br_t rfl (br_t h1 (br_t h2 h)))))
      · exact br_t h1 (br_f h2 (go 256 (Nat.le_refl _) (fun PY h => br_t rfl (br_t h1 (br_f h2 h)))))
    · exact br_f h1 (go 1 (by decide) (fun PY h => br_t rfl (br_f h1 h)))
  · obtain ⟨f_depthLimit, f_state, f_trapCode, f_begun, f_tokenTotal, f_printedTotal, f_stackSize, f_bodyCount, f_declaredTwice, f_liveDepth, f_position, a_tokenKind, a_tokenValue, a_printed, a_stack, a_bodyParent, a_bodyStart, a_declCount, a_paramCount, a_paramName, a_declKind, a_declTarget, a_tokenBody, a_branchTarget, a_liveBody, a_liveParent, a_returnTo, a_slotValue, a_slotHome, a_waitingOp, a_waitingLeft, a_leftKnown, a_argKind, a_argValue, a_argHome⟩ := u
    obtain ⟨g_n, g_limit, g_status, g_trapCode, g_exec, g_top, g_outN, g_pc, g_evEnd, g_rq, g_re, b_kind, b_val, b_bod, b_par, b_lnk, b_st, b_si, b_stk, b_out, b_abody, b_apar, b_aret, b_avar, b_apq, b_ape, b_tk, b_tv, b_tq, b_te⟩ := v
    obtain ⟨rfl, rfl, hst, rfl, rfl, rfl, rfl, rfl, rfl, hT, hS, hM, on, hon, rfl, rfl⟩ := h
    rcases hst with ⟨rfl, rfl, rfl, rfl⟩ | ⟨rfl, rfl, rfl, rfl⟩
    · exact br_f (by decide) (br_f (by decide) ⟨rfl, J⟩)
    · exact br_f (by decide) (br_f (by decide) ⟨rfl, J⟩)
