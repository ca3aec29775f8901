variable {f_depthLimit f_state f_trapCode f_begun f_tokenTotal f_printedTotal f_stackSize f_bodyCount f_declaredTwice f_liveDepth f_position : Int32} {a_tokenKind a_tokenValue a_printed a_stack a_bodyParent a_bodyStart a_declCount a_paramCount a_paramName a_declKind a_declTarget a_tokenBody a_branchTarget a_liveBody a_liveParent a_returnTo a_slotValue a_slotHome a_waitingOp a_waitingLeft a_leftKnown a_argKind a_argValue a_argHome : Nat → Int32}
theorem pt_noop {K V : Nat → Nat} {n lim : Nat} {kd vl : Nat → Int32} {A : pt_AS} {u : St2} {C : St2 → Prop} (h : pt_rel K V n lim kd vl A u) (h0 : pt_md A = 0) (hA : pt_ok K A) (hC : C u) : wpX_settle C u := by
  obtain ⟨f_depthLimit, f_state, f_trapCode, f_begun, f_tokenTotal, f_printedTotal, f_stackSize, f_bodyCount, f_declaredTwice, f_liveDepth, f_position, a_tokenKind, a_tokenValue, a_printed, a_stack, a_bodyParent, a_bodyStart, a_declCount, a_paramCount, a_paramName, a_declKind, a_declTarget, a_tokenBody, a_branchTarget, a_liveBody, a_liveParent, a_returnTo, a_slotValue, a_slotHome, a_waitingOp, a_waitingLeft, a_leftKnown, a_argKind, a_argValue, a_argHome⟩ := u
  obtain ⟨md, top, pc, on, ab, ap, rt, av, aq, ae, pr, ex, tc⟩ := A
  have hmd0 : md = 0 := h0
  subst hmd0
  obtain ⟨rfl, rfl, rfl, rfl, rfl, rfl, rfl, rfl, rfl, hon, ht16, hT, hS, hM, hmd⟩ := h
  rcases hmd with ⟨_, rfl, _, rfl, hP, hR⟩ | ⟨h, _⟩ | ⟨h, _⟩ | ⟨h, _⟩
  · rcases hA with ⟨_, c1, c2, c3⟩ | h | h
    · have hpn := hP.2.1
      have h256 := hT.1
      obtain ⟨k1, k2, k3⟩ := hT.2.1 pc hpn
      have c1 : K pc ≠ 2 := c1
      have c2 : K pc ≠ 16 := c2
      have c3 : K pc ≠ 17 := c3
      have nf : ∀ c, c ≤ 26 → K pc ≠ c → ¬ nI (K pc) = nI c := fun c hc h h2 => h ((nI_eq (by omega) (by omega)).mp h2)
      unfold wpX_settle
      refine ⟨1, br_f (by decide) (br_t rfl ⟨vp_in_nI (by omega) (by decide), ?_⟩)⟩
      rw [nI_clamp (by omega), k1]
      exact nm_e (br_f (nf 2 (by decide) c1) (br_f (nf 16 (by decide) c2) (br_f (nf 17 (by decide) c3) hC)))
    · exact absurd (show (0 : Nat) = 1 from h) (by decide)
    · exact absurd (show (0 : Nat) = 2 from h) (by decide)
  · exact absurd h (by decide)
  · exact absurd h (by decide)
  · exact absurd h (by decide)
/-- the fuel that a call gets -/
def pt_fu (v1 : Int32) (F : Nat) : Prop := 1 ≤ F ∧ F ≤ 256 ∧ ((1 ≤ v1 ∧ v1 ≤ 256 ∧ v1 = nI F) ∨ (¬ 1 ≤ v1 ∧ F = 1) ∨ (1 ≤ v1 ∧ ¬ v1 ≤ 256 ∧ F = 256))
theorem pt_fu_ex (v1 : Int32) : ∃ F, pt_fu v1 F := by
  by_cases h1 : 1 ≤ v1
  · by_cases h2 : v1 ≤ 256
    · obtain ⟨F, hF, rfl⟩ := nI_of2 (x := v1) (M := 256) (n := 256) (by decide) (Int32.not_lt.mpr (Int32.le_trans (by decide) h1)) h2
      refine ⟨F, ?_, hF, .inl ⟨h1, h2, rfl⟩⟩
      by_cases e : F = 0
      · subst e; exact absurd h1 (by decide)
      · omega
    · exact ⟨256, by omega, by omega, .inr (.inr ⟨h1, h2, rfl⟩)⟩
  · exact ⟨1, by omega, by omega, .inr (.inl ⟨h1, rfl⟩)⟩
theorem pt_runG {u : St2} {post : Int32 → St2 → Prop} {v1 : Int32} {F : Nat} (hF : pt_fu v1 F) (h1 : u.2.1 = 1) (h : wpX_settle (fun u => match u with | (f_depthLimit, f_state, f_trapCode, f_begun, f_tokenTotal, f_printedTotal, f_stackSize, f_bodyCount, f_declaredTwice, f_liveDepth, f_position, a_tokenKind, a_tokenValue, a_printed, a_stack, a_bodyParent, a_bodyStart, a_declCount, a_paramCount, a_paramName, a_declKind, a_declTarget, a_tokenBody, a_branchTarget, a_liveBody, a_liveParent, a_returnTo, a_slotValue, a_slotHome, a_waitingOp, a_waitingLeft, a_leftKnown, a_argKind, a_argValue, a_argHome) => ∃ n28, wX_run_28 post (nI F) n28 0 f_depthLimit f_state f_trapCode f_begun f_tokenTotal f_printedTotal f_stackSize f_bodyCount f_declaredTwice f_liveDepth f_position a_tokenKind a_tokenValue a_printed a_stack a_bodyParent a_bodyStart a_declCount a_paramCount a_paramName a_declKind a_declTarget a_tokenBody a_branchTarget a_liveBody a_liveParent a_returnTo a_slotValue a_slotHome a_waitingOp a_waitingLeft a_leftKnown a_argKind a_argValue a_argHome) u) : wpX_run post u v1 := by
  obtain ⟨f_depthLimit, f_state, f_trapCode, f_begun, f_tokenTotal, f_printedTotal, f_stackSize, f_bodyCount, f_declaredTwice, f_liveDepth, f_position, a_tokenKind, a_tokenValue, a_printed, a_stack, a_bodyParent, a_bodyStart, a_declCount, a_paramCount, a_paramName, a_declKind, a_declTarget, a_tokenBody, a_branchTarget, a_liveBody, a_liveParent, a_returnTo, a_slotValue, a_slotHome, a_waitingOp, a_waitingLeft, a_leftKnown, a_argKind, a_argValue, a_argHome⟩ := u
  obtain ⟨_, _, hF⟩ := hF
  refine br_t h1 ?_
  rcases hF with ⟨a, b, rfl⟩ | ⟨a, rfl⟩ | ⟨a, b, rfl⟩
  · exact br_t a (br_t b h)
  · exact br_f a h
  · exact br_t a (br_f b h)
/-- a run from a settled state -/
theorem pt_runs {K V : Nat → Nat} {n lim F k : Nat} {kd vl : Nat → Int32} {nx : pt_AS → pt_AS} (hnx : ∀ A, (pt_md A = 0 → pt_ok K A → pt_ms K V n lim kd vl A (nx A)) ∧ (pt_md A ≠ 0 → nx A = A)) {A : pt_AS} (hA : pt_ok K A) {post : Int32 → St2 → Prop} {u : St2} {v1 : Int32} (hF : pt_fu v1 F)
    (hrel : pt_rel K V n lim kd vl (pt_s nx A k) u) (hp : ∀ u', pt_rel K V n lim kd vl (pt_s nx A (k + F)) u' → post u'.2.1 u') : wpX_run post u v1 := by
  have hok := pt_s_ok hnx hA k
  have hst := pt_st hrel hok
  by_cases h : pt_md (pt_s nx A k) = 0
  · refine pt_runG hF (hst.mp h) (pt_noop hrel h hok ?_)
    have hc := pt_28 hF.2.1 hnx hA F k 0 (F + 1) u (by omega) (by omega) hrel hp
    obtain ⟨f_depthLimit, f_state, f_trapCode, f_begun, f_tokenTotal, f_printedTotal, f_stackSize, f_bodyCount, f_declaredTwice, f_liveDepth, f_position, a_tokenKind, a_tokenValue, a_printed, a_stack, a_bodyParent, a_bodyStart, a_declCount, a_paramCount, a_paramName, a_declKind, a_declTarget, a_tokenBody, a_branchTarget, a_liveBody, a_liveParent, a_returnTo, a_slotValue, a_slotHome, a_waitingOp, a_waitingLeft, a_leftKnown, a_argKind, a_argValue, a_argHome⟩ := u
    exact ⟨F + 1, hc⟩
  · have hh := hp u (by rw [pt_s_end hnx h]; exact hrel)
    have h1 : ¬ u.2.1 = 1 := fun h2 => h (hst.mpr h2)
    obtain ⟨f_depthLimit, f_state, f_trapCode, f_begun, f_tokenTotal, f_printedTotal, f_stackSize, f_bodyCount, f_declaredTwice, f_liveDepth, f_position, a_tokenKind, a_tokenValue, a_printed, a_stack, a_bodyParent, a_bodyStart, a_declCount, a_paramCount, a_paramName, a_declKind, a_declTarget, a_tokenBody, a_branchTarget, a_liveBody, a_liveParent, a_returnTo, a_slotValue, a_slotHome, a_waitingOp, a_waitingLeft, a_leftKnown, a_argKind, a_argValue, a_argHome⟩ := u
    exact br_f h1 hh
/-- the first run, from the start -/
theorem pt_run1 {K V : Nat → Nat} {n lim F : Nat} {kd vl : Nat → Int32} {nx : pt_AS → pt_AS} (hnx : ∀ A, (pt_md A = 0 → pt_ok K A → pt_ms K V n lim kd vl A (nx A)) ∧ (pt_md A ≠ 0 → nx A = A)) {A B : pt_AS} (hA : pt_ok K A) {post : Int32 → St2 → Prop} {u : St2} {v1 : Int32} (hF : pt_fu v1 F) (h1 : u.2.1 = 1)
    (hst : ∀ C : St2 → Prop, (∀ u', pt_rel K V n lim kd vl A u' → C u') → wpX_settle C u) (hp : ∀ u', pt_rel K V n lim kd vl (pt_s nx A F) u' → post u'.2.1 u') : wpX_run post u v1 := by
  refine pt_runG hF h1 (hst _ (fun u' hu' => ?_))
  have hc := pt_28 hF.2.1 hnx hA (post := post) F 0 0 (F + 1) u' (by omega) (by omega) hu' (fun u2 h2 => hp u2 (by rw [Nat.zero_add] at h2; exact h2))
  obtain ⟨f_depthLimit, f_state, f_trapCode, f_begun, f_tokenTotal, f_printedTotal, f_stackSize, f_bodyCount, f_declaredTwice, f_liveDepth, f_position, a_tokenKind, a_tokenValue, a_printed, a_stack, a_bodyParent, a_bodyStart, a_declCount, a_paramCount, a_paramName, a_declKind, a_declTarget, a_tokenBody, a_branchTarget, a_liveBody, a_liveParent, a_returnTo, a_slotValue, a_slotHome, a_waitingOp, a_waitingLeft, a_leftKnown, a_argKind, a_argValue, a_argHome⟩ := u'
  exact ⟨F + 1, hc⟩
