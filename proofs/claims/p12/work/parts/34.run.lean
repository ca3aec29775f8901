variable {f_depthLimit f_state f_trapCode f_begun f_tokenTotal f_printedTotal f_stackSize f_bodyCount f_declaredTwice f_liveDepth f_position : Int32} {a_tokenKind a_tokenValue a_printed a_stack a_bodyParent a_bodyStart a_declCount a_paramCount a_paramName a_declKind a_declTarget a_tokenBody a_branchTarget a_liveBody a_liveParent a_returnTo a_slotValue a_slotHome a_waitingOp a_waitingLeft a_leftKnown a_argKind a_argValue a_argHome : Nat → Int32}
def rt_c28 (post : Int32 → St2 → Prop) (x2 : Int32) (f : Nat) (x3 : Int32) (u : St2) : Prop := match u with
  | (f_depthLimit, f_state, f_trapCode, f_begun, f_tokenTotal, f_printedTotal, f_stackSize, f_bodyCount, f_declaredTwice, f_liveDepth, f_position, a_tokenKind, a_tokenValue, a_printed, a_stack, a_bodyParent, a_bodyStart, a_declCount, a_paramCount, a_paramName, a_declKind, a_declTarget, a_tokenBody, a_branchTarget, a_liveBody, a_liveParent, a_returnTo, a_slotValue, a_slotHome, a_waitingOp, a_waitingLeft, a_leftKnown, a_argKind, a_argValue, a_argHome) => wX_run_28 post x2 f x3 f_depthLimit f_state f_trapCode f_begun f_tokenTotal f_printedTotal f_stackSize f_bodyCount f_declaredTwice f_liveDepth f_position a_tokenKind a_tokenValue a_printed a_stack a_bodyParent a_bodyStart a_declCount a_paramCount a_paramName a_declKind a_declTarget a_tokenBody a_branchTarget a_liveBody a_liveParent a_returnTo a_slotValue a_slotHome a_waitingOp a_waitingLeft a_leftKnown a_argKind a_argValue a_argHome
theorem pt_s_ok {K V : Nat → Nat} {n lim : Nat} {kd vl : Nat → Int32} {nx : pt_AS → pt_AS} (hnx : ∀ A, (pt_md A = 0 → pt_ok K A → pt_ms K V n lim kd vl A (nx A)) ∧ (pt_md A ≠ 0 → nx A = A)) {A : pt_AS} (hA : pt_ok K A) : ∀ k, pt_ok K (pt_s nx A k) := by
  intro k
  induction k with
  | zero => exact hA
  | succ k ih =>
    show pt_ok K (nx (pt_s nx A k))
    by_cases h : pt_md (pt_s nx A k) = 0
    · exact ((hnx _).1 h ih).1
    · rw [(hnx _).2 h]; exact ih
theorem pt_s_end {K V : Nat → Nat} {n lim : Nat} {kd vl : Nat → Int32} {nx : pt_AS → pt_AS} (hnx : ∀ A, (pt_md A = 0 → pt_ok K A → pt_ms K V n lim kd vl A (nx A)) ∧ (pt_md A ≠ 0 → nx A = A)) {A : pt_AS} {k : Nat} (h : pt_md (pt_s nx A k) ≠ 0) : ∀ r, pt_s nx A (k + r) = pt_s nx A k := by
  intro r
  induction r with
  | zero => rfl
  | succ r ih =>
    show nx (pt_s nx A (k + r)) = _
    rw [ih]
    exact (hnx _).2 h
theorem pt_s_ex {K V : Nat → Nat} {n lim : Nat} {kd vl : Nat → Int32} {nx : pt_AS → pt_AS} (hnx : ∀ A, (pt_md A = 0 → pt_ok K A → pt_ms K V n lim kd vl A (nx A)) ∧ (pt_md A ≠ 0 → nx A = A)) {A : pt_AS} (hA : pt_ok K A) (h0 : pt_ex A = 0) : ∀ k, ∃ e, e ≤ k ∧ pt_ex (pt_s nx A k) = nI e ∧ (pt_md (pt_s nx A k) = 0 → e = k) := by
  intro k
  induction k with
  | zero => exact ⟨0, Nat.le_refl _, h0, fun _ => rfl⟩
  | succ k ih =>
    obtain ⟨e, h1, h2, h3⟩ := ih
    by_cases h : pt_md (pt_s nx A k) = 0
    · have hm := (hnx _).1 h (pt_s_ok hnx hA k)
      refine ⟨e + 1, by omega, ?_, fun _ => by have := h3 h; omega⟩
      show pt_ex (nx (pt_s nx A k)) = _
      rw [hm.2.1, h2, nI_1]
    · refine ⟨e, by omega, ?_, fun h4 => ?_⟩
      · show pt_ex (nx (pt_s nx A k)) = _
        rw [(hnx _).2 h]; exact h2
      · have h4 : pt_md (nx (pt_s nx A k)) = 0 := h4
        rw [(hnx _).2 h] at h4
        exact absurd h4 h
theorem pt_st {K V : Nat → Nat} {n lim : Nat} {kd vl : Nat → Int32} {A : pt_AS} {u : St2} (h : pt_rel K V n lim kd vl A u) (hA : pt_ok K A) : (pt_md A = 0 ↔ u.2.1 = 1) := by
  obtain ⟨f_depthLimit, f_state, f_trapCode, f_begun, f_tokenTotal, f_printedTotal, f_stackSize, f_bodyCount, f_declaredTwice, f_liveDepth, f_position, a_tokenKind, a_tokenValue, a_printed, a_stack, a_bodyParent, a_bodyStart, a_declCount, a_paramCount, a_paramName, a_declKind, a_declTarget, a_tokenBody, a_branchTarget, a_liveBody, a_liveParent, a_returnTo, a_slotValue, a_slotHome, a_waitingOp, a_waitingLeft, a_leftKnown, a_argKind, a_argValue, a_argHome⟩ := u
  obtain ⟨md, top, pc, on, ab, ap, rt, av, aq, ae, pr, ex, tc⟩ := A
  obtain ⟨_, _, _, _, _, _, _, _, _, _, _, _, _, _, hmd⟩ := h
  rcases hmd with ⟨rfl, h, _⟩ | ⟨rfl, h, _⟩ | ⟨rfl, h, _⟩ | ⟨rfl, h, _⟩
  · exact ⟨fun _ => h, fun _ => rfl⟩
  · exact ⟨fun h2 => absurd (show (1 : Nat) = 0 from h2) (by decide), fun h2 => by
      have h3 : f_state = 1 := h2
      rw [h] at h3; exact absurd h3 (by decide)⟩
  · exact ⟨fun h2 => absurd (show (2 : Nat) = 0 from h2) (by decide), fun h2 => by
      have h3 : f_state = 1 := h2
      rw [h] at h3; exact absurd h3 (by decide)⟩
  · rcases hA with ⟨h2, _⟩ | h2 | h2
    · exact absurd (show (3 : Nat) = 0 from h2) (by decide)
    · exact absurd (show (3 : Nat) = 1 from h2) (by decide)
    · exact absurd (show (3 : Nat) = 2 from h2) (by decide)
/-- the run's loop along the course -/
theorem pt_28 {K V : Nat → Nat} {n lim F : Nat} {kd vl : Nat → Int32} {nx : pt_AS → pt_AS} (hF : F ≤ 256) (hnx : ∀ A, (pt_md A = 0 → pt_ok K A → pt_ms K V n lim kd vl A (nx A)) ∧ (pt_md A ≠ 0 → nx A = A)) {A : pt_AS} (hA : pt_ok K A) {post : Int32 → St2 → Prop} :
    ∀ (r k sp fx : Nat) (u : St2), r + sp = F → r < fx → pt_rel K V n lim kd vl (pt_s nx A k) u → (∀ u', pt_rel K V n lim kd vl (pt_s nx A (k + r)) u' → post u'.2.1 u') → rt_c28 post (nI F) fx (nI sp) u := by
  intro r
  induction r with
  | zero =>
    intro k sp fx u hr hfx hrel hp
    obtain ⟨f1, rfl⟩ : ∃ f1, fx = f1 + 1 := ⟨fx - 1, by omega⟩
    have hh := hp u hrel
    obtain ⟨f_depthLimit, f_state, f_trapCode, f_begun, f_tokenTotal, f_printedTotal, f_stackSize, f_bodyCount, f_declaredTwice, f_liveDepth, f_position, a_tokenKind, a_tokenValue, a_printed, a_stack, a_bodyParent, a_bodyStart, a_declCount, a_paramCount, a_paramName, a_declKind, a_declTarget, a_tokenBody, a_branchTarget, a_liveBody, a_liveParent, a_returnTo, a_slotValue, a_slotHome, a_waitingOp, a_waitingLeft, a_leftKnown, a_argKind, a_argValue, a_argHome⟩ := u
    exact br_t (nI_le (by omega) (by omega)) hh
  | succ r ih =>
    intro k sp fx u hr hfx hrel hp
    obtain ⟨f1, rfl⟩ : ∃ f1, fx = f1 + 1 := ⟨fx - 1, by omega⟩
    have hst := pt_st hrel (pt_s_ok hnx hA k)
    by_cases h : pt_md (pt_s nx A k) = 0
    · have hm := (hnx _).1 h (pt_s_ok hnx hA k)
      have h1 := hst.mp h
      have hw := hm.2.2 u hrel (fun u => match u with | (f_depthLimit, f_state, f_trapCode, f_begun, f_tokenTotal, f_printedTotal, f_stackSize, f_bodyCount, f_declaredTwice, f_liveDepth, f_position, a_tokenKind, a_tokenValue, a_printed, a_stack, a_bodyParent, a_bodyStart, a_declCount, a_paramCount, a_paramName, a_declKind, a_declTarget, a_tokenBody, a_branchTarget, a_liveBody, a_liveParent, a_returnTo, a_slotValue, a_slotHome, a_waitingOp, a_waitingLeft, a_leftKnown, a_argKind, a_argValue, a_argHome) => ∀ y : Int32, y = nI sp + 1 → wX_run_28 post (nI F) f1 y f_depthLimit f_state f_trapCode f_begun f_tokenTotal f_printedTotal f_stackSize f_bodyCount f_declaredTwice f_liveDepth f_position a_tokenKind a_tokenValue a_printed a_stack a_bodyParent a_bodyStart a_declCount a_paramCount a_paramName a_declKind a_declTarget a_tokenBody a_branchTarget a_liveBody a_liveParent a_returnTo a_slotValue a_slotHome a_waitingOp a_waitingLeft a_leftKnown a_argKind a_argValue a_argHome) (fun u' hu' => by
        have hc := ih (k + 1) (sp + 1) f1 u' (by omega) (by omega) hu' (fun u2 h2 => hp u2 (by rw [show k + (r + 1) = k + 1 + r by omega]; exact h2))
        obtain ⟨f_depthLimit, f_state, f_trapCode, f_begun, f_tokenTotal, f_printedTotal, f_stackSize, f_bodyCount, f_declaredTwice, f_liveDepth, f_position, a_tokenKind, a_tokenValue, a_printed, a_stack, a_bodyParent, a_bodyStart, a_declCount, a_paramCount, a_paramName, a_declKind, a_declTarget, a_tokenBody, a_branchTarget, a_liveBody, a_liveParent, a_returnTo, a_slotValue, a_slotHome, a_waitingOp, a_waitingLeft, a_leftKnown, a_argKind, a_argValue, a_argHome⟩ := u'
        exact nm_r (nI_1 sp) hc)
      obtain ⟨f_depthLimit, f_state, f_trapCode, f_begun, f_tokenTotal, f_printedTotal, f_stackSize, f_bodyCount, f_declaredTwice, f_liveDepth, f_position, a_tokenKind, a_tokenValue, a_printed, a_stack, a_bodyParent, a_bodyStart, a_declCount, a_paramCount, a_paramName, a_declKind, a_declTarget, a_tokenBody, a_branchTarget, a_liveBody, a_liveParent, a_returnTo, a_slotValue, a_slotHome, a_waitingOp, a_waitingLeft, a_leftKnown, a_argKind, a_argValue, a_argHome⟩ := u
      exact br_f (nI_ge (by omega) (by omega)) (br_t h1 hw)
    · have hh := hp u (by rw [pt_s_end hnx h]; exact hrel)
      have h1 : ¬ u.2.1 = 1 := fun h2 => h (hst.mpr h2)
      obtain ⟨f_depthLimit, f_state, f_trapCode, f_begun, f_tokenTotal, f_printedTotal, f_stackSize, f_bodyCount, f_declaredTwice, f_liveDepth, f_position, a_tokenKind, a_tokenValue, a_printed, a_stack, a_bodyParent, a_bodyStart, a_declCount, a_paramCount, a_paramName, a_declKind, a_declTarget, a_tokenBody, a_branchTarget, a_liveBody, a_liveParent, a_returnTo, a_slotValue, a_slotHome, a_waitingOp, a_waitingLeft, a_leftKnown, a_argKind, a_argValue, a_argHome⟩ := u
      exact br_f (nI_ge (by omega) (by omega)) (br_f h1 hh)
