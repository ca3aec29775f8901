variable {f_depthLimit f_state f_trapCode f_begun f_tokenTotal f_printedTotal f_stackSize f_bodyCount f_declaredTwice f_liveDepth f_position : Int32} {a_tokenKind a_tokenValue a_printed a_stack a_bodyParent a_bodyStart a_declCount a_paramCount a_paramName a_declKind a_declTarget a_tokenBody a_branchTarget a_liveBody a_liveParent a_returnTo a_slotValue a_slotHome a_waitingOp a_waitingLeft a_leftKnown a_argKind a_argValue a_argHome : Nat → Int32}
/-- settled, or ended -/
def pt_ok (K : Nat → Nat) (A : pt_AS) : Prop := (pt_md A = 0 ∧ K A.2.2.1 ≠ 2 ∧ K A.2.2.1 ≠ 16 ∧ K A.2.2.1 ≠ 17) ∨ pt_md A = 1 ∨ pt_md A = 2
theorem pt_stl {K V : Nat → Nat} {n lim top pc on : Nat} {ab ap rt : Nat → Nat} {kd vl av aq ae pr : Nat → Int32} {ex : Int32} {u0 : St2} (h0 : pt_rel K V n lim kd vl (0, top, pc, on, ab, ap, rt, av, aq, ae, pr, ex, 0) u0) : ∃ A1, pt_ok K A1 ∧ pt_ex A1 = ex ∧ ∀ u, pt_rel K V n lim kd vl (0, top, pc, on, ab, ap, rt, av, aq, ae, pr, ex, 0) u → ∀ C : St2 → Prop, (∀ u', pt_rel K V n lim kd vl A1 u' → C u') → wpX_settle C u := by
  obtain ⟨hT0, hn, hL, hN, hU, hP, hon0, lb0, lp0, rr0, sv0, sh0, hR0⟩ := pt_pure h0
  have ht0 := hR0.1
  obtain ⟨s', top', pc', hc, hx⟩ := pt_settle hn hT0.1 4352 top pc (by omega) ht0 (fun a h1 h2 => (hR0.2.2.1 a h1 h2).1) hP
  have walk : ∀ A1 : pt_AS, (∀ u, pt_rel K V n lim kd vl (0, top, pc, on, ab, ap, rt, av, aq, ae, pr, ex, 0) u → ∀ C : St2 → Prop, (∀ u', pt_rel K V n lim kd vl A1 u' → C u') → (match u with | (f_depthLimit, f_state, f_trapCode, f_begun, f_tokenTotal, f_printedTotal, f_stackSize, f_bodyCount, f_declaredTwice, f_liveDepth, f_position, a_tokenKind, a_tokenValue, a_printed, a_stack, a_bodyParent, a_bodyStart, a_declCount, a_paramCount, a_paramName, a_declKind, a_declTarget, a_tokenBody, a_branchTarget, a_liveBody, a_liveParent, a_returnTo, a_slotValue, a_slotHome, a_waitingOp, a_waitingLeft, a_leftKnown, a_argKind, a_argValue, a_argHome) => C (f_depthLimit, s', f_trapCode, f_begun, f_tokenTotal, f_printedTotal, f_stackSize, f_bodyCount, f_declaredTwice, nI top', nI pc', a_tokenKind, a_tokenValue, a_printed, a_stack, a_bodyParent, a_bodyStart, a_declCount, a_paramCount, a_paramName, a_declKind, a_declTarget, a_tokenBody, a_branchTarget, a_liveBody, a_liveParent, a_returnTo, a_slotValue, a_slotHome, a_waitingOp, a_waitingLeft, a_leftKnown, a_argKind, a_argValue, a_argHome))) → ∀ u, pt_rel K V n lim kd vl (0, top, pc, on, ab, ap, rt, av, aq, ae, pr, ex, 0) u → ∀ C : St2 → Prop, (∀ u', pt_rel K V n lim kd vl A1 u' → C u') → wpX_settle C u := by
    intro A1 hA u hrel C hC
    have hh := hA u hrel C hC
    obtain ⟨f_depthLimit, f_state, f_trapCode, f_begun, f_tokenTotal, f_printedTotal, f_stackSize, f_bodyCount, f_declaredTwice, f_liveDepth, f_position, a_tokenKind, a_tokenValue, a_printed, a_stack, a_bodyParent, a_bodyStart, a_declCount, a_paramCount, a_paramName, a_declKind, a_declTarget, a_tokenBody, a_branchTarget, a_liveBody, a_liveParent, a_returnTo, a_slotValue, a_slotHome, a_waitingOp, a_waitingLeft, a_leftKnown, a_argKind, a_argValue, a_argHome⟩ := u
    obtain ⟨rfl, rfl, rfl, rfl, rfl, rfl, rfl, rfl, rfl, hon, ht16, hT, hS, hM, hmd⟩ := hrel
    rcases hmd with ⟨_, rfl, _, rfl, _, hR⟩ | ⟨h, _⟩ | ⟨h, _⟩ | ⟨h, _⟩
    · unfold wpX_settle
      exact ⟨4353, hx _ _ _ _ _ _ _ _ _ _ _ _ _ _ _ _ _ _ _ _ _ _ _ _ _ _ _ _ _ _ _ _ C 0 4353 hT.2.1 hS.2.2.2.2.2.2.2.2 (fun a h1 h2 => (hR.2.2.1 a h1 h2).2.1) (by omega) (by omega) hh⟩
    · omega
    · omega
    · omega
  rcases hc with ⟨rfl, c1, c2, c3⟩ | ⟨rfl, rfl⟩
  · refine ⟨(0, top', pc', on, ab, ap, rt, av, aq, ae, pr, ex, 0), .inl ⟨rfl, c3⟩, rfl, walk _ (fun u hrel C hC => ?_)⟩
    obtain ⟨f_depthLimit, f_state, f_trapCode, f_begun, f_tokenTotal, f_printedTotal, f_stackSize, f_bodyCount, f_declaredTwice, f_liveDepth, f_position, a_tokenKind, a_tokenValue, a_printed, a_stack, a_bodyParent, a_bodyStart, a_declCount, a_paramCount, a_paramName, a_declKind, a_declTarget, a_tokenBody, a_branchTarget, a_liveBody, a_liveParent, a_returnTo, a_slotValue, a_slotHome, a_waitingOp, a_waitingLeft, a_leftKnown, a_argKind, a_argValue, a_argHome⟩ := u
    obtain ⟨rfl, rfl, rfl, rfl, rfl, rfl, rfl, rfl, rfl, hon, ht16, hT, hS, hM, hmd⟩ := hrel
    rcases hmd with ⟨_, rfl, _, rfl, _, hR⟩ | ⟨h, _⟩ | ⟨h, _⟩ | ⟨h, _⟩
    · exact hC _ ⟨rfl, rfl, rfl, rfl, rfl, rfl, rfl, rfl, rfl, hon, by omega, hT, hS, hM, .inl ⟨rfl, rfl, rfl, rfl, c2, rt_R_le hR c1⟩⟩
    · omega
    · omega
    · omega
  · refine ⟨(1, 0, pc', on, ab, ap, rt, av, aq, ae, pr, ex, 0), .inr (.inl rfl), rfl, walk _ (fun u hrel C hC => ?_)⟩
    obtain ⟨f_depthLimit, f_state, f_trapCode, f_begun, f_tokenTotal, f_printedTotal, f_stackSize, f_bodyCount, f_declaredTwice, f_liveDepth, f_position, a_tokenKind, a_tokenValue, a_printed, a_stack, a_bodyParent, a_bodyStart, a_declCount, a_paramCount, a_paramName, a_declKind, a_declTarget, a_tokenBody, a_branchTarget, a_liveBody, a_liveParent, a_returnTo, a_slotValue, a_slotHome, a_waitingOp, a_waitingLeft, a_leftKnown, a_argKind, a_argValue, a_argHome⟩ := u
    obtain ⟨rfl, rfl, rfl, rfl, rfl, rfl, rfl, rfl, rfl, hon, ht16, hT, hS, hM, hmd⟩ := hrel
    rcases hmd with ⟨_, rfl, _, rfl, _, hR⟩ | ⟨h, _⟩ | ⟨h, _⟩ | ⟨h, _⟩
    · exact hC _ ⟨rfl, rfl, rfl, rfl, rfl, rfl, rfl, rfl, rfl, hon, by omega, hT, hS, hM, .inr (.inl ⟨rfl, rfl, rfl, rfl⟩)⟩
    · omega
    · omega
    · omega
/-- a statement of any kind -/
theorem pt_any {K V : Nat → Nat} {n lim top pc on : Nat} {ab ap rt : Nat → Nat} {kd vl av aq ae pr : Nat → Int32} {ex : Int32} {u0 : St2} (h0 : pt_rel K V n lim kd vl (0, top, pc, on, ab, ap, rt, av, aq, ae, pr, ex, 0) u0) (hl2 : lim ≤ 16) (h2 : K pc ≠ 2) (h16 : K pc ≠ 16) (h17 : K pc ≠ 17) : ∃ A', pt_nx K V n lim kd vl (0, top, pc, on, ab, ap, rt, av, aq, ae, pr, ex, 0) A' := by
  obtain ⟨hT0, hn, hL, hN, hU, hP, _⟩ := pt_pure h0
  have hk := (gr_P_k hn hP).1
  have hk : K pc = 7 ∨ K pc = 8 ∨ K pc = 9 ∨ K pc = 10 ∨ K pc = 11 ∨ K pc = 15 := by omega
  rcases hk with q | q | q | q | q | q
  · exact pt_set h0 q
  · exact pt_print h0 q
  · exact pt_goto h0 q
  · exact pt_label h0 q
  · exact pt_call h0 hl2 q
  · exact pt_if h0 q
/-- a statement, the trap's state, the settling -/
def pt_ms (K V : Nat → Nat) (n lim : Nat) (kd vl : Nat → Int32) (A A' : pt_AS) : Prop := pt_ok K A' ∧ pt_ex A' = pt_ex A + 1 ∧ ∀ u, pt_rel K V n lim kd vl A u → ∀ C : St2 → Prop, (∀ u', pt_rel K V n lim kd vl A' u' → C u') →
  wpX_doStatement (fun u => match u with | (f_depthLimit, f_state, f_trapCode, f_begun, f_tokenTotal, f_printedTotal, f_stackSize, f_bodyCount, f_declaredTwice, f_liveDepth, f_position, a_tokenKind, a_tokenValue, a_printed, a_stack, a_bodyParent, a_bodyStart, a_declCount, a_paramCount, a_paramName, a_declKind, a_declTarget, a_tokenBody, a_branchTarget, a_liveBody, a_liveParent, a_returnTo, a_slotValue, a_slotHome, a_waitingOp, a_waitingLeft, a_leftKnown, a_argKind, a_argValue, a_argHome) => ((f_trapCode = 0 → wpX_settle C (f_depthLimit, f_state, f_trapCode, f_begun, f_tokenTotal, f_printedTotal, f_stackSize, f_bodyCount, f_declaredTwice, f_liveDepth, f_position, a_tokenKind, a_tokenValue, a_printed, a_stack, a_bodyParent, a_bodyStart, a_declCount, a_paramCount, a_paramName, a_declKind, a_declTarget, a_tokenBody, a_branchTarget, a_liveBody, a_liveParent, a_returnTo, a_slotValue, a_slotHome, a_waitingOp, a_waitingLeft, a_leftKnown, a_argKind, a_argValue, a_argHome)) ∧ (¬ f_trapCode = 0 → wpX_settle C (f_depthLimit, 3, f_trapCode, f_begun, f_tokenTotal, f_printedTotal, f_stackSize, f_bodyCount, f_declaredTwice, f_liveDepth, f_position, a_tokenKind, a_tokenValue, a_printed, a_stack, a_bodyParent, a_bodyStart, a_declCount, a_paramCount, a_paramName, a_declKind, a_declTarget, a_tokenBody, a_branchTarget, a_liveBody, a_liveParent, a_returnTo, a_slotValue, a_slotHome, a_waitingOp, a_waitingLeft, a_leftKnown, a_argKind, a_argValue, a_argHome)))) u
theorem pt_mac {K V : Nat → Nat} {n lim top pc on : Nat} {ab ap rt : Nat → Nat} {kd vl av aq ae pr : Nat → Int32} {ex : Int32} {u0 : St2} (h0 : pt_rel K V n lim kd vl (0, top, pc, on, ab, ap, rt, av, aq, ae, pr, ex, 0) u0) (hl2 : lim ≤ 16) (h2 : K pc ≠ 2) (h16 : K pc ≠ 16) (h17 : K pc ≠ 17) : ∃ A', pt_ms K V n lim kd vl (0, top, pc, on, ab, ap, rt, av, aq, ae, pr, ex, 0) A' := by
  obtain ⟨A1, n1, n2, n3⟩ := pt_any h0 hl2 h2 h16 h17
  by_cases hex : ∃ u1, pt_rel K V n lim kd vl A1 u1
  · obtain ⟨u1, hu1⟩ := hex
    obtain ⟨md, top1, pc1, on1, ab1, ap1, rt1, av1, aq1, ae1, pr1, ex1, tc1⟩ := A1
    rcases n2 with rfl | rfl
    · have htc : tc1 = 0 := by
        obtain ⟨f_depthLimit, f_state, f_trapCode, f_begun, f_tokenTotal, f_printedTotal, f_stackSize, f_bodyCount, f_declaredTwice, f_liveDepth, f_position, a_tokenKind, a_tokenValue, a_printed, a_stack, a_bodyParent, a_bodyStart, a_declCount, a_paramCount, a_paramName, a_declKind, a_declTarget, a_tokenBody, a_branchTarget, a_liveBody, a_liveParent, a_returnTo, a_slotValue, a_slotHome, a_waitingOp, a_waitingLeft, a_leftKnown, a_argKind, a_argValue, a_argHome⟩ := u1
        obtain ⟨_, _, _, _, _, _, _, _, _, _, _, _, _, _, hmd⟩ := hu1
        rcases hmd with ⟨_, _, h, _⟩ | ⟨h, _⟩ | ⟨h, _⟩ | ⟨h, _⟩
        · exact h
        · exact absurd h (by decide)
        · exact absurd h (by decide)
        · exact absurd h (by decide)
      subst htc
      obtain ⟨A2, m1, m2, m3⟩ := pt_stl hu1
      refine ⟨A2, m1, m2.trans n1, fun u hrel C hC => n3 u hrel _ (fun u' hu' => ?_)⟩
      have hs := m3 u' hu' C hC
      obtain ⟨f_depthLimit, f_state, f_trapCode, f_begun, f_tokenTotal, f_printedTotal, f_stackSize, f_bodyCount, f_declaredTwice, f_liveDepth, f_position, a_tokenKind, a_tokenValue, a_printed, a_stack, a_bodyParent, a_bodyStart, a_declCount, a_paramCount, a_paramName, a_declKind, a_declTarget, a_tokenBody, a_branchTarget, a_liveBody, a_liveParent, a_returnTo, a_slotValue, a_slotHome, a_waitingOp, a_waitingLeft, a_leftKnown, a_argKind, a_argValue, a_argHome⟩ := u'
      obtain ⟨_, _, _, _, _, _, _, _, htc, _⟩ := hu'
      exact br_t htc hs
    · refine ⟨(2, top1, pc1, on1, ab1, ap1, rt1, av1, aq1, ae1, pr1, ex1, tc1), .inr (.inr rfl), n1, fun u hrel C hC => n3 u hrel _ (fun u' hu' => ?_)⟩
      obtain ⟨f_depthLimit, f_state, f_trapCode, f_begun, f_tokenTotal, f_printedTotal, f_stackSize, f_bodyCount, f_declaredTwice, f_liveDepth, f_position, a_tokenKind, a_tokenValue, a_printed, a_stack, a_bodyParent, a_bodyStart, a_declCount, a_paramCount, a_paramName, a_declKind, a_declTarget, a_tokenBody, a_branchTarget, a_liveBody, a_liveParent, a_returnTo, a_slotValue, a_slotHome, a_waitingOp, a_waitingLeft, a_leftKnown, a_argKind, a_argValue, a_argHome⟩ := u'
      obtain ⟨rfl, rfl, rfl, rfl, rfl, rfl, rfl, rfl, rfl, hon, ht16, hT, hS, hM, hmd⟩ := hu'
      rcases hmd with ⟨h, _⟩ | ⟨h, _⟩ | ⟨h, _⟩ | ⟨_, rfl, htc⟩
      · exact absurd h (by decide)
      · exact absurd h (by decide)
      · exact absurd h (by decide)
      · refine br_f htc ?_
        unfold wpX_settle
        refine ⟨1, br_f (by decide) (br_f (by decide) (hC _ ?_))⟩
        exact ⟨rfl, rfl, rfl, rfl, rfl, rfl, rfl, rfl, rfl, hon, ht16, hT, hS, hM, .inr (.inr (.inl ⟨rfl, rfl, htc⟩))⟩
  · refine ⟨(1, 0, 0, 0, fun _ => 0, fun _ => 0, fun _ => 0, fun _ => 0, fun _ => 0, fun _ => 0, fun _ => 0, ex + 1, 0), .inr (.inl rfl), rfl, fun u hrel C hC => n3 u hrel _ (fun u' hu' => absurd ⟨u', hu'⟩ hex)⟩
/-- the whole course: every settled state has its next -/
theorem pt_course {K V : Nat → Nat} {n lim : Nat} (kd vl : Nat → Int32) (hl2 : lim ≤ 16) : ∃ nx : pt_AS → pt_AS, ∀ A, (pt_md A = 0 → pt_ok K A → pt_ms K V n lim kd vl A (nx A)) ∧ (pt_md A ≠ 0 → nx A = A) := by
  have h : ∀ A : pt_AS, ∃ A', (pt_md A = 0 → pt_ok K A → pt_ms K V n lim kd vl A A') ∧ (pt_md A ≠ 0 → A' = A) := by
    intro A
    by_cases h0 : pt_md A = 0
    · by_cases hex : ∃ u1, pt_rel K V n lim kd vl A u1
      · obtain ⟨u1, hu1⟩ := hex
        by_cases hok : pt_ok K A
        · obtain ⟨md, top, pc, on, ab, ap, rt, av, aq, ae, pr, ex, tc⟩ := A
          have hmd0 : md = 0 := h0
          subst hmd0
          have htc : tc = 0 := by
            obtain ⟨f_depthLimit, f_state, f_trapCode, f_begun, f_tokenTotal, f_printedTotal, f_stackSize, f_bodyCount, f_declaredTwice, f_liveDepth, f_position, a_tokenKind, a_tokenValue, a_printed, a_stack, a_bodyParent, a_bodyStart, a_declCount, a_paramCount, a_paramName, a_declKind, a_declTarget, a_tokenBody, a_branchTarget, a_liveBody, a_liveParent, a_returnTo, a_slotValue, a_slotHome, a_waitingOp, a_waitingLeft, a_leftKnown, a_argKind, a_argValue, a_argHome⟩ := u1
            obtain ⟨_, _, _, _, _, _, _, _, _, _, _, _, _, _, hmd⟩ := hu1
            rcases hmd with ⟨_, _, h, _⟩ | ⟨h, _⟩ | ⟨h, _⟩ | ⟨h, _⟩
            · exact h
            · exact absurd h (by decide)
            · exact absurd h (by decide)
            · exact absurd h (by decide)
          subst htc
          rcases hok with ⟨_, c1, c2, c3⟩ | h | h
          · obtain ⟨A', hA'⟩ := pt_mac hu1 hl2 c1 c2 c3
            exact ⟨A', fun _ _ => hA', fun h => absurd h0 h⟩
          · exact absurd (show (0 : Nat) = 1 from h) (by decide)
          · exact absurd (show (0 : Nat) = 2 from h) (by decide)
        · exact ⟨A, fun _ h => absurd h hok, fun h => absurd h0 h⟩
      · obtain ⟨md, top, pc, on, ab, ap, rt, av, aq, ae, pr, ex, tc⟩ := A
        refine ⟨(1, 0, 0, 0, fun _ => 0, fun _ => 0, fun _ => 0, fun _ => 0, fun _ => 0, fun _ => 0, fun _ => 0, ex + 1, 0), fun _ _ => ⟨.inr (.inl rfl), rfl, fun u hrel => absurd ⟨u, hrel⟩ hex⟩, fun h => absurd h0 h⟩
    · exact ⟨A, fun h => absurd h h0, fun _ => rfl⟩
  exact ⟨fun A => (h A).choose, fun A => (h A).choose_spec⟩
def pt_s (nx : pt_AS → pt_AS) (A : pt_AS) : Nat → pt_AS
  | 0 => A
  | k + 1 => nx (pt_s nx A k)
