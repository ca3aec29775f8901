variable {f_depthLimit f_state f_trapCode f_begun f_tokenTotal f_printedTotal f_stackSize f_bodyCount f_declaredTwice f_liveDepth f_position : Int32} {a_tokenKind a_tokenValue a_printed a_stack a_bodyParent a_bodyStart a_declCount a_paramCount a_paramName a_declKind a_declTarget a_tokenBody a_branchTarget a_liveBody a_liveParent a_returnTo a_slotValue a_slotHome a_waitingOp a_waitingLeft a_leftKnown a_argKind a_argValue a_argHome : Nat → Int32}
/-- how the settling goes, ahead of any state -/
theorem pt_settle {K : Nat → Nat} {n : Nat} {ab rt : Nat → Nat} (hn : gr_cf K n = some ([], 0)) (h256 : n ≤ 256) :
    ∀ (M top pc : Nat), top * 256 + (256 - pc) ≤ M → top ≤ 16 → (∀ a, 1 ≤ a → a ≤ top → gr_P K n (rt a) (ab (a - 1))) → gr_P K n pc (ab top) →
      ∃ (s' : Int32) (top' pc' : Nat), ((s' = 1 ∧ top' ≤ top ∧ gr_P K n pc' (ab top') ∧ K pc' ≠ 2 ∧ K pc' ≠ 16 ∧ K pc' ≠ 17) ∨ (s' = 2 ∧ top' = 0)) ∧
        (∀ (f_depthLimit f_trapCode f_begun f_tokenTotal f_printedTotal f_stackSize f_bodyCount f_declaredTwice : Int32) (a_tokenKind a_tokenValue a_printed a_stack a_bodyParent a_bodyStart a_declCount a_paramCount a_paramName a_declKind a_declTarget a_tokenBody a_branchTarget a_liveBody a_liveParent a_returnTo a_slotValue a_slotHome a_waitingOp a_waitingLeft a_leftKnown a_argKind a_argValue a_argHome : Nat → Int32) (post : St2 → Prop) (i fx : Nat),
          (∀ i, i < n → a_tokenKind i = nI (K i) ∧ 1 ≤ K i ∧ K i ≤ 26) → lo_B K n a_branchTarget → (∀ a, 1 ≤ a → a ≤ top → a_returnTo a = nI (rt a)) →
          i + M ≤ 4352 → M < fx → post (f_depthLimit, s', f_trapCode, f_begun, f_tokenTotal, f_printedTotal, f_stackSize, f_bodyCount, f_declaredTwice, nI top', nI pc', a_tokenKind, a_tokenValue, a_printed, a_stack, a_bodyParent, a_bodyStart, a_declCount, a_paramCount, a_paramName, a_declKind, a_declTarget, a_tokenBody, a_branchTarget, a_liveBody, a_liveParent, a_returnTo, a_slotValue, a_slotHome, a_waitingOp, a_waitingLeft, a_leftKnown, a_argKind, a_argValue, a_argHome) → wX_settle_2 post fx (nI i) f_depthLimit 1 f_trapCode f_begun f_tokenTotal f_printedTotal f_stackSize f_bodyCount f_declaredTwice (nI top) (nI pc) a_tokenKind a_tokenValue a_printed a_stack a_bodyParent a_bodyStart a_declCount a_paramCount a_paramName a_declKind a_declTarget a_tokenBody a_branchTarget a_liveBody a_liveParent a_returnTo a_slotValue a_slotHome a_waitingOp a_waitingLeft a_leftKnown a_argKind a_argValue a_argHome) := by
  intro M
  induction M with
  | zero =>
    intro top pc hM ht hR hP
    have := hP.2.1
    omega
  | succ M ih =>
    intro top pc hM ht hR hP
    have hpn := hP.2.1
    have hp1 := hP.1
    have hin : vp_in (nI pc) 256 := vp_in_nI (by omega) (by decide)
    have hcl : (nI pc).toNatClampNeg = pc := nI_clamp (by omega)
    have hit : vp_in (nI top) 17 := vp_in_nI (by omega) (by decide)
    have hct : (nI top).toNatClampNeg = top := nI_clamp (by omega)
    by_cases q2 : K pc = 2
    · by_cases t0 : top = 0
      · subst t0
        refine ⟨2, 0, pc, .inr ⟨rfl, rfl⟩, ?_⟩
        intro _ _ _ _ _ _ _ _ _ _ _ _ _ _ _ _ _ _ _ _ _ _ _ _ _ _ _ _ _ _ _ _  post i fx htk hB hrr hi hf hp
        have k1 := (htk pc hpn).1
        obtain ⟨f1, rfl⟩ : ∃ f1, fx = f1 + 1 + 1 := ⟨fx - 2, by omega⟩
        refine br_f (nI_ge (b := 4352) (by omega) (by decide)) (br_t rfl ⟨hin, ?_⟩)
        rw [hcl, k1, q2]
        refine nm_e (br_t rfl ?_)
        unfold wpX_leaveBody
        exact br_t rfl (nm_e (br_c (fun _ => hp) (fun _ => br_f (by decide) hp)))
      · have r1 := hR top (by omega) (Nat.le_refl _)
        have hr1 := r1.1
        obtain ⟨s', top', pc', c, hx⟩ := ih (top - 1) (rt top) (by omega) (by omega) (fun a h1 h2 => hR a h1 (by omega)) r1
        refine ⟨s', top', pc', ?_, ?_⟩
        · rcases c with ⟨a, b, c⟩ | c
          · exact .inl ⟨a, by omega, c⟩
          · exact .inr c
        · intro _ _ _ _ _ _ _ _ _ _ _ _ _ _ _ _ _ _ _ _ _ _ _ _ _ _ _ _ _ _ _ _  post i fx htk hB hrr hi hf hp
          have k1 := (htk pc hpn).1
          obtain ⟨f1, rfl⟩ : ∃ f1, fx = f1 + 1 := ⟨fx - 1, by omega⟩
          refine br_f (nI_ge (b := 4352) (by omega) (by decide)) (br_t rfl ⟨hin, ?_⟩)
          rw [hcl, k1, q2]
          refine nm_e (br_t rfl ?_)
          unfold wpX_leaveBody
          refine br_f (nI_ne0 (by omega) (by omega)) ⟨hit, ?_⟩
          rw [hct, hrr top (by omega) (Nat.le_refl _)]
          exact nm_e (nm_r (li_m1 (by omega)) (nm_r (nI_1 i) (hx _ _ _ _ _ _ _ _ _ _ _ _ _ _ _ _ _ _ _ _ _ _ _ _ _ _ _ _ _ _ _ _  post (i + 1) f1 htk hB (fun a h1 h2 => hrr a h1 (by omega)) (by omega) (by omega) hp)))
    · by_cases q16 : K pc = 16
      · obtain ⟨q, L, a1, a2, a3, a4, a5⟩ := gr_P_16 hn hP q16
        obtain ⟨s', top', pc', c, hx⟩ := ih top (q + 1) (by omega) ht hR a5
        refine ⟨s', top', pc', c, ?_⟩
        intro _ _ _ _ _ _ _ _ _ _ _ _ _ _ _ _ _ _ _ _ _ _ _ _ _ _ _ _ _ _ _ _  post i fx htk hB hrr hi hf hp
        have k1 := (htk pc hpn).1
        have hbt := hB q 5 pc L (by omega) a2 a4 (.inr rfl) (.inr a3)
        obtain ⟨f1, rfl⟩ : ∃ f1, fx = f1 + 1 := ⟨fx - 1, by omega⟩
        refine br_f (nI_ge (b := 4352) (by omega) (by decide)) (br_t rfl ⟨hin, ?_⟩)
        rw [hcl, k1, q16, hbt]
        exact nm_e (br_f (by decide) (br_t rfl ⟨hin, nm_e (nm_r (nI_1 i) (hx _ _ _ _ _ _ _ _ _ _ _ _ _ _ _ _ _ _ _ _ _ _ _ _ _ _ _ _ _ _ _ _  post (i + 1) f1 htk hB hrr (by omega) (by omega) hp))⟩))
      · by_cases q17 : K pc = 17
        · obtain ⟨s', top', pc', c, hx⟩ := ih top (pc + 1) (by omega) ht hR (gr_P_17 hn hP q17)
          refine ⟨s', top', pc', c, ?_⟩
          intro _ _ _ _ _ _ _ _ _ _ _ _ _ _ _ _ _ _ _ _ _ _ _ _ _ _ _ _ _ _ _ _  post i fx htk hB hrr hi hf hp
          have k1 := (htk pc hpn).1
          obtain ⟨f1, rfl⟩ : ∃ f1, fx = f1 + 1 := ⟨fx - 1, by omega⟩
          refine br_f (nI_ge (b := 4352) (by omega) (by decide)) (br_t rfl ⟨hin, ?_⟩)
          rw [hcl, k1, q17]
          exact nm_e (br_f (by decide) (br_f (by decide) (br_t rfl (nm_r (nI_1 pc) (nm_r (nI_1 i) (hx _ _ _ _ _ _ _ _ _ _ _ _ _ _ _ _ _ _ _ _ _ _ _ _ _ _ _ _ _ _ _ _  post (i + 1) f1 htk hB hrr (by omega) (by omega) hp))))))
        · refine ⟨1, top, pc, .inl ⟨rfl, Nat.le_refl _, hP, q2, q16, q17⟩, ?_⟩
          intro _ _ _ _ _ _ _ _ _ _ _ _ _ _ _ _ _ _ _ _ _ _ _ _ _ _ _ _ _ _ _ _  post i fx htk hB hrr hi hf hp
          obtain ⟨k1, k2, k3⟩ := htk pc hpn
          have nf : ∀ c, c ≤ 26 → K pc ≠ c → ¬ nI (K pc) = nI c := fun c hc h h2 => h ((nI_eq (by omega) (by omega)).mp h2)
          obtain ⟨f1, rfl⟩ : ∃ f1, fx = f1 + 1 := ⟨fx - 1, by omega⟩
          refine br_f (nI_ge (b := 4352) (by omega) (by decide)) (br_t rfl ⟨hin, ?_⟩)
          rw [hcl, k1]
          exact nm_e (br_f (nf 2 (by decide) q2) (br_f (nf 16 (by decide) q16) (br_f (nf 17 (by decide) q17) hp)))
