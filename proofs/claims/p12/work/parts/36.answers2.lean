variable {f_depthLimit f_state f_trapCode f_begun f_tokenTotal f_printedTotal f_stackSize f_bodyCount f_declaredTwice f_liveDepth f_position : Int32} {a_tokenKind a_tokenValue a_printed a_stack a_bodyParent a_bodyStart a_declCount a_paramCount a_paramName a_declKind a_declTarget a_tokenBody a_branchTarget a_liveBody a_liveParent a_returnTo a_slotValue a_slotHome a_waitingOp a_waitingLeft a_leftKnown a_argKind a_argValue a_argHome : Nat → Int32}
/-- two states that stand for one: the plain answers -/
theorem pt_same {K V : Nat → Nat} {n lim : Nat} {kd vl : Nat → Int32} {A : pt_AS} {u w : St2} (h : pt_rel K V n lim kd vl A u) (h' : pt_rel K V n lim kd vl A w) (hA : pt_ok K A) :
    u.2.1 = w.2.1 ∧ u.2.2.1 = w.2.2.1 ∧ u.2.2.2.1 = w.2.2.2.1 ∧ u.2.2.2.2.2.1 = w.2.2.2.2.2.1 ∧ u.2.2.2.2.2.2.2.2.2.1 = w.2.2.2.2.2.2.2.2.2.1 ∧ u.2.2.2.2.2.2.2.2.2.2.2.2.2.1 = w.2.2.2.2.2.2.2.2.2.2.2.2.2.1 := by
  obtain ⟨md, top, pc, on, ab, ap, rt, av, aq, ae, pr, ex, tc⟩ := A
  have st : ∀ z : St2, pt_rel K V n lim kd vl (md, top, pc, on, ab, ap, rt, av, aq, ae, pr, ex, tc) z → z.2.1 = (if md = 0 then 1 else if md = 1 then 2 else 3) ∧ z.2.2.1 = tc ∧ z.2.2.2.1 = ex ∧ z.2.2.2.2.2.1 = nI on ∧ z.2.2.2.2.2.2.2.2.2.1 = nI top ∧ z.2.2.2.2.2.2.2.2.2.2.2.2.2.1 = pr := by
    intro z hz
    obtain ⟨f_depthLimit, f_state, f_trapCode, f_begun, f_tokenTotal, f_printedTotal, f_stackSize, f_bodyCount, f_declaredTwice, f_liveDepth, f_position, a_tokenKind, a_tokenValue, a_printed, a_stack, a_bodyParent, a_bodyStart, a_declCount, a_paramCount, a_paramName, a_declKind, a_declTarget, a_tokenBody, a_branchTarget, a_liveBody, a_liveParent, a_returnTo, a_slotValue, a_slotHome, a_waitingOp, a_waitingLeft, a_leftKnown, a_argKind, a_argValue, a_argHome⟩ := z
    obtain ⟨_, rfl, _, rfl, _, _, rfl, rfl, rfl, _, _, _, _, _, hmd⟩ := hz
    rcases hmd with ⟨rfl, h, _⟩ | ⟨rfl, h, _⟩ | ⟨rfl, h, _⟩ | ⟨rfl, h, _⟩
    · exact ⟨h, rfl, rfl, rfl, rfl, rfl⟩
    · exact ⟨h, rfl, rfl, rfl, rfl, rfl⟩
    · exact ⟨h, rfl, rfl, rfl, rfl, rfl⟩
    · rcases hA with ⟨h2, _⟩ | h2 | h2
      · exact absurd (show (3 : Nat) = 0 from h2) (by decide)
      · exact absurd (show (3 : Nat) = 1 from h2) (by decide)
      · exact absurd (show (3 : Nat) = 2 from h2) (by decide)
  have a := st u h
  have b := st w h'
  rw [a.1, a.2.1, a.2.2.1, a.2.2.2.1, a.2.2.2.2.1, a.2.2.2.2.2, b.1, b.2.1, b.2.2.1, b.2.2.2.1, b.2.2.2.2.1, b.2.2.2.2.2]
  exact ⟨rfl, rfl, rfl, rfl, rfl, rfl⟩
theorem ow_isName {post : Int32 → Prop} {x : Int32} (ht : ∀ j : Nat, j < 16 → x = nI j → post 1) (hf : (x < 0 ∨ 16 ≤ x) → post 0) : wpX_isName post () x := by
  unfold wpX_isName
  by_cases h0 : x < 0
  · exact br_t h0 (hf (.inl h0))
  · refine br_f h0 ?_
    by_cases h1 : 16 ≤ x
    · exact br_t h1 (hf (.inr h1))
    · obtain ⟨j, hj, rfl⟩ := nI_of h0
      refine br_f h1 (ht j ?_ rfl)
      by_cases e : j < 16
      · exact e
      · exact absurd (nI_le (a := 16) (by omega) hj) h1
/-- a name, or none -/
theorem pt_nm (x : Int32) : (∃ j : Nat, j < 16 ∧ x = nI j) ∨ (x < 0 ∨ 16 ≤ x) := by
  by_cases h0 : x < 0
  · exact .inr (.inl h0)
  · by_cases h1 : 16 ≤ x
    · exact .inr (.inr h1)
    · obtain ⟨j, hj, rfl⟩ := nI_of h0
      refine .inl ⟨j, ?_, rfl⟩
      by_cases e : j < 16
      · exact e
      · exact absurd (nI_le (a := 16) (by omega) hj) h1
theorem pt_nm_no {x : Int32} (h : x < 0 ∨ 16 ≤ x) {j : Nat} (hj : j < 16) (e : x = nI j) : False := by
  subst e
  rcases h with h | h
  · exact nI_pos (by omega) h
  · exact nI_ge (b := 16) hj (by decide) h
theorem pt_main {K V : Nat → Nat} {n lim : Nat} {kd vl : Nat → Int32} {A : pt_AS} (hA : pt_ok K A) (x : Int32) : ∃ r, ∀ u, pt_rel K V n lim kd vl A u → ∀ post : Int32 → Prop, post r → wpX_mainVar post u x := by
  obtain ⟨md, top, pc, on, ab, ap, rt, av, aq, ae, pr, ex, tc⟩ := A
  have sn : ∀ z : St2, pt_rel K V n lim kd vl (md, top, pc, on, ab, ap, rt, av, aq, ae, pr, ex, tc) z → ¬ z.2.1 = 0 := by
    intro z hz
    obtain ⟨f_depthLimit, f_state, f_trapCode, f_begun, f_tokenTotal, f_printedTotal, f_stackSize, f_bodyCount, f_declaredTwice, f_liveDepth, f_position, a_tokenKind, a_tokenValue, a_printed, a_stack, a_bodyParent, a_bodyStart, a_declCount, a_paramCount, a_paramName, a_declKind, a_declTarget, a_tokenBody, a_branchTarget, a_liveBody, a_liveParent, a_returnTo, a_slotValue, a_slotHome, a_waitingOp, a_waitingLeft, a_leftKnown, a_argKind, a_argValue, a_argHome⟩ := z
    obtain ⟨_, _, _, _, _, _, _, _, _, _, _, _, _, _, hmd⟩ := hz
    intro h0
    have h0 : f_state = 0 := h0
    rcases hmd with ⟨_, h, _⟩ | ⟨_, h, _⟩ | ⟨_, h, _⟩ | ⟨_, h, _⟩ <;> (rw [h] at h0; exact absurd h0 (by decide))
  rcases pt_nm x with ⟨j, hj, rfl⟩ | hx
  · refine ⟨match gr_dc K V n 0 j with | none => 0 | some d => (if K d = 3 then av j else 0), fun u hu post hp => ?_⟩
    have hs := sn u hu
    obtain ⟨f_depthLimit, f_state, f_trapCode, f_begun, f_tokenTotal, f_printedTotal, f_stackSize, f_bodyCount, f_declaredTwice, f_liveDepth, f_position, a_tokenKind, a_tokenValue, a_printed, a_stack, a_bodyParent, a_bodyStart, a_declCount, a_paramCount, a_paramName, a_declKind, a_declTarget, a_tokenBody, a_branchTarget, a_liveBody, a_liveParent, a_returnTo, a_slotValue, a_slotHome, a_waitingOp, a_waitingLeft, a_leftKnown, a_argKind, a_argValue, a_argHome⟩ := u
    obtain ⟨rfl, rfl, rfl, rfl, rfl, rfl, rfl, rfl, rfl, hon, ht16, hT, hS, hM, hmd⟩ := hu
    have hk0 := gr_k01 hS.1
    have hdx := hS.2.2.2.2.2.2.2.1 0 j (by omega) hk0.2 hj
    rw [show gr_np K 0 * 16 + j = j by show 0 * 16 + j = j; omega] at hdx
    refine br_f hs (ow_isName (fun j' hj' e => br_f (by decide) ⟨vp_in_nI (by omega) (by decide), ?_⟩) (fun hb => (pt_nm_no hb hj rfl).elim))
    rw [nI_clamp (n := j) (by omega)]
    cases hd : gr_dc K V n 0 j with
    | none =>
      rw [hd] at hp
      rw [(hdx.1 hd).1]
      exact br_f (by decide) hp
    | some d =>
      rw [hd] at hp
      simp only at hp
      have hds := gr_dc_some hd
      have hKd := hT.2.1 d hds.1
      rw [(hdx.2 d hd).1]
      by_cases q3 : K d = 3
      · rw [if_pos q3] at hp
        refine br_t (by rw [q3]; rfl) ⟨vp_in_nI (by omega) (by decide), ?_⟩
        have := hM d hds.1 q3 hds.2.1
        rw [hds.2.2.1] at this
        rw [this]; exact hp
      · rw [if_neg q3] at hp
        exact br_f (fun h => q3 ((nI_eq (b := 3) (by omega) (by decide)).mp h)) hp
  · refine ⟨0, fun u hu post hp => ?_⟩
    have hs := sn u hu
    obtain ⟨f_depthLimit, f_state, f_trapCode, f_begun, f_tokenTotal, f_printedTotal, f_stackSize, f_bodyCount, f_declaredTwice, f_liveDepth, f_position, a_tokenKind, a_tokenValue, a_printed, a_stack, a_bodyParent, a_bodyStart, a_declCount, a_paramCount, a_paramName, a_declKind, a_declTarget, a_tokenBody, a_branchTarget, a_liveBody, a_liveParent, a_returnTo, a_slotValue, a_slotHome, a_waitingOp, a_waitingLeft, a_leftKnown, a_argKind, a_argValue, a_argHome⟩ := u
    exact br_f hs (ow_isName (fun j hj e => (pt_nm_no hx hj e).elim) (fun _ => br_t rfl hp))
theorem pt_seen {K V : Nat → Nat} {n lim : Nat} {kd vl : Nat → Int32} {A : pt_AS} (hA : pt_ok K A) (x : Int32) : ∃ r, ∀ u, pt_rel K V n lim kd vl A u → ∀ post : Int32 → Prop, post r → wpX_seen post u x := by
  obtain ⟨md, top, pc, on, ab, ap, rt, av, aq, ae, pr, ex, tc⟩ := A
  by_cases h0 : md = 0
  · subst h0
    rcases pt_nm x with ⟨j, hj, rfl⟩ | hx
    · refine ⟨match gr_lk K V n (ab top) j with | none => 0 | some d => (if K d = 3 ∨ K d = 5 then av (ac_al K V n ab ap j 15 top * 16 + j) else 0), fun u hu post hp => ?_⟩
      obtain ⟨f_depthLimit, f_state, f_trapCode, f_begun, f_tokenTotal, f_printedTotal, f_stackSize, f_bodyCount, f_declaredTwice, f_liveDepth, f_position, a_tokenKind, a_tokenValue, a_printed, a_stack, a_bodyParent, a_bodyStart, a_declCount, a_paramCount, a_paramName, a_declKind, a_declTarget, a_tokenBody, a_branchTarget, a_liveBody, a_liveParent, a_returnTo, a_slotValue, a_slotHome, a_waitingOp, a_waitingLeft, a_leftKnown, a_argKind, a_argValue, a_argHome⟩ := u
      obtain ⟨rfl, rfl, rfl, rfl, rfl, rfl, rfl, rfl, rfl, hon, ht16, hT, hS, hM, hmd⟩ := hu
      rcases hmd with ⟨_, rfl, _, rfl, hP, hR⟩ | ⟨h, _⟩ | ⟨h, _⟩ | ⟨h, _⟩
      · have ht := hR.1
        obtain ⟨b1, b2, b3, b4⟩ := hR.2.1 top (Nat.le_refl _)
        refine br_t rfl (ow_isName (fun j' hj' e => br_f (by decide) ⟨vp_in_nI (by omega) (by decide), ?_⟩) (fun hb => (pt_nm_no hb hj rfl).elim))
        rw [nI_clamp (n := top) (by omega), (hR.2.2.2.1 top (Nat.le_refl _)).1]
        refine xn_near hS.1 hS.2.1 (fun d hd => (hT.2.1 d hd).2) hS.2.2.2.2.1 hS.2.2.2.2.2.2.2.1 hj b1 b2 ?_
        refine rs_slot hS.1 hS.2.1 (fun d hd => (hT.2.1 d hd).2) hS.2.2.2.2.2.2.2.1 hj hR.2.1 ht (fun a h => (hR.2.2.2.1 a h).1) hR.2.2.2.2.1 (fun a h1 h2 => (hR.2.2.2.2.2.1 a h1 h2).1) ?_
        have hle : ac_al K V n ab ap j 15 top ≤ top := ac_al_le hR.2.1 15 top (Nat.le_refl _)
        have ix : vp_in (nI (ac_al K V n ab ap j 15 top * 16 + j)) 272 := vp_in_nI (by omega) (by decide)
        rw [nI_clamp (by omega)]
        cases hl : gr_lk K V n (ab top) j with
        | none =>
          rw [hl] at hp
          exact br_f (show ¬ nI 0 = 3 by decide) (br_f (show ¬ nI 0 = 5 by decide) hp)
        | some d =>
          rw [hl] at hp
          simp only at hp
          obtain ⟨a', ha', r1, r2, r3, r4, r5⟩ := rt_near hS.1 hS.2.1 hR hl
          have hkd := hT.2.1 d r2
          have hsl := (hR.2.2.2.2.2.2 a' r1 d r2 r5 r3).1
          rw [r4, ha'] at hsl
          by_cases q3 : K d = 3
          · rw [if_pos (.inl q3)] at hp
            refine br_t (by show nI (K d) = 3; rw [q3]; rfl) ⟨ix, ?_⟩
            rw [hsl (.inl q3)]; exact hp
          · refine br_f (fun h => q3 ((nI_eq (b := 3) (by omega) (by decide)).mp h)) ?_
            by_cases q5 : K d = 5
            · rw [if_pos (.inr q5)] at hp
              refine br_t (by show nI (K d) = 5; rw [q5]; rfl) ⟨ix, ?_⟩
              rw [hsl (.inr q5)]; exact hp
            · rw [if_neg (by omega)] at hp
              exact br_f (fun h => q5 ((nI_eq (b := 5) (by omega) (by decide)).mp h)) hp
      · omega
      · omega
      · omega
    · refine ⟨0, fun u hu post hp => ?_⟩
      obtain ⟨f_depthLimit, f_state, f_trapCode, f_begun, f_tokenTotal, f_printedTotal, f_stackSize, f_bodyCount, f_declaredTwice, f_liveDepth, f_position, a_tokenKind, a_tokenValue, a_printed, a_stack, a_bodyParent, a_bodyStart, a_declCount, a_paramCount, a_paramName, a_declKind, a_declTarget, a_tokenBody, a_branchTarget, a_liveBody, a_liveParent, a_returnTo, a_slotValue, a_slotHome, a_waitingOp, a_waitingLeft, a_leftKnown, a_argKind, a_argValue, a_argHome⟩ := u
      obtain ⟨_, _, _, _, _, _, _, _, _, _, _, _, _, _, hmd⟩ := hu
      rcases hmd with ⟨_, rfl, _⟩ | ⟨h, _⟩ | ⟨h, _⟩ | ⟨h, _⟩
      · exact br_t rfl (ow_isName (fun j hj e => (pt_nm_no hx hj e).elim) (fun _ => br_t rfl hp))
      · omega
      · omega
      · omega
  · refine ⟨0, fun u hu post hp => ?_⟩
    have hst := pt_st hu hA
    have h1 : ¬ u.2.1 = 1 := fun h2 => h0 (hst.mpr h2)
    obtain ⟨f_depthLimit, f_state, f_trapCode, f_begun, f_tokenTotal, f_printedTotal, f_stackSize, f_bodyCount, f_declaredTwice, f_liveDepth, f_position, a_tokenKind, a_tokenValue, a_printed, a_stack, a_bodyParent, a_bodyStart, a_declCount, a_paramCount, a_paramName, a_declKind, a_declTarget, a_tokenBody, a_branchTarget, a_liveBody, a_liveParent, a_returnTo, a_slotValue, a_slotHome, a_waitingOp, a_waitingLeft, a_leftKnown, a_argKind, a_argValue, a_argHome⟩ := u
    exact br_f h1 hp
