variable {f_depthLimit f_state f_trapCode f_begun f_tokenTotal f_printedTotal f_stackSize f_bodyCount f_declaredTwice f_liveDepth f_position : Int32} {a_tokenKind a_tokenValue a_printed a_stack a_bodyParent a_bodyStart a_declCount a_paramCount a_paramName a_declKind a_declTarget a_tokenBody a_branchTarget a_liveBody a_liveParent a_returnTo a_slotValue a_slotHome a_waitingOp a_waitingLeft a_leftKnown a_argKind a_argValue a_argHome : Nat → Int32}
theorem pt_out {K V : Nat → Nat} {n lim : Nat} {kd vl : Nat → Int32} {A : pt_AS} (x : Int32) : ∃ r, ∀ u, pt_rel K V n lim kd vl A u → ∀ post : Int32 → Prop, post r → wpX_output post u x := by
  obtain ⟨md, top, pc, on, ab, ap, rt, av, aq, ae, pr, ex, tc⟩ := A
  by_cases h0 : x < 0
  · refine ⟨0, fun u hu post hp => ?_⟩
    obtain ⟨f_depthLimit, f_state, f_trapCode, f_begun, f_tokenTotal, f_printedTotal, f_stackSize, f_bodyCount, f_declaredTwice, f_liveDepth, f_position, a_tokenKind, a_tokenValue, a_printed, a_stack, a_bodyParent, a_bodyStart, a_declCount, a_paramCount, a_paramName, a_declKind, a_declTarget, a_tokenBody, a_branchTarget, a_liveBody, a_liveParent, a_returnTo, a_slotValue, a_slotHome, a_waitingOp, a_waitingLeft, a_leftKnown, a_argKind, a_argValue, a_argHome⟩ := u
    exact br_t h0 hp
  · by_cases h1 : nI on ≤ x
    · refine ⟨0, fun u hu post hp => ?_⟩
      obtain ⟨f_depthLimit, f_state, f_trapCode, f_begun, f_tokenTotal, f_printedTotal, f_stackSize, f_bodyCount, f_declaredTwice, f_liveDepth, f_position, a_tokenKind, a_tokenValue, a_printed, a_stack, a_bodyParent, a_bodyStart, a_declCount, a_paramCount, a_paramName, a_declKind, a_declTarget, a_tokenBody, a_branchTarget, a_liveBody, a_liveParent, a_returnTo, a_slotValue, a_slotHome, a_waitingOp, a_waitingLeft, a_leftKnown, a_argKind, a_argValue, a_argHome⟩ := u
      obtain ⟨_, _, _, rfl, _⟩ := hu
      exact br_f h0 (br_t h1 hp)
    · obtain ⟨j, hj, rfl⟩ := nI_of h0
      refine ⟨pr j, fun u hu post hp => ?_⟩
      obtain ⟨f_depthLimit, f_state, f_trapCode, f_begun, f_tokenTotal, f_printedTotal, f_stackSize, f_bodyCount, f_declaredTwice, f_liveDepth, f_position, a_tokenKind, a_tokenValue, a_printed, a_stack, a_bodyParent, a_bodyStart, a_declCount, a_paramCount, a_paramName, a_declKind, a_declTarget, a_tokenBody, a_branchTarget, a_liveBody, a_liveParent, a_returnTo, a_slotValue, a_slotHome, a_waitingOp, a_waitingLeft, a_leftKnown, a_argKind, a_argValue, a_argHome⟩ := u
      obtain ⟨_, _, _, rfl, _, _, rfl, _, _, hon, _⟩ := hu
      refine br_f h0 (br_f h1 ?_)
      rw [nI_leI (by omega) hj] at h1
      refine ⟨vp_in_nI (by omega) (by decide), ?_⟩
      rw [nI_clamp hj]
      exact hp
/-- what the law needs of two objects that were compiled from the same tokens: R k, 'k statements of fuel were given' -/
def la_R (R : Nat → St2 → Prop) : Prop :=
  (∀ (k : Nat) (u : St2) (v : Int32) (F : Nat) (post : Int32 → St2 → Prop), R k u → pt_fu v F → (∀ u', R (k + F) u' → post u'.2.1 u') → wpX_run post u v) ∧
  (∀ k, 0 < k → ∀ u w : St2, R k u → R k w → u.2.1 = w.2.1 ∧ u.2.2.1 = w.2.2.1 ∧ u.2.2.2.1 = w.2.2.2.1 ∧ u.2.2.2.2.2.1 = w.2.2.2.2.2.1 ∧ u.2.2.2.2.2.2.2.2.2.1 = w.2.2.2.2.2.2.2.2.2.1) ∧
  (∀ k, 0 < k → ∀ x : Int32, ∃ r, ∀ u, R k u → ∀ post : Int32 → Prop, post r → wpX_mainVar post u x) ∧
  (∀ k, 0 < k → ∀ x : Int32, ∃ r, ∀ u, R k u → ∀ post : Int32 → Prop, post r → wpX_seen post u x) ∧
  (∀ k, 0 < k → ∀ x : Int32, ∃ r, ∀ u, R k u → ∀ post : Int32 → Prop, post r → wpX_output post u x) ∧
  (∀ k, 0 < k → ∀ u : St2, R k u → ∃ e, e ≤ k ∧ u.2.2.2.1 = nI e ∧ (u.2.1 = 1 → e = k))
theorem la_ex {K V : Nat → Nat} {n lim : Nat} {kd vl : Nat → Int32} {A : pt_AS} {u : St2} (h : pt_rel K V n lim kd vl A u) : u.2.2.2.1 = pt_ex A := by
  obtain ⟨f_depthLimit, f_state, f_trapCode, f_begun, f_tokenTotal, f_printedTotal, f_stackSize, f_bodyCount, f_declaredTwice, f_liveDepth, f_position, a_tokenKind, a_tokenValue, a_printed, a_stack, a_bodyParent, a_bodyStart, a_declCount, a_paramCount, a_paramName, a_declKind, a_declTarget, a_tokenBody, a_branchTarget, a_liveBody, a_liveParent, a_returnTo, a_slotValue, a_slotHome, a_waitingOp, a_waitingLeft, a_leftKnown, a_argKind, a_argValue, a_argHome⟩ := u
  obtain ⟨md, top, pc, on, ab, ap, rt, av, aq, ae, pr, ex, tc⟩ := A
  exact h.2.1
theorem la_ride {lim : Nat} {u : St2} (h : pt_edt lim u) (hl : lim ≤ 16) : ∃ R, la_R R ∧ ∀ post : Int32 → St2 → Prop, (∀ r u', ¬ r = 0 → post r u') → (∀ u', R 0 u' → post 0 u') → wpX_compile post u := by
  obtain ⟨K, V, n, kd, vl, B, hB0, hBx, hc⟩ := pt_compile h
  by_cases hex : ∃ u1, pt_rel K V n lim kd vl B u1
  · obtain ⟨u1, hu1⟩ := hex
    obtain ⟨md, top, pc, on, ab, ap, rt, av, aq, ae, pr, ex, tc⟩ := B
    have hmd0 : md = 0 := hB0
    subst hmd0
    have hex0 : ex = 0 := hBx
    subst hex0
    have s1 : ∀ z : St2, pt_rel K V n lim kd vl (0, top, pc, on, ab, ap, rt, av, aq, ae, pr, 0, tc) z → z.2.1 = 1 ∧ tc = 0 := by
      intro z hz
      obtain ⟨f_depthLimit, f_state, f_trapCode, f_begun, f_tokenTotal, f_printedTotal, f_stackSize, f_bodyCount, f_declaredTwice, f_liveDepth, f_position, a_tokenKind, a_tokenValue, a_printed, a_stack, a_bodyParent, a_bodyStart, a_declCount, a_paramCount, a_paramName, a_declKind, a_declTarget, a_tokenBody, a_branchTarget, a_liveBody, a_liveParent, a_returnTo, a_slotValue, a_slotHome, a_waitingOp, a_waitingLeft, a_leftKnown, a_argKind, a_argValue, a_argHome⟩ := z
      obtain ⟨_, _, _, _, _, _, _, _, _, _, _, _, _, _, hmd⟩ := hz
      rcases hmd with ⟨_, h, h2, _⟩ | ⟨h, _⟩ | ⟨h, _⟩ | ⟨h, _⟩
      · exact ⟨h, h2⟩
      · exact absurd h (by decide)
      · exact absurd h (by decide)
      · exact absurd h (by decide)
    have htc : tc = 0 := (s1 u1 hu1).2
    subst htc
    obtain ⟨A1, hok, hx, hst⟩ := pt_stl hu1
    obtain ⟨nx, hnx⟩ := pt_course (K := K) (V := V) (n := n) (lim := lim) kd vl hl
    refine ⟨fun k u => (k = 0 ∧ pt_rel K V n lim kd vl (0, top, pc, on, ab, ap, rt, av, aq, ae, pr, 0, 0) u) ∨ (0 < k ∧ pt_rel K V n lim kd vl (pt_s nx A1 k) u), ⟨?_, ?_, ?_, ?_, ?_, ?_⟩, fun post hb hg => hc post hb (fun u' hu' => hg u' (.inl ⟨rfl, hu'⟩))⟩
    · intro k u v F post hR hF hp
      have hF1 := hF.1
      rcases hR with ⟨rfl, hr⟩ | ⟨hk, hr⟩
      · exact pt_run1 (B := A1) hnx hok hF (s1 u hr).1 (hst u hr) (fun u' hu' => hp u' (.inr ⟨by omega, by rw [Nat.zero_add]; exact hu'⟩))
      · exact pt_runs hnx hok hF hr (fun u' hu' => hp u' (.inr ⟨by omega, hu'⟩))
    · intro k hk u w hu hw
      rcases hu with ⟨rfl, _⟩ | ⟨_, hu⟩
      · omega
      · rcases hw with ⟨rfl, _⟩ | ⟨_, hw⟩
        · omega
        · have hs := pt_same hu hw (pt_s_ok hnx hok k)
          exact ⟨hs.1, hs.2.1, hs.2.2.1, hs.2.2.2.1, hs.2.2.2.2.1⟩
    · intro k hk x
      obtain ⟨r, hr⟩ := pt_main (V := V) (n := n) (lim := lim) (kd := kd) (vl := vl) (pt_s_ok hnx hok k) x
      exact ⟨r, fun u hu post hp => hu.elim (fun h => absurd h.1 (by omega)) (fun h => hr u h.2 post hp)⟩
    · intro k hk x
      obtain ⟨r, hr⟩ := pt_seen (V := V) (n := n) (lim := lim) (kd := kd) (vl := vl) (pt_s_ok hnx hok k) x
      exact ⟨r, fun u hu post hp => hu.elim (fun h => absurd h.1 (by omega)) (fun h => hr u h.2 post hp)⟩
    · intro k hk x
      obtain ⟨r, hr⟩ := pt_out (K := K) (V := V) (n := n) (lim := lim) (kd := kd) (vl := vl) (A := pt_s nx A1 k) x
      exact ⟨r, fun u hu post hp => hu.elim (fun h => absurd h.1 (by omega)) (fun h => hr u h.2 post hp)⟩
    · intro k hk u hu
      rcases hu with ⟨rfl, _⟩ | ⟨_, hu⟩
      · omega
      · obtain ⟨e, e1, e2, e3⟩ := pt_s_ex hnx hok hx k
        exact ⟨e, e1, (la_ex hu).trans e2, fun h1 => e3 ((pt_st hu (pt_s_ok hnx hok k)).mpr h1)⟩
  · refine ⟨fun _ _ => False, ⟨fun _ _ _ _ _ h => h.elim, fun _ _ _ _ h => h.elim, fun _ _ _ => ⟨0, fun _ h => h.elim⟩, fun _ _ _ => ⟨0, fun _ h => h.elim⟩, fun _ _ _ => ⟨0, fun _ h => h.elim⟩, fun _ _ _ h => h.elim⟩, fun post hb _ => hc post hb (fun u' hu' => absurd ⟨u', hu'⟩ hex)⟩
theorem la_fu {F : Nat} (h1 : 1 ≤ F) (h2 : F ≤ 256) : pt_fu (nI F) F := ⟨h1, h2, .inl ⟨nI_le (a := 1) h1 (by omega), nI_le (b := 256) h2 (by decide), rfl⟩⟩
