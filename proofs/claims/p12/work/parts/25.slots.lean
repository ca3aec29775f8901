variable {f_depthLimit f_state f_trapCode f_begun f_tokenTotal f_printedTotal f_stackSize f_bodyCount f_declaredTwice f_liveDepth f_position : Int32} {a_tokenKind a_tokenValue a_printed a_stack a_bodyParent a_bodyStart a_declCount a_paramCount a_paramName a_declKind a_declTarget a_tokenBody a_branchTarget a_liveBody a_liveParent a_returnTo a_slotValue a_slotHome a_waitingOp a_waitingLeft a_leftKnown a_argKind a_argValue a_argHome : Nat → Int32}
theorem rs_0 {post : Int32 → Prop} {x : Nat} (hx : x < 16) (hlb : a_liveBody 0 = nI 0) (hlp : a_liveParent 0 = 0) (hdk : a_declKind x = 0) (h : post (nI x)) : ∀ (d i f : Nat), i + d = 16 → d < f → wX_slotOf_7 post (nI x) f_depthLimit f_state f_trapCode f_begun f_tokenTotal f_printedTotal f_stackSize f_bodyCount f_declaredTwice f_liveDepth f_position a_tokenKind a_tokenValue a_printed a_stack a_bodyParent a_bodyStart a_declCount a_paramCount a_paramName a_declKind a_declTarget a_tokenBody a_branchTarget a_liveBody a_liveParent a_returnTo a_slotValue a_slotHome a_waitingOp a_waitingLeft a_leftKnown a_argKind a_argValue a_argHome f (nI 0) (nI i) := by
  have e0 : (0 : Nat) * 16 + x = x := by omega
  intro d
  induction d with
  | zero =>
    intro i f hi hf
    cases f with
    | zero => omega
    | succ f =>
      refine br_t (nI_le (a := 16) (by omega) (by omega)) ?_
      rw [li_m16, nI_add, e0]
      exact h
  | succ d ih =>
    intro i f hi hf
    cases f with
    | zero => omega
    | succ f =>
      refine br_f (nI_ge (b := 16) (by omega) (by decide)) ⟨vp_in_nI (by decide) (by decide), ?_⟩
      have ix := xn_idx (b := 0) (by decide) hx
      rw [show (nI 0).toNatClampNeg = 0 from rfl, hlb, ix.1, ix.2.2, e0, hlp]
      refine ⟨by rw [e0] at ix; exact ix.2.1, br_t hdk ⟨vp_in_nI (by decide) (by decide), nm_e (nm_r (nI_1 i) (ih (i + 1) f (by omega) (by omega)))⟩⟩
theorem rs_7 {post : Int32 → Prop} {K V : Nat → Nat} {n x top : Nat} {ab ap : Nat → Nat} (hn : gr_cf K n = some ([], 0)) (hL : gr_LM K n) (hK : ∀ d, d < n → 1 ≤ K d ∧ K d ≤ 26) (hD : sx_D K V n a_declKind a_declTarget) (hx : x < 16) (hE : ac_E K n ab ap top) (ht : top ≤ 16)
    (hlb : ∀ a, a ≤ top → a_liveBody a = nI (gr_np K (ab a))) (hl0 : a_liveParent 0 = 0) (hlp : ∀ a, 1 ≤ a → a ≤ top → a_liveParent a = nI (ap a)) :
    ∀ (h a i f : Nat), gr_np K (ab a) ≤ h → a ≤ top → i + h < 16 → 16 - i < f → post (nI (ac_al K V n ab ap x h a * 16 + x)) → wX_slotOf_7 post (nI x) f_depthLimit f_state f_trapCode f_begun f_tokenTotal f_printedTotal f_stackSize f_bodyCount f_declaredTwice f_liveDepth f_position a_tokenKind a_tokenValue a_printed a_stack a_bodyParent a_bodyStart a_declCount a_paramCount a_paramName a_declKind a_declTarget a_tokenBody a_branchTarget a_liveBody a_liveParent a_returnTo a_slotValue a_slotHome a_waitingOp a_waitingLeft a_leftKnown a_argKind a_argValue a_argHome f (nI a) (nI i) := by
  have at0 : ∀ (i f : Nat), i < 16 → 16 - i < f → gr_dc K V n (ab 0) x = none → post (nI x) → wX_slotOf_7 post (nI x) f_depthLimit f_state f_trapCode f_begun f_tokenTotal f_printedTotal f_stackSize f_bodyCount f_declaredTwice f_liveDepth f_position a_tokenKind a_tokenValue a_printed a_stack a_bodyParent a_bodyStart a_declCount a_paramCount a_paramName a_declKind a_declTarget a_tokenBody a_branchTarget a_liveBody a_liveParent a_returnTo a_slotValue a_slotHome a_waitingOp a_waitingLeft a_leftKnown a_argKind a_argValue a_argHome f (nI 0) (nI i) := by
    intro i f hi hf hd hp
    obtain ⟨b1, b2, b3, b4⟩ := hE 0 (Nat.zero_le _)
    have hb0 := b3 rfl
    have h1 := hlb 0 (Nat.zero_le _)
    have hdd := ((hD (ab 0) x b1 b2 hx).1 hd).1
    rw [hb0] at h1 hdd
    have e0 : gr_np K 0 * 16 + x = x := by show 0 * 16 + x = x; omega
    rw [e0] at hdd
    exact rs_0 hx h1 hl0 hdd hp (16 - i) i f (by omega) hf
  have fnd : ∀ (a i f d : Nat), a ≤ top → i < 16 → 0 < f → gr_dc K V n (ab a) x = some d → post (nI (a * 16 + x)) → wX_slotOf_7 post (nI x) f_depthLimit f_state f_trapCode f_begun f_tokenTotal f_printedTotal f_stackSize f_bodyCount f_declaredTwice f_liveDepth f_position a_tokenKind a_tokenValue a_printed a_stack a_bodyParent a_bodyStart a_declCount a_paramCount a_paramName a_declKind a_declTarget a_tokenBody a_branchTarget a_liveBody a_liveParent a_returnTo a_slotValue a_slotHome a_waitingOp a_waitingLeft a_leftKnown a_argKind a_argValue a_argHome f (nI a) (nI i) := by
    intro a i f d ha hi hf hd hp
    obtain ⟨b1, b2, b3, b4⟩ := hE a ha
    have hb16 : gr_np K (ab a) < 16 := by have := @gr_np_mono K (ab a) n (by omega); have := hL.1; omega
    have hdd := (hD (ab a) x b1 b2 hx).2 d hd
    have hKd := hK d (gr_dc_some hd).1
    have ix := xn_idx hb16 hx
    cases f with
    | zero => omega
    | succ f =>
      refine br_f (nI_ge (b := 16) (by omega) (by decide)) ⟨vp_in_nI (by omega) (by decide), ?_⟩
      rw [nI_clamp (n := a) (by omega), hlb a ha, ix.1, ix.2.2, hdd.1]
      refine ⟨ix.2.1, br_f (nI_ne0 (by omega) (by omega)) ?_⟩
      rw [li_m16, nI_add]
      exact hp
  intro h
  induction h with
  | zero =>
    intro a i f hb ha hi hf hp
    have h0 : a = 0 := ac_b0 hn hE ha (by omega)
    subst h0
    cases hd : gr_dc K V n (ab 0) x with
    | some d => exact fnd 0 i f d ha (by omega) (by omega) hd hp
    | none =>
      refine at0 i f (by omega) hf hd ?_
      have : ac_al K V n ab ap x 0 0 * 16 + x = x := by simp [ac_al]
      rw [this] at hp
      exact hp
  | succ h ih =>
    intro a i f hb ha hi hf hp
    cases hd : gr_dc K V n (ab a) x with
    | some d =>
      rw [ac_al_s (by rw [hd]; simp)] at hp
      exact fnd a i f d ha (by omega) (by omega) hd hp
    | none =>
      by_cases h0 : a = 0
      · subst h0
        rw [ac_al_0] at hp
        exact at0 i f (by omega) hf hd (by rw [show 0 * 16 + x = x by omega] at hp; exact hp)
      · obtain ⟨b1, b2, b3, b4⟩ := hE a ha
        have c := b4 h0
        have hlt := gr_pa_lt hn b1 b2 c.2
        rw [ac_al_n hd h0] at hp
        have hb16 : gr_np K (ab a) < 16 := by have := @gr_np_mono K (ab a) n (by omega); have := hL.1; omega
        have hdd := ((hD (ab a) x b1 b2 hx).1 hd).1
        have ix := xn_idx hb16 hx
        cases f with
        | zero => omega
        | succ f =>
          refine br_f (nI_ge (b := 16) (by omega) (by decide)) ⟨vp_in_nI (by omega) (by decide), ?_⟩
          rw [nI_clamp (n := a) (by omega), hlb a ha, ix.1, ix.2.2, hlp a (by omega) ha]
          exact ⟨ix.2.1, br_t hdd ⟨vp_in_nI (by omega) (by decide), nm_e (nm_r (nI_1 i) (ih (ap a) (i + 1) f (by omega) (by omega) (by omega) (by omega) hp))⟩⟩
theorem rs_slot {post : Int32 → Prop} {K V : Nat → Nat} {n x top : Nat} {ab ap : Nat → Nat} (hn : gr_cf K n = some ([], 0)) (hL : gr_LM K n) (hK : ∀ d, d < n → 1 ≤ K d ∧ K d ≤ 26) (hD : sx_D K V n a_declKind a_declTarget) (hx : x < 16) (hE : ac_E K n ab ap top) (ht : top ≤ 16)
    (hlb : ∀ a, a ≤ top → a_liveBody a = nI (gr_np K (ab a))) (hl0 : a_liveParent 0 = 0) (hlp : ∀ a, 1 ≤ a → a ≤ top → a_liveParent a = nI (ap a)) (h : post (nI (ac_al K V n ab ap x 15 top * 16 + x))) : wpX_slotOf post (f_depthLimit, f_state, f_trapCode, f_begun, f_tokenTotal, f_printedTotal, f_stackSize, f_bodyCount, f_declaredTwice, nI top, f_position, a_tokenKind, a_tokenValue, a_printed, a_stack, a_bodyParent, a_bodyStart, a_declCount, a_paramCount, a_paramName, a_declKind, a_declTarget, a_tokenBody, a_branchTarget, a_liveBody, a_liveParent, a_returnTo, a_slotValue, a_slotHome, a_waitingOp, a_waitingLeft, a_leftKnown, a_argKind, a_argValue, a_argHome) (nI x) := by
  unfold wpX_slotOf
  refine ⟨17, rs_7 hn hL hK hD hx hE ht hlb hl0 hlp 15 top 0 17 ?_ (Nat.le_refl _) (by omega) (by omega) h⟩
  have := (hE top (Nat.le_refl _)).1
  have := @gr_np_mono K (ab top) n (by omega)
  have := hL.1
  omega
