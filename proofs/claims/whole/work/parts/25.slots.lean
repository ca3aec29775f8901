variable {f_depthLimit f_state f_trapCode f_begun f_tokenTotal f_printedTotal f_stackSize f_bodyCount f_declaredTwice f_liveDepth f_position : Int32} {a_tokenKind a_tokenValue a_printed a_stack a_bodyParent a_bodyStart a_declCount a_paramCount a_paramName a_declKind a_declTarget a_tokenBody a_branchTarget a_liveBody a_liveParent a_returnTo a_slotValue a_slotHome a_waitingOp a_waitingLeft a_leftKnown a_argKind a_argValue a_argHome : Nat → Int32}
variable {g_n g_limit g_status g_trapCode g_exec g_top g_outN g_pc g_evEnd g_rq g_re : Int32} {b_kind b_val b_bod b_par b_lnk b_st b_si b_stk b_out b_abody b_apar b_aret b_avar b_apq b_ape b_tk b_tv b_tq b_te : Nat → Int32}
theorem rs_0 {post : Int32 → Prop} {x : Nat} (hx : x < 16) (hlb : a_liveBody 0 = nI 0) (hlp : a_liveParent 0 = 0) (hdk : a_declKind x = 0) (h : post (nI x)) : ∀ (d i f : Nat), i + d = 16 → d < f → wX_slotOf_7 post (nI x) f_depthLimit f_state f_trapCode f_begun f_tokenTotal f_printedTotal f_stackSize f_bodyCount f_declaredTwice f_liveDepth f_position a_tokenKind a_tokenValue a_printed a_stack a_bodyParent a_bodyStart a_declCount a_paramCount a_paramName a_declKind a_declTarget a_tokenBody a_branchTarget a_liveBody a_liveParent a_returnTo a_slotValue a_slotHome a_waitingOp a_waitingLeft a_leftKnown a_argKind a_argValue a_argHome f (nI 0) (nI i) := by
  have e0 : (0 : Nat) * 16 + x = x := by omega
  intro d
  induction d with
  | zero =>
    intro i f hi hf
    cases f with
    | zero => omega
    | succ f =>
      refine br_t (nI_le (a := 16) (by omega) (by omega)) ?_
      rw [li_m16, nI_add, e0]
      exact h
  | succ d ih =>
    intro i f hi hf
    cases f with
    | zero => omega
    | succ f =>
      refine br_f (nI_ge (b := 16) (by omega) (by decide)) ⟨vp_in_nI (by decide) (by decide), ?_⟩
      have ix := xn_idx (b := 0) (by decide) hx
      rw [show (nI 0).toNatClampNeg = 0 from rfl, hlb, ix.1, ix.2.2, e0, hlp]
      refine ⟨by rw [e0] at ix; exact ix.2.1, br_t hdk ⟨vp_in_nI (by decide) (by decide), nm_e (nm_r (nI_1 i) (ih (i + 1) f (by omega) (by omega)))⟩⟩
theorem rs_7 {post : Int32 → Prop} {K V : Nat → Nat} {n x top : Nat} {ab ap : Nat → Nat} (hn : gr_cf K n = some ([], 0)) (hL : gr_LM K n) (hK : ∀ d, d < n → 1 ≤ K d ∧ K d ≤ 26) (hD : sx_D K V n a_declKind a_declTarget) (hx : x < 16) (hE : ac_E K n ab ap top) (ht : top ≤ 16)
    (hlb : ∀ a, a ≤ top → a_liveBody a = nI (gr_np K (ab a))) (hl0 : a_liveParent 0 = 0) (hlp : ∀ a, 1 ≤ a → a ≤ top → a_liveParent a = nI (ap a)) :
    ∀ (h a i f : Nat), gr_np K (ab a) ≤ h → a ≤ top → i + h < 16 → 16 - i < f → post (nI (ac_al K V n ab ap x h a * 16 + x)) → wX_slotOf_7 post (nI x) f_depthLimit f_state f_trapCode f_begun f_tokenTotal f_printedTotal f_stackSize f_bodyCount f_declaredTwice f_liveDepth f_position a_tokenKind a_tokenValue a_printed a_stack a_bodyParent a_bodyStart a_declCount a_paramCount a_paramName a_declKind a_declTarget a_tokenBody a_branchTarget a_liveBody a_liveParent a_returnTo a_slotValue a_slotHome a_waitingOp a_waitingLeft a_leftKnown a_argKind a_argValue a_argHome f (nI a) (nI i) := by
  have at0 : ∀ (i f : Nat), i < 16 → 16 - i < f → gr_dc K V n (ab 0) x = none → post (nI x) → wX_slotOf_7 post (nI x) f_depthLimit f_state f_trapCode f_begun f_tokenTotal f_printedTotal f_stackSize f_bodyCount f_declaredTwice f_liveDepth f_position a_tokenKind a_tokenValue a_printed a_stack a_bodyParent a_bodyStart a_declCount a_paramCount a_paramName a_declKind a_declTarget a_tokenBody a_branchTarget a_liveBody a_liveParent a_returnTo a_slotValue a_slotHome a_waitingOp a_waitingLeft a_leftKnown a_argKind a_argValue a_argHome f (nI 0) (nI i) := by
    intro i f hi hf hd hp
    obtain ⟨b1, b2, b3, b4⟩ := hE 0 (Nat.zero_le _)
    have hb0 := b3 rfl
    have h1 := hlb 0 (Nat.zero_le _)
    have hdd := ((hD (ab 0) x b1 b2 hx).1 hd).1
    rw [hb0] at h1 hdd
    have e0 : gr_np K 0 * 16 + x = x := by show 0 * 16 + x = x; omega
    rw [e0] at hdd
    exact rs_0 hx h1 hl0 hdd hp (16 - i) i f (by omega) hf
  have fnd : ∀ (a i f d : Nat), a ≤ top → i < 16 → 0 < f → gr_dc K V n (ab a) x = some d → post (nI (a * 16 + x)) → wX_slotOf_7 post (nI x) f_depthLimit f_state f_trapCode f_begun f_tokenTotal f_printedTotal f_stackSize f_bodyCount f_declaredTwice f_liveDepth f_position a_tokenKind a_tokenValue a_printed a_stack a_bodyParent a_bodyStart a_declCount a_paramCount a_paramName a_declKind a_declTarget a_tokenBody a_branchTarget a_liveBody a_liveParent a_returnTo a_slotValue a_slotHome a_waitingOp a_waitingLeft a_leftKnown a_argKind a_argValue a_argHome f (nI a) (nI i) := by
    intro a i f d ha hi hf hd hp
    obtain ⟨b1, b2, b3, b4⟩ := hE a ha
    have hb16 : gr_np K (ab a) < 16 := by have := @gr_np_mono K (ab a) n (by omega); have := hL.1; omega
    have hdd := (hD (ab a) x b1 b2 hx).2 d hd
    have hKd := hK d (gr_dc_some hd).1
    have ix := xn_idx hb16 hx
    cases f with
    | zero => omega
    | succ f =>
      refine br_f (nI_ge (b := 16) (by omega) (by decide)) ⟨vp_in_nI (by omega) (by decide), ?_⟩
      rw [nI_clamp (n := a) (by omega), hlb a ha, ix.1, ix.2.2, hdd.1]
      refine ⟨ix.2.1, br_f (nI_ne0 (by omega) (by omega)) ?_⟩
      rw [li_m16, nI_add]
      exact hp
  intro h
  induction h with
  | zero =>
    intro a i f hb ha hi hf hp
    have h0 : a = 0 := ac_b0 hn hE ha (by omega)
    subst h0
    cases hd : gr_dc K V n (ab 0) x with
    | some d => exact fnd 0 i f d ha (by omega) (by omega) hd hp
    | none =>
      refine at0 i f (by omega) hf hd ?_
      have : ac_al K V n ab ap x 0 0 * 16 + x = x := by simp [ac_al]
      rw [this] at hp
      exact hp
  | succ h ih =>
    intro a i f hb ha hi hf hp
    cases hd : gr_dc K V n (ab a) x with
    | some d =>
      rw [ac_al_s (by rw [hd]; simp)] at hp
      exact fnd a i f d ha (by omega) (by omega) hd hp
    | none =>
      by_cases h0 : a = 0
      · subst h0
        rw [ac_al_0] at hp
        exact at0 i f (by omega) hf hd (by rw [show 0 * 16 + x = x by omega] at hp; exact hp)
      · obtain ⟨b1, b2, b3, b4⟩ := hE a ha
        have c := b4 h0
        have hlt := gr_pa_lt hn b1 b2 c.2
        rw [ac_al_n hd h0] at hp
        have hb16 : gr_np K (ab a) < 16 := by have := @gr_np_mono K (ab a) n (by omega); have := hL.1; omega
        have hdd := ((hD (ab a) x b1 b2 hx).1 hd).1
        have ix := xn_idx hb16 hx
        cases f with
        | zero => omega
        | succ f =>
          refine br_f (nI_ge (b := 16) (by omega) (by decide)) ⟨vp_in_nI (by omega) (by decide), ?_⟩
          rw [nI_clamp (n := a) (by omega), hlb a ha, ix.1, ix.2.2, hlp a (by omega) ha]
          exact ⟨ix.2.1, br_t hdd ⟨vp_in_nI (by omega) (by decide), nm_e (nm_r (nI_1 i) (ih (ap a) (i + 1) f (by omega) (by omega) (by omega) (by omega) hp))⟩⟩
theorem rs_slot {post : Int32 → Prop} {K V : Nat → Nat} {n x top : Nat} {ab ap : Nat → Nat} (hn : gr_cf K n = some ([], 0)) (hL : gr_LM K n) (hK : ∀ d, d < n → 1 ≤ K d ∧ K d ≤ 26) (hD : sx_D K V n a_declKind a_declTarget) (hx : x < 16) (hE : ac_E K n ab ap top) (ht : top ≤ 16)
    (hlb : ∀ a, a ≤ top → a_liveBody a = nI (gr_np K (ab a))) (hl0 : a_liveParent 0 = 0) (hlp : ∀ a, 1 ≤ a → a ≤ top → a_liveParent a = nI (ap a)) (h : post (nI (ac_al K V n ab ap x 15 top * 16 + x))) : wpX_slotOf post (f_depthLimit, f_state, f_trapCode, f_begun, f_tokenTotal, f_printedTotal, f_stackSize, f_bodyCount, f_declaredTwice, nI top, f_position, a_tokenKind, a_tokenValue, a_printed, a_stack, a_bodyParent, a_bodyStart, a_declCount, a_paramCount, a_paramName, a_declKind, a_declTarget, a_tokenBody, a_branchTarget, a_liveBody, a_liveParent, a_returnTo, a_slotValue, a_slotHome, a_waitingOp, a_waitingLeft, a_leftKnown, a_argKind, a_argValue, a_argHome) (nI x) := by
  unfold wpX_slotOf
  refine ⟨17, rs_7 hn hL hK hD hx hE ht hlb hl0 hlp 15 top 0 17 ?_ (Nat.le_refl _) (by omega) (by omega) h⟩
  have := (hE top (Nat.le_refl _)).1
  have := @gr_np_mono K (ab top) n (by omega)
  have := hL.1
  omega
theorem rs_33 {post : Int32 → Prop} {K V : Nat → Nat} {n x top d : Nat} {ab ap : Nat → Nat} (hn : gr_cf K n = some ([], 0)) (h256 : n ≤ 256) (hE : ac_E K n ab ap top) (ht : top ≤ 16) (hbo : ∀ i, i < n → b_bod i = nI (gr_bo K n i))
    (hyb : ∀ a, a ≤ top → b_abody a = nI (ab a)) (hyp : ∀ a, 1 ≤ a → a ≤ top → b_apar a = nI (ap a)) (hd : d < n ∧ V d = x ∧ gr_D (K d)) :
    ∀ (h a i f : Nat), gr_np K (ab a) ≤ h → a ≤ top → i + h < 17 → h < f → gr_lk K V n (ab a) x = some d → post (nI (ac_al K V n ab ap x h a)) → wY_find_33 post (nI d) g_n g_limit g_status g_trapCode g_exec g_top g_outN g_pc g_evEnd g_rq g_re b_kind b_val b_bod b_par b_lnk b_st b_si b_stk b_out b_abody b_apar b_aret b_avar b_apq b_ape b_tk b_tv b_tq b_te f (nI a) (nI i) := by
  have hbl : gr_bo K n d < n := by
    obtain ⟨L, e, hc⟩ := gr_exle hn (Nat.le_of_lt hd.1)
    exact (gr_xbo hn hd.1 hc).2.2
  intro h
  induction h with
  | zero =>
    intro a i f hb ha hi hf hl hp
    have h0 : a = 0 := ac_b0 hn hE ha (by omega)
    subst h0
    cases f with
    | zero => omega
    | succ f => exact br_f (nI_ge (b := 17) (by omega) (by decide)) (br_t (by decide) hp)
  | succ h ih =>
    intro a i f hb ha hi hf hl hp
    cases f with
    | zero => omega
    | succ f =>
      refine br_f (nI_ge (b := 17) (by omega) (by decide)) ?_
      by_cases h0 : a = 0
      · subst h0
        rw [ac_al_0] at hp
        exact br_t (by decide) hp
      · obtain ⟨b1, b2, b3, b4⟩ := hE a ha
        have ia : vp_in (nI a) 17 := vp_in_nI (by omega) (by decide)
        refine br_f (nI_nle (by omega) (by omega)) ⟨ia, vp_in_nI (by omega) (by decide), ?_⟩
        rw [nI_clamp (n := a) (by omega), nI_clamp (n := d) (by omega), hyb a ha, hbo d hd.1]
        cases hdc : gr_dc K V n (ab a) x with
        | some d2 =>
          rw [gr_lk_d hdc] at hl
          injection hl with hl
          subst hl
          rw [ac_al_s (by rw [hdc]; simp)] at hp
          exact br_t (by rw [(gr_dc_some hdc).2.1]) hp
        | none =>
          have c := b4 h0
          have hlt := gr_pa_lt hn b1 b2 c.2
          rw [ac_al_n hdc h0] at hp
          rw [gr_lk_p hn b1 b2 hdc c.2] at hl
          rw [hyp a (by omega) ha]
          exact br_f (fun h => gr_dc_none hdc d hd.1 ((nI_eq (by omega) (by omega)).mp h).symm hd.2.1 hd.2.2) ⟨ia, nm_e (nm_r (nI_1 i) (ih (ap a) (i + 1) f (by omega) (by omega) (by omega) (by omega) hl hp))⟩
theorem rs_find {post : Int32 → Prop} {K V : Nat → Nat} {n x top : Nat} {ab ap : Nat → Nat} (hn : gr_cf K n = some ([], 0)) (hL : gr_LM K n) (h256 : n ≤ 256) (htk : ∀ i, i < n → b_kind i = nI (K i) ∧ 1 ≤ K i ∧ K i ≤ 26) (htv : ∀ i, i < n → gr_D (K i) → b_val i = nI (V i) ∧ V i < 16)
    (hE : ac_E K n ab ap top) (ht : top ≤ 16) (hbo : ∀ i, i < n → b_bod i = nI (gr_bo K n i)) (hpa : ∀ b, b < n → K b = 1 → b_par b = yb_p (gr_pa K b))
    (hyb : ∀ a, a ≤ top → b_abody a = nI (ab a)) (hyp : ∀ a, 1 ≤ a → a ≤ top → b_apar a = nI (ap a)) (hx : x < 16) (hs : ∀ d, gr_lk K V n (ab top) x = some d → post (nI (ac_al K V n ab ap x 15 top))) (h0 : gr_lk K V n (ab top) x = none → post (nI 0)) :
    wpY_find post (nI n, g_limit, g_status, g_trapCode, g_exec, g_top, g_outN, g_pc, g_evEnd, g_rq, g_re, b_kind, b_val, b_bod, b_par, b_lnk, b_st, b_si, b_stk, b_out, b_abody, b_apar, b_aret, b_avar, b_apq, b_ape, b_tk, b_tv, b_tq, b_te) (nI top) (nI x) := by
  unfold wpY_find
  obtain ⟨b1, b2, b3, b4⟩ := hE top (Nat.le_refl _)
  refine br_f (nI_pos (by omega)) (br_t (nI_le (b := 16) ht (by decide)) ⟨vp_in_nI (by omega) (by decide), ?_⟩)
  rw [nI_clamp (by omega), hyb top (Nat.le_refl _)]
  refine yn_decl hn h256 htk htv hbo hpa hx b1 b2 ?_
  cases hlk : gr_lk K V n (ab top) x with
  | none => exact br_f (by decide) (h0 hlk)
  | some d =>
    have hd := yn_lk _ _ hlk
    refine br_t (nI_pos' (by omega)) ⟨17, rs_33 hn h256 hE ht hbo hyb hyp hd 15 top 0 17 ?_ (Nat.le_refl _) (by omega) (by omega) hlk (hs d hlk)⟩
    have := @gr_np_mono K (ab top) n (by omega)
    have := hL.1
    omega
