variable {f_depthLimit f_state f_trapCode f_begun f_tokenTotal f_printedTotal f_stackSize f_bodyCount f_declaredTwice f_liveDepth f_position : Int32} {a_tokenKind a_tokenValue a_printed a_stack a_bodyParent a_bodyStart a_declCount a_paramCount a_paramName a_declKind a_declTarget a_tokenBody a_branchTarget a_liveBody a_liveParent a_returnTo a_slotValue a_slotHome a_waitingOp a_waitingLeft a_leftKnown a_argKind a_argValue a_argHome : Nat → Int32}
/-- an object that is being edited -/
def pt_edt (lim : Nat) (u : St2) : Prop := match u with
  | (f_depthLimit, f_state, f_trapCode, f_begun, f_tokenTotal, f_printedTotal, f_stackSize, f_bodyCount, f_declaredTwice, f_liveDepth, f_position, a_tokenKind, a_tokenValue, a_printed, a_stack, a_bodyParent, a_bodyStart, a_declCount, a_paramCount, a_paramName, a_declKind, a_declTarget, a_tokenBody, a_branchTarget, a_liveBody, a_liveParent, a_returnTo, a_slotValue, a_slotHome, a_waitingOp, a_waitingLeft, a_leftKnown, a_argKind, a_argValue, a_argHome) => ∃ (K V : Nat → Nat) (n : Nat), f_depthLimit = nI lim ∧ f_state = 0 ∧ f_tokenTotal = nI n ∧ rt_TK K V n a_tokenKind a_tokenValue
theorem ow_TK {K V : Nat → Nat} {n k x : Nat} {kd vl : Nat → Int32} {w : Int32} (hT : rt_TK K V n kd vl) (hn : n < 256) (h1 : 1 ≤ k) (h2 : k ≤ 26) (hw : xn_nm k → w = nI x ∧ x < 16) :
    rt_TK (fun j => if j = n then k else K j) (fun j => if j = n then x else V j) (n + 1) (upd kd n (nI k)) (upd vl n w) := by
  refine ⟨by omega, fun i hi => ?_, fun i hi hnm => ?_⟩
  · by_cases e : i = n
    · subst e; simp only [if_pos]; exact ⟨lo_us, h1, h2⟩
    · simp only [if_neg e]; rw [lo_un e]; exact hT.2.1 i (by omega)
  · by_cases e : i = n
    · subst e; simp only [if_pos] at hnm ⊢; rw [lo_us]; exact hw hnm
    · simp only [if_neg e] at hnm ⊢; rw [lo_un e]; exact hT.2.2 i (by omega) hnm
/-- a token: one answer and one state -/
theorem pt_token {lim : Nat} {u : St2} (h : pt_edt lim u) (v1 v2 : Int32) : ∃ r u', pt_edt lim u' ∧ ∀ post : Int32 → St2 → Prop, post r u' → wpX_token post u v1 v2 := by
  have J := h
  obtain ⟨f_depthLimit, f_state, f_trapCode, f_begun, f_tokenTotal, f_printedTotal, f_stackSize, f_bodyCount, f_declaredTwice, f_liveDepth, f_position, a_tokenKind, a_tokenValue, a_printed, a_stack, a_bodyParent, a_bodyStart, a_declCount, a_paramCount, a_paramName, a_declKind, a_declTarget, a_tokenBody, a_branchTarget, a_liveBody, a_liveParent, a_returnTo, a_slotValue, a_slotHome, a_waitingOp, a_waitingLeft, a_leftKnown, a_argKind, a_argValue, a_argHome⟩ := u
  obtain ⟨K, V, n, rfl, rfl, rfl, hT⟩ := h
  have hn := hT.1
  by_cases hn2 : n < 256
  · have n2 : nI n < 256 := nI_lt (b := 256) hn2 (by decide)
    by_cases p1 : v1 < 1
    · exact ⟨0, _, J, fun post hp => br_t rfl (br_t n2 (br_t p1 hp))⟩
    · by_cases p2 : v1 ≤ 26
      · obtain ⟨c, hc, rfl⟩ := nI_of2 (x := v1) (M := 26) (n := 26) (by decide) (Int32.not_lt.mpr (Int32.le_trans (by decide) (Int32.not_lt.mp p1))) p2
        have hc1 : 1 ≤ c := by
          by_cases e : c = 0
          · subst e; exact absurd (by decide) p1
          · omega
        have hin : vp_in (nI n) 256 := vp_in_nI hn2 (by decide)
        have hcl : (nI n).toNatClampNeg = n := nI_clamp (by omega)
        by_cases hnm : xn_nm c
        · rcases pt_nm v2 with ⟨j, hj, rfl⟩ | hx
          · refine ⟨1, (nI lim, 0, f_trapCode, f_begun, nI (n + 1), f_printedTotal, f_stackSize, f_bodyCount, f_declaredTwice, f_liveDepth, f_position, upd a_tokenKind n (nI c), upd a_tokenValue n (nI j), a_printed, a_stack, a_bodyParent, a_bodyStart, a_declCount, a_paramCount, a_paramName, a_declKind, a_declTarget, a_tokenBody, a_branchTarget, a_liveBody, a_liveParent, a_returnTo, a_slotValue, a_slotHome, a_waitingOp, a_waitingLeft, a_leftKnown, a_argKind, a_argValue, a_argHome), ⟨_, _, n + 1, rfl, rfl, rfl, ow_TK (x := j) hT hn2 hc1 hc (fun _ => ⟨rfl, hj⟩)⟩, fun post hp => ?_⟩
            refine br_t rfl (br_t n2 (br_f p1 (br_t p2 (xn_car hc1 hc (fun _ => br_f (by decide) (ow_isName (fun j' hj' e => br_f (by decide) ?_) (fun hb => (pt_nm_no hb hj rfl).elim))) (fun h => absurd hnm h)))))
            unfold wX_token_50 wX_token_78 wX_token_83
            rw [hcl, nI_1]
            exact ⟨hin, nm_e (br_f (by decide) ⟨hin, nm_e (nm_e hp)⟩)⟩
          · exact ⟨0, _, J, fun post hp => br_t rfl (br_t n2 (br_f p1 (br_t p2 (xn_car hc1 hc (fun _ => br_f (by decide) (ow_isName (fun j hj e => (pt_nm_no hx hj e).elim) (fun _ => br_t rfl hp))) (fun h => absurd hnm h)))))⟩
        · by_cases q : nI c = 18
          · refine ⟨1, (nI lim, 0, f_trapCode, f_begun, nI (n + 1), f_printedTotal, f_stackSize, f_bodyCount, f_declaredTwice, f_liveDepth, f_position, upd a_tokenKind n (nI c), upd a_tokenValue n v2, a_printed, a_stack, a_bodyParent, a_bodyStart, a_declCount, a_paramCount, a_paramName, a_declKind, a_declTarget, a_tokenBody, a_branchTarget, a_liveBody, a_liveParent, a_returnTo, a_slotValue, a_slotHome, a_waitingOp, a_waitingLeft, a_leftKnown, a_argKind, a_argValue, a_argHome), ⟨_, _, n + 1, rfl, rfl, rfl, ow_TK (x := 0) hT hn2 hc1 hc (fun h => absurd h hnm)⟩, fun post hp => ?_⟩
            refine br_t rfl (br_t n2 (br_f p1 (br_t p2 (xn_car hc1 hc (fun h => absurd h hnm) (fun _ => br_t rfl ?_)))))
            unfold wX_token_50 wX_token_78 wX_token_83
            rw [hcl, nI_1]
            exact ⟨hin, nm_e (br_t rfl (br_t q ⟨hin, nm_e (nm_e hp)⟩))⟩
          · refine ⟨1, (nI lim, 0, f_trapCode, f_begun, nI (n + 1), f_printedTotal, f_stackSize, f_bodyCount, f_declaredTwice, f_liveDepth, f_position, upd a_tokenKind n (nI c), upd a_tokenValue n 0, a_printed, a_stack, a_bodyParent, a_bodyStart, a_declCount, a_paramCount, a_paramName, a_declKind, a_declTarget, a_tokenBody, a_branchTarget, a_liveBody, a_liveParent, a_returnTo, a_slotValue, a_slotHome, a_waitingOp, a_waitingLeft, a_leftKnown, a_argKind, a_argValue, a_argHome), ⟨_, _, n + 1, rfl, rfl, rfl, ow_TK (x := 0) hT hn2 hc1 hc (fun h => absurd h hnm)⟩, fun post hp => ?_⟩
            refine br_t rfl (br_t n2 (br_f p1 (br_t p2 (xn_car hc1 hc (fun h => absurd h hnm) (fun _ => br_t rfl ?_)))))
            unfold wX_token_50 wX_token_78 wX_token_83
            rw [hcl, nI_1]
            exact ⟨hin, nm_e (br_t rfl (br_f q ⟨hin, nm_e (nm_e hp)⟩))⟩
      · exact ⟨0, _, J, fun post hp => br_t rfl (br_t n2 (br_f p1 (br_f p2 hp)))⟩
  · exact ⟨0, _, J, fun post hp => br_t rfl (br_f (nI_nlt (b := 256) (by omega) (by omega)) hp)⟩
/-- the compiling: where it starts from is the same for every object with these tokens -/
theorem pt_compile {lim : Nat} {u : St2} (h : pt_edt lim u) : ∃ (K V : Nat → Nat) (n : Nat) (kd vl : Nat → Int32) (B : pt_AS), pt_md B = 0 ∧ pt_ex B = 0 ∧ ∀ post : Int32 → St2 → Prop, (∀ r u', ¬ r = 0 → post r u') → (∀ u', pt_rel K V n lim kd vl B u' → post 0 u') → wpX_compile post u := by
  obtain ⟨f_depthLimit, f_state, f_trapCode, f_begun, f_tokenTotal, f_printedTotal, f_stackSize, f_bodyCount, f_declaredTwice, f_liveDepth, f_position, a_tokenKind, a_tokenValue, a_printed, a_stack, a_bodyParent, a_bodyStart, a_declCount, a_paramCount, a_paramName, a_declKind, a_declTarget, a_tokenBody, a_branchTarget, a_liveBody, a_liveParent, a_returnTo, a_slotValue, a_slotHome, a_waitingOp, a_waitingLeft, a_leftKnown, a_argKind, a_argValue, a_argHome⟩ := u
  obtain ⟨K, V, n, rfl, rfl, rfl, hT⟩ := h
  obtain ⟨h256, htk, htv⟩ := hT
  have hT : rt_TK K V n a_tokenKind a_tokenValue := ⟨h256, htk, htv⟩
  have hs : ∃ s, gr_cf K n = some ([], 0) → 1 ≤ s ∧ s < n ∧ gr_cf K s = some ([(1, 0)], 0) ∧ K s ≠ 3 ∧ K s ≠ 4 ∧ gr_P K n s 0 := by
    by_cases hn : gr_cf K n = some ([], 0)
    · have h01 := gr_k01 hn
      have hc1 : gr_cf K 1 = some ([(1, 0)], 0) := by
        obtain ⟨L, e, hc⟩ := gr_exle hn (show 1 ≤ n by omega)
        rw [hc, (gr_one hc).2]
      obtain ⟨s, hs⟩ := rk_first hn n 1 (by omega) (by omega) (by omega) hc1
      exact ⟨s, fun _ => hs⟩
    · exact ⟨0, fun h => absurd h hn⟩
  obtain ⟨s, hs⟩ := hs
  refine ⟨K, V, n, a_tokenKind, a_tokenValue, (0, 0, s, 0, fun _ => 0, fun _ => 0, fun _ => 0, fun _ => 0, fun _ => 0, fun _ => 0, a_printed, 0, 0), rfl, rfl, fun post hbad hgood => ?_⟩
  refine xk_compile h256 htk htv (fun h1 ss st => hbad _ _ (by decide)) (fun hn h2 ss bc tw st bp bs dc pc pm dk dt tb => hbad _ _ (by decide)) (fun hn hL h3 ss bc tw st bp bs dc pc pm dk dt tb => hbad _ _ (by decide)) (fun hn hL hN hU ss bc tw st bp bs dc pc pm dk dt tb bt sv sh hX hsl => hgood _ ?_)
  obtain ⟨s1, s2, s3, s4, s5, s6⟩ := hs hn
  have hbs : bs 0 = nI s := hX.2.1 s 0 [] s1 s2 s3 s4 s5
  have hk0 := gr_k01 hn
  have hR : rt_R K V n (fun _ => 0) (fun _ => 0) (fun _ => 0) 0 (upd a_liveBody 0 0) (upd a_liveParent 0 0) a_returnTo sv sh (fun a => nI 0) (fun a => nI 0) (fun a => nI 0) (fun _ => 0) (fun _ => 0) (fun _ => 0) := by
    refine ⟨by omega, fun a ha => ⟨show 0 < n by omega, hk0.2, fun _ => rfl, fun h => by omega⟩, fun a h1 h2 => by omega, fun a ha => ?_, lo_us, fun a h1 h2 => by omega, fun a ha d hd hD hb => ?_⟩
    · have : a = 0 := by omega
      subst this
      exact ⟨lo_us, rfl⟩
    · have : a = 0 := by omega
      subst this
      have hv := (htv d hd (by simp only [gr_D] at hD; simp only [xn_nm]; omega)).2
      have hdc := gr_dc_of hN hd hD
      rw [hb] at hdc
      have hdt := ((hX.2.2.2.1 0 (V d) (by omega) hk0.2 hv).2 d hdc).2
      rw [show gr_np K 0 * 16 + V d = V d by show 0 * 16 + V d = V d; omega] at hdt
      have hs := hsl (V d) hv
      rw [show 0 * 16 + V d = V d by omega, hs.1, hs.2, hdt]
      refine ⟨fun h3 => ?_, fun h4 => ?_, fun h10 => ?_, fun h6 => ?_⟩
      · unfold lo_tg; rw [if_neg (by omega), if_neg (by omega)]; rfl
      · unfold lo_tg; rw [if_pos h4]; exact ⟨rfl, rfl⟩
      · unfold lo_tg; rw [if_neg (by omega), if_pos h10]; exact ⟨rfl, rfl⟩
      · have h7 := (gr_bo_par hn hd (.inr h6)).1
        rw [hb] at h7
        exact absurd (show d < 0 from h7) (by omega)
  exact ⟨rfl, rfl, rfl, rfl, rfl, rfl, rfl, rfl, rfl, by omega, by omega, hT, ⟨hn, hL, hN, hU, hX⟩, rt_MV_of hR, .inl ⟨rfl, rfl, rfl, hbs, s6, hR⟩⟩
