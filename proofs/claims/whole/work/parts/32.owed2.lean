variable {f_depthLimit f_state f_trapCode f_begun f_tokenTotal f_printedTotal f_stackSize f_bodyCount f_declaredTwice f_liveDepth f_position : Int32} {a_tokenKind a_tokenValue a_printed a_stack a_bodyParent a_bodyStart a_declCount a_paramCount a_paramName a_declKind a_declTarget a_tokenBody a_branchTarget a_liveBody a_liveParent a_returnTo a_slotValue a_slotHome a_waitingOp a_waitingLeft a_leftKnown a_argKind a_argValue a_argHome : Nat → Int32}
variable {g_n g_limit g_status g_trapCode g_exec g_top g_outN g_pc g_evEnd g_rq g_re : Int32} {b_kind b_val b_bod b_par b_lnk b_st b_si b_stk b_out b_abody b_apar b_aret b_avar b_apq b_ape b_tk b_tv b_tq b_te : Nat → Int32}
theorem ow_named {post : Int32 → Prop} {k : Nat} (hk : k ≤ 26) (ht : xn_nm k → post 1) (hf : ¬ xn_nm k → post 0) : wpY_named post (g_n, g_limit, g_status, g_trapCode, g_exec, g_top, g_outN, g_pc, g_evEnd, g_rq, g_re, b_kind, b_val, b_bod, b_par, b_lnk, b_st, b_si, b_stk, b_out, b_abody, b_apar, b_aret, b_avar, b_apq, b_ape, b_tk, b_tv, b_tq, b_te) (nI k) := by
  unfold wpY_named
  have nf : ∀ c, c ≤ 26 → k ≠ c → ¬ nI k = nI c := fun c hc h h2 => h ((nI_eq (by omega) (by omega)).mp h2)
  by_cases q3 : k = 3
  · exact br_t (by rw [q3]; rfl) (ht (by simp only [xn_nm]; omega))
  refine br_f (nf 3 (by decide) q3) ?_
  by_cases q4 : k = 4
  · exact br_t (by rw [q4]; rfl) (ht (by simp only [xn_nm]; omega))
  refine br_f (nf 4 (by decide) q4) ?_
  by_cases q5 : k = 5
  · exact br_t (by rw [q5]; rfl) (ht (by simp only [xn_nm]; omega))
  refine br_f (nf 5 (by decide) q5) ?_
  by_cases q6 : k = 6
  · exact br_t (by rw [q6]; rfl) (ht (by simp only [xn_nm]; omega))
  refine br_f (nf 6 (by decide) q6) ?_
  by_cases q7 : k = 7
  · exact br_t (by rw [q7]; rfl) (ht (by simp only [xn_nm]; omega))
  refine br_f (nf 7 (by decide) q7) ?_
  by_cases q9 : k = 9
  · exact br_t (by rw [q9]; rfl) (ht (by simp only [xn_nm]; omega))
  refine br_f (nf 9 (by decide) q9) ?_
  by_cases q10 : k = 10
  · exact br_t (by rw [q10]; rfl) (ht (by simp only [xn_nm]; omega))
  refine br_f (nf 10 (by decide) q10) ?_
  by_cases q11 : k = 11
  · exact br_t (by rw [q11]; rfl) (ht (by simp only [xn_nm]; omega))
  refine br_f (nf 11 (by decide) q11) ?_
  by_cases q13 : k = 13
  · exact br_t (by rw [q13]; rfl) (ht (by simp only [xn_nm]; omega))
  refine br_f (nf 13 (by decide) q13) ?_
  by_cases q19 : k = 19
  · exact br_t (by rw [q19]; rfl) (ht (by simp only [xn_nm]; omega))
  refine br_f (nf 19 (by decide) q19) ?_
  exact hf (fun h => by simp only [xn_nm] at h; omega)
theorem ow_isName {post : Int32 → Prop} {x : Int32} (ht : ∀ j : Nat, j < 16 → x = nI j → post 1) (hf : (x < 0 ∨ 16 ≤ x) → post 0) : wpX_isName post x := by
  unfold wpX_isName
  by_cases h0 : x < 0
  · exact br_t h0 (hf (.inl h0))
  · refine br_f h0 ?_
    by_cases h1 : 16 ≤ x
    · exact br_t h1 (hf (.inr h1))
    · obtain ⟨j, hj, rfl⟩ := nI_of h0
      refine br_f h1 (ht j ?_ rfl)
      by_cases e : j < 16
      · exact e
      · exact absurd (nI_le (a := 16) (by omega) hj) h1
theorem ow_15 {x : Int32} (h : 16 ≤ x) : ¬ x ≤ 15 := by
  intro h2
  have : (16 : Int32) ≤ 15 := Int32.le_trans h h2
  exact absurd this (by decide)
/-- one token more -/
theorem ow_TK {K V : Nat → Nat} {n k x : Nat} {kd vl : Nat → Int32} {w : Int32} (hT : rt_TK K V n kd vl) (hn : n < 256) (h1 : 1 ≤ k) (h2 : k ≤ 26) (hw : xn_nm k → w = nI x ∧ x < 16) :
    rt_TK (fun j => if j = n then k else K j) (fun j => if j = n then x else V j) (n + 1) (upd kd n (nI k)) (upd vl n w) := by
  refine ⟨by omega, fun i hi => ?_, fun i hi hnm => ?_⟩
  · by_cases e : i = n
    · subst e; simp only [if_pos]; exact ⟨lo_us, h1, h2⟩
    · simp only [if_neg e]; rw [lo_un e]; exact hT.2.1 i (by omega)
  · by_cases e : i = n
    · subst e; simp only [if_pos] at hnm ⊢; rw [lo_us]; exact hw hnm
    · simp only [if_neg e] at hnm ⊢; rw [lo_un e]; exact hT.2.2 i (by omega) hnm
theorem i_vc_token {k : Nat} {u : SX} {v : SY} (I : i_Rel k u v) (hk : k + 3 ≤ 1537) (v1 : Int32) (v2 : Int32) : wpX_token (fun r u' => wpY_token (fun r' v' => r' = r ∧ i_Rel (k + 3) u' v') v v1 v2) u v1 v2 := by
  have J := I
  obtain ⟨f_depthLimit, f_state, f_trapCode, f_begun, f_tokenTotal, f_printedTotal, f_stackSize, f_bodyCount, f_declaredTwice, f_liveDepth, f_position, a_tokenKind, a_tokenValue, a_printed, a_stack, a_bodyParent, a_bodyStart, a_declCount, a_paramCount, a_paramName, a_declKind, a_declTarget, a_tokenBody, a_branchTarget, a_liveBody, a_liveParent, a_returnTo, a_slotValue, a_slotHome, a_waitingOp, a_waitingLeft, a_leftKnown, a_argKind, a_argValue, a_argHome⟩ := u
  obtain ⟨g_n, g_limit, g_status, g_trapCode, g_exec, g_top, g_outN, g_pc, g_evEnd, g_rq, g_re, b_kind, b_val, b_bod, b_par, b_lnk, b_st, b_si, b_stk, b_out, b_abody, b_apar, b_aret, b_avar, b_apq, b_ape, b_tk, b_tv, b_tq, b_te⟩ := v
  obtain ⟨K, V, n, lim, hl1, hl2, h | h | h⟩ := I
  · obtain ⟨rfl, rfl, rfl, rfl, rfl, rfl, rfl, rfl, rfl, rfl, rfl, rfl, hT, on, hon, rfl, rfl⟩ := h
    have hn := hT.1
    refine br_t rfl ?_
    by_cases hn2 : n < 256
    · refine br_t (nI_lt (b := 256) hn2 (by decide)) ?_
      have n2 : ¬ (256 : Int32) ≤ nI n := nI_ge (b := 256) hn2 (by decide)
      by_cases p1 : v1 < 1
      · exact br_t p1 (br_t rfl (br_f n2 (br_t p1 ⟨rfl, J⟩)))
      · refine br_f p1 ?_
        by_cases p2 : v1 ≤ 26
        · obtain ⟨c, hc, rfl⟩ := nI_of2 (x := v1) (M := 26) (n := 26) (by decide) (Int32.not_lt.mpr (Int32.le_trans (by decide) (Int32.not_lt.mp p1))) p2
          have hc1 : 1 ≤ c := by
            by_cases e : c = 0
            · subst e; exact absurd (by decide) p1
            · omega
          have hin : vp_in (nI n) 256 := vp_in_nI hn2 (by decide)
          have hcl : (nI n).toNatClampNeg = n := nI_clamp (by omega)
          refine br_t p2 (xn_car hc1 hc (fun hnm => br_f (by decide) ?_) (fun hnm => br_t rfl ?_))
          · refine ow_isName (fun j hj e => br_f (by decide) ?_) (fun hb => br_t rfl ?_)
            · subst e
              unfold wX_token_50 wX_token_78 wX_token_83
              rw [hcl, nI_1]
              refine ⟨hin, nm_e (br_f (by decide) ⟨hin, nm_e (nm_e ?_)⟩)⟩
              refine br_t rfl (br_f n2 (br_f p1 (br_t p2 (ow_named hc (fun _ => br_f (by decide) (br_f (nI_pos (by omega)) (br_t (nI_le (b := 15) (by omega) (by decide)) ?_))) (fun h => absurd hnm h)))))
              unfold wY_token_50 wY_token_82 wY_token_87
              rw [hcl, nI_1]
              refine ⟨hin, nm_e (ow_named hc (fun _ => br_f (by decide) ⟨hin, nm_e (nm_e ⟨rfl, ?_⟩)⟩) (fun h => absurd hnm h))⟩
              exact ⟨_, _, n + 1, lim, hl1, hl2, .inl ⟨rfl, rfl, rfl, rfl, rfl, rfl, rfl, rfl, rfl, rfl, rfl, rfl, ow_TK (x := j) hT hn2 hc1 hc (fun _ => ⟨rfl, hj⟩), on, hon, rfl, rfl⟩⟩
            · refine br_t rfl (br_f n2 (br_f p1 (br_t p2 (ow_named hc (fun _ => br_f (by decide) ?_) (fun h => absurd hnm h)))))
              rcases hb with hb | hb
              · exact br_t hb ⟨rfl, J⟩
              · exact br_c (fun _ => ⟨rfl, J⟩) (fun _ => br_f (ow_15 hb) ⟨rfl, J⟩)
          · have fin : ∀ w : Int32, i_Rel (k + 3) (nI lim, 0, 0, g_exec, nI (n + 1), nI on, f_stackSize, f_bodyCount, f_declaredTwice, 0, f_position, upd b_kind n (nI c), upd b_val n w, b_out, a_stack, a_bodyParent, a_bodyStart, a_declCount, a_paramCount, a_paramName, a_declKind, a_declTarget, a_tokenBody, a_branchTarget, a_liveBody, a_liveParent, a_returnTo, a_slotValue, a_slotHome, a_waitingOp, a_waitingLeft, a_leftKnown, a_argKind, a_argValue, a_argHome) (nI (n + 1), nI lim, 0, g_trapCode, g_exec, g_top, nI on, g_pc, g_evEnd, g_rq, g_re, upd b_kind n (nI c), upd b_val n w, b_bod, b_par, b_lnk, b_st, b_si, b_stk, b_out, b_abody, b_apar, b_aret, b_avar, b_apq, b_ape, b_tk, b_tv, b_tq, b_te) := fun w =>
              ⟨_, _, n + 1, lim, hl1, hl2, .inl ⟨rfl, rfl, rfl, rfl, rfl, rfl, rfl, rfl, rfl, rfl, rfl, rfl, ow_TK (x := 0) hT hn2 hc1 hc (fun h => absurd h hnm), on, hon, rfl, rfl⟩⟩
            unfold wX_token_50 wX_token_78 wX_token_83
            rw [hcl, nI_1]
            refine ⟨hin, nm_e (br_t rfl (br_c (fun q => ⟨hin, nm_e (nm_e ?_)⟩) (fun q => ⟨hin, nm_e (nm_e ?_)⟩)))⟩
            · refine br_t rfl (br_f n2 (br_f p1 (br_t p2 (ow_named hc (fun h => absurd h hnm) (fun _ => br_t rfl ?_)))))
              unfold wY_token_50 wY_token_82 wY_token_87
              rw [hcl, nI_1]
              exact ⟨hin, nm_e (ow_named hc (fun h => absurd h hnm) (fun _ => br_t rfl (br_t q ⟨hin, nm_e (nm_e ⟨rfl, fin v2⟩)⟩)))⟩
            · refine br_t rfl (br_f n2 (br_f p1 (br_t p2 (ow_named hc (fun h => absurd h hnm) (fun _ => br_t rfl ?_)))))
              unfold wY_token_50 wY_token_82 wY_token_87
              rw [hcl, nI_1]
              exact ⟨hin, nm_e (ow_named hc (fun h => absurd h hnm) (fun _ => br_t rfl (br_f q ⟨hin, nm_e (nm_e ⟨rfl, fin 0⟩)⟩)))⟩
        · exact br_f p2 (br_t rfl (br_f n2 (br_f p1 (br_f p2 ⟨rfl, J⟩))))
    · exact br_f (nI_nlt (b := 256) (by omega) (by omega)) (br_t rfl (br_t (nI_le (a := 256) (by omega) (by omega)) ⟨rfl, J⟩))
  · obtain ⟨rfl, rfl, rfl, rfl, rfl, rfl, rfl, rfl, rfl, rfl, rfl, rfl, hT, hS, on, top, pc, ab, ap, rt, hon, rfl, rfl, rfl, rfl, rfl, rfl, hP, hR⟩ := h
    exact br_f (by decide) (br_f (by decide) ⟨rfl, J⟩)
  · obtain ⟨rfl, rfl, hst, rfl, rfl, rfl, rfl, rfl, rfl, hT, hS, hM, on, hon, rfl, rfl⟩ := h
    rcases hst with ⟨rfl, rfl, rfl, rfl⟩ | ⟨rfl, rfl, rfl, rfl⟩
    · exact br_f (by decide) (br_f (by decide) ⟨rfl, J⟩)
    · exact br_f (by decide) (br_f (by decide) ⟨rfl, J⟩)
theorem i_vc_compile {k : Nat} {u : SX} {v : SY} (I : i_Rel k u v) (hk : k + 3 ≤ 1537) : wpX_compile (fun r u' => wpY_compile (fun r' v' => r' = r ∧ i_Rel (k + 3) u' v') v) u := by
  have J := I
  obtain ⟨f_depthLimit, f_state, f_trapCode, f_begun, f_tokenTotal, f_printedTotal, f_stackSize, f_bodyCount, f_declaredTwice, f_liveDepth, f_position, a_tokenKind, a_tokenValue, a_printed, a_stack, a_bodyParent, a_bodyStart, a_declCount, a_paramCount, a_paramName, a_declKind, a_declTarget, a_tokenBody, a_branchTarget, a_liveBody, a_liveParent, a_returnTo, a_slotValue, a_slotHome, a_waitingOp, a_waitingLeft, a_leftKnown, a_argKind, a_argValue, a_argHome⟩ := u
  obtain ⟨g_n, g_limit, g_status, g_trapCode, g_exec, g_top, g_outN, g_pc, g_evEnd, g_rq, g_re, b_kind, b_val, b_bod, b_par, b_lnk, b_st, b_si, b_stk, b_out, b_abody, b_apar, b_aret, b_avar, b_apq, b_ape, b_tk, b_tv, b_tq, b_te⟩ := v
  obtain ⟨K, V, n, lim, hl1, hl2, h | h | h⟩ := I
  · obtain ⟨rfl, rfl, rfl, rfl, rfl, rfl, rfl, rfl, rfl, rfl, rfl, rfl, hT, on, hon, rfl, rfl⟩ := h
    obtain ⟨h256, htk, htv⟩ := hT
    have hT : rt_TK K V n b_kind b_val := ⟨h256, htk, htv⟩
    refine xk_compile h256 htk htv (fun h1 ss st => ?_) (fun hn h2 ss bc tw st bp bs dc pc pm dk dt tb => ?_) (fun hn hL h3 ss bc tw st bp bs dc pc pm dk dt tb => ?_) (fun hn hL hN hU ss bc tw st bp bs dc pc pm dk dt tb bt sv sh hX hsl => ?_)
    · refine yk_compile h256 htk htv (fun _ bo pa lk st si => ⟨rfl, ?_⟩) (fun h => absurd h h1) (fun h => absurd h h1) (fun h => absurd h h1)
      exact ⟨K, V, n, lim, hl1, hl2, .inl ⟨rfl, rfl, rfl, rfl, rfl, rfl, rfl, rfl, rfl, rfl, rfl, rfl, hT, on, hon, rfl, rfl⟩⟩
    · refine yk_compile h256 htk htv (fun h => absurd hn h) (fun _ _ bo pa lk st si => ⟨rfl, ?_⟩) (fun _ h => absurd h h2) (fun _ h => absurd h h2)
      exact ⟨K, V, n, lim, hl1, hl2, .inl ⟨rfl, rfl, rfl, rfl, rfl, rfl, rfl, rfl, rfl, rfl, rfl, rfl, hT, on, hon, rfl, rfl⟩⟩
    · refine yk_compile h256 htk htv (fun h => absurd hn h) (fun _ h => absurd hL h) (fun _ _ _ bo pa lk st si => ⟨rfl, ?_⟩) (fun _ _ h5 h6 => absurd ⟨h5, h6⟩ h3)
      exact ⟨K, V, n, lim, hl1, hl2, .inl ⟨rfl, rfl, rfl, rfl, rfl, rfl, rfl, rfl, rfl, rfl, rfl, rfl, hT, on, hon, rfl, rfl⟩⟩
    · refine yk_compile h256 htk htv (fun h => absurd hn h) (fun _ h => absurd hL h) (fun _ _ h => absurd ⟨hN, hU⟩ h) (fun _ _ _ _ s bo pa lk st' si av aq ae hY s1 s2 s3 s4 s5 s6 hav => ⟨rfl, ?_⟩)
      have hbs : bs 0 = nI s := hX.2.1 s 0 [] s1 s2 s3 s4 s5
      have hk0 := gr_k01 hn
      refine ⟨K, V, n, lim, hl1, hl2, .inr (.inl ⟨rfl, rfl, rfl, rfl, rfl, rfl, rfl, rfl, rfl, rfl, rfl, rfl, hT, ⟨hn, hL, hN, hU, hX, hY⟩, 0, 0, s, fun _ => 0, fun _ => 0, fun _ => 0, by omega, rfl, rfl, rfl, rfl, hbs, rfl, s6, ?_⟩)⟩
      refine ⟨by omega, fun a ha => ⟨show 0 < n by omega, hk0.2, fun _ => rfl, fun h => by omega⟩, fun a h1 h2 => by omega, fun a ha => ?_, lo_us, fun a h1 h2 => by omega, fun a ha d hd hD hb => ?_⟩
      · have : a = 0 := by omega
        subst this
        exact ⟨lo_us, lo_us⟩
      · have : a = 0 := by omega
        subst this
        have hv := (htv d hd (by simp only [gr_D] at hD; simp only [xn_nm]; omega)).2
        have hdc := gr_dc_of hN hd hD
        rw [hb] at hdc
        have hdt := ((hX.2.2.2.1 0 (V d) (by omega) hk0.2 hv).2 d hdc).2
        rw [show gr_np K 0 * 16 + V d = V d by show 0 * 16 + V d = V d; omega] at hdt
        have hs := hsl (V d) hv
        rw [show 0 * 16 + V d = V d by omega, hs.1, hs.2, hdt]
        refine ⟨fun h3 => ?_, fun h4 => ?_, fun h10 => ?_, fun h6 => ?_⟩
        · rw [hav _ hv]; unfold lo_tg; rw [if_neg (by omega), if_neg (by omega)]; rfl
        · unfold lo_tg; rw [if_pos h4]; exact ⟨rfl, rfl⟩
        · unfold lo_tg; rw [if_neg (by omega), if_pos h10]; exact ⟨rfl, rfl⟩
        · have h7 := (gr_bo_par hn hd (.inr h6)).1
          rw [hb] at h7
          exact absurd (show d < 0 from h7) (by omega)
  · obtain ⟨rfl, rfl, rfl, rfl, rfl, rfl, rfl, rfl, rfl, rfl, rfl, rfl, hT, hS, on, top, pc, ab, ap, rt, hon, rfl, rfl, rfl, rfl, rfl, rfl, hP, hR⟩ := h
    exact br_f (by decide) (br_f (by decide) ⟨rfl, J⟩)
  · obtain ⟨rfl, rfl, hst, rfl, rfl, rfl, rfl, rfl, rfl, hT, hS, hM, on, hon, rfl, rfl⟩ := h
    rcases hst with ⟨rfl, rfl, rfl, rfl⟩ | ⟨rfl, rfl, rfl, rfl⟩
    · exact br_f (by decide) (br_f (by decide) ⟨rfl, J⟩)
    · exact br_f (by decide) (br_f (by decide) ⟨rfl, J⟩)
theorem ow_mv {post : Int32 → Prop} {K V : Nat → Nat} {n x : Nat} (hn : gr_cf K n = some ([], 0)) (h256 : n ≤ 256) (htk : ∀ i, i < n → b_kind i = nI (K i) ∧ 1 ≤ K i ∧ K i ≤ 26) (htv : ∀ i, i < n → xn_nm (K i) → b_val i = nI (V i) ∧ V i < 16) (hbo : ∀ i, i < n → b_bod i = nI (gr_bo K n i)) (hx : x < 16)
    (h1 : (∃ d, d < n ∧ K d = 3 ∧ gr_bo K n d = 0 ∧ V d = x) → post (b_avar x)) (h0 : ¬ (∃ d, d < n ∧ K d = 3 ∧ gr_bo K n d = 0 ∧ V d = x) → post 0) :
    ∀ (d i f : Nat), i + d = n → d < f → (∀ j, j < i → ¬ (K j = 3 ∧ gr_bo K n j = 0 ∧ V j = x)) → wY_mainVar_21 post (nI x) (nI n) g_limit g_status g_trapCode g_exec g_top g_outN g_pc g_evEnd g_rq g_re b_kind b_val b_bod b_par b_lnk b_st b_si b_stk b_out b_abody b_apar b_aret b_avar b_apq b_ape b_tk b_tv b_tq b_te f (nI i) := by
  intro d
  induction d with
  | zero =>
    intro i f hi hf hno
    have : i = n := by omega
    subst this
    cases f with
    | zero => omega
    | succ f => exact br_t (nI_le (Nat.le_refl _) (by omega)) (h0 (fun ⟨d, a1, a2⟩ => hno d a1 a2))
  | succ d ih =>
    intro i f hi hf hno
    cases f with
    | zero => omega
    | succ f =>
      have hin : i < n := by omega
      obtain ⟨k1, k2, k3⟩ := htk i hin
      have hv : vp_in (nI i) 256 := vp_in_nI (by omega) (by decide)
      obtain ⟨L, e, hc⟩ := gr_exle hn (Nat.le_of_lt hin)
      have hbl := (gr_xbo hn hin hc).2.2
      have next : ¬ (K i = 3 ∧ gr_bo K n i = 0 ∧ V i = x) → wY_mainVar_21 post (nI x) (nI n) g_limit g_status g_trapCode g_exec g_top g_outN g_pc g_evEnd g_rq g_re b_kind b_val b_bod b_par b_lnk b_st b_si b_stk b_out b_abody b_apar b_aret b_avar b_apq b_ape b_tk b_tv b_tq b_te f (nI (i + 1)) := by
        intro h
        refine ih (i + 1) f (by omega) (by omega) (fun j hj => ?_)
        by_cases e : j = i
        · subst e; exact h
        · exact hno j (by omega)
      refine br_f (nI_ge (by omega) (by omega)) ⟨hv, ?_⟩
      rw [nI_clamp (n := i) (by omega), k1, hbo i hin]
      by_cases q3 : K i = 3
      · have hvv := htv i hin (.inl q3)
        rw [hvv.1]
        refine br_t (by rw [q3]; rfl) ⟨hv, ?_⟩
        by_cases q0 : gr_bo K n i = 0
        · refine br_t (by rw [q0]; rfl) ⟨hv, ?_⟩
          by_cases qv : V i = x
          · refine br_t (by rw [qv]) ⟨vp_in_nI (by omega) (by decide), ?_⟩
            rw [nI_clamp (by omega)]
            exact h1 ⟨i, hin, q3, q0, qv⟩
          · exact br_f (fun h => qv ((nI_eq (by omega) (by omega)).mp h)) (nm_r (nI_1 i) (next (fun h => qv h.2.2)))
        · exact br_f (fun h => q0 ((nI_eq (b := 0) (by omega) (by decide)).mp h)) (nm_r (nI_1 i) (next (fun h => q0 h.2.1)))
      · exact br_f (fun h => q3 ((nI_eq (b := 3) (by omega) (by decide)).mp h)) (nm_r (nI_1 i) (next (fun h => q3 h.1)))
theorem ow_main {k : Nat} {K V : Nat → Nat} {n : Nat} {s : Int32} (hs : ¬ s = 0) (hT : rt_TK K V n b_kind b_val) (hS : rt_ST K V n a_bodyParent a_bodyStart a_paramCount a_paramName a_declKind a_declTarget a_branchTarget b_bod b_par b_lnk) (hM : rt_MV K V n a_slotValue b_avar) (v1 : Int32)
    (J : i_Rel k (f_depthLimit, s, f_trapCode, f_begun, nI n, f_printedTotal, f_stackSize, f_bodyCount, f_declaredTwice, f_liveDepth, f_position, b_kind, b_val, a_printed, a_stack, a_bodyParent, a_bodyStart, a_declCount, a_paramCount, a_paramName, a_declKind, a_declTarget, a_tokenBody, a_branchTarget, a_liveBody, a_liveParent, a_returnTo, a_slotValue, a_slotHome, a_waitingOp, a_waitingLeft, a_leftKnown, a_argKind, a_argValue, a_argHome) (nI n, g_limit, s, g_trapCode, g_exec, g_top, g_outN, g_pc, g_evEnd, g_rq, g_re, b_kind, b_val, b_bod, b_par, b_lnk, b_st, b_si, b_stk, b_out, b_abody, b_apar, b_aret, b_avar, b_apq, b_ape, b_tk, b_tv, b_tq, b_te)) :
    wpX_mainVar (fun r => wpY_mainVar (fun r' => r' = r ∧ i_Rel (k + 3) (f_depthLimit, s, f_trapCode, f_begun, nI n, f_printedTotal, f_stackSize, f_bodyCount, f_declaredTwice, f_liveDepth, f_position, b_kind, b_val, a_printed, a_stack, a_bodyParent, a_bodyStart, a_declCount, a_paramCount, a_paramName, a_declKind, a_declTarget, a_tokenBody, a_branchTarget, a_liveBody, a_liveParent, a_returnTo, a_slotValue, a_slotHome, a_waitingOp, a_waitingLeft, a_leftKnown, a_argKind, a_argValue, a_argHome) (nI n, g_limit, s, g_trapCode, g_exec, g_top, g_outN, g_pc, g_evEnd, g_rq, g_re, b_kind, b_val, b_bod, b_par, b_lnk, b_st, b_si, b_stk, b_out, b_abody, b_apar, b_aret, b_avar, b_apq, b_ape, b_tk, b_tv, b_tq, b_te)) (nI n, g_limit, s, g_trapCode, g_exec, g_top, g_outN, g_pc, g_evEnd, g_rq, g_re, b_kind, b_val, b_bod, b_par, b_lnk, b_st, b_si, b_stk, b_out, b_abody, b_apar, b_aret, b_avar, b_apq, b_ape, b_tk, b_tv, b_tq, b_te) v1) (f_depthLimit, s, f_trapCode, f_begun, nI n, f_printedTotal, f_stackSize, f_bodyCount, f_declaredTwice, f_liveDepth, f_position, b_kind, b_val, a_printed, a_stack, a_bodyParent, a_bodyStart, a_declCount, a_paramCount, a_paramName, a_declKind, a_declTarget, a_tokenBody, a_branchTarget, a_liveBody, a_liveParent, a_returnTo, a_slotValue, a_slotHome, a_waitingOp, a_waitingLeft, a_leftKnown, a_argKind, a_argValue, a_argHome) v1 := by
  obtain ⟨h256, htk, htv⟩ := hT
  obtain ⟨hn, hL, hN, hU, hX, hY⟩ := hS
  have hk0 := gr_k01 hn
  unfold wpX_mainVar
  refine br_f hs (ow_isName (fun x hx e => br_f (by decide) ?_) (fun hb => br_t rfl ?_))
  · subst e
    have yv : ∀ r : Int32, ((∃ d, d < n ∧ K d = 3 ∧ gr_bo K n d = 0 ∧ V d = x) → b_avar x = r) → (¬ (∃ d, d < n ∧ K d = 3 ∧ gr_bo K n d = 0 ∧ V d = x) → 0 = r) → wpY_mainVar (fun r' => r' = r ∧ i_Rel (k + 3) (f_depthLimit, s, f_trapCode, f_begun, nI n, f_printedTotal, f_stackSize, f_bodyCount, f_declaredTwice, f_liveDepth, f_position, b_kind, b_val, a_printed, a_stack, a_bodyParent, a_bodyStart, a_declCount, a_paramCount, a_paramName, a_declKind, a_declTarget, a_tokenBody, a_branchTarget, a_liveBody, a_liveParent, a_returnTo, a_slotValue, a_slotHome, a_waitingOp, a_waitingLeft, a_leftKnown, a_argKind, a_argValue, a_argHome) (nI n, g_limit, s, g_trapCode, g_exec, g_top, g_outN, g_pc, g_evEnd, g_rq, g_re, b_kind, b_val, b_bod, b_par, b_lnk, b_st, b_si, b_stk, b_out, b_abody, b_apar, b_aret, b_avar, b_apq, b_ape, b_tk, b_tv, b_tq, b_te)) (nI n, g_limit, s, g_trapCode, g_exec, g_top, g_outN, g_pc, g_evEnd, g_rq, g_re, b_kind, b_val, b_bod, b_par, b_lnk, b_st, b_si, b_stk, b_out, b_abody, b_apar, b_aret, b_avar, b_apq, b_ape, b_tk, b_tv, b_tq, b_te) (nI x) := by
      intro r h1 h0
      unfold wpY_mainVar
      exact br_f hs (br_f (nI_pos (by omega)) (br_t (nI_le (b := 15) (by omega) (by decide)) ⟨n + 1, ow_mv hn h256 htk htv hY.1 hx (fun h => ⟨h1 h, J⟩) (fun h => ⟨h0 h, J⟩) n 0 (n + 1) (by omega) (by omega) (fun j hj => by omega)⟩))
    have hdx := hX.2.2.2.1 0 x (by omega) hk0.2 hx
    rw [show gr_np K 0 * 16 + x = x by show 0 * 16 + x = x; omega] at hdx
    refine ⟨vp_in_nI (by omega) (by decide), ?_⟩
    rw [nI_clamp (n := x) (by omega)]
    cases hd : gr_dc K V n 0 x with
    | none =>
      rw [(hdx.1 hd).1]
      refine br_f (by decide) (yv 0 (fun ⟨d, a1, a2, a3, a4⟩ => ?_) (fun _ => rfl))
      exact absurd (.inl a2) (gr_dc_none hd d a1 a3 a4)
    | some d =>
      have hds := gr_dc_some hd
      have hKd := htk d hds.1
      rw [(hdx.2 d hd).1]
      by_cases q3 : K d = 3
      · refine br_t (by rw [q3]; rfl) ⟨vp_in_nI (by omega) (by decide), yv _ (fun _ => ?_) (fun h => ?_)⟩
        · have := hM d hds.1 q3 hds.2.1
          rw [hds.2.2.1] at this
          exact this.symm
        · exact absurd ⟨d, hds.1, q3, hds.2.1, hds.2.2.1⟩ h
      · refine br_f (fun h => q3 ((nI_eq (b := 3) (by omega) (by decide)).mp h)) (yv 0 (fun ⟨d2, a1, a2, a3, a4⟩ => ?_) (fun _ => rfl))
        have := gr_dc_of hN a1 (.inl a2)
        rw [a3, a4, hd] at this
        injection this with this
        subst this
        exact absurd a2 q3
  · unfold wpY_mainVar
    refine br_f hs ?_
    rcases hb with hb | hb
    · exact br_t hb ⟨rfl, J⟩
    · exact br_c (fun _ => ⟨rfl, J⟩) (fun _ => br_f (ow_15 hb) ⟨rfl, J⟩)
theorem i_vc_mainVar {k : Nat} {u : SX} {v : SY} (I : i_Rel k u v) (hk : k + 3 ≤ 1537) (v1 : Int32) : wpX_mainVar (fun r => wpY_mainVar (fun r' => r' = r ∧ i_Rel (k + 3) u v) v v1) u v1 := by
  have J := I
  obtain ⟨f_depthLimit, f_state, f_trapCode, f_begun, f_tokenTotal, f_printedTotal, f_stackSize, f_bodyCount, f_declaredTwice, f_liveDepth, f_position, a_tokenKind, a_tokenValue, a_printed, a_stack, a_bodyParent, a_bodyStart, a_declCount, a_paramCount, a_paramName, a_declKind, a_declTarget, a_tokenBody, a_branchTarget, a_liveBody, a_liveParent, a_returnTo, a_slotValue, a_slotHome, a_waitingOp, a_waitingLeft, a_leftKnown, a_argKind, a_argValue, a_argHome⟩ := u
  obtain ⟨g_n, g_limit, g_status, g_trapCode, g_exec, g_top, g_outN, g_pc, g_evEnd, g_rq, g_re, b_kind, b_val, b_bod, b_par, b_lnk, b_st, b_si, b_stk, b_out, b_abody, b_apar, b_aret, b_avar, b_apq, b_ape, b_tk, b_tv, b_tq, b_te⟩ := v
  obtain ⟨K, V, n, lim, hl1, hl2, h | h | h⟩ := I
  · obtain ⟨rfl, rfl, rfl, rfl, rfl, rfl, rfl, rfl, rfl, rfl, rfl, rfl, hT, on, hon, rfl, rfl⟩ := h
    exact br_t rfl (br_t rfl ⟨rfl, J⟩)
  · obtain ⟨rfl, rfl, rfl, rfl, rfl, rfl, rfl, rfl, rfl, rfl, rfl, rfl, hT, hS, on, top, pc, ab, ap, rt, hon, rfl, rfl, rfl, rfl, rfl, rfl, hP, hR⟩ := h
    exact ow_main (by decide) hT hS (rt_MV_of hR) v1 J
  · obtain ⟨rfl, rfl, hst, rfl, rfl, rfl, rfl, rfl, rfl, hT, hS, hM, on, hon, rfl, rfl⟩ := h
    rcases hst with ⟨rfl, rfl, rfl, rfl⟩ | ⟨rfl, rfl, rfl, rfl⟩
    · exact ow_main (by decide) hT hS hM v1 J
    · exact ow_main (by decide) hT hS hM v1 J
theorem i_vc_seen {k : Nat} {u : SX} {v : SY} (I : i_Rel k u v) (hk : k + 3 ≤ 1537) (v1 : Int32) : wpX_seen (fun r => wpY_seen (fun r' => r' = r ∧ i_Rel (k + 3) u v) v v1) u v1 := by
  have J := I
  obtain ⟨f_depthLimit, f_state, f_trapCode, f_begun, f_tokenTotal, f_printedTotal, f_stackSize, f_bodyCount, f_declaredTwice, f_liveDepth, f_position, a_tokenKind, a_tokenValue, a_printed, a_stack, a_bodyParent, a_bodyStart, a_declCount, a_paramCount, a_paramName, a_declKind, a_declTarget, a_tokenBody, a_branchTarget, a_liveBody, a_liveParent, a_returnTo, a_slotValue, a_slotHome, a_waitingOp, a_waitingLeft, a_leftKnown, a_argKind, a_argValue, a_argHome⟩ := u
  obtain ⟨g_n, g_limit, g_status, g_trapCode, g_exec, g_top, g_outN, g_pc, g_evEnd, g_rq, g_re, b_kind, b_val, b_bod, b_par, b_lnk, b_st, b_si, b_stk, b_out, b_abody, b_apar, b_aret, b_avar, b_apq, b_ape, b_tk, b_tv, b_tq, b_te⟩ := v
  obtain ⟨K, V, n, lim, hl1, hl2, h | h | h⟩ := I
  · obtain ⟨rfl, rfl, rfl, rfl, rfl, rfl, rfl, rfl, rfl, rfl, rfl, rfl, hT, on, hon, rfl, rfl⟩ := h
    exact br_f (by decide) (br_f (by decide) ⟨rfl, J⟩)
  · obtain ⟨rfl, rfl, rfl, rfl, rfl, rfl, rfl, rfl, rfl, rfl, rfl, rfl, hT, hS, on, top, pc, ab, ap, rt, hon, rfl, rfl, rfl, rfl, rfl, rfl, hP, hR⟩ := h
    obtain ⟨h256, htk, htv⟩ := hT
    obtain ⟨hn, hL, hN, hU, hX, hY⟩ := hS
    have ht := hR.1
    have htd : ∀ i, i < n → gr_D (K i) → b_val i = nI (V i) ∧ V i < 16 := fun i hi h => htv i hi (by simp only [gr_D] at h; simp only [xn_nm]; omega)
    obtain ⟨b1, b2, b3, b4⟩ := hR.2.1 top (Nat.le_refl _)
    refine br_t rfl (ow_isName (fun x hx e => br_f (by decide) ⟨vp_in_nI (by omega) (by decide), ?_⟩) (fun hb => br_t rfl (br_t rfl ?_)))
    · subst e
      rw [nI_clamp (n := top) (by omega), (hR.2.2.2.1 top (Nat.le_refl _)).1]
      refine xn_near hn hL (fun d hd => (htk d hd).2) hX.1 hX.2.2.2.1 hx b1 b2 ?_
      refine rs_slot hn hL (fun d hd => (htk d hd).2) hX.2.2.2.1 hx hR.2.1 ht (fun a h => (hR.2.2.2.1 a h).1) hR.2.2.2.2.1 (fun a h1 h2 => (hR.2.2.2.2.2.1 a h1 h2).1) ?_
      have hle := ac_al_le (V := V) (x := x) hR.2.1 15 top (Nat.le_refl _)
      have ix : vp_in (nI (ac_al K V n ab ap x 15 top * 16 + x)) 272 := vp_in_nI (by omega) (by decide)
      rw [nI_clamp (by omega)]
      -- what the reference asks
      have yy : ∀ r : Int32, (gr_lk K V n (ab top) x = none → 0 = r) → (∀ d, gr_lk K V n (ab top) x = some d → (K d = 3 ∨ K d = 5 → b_avar (ac_al K V n ab ap x 15 top * 16 + x) = r) ∧ (¬ (K d = 3 ∨ K d = 5) → 0 = r)) →
          wpY_seen (fun r' => r' = r ∧ i_Rel (k + 3) (nI lim, 1, 0, g_exec, nI n, nI on, f_stackSize, f_bodyCount, f_declaredTwice, nI top, nI pc, b_kind, b_val, b_out, a_stack, a_bodyParent, a_bodyStart, a_declCount, a_paramCount, a_paramName, a_declKind, a_declTarget, a_tokenBody, a_branchTarget, a_liveBody, a_liveParent, a_returnTo, a_slotValue, a_slotHome, a_waitingOp, a_waitingLeft, a_leftKnown, a_argKind, a_argValue, a_argHome) (nI n, nI lim, 1, 0, g_exec, nI top, nI on, nI pc, g_evEnd, g_rq, g_re, b_kind, b_val, b_bod, b_par, b_lnk, b_st, b_si, b_stk, b_out, b_abody, b_apar, b_aret, b_avar, b_apq, b_ape, b_tk, b_tv, b_tq, b_te)) (nI n, nI lim, 1, 0, g_exec, nI top, nI on, nI pc, g_evEnd, g_rq, g_re, b_kind, b_val, b_bod, b_par, b_lnk, b_st, b_si, b_stk, b_out, b_abody, b_apar, b_aret, b_avar, b_apq, b_ape, b_tk, b_tv, b_tq, b_te) (nI x) := by
        intro r h0 h1
        unfold wpY_seen
        refine br_t rfl (br_f (nI_pos (by omega)) (br_t (nI_le (b := 15) (by omega) (by decide)) ⟨vp_in_nI (by omega) (by decide), ?_⟩))
        rw [nI_clamp (n := top) (by omega), (hR.2.2.2.1 top (Nat.le_refl _)).2]
        refine yn_decl hn h256 htk htd hY.1 hY.2.1 hx b1 b2 ?_
        cases hl : gr_lk K V n (ab top) x with
        | none => exact br_t (by decide) ⟨h0 hl, J⟩
        | some d =>
          have hd := yn_lk _ _ hl
          have hkd := htk d hd.1
          have hvd : vp_in (nI d) 256 := vp_in_nI (by omega) (by decide)
          have s61 : (K d = 3 ∨ K d = 5) → wY_seen_61 (fun r' => r' = r ∧ i_Rel (k + 3) (nI lim, 1, 0, g_exec, nI n, nI on, f_stackSize, f_bodyCount, f_declaredTwice, nI top, nI pc, b_kind, b_val, b_out, a_stack, a_bodyParent, a_bodyStart, a_declCount, a_paramCount, a_paramName, a_declKind, a_declTarget, a_tokenBody, a_branchTarget, a_liveBody, a_liveParent, a_returnTo, a_slotValue, a_slotHome, a_waitingOp, a_waitingLeft, a_leftKnown, a_argKind, a_argValue, a_argHome) (nI n, nI lim, 1, 0, g_exec, nI top, nI on, nI pc, g_evEnd, g_rq, g_re, b_kind, b_val, b_bod, b_par, b_lnk, b_st, b_si, b_stk, b_out, b_abody, b_apar, b_aret, b_avar, b_apq, b_ape, b_tk, b_tv, b_tq, b_te)) (nI x) (nI n) (nI lim) 1 0 g_exec (nI top) (nI on) (nI pc) g_evEnd g_rq g_re b_kind b_val b_bod b_par b_lnk b_st b_si b_stk b_out b_abody b_apar b_aret b_avar b_apq b_ape b_tk b_tv b_tq b_te := by
            intro h3
            unfold wY_seen_61
            refine rs_find hn hL h256 htk htd hR.2.1 ht hY.1 hY.2.1 (fun a h => (hR.2.2.2.1 a h).2) (fun a h1 h2 => (hR.2.2.2.2.2.1 a h1 h2).2) hx (fun _ _ => ?_) (fun h => by rw [hl] at h; cases h)
            rw [li_m16, nI_add, nI_clamp (by omega)]
            exact ⟨ix, (h1 d hl).1 h3, J⟩
          refine br_f (nI_pos (by omega)) ⟨hvd, ?_⟩
          rw [show (ye_r (some d)).toNatClampNeg = d from nI_clamp (by omega), hkd.1]
          by_cases q3 : K d = 3
          · exact br_t (by rw [q3]; rfl) (s61 (.inl q3))
          · refine br_f (fun h => q3 ((nI_eq (b := 3) (by omega) (by decide)).mp h)) ⟨hvd, ?_⟩
            by_cases q5 : K d = 5
            · exact br_t (by rw [q5]; rfl) (s61 (.inr q5))
            · exact br_f (fun h => q5 ((nI_eq (b := 5) (by omega) (by decide)).mp h)) ⟨(h1 d hl).2 (by omega), J⟩
      cases hl : gr_lk K V n (ab top) x with
      | none =>
        refine br_f (show ¬ nI 0 = 3 by decide) (br_f (show ¬ nI 0 = 5 by decide) (yy 0 (fun _ => rfl) (fun d h => ?_)))
        rw [hl] at h; cases h
      | some d =>
        obtain ⟨a', ha', r1, r2, r3, r4, r5⟩ := rt_near hn hL hR hl
        have hkd := htk d r2
        have hsl := (hR.2.2.2.2.2.2 a' r1 d r2 r5 r3).1
        rw [r4, ha'] at hsl
        have sv : (K d = 3 ∨ K d = 5) → ∀ d', gr_lk K V n (ab top) x = some d' → (K d' = 3 ∨ K d' = 5 → b_avar (ac_al K V n ab ap x 15 top * 16 + x) = a_slotValue (ac_al K V n ab ap x 15 top * 16 + x)) ∧ (¬ (K d' = 3 ∨ K d' = 5) → 0 = a_slotValue (ac_al K V n ab ap x 15 top * 16 + x)) := by
          intro h3 d' h'
          rw [hl] at h'
          injection h' with h'
          subst h'
          exact ⟨fun h => (hsl h).symm, fun h => absurd h3 h⟩
        by_cases q3 : K d = 3
        · exact br_t (by show nI (K d) = 3; rw [q3]; rfl) ⟨ix, yy _ (fun h => by rw [hl] at h; cases h) (sv (.inl q3))⟩
        · refine br_f (fun h => q3 ((nI_eq (b := 3) (by omega) (by decide)).mp h)) ?_
          by_cases q5 : K d = 5
          · exact br_t (by show nI (K d) = 5; rw [q5]; rfl) ⟨ix, yy _ (fun h => by rw [hl] at h; cases h) (sv (.inr q5))⟩
          · refine br_f (fun h => q5 ((nI_eq (b := 5) (by omega) (by decide)).mp h)) (yy 0 (fun _ => rfl) (fun d' h' => ?_))
            rw [hl] at h'
            injection h' with h'
            subst h'
            exact ⟨fun h => by omega, fun _ => rfl⟩
    · rcases hb with hb | hb
      · exact br_t hb ⟨rfl, J⟩
      · exact br_c (fun _ => ⟨rfl, J⟩) (fun _ => br_f (ow_15 hb) ⟨rfl, J⟩)
  · obtain ⟨rfl, rfl, hst, rfl, rfl, rfl, rfl, rfl, rfl, hT, hS, hM, on, hon, rfl, rfl⟩ := h
    rcases hst with ⟨rfl, rfl, rfl, rfl⟩ | ⟨rfl, rfl, rfl, rfl⟩
    · exact br_f (by decide) (br_f (by decide) ⟨rfl, J⟩)
    · exact br_f (by decide) (br_f (by decide) ⟨rfl, J⟩)
