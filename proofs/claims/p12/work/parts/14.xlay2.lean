variable {f_depthLimit f_state f_trapCode f_begun f_tokenTotal f_printedTotal f_stackSize f_bodyCount f_declaredTwice f_liveDepth f_position : Int32} {a_tokenKind a_tokenValue a_printed a_stack a_bodyParent a_bodyStart a_declCount a_paramCount a_paramName a_declKind a_declTarget a_tokenBody a_branchTarget a_liveBody a_liveParent a_returnTo a_slotValue a_slotHome a_waitingOp a_waitingLeft a_leftKnown a_argKind a_argValue a_argHome : Nat → Int32}
/-- the component lays out the bodies: from token 1 on -/
theorem xl_12 {post : Int32 → St2 → Prop} {K V : Nat → Nat} {n : Nat} (hn : gr_cf K n = some ([], 0)) (h256 : n ≤ 256) (htk : ∀ i, i < n → a_tokenKind i = nI (K i) ∧ 1 ≤ K i ∧ K i ≤ 26) (htv : ∀ i, i < n → gr_D (K i) → a_tokenValue i = nI (V i) ∧ V i < 16)
    (hbad : ¬ gr_LM K n → ∀ (bc tw : Int32) (bp bs dc pc pm dk dt tb : Nat → Int32), post 0 (f_depthLimit, f_state, f_trapCode, f_begun, nI n, f_printedTotal, f_stackSize, bc, tw, f_liveDepth, f_position, a_tokenKind, a_tokenValue, a_printed, a_stack, bp, bs, dc, pc, pm, dk, dt, tb, a_branchTarget, a_liveBody, a_liveParent, a_returnTo, a_slotValue, a_slotHome, a_waitingOp, a_waitingLeft, a_leftKnown, a_argKind, a_argValue, a_argHome))
    (hok : gr_LM K n → ∀ (bc tw : Int32) (bp bs dc pc pm dk dt tb : Nat → Int32), xl_A K n n tb → xl_B K n n bp → lo_S K n bs → xl_C K n n dc pc → xl_N K V n n pm → xl_T K V n n tw dk dt → post 1 (f_depthLimit, f_state, f_trapCode, f_begun, nI n, f_printedTotal, f_stackSize, bc, tw, f_liveDepth, f_position, a_tokenKind, a_tokenValue, a_printed, a_stack, bp, bs, dc, pc, pm, dk, dt, tb, a_branchTarget, a_liveBody, a_liveParent, a_returnTo, a_slotValue, a_slotHome, a_waitingOp, a_waitingLeft, a_leftKnown, a_argKind, a_argValue, a_argHome)) :
    ∀ (d i f : Nat) (L : List (Nat × Nat)) (e : Nat) (tw : Int32) (bp bs dc pc pm dk dt tb : Nat → Int32), i + d = n → d < f → 1 ≤ i → gr_cf K i = some (L, e) → lo_G K n i L →
      xl_A K n i tb → xl_B K n i bp → lo_S K i bs → xl_C K n i dc pc → xl_N K V n i pm → xl_T K V n i tw dk dt →
      wX_layOutBodies_12 post f (nI (gr_xb K L)) (nI i) f_depthLimit f_state f_trapCode f_begun (nI n) f_printedTotal f_stackSize (nI (gr_np K i + 1)) tw f_liveDepth f_position a_tokenKind a_tokenValue a_printed a_stack bp bs dc pc pm dk dt tb a_branchTarget a_liveBody a_liveParent a_returnTo a_slotValue a_slotHome a_waitingOp a_waitingLeft a_leftKnown a_argKind a_argValue a_argHome := by
  intro d
  induction d with
  | zero =>
    intro i f L e tw bp bs dc pc pm dk dt tb hi hf h1 hc hG hA hB hS hC hN hT
    have : i = n := by omega
    subst this
    rw [hn] at hc
    cases hc
    cases f with
    | zero => omega
    | succ f => exact br_t (nI_le (Nat.le_refl _) (by omega)) (hok (lo_G_end hn hG) _ _ _ _ _ _ _ _ _ _ hA hB hS hC hN hT)
  | succ d ih =>
    intro i f L e tw bp bs dc pc pm dk dt tb hi hf h1 hc hG hA hB hS hC hN hT
    cases f with
    | zero => omega
    | succ f =>
      have hin : i < n := by omega
      have h256i : i < 256 := by omega
      obtain ⟨k1, k2, k3⟩ := htk i hin
      obtain ⟨L', e', hc'⟩ := gr_exle hn (show i + 1 ≤ n by omega)
      have hx : lo_x K n i = gr_xb K L := (gr_xbo hn hin hc).1
      have hso := lo_xb_le (K := K) L i (gr_sorted i _ _ h1 hc)
      have hso' := lo_xb_le (K := K) L' (i + 1) (gr_sorted (i + 1) _ _ (by omega) hc')
      have hxl : gr_xb K L ≤ gr_np K i := hso.1
      have hx16 : gr_xb K L < 16 := by have := hG.1; omega
      have hVd : ∀ d, d ≤ i → gr_D (K d) → V d < 16 := fun d hd h => (htv d (by omega) h).2
      have hKd : ∀ d, d ≤ i → K d < 27 := fun d hd => by have := (htk d (by omega)).2.2; omega
      have fin : ∀ (tw : Int32) (bp bs dc pc pm dk dt tb : Nat → Int32), gr_np K (i + 1) ≤ 15 → xl_A K n (i + 1) tb → xl_B K n (i + 1) bp → lo_S K (i + 1) bs → xl_C K n (i + 1) dc pc → xl_N K V n (i + 1) pm → xl_T K V n (i + 1) tw dk dt →
          wX_layOutBodies_90 post (wX_layOutBodies_12 post f) (nI (gr_xb K L')) (nI i) f_depthLimit f_state f_trapCode f_begun (nI n) f_printedTotal f_stackSize (nI (gr_np K (i + 1) + 1)) tw f_liveDepth f_position a_tokenKind a_tokenValue a_printed a_stack bp bs dc pc pm dk dt tb a_branchTarget a_liveBody a_liveParent a_returnTo a_slotValue a_slotHome a_waitingOp a_waitingLeft a_leftKnown a_argKind a_argValue a_argHome := by
        intro tw bp bs dc pc pm dk dt tb hnp hA hB hS hC hN hT
        have c := hC _ hso'.1
        have c2 := @lo_dn_le K n (gr_xb K L') (i + 1)
        refine xl_90 (by omega) c.1 c.2 (by omega) (by omega) (fun hb => ?_) (fun hg => ?_)
        · exact hbad (lo_fail hn (by omega) hc' hb) _ _ _ _ _ _ _ _ _ _
        · exact ih (i + 1) f L' e' tw bp bs dc pc pm dk dt tb (by omega) (by omega) (by omega) hc' (lo_G_s hn h1 hin hc hc' hG hnp hg) hA hB hS hC hN hT
      have hA' : xl_A K n (i + 1) (upd tb i (nI (gr_xb K L))) := by rw [← hx]; exact xl_A_s hA
      refine br_f (nI_ge (by omega) (by omega)) ⟨vp_in_nI h256i (by decide), ?_⟩
      rw [nI_clamp (by omega)]
      refine nm_e ⟨vp_in_nI h256i (by decide), nm_r k1 ?_⟩
      by_cases k4 : K i = 4
      · have hD : gr_D (K i) := by simp only [gr_D]; omega
        have hv := htv i hin hD
        refine br_t (by rw [k4]; rfl) ?_
        by_cases c16 : gr_np K i + 1 = 16
        · refine br_t (by rw [c16]; rfl) (hbad ?_ _ _ _ _ _ _ _ _ _ _)
          intro hL
          have m := @gr_np_mono K (i + 1) n (by omega)
          rw [gr_np_4 k4] at m
          have := hL.1
          omega
        · have hnp4 := gr_np_4 k4
          have hG1 := hG.1
          have hmv : gr_xb K L' = gr_np K (i + 1) := by
            rcases lo_mv hn h1 hin hc hc' with h | h | h
            · exact h.2.2
            · omega
            · exact absurd k4 h.1
          have htg : nI (gr_np K i + 1) = nI (lo_tg K i) := by unfold lo_tg; rw [if_pos k4, hnp4]
          have go : ∀ (tw : Int32) (dk dt : Nat → Int32), xl_T K V n (i + 1) tw dk dt →
              wpX_addBody (fun r_194 u => match u with | (f_depthLimit, f_state, f_trapCode, f_begun, f_tokenTotal, f_printedTotal, f_stackSize, f_bodyCount, f_declaredTwice, f_liveDepth, f_position, a_tokenKind, a_tokenValue, a_printed, a_stack, a_bodyParent, a_bodyStart, a_declCount, a_paramCount, a_paramName, a_declKind, a_declTarget, a_tokenBody, a_branchTarget, a_liveBody, a_liveParent, a_returnTo, a_slotValue, a_slotHome, a_waitingOp, a_waitingLeft, a_leftKnown, a_argKind, a_argValue, a_argHome) => wX_layOutBodies_90 post (wX_layOutBodies_12 post f) r_194 (nI i) f_depthLimit f_state f_trapCode f_begun f_tokenTotal f_printedTotal f_stackSize f_bodyCount f_declaredTwice f_liveDepth f_position a_tokenKind a_tokenValue a_printed a_stack a_bodyParent a_bodyStart a_declCount a_paramCount a_paramName a_declKind a_declTarget a_tokenBody a_branchTarget a_liveBody a_liveParent a_returnTo a_slotValue a_slotHome a_waitingOp a_waitingLeft a_leftKnown a_argKind a_argValue a_argHome) (f_depthLimit, f_state, f_trapCode, f_begun, nI n, f_printedTotal, f_stackSize, nI (gr_np K i + 1), tw, f_liveDepth, f_position, a_tokenKind, a_tokenValue, a_printed, a_stack, bp, bs, upd dc (gr_xb K L) (dc (gr_xb K L) + 1), pc, pm, dk, dt, upd tb i (nI (gr_xb K L)), a_branchTarget, a_liveBody, a_liveParent, a_returnTo, a_slotValue, a_slotHome, a_waitingOp, a_waitingLeft, a_leftKnown, a_argKind, a_argValue, a_argHome) (nI (gr_xb K L)) := by
            intro tw dk dt hT'
            refine xl_add (by omega) ?_
            have := fin tw (upd bp (gr_np K i + 1) (nI (gr_xb K L))) bs (upd (upd dc (gr_xb K L) (dc (gr_xb K L) + 1)) (gr_np K i + 1) 0) (upd pc (gr_np K i + 1) 0) pm dk dt (upd tb i (nI (gr_xb K L))) (by omega) hA'
              (by rw [← hx]; exact xl_B_4 hB k4) (lo_S_n hS (fun b L2 h2 => by have := lo_top1 hn h1 hin h2; omega)) (by rw [← hx] at hxl ⊢; exact xl_C_4 hn hin hC hxl k4) (xl_N_n hN (by omega)) hT'
            rw [hmv, hnp4] at this
            exact this
          refine br_f (fun h => c16 ((li_e (by omega) (by decide)).mp h)) (xl_decl hx16 h256i hv.1 hv.2 (fun h0 => ?_) (fun h0 => ?_))
          · refine go tw _ _ ?_
            rw [← hx] at h0 ⊢
            rw [k1, htg]
            exact xl_T_d0 hT hVd hKd hD h0
          · refine go 1 _ _ ?_
            rw [← hx] at h0 ⊢
            exact xl_T_d1 hT hv.2 (by omega) hD h0
      · refine br_f (fun h => k4 ((li_e (by omega) (by decide)).mp h)) ?_
        have hnpn := gr_np_n k4
        have hG1 := hG.1
        by_cases k2' : K i = 2
        · refine br_t (by rw [k2']; rfl) ?_
          have hD : ¬ gr_D (K i) := by simp only [gr_D]; omega
          obtain ⟨c1, hc1, hs⟩ := gr_step hn hin hc
          have hL : ∃ t p, L = (t, p) :: L' ∧ e = 0 ∧ e' = 0 ∧ (t = 1 ∨ t = 2) := by
            rw [hc'] at hc1
            injection hc1 with hc1
            subst hc1
            rcases gr_cases hs with ⟨L2, e2, e3, r1, r2, h3⟩ | ⟨t1, p1, L2, e3, r1, r2, h3⟩ | ⟨t1, p1, L2, u, e3, r1, r2, h3⟩ | ⟨t1, p1, L2, u, r1, r2, h3⟩ | ⟨t1, p1, L2, r1, r2, h3⟩
            · simp only [gr_c1] at h3; omega
            · simp only [gr_c2] at h3; omega
            · simp only [gr_c3] at h3; omega
            · simp only [gr_c4] at h3; omega
            · cases r1; cases r2
              have := @gr_n_t (K i) t1
              exact ⟨t1, p1, rfl, rfl, rfl, by simp only [gr_c5] at h3; omega⟩
          obtain ⟨t, p, rfl, rfl, rfl, ht⟩ := hL
          have hxp : gr_xb K ((t, p) :: L') = gr_np K p := lo_xb_12 ht
          have rest := fun (bs : Nat → Int32) (hS' : lo_S K (i + 1) bs) => fin tw bp bs dc pc pm dk dt (upd tb i (nI (gr_xb K ((t, p) :: L')))) (by omega) hA' (xl_B_n hB k4) hS' (xl_C_n hC hD) (xl_N_n hN (by omega)) (xl_T_n hT hD)
          rw [hnpn] at rest
          rcases lo_out hn h1 hin hc ht with ⟨p0, hL0⟩ | ⟨p0, q, r, L2, q1, q2, q3, q4, q5, q6⟩
          · subst hL0; subst p0
            refine xl_close (o := 0) hx16 (by omega) (fun _ => ?_) (fun h => absurd hxp h)
            exact rest bs (lo_S_n hS (fun b L2 h2 => by rw [hc'] at h2; simp at h2))
          · subst q4
            have hr : gr_xb K ((1, r) :: L2) = gr_np K r := lo_xb_12 (.inl rfl)
            have hr16 : gr_xb K ((1, r) :: L2) < 16 := by have := hso'.1; omega
            refine xl_close (o := gr_xb K ((1, r) :: L2)) hx16 hr16 (fun h => ?_) (fun _ => ⟨?_, ?_⟩)
            · have := gr_np_4 q2
              omega
            · have := hB.2 q (by have := (gr_sorted i _ _ h1 hc).1; simp only at this; omega) q2
              rw [hxp, q3, this, hr]
              unfold lo_x
              rw [q5]
            · refine rest _ ?_
              rw [hr]
              exact lo_S_w hn hin hS hc'
        · refine br_f (fun h => k2' ((li_e (by omega) (by decide)).mp h)) ?_
          have hmv : gr_xb K L' = gr_xb K L := by
            rcases lo_mv hn h1 hin hc hc' with h | h | h
            · omega
            · omega
            · exact h.2.2.2
          have fin' := fun (tw : Int32) (bs dc pc pm dk dt : Nat → Int32) => fin tw bp bs dc pc pm dk dt (upd tb i (nI (gr_xb K L))) (by omega) hA' (xl_B_n hB k4)
          rw [hnpn, hmv] at fin'
          by_cases kk1 : K i = 1
          · have hD : ¬ gr_D (K i) := by simp only [gr_D]; omega
            refine xl_tok1 hx16 h256i (by rw [k1, kk1]) (fin' _ _ _ _ _ _ _ ?_ (xl_C_n hC hD) (xl_N_n hN (by omega)) (xl_T_n hT hD))
            have hcc : ∃ L2, gr_cf K (i + 1) = some ((1, i) :: L2, 0) := by
              obtain ⟨p, L2, rfl⟩ := (gr_k3 hn h1 hin hc).mp (.inl kk1)
              have he := (gr_top3 i _ _ h1 hc p L2 rfl).2
              subst he
              exact ⟨L2, by rw [gr_next hc]; simp [gr_st, kk1]⟩
            obtain ⟨L2, hcc⟩ := hcc
            have hxi : gr_xb K L = gr_np K i := by
              rw [← hmv]
              rw [hc'] at hcc
              injection hcc with hcc
              injection hcc with hcc _
              rw [hcc]
              exact lo_xb_12 (.inl rfl)
            rw [hxi]
            exact lo_S_w hn hin hS hcc
          · by_cases kk3 : K i = 3
            · have hD : gr_D (K i) := by simp only [gr_D]; omega
              have hv := htv i hin hD
              have hcc : ∃ p L2, gr_cf K (i + 1) = some ((1, p) :: L2, 0) ∧ gr_xb K L = gr_np K p := by
                obtain ⟨c1, hc1, hs⟩ := gr_step hn hin hc
                rcases gr_cases hs with ⟨L2, e2, e3, r1, r2, h3⟩ | ⟨t1, p1, L2, e3, r1, r2, h3⟩ | ⟨t1, p1, L2, u, e3, r1, r2, h3⟩ | ⟨t1, p1, L2, u, r1, r2, h3⟩ | ⟨t1, p1, L2, r1, r2, h3⟩
                · simp only [gr_c1] at h3; omega
                · cases r1
                  have h4 : t1 = 1 ∧ e3 = 0 := by simp only [gr_c2] at h3; omega
                  obtain ⟨rfl, rfl⟩ := h4
                  refine ⟨p1, L2, ?_, lo_xb_12 (.inl rfl)⟩
                  rw [hc1, r2]; simp [gr_n, kk3]
                · simp only [gr_c3] at h3; omega
                · simp only [gr_c4] at h3; omega
                · simp only [gr_c5] at h3; omega
              obtain ⟨p, L2, hcc, hxp⟩ := hcc
              have hS' : lo_S K (i + 1) (upd bs (gr_xb K L) (nI (i + 1))) := by rw [hxp]; exact lo_S_w hn hin hS hcc
              have htg : (0 : Int32) = nI (lo_tg K i) := by unfold lo_tg; rw [if_neg k4, if_neg (by omega)]; rfl
              have hC' : xl_C K n (i + 1) (upd dc (gr_xb K L) (dc (gr_xb K L) + 1)) pc := by rw [← hx] at hxl ⊢; exact xl_C_d hC hxl (.inl kk3)
              refine xl_tok3 hx16 h256i (by rw [k1, kk3]) (xl_decl hx16 h256i hv.1 hv.2 (fun h0 => ?_) (fun h0 => ?_))
              · refine fin' _ _ _ _ _ _ _ hS' hC' (xl_N_n hN (by omega)) ?_
                rw [← hx] at h0 ⊢
                rw [k1, htg]
                exact xl_T_d0 hT hVd hKd hD h0
              · refine fin' _ _ _ _ _ _ _ hS' hC' (xl_N_n hN (by omega)) ?_
                rw [← hx] at h0 ⊢
                exact xl_T_d1 hT hv.2 (by omega) hD h0
            · have hS' : lo_S K (i + 1) bs := lo_S_n hS (fun b L2 h2 => by have := lo_top1 hn h1 hin h2; omega)
              by_cases kk10 : K i = 10
              · have hD : gr_D (K i) := by simp only [gr_D]; omega
                have hv := htv i hin hD
                have htg : nI (i + 1) = nI (lo_tg K i) := by unfold lo_tg; rw [if_neg k4, if_pos kk10]
                have hC' : xl_C K n (i + 1) (upd dc (gr_xb K L) (dc (gr_xb K L) + 1)) pc := by rw [← hx] at hxl ⊢; exact xl_C_d hC hxl (.inr kk10)
                refine xl_tok10 h256i (by rw [k1, kk10]) (xl_decl hx16 h256i hv.1 hv.2 (fun h0 => ?_) (fun h0 => ?_))
                · refine fin' _ _ _ _ _ _ _ hS' hC' (xl_N_n hN (by omega)) ?_
                  rw [← hx] at h0 ⊢
                  rw [k1, htg]
                  exact xl_T_d0 hT hVd hKd hD h0
                · refine fin' _ _ _ _ _ _ _ hS' hC' (xl_N_n hN (by omega)) ?_
                  rw [← hx] at h0 ⊢
                  exact xl_T_d1 hT hv.2 (by omega) hD h0
              · by_cases kk5 : K i = 5 ∨ K i = 6
                · have hD : gr_D (K i) := by simp only [gr_D]; omega
                  have hv := htv i hin hD
                  have htg : (0 : Int32) = nI (lo_tg K i) := by unfold lo_tg; rw [if_neg k4, if_neg kk10]; rfl
                  have hpc := (hC _ hxl).2
                  have hpl := (@lo_dn_le K n (gr_xb K L) i).2
                  have par : ∀ (tw : Int32) (dk dt : Nat → Int32), xl_T K V n (i + 1) tw dk dt →
                      wpX_addParam (fun u => match u with | (f_depthLimit, f_state, f_trapCode, f_begun, f_tokenTotal, f_printedTotal, f_stackSize, f_bodyCount, f_declaredTwice, f_liveDepth, f_position, a_tokenKind, a_tokenValue, a_printed, a_stack, a_bodyParent, a_bodyStart, a_declCount, a_paramCount, a_paramName, a_declKind, a_declTarget, a_tokenBody, a_branchTarget, a_liveBody, a_liveParent, a_returnTo, a_slotValue, a_slotHome, a_waitingOp, a_waitingLeft, a_leftKnown, a_argKind, a_argValue, a_argHome) => wX_layOutBodies_90 post (wX_layOutBodies_12 post f) (nI (gr_xb K L)) (nI i) f_depthLimit f_state f_trapCode f_begun f_tokenTotal f_printedTotal f_stackSize f_bodyCount f_declaredTwice f_liveDepth f_position a_tokenKind a_tokenValue a_printed a_stack a_bodyParent a_bodyStart a_declCount a_paramCount a_paramName a_declKind a_declTarget a_tokenBody a_branchTarget a_liveBody a_liveParent a_returnTo a_slotValue a_slotHome a_waitingOp a_waitingLeft a_leftKnown a_argKind a_argValue a_argHome) (f_depthLimit, f_state, f_trapCode, f_begun, nI n, f_printedTotal, f_stackSize, nI (gr_np K i + 1), tw, f_liveDepth, f_position, a_tokenKind, a_tokenValue, a_printed, a_stack, bp, bs, upd dc (gr_xb K L) (dc (gr_xb K L) + 1), pc, pm, dk, dt, upd tb i (nI (gr_xb K L)), a_branchTarget, a_liveBody, a_liveParent, a_returnTo, a_slotValue, a_slotHome, a_waitingOp, a_waitingLeft, a_leftKnown, a_argKind, a_argValue, a_argHome) (nI (gr_xb K L)) (nI (V i)) := by
                    intro tw dk dt hT'
                    have hC' : xl_C K n (i + 1) (upd dc (gr_xb K L) (dc (gr_xb K L) + 1)) (upd pc (gr_xb K L) (nI (gr_pn K n (gr_xb K L) i) + 1)) := by
                      rw [← hpc]; rw [← hx] at hxl ⊢; exact xl_C_p hC hxl kk5
                    refine xl_param hx16 hpc (by omega) (fun h4 => ?_) (fun h4 => ?_)
                    · refine fin' tw _ _ _ _ _ _ hS' hC' ?_ hT'
                      rw [← hx] at h4 ⊢
                      exact xl_N_p hN kk5 h4
                    · refine fin' tw _ _ _ _ _ _ hS' hC' ?_ hT'
                      rw [← hx] at h4
                      exact xl_N_4 hN h4
                  refine xl_tok5 h256i k1 kk5 ?_
                  unfold wX_layOutToken_103
                  refine xl_decl hx16 h256i hv.1 hv.2 (fun h0 => ⟨vp_in_nI h256i (by decide), ?_⟩) (fun h0 => ⟨vp_in_nI h256i (by decide), ?_⟩)
                  · rw [nI_clamp (by omega), hv.1]
                    refine par tw _ _ ?_
                    rw [← hx] at h0 ⊢
                    rw [k1, htg]
                    exact xl_T_d0 hT hVd hKd hD h0
                  · rw [nI_clamp (by omega), hv.1]
                    refine par 1 _ _ ?_
                    rw [← hx] at h0 ⊢
                    exact xl_T_d1 hT hv.2 (by omega) hD h0
                · have hD : ¬ gr_D (K i) := by simp only [gr_D]; omega
                  exact xl_tok0 h256i k1 (by omega) (fin' _ _ _ _ _ _ _ hS' (xl_C_n hC hD) (xl_N_n hN (by omega)) (xl_T_n hT hD))
