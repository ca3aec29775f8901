variable {f_depthLimit f_state f_trapCode f_begun f_tokenTotal f_printedTotal f_stackSize f_bodyCount f_declaredTwice f_liveDepth f_position : Int32} {a_tokenKind a_tokenValue a_printed a_stack a_bodyParent a_bodyStart a_declCount a_paramCount a_paramName a_declKind a_declTarget a_tokenBody a_branchTarget a_liveBody a_liveParent a_returnTo a_slotValue a_slotHome a_waitingOp a_waitingLeft a_leftKnown a_argKind a_argValue a_argHome : Nat → Int32}
variable {g_n g_limit g_status g_trapCode g_exec g_top g_outN g_pc g_evEnd g_rq g_re : Int32} {b_kind b_val b_bod b_par b_lnk b_st b_si b_stk b_out b_abody b_apar b_aret b_avar b_apq b_ape b_tk b_tv b_tq b_te : Nat → Int32}
theorem rk_442 {PY : SY → Prop} {K V : Nat → Nat} {n q b c t : Nat} {a1 a2 a3 : Nat → Int32} (h256 : n ≤ 256) (htv : ∀ i, i < n → xn_nm (K i) → b_val i = nI (V i) ∧ V i < 16) (hPr : rk_Pr K V n q b) (hc : c = b - q - 1) (ht : t ≤ 16)
    (h : wY_call_555 PY (nI b) (nI n) g_limit g_status g_trapCode g_exec (nI t) g_outN g_pc g_evEnd g_rq g_re b_kind b_val b_bod b_par b_lnk b_st b_si b_stk b_out b_abody b_apar b_aret (rk_b1 V q t b_tk b_tv a1 (b - q - 1)) (rk_b2 V q t b_tk b_tq a2 (b - q - 1)) (rk_b2 V q t b_tk b_te a3 (b - q - 1)) b_tk b_tv b_tq b_te) :
    ∀ (d i f : Nat), i + d = b - q - 1 → d < f → wY_call_442 PY (nI q) (nI c) (nI b) (nI n) g_limit g_status g_trapCode g_exec (nI t) g_outN g_pc g_evEnd g_rq g_re f (nI i) b_kind b_val b_bod b_par b_lnk b_st b_si b_stk b_out b_abody b_apar b_aret (rk_b1 V q t b_tk b_tv a1 i) (rk_b2 V q t b_tk b_tq a2 i) (rk_b2 V q t b_tk b_te a3 i) b_tk b_tv b_tq b_te := by
  have p7 := hPr.2.2.2.2.2.2.1
  intro d
  induction d with
  | zero =>
    intro i f hi hf
    have : i = b - q - 1 := by omega
    subst this
    cases f with
    | zero => omega
    | succ f => exact br_t (nI_le (by omega) (by omega)) h
  | succ d ih =>
    intro i f hi hf
    cases f with
    | zero => omega
    | succ f =>
      obtain ⟨r1, r2, r3, r4, r5⟩ := rk_par hPr (show i < b - q - 1 by omega)
      have hv := htv _ r1 (by simp only [xn_nm]; omega)
      have i4 : vp_in (nI i) 4 := vp_in_nI (by omega) (by decide)
      have is : vp_in (nI (t * 16 + V (q + 1 + i))) 272 := vp_in_nI (by omega) (by decide)
      have next := ih (i + 1) f (by omega) (by omega)
      simp only [rk_b1, rk_b2] at next
      refine br_f (nI_ge (by omega) (by omega)) (br_f (nI_ge (b := 4) (by omega) (by decide)) ?_)
      rw [nI_1, nI_add, nI_clamp (n := q + 1 + i) (by omega), hv.1]
      refine ⟨vp_in_nI (by omega) (by decide), nm_e ⟨i4, ?_⟩⟩
      rw [li_m16, nI_add, nI_clamp (n := t * 16 + V (q + 1 + i)) (by omega), nI_clamp (n := i) (by omega)]
      by_cases e : b_tk i = 12
      · rw [if_pos e, if_pos e, if_pos e] at next
        exact br_t e ⟨i4, is, nm_e (nm_r (nI_1 i) next)⟩
      · rw [if_neg e, if_neg e, if_neg e] at next
        exact br_f e ⟨i4, is, nm_e ⟨i4, is, nm_e (nm_r (nI_1 i) next)⟩⟩
theorem rk_378 {PY : SY → Prop} {K V : Nat → Nat} {n q b c t : Nat} (h256 : n ≤ 256) (htv : ∀ i, i < n → xn_nm (K i) → b_val i = nI (V i) ∧ V i < 16) (hPr : rk_Pr K V n q b) (hc : c = b - q - 1) (ht : t ≤ 16)
    (h : wY_call_555 PY (nI b) (nI n) g_limit g_status g_trapCode g_exec (nI t) g_outN g_pc g_evEnd g_rq g_re b_kind b_val b_bod b_par b_lnk b_st b_si b_stk b_out b_abody b_apar b_aret (rk_b1 V q t b_tk b_tv (rk_z t b_avar 16) (b - q - 1)) (rk_b2 V q t b_tk b_tq (rk_z t b_apq 16) (b - q - 1)) (rk_b2 V q t b_tk b_te (rk_z t b_ape 16) (b - q - 1)) b_tk b_tv b_tq b_te) :
    ∀ (d i f : Nat), i + d = 16 → d < f → wY_call_378 PY (nI q) (nI c) (nI b) (nI n) g_limit g_status g_trapCode g_exec (nI t) g_outN g_pc g_evEnd g_rq g_re f (nI i) b_kind b_val b_bod b_par b_lnk b_st b_si b_stk b_out b_abody b_apar b_aret (rk_z t b_avar i) (rk_z t b_apq i) (rk_z t b_ape i) b_tk b_tv b_tq b_te := by
  intro d
  induction d with
  | zero =>
    intro i f hi hf
    have : i = 16 := by omega
    subst this
    cases f with
    | zero => omega
    | succ f => exact br_t (by decide) ⟨b - q, rk_442 h256 htv hPr hc ht h (b - q - 1) 0 (b - q) (by omega) (by have := hPr.2.2.1; omega)⟩
  | succ d ih =>
    intro i f hi hf
    cases f with
    | zero => omega
    | succ f =>
      have is : vp_in (nI (t * 16 + i)) 272 := vp_in_nI (by omega) (by decide)
      refine br_f (nI_ge (b := 16) (by omega) (by decide)) ?_
      rw [li_m16, nI_add, nI_clamp (n := t * 16 + i) (by omega)]
      exact ⟨is, nm_e ⟨is, nm_e ⟨is, nm_e (nm_r (nI_1 i) (ih (i + 1) f (by omega) (by omega)))⟩⟩⟩
/-- a body has a first statement -/
theorem rk_first {K : Nat → Nat} {n b : Nat} {L : List (Nat × Nat)} (hn : gr_cf K n = some ([], 0)) : ∀ (m i : Nat), n - i ≤ m → 1 ≤ i → i ≤ n → gr_cf K i = some ((1, b) :: L, 0) → ∃ s, 1 ≤ s ∧ s < n ∧ gr_cf K s = some ((1, b) :: L, 0) ∧ K s ≠ 3 ∧ K s ≠ 4 ∧ gr_P K n s b := by
  intro m
  induction m with
  | zero =>
    intro i hm h1 hi hc
    have : i = n := by omega
    subst this; rw [hn] at hc; cases hc
  | succ m ih =>
    intro i hm h1 hi hc
    have hlt : i < n := by
      by_cases e : i = n
      · subst e; rw [hn] at hc; cases hc
      · omega
    rcases gr_decl hn h1 hlt hc with ⟨q, hc'⟩ | ⟨q, c, r, a1, a2, a3, a4, a5, a6, a8, a9⟩ | ⟨q3, q4, hP⟩
    · exact ih (i + 1) (by omega) (by omega) (by omega) hc'
    · exact ih (r + 1) (by omega) (by omega) (by omega) a9
    · exact ⟨i, h1, hlt, hc, q3, q4, hP⟩
def rk_u (f : Nat → Nat) (t x : Nat) : Nat → Nat := fun a => if a = t then x else f a
theorem rk_us {f : Nat → Nat} {t x : Nat} : rk_u f t x t = x := by simp [rk_u]
theorem rk_un {f : Nat → Nat} {t x a : Nat} (h : a ≠ t) : rk_u f t x a = f a := by simp [rk_u, h]
/-- the relation with one activation more -/
theorem rk_R {K V : Nat → Nat} {n : Nat} {ab ap rt : Nat → Nat} {top q h b c dn : Nat} {lb lp rr sv0 sh0 sv1 sh1 sv sh yb yp yr av aq ae ak va ah tk tv tq te dk dt : Nat → Int32} (hn : gr_cf K n = some ([], 0)) (hN : gr_ND K V n) (hV : ∀ d, d < n → gr_D (K d) → V d < 16)
    (hR : rt_R K V n ab ap rt top lb lp rr sv0 sh0 yb yp yr av aq ae) (hPr : rk_Pr K V n q b) (hq : rt_V K n ab top q h) (hpa : gr_pa K b = some (gr_bo K n q)) (hA : rk_A K n ab top c ak va ah tk tv tq te) (hF : rk_F K q (b - q - 1) c ak) (hPd : gr_P K n (dn + 1) (ab top)) (htop : top + 1 ≤ 16) (hD : sx_D K V n dk dt)
    (h1 : ∀ x, x < 16 → sv1 ((top + 1) * 16 + x) = dt (gr_np K b * 16 + x) ∧ sh1 ((top + 1) * 16 + x) = nI (top + 1)) (h2 : ∀ j, (j < (top + 1) * 16 ∨ (top + 1) * 16 + 16 ≤ j) → sv1 j = sv0 j ∧ sh1 j = sh0 j)
    (h3 : ∀ i, i < b - q - 1 → sv ((top + 1) * 16 + V (q + 1 + i)) = va i ∧ sh ((top + 1) * 16 + V (q + 1 + i)) = ah i) (h4 : ∀ j, (∀ i, i < b - q - 1 → j ≠ (top + 1) * 16 + V (q + 1 + i)) → sv j = sv1 j ∧ sh j = sh1 j) :
    rt_R K V n (rk_u ab (top + 1) b) (rk_u ap (top + 1) h) (rk_u rt (top + 1) (dn + 1)) (top + 1) (upd lb (top + 1) (nI (gr_np K b))) (upd lp (top + 1) (nI h)) (upd rr (top + 1) (nI (dn + 1))) sv sh (upd yb (top + 1) (nI b)) (upd yp (top + 1) (nI h)) (upd yr (top + 1) (nI (dn + 1)))
      (rk_b1 V q (top + 1) tk tv (rk_z (top + 1) av 16) (b - q - 1)) (rk_b2 V q (top + 1) tk tq (rk_z (top + 1) aq 16) (b - q - 1)) (rk_b2 V q (top + 1) tk te (rk_z (top + 1) ae 16) (b - q - 1)) := by
  obtain ⟨p1, p2, p3, p4, p5, p6, p7, p8⟩ := hPr
  have hPr : rk_Pr K V n q b := ⟨p1, p2, p3, p4, p5, p6, p7, p8⟩
  have hinj : ∀ i j, i < b - q - 1 → j < b - q - 1 → V (q + 1 + i) = V (q + 1 + j) → i = j := fun i j a b e => rk_inj hPr a b e
  refine ⟨htop, fun a ha => ?_, fun a ha1 ha => ?_, fun a ha => ?_, ?_, fun a ha1 ha => ?_, fun a ha => ?_⟩
  · by_cases e : a = top + 1
    · subst e
      rw [rk_us, rk_us]
      refine ⟨p4, p5, fun h => by omega, fun _ => ⟨by have := hq.2.2.1; omega, ?_⟩⟩
      rw [hpa, hq.2.2.2, rk_un (by have := hq.2.2.1; omega)]
    · obtain ⟨c1, c2, c3, c4⟩ := hR.2.1 a (by omega)
      rw [rk_un e, rk_un e]
      refine ⟨c1, c2, c3, fun h0 => ⟨(c4 h0).1, ?_⟩⟩
      rw [rk_un (by have := (c4 h0).1; omega)]
      exact (c4 h0).2
  · by_cases e : a = top + 1
    · subst e
      rw [rk_us, lo_us, lo_us, show top + 1 - 1 = top by omega, rk_un (by omega)]
      exact ⟨hPd, rfl, rfl⟩
    · rw [rk_un e, lo_un e, lo_un e, rk_un (by omega)]
      exact hR.2.2.1 a ha1 (by omega)
  · by_cases e : a = top + 1
    · subst e
      rw [rk_us, lo_us, lo_us]; exact ⟨rfl, rfl⟩
    · rw [rk_un e, lo_un e, lo_un e]
      exact hR.2.2.2.1 a (by omega)
  · rw [lo_un (by omega)]; exact hR.2.2.2.2.1
  · by_cases e : a = top + 1
    · subst e
      rw [rk_us, lo_us, lo_us]; exact ⟨rfl, rfl⟩
    · rw [rk_un e, lo_un e, lo_un e]
      exact hR.2.2.2.2.2.1 a ha1 (by omega)
  · intro d hd hDd hb
    have hvd := hV d hd hDd
    by_cases e : a = top + 1
    · subst e
      rw [rk_us] at hb
      by_cases kp : K d = 5 ∨ K d = 6
      · -- a parameter
        have hrange : q < d ∧ d < b := (gr_parOf hn p1 p2 p3 p4 p5 (fun i h1 h2 => (p6 i h1 h2).1) hd).mp ⟨kp, by rw [hb]⟩
        have hi : d - q - 1 < b - q - 1 := by omega
        have ed : q + 1 + (d - q - 1) = d := by omega
        have x3 := h3 (d - q - 1) hi
        have xF := hF.2 (d - q - 1) hi
        have xA := hA (d - q - 1) (by have := hF.1; omega) (by omega)
        have y1 := @rk_b1_y V q (top + 1) (b - q - 1) tk tv (rk_z (top + 1) av 16) hinj (b - q - 1) (Nat.le_refl _) (d - q - 1) hi
        have y2 := @rk_b2_y V q (top + 1) (b - q - 1) tk tq (rk_z (top + 1) aq 16) hinj (b - q - 1) (Nat.le_refl _) (d - q - 1) hi
        have y3 := @rk_b2_y V q (top + 1) (b - q - 1) tk te (rk_z (top + 1) ae 16) hinj (b - q - 1) (Nat.le_refl _) (d - q - 1) hi
        rw [ed] at x3 xF y1 y2 y3
        rcases xA with ⟨g1, g2, g3⟩ | ⟨g1, g2, q2, h5, hV2, g3, g4, g5, g6⟩
        · have k5 : K d = 5 := by
            rw [xF] at g1
            exact (nI_eq (b := 5) (by omega) (by decide)).mp g1
          refine ⟨fun _ => ?_, fun h => by omega, fun h => by omega, fun h => by omega⟩
          rw [x3.1, y1 g2, g3]
        · have k6 : K d = 6 := by
            rw [xF] at g1
            exact (nI_eq (b := 6) (by omega) (by decide)).mp g1
          have n12 : ¬ tk (d - q - 1) = 12 := by rw [g2]; decide
          refine ⟨fun h => by omega, fun h => by omega, fun h => by omega, fun _ => ⟨q2, h5, hV2.1, hV2.2.1, by have := hV2.2.2.1; omega, ?_, ?_, ?_, ?_, ?_⟩⟩
          · rw [rk_un (by have := hV2.2.2.1; omega)]; exact hV2.2.2.2
          · rw [x3.1]; exact g3
          · rw [x3.2]; exact g4
          · rw [y2 n12]; exact g5
          · rw [y3 n12]; exact g6
      · -- another declaration
        have hdc := gr_dc_of hN hd hDd
        rw [hb] at hdc
        have hno : ∀ i, i < b - q - 1 → (top + 1) * 16 + V d ≠ (top + 1) * 16 + V (q + 1 + i) := by
          intro i hi e2
          have r := rk_par hPr hi
          have e3 : V d = V (q + 1 + i) := by omega
          rw [e3, r.2.2.2.2] at hdc
          injection hdc with hdc
          rw [hdc] at r
          exact kp r.2.1
        have x4 := h4 _ hno
        have x1 := h1 (V d) hvd
        have hdt := ((hD b (V d) p4 p5 hvd).2 d hdc).2
        rw [x4.1, x4.2, x1.1, x1.2, hdt]
        refine ⟨fun h35 => ?_, fun k4 => ?_, fun k10 => ?_, fun k6 => absurd (.inr k6) kp⟩
        · rw [rk_b1_no _ _ hno, rk_z_in 16 (V d) hvd]
          unfold lo_tg
          rw [if_neg (by omega), if_neg (by omega)]; rfl
        · unfold lo_tg; rw [if_pos k4]; exact ⟨rfl, rfl⟩
        · unfold lo_tg; rw [if_neg (by omega), if_pos k10]; exact ⟨rfl, rfl⟩
    · rw [rk_un e] at hb
      have hlo : a * 16 + V d < (top + 1) * 16 := by omega
      have hno : ∀ i, i < b - q - 1 → a * 16 + V d ≠ (top + 1) * 16 + V (q + 1 + i) := fun i hi => by omega
      have x4 := h4 _ hno
      have x2 := h2 _ (.inl hlo)
      have old := hR.2.2.2.2.2.2 a (by omega) d hd hDd hb
      rw [x4.1, x4.2, x2.1, x2.2, rk_b1_no _ _ hno, rk_b2_no _ _ hno, rk_b2_no _ _ hno, rk_z_lo 16 _ hlo, rk_z_lo 16 _ hlo, rk_z_lo 16 _ hlo]
      refine ⟨old.1, old.2.1, old.2.2.1, fun k6 => ?_⟩
      obtain ⟨q2, h5, g1, g2, g3, g4, g5, g6, g7, g8⟩ := old.2.2.2 k6
      exact ⟨q2, h5, g1, g2, g3, by rw [rk_un (by omega)]; exact g4, g5, g6, g7, g8⟩
