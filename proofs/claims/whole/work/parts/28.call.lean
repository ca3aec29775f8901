variable {f_depthLimit f_state f_trapCode f_begun f_tokenTotal f_printedTotal f_stackSize f_bodyCount f_declaredTwice f_liveDepth f_position : Int32} {a_tokenKind a_tokenValue a_printed a_stack a_bodyParent a_bodyStart a_declCount a_paramCount a_paramName a_declKind a_declTarget a_tokenBody a_branchTarget a_liveBody a_liveParent a_returnTo a_slotValue a_slotHome a_waitingOp a_waitingLeft a_leftKnown a_argKind a_argValue a_argHome : Nat → Int32}
variable {g_n g_limit g_status g_trapCode g_exec g_top g_outN g_pc g_evEnd g_rq g_re : Int32} {b_kind b_val b_bod b_par b_lnk b_st b_si b_stk b_out b_abody b_apar b_aret b_avar b_apq b_ape b_tk b_tv b_tq b_te : Nat → Int32}
/-- the arguments fit the procedure q with P parameters -/
def rk_F (K : Nat → Nat) (q P c : Nat) (ak : Nat → Int32) : Prop := c = P ∧ ∀ i, i < P → ak i = nI (K (q + 1 + i))
/-- a procedure's parameters -/
def rk_Pr (K V : Nat → Nat) (n q b : Nat) : Prop := q < n ∧ K q = 4 ∧ q < b ∧ b < n ∧ K b = 1 ∧ (∀ i, q < i → i < b → (K i = 5 ∨ K i = 6) ∧ gr_bo K n i = b ∧ V i < 16 ∧ gr_dc K V n b (V i) = some i) ∧ b - q - 1 ≤ 4 ∧ gr_np K b < 16
theorem rk_par {K V : Nat → Nat} {n q b i : Nat} (h : rk_Pr K V n q b) (hi : i < b - q - 1) : q + 1 + i < n ∧ (K (q + 1 + i) = 5 ∨ K (q + 1 + i) = 6) ∧ gr_bo K n (q + 1 + i) = b ∧ V (q + 1 + i) < 16 ∧ gr_dc K V n b (V (q + 1 + i)) = some (q + 1 + i) := by
  have h5 := h.2.2.2.2.2.1 (q + 1 + i) (by omega) (by omega)
  have := h.2.2.2.1
  exact ⟨by omega, h5⟩
theorem rk_inj {K V : Nat → Nat} {n q b i j : Nat} (h : rk_Pr K V n q b) (hi : i < b - q - 1) (hj : j < b - q - 1) (e : V (q + 1 + i) = V (q + 1 + j)) : i = j := by
  have a := (rk_par h hi).2.2.2.2
  have c := (rk_par h hj).2.2.2.2
  rw [e, c] at a
  injection a with a
  omega
theorem rk_fit {post : Int32 → Prop} {K V : Nat → Nat} {n q b c : Nat} (hK : ∀ d, d < n → 1 ≤ K d ∧ K d ≤ 26) (hPr : rk_Pr K V n q b) (hQ : sx_Q K V n a_paramCount a_paramName) (hD : sx_D K V n a_declKind a_declTarget) (hc : c ≤ 256)
    (ht : rk_F K q (b - q - 1) c a_argKind → post 1) (hf : ¬ rk_F K q (b - q - 1) c a_argKind → post 0) : wpX_argumentsFit post (f_depthLimit, f_state, f_trapCode, f_begun, f_tokenTotal, f_printedTotal, f_stackSize, f_bodyCount, f_declaredTwice, f_liveDepth, f_position, a_tokenKind, a_tokenValue, a_printed, a_stack, a_bodyParent, a_bodyStart, a_declCount, a_paramCount, a_paramName, a_declKind, a_declTarget, a_tokenBody, a_branchTarget, a_liveBody, a_liveParent, a_returnTo, a_slotValue, a_slotHome, a_waitingOp, a_waitingLeft, a_leftKnown, a_argKind, a_argValue, a_argHome) (nI (gr_np K b)) (nI c) := by
  obtain ⟨p1, p2, p3, p4, p5, p6, p7, p8⟩ := hPr
  have hPr : rk_Pr K V n q b := ⟨p1, p2, p3, p4, p5, p6, p7, p8⟩
  have hq := hQ q b p1 p2 p3 p4 p5 (fun i h1 h2 => (p6 i h1 h2).1)
  unfold wpX_argumentsFit
  refine ⟨vp_in_nI p8 (by decide), ?_⟩
  rw [nI_clamp (n := gr_np K b) (by omega), hq.2.1]
  by_cases e : c = b - q - 1
  · have loop : ∀ (d i f : Nat), i + d = b - q - 1 → d < f → (∀ i', i' < i → a_argKind i' = nI (K (q + 1 + i'))) → wX_argumentsFit_14 post (nI (gr_np K b)) (nI c) f_depthLimit f_state f_trapCode f_begun f_tokenTotal f_printedTotal f_stackSize f_bodyCount f_declaredTwice f_liveDepth f_position a_tokenKind a_tokenValue a_printed a_stack a_bodyParent a_bodyStart a_declCount a_paramCount a_paramName a_declKind a_declTarget a_tokenBody a_branchTarget a_liveBody a_liveParent a_returnTo a_slotValue a_slotHome a_waitingOp a_waitingLeft a_leftKnown a_argKind a_argValue a_argHome f (nI i) := by
      intro d
      induction d with
      | zero =>
        intro i f hi hfu h
        have : i = b - q - 1 := by omega
        subst this
        cases f with
        | zero => omega
        | succ f => exact br_t (nI_le (by omega) (by omega)) (ht ⟨e, h⟩)
      | succ d ih =>
        intro i f hi hfu h
        cases f with
        | zero => omega
        | succ f =>
          obtain ⟨r1, r2, r3, r4, r5⟩ := rk_par hPr (show i < b - q - 1 by omega)
          have hdk := ((hD b (V (q + 1 + i)) p4 p5 r4).2 _ r5).1
          refine br_f (nI_ge (by omega) (by omega)) (br_f (nI_ge (b := 4) (by omega) (by decide)) ?_)
          rw [li_m4, nI_add, nI_clamp (n := gr_np K b * 4 + i) (by omega), hq.2.2 i (by omega)]
          refine ⟨vp_in_nI (by omega) (by decide), nm_e ?_⟩
          rw [li_m16, nI_add, nI_clamp (n := gr_np K b * 16 + V (q + 1 + i)) (by omega), nI_clamp (n := i) (by omega), hdk]
          refine ⟨vp_in_nI (by omega) (by decide), vp_in_nI (by omega) (by decide), ?_⟩
          by_cases g : nI (K (q + 1 + i)) = a_argKind i
          · refine br_t g (nm_r (nI_1 i) (ih (i + 1) f (by omega) (by omega) (fun i' hi' => ?_)))
            by_cases e2 : i' = i
            · subst e2; exact g.symm
            · exact h i' (by omega)
          · exact br_f g (hf (fun hF => g (hF.2 i (by omega)).symm))
    exact br_t (by rw [e]) ⟨b - q, loop (b - q - 1) 0 (b - q) (by omega) (by omega) (fun i' h => by omega)⟩
  · exact br_f (fun h => e ((nI_eq (by omega) (by omega)).mp h)) (hf (fun hF => e hF.1))
theorem rk_236 {PY : SY → Prop} {q h c dn b x8 : Int32} {i f : Nat} (h8 : ¬ x8 = 0) (hh : wY_call_303 PY q h c dn b x8 g_n g_limit g_status g_trapCode g_exec g_top g_outN g_pc g_evEnd g_rq g_re b_kind b_val b_bod b_par b_lnk b_st b_si b_stk b_out b_abody b_apar b_aret b_avar b_apq b_ape b_tk b_tv b_tq b_te) : wY_call_236 PY q h c dn b g_n g_limit g_status g_trapCode g_exec g_top g_outN g_pc g_evEnd g_rq g_re b_kind b_val b_bod b_par b_lnk b_st b_si b_stk b_out b_abody b_apar b_aret b_avar b_apq b_ape b_tk b_tv b_tq b_te (f + 1) x8 (nI i) :=
  br_c (fun _ => hh) (fun _ => br_c (fun _ => hh) (fun _ => br_f h8 hh))
theorem rk_194 {PY : SY → Prop} {K V : Nat → Nat} {n q b c : Nat} {h dn : Int32} {ak : Nat → Int32} (h256 : n ≤ 256) (htk : ∀ i, i < n → b_kind i = nI (K i) ∧ 1 ≤ K i ∧ K i ≤ 26) (hPr : rk_Pr K V n q b) (hlk : b_lnk q = nI b) (hc : c ≤ 256)
    (hA : ∀ i, i < c → i < 4 → (ak i = 5 ∧ b_tk i = 12) ∨ (ak i = 6 ∧ b_tk i = 13))
    (ht : rk_F K q (b - q - 1) c ak → wY_call_303 PY (nI q) h (nI c) dn (nI b) 0 (nI n) g_limit g_status g_trapCode g_exec g_top g_outN g_pc g_evEnd g_rq g_re b_kind b_val b_bod b_par b_lnk b_st b_si b_stk b_out b_abody b_apar b_aret b_avar b_apq b_ape b_tk b_tv b_tq b_te) (hf : ¬ rk_F K q (b - q - 1) c ak → wY_call_303 PY (nI q) h (nI c) dn (nI b) 1 (nI n) g_limit g_status g_trapCode g_exec g_top g_outN g_pc g_evEnd g_rq g_re b_kind b_val b_bod b_par b_lnk b_st b_si b_stk b_out b_abody b_apar b_aret b_avar b_apq b_ape b_tk b_tv b_tq b_te) : wY_call_194 PY (nI q) h (nI c) dn (nI n) g_limit g_status g_trapCode g_exec g_top g_outN g_pc g_evEnd g_rq g_re b_kind b_val b_bod b_par b_lnk b_st b_si b_stk b_out b_abody b_apar b_aret b_avar b_apq b_ape b_tk b_tv b_tq b_te := by
  obtain ⟨p1, p2, p3, p4, p5, p6, p7, p8⟩ := hPr
  have hPr : rk_Pr K V n q b := ⟨p1, p2, p3, p4, p5, p6, p7, p8⟩
  unfold wY_call_194
  refine br_f (nI_pos (by omega)) (br_t (nI_lt p1 (by omega)) ⟨vp_in_nI (by omega) (by decide), ?_⟩)
  rw [nI_clamp (n := q) (by omega), hlk]
  refine nm_e ?_
  rw [li_sub (by omega), li_m1 (by omega)]
  by_cases e : c = b - q - 1
  · have loop : ∀ (d i f : Nat), i + d = b - q - 1 → d + 1 < f → (∀ i', i' < i → ak i' = nI (K (q + 1 + i'))) → wY_call_236 PY (nI q) h (nI c) dn (nI b) (nI n) g_limit g_status g_trapCode g_exec g_top g_outN g_pc g_evEnd g_rq g_re b_kind b_val b_bod b_par b_lnk b_st b_si b_stk b_out b_abody b_apar b_aret b_avar b_apq b_ape b_tk b_tv b_tq b_te f (nI 0) (nI i) := by
      intro d
      induction d with
      | zero =>
        intro i f hi hfu hh
        have : i = b - q - 1 := by omega
        subst this
        cases f with
        | zero => omega
        | succ f => exact br_t (nI_le (by omega) (by omega)) (ht ⟨e, hh⟩)
      | succ d ih =>
        intro i f hi hfu hh
        cases f with
        | zero => omega
        | succ f =>
          obtain ⟨r1, r2, r3, r4, r5⟩ := rk_par hPr (show i < b - q - 1 by omega)
          have hki := htk _ r1
          have hin : vp_in (nI (q + 1 + i)) 256 := vp_in_nI (by omega) (by decide)
          have good : ak i = nI (K (q + 1 + i)) → wY_call_236 PY (nI q) h (nI c) dn (nI b) (nI n) g_limit g_status g_trapCode g_exec g_top g_outN g_pc g_evEnd g_rq g_re b_kind b_val b_bod b_par b_lnk b_st b_si b_stk b_out b_abody b_apar b_aret b_avar b_apq b_ape b_tk b_tv b_tq b_te f (nI 0) (nI (i + 1)) := by
            intro g
            refine ih (i + 1) f (by omega) (by omega) (fun i' hi' => ?_)
            by_cases e2 : i' = i
            · subst e2; exact g
            · exact hh i' (by omega)
          have bad : ¬ ak i = nI (K (q + 1 + i)) → wY_call_236 PY (nI q) h (nI c) dn (nI b) (nI n) g_limit g_status g_trapCode g_exec g_top g_outN g_pc g_evEnd g_rq g_re b_kind b_val b_bod b_par b_lnk b_st b_si b_stk b_out b_abody b_apar b_aret b_avar b_apq b_ape b_tk b_tv b_tq b_te f 1 (nI (i + 1)) := by
            intro g
            cases f with
            | zero => omega
            | succ f => exact rk_236 (by decide) (hf (fun hF => g (hF.2 i (by omega))))
          refine br_f (nI_ge (by omega) (by omega)) (br_f (nI_ge (b := 4) (by omega) (by decide)) (br_t rfl ⟨vp_in_nI (by omega) (by decide), ?_⟩))
          rw [nI_clamp (n := i) (by omega)]
          unfold wY_call_271 wY_call_291
          rw [nI_1, nI_add, nI_clamp (n := q + 1 + i) (by omega), hki.1]
          rcases hA i (by omega) (by omega) with ⟨a1, a2⟩ | ⟨a1, a2⟩
          · refine br_t a2 ⟨hin, ?_⟩
            rcases r2 with r | r
            · exact br_t (by rw [r]; rfl) (br_t rfl (nm_r (nI_1 i) (good (by rw [a1, r]; rfl))))
            · exact br_f (by rw [r]; decide) (br_f (by decide) (nm_r (nI_1 i) (bad (by rw [a1, r]; decide))))
          · refine br_f (by rw [a2]; decide) ⟨hin, ?_⟩
            rcases r2 with r | r
            · exact br_t (by rw [r]; rfl) (br_f (by decide) (nm_r (nI_1 i) (bad (by rw [a1, r]; decide))))
            · exact br_f (by rw [r]; decide) (br_t rfl (nm_r (nI_1 i) (good (by rw [a1, r]; rfl))))
    exact br_t (by rw [e]) ⟨b - q + 1, loop (b - q - 1) 0 (b - q + 1) (by omega) (by omega) (fun i' h => by omega)⟩
  · exact br_f (fun h => e ((nI_eq (by omega) (by omega)).mp h)) ⟨1, rk_236 (i := 0) (by decide) (hf (fun hF => e hF.1))⟩
/-- the component binds the parameters -/
theorem rk_bind {post : SX → Prop} {K V : Nat → Nat} {n q b t : Nat} (hPr : rk_Pr K V n q b) (hQ : sx_Q K V n a_paramCount a_paramName) (ht : t ≤ 16) (sv0 sh0 : Nat → Int32)
    (h : ∀ sv sh, (∀ i, i < b - q - 1 → sv (t * 16 + V (q + 1 + i)) = a_argValue i ∧ sh (t * 16 + V (q + 1 + i)) = a_argHome i) → (∀ j, (∀ i, i < b - q - 1 → j ≠ t * 16 + V (q + 1 + i)) → sv j = sv0 j ∧ sh j = sh0 j) → post (f_depthLimit, f_state, f_trapCode, f_begun, f_tokenTotal, f_printedTotal, f_stackSize, f_bodyCount, f_declaredTwice, nI t, f_position, a_tokenKind, a_tokenValue, a_printed, a_stack, a_bodyParent, a_bodyStart, a_declCount, a_paramCount, a_paramName, a_declKind, a_declTarget, a_tokenBody, a_branchTarget, a_liveBody, a_liveParent, a_returnTo, sv, sh, a_waitingOp, a_waitingLeft, a_leftKnown, a_argKind, a_argValue, a_argHome)) :
    ∀ (d i f : Nat) (sv sh : Nat → Int32), i + d = b - q - 1 → d < f → (∀ i', i' < i → sv (t * 16 + V (q + 1 + i')) = a_argValue i' ∧ sh (t * 16 + V (q + 1 + i')) = a_argHome i') → (∀ j, (∀ i', i' < i → j ≠ t * 16 + V (q + 1 + i')) → sv j = sv0 j ∧ sh j = sh0 j) →
      wX_bindParams_2 post (nI (gr_np K b)) f_depthLimit f_state f_trapCode f_begun f_tokenTotal f_printedTotal f_stackSize f_bodyCount f_declaredTwice (nI t) f_position f (nI i) a_tokenKind a_tokenValue a_printed a_stack a_bodyParent a_bodyStart a_declCount a_paramCount a_paramName a_declKind a_declTarget a_tokenBody a_branchTarget a_liveBody a_liveParent a_returnTo sv sh a_waitingOp a_waitingLeft a_leftKnown a_argKind a_argValue a_argHome := by
  obtain ⟨p1, p2, p3, p4, p5, p6, p7, p8⟩ := hPr
  have hPr : rk_Pr K V n q b := ⟨p1, p2, p3, p4, p5, p6, p7, p8⟩
  have hq := hQ q b p1 p2 p3 p4 p5 (fun i h1 h2 => (p6 i h1 h2).1)
  intro d
  induction d with
  | zero =>
    intro i f sv sh hi hf h1 h2
    have : i = b - q - 1 := by omega
    subst this
    cases f with
    | zero => omega
    | succ f =>
      refine ⟨vp_in_nI p8 (by decide), ?_⟩
      rw [nI_clamp (n := gr_np K b) (by omega), hq.2.1]
      exact br_t (nI_le (Nat.le_refl _) (by omega)) (h sv sh h1 h2)
  | succ d ih =>
    intro i f sv sh hi hf h1 h2
    cases f with
    | zero => omega
    | succ f =>
      obtain ⟨r1, r2, r3, r4, r5⟩ := rk_par hPr (show i < b - q - 1 by omega)
      refine ⟨vp_in_nI p8 (by decide), ?_⟩
      rw [nI_clamp (n := gr_np K b) (by omega), hq.2.1]
      refine br_f (nI_ge (by omega) (by omega)) (br_f (nI_ge (b := 4) (by omega) (by decide)) ?_)
      rw [li_m4, nI_add, nI_clamp (n := gr_np K b * 4 + i) (by omega), hq.2.2 i (by omega)]
      refine ⟨vp_in_nI (by omega) (by decide), nm_r (show _ = nI (t * 16 + V (q + 1 + i)) by rw [li_m16, nI_add]) ?_⟩
      rw [nI_clamp (n := t * 16 + V (q + 1 + i)) (by omega), nI_clamp (n := i) (by omega)]
      have i4 : vp_in (nI i) 4 := vp_in_nI (by omega) (by decide)
      have is : vp_in (nI (t * 16 + V (q + 1 + i))) 272 := vp_in_nI (by omega) (by decide)
      refine ⟨i4, is, nm_e ⟨i4, is, nm_e (nm_r (nI_1 i) (ih (i + 1) f _ _ (by omega) (by omega) (fun i' hi' => ?_) (fun j hj => ?_)))⟩⟩
      · by_cases e : i' = i
        · subst e; exact ⟨lo_us, lo_us⟩
        · have hne : t * 16 + V (q + 1 + i') ≠ t * 16 + V (q + 1 + i) := fun h5 => e (rk_inj hPr (by omega) (by omega) (by omega))
          rw [lo_un hne, lo_un hne]; exact h1 i' (by omega)
      · have hne := hj i (by omega)
        rw [lo_un hne, lo_un hne]; exact h2 j (fun i' hi' => hj i' (by omega))
/-- the reference's new slots, just as its loops write them -/
def rk_z (t : Nat) (a : Nat → Int32) : Nat → Nat → Int32
  | 0 => a
  | i + 1 => upd (rk_z t a i) (t * 16 + i) 0
def rk_b1 (V : Nat → Nat) (q t : Nat) (tk tv a : Nat → Int32) : Nat → Nat → Int32
  | 0 => a
  | i + 1 => if tk i = 12 then upd (rk_b1 V q t tk tv a i) (t * 16 + V (q + 1 + i)) (tv i) else rk_b1 V q t tk tv a i
def rk_b2 (V : Nat → Nat) (q t : Nat) (tk tv a : Nat → Int32) : Nat → Nat → Int32
  | 0 => a
  | i + 1 => if tk i = 12 then rk_b2 V q t tk tv a i else upd (rk_b2 V q t tk tv a i) (t * 16 + V (q + 1 + i)) (tv i)
theorem rk_z_lo {t : Nat} {a : Nat → Int32} : ∀ i j, j < t * 16 → rk_z t a i j = a j := by
  intro i
  induction i with
  | zero => intro j _; rfl
  | succ i ih => intro j hj; simp only [rk_z]; rw [lo_un (by omega)]; exact ih j hj
theorem rk_z_in {t : Nat} {a : Nat → Int32} : ∀ i x, x < i → rk_z t a i (t * 16 + x) = 0 := by
  intro i
  induction i with
  | zero => intro x hx; omega
  | succ i ih =>
    intro x hx
    simp only [rk_z]
    by_cases e : x = i
    · subst e; exact lo_us
    · rw [lo_un (by omega)]; exact ih x (by omega)
theorem rk_b1_no {V : Nat → Nat} {q t : Nat} {tk tv a : Nat → Int32} : ∀ i j, (∀ i', i' < i → j ≠ t * 16 + V (q + 1 + i')) → rk_b1 V q t tk tv a i j = a j := by
  intro i
  induction i with
  | zero => intro j _; rfl
  | succ i ih =>
    intro j hj
    simp only [rk_b1]
    split
    · rw [lo_un (hj i (by omega))]; exact ih j (fun i' h => hj i' (by omega))
    · exact ih j (fun i' h => hj i' (by omega))
theorem rk_b2_no {V : Nat → Nat} {q t : Nat} {tk tv a : Nat → Int32} : ∀ i j, (∀ i', i' < i → j ≠ t * 16 + V (q + 1 + i')) → rk_b2 V q t tk tv a i j = a j := by
  intro i
  induction i with
  | zero => intro j _; rfl
  | succ i ih =>
    intro j hj
    simp only [rk_b2]
    split
    · exact ih j (fun i' h => hj i' (by omega))
    · rw [lo_un (hj i (by omega))]; exact ih j (fun i' h => hj i' (by omega))
theorem rk_b1_y {V : Nat → Nat} {q t P : Nat} {tk tv a : Nat → Int32} (hinj : ∀ i j, i < P → j < P → V (q + 1 + i) = V (q + 1 + j) → i = j) : ∀ i, i ≤ P → ∀ i', i' < i → tk i' = 12 → rk_b1 V q t tk tv a i (t * 16 + V (q + 1 + i')) = tv i' := by
  intro i
  induction i with
  | zero => intro _ i' h; omega
  | succ i ih =>
    intro hP i' hi' h12
    simp only [rk_b1]
    by_cases e : i' = i
    · subst e; rw [if_pos h12]; exact lo_us
    · have hne : t * 16 + V (q + 1 + i') ≠ t * 16 + V (q + 1 + i) := fun h5 => e (hinj i' i (by omega) (by omega) (by omega))
      split
      · rw [lo_un hne]; exact ih (by omega) i' (by omega) h12
      · exact ih (by omega) i' (by omega) h12
theorem rk_b2_y {V : Nat → Nat} {q t P : Nat} {tk tv a : Nat → Int32} (hinj : ∀ i j, i < P → j < P → V (q + 1 + i) = V (q + 1 + j) → i = j) : ∀ i, i ≤ P → ∀ i', i' < i → ¬ tk i' = 12 → rk_b2 V q t tk tv a i (t * 16 + V (q + 1 + i')) = tv i' := by
  intro i
  induction i with
  | zero => intro _ i' h; omega
  | succ i ih =>
    intro hP i' hi' h12
    simp only [rk_b2]
    by_cases e : i' = i
    · subst e; rw [if_neg h12]; exact lo_us
    · have hne : t * 16 + V (q + 1 + i') ≠ t * 16 + V (q + 1 + i) := fun h5 => e (hinj i' i (by omega) (by omega) (by omega))
      split
      · exact ih (by omega) i' (by omega) h12
      · rw [lo_un hne]; exact ih (by omega) i' (by omega) h12
