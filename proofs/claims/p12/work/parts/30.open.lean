variable {f_depthLimit f_state f_trapCode f_begun f_tokenTotal f_printedTotal f_stackSize f_bodyCount f_declaredTwice f_liveDepth f_position : Int32} {a_tokenKind a_tokenValue a_printed a_stack a_bodyParent a_bodyStart a_declCount a_paramCount a_paramName a_declKind a_declTarget a_tokenBody a_branchTarget a_liveBody a_liveParent a_returnTo a_slotValue a_slotHome a_waitingOp a_waitingLeft a_leftKnown a_argKind a_argValue a_argHome : Nat → Int32}
/-- the arguments fit the procedure q with P parameters -/
def rk_F (K : Nat → Nat) (q P c : Nat) (ak : Nat → Int32) : Prop := c = P ∧ ∀ i, i < P → ak i = nI (K (q + 1 + i))
/-- a procedure's parameters -/
def rk_Pr (K V : Nat → Nat) (n q b : Nat) : Prop := q < n ∧ K q = 4 ∧ q < b ∧ b < n ∧ K b = 1 ∧ (∀ i, q < i → i < b → (K i = 5 ∨ K i = 6) ∧ gr_bo K n i = b ∧ V i < 16 ∧ gr_dc K V n b (V i) = some i) ∧ b - q - 1 ≤ 4 ∧ gr_np K b < 16
theorem rk_par {K V : Nat → Nat} {n q b i : Nat} (h : rk_Pr K V n q b) (hi : i < b - q - 1) : q + 1 + i < n ∧ (K (q + 1 + i) = 5 ∨ K (q + 1 + i) = 6) ∧ gr_bo K n (q + 1 + i) = b ∧ V (q + 1 + i) < 16 ∧ gr_dc K V n b (V (q + 1 + i)) = some (q + 1 + i) := by
  have h5 := h.2.2.2.2.2.1 (q + 1 + i) (by omega) (by omega)
  have := h.2.2.2.1
  exact ⟨by omega, h5⟩
theorem rk_inj {K V : Nat → Nat} {n q b i j : Nat} (h : rk_Pr K V n q b) (hi : i < b - q - 1) (hj : j < b - q - 1) (e : V (q + 1 + i) = V (q + 1 + j)) : i = j := by
  have a := (rk_par h hi).2.2.2.2
  have c := (rk_par h hj).2.2.2.2
  rw [e, c] at a
  injection a with a
  omega
theorem rk_fit {post : Int32 → Prop} {K V : Nat → Nat} {n q b c : Nat} (hK : ∀ d, d < n → 1 ≤ K d ∧ K d ≤ 26) (hPr : rk_Pr K V n q b) (hQ : sx_Q K V n a_paramCount a_paramName) (hD : sx_D K V n a_declKind a_declTarget) (hc : c ≤ 256)
    (ht : rk_F K q (b - q - 1) c a_argKind → post 1) (hf : ¬ rk_F K q (b - q - 1) c a_argKind → post 0) : wpX_argumentsFit post (f_depthLimit, f_state, f_trapCode, f_begun, f_tokenTotal, f_printedTotal, f_stackSize, f_bodyCount, f_declaredTwice, f_liveDepth, f_position, a_tokenKind, a_tokenValue, a_printed, a_stack, a_bodyParent, a_bodyStart, a_declCount, a_paramCount, a_paramName, a_declKind, a_declTarget, a_tokenBody, a_branchTarget, a_liveBody, a_liveParent, a_returnTo, a_slotValue, a_slotHome, a_waitingOp, a_waitingLeft, a_leftKnown, a_argKind, a_argValue, a_argHome) (nI (gr_np K b)) (nI c) := by
  obtain ⟨p1, p2, p3, p4, p5, p6, p7, p8⟩ := hPr
  have hPr : rk_Pr K V n q b := ⟨p1, p2, p3, p4, p5, p6, p7, p8⟩
  have hq := hQ q b p1 p2 p3 p4 p5 (fun i h1 h2 => (p6 i h1 h2).1)
  unfold wpX_argumentsFit
  refine ⟨vp_in_nI p8 (by decide), ?_⟩
  rw [nI_clamp (n := gr_np K b) (by omega), hq.2.1]
  by_cases e : c = b - q - 1
  · have loop : ∀ (d i f : Nat), i + d = b - q - 1 → d < f → (∀ i', i' < i → a_argKind i' = nI (K (q + 1 + i'))) → wX_argumentsFit_14 post (nI (gr_np K b)) (nI c) f_depthLimit f_state f_trapCode f_begun f_tokenTotal f_printedTotal f_stackSize f_bodyCount f_declaredTwice f_liveDepth f_position a_tokenKind a_tokenValue a_printed a_stack a_bodyParent a_bodyStart a_declCount a_paramCount a_paramName a_declKind a_declTarget a_tokenBody a_branchTarget a_liveBody a_liveParent a_returnTo a_slotValue a_slotHome a_waitingOp a_waitingLeft a_leftKnown a_argKind a_argValue a_argHome f (nI i) := by
      intro d
      induction d with
      | zero =>
        intro i f hi hfu h
        have : i = b - q - 1 := by omega
        subst this
        cases f with
        | zero => omega
        | succ f => exact br_t (nI_le (by omega) (by omega)) (ht ⟨e, h⟩)
      | succ d ih =>
        intro i f hi hfu h
        cases f with
        | zero => omega
        | succ f =>
          obtain ⟨r1, r2, r3, r4, r5⟩ := rk_par hPr (show i < b - q - 1 by omega)
          have hdk := ((hD b (V (q + 1 + i)) p4 p5 r4).2 _ r5).1
          refine br_f (nI_ge (by omega) (by omega)) (br_f (nI_ge (b := 4) (by omega) (by decide)) ?_)
          rw [li_m4, nI_add, nI_clamp (n := gr_np K b * 4 + i) (by omega), hq.2.2 i (by omega)]
          refine ⟨vp_in_nI (by omega) (by decide), nm_e ?_⟩
          rw [li_m16, nI_add, nI_clamp (n := gr_np K b * 16 + V (q + 1 + i)) (by omega), nI_clamp (n := i) (by omega), hdk]
          refine ⟨vp_in_nI (by omega) (by decide), vp_in_nI (by omega) (by decide), ?_⟩
          by_cases g : nI (K (q + 1 + i)) = a_argKind i
          · refine br_t g (nm_r (nI_1 i) (ih (i + 1) f (by omega) (by omega) (fun i' hi' => ?_)))
            by_cases e2 : i' = i
            · subst e2; exact g.symm
            · exact h i' (by omega)
          · exact br_f g (hf (fun hF => g (hF.2 i (by omega)).symm))
    exact br_t (by rw [e]) ⟨b - q, loop (b - q - 1) 0 (b - q) (by omega) (by omega) (fun i' h => by omega)⟩
  · exact br_f (fun h => e ((nI_eq (by omega) (by omega)).mp h)) (hf (fun hF => e hF.1))
/-- the component binds the parameters -/
theorem rk_bind {post : St2 → Prop} {K V : Nat → Nat} {n q b t : Nat} (hPr : rk_Pr K V n q b) (hQ : sx_Q K V n a_paramCount a_paramName) (ht : t ≤ 16) (sv0 sh0 : Nat → Int32)
    (h : ∀ sv sh, (∀ i, i < b - q - 1 → sv (t * 16 + V (q + 1 + i)) = a_argValue i ∧ sh (t * 16 + V (q + 1 + i)) = a_argHome i) → (∀ j, (∀ i, i < b - q - 1 → j ≠ t * 16 + V (q + 1 + i)) → sv j = sv0 j ∧ sh j = sh0 j) → post (f_depthLimit, f_state, f_trapCode, f_begun, f_tokenTotal, f_printedTotal, f_stackSize, f_bodyCount, f_declaredTwice, nI t, f_position, a_tokenKind, a_tokenValue, a_printed, a_stack, a_bodyParent, a_bodyStart, a_declCount, a_paramCount, a_paramName, a_declKind, a_declTarget, a_tokenBody, a_branchTarget, a_liveBody, a_liveParent, a_returnTo, sv, sh, a_waitingOp, a_waitingLeft, a_leftKnown, a_argKind, a_argValue, a_argHome)) :
    ∀ (d i f : Nat) (sv sh : Nat → Int32), i + d = b - q - 1 → d < f → (∀ i', i' < i → sv (t * 16 + V (q + 1 + i')) = a_argValue i' ∧ sh (t * 16 + V (q + 1 + i')) = a_argHome i') → (∀ j, (∀ i', i' < i → j ≠ t * 16 + V (q + 1 + i')) → sv j = sv0 j ∧ sh j = sh0 j) →
      wX_bindParams_2 post (nI (gr_np K b)) f_depthLimit f_state f_trapCode f_begun f_tokenTotal f_printedTotal f_stackSize f_bodyCount f_declaredTwice (nI t) f_position f (nI i) a_tokenKind a_tokenValue a_printed a_stack a_bodyParent a_bodyStart a_declCount a_paramCount a_paramName a_declKind a_declTarget a_tokenBody a_branchTarget a_liveBody a_liveParent a_returnTo sv sh a_waitingOp a_waitingLeft a_leftKnown a_argKind a_argValue a_argHome := by
  obtain ⟨p1, p2, p3, p4, p5, p6, p7, p8⟩ := hPr
  have hPr : rk_Pr K V n q b := ⟨p1, p2, p3, p4, p5, p6, p7, p8⟩
  have hq := hQ q b p1 p2 p3 p4 p5 (fun i h1 h2 => (p6 i h1 h2).1)
  intro d
  induction d with
  | zero =>
    intro i f sv sh hi hf h1 h2
    have : i = b - q - 1 := by omega
    subst this
    cases f with
    | zero => omega
    | succ f =>
      refine ⟨vp_in_nI p8 (by decide), ?_⟩
      rw [nI_clamp (n := gr_np K b) (by omega), hq.2.1]
      exact br_t (nI_le (Nat.le_refl _) (by omega)) (h sv sh h1 h2)
  | succ d ih =>
    intro i f sv sh hi hf h1 h2
    cases f with
    | zero => omega
    | succ f =>
      obtain ⟨r1, r2, r3, r4, r5⟩ := rk_par hPr (show i < b - q - 1 by omega)
      refine ⟨vp_in_nI p8 (by decide), ?_⟩
      rw [nI_clamp (n := gr_np K b) (by omega), hq.2.1]
      refine br_f (nI_ge (by omega) (by omega)) (br_f (nI_ge (b := 4) (by omega) (by decide)) ?_)
      rw [li_m4, nI_add, nI_clamp (n := gr_np K b * 4 + i) (by omega), hq.2.2 i (by omega)]
      refine ⟨vp_in_nI (by omega) (by decide), nm_r (show _ = nI (t * 16 + V (q + 1 + i)) by rw [li_m16, nI_add]) ?_⟩
      rw [nI_clamp (n := t * 16 + V (q + 1 + i)) (by omega), nI_clamp (n := i) (by omega)]
      have i4 : vp_in (nI i) 4 := vp_in_nI (by omega) (by decide)
      have is : vp_in (nI (t * 16 + V (q + 1 + i))) 272 := vp_in_nI (by omega) (by decide)
      refine ⟨i4, is, nm_e ⟨i4, is, nm_e (nm_r (nI_1 i) (ih (i + 1) f _ _ (by omega) (by omega) (fun i' hi' => ?_) (fun j hj => ?_)))⟩⟩
      · by_cases e : i' = i
        · subst e; exact ⟨lo_us, lo_us⟩
        · have hne : t * 16 + V (q + 1 + i') ≠ t * 16 + V (q + 1 + i) := fun h5 => e (rk_inj hPr (by omega) (by omega) (by omega))
          rw [lo_un hne, lo_un hne]; exact h1 i' (by omega)
      · have hne := hj i (by omega)
        rw [lo_un hne, lo_un hne]; exact h2 j (fun i' hi' => hj i' (by omega))
/-- the reference's new slots, just as its loops write them -/
def rk_z (t : Nat) (a : Nat → Int32) : Nat → Nat → Int32
  | 0 => a
  | i + 1 => upd (rk_z t a i) (t * 16 + i) 0
def rk_b1 (V : Nat → Nat) (q t : Nat) (tk tv a : Nat → Int32) : Nat → Nat → Int32
  | 0 => a
  | i + 1 => if tk i = 12 then upd (rk_b1 V q t tk tv a i) (t * 16 + V (q + 1 + i)) (tv i) else rk_b1 V q t tk tv a i
def rk_b2 (V : Nat → Nat) (q t : Nat) (tk tv a : Nat → Int32) : Nat → Nat → Int32
  | 0 => a
  | i + 1 => if tk i = 12 then rk_b2 V q t tk tv a i else upd (rk_b2 V q t tk tv a i) (t * 16 + V (q + 1 + i)) (tv i)
theorem rk_z_lo {t : Nat} {a : Nat → Int32} : ∀ i j, j < t * 16 → rk_z t a i j = a j := by
  intro i
  induction i with
  | zero => intro j _; rfl
  | succ i ih => intro j hj; simp only [rk_z]; rw [lo_un (by omega)]; exact ih j hj
theorem rk_z_in {t : Nat} {a : Nat → Int32} : ∀ i x, x < i → rk_z t a i (t * 16 + x) = 0 := by
  intro i
  induction i with
  | zero => intro x hx; omega
  | succ i ih =>
    intro x hx
    simp only [rk_z]
    by_cases e : x = i
    · subst e; exact lo_us
    · rw [lo_un (by omega)]; exact ih x (by omega)
theorem rk_b1_no {V : Nat → Nat} {q t : Nat} {tk tv a : Nat → Int32} : ∀ i j, (∀ i', i' < i → j ≠ t * 16 + V (q + 1 + i')) → rk_b1 V q t tk tv a i j = a j := by
  intro i
  induction i with
  | zero => intro j _; rfl
  | succ i ih =>
    intro j hj
    simp only [rk_b1]
    split
    · rw [lo_un (hj i (by omega))]; exact ih j (fun i' h => hj i' (by omega))
    · exact ih j (fun i' h => hj i' (by omega))
theorem rk_b2_no {V : Nat → Nat} {q t : Nat} {tk tv a : Nat → Int32} : ∀ i j, (∀ i', i' < i → j ≠ t * 16 + V (q + 1 + i')) → rk_b2 V q t tk tv a i j = a j := by
  intro i
  induction i with
  | zero => intro j _; rfl
  | succ i ih =>
    intro j hj
    simp only [rk_b2]
    split
    · exact ih j (fun i' h => hj i' (by omega))
    · rw [lo_un (hj i (by omega))]; exact ih j (fun i' h => hj i' (by omega))
theorem rk_b1_y {V : Nat → Nat} {q t P : Nat} {tk tv a : Nat → Int32} (hinj : ∀ i j, i < P → j < P → V (q + 1 + i) = V (q + 1 + j) → i = j) : ∀ i, i ≤ P → ∀ i', i' < i → tk i' = 12 → rk_b1 V q t tk tv a i (t * 16 + V (q + 1 + i')) = tv i' := by
  intro i
  induction i with
  | zero => intro _ i' h; omega
  | succ i ih =>
    intro hP i' hi' h12
    simp only [rk_b1]
    by_cases e : i' = i
    · subst e; rw [if_pos h12]; exact lo_us
    · have hne : t * 16 + V (q + 1 + i') ≠ t * 16 + V (q + 1 + i) := fun h5 => e (hinj i' i (by omega) (by omega) (by omega))
      split
      · rw [lo_un hne]; exact ih (by omega) i' (by omega) h12
      · exact ih (by omega) i' (by omega) h12
theorem rk_b2_y {V : Nat → Nat} {q t P : Nat} {tk tv a : Nat → Int32} (hinj : ∀ i j, i < P → j < P → V (q + 1 + i) = V (q + 1 + j) → i = j) : ∀ i, i ≤ P → ∀ i', i' < i → ¬ tk i' = 12 → rk_b2 V q t tk tv a i (t * 16 + V (q + 1 + i')) = tv i' := by
  intro i
  induction i with
  | zero => intro _ i' h; omega
  | succ i ih =>
    intro hP i' hi' h12
    simp only [rk_b2]
    by_cases e : i' = i
    · subst e; rw [if_neg h12]; exact lo_us
    · have hne : t * 16 + V (q + 1 + i') ≠ t * 16 + V (q + 1 + i) := fun h5 => e (hinj i' i (by omega) (by omega) (by omega))
      split
      · exact ih (by omega) i' (by omega) h12
      · rw [lo_un hne]; exact ih (by omega) i' (by omega) h12
/-- a body has a first statement -/
theorem rk_first {K : Nat → Nat} {n b : Nat} {L : List (Nat × Nat)} (hn : gr_cf K n = some ([], 0)) : ∀ (m i : Nat), n - i ≤ m → 1 ≤ i → i ≤ n → gr_cf K i = some ((1, b) :: L, 0) → ∃ s, 1 ≤ s ∧ s < n ∧ gr_cf K s = some ((1, b) :: L, 0) ∧ K s ≠ 3 ∧ K s ≠ 4 ∧ gr_P K n s b := by
  intro m
  induction m with
  | zero =>
    intro i hm h1 hi hc
    have : i = n := by omega
    subst this; rw [hn] at hc; cases hc
  | succ m ih =>
    intro i hm h1 hi hc
    have hlt : i < n := by
      by_cases e : i = n
      · subst e; rw [hn] at hc; cases hc
      · omega
    rcases gr_decl hn h1 hlt hc with ⟨q, hc'⟩ | ⟨q, c, r, a1, a2, a3, a4, a5, a6, a8, a9⟩ | ⟨q3, q4, hP⟩
    · exact ih (i + 1) (by omega) (by omega) (by omega) hc'
    · exact ih (r + 1) (by omega) (by omega) (by omega) a9
    · exact ⟨i, h1, hlt, hc, q3, q4, hP⟩
def rk_u (f : Nat → Nat) (t x : Nat) : Nat → Nat := fun a => if a = t then x else f a
theorem rk_us {f : Nat → Nat} {t x : Nat} : rk_u f t x t = x := by simp [rk_u]
theorem rk_un {f : Nat → Nat} {t x a : Nat} (h : a ≠ t) : rk_u f t x a = f a := by simp [rk_u, h]
/-- the relation with one activation more -/
theorem rk_R {K V : Nat → Nat} {n : Nat} {ab ap rt : Nat → Nat} {top q h b c dn : Nat} {lb lp rr sv0 sh0 sv1 sh1 sv sh yb yp yr av aq ae ak va ah tk tv tq te dk dt : Nat → Int32} (hn : gr_cf K n = some ([], 0)) (hN : gr_ND K V n) (hV : ∀ d, d < n → gr_D (K d) → V d < 16)
    (hR : rt_R K V n ab ap rt top lb lp rr sv0 sh0 yb yp yr av aq ae) (hPr : rk_Pr K V n q b) (hq : rt_V K n ab top q h) (hpa : gr_pa K b = some (gr_bo K n q)) (hA : rk_A K n ab top c ak va ah tk tv tq te) (hF : rk_F K q (b - q - 1) c ak) (hPd : gr_P K n (dn + 1) (ab top)) (htop : top + 1 ≤ 16) (hD : sx_D K V n dk dt)
    (h1 : ∀ x, x < 16 → sv1 ((top + 1) * 16 + x) = dt (gr_np K b * 16 + x) ∧ sh1 ((top + 1) * 16 + x) = nI (top + 1)) (h2 : ∀ j, (j < (top + 1) * 16 ∨ (top + 1) * 16 + 16 ≤ j) → sv1 j = sv0 j ∧ sh1 j = sh0 j)
    (h3 : ∀ i, i < b - q - 1 → sv ((top + 1) * 16 + V (q + 1 + i)) = va i ∧ sh ((top + 1) * 16 + V (q + 1 + i)) = ah i) (h4 : ∀ j, (∀ i, i < b - q - 1 → j ≠ (top + 1) * 16 + V (q + 1 + i)) → sv j = sv1 j ∧ sh j = sh1 j) :
    rt_R K V n (rk_u ab (top + 1) b) (rk_u ap (top + 1) h) (rk_u rt (top + 1) (dn + 1)) (top + 1) (upd lb (top + 1) (nI (gr_np K b))) (upd lp (top + 1) (nI h)) (upd rr (top + 1) (nI (dn + 1))) sv sh (upd yb (top + 1) (nI b)) (upd yp (top + 1) (nI h)) (upd yr (top + 1) (nI (dn + 1)))
      (rk_b1 V q (top + 1) tk tv (rk_z (top + 1) av 16) (b - q - 1)) (rk_b2 V q (top + 1) tk tq (rk_z (top + 1) aq 16) (b - q - 1)) (rk_b2 V q (top + 1) tk te (rk_z (top + 1) ae 16) (b - q - 1)) := by
  obtain ⟨p1, p2, p3, p4, p5, p6, p7, p8⟩ := hPr
  have hPr : rk_Pr K V n q b := ⟨p1, p2, p3, p4, p5, p6, p7, p8⟩
  have hinj : ∀ i j, i < b - q - 1 → j < b - q - 1 → V (q + 1 + i) = V (q + 1 + j) → i = j := fun i j a b e => rk_inj hPr a b e
  refine ⟨htop, fun a ha => ?_, fun a ha1 ha => ?_, fun a ha => ?_, ?_, fun a ha1 ha => ?_, fun a ha => ?_⟩
  · by_cases e : a = top + 1
    · subst e
      rw [rk_us, rk_us]
      refine ⟨p4, p5, fun h => by omega, fun _ => ⟨by have := hq.2.2.1; omega, ?_⟩⟩
      rw [hpa, hq.2.2.2, rk_un (by have := hq.2.2.1; omega)]
    · obtain ⟨c1, c2, c3, c4⟩ := hR.2.1 a (by omega)
      rw [rk_un e, rk_un e]
      refine ⟨c1, c2, c3, fun h0 => ⟨(c4 h0).1, ?_⟩⟩
      rw [rk_un (by have := (c4 h0).1; omega)]
      exact (c4 h0).2
  · by_cases e : a = top + 1
    · subst e
      rw [rk_us, lo_us, lo_us, show top + 1 - 1 = top by omega, rk_un (by omega)]
      exact ⟨hPd, rfl, rfl⟩
    · rw [rk_un e, lo_un e, lo_un e, rk_un (by omega)]
      exact hR.2.2.1 a ha1 (by omega)
  · by_cases e : a = top + 1
    · subst e
      rw [rk_us, lo_us, lo_us]; exact ⟨rfl, rfl⟩
    · rw [rk_un e, lo_un e, lo_un e]
      exact hR.2.2.2.1 a (by omega)
  · rw [lo_un (by omega)]; exact hR.2.2.2.2.1
  · by_cases e : a = top + 1
    · subst e
      rw [rk_us, lo_us, lo_us]; exact ⟨rfl, rfl⟩
    · rw [rk_un e, lo_un e, lo_un e]
      exact hR.2.2.2.2.2.1 a ha1 (by omega)
  · intro d hd hDd hb
    have hvd := hV d hd hDd
    by_cases e : a = top + 1
    · subst e
      rw [rk_us] at hb
      by_cases kp : K d = 5 ∨ K d = 6
      · -- a parameter
        have hrange : q < d ∧ d < b := (gr_parOf hn p1 p2 p3 p4 p5 (fun i h1 h2 => (p6 i h1 h2).1) hd).mp ⟨kp, by rw [hb]⟩
        have hi : d - q - 1 < b - q - 1 := by omega
        have ed : q + 1 + (d - q - 1) = d := by omega
        have x3 := h3 (d - q - 1) hi
        have xF := hF.2 (d - q - 1) hi
        have xA := hA (d - q - 1) (by have := hF.1; omega) (by omega)
        have y1 := @rk_b1_y V q (top + 1) (b - q - 1) tk tv (rk_z (top + 1) av 16) hinj (b - q - 1) (Nat.le_refl _) (d - q - 1) hi
        have y2 := @rk_b2_y V q (top + 1) (b - q - 1) tk tq (rk_z (top + 1) aq 16) hinj (b - q - 1) (Nat.le_refl _) (d - q - 1) hi
        have y3 := @rk_b2_y V q (top + 1) (b - q - 1) tk te (rk_z (top + 1) ae 16) hinj (b - q - 1) (Nat.le_refl _) (d - q - 1) hi
        rw [ed] at x3 xF y1 y2 y3
        rcases xA with ⟨g1, g2, g3⟩ | ⟨g1, g2, q2, h5, hV2, g3, g4, g5, g6⟩
        · have k5 : K d = 5 := by
            rw [xF] at g1
            exact (nI_eq (b := 5) (by omega) (by decide)).mp g1
          refine ⟨fun _ => ?_, fun h => by omega, fun h => by omega, fun h => by omega⟩
          rw [x3.1, y1 g2, g3]
        · have k6 : K d = 6 := by
            rw [xF] at g1
            exact (nI_eq (b := 6) (by omega) (by decide)).mp g1
          have n12 : ¬ tk (d - q - 1) = 12 := by rw [g2]; decide
          refine ⟨fun h => by omega, fun h => by omega, fun h => by omega, fun _ => ⟨q2, h5, hV2.1, hV2.2.1, by have := hV2.2.2.1; omega, ?_, ?_, ?_, ?_, ?_⟩⟩
          · rw [rk_un (by have := hV2.2.2.1; omega)]; exact hV2.2.2.2
          · rw [x3.1]; exact g3
          · rw [x3.2]; exact g4
          · rw [y2 n12]; exact g5
          · rw [y3 n12]; exact g6
      · -- another declaration
        have hdc := gr_dc_of hN hd hDd
        rw [hb] at hdc
        have hno : ∀ i, i < b - q - 1 → (top + 1) * 16 + V d ≠ (top + 1) * 16 + V (q + 1 + i) := by
          intro i hi e2
          have r := rk_par hPr hi
          have e3 : V d = V (q + 1 + i) := by omega
          rw [e3, r.2.2.2.2] at hdc
          injection hdc with hdc
          rw [hdc] at r
          exact kp r.2.1
        have x4 := h4 _ hno
        have x1 := h1 (V d) hvd
        have hdt := ((hD b (V d) p4 p5 hvd).2 d hdc).2
        rw [x4.1, x4.2, x1.1, x1.2, hdt]
        refine ⟨fun h35 => ?_, fun k4 => ?_, fun k10 => ?_, fun k6 => absurd (.inr k6) kp⟩
        · rw [rk_b1_no _ _ hno, rk_z_in 16 (V d) hvd]
          unfold lo_tg
          rw [if_neg (by omega), if_neg (by omega)]; rfl
        · unfold lo_tg; rw [if_pos k4]; exact ⟨rfl, rfl⟩
        · unfold lo_tg; rw [if_neg (by omega), if_pos k10]; exact ⟨rfl, rfl⟩
    · rw [rk_un e] at hb
      have hlo : a * 16 + V d < (top + 1) * 16 := by omega
      have hno : ∀ i, i < b - q - 1 → a * 16 + V d ≠ (top + 1) * 16 + V (q + 1 + i) := fun i hi => by omega
      have x4 := h4 _ hno
      have x2 := h2 _ (.inl hlo)
      have old := hR.2.2.2.2.2.2 a (by omega) d hd hDd hb
      rw [x4.1, x4.2, x2.1, x2.2, rk_b1_no _ _ hno, rk_b2_no _ _ hno, rk_b2_no _ _ hno, rk_z_lo 16 _ hlo, rk_z_lo 16 _ hlo, rk_z_lo 16 _ hlo]
      refine ⟨old.1, old.2.1, old.2.2.1, fun k6 => ?_⟩
      obtain ⟨q2, h5, g1, g2, g3, g4, g5, g6, g7, g8⟩ := old.2.2.2 k6
      exact ⟨q2, h5, g1, g2, g3, by rw [rk_un (by omega)]; exact g4, g5, g6, g7, g8⟩
