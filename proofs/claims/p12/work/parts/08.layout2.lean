/-- where the bodies' statements start, as far as token i -/
def lo_S (K : Nat → Nat) (i : Nat) (bs : Nat → Int32) : Prop :=
  (∀ s b L, 1 ≤ s → s < i → gr_cf K s = some ((1, b) :: L, 0) → K s ≠ 3 → K s ≠ 4 → bs (gr_np K b) = nI s) ∧
  (∀ b L, gr_cf K i = some ((1, b) :: L, 0) → bs (gr_np K b) = nI i)
theorem lo_kb {K : Nat → Nat} {i t b e : Nat} {L : List (Nat × Nat)} (h1 : 1 ≤ i) (hc : gr_cf K i = some ((t, b) :: L, e)) (ht : t = 1 ∨ t = 2) : K b = 1 ∧ b < i := by
  have := (gr_kinds i _ _ h1 hc).1
  simp only at this
  exact ⟨by omega, (gr_sorted i _ _ h1 hc).1⟩
theorem lo_S_w {K : Nat → Nat} {n i b : Nat} {L : List (Nat × Nat)} {bs : Nat → Int32} (hn : gr_cf K n = some ([], 0)) (hi : i < n) (h : lo_S K i bs) (hc : gr_cf K (i + 1) = some ((1, b) :: L, 0)) :
    lo_S K (i + 1) (upd bs (gr_np K b) (nI (i + 1))) := by
  have hb := lo_kb (by omega) hc (.inl rfl)
  constructor
  · intro s b' L' h1 hs hcs k3 k4
    have hb' := lo_kb h1 hcs (.inl rfl)
    have hg := gr_dgone h1 hcs k3 k4 hs hc
    have hne : gr_np K b' ≠ gr_np K b := by
      intro e
      have := (gr_np_inj hn (by omega) (by omega) hb'.1 hb.1).mp e
      subst this
      exact hg (by simp)
    rw [lo_un hne]
    by_cases e : s = i
    · subst e; exact h.2 b' L' hcs
    · exact h.1 s b' L' h1 (by omega) hcs k3 k4
  · intro b' L' hc'
    rw [hc] at hc'
    injection hc' with hc'
    injection hc' with hc' _
    injection hc' with hc' _
    injection hc' with _ hc'
    subst hc'
    exact lo_us
theorem lo_S_n {K : Nat → Nat} {i : Nat} {bs : Nat → Int32} (h : lo_S K i bs) (hc : ∀ b L, gr_cf K (i + 1) ≠ some ((1, b) :: L, 0)) : lo_S K (i + 1) bs := by
  constructor
  · intro s b' L' h1 hs hcs k3 k4
    by_cases e : s = i
    · subst e; exact h.2 b' L' hcs
    · exact h.1 s b' L' h1 (by omega) hcs k3 k4
  · intro b' L' hc'; exact absurd hc' (hc b' L')
/-- the limits, of the bodies that are not unclosed around the present one -/
def lo_G (K : Nat → Nat) (n i : Nat) (L : List (Nat × Nat)) : Prop :=
  gr_np K i ≤ 15 ∧ ∀ k, k ≤ gr_np K i → k ∉ (lo_ob K L).tail → gr_dn K n k i ≤ 8 ∧ gr_pn K n k i ≤ 4
theorem lo_ob_t {K : Nat → Nat} {t t' p : Nat} {L : List (Nat × Nat)} (h : t' = t ∨ t = 1 ∧ t' = 2) : lo_ob K ((t', p) :: L) = lo_ob K ((t, p) :: L) := by
  rcases h with rfl | ⟨rfl, rfl⟩
  · rfl
  · simp [lo_ob]
theorem lo_ob_456 {K : Nat → Nat} {t p : Nat} {L : List (Nat × Nat)} (h : 4 ≤ t) : lo_ob K ((t, p) :: L) = lo_ob K L := by
  simp only [lo_ob]; rw [if_neg (by omega), if_neg (by omega)]
theorem lo_xb_456 {K : Nat → Nat} {t p : Nat} {L : List (Nat × Nat)} (h : 4 ≤ t) : gr_xb K ((t, p) :: L) = gr_xb K L := by
  simp only [gr_xb]; rw [if_neg (by omega), if_neg (by omega)]
theorem lo_ob_3 {K : Nat → Nat} {p : Nat} {L : List (Nat × Nat)} : lo_ob K ((3, p) :: L) = gr_np K (p + 1) :: lo_ob K L := by simp [lo_ob]
theorem lo_xb_3 {K : Nat → Nat} {p : Nat} {L : List (Nat × Nat)} : gr_xb K ((3, p) :: L) = gr_np K (p + 1) := by simp [gr_xb]
theorem lo_ob_12 {K : Nat → Nat} {t p : Nat} {L : List (Nat × Nat)} (h : t = 1 ∨ t = 2) : lo_ob K ((t, p) :: L) = gr_np K p :: lo_ob K L := by simp only [lo_ob]; rw [if_pos h]
theorem lo_xb_12 {K : Nat → Nat} {t p : Nat} {L : List (Nat × Nat)} (h : t = 1 ∨ t = 2) : gr_xb K ((t, p) :: L) = gr_np K p := by simp only [gr_xb]; rw [if_pos h]
/-- how one token moves the unclosed bodies: a body opens, closes, or stays -/
theorem lo_mv {K : Nat → Nat} {n i e e' : Nat} {L L' : List (Nat × Nat)} (hn : gr_cf K n = some ([], 0)) (h1 : 1 ≤ i) (hi : i < n) (hc : gr_cf K i = some (L, e)) (hc' : gr_cf K (i + 1) = some (L', e')) :
    (K i = 4 ∧ lo_ob K L' = gr_np K (i + 1) :: lo_ob K L ∧ gr_xb K L' = gr_np K (i + 1)) ∨
    (K i = 2 ∧ lo_ob K L = gr_xb K L :: lo_ob K L') ∨
    (K i ≠ 4 ∧ K i ≠ 2 ∧ lo_ob K L' = lo_ob K L ∧ gr_xb K L' = gr_xb K L) := by
  have hs : gr_st (K i) i (L, e) = some (L', e') := by rw [← gr_next hc]; exact hc'
  have hsh := gr_shape i _ _ h1 hc
  rcases gr_cases hs with ⟨L2, e2, e3, r1, r2, h3⟩ | ⟨t1, p1, L2, e3, r1, r2, h3⟩ | ⟨t1, p1, L2, u, e3, r1, r2, h3⟩ | ⟨t1, p1, L2, u, r1, r2, h3⟩ | ⟨t1, p1, L2, r1, r2, h3⟩
  · cases r1; cases r2
    refine .inr (.inr ⟨?_, ?_, rfl, rfl⟩) <;> (simp only [gr_c1] at h3; omega)
  · cases r1; cases r2
    refine .inr (.inr ⟨?_, ?_, lo_ob_t gr_n_t, gr_xb_t gr_n_t⟩) <;> (simp only [gr_c2] at h3; omega)
  · cases r1; cases r2
    rcases h3 with ⟨hk, ht, hu, _⟩ | ⟨hk, hS, hu, _⟩ | ⟨hk, hS, hu, _⟩
    · subst hu
      refine .inl ⟨hk, ?_, lo_xb_3⟩
      rw [lo_ob_3, lo_ob_t gr_n_t]
    · subst hu
      refine .inr (.inr ⟨by omega, by omega, ?_, ?_⟩)
      · rw [lo_ob_456 (by omega), lo_ob_t gr_n_t]
      · rw [lo_xb_456 (by omega), gr_xb_t gr_n_t]
    · subst hu
      refine .inr (.inr ⟨by omega, by omega, ?_, ?_⟩)
      · rw [lo_ob_456 (by omega), lo_ob_t gr_n_t]
      · rw [lo_xb_456 (by omega), gr_xb_t gr_n_t]
  · cases r1; cases r2
    rcases h3 with ⟨hk, ht, hu⟩ | ⟨hk, ht, hu⟩
    · have h0 : t1 ≠ 0 := by
        cases L2 with
        | nil => have := hsh.1; simp only at this; omega
        | cons g L3 => have := hsh.1; simp only [gr_S] at this; omega
      have ht3 : t1 = 3 := by omega
      subst ht3; subst hu
      have h5 := (gr_top3 i _ _ h1 hc p1 L2 rfl).1
      refine .inr (.inr ⟨by omega, by omega, ?_, ?_⟩)
      · rw [lo_ob_12 (.inl rfl), lo_ob_3, h5]
      · rw [lo_xb_12 (.inl rfl), lo_xb_3, h5]
    · subst hu; subst ht
      refine .inr (.inr ⟨by omega, by omega, ?_, ?_⟩)
      · rw [lo_ob_456 (by omega), lo_ob_456 (by omega)]
      · rw [lo_xb_456 (by omega), lo_xb_456 (by omega)]
  · cases r1; cases r2
    rcases h3 with ⟨hk, ht⟩ | ⟨hk, ht⟩ | ⟨hk, ht⟩
    · have h2 := @gr_n_t (K i) t1
      have ht : t1 = 1 ∨ t1 = 2 := by omega
      refine .inr (.inl ⟨hk, ?_⟩)
      rw [lo_ob_12 ht, lo_xb_12 ht]
    · refine .inr (.inr ⟨by omega, by omega, ?_, ?_⟩)
      · rw [lo_ob_456 (by omega)]
      · rw [lo_xb_456 (by omega)]
    · refine .inr (.inr ⟨by omega, by omega, ?_, ?_⟩)
      · rw [lo_ob_456 (by omega)]
      · rw [lo_xb_456 (by omega)]
theorem lo_G_s {K : Nat → Nat} {n i e e' : Nat} {L L' : List (Nat × Nat)} (hn : gr_cf K n = some ([], 0)) (h1 : 1 ≤ i) (hi : i < n) (hc : gr_cf K i = some (L, e)) (hc' : gr_cf K (i + 1) = some (L', e')) (h : lo_G K n i L)
    (hnp : gr_np K (i + 1) ≤ 15) (hd : gr_dn K n (gr_xb K L') (i + 1) ≤ 8 ∧ gr_pn K n (gr_xb K L') (i + 1) ≤ 4) : lo_G K n (i + 1) L' := by
  refine ⟨hnp, fun k hk hkt => ?_⟩
  by_cases hkx : k = gr_xb K L'
  · subst hkx; exact hd
  have hno : k ∉ lo_ob K L' := by
    rcases lo_hd (K := K) L' with ⟨a, _⟩ | ⟨M, a⟩
    · rw [a]; simp
    · rw [a] at hkt ⊢
      simp only [List.tail_cons] at hkt
      intro hm
      rcases List.mem_cons.mp hm with hm | hm
      · exact hkx hm
      · exact hkt hm
  have hx := (gr_xbo hn hi hc).1
  have hlx : lo_x K n i = gr_xb K L := hx
  rcases lo_mv hn h1 hi hc hc' with ⟨a1, a2, a3⟩ | ⟨a1, a2⟩ | ⟨a1, a2, a3, a4⟩
  · have hk2 : k ∉ lo_ob K L := fun hm => hno (by rw [a2]; exact List.mem_cons_of_mem _ hm)
    rw [gr_np_4 a1] at hk a3
    have hne : lo_x K n i ≠ k := by
      rw [hlx]
      rcases lo_hd (K := K) L with ⟨b, c⟩ | ⟨M, b⟩
      · intro e2
        have hsh := gr_shape i _ _ h1 hc
        have h3 : ∀ p L'', L ≠ (3, p) :: L'' := fun p L'' e3 => by
          have := (gr_k3 hn h1 hi hc).mpr ⟨p, L'', e3⟩
          omega
        obtain ⟨b2, hb2, _⟩ := gr_cb_some (K := K) hsh (gr_nn hn hi hc) h3
        have key : ∀ L : List (Nat × Nat), gr_cb L = some b2 → lo_ob K L ≠ [] := by
          intro L
          induction L with
          | nil => intro h; cases h
          | cons f L ih =>
            intro h
            simp only [gr_cb] at h
            simp only [lo_ob]
            by_cases t1 : f.1 = 1 ∨ f.1 = 2
            · rw [if_pos t1]; simp
            · rw [if_neg t1] at h ⊢
              by_cases t3 : f.1 = 3
              · rw [if_pos t3]; simp
              · rw [if_neg t3]; exact ih h
        exact key L hb2 b
      · intro e2
        exact hk2 (by rw [b, e2]; simp)
    rw [lo_dn_n (fun h => hne h.2), lo_pn_n (fun h => hne h.2)]
    refine h.2 k (by omega) (fun hm => hk2 ?_)
    exact List.mem_of_mem_tail hm
  · rw [gr_np_n (by omega)] at hk
    rw [lo_dn_n (fun h => by have := h.1; simp only [gr_D] at this; omega), lo_pn_n (fun h => by omega)]
    refine h.2 k hk ?_
    rw [a2]
    exact hno
  · rw [gr_np_n a1] at hk
    rw [a3] at hno
    have hne : ¬ (gr_D (K i) ∧ lo_x K n i = k) := by
      rintro ⟨_, e2⟩
      rw [hlx, ← a4] at e2
      exact hkx e2.symm
    have hne2 : ¬ ((K i = 5 ∨ K i = 6) ∧ lo_x K n i = k) := by
      rintro ⟨_, e2⟩
      rw [hlx, ← a4] at e2
      exact hkx e2.symm
    rw [lo_dn_n hne, lo_pn_n hne2]
    exact h.2 k hk (fun hm => hno (List.mem_of_mem_tail hm))
theorem lo_G_end {K : Nat → Nat} {n : Nat} (hn : gr_cf K n = some ([], 0)) (h : lo_G K n n []) : gr_LM K n := by
  refine ⟨h.1, fun b hb _ => h.2 _ (gr_np_mono (by omega)) ?_⟩
  simp [lo_ob]
/-- the present body has its BEGIN -/
theorem lo_xbeg {K : Nat → Nat} {n i e : Nat} {L : List (Nat × Nat)} (hn : gr_cf K n = some ([], 0)) (hi : i ≤ n) (hc : gr_cf K i = some (L, e)) : ∃ b, b < n ∧ K b = 1 ∧ gr_np K b = gr_xb K L := by
  by_cases e2 : i = n
  · subst e2
    rw [hn] at hc
    cases hc
    have := gr_k01 hn
    exact ⟨0, by omega, this.2, rfl⟩
  · have hx := gr_xbo hn (show i < n by omega) hc
    exact ⟨_, hx.2.2, hx.2.1, hx.1⟩
theorem lo_fail {K : Nat → Nat} {n i e : Nat} {L : List (Nat × Nat)} (hn : gr_cf K n = some ([], 0)) (hi : i ≤ n) (hc : gr_cf K i = some (L, e)) (h : ¬ (gr_dn K n (gr_xb K L) i ≤ 8 ∧ gr_pn K n (gr_xb K L) i ≤ 4)) : ¬ gr_LM K n := by
  intro hL
  obtain ⟨b, b1, b2, b3⟩ := lo_xbeg hn hi hc
  have := hL.2 b b1 b2
  rw [b3] at this
  have m := @lo_dn_mono K n (gr_xb K L) i n hi
  omega
/-- which tokens leave a body's declarations on top -/
theorem lo_top1 {K : Nat → Nat} {n i b : Nat} {L : List (Nat × Nat)} (hn : gr_cf K n = some ([], 0)) (h1 : 1 ≤ i) (hi : i < n) (hc' : gr_cf K (i + 1) = some ((1, b) :: L, 0)) : K i = 1 ∨ K i = 3 ∨ K i = 2 := by
  obtain ⟨c, hc, hs⟩ := gr_prev hc'
  rcases gr_cases hs with ⟨L2, e2, e3, r1, r2, h3⟩ | ⟨t1, p1, L2, e3, r1, r2, h3⟩ | ⟨t1, p1, L2, u, e3, r1, r2, h3⟩ | ⟨t1, p1, L2, u, r1, r2, h3⟩ | ⟨t1, p1, L2, r1, r2, h3⟩
  · subst r1
    injection r2 with r3 r4
    subst r3
    exfalso
    have key : ∀ i L e, 1 ≤ i → gr_cf K i = some (L, e) → ∀ b L', L = (1, b) :: L' → e = 0 := by
      refine gr_ind (fun i L e => ∀ b L', L = (1, b) :: L' → e = 0) ?_ ?_ ?_ ?_ ?_ ?_
      · intro _ _ _ _; rfl
      · intro i L e e' _ _ h _ b L' hL; have := h b L' hL; omega
      · intro i t p L e' _ _ _ hc b L' hL
        injection hL with hL _
        injection hL with hL _
        have := @gr_n_or (K i) t
        simp only [gr_c2, gr_S] at hc
        omega
      · intro i t p L u e' _ _ _ hc b L' hL
        injection hL with hL _
        injection hL with hL _
        simp only [gr_c3] at hc
        omega
      · intro i t p L u _ _ _ _ _ _ _; rfl
      · intro i t p L _ _ _ _ _ _ _; rfl
    have := key i _ _ h1 hc b L rfl
    omega
  · subst r1
    injection r2 with r3 r4
    injection r3 with r3 _
    injection r3 with r3 _
    have := @gr_n_or (K i) t1
    simp only [gr_c2, gr_S] at h3
    omega
  · injection r2 with r3 r4
    injection r3 with r3 _
    injection r3 with r3 _
    simp only [gr_c3] at h3
    omega
  · injection r2 with r3 r4
    injection r3 with r3 _
    injection r3 with r3 _
    simp only [gr_c4] at h3
    omega
  · subst r1
    injection r2 with r3 r4
    subst r3
    have hsh := gr_shape i _ _ h1 hc
    have := hsh.1
    have := @gr_n_or (K i) t1
    simp only [gr_c5, gr_S] at *
    omega
