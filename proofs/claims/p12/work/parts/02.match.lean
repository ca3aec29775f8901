/-- token k closes a frame of type t -/
def gr_cl (k t : Nat) : Prop := (k = 1 ∧ t = 3) ∨ (k = 16 ∧ t = 4) ∨ gr_c5 k t
theorem gr_mt {K : Nat → Nat} {n : Nat} (hn : gr_cf K n = some ([], 0)) : ∀ (d i : Nat) (A : List (Nat × Nat)) (t p : Nat) (L : List (Nat × Nat)) (e : Nat), n - i ≤ d → i ≤ n → t ≠ 0 → gr_cf K i = some (A ++ (t, p) :: L, e) →
    ∃ q t', i ≤ q ∧ q < n ∧ gr_cf K q = some ((t', p) :: L, 0) ∧ (t' = t ∨ t = 1 ∧ t' = 2) ∧ gr_cl (K q) t' := by
  intro d
  induction d with
  | zero =>
    intro i A t p L e hd hi _ hc
    have : i = n := by omega
    subst this
    rw [hc] at hn
    simp at hn
  | succ d ih =>
    intro i A t p L e hd hi h0 hc
    by_cases hin : i = n
    · subst hin
      rw [hc] at hn
      simp at hn
    have hlt : i < n := by omega
    obtain ⟨c1, h1, hs⟩ := gr_step hn hlt hc
    have up : ∀ {q t' : Nat}, i + 1 ≤ q ∧ q < n ∧ gr_cf K q = some ((t', p) :: L, 0) ∧ (t' = t ∨ t = 1 ∧ t' = 2) ∧ gr_cl (K q) t' → ∃ q t', i ≤ q ∧ q < n ∧ gr_cf K q = some ((t', p) :: L, 0) ∧ (t' = t ∨ t = 1 ∧ t' = 2) ∧ gr_cl (K q) t' :=
      fun {q t'} h => ⟨q, t', by omega, h.2⟩
    rcases gr_cases hs with ⟨L1, e1, e', r1, r2, h3⟩ | ⟨t1, p1, L1, e', r1, r2, h3⟩ | ⟨t1, p1, L1, u, e', r1, r2, h3⟩ | ⟨t1, p1, L1, u, r1, r2, h3⟩ | ⟨t1, p1, L1, r1, r2, h3⟩
    · simp only [Prod.mk.injEq] at r1
      obtain ⟨rfl, rfl⟩ := r1
      subst r2
      obtain ⟨q, t', h⟩ := ih (i + 1) A t p L e' (by omega) (by omega) h0 h1
      exact up h
    · subst r2
      cases A with
      | nil =>
        simp only [List.nil_append, Prod.mk.injEq, List.cons.injEq] at r1
        obtain ⟨⟨⟨rfl, rfl⟩, rfl⟩, rfl⟩ := r1
        have hn2 := @gr_n_t (K i) t
        obtain ⟨q, t', a1, a2, a3, a4, a5⟩ := ih (i + 1) [] (gr_n (K i) t) p L e' (by omega) (by omega) (by omega) h1
        exact up ⟨a1, a2, a3, by omega, a5⟩
      | cons a A =>
        simp only [List.cons_append, Prod.mk.injEq, List.cons.injEq] at r1
        obtain ⟨⟨rfl, rfl⟩, rfl⟩ := r1
        obtain ⟨q, t', h⟩ := ih (i + 1) ((gr_n (K i) t1, p1) :: A) t p L e' (by omega) (by omega) h0 h1
        exact up h
    · subst r2
      cases A with
      | nil =>
        simp only [List.nil_append, Prod.mk.injEq, List.cons.injEq] at r1
        obtain ⟨⟨⟨rfl, rfl⟩, rfl⟩, rfl⟩ := r1
        have hn2 := @gr_n_t (K i) t
        obtain ⟨q, t', a1, a2, a3, a4, a5⟩ := ih (i + 1) [(u, i)] (gr_n (K i) t) p L e' (by omega) (by omega) (by omega) h1
        exact up ⟨a1, a2, a3, by omega, a5⟩
      | cons a A =>
        simp only [List.cons_append, Prod.mk.injEq, List.cons.injEq] at r1
        obtain ⟨⟨rfl, rfl⟩, rfl⟩ := r1
        obtain ⟨q, t', h⟩ := ih (i + 1) ((u, i) :: (gr_n (K i) t1, p1) :: A) t p L e' (by omega) (by omega) h0 h1
        exact up h
    · subst r2
      cases A with
      | nil =>
        simp only [List.nil_append, Prod.mk.injEq, List.cons.injEq] at r1
        obtain ⟨⟨⟨rfl, rfl⟩, rfl⟩, rfl⟩ := r1
        refine ⟨i, t, Nat.le_refl _, hlt, hc, .inl rfl, ?_⟩
        rcases h3 with h3 | h3
        · exact .inl ⟨h3.1, by omega⟩
        · exact .inr (.inl ⟨h3.1, h3.2.1⟩)
      | cons a A =>
        simp only [List.cons_append, Prod.mk.injEq, List.cons.injEq] at r1
        obtain ⟨⟨rfl, rfl⟩, rfl⟩ := r1
        obtain ⟨q, t', h⟩ := ih (i + 1) ((u, i) :: A) t p L 0 (by omega) (by omega) h0 h1
        exact up h
    · subst r2
      cases A with
      | nil =>
        simp only [List.nil_append, Prod.mk.injEq, List.cons.injEq] at r1
        obtain ⟨⟨⟨rfl, rfl⟩, rfl⟩, rfl⟩ := r1
        exact ⟨i, t, Nat.le_refl _, hlt, hc, .inl rfl, .inr (.inr h3)⟩
      | cons a A =>
        simp only [List.cons_append, Prod.mk.injEq, List.cons.injEq] at r1
        obtain ⟨⟨rfl, rfl⟩, rfl⟩ := r1
        obtain ⟨q, t', h⟩ := ih (i + 1) A t p L 0 (by omega) (by omega) h0 h1
        exact up h
theorem gr_match {K : Nat → Nat} {n i t p e : Nat} {L : List (Nat × Nat)} (hn : gr_cf K n = some ([], 0)) (hi : i ≤ n) (h0 : t ≠ 0) (hc : gr_cf K i = some ((t, p) :: L, e)) :
    ∃ q t', i ≤ q ∧ q < n ∧ gr_cf K q = some ((t', p) :: L, 0) ∧ (t' = t ∨ t = 1 ∧ t' = 2) ∧ gr_cl (K q) t' :=
  gr_mt hn (n - i) i [] t p L e (Nat.le_refl _) hi h0 hc
/-- a position that is off the stack stays off -/
theorem gr_off {K : Nat → Nat} {p : Nat} : ∀ (d i : Nat) (L L' : List (Nat × Nat)) (e e' : Nat), p < i → gr_cf K i = some (L, e) → (∀ f, f ∈ L → f.2 ≠ p) → gr_cf K (i + d) = some (L', e') → ∀ f, f ∈ L' → f.2 ≠ p := by
  intro d
  induction d with
  | zero => intro i L L' e e' _ h hL h'; rw [Nat.add_zero] at h'; rw [h] at h'; cases h'; exact hL
  | succ d ih =>
    intro i L L' e e' hp h hL h'
    obtain ⟨c1, h1⟩ := gr_ex h' d (i + 1) (by omega)
    obtain ⟨L1, e1⟩ := c1
    have hs : gr_st (K i) i (L, e) = some (L1, e1) := by rw [← gr_next h]; exact h1
    refine ih (i + 1) L1 L' e1 e' (by omega) h1 ?_ (by rw [show i + 1 + d = i + (d + 1) by omega]; exact h')
    rcases gr_cases hs with ⟨L2, e2, e3, r1, r2, h3⟩ | ⟨t1, p1, L2, e3, r1, r2, h3⟩ | ⟨t1, p1, L2, u, e3, r1, r2, h3⟩ | ⟨t1, p1, L2, u, r1, r2, h3⟩ | ⟨t1, p1, L2, r1, r2, h3⟩
    · cases r1; cases r2; exact hL
    · cases r1; cases r2
      intro f hf
      rcases List.mem_cons.mp hf with rfl | hf
      · exact hL (t1, p1) (by simp)
      · exact hL f (List.mem_cons_of_mem _ hf)
    · cases r1; cases r2
      intro f hf
      rcases List.mem_cons.mp hf with rfl | hf
      · simp only; omega
      · rcases List.mem_cons.mp hf with rfl | hf
        · exact hL (t1, p1) (by simp)
        · exact hL f (List.mem_cons_of_mem _ hf)
    · cases r1; cases r2
      intro f hf
      rcases List.mem_cons.mp hf with rfl | hf
      · simp only; omega
      · exact hL f (List.mem_cons_of_mem _ hf)
    · cases r1; cases r2
      intro f hf
      exact hL f (List.mem_cons_of_mem _ hf)
/-- a frame that is closed never comes back -/
theorem gr_gone {K : Nat → Nat} {q t p i : Nat} {L L' : List (Nat × Nat)} {e' : Nat} (hq1 : 1 ≤ q) (h : gr_cf K q = some ((t, p) :: L, 0)) (hc : gr_cl (K q) t) (hi : q < i) (h' : gr_cf K i = some (L', e')) : ∀ f, f ∈ L' → f.2 ≠ p := by
  have hso := gr_sorted q _ _ hq1 h
  have hpq : p < q := hso.1
  have hL : ∀ f, f ∈ L → f.2 ≠ p := fun f hf => Nat.ne_of_lt (gr_so_lt hso.2 f hf)
  obtain ⟨c1, h1⟩ := gr_ex h' (i - (q + 1)) (q + 1) (by omega)
  obtain ⟨L1, e1⟩ := c1
  have hs : gr_st (K q) q ((t, p) :: L, 0) = some (L1, e1) := by rw [← gr_next h]; exact h1
  refine gr_off (i - (q + 1)) (q + 1) L1 L' e1 e' (by omega) h1 ?_ (by rw [show q + 1 + (i - (q + 1)) = i by omega]; exact h')
  rcases gr_cases hs with ⟨L2, e2, e3, r1, r2, h3⟩ | ⟨t1, p1, L2, e3, r1, r2, h3⟩ | ⟨t1, p1, L2, u, e3, r1, r2, h3⟩ | ⟨t1, p1, L2, u, r1, r2, h3⟩ | ⟨t1, p1, L2, r1, r2, h3⟩
  · cases r1
  · cases r1
    exfalso
    simp only [gr_cl, gr_c5] at hc
    simp only [gr_c2] at h3
    omega
  · cases r1
    exfalso
    simp only [gr_cl, gr_c5] at hc
    simp only [gr_c3] at h3
    omega
  · cases r1; cases r2
    intro f hf
    rcases List.mem_cons.mp hf with rfl | hf
    · simp only; omega
    · exact hL f hf
  · cases r1; cases r2
    exact hL
/-- the declarations of a body end once -/
theorem gr_dend {K : Nat → Nat} {b : Nat} : ∀ (d i : Nat) (L L' : List (Nat × Nat)) (e e' : Nat), b < i → gr_cf K i = some (L, e) → (1, b) ∉ L → gr_cf K (i + d) = some (L', e') → (1, b) ∉ L' := by
  intro d
  induction d with
  | zero => intro i L L' e e' _ h hL h'; rw [Nat.add_zero] at h'; rw [h] at h'; cases h'; exact hL
  | succ d ih =>
    intro i L L' e e' hp h hL h'
    obtain ⟨c1, h1⟩ := gr_ex h' d (i + 1) (by omega)
    obtain ⟨L1, e1⟩ := c1
    have hs : gr_st (K i) i (L, e) = some (L1, e1) := by rw [← gr_next h]; exact h1
    refine ih (i + 1) L1 L' e1 e' (by omega) h1 ?_ (by rw [show i + 1 + d = i + (d + 1) by omega]; exact h')
    rcases gr_cases hs with ⟨L2, e2, e3, r1, r2, h3⟩ | ⟨t1, p1, L2, e3, r1, r2, h3⟩ | ⟨t1, p1, L2, u, e3, r1, r2, h3⟩ | ⟨t1, p1, L2, u, r1, r2, h3⟩ | ⟨t1, p1, L2, r1, r2, h3⟩
    · cases r1; cases r2; exact hL
    · cases r1; cases r2
      intro hf
      have hn := @gr_n_t (K i) t1
      rcases List.mem_cons.mp hf with hf | hf
      · injection hf with f1 f2
        have : t1 = 1 := by omega
        subst this; subst f2; exact hL (by simp)
      · exact hL (List.mem_cons_of_mem _ hf)
    · cases r1; cases r2
      intro hf
      have hn := @gr_n_t (K i) t1
      rcases List.mem_cons.mp hf with hf | hf
      · injection hf with f1 f2; omega
      · rcases List.mem_cons.mp hf with hf | hf
        · injection hf with f1 f2
          have : t1 = 1 := by omega
          subst this; subst f2; exact hL (by simp)
        · exact hL (List.mem_cons_of_mem _ hf)
    · cases r1; cases r2
      intro hf
      rcases List.mem_cons.mp hf with hf | hf
      · injection hf with f1 f2; omega
      · exact hL (List.mem_cons_of_mem _ hf)
    · cases r1; cases r2
      intro hf
      exact hL (List.mem_cons_of_mem _ hf)
theorem gr_dgone {K : Nat → Nat} {s b i : Nat} {L L' : List (Nat × Nat)} {e' : Nat} (hs1 : 1 ≤ s) (h : gr_cf K s = some ((1, b) :: L, 0)) (k3 : K s ≠ 3) (k4 : K s ≠ 4) (hi : s < i) (h' : gr_cf K i = some (L', e')) : (1, b) ∉ L' := by
  have hso := gr_sorted s _ _ hs1 h
  have hbs : b < s := hso.1
  have hL : (1, b) ∉ L := fun hf => Nat.lt_irrefl _ (gr_so_lt hso.2 _ hf)
  have hn : gr_n (K s) 1 = 2 := by simp [gr_n, k3, k4]
  obtain ⟨c1, h1⟩ := gr_ex h' (i - (s + 1)) (s + 1) (by omega)
  obtain ⟨L1, e1⟩ := c1
  have hs : gr_st (K s) s ((1, b) :: L, 0) = some (L1, e1) := by rw [← gr_next h]; exact h1
  refine gr_dend (i - (s + 1)) (s + 1) L1 L' e1 e' (by omega) h1 ?_ (by rw [show s + 1 + (i - (s + 1)) = i by omega]; exact h')
  rcases gr_cases hs with ⟨L2, e2, e3, r1, r2, h3⟩ | ⟨t1, p1, L2, e3, r1, r2, h3⟩ | ⟨t1, p1, L2, u, e3, r1, r2, h3⟩ | ⟨t1, p1, L2, u, r1, r2, h3⟩ | ⟨t1, p1, L2, r1, r2, h3⟩
  · cases r1
  · cases r1; cases r2
    intro hf
    rcases List.mem_cons.mp hf with hf | hf
    · injection hf with f1 f2; omega
    · exact hL hf
  · cases r1; cases r2
    intro hf
    rcases List.mem_cons.mp hf with hf | hf
    · injection hf with f1 f2; omega
    · rcases List.mem_cons.mp hf with hf | hf
      · injection hf with f1 f2; omega
      · exact hL hf
  · cases r1; cases r2
    intro hf
    rcases List.mem_cons.mp hf with hf | hf
    · injection hf with f1 f2; omega
    · exact hL hf
  · cases r1; cases r2
    exact hL
