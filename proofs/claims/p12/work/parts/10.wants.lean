/-- the component's wants of the frames -/
def xs_w (t : Nat) : Nat := if t = 0 then 1 else if t = 1 then 3 else if t = 2 then 4 else if t = 3 then 2 else t + 1
def xs_ws (L : List (Nat × Nat)) : Nat → List Nat
  | 0 => L.map (fun f => xs_w f.1)
  | e + 1 => 8 :: xs_ws L e
theorem xs_len {L : List (Nat × Nat)} : ∀ e, (xs_ws L e).length = L.length + e := by
  intro e
  induction e with
  | zero => simp [xs_ws]
  | succ e ih => simp only [xs_ws, List.length_cons, ih]; omega
def xs_n (k w : Nat) : Nat := if w = 3 ∧ k ≠ 3 ∧ k ≠ 4 then 4 else w
def xs_fit (k w : Nat) : Prop := if k = 1 then w = 1 ∨ w = 2 else if k = 3 ∨ k = 4 then w = 3 else if k = 5 ∨ k = 6 then w = 2 else if k = 10 ∨ k = 2 then w = 4
  else if k = 7 ∨ k = 8 ∨ k = 9 ∨ k = 11 ∨ k = 15 then w = 4 ∨ w = 5 ∨ w = 6 else if k = 16 then w = 5 else if k = 17 then w = 5 ∨ w = 6 else if k = 12 ∨ k = 13 ∨ k = 14 then w = 7 else w = 8
def xs_tk (k w : Nat) (M : List Nat) : List Nat := if k = 1 then 3 :: M else if k = 16 then 6 :: M else if k = 2 ∨ k = 17 ∨ k = 14 ∨ k = 18 ∨ k = 19 then M
  else if k = 4 then 2 :: w :: M else if k = 11 then 7 :: w :: M else if k = 15 then 8 :: 5 :: w :: M else if k = 3 ∨ k = 5 ∨ k = 6 ∨ k = 9 ∨ k = 10 ∨ k = 13 then w :: M else 8 :: w :: M
theorem xs_26 {k : Nat} (h1 : 1 ≤ k) (h2 : k ≤ 26) : k = 1 ∨ k = 2 ∨ k = 3 ∨ k = 4 ∨ k = 5 ∨ k = 6 ∨ k = 7 ∨ k = 8 ∨ k = 9 ∨ k = 10 ∨ k = 11 ∨ k = 12 ∨ k = 13 ∨ k = 14 ∨ k = 15 ∨ k = 16 ∨ k = 17 ∨ k = 18 ∨ k = 19 ∨ k = 20 ∨ k = 21 ∨ k = 22 ∨ k = 23 ∨ k = 24 ∨ k = 25 ∨ k = 26 := by omega
/-- the component's step is the pushdown's -/
def xs_ok (k i w : Nat) (M : List Nat) (c : List (Nat × Nat) × Nat) : Prop :=
  (xs_fit k (xs_n k w) ∧ ∃ L' e', gr_st k i c = some (L', e') ∧ xs_ws L' e' = xs_tk k (xs_n k w) M) ∨ (¬ xs_fit k (xs_n k w) ∧ gr_st k i c = none)
theorem xs_e {k i e : Nat} {L : List (Nat × Nat)} (h1 : 1 ≤ k) (h2 : k ≤ 26) : xs_ok k i 8 (xs_ws L e) (L, e + 1) := by
  rcases xs_26 h1 h2 with h | h | h | h | h | h | h | h | h | h | h | h | h | h | h | h | h | h | h | h | h | h | h | h | h | h <;> subst h <;> simp [xs_ok, xs_fit, xs_n, gr_st, xs_ws, xs_tk]
theorem xs_t0 {k i p : Nat} {L : List (Nat × Nat)} (h1 : 1 ≤ k) (h2 : k ≤ 26) : xs_ok k i 1 (L.map (fun f => xs_w f.1)) ((0, p) :: L, 0) := by
  rcases xs_26 h1 h2 with h | h | h | h | h | h | h | h | h | h | h | h | h | h | h | h | h | h | h | h | h | h | h | h | h | h <;> subst h <;> simp [xs_ok, xs_fit, xs_n, gr_st, gr_n, gr_S, xs_ws, xs_tk, xs_w]
theorem xs_t1 {k i p : Nat} {L : List (Nat × Nat)} (h1 : 1 ≤ k) (h2 : k ≤ 26) : xs_ok k i 3 (L.map (fun f => xs_w f.1)) ((1, p) :: L, 0) := by
  rcases xs_26 h1 h2 with h | h | h | h | h | h | h | h | h | h | h | h | h | h | h | h | h | h | h | h | h | h | h | h | h | h <;> subst h <;> simp [xs_ok, xs_fit, xs_n, gr_st, gr_n, gr_S, xs_ws, xs_tk, xs_w]
theorem xs_t2 {k i p : Nat} {L : List (Nat × Nat)} (h1 : 1 ≤ k) (h2 : k ≤ 26) : xs_ok k i 4 (L.map (fun f => xs_w f.1)) ((2, p) :: L, 0) := by
  rcases xs_26 h1 h2 with h | h | h | h | h | h | h | h | h | h | h | h | h | h | h | h | h | h | h | h | h | h | h | h | h | h <;> subst h <;> simp [xs_ok, xs_fit, xs_n, gr_st, gr_n, gr_S, xs_ws, xs_tk, xs_w]
theorem xs_t3 {k i p : Nat} {L : List (Nat × Nat)} (h1 : 1 ≤ k) (h2 : k ≤ 26) : xs_ok k i 2 (L.map (fun f => xs_w f.1)) ((3, p) :: L, 0) := by
  rcases xs_26 h1 h2 with h | h | h | h | h | h | h | h | h | h | h | h | h | h | h | h | h | h | h | h | h | h | h | h | h | h <;> subst h <;> simp [xs_ok, xs_fit, xs_n, gr_st, gr_n, gr_S, xs_ws, xs_tk, xs_w]
theorem xs_t4 {k i p : Nat} {L : List (Nat × Nat)} (h1 : 1 ≤ k) (h2 : k ≤ 26) : xs_ok k i 5 (L.map (fun f => xs_w f.1)) ((4, p) :: L, 0) := by
  rcases xs_26 h1 h2 with h | h | h | h | h | h | h | h | h | h | h | h | h | h | h | h | h | h | h | h | h | h | h | h | h | h <;> subst h <;> simp [xs_ok, xs_fit, xs_n, gr_st, gr_n, gr_S, xs_ws, xs_tk, xs_w]
theorem xs_t5 {k i p : Nat} {L : List (Nat × Nat)} (h1 : 1 ≤ k) (h2 : k ≤ 26) : xs_ok k i 6 (L.map (fun f => xs_w f.1)) ((5, p) :: L, 0) := by
  rcases xs_26 h1 h2 with h | h | h | h | h | h | h | h | h | h | h | h | h | h | h | h | h | h | h | h | h | h | h | h | h | h <;> subst h <;> simp [xs_ok, xs_fit, xs_n, gr_st, gr_n, gr_S, xs_ws, xs_tk, xs_w]
theorem xs_t6 {k i p : Nat} {L : List (Nat × Nat)} (h1 : 1 ≤ k) (h2 : k ≤ 26) : xs_ok k i 7 (L.map (fun f => xs_w f.1)) ((6, p) :: L, 0) := by
  rcases xs_26 h1 h2 with h | h | h | h | h | h | h | h | h | h | h | h | h | h | h | h | h | h | h | h | h | h | h | h | h | h <;> subst h <;> simp [xs_ok, xs_fit, xs_n, gr_st, gr_n, gr_S, xs_ws, xs_tk, xs_w]
theorem xs_ty {K : Nat → Nat} {i e : Nat} {t p : Nat} {L : List (Nat × Nat)} (hc : gr_cf K i = some ((t, p) :: L, e)) : t ≤ 6 := by
  by_cases h0 : i = 0
  · subst h0
    simp only [gr_cf, Option.some.injEq, Prod.mk.injEq, List.cons.injEq] at hc
    omega
  · have := (gr_kinds i _ _ (by omega) hc).1
    simp only at this
    omega
/-- one token of the component's stack -/
theorem xs_step {K : Nat → Nat} {i e : Nat} {L : List (Nat × Nat)} (hc : gr_cf K i = some (L, e)) (h1 : 1 ≤ K i) (h2 : K i ≤ 26) :
    (xs_ws L e = [] ∧ gr_cf K (i + 1) = none) ∨ ∃ w M, xs_ws L e = w :: M ∧ w ≤ 8 ∧ ((xs_fit (K i) (xs_n (K i) w) ∧ ∃ L' e', gr_cf K (i + 1) = some (L', e') ∧ xs_ws L' e' = xs_tk (K i) (xs_n (K i) w) M) ∨ (¬ xs_fit (K i) (xs_n (K i) w) ∧ gr_cf K (i + 1) = none)) := by
  rw [gr_next hc]
  cases e with
  | succ e => exact .inr ⟨8, xs_ws L e, rfl, by omega, xs_e h1 h2⟩
  | zero =>
    cases L with
    | nil => exact .inl ⟨rfl, rfl⟩
    | cons f L =>
      obtain ⟨t, p⟩ := f
      have ht := xs_ty hc
      have ht : t = 0 ∨ t = 1 ∨ t = 2 ∨ t = 3 ∨ t = 4 ∨ t = 5 ∨ t = 6 := by omega
      right
      rcases ht with rfl | rfl | rfl | rfl | rfl | rfl | rfl
      · exact ⟨1, _, rfl, by omega, xs_t0 h1 h2⟩
      · exact ⟨3, _, rfl, by omega, xs_t1 h1 h2⟩
      · exact ⟨4, _, rfl, by omega, xs_t2 h1 h2⟩
      · exact ⟨2, _, rfl, by omega, xs_t3 h1 h2⟩
      · exact ⟨5, _, rfl, by omega, xs_t4 h1 h2⟩
      · exact ⟨6, _, rfl, by omega, xs_t5 h1 h2⟩
      · exact ⟨7, _, rfl, by omega, xs_t6 h1 h2⟩
