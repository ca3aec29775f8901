section
/-- the type that a frame has for a token of kind k: declarations end at the first other token -/
def gr_n (k t : Nat) : Nat := if t = 1 ∧ k ≠ 3 ∧ k ≠ 4 then 2 else t
abbrev gr_S (t : Nat) : Prop := t = 2 ∨ t = 4 ∨ t = 5
/-- one token of the pushdown: frames (type, position): 0 program, 1 decls, 2 tops, 3 params, 4 then, 5 else, 6 args; the second: expressions still wanted -/
def gr_st (k i : Nat) (c : List (Nat × Nat) × Nat) : Option (List (Nat × Nat) × Nat) :=
  match c with
  | (L, e + 1) => if k = 18 ∨ k = 19 then some (L, e) else if 20 ≤ k ∧ k ≤ 26 then some (L, e + 2) else none
  | ([], 0) => none
  | ((t, p) :: L, 0) =>
    if k = 1 then (if t = 0 ∨ t = 3 then some ((1, i) :: L, 0) else none)
    else if k = 2 then (if gr_n k t = 2 then some (L, 0) else none)
    else if k = 3 then (if t = 1 then some ((gr_n k t, p) :: L, 0) else none)
    else if k = 4 then (if t = 1 then some ((3, i) :: (gr_n k t, p) :: L, 0) else none)
    else if k = 5 ∨ k = 6 then (if t = 3 then some ((gr_n k t, p) :: L, 0) else none)
    else if k = 7 ∨ k = 8 then (if gr_S (gr_n k t) then some ((gr_n k t, p) :: L, 1) else none)
    else if k = 9 then (if gr_S (gr_n k t) then some ((gr_n k t, p) :: L, 0) else none)
    else if k = 10 then (if gr_n k t = 2 then some ((gr_n k t, p) :: L, 0) else none)
    else if k = 11 then (if gr_S (gr_n k t) then some ((6, i) :: (gr_n k t, p) :: L, 0) else none)
    else if k = 12 then (if t = 6 then some ((gr_n k t, p) :: L, 1) else none)
    else if k = 13 then (if t = 6 then some ((gr_n k t, p) :: L, 0) else none)
    else if k = 14 then (if t = 6 then some (L, 0) else none)
    else if k = 15 then (if gr_S (gr_n k t) then some ((4, i) :: (gr_n k t, p) :: L, 1) else none)
    else if k = 16 then (if t = 4 then some ((5, i) :: L, 0) else none)
    else if k = 17 then (if t = 4 ∨ t = 5 then some (L, 0) else none)
    else none
def gr_c1 (k e e' : Nat) : Prop := ((k = 18 ∨ k = 19) ∧ e' = e) ∨ (20 ≤ k ∧ k ≤ 26 ∧ e' = e + 2)
def gr_c2 (k t e' : Nat) : Prop := (k = 3 ∧ t = 1 ∧ e' = 0) ∨ ((k = 5 ∨ k = 6) ∧ t = 3 ∧ e' = 0) ∨ ((k = 7 ∨ k = 8) ∧ gr_S (gr_n k t) ∧ e' = 1) ∨ (k = 9 ∧ gr_S (gr_n k t) ∧ e' = 0) ∨ (k = 10 ∧ gr_n k t = 2 ∧ e' = 0) ∨ (k = 12 ∧ t = 6 ∧ e' = 1) ∨ (k = 13 ∧ t = 6 ∧ e' = 0)
def gr_c3 (k t u e' : Nat) : Prop := (k = 4 ∧ t = 1 ∧ u = 3 ∧ e' = 0) ∨ (k = 11 ∧ gr_S (gr_n k t) ∧ u = 6 ∧ e' = 0) ∨ (k = 15 ∧ gr_S (gr_n k t) ∧ u = 4 ∧ e' = 1)
def gr_c4 (k t u : Nat) : Prop := (k = 1 ∧ (t = 0 ∨ t = 3) ∧ u = 1) ∨ (k = 16 ∧ t = 4 ∧ u = 5)
def gr_c5 (k t : Nat) : Prop := (k = 2 ∧ gr_n k t = 2) ∨ (k = 14 ∧ t = 6) ∨ (k = 17 ∧ (t = 4 ∨ t = 5))
theorem gr_cases {k i : Nat} {c c' : List (Nat × Nat) × Nat} (h : gr_st k i c = some c') :
    (∃ L e e', c = (L, e + 1) ∧ c' = (L, e') ∧ gr_c1 k e e') ∨
    (∃ t p L e', c = ((t, p) :: L, 0) ∧ c' = ((gr_n k t, p) :: L, e') ∧ gr_c2 k t e') ∨
    (∃ t p L u e', c = ((t, p) :: L, 0) ∧ c' = ((u, i) :: (gr_n k t, p) :: L, e') ∧ gr_c3 k t u e') ∨
    (∃ t p L u, c = ((t, p) :: L, 0) ∧ c' = ((u, i) :: L, 0) ∧ gr_c4 k t u) ∨
    (∃ t p L, c = ((t, p) :: L, 0) ∧ c' = (L, 0) ∧ gr_c5 k t) := by
  obtain ⟨L, e⟩ := c
  cases e with
  | succ e =>
    left
    simp only [gr_st] at h
    by_cases h1 : k = 18 ∨ k = 19
    · rw [if_pos h1] at h; cases h; exact ⟨L, e, e, rfl, rfl, Or.inl ⟨h1, rfl⟩⟩
    · rw [if_neg h1] at h
      by_cases h2 : 20 ≤ k ∧ k ≤ 26
      · rw [if_pos h2] at h; cases h; exact ⟨L, e, e + 2, rfl, rfl, Or.inr ⟨h2.1, h2.2, rfl⟩⟩
      · rw [if_neg h2] at h; cases h
  | zero =>
    right
    cases L with
    | nil => simp [gr_st] at h
    | cons f L =>
      obtain ⟨t, p⟩ := f
      simp only [gr_st] at h
      by_cases k1 : k = 1
      · rw [if_pos k1] at h; split at h
        · rename_i ht; cases h; exact .inr (.inr (.inl ⟨t, p, L, 1, rfl, rfl, .inl ⟨k1, ht, rfl⟩⟩))
        · cases h
      rw [if_neg k1] at h
      by_cases k2 : k = 2
      · rw [if_pos k2] at h; split at h
        · rename_i ht; cases h; exact .inr (.inr (.inr ⟨t, p, L, rfl, rfl, .inl ⟨k2, ht⟩⟩))
        · cases h
      rw [if_neg k2] at h
      by_cases k3 : k = 3
      · rw [if_pos k3] at h; split at h
        · rename_i ht; cases h; exact .inl ⟨t, p, L, 0, rfl, rfl, .inl ⟨k3, ht, rfl⟩⟩
        · cases h
      rw [if_neg k3] at h
      by_cases k4 : k = 4
      · rw [if_pos k4] at h; split at h
        · rename_i ht; cases h; exact .inr (.inl ⟨t, p, L, 3, 0, rfl, rfl, .inl ⟨k4, ht, rfl, rfl⟩⟩)
        · cases h
      rw [if_neg k4] at h
      by_cases k5 : k = 5 ∨ k = 6
      · rw [if_pos k5] at h; split at h
        · rename_i ht; cases h; exact .inl ⟨t, p, L, 0, rfl, rfl, .inr (.inl ⟨k5, ht, rfl⟩)⟩
        · cases h
      rw [if_neg k5] at h
      by_cases k7 : k = 7 ∨ k = 8
      · rw [if_pos k7] at h; split at h
        · rename_i ht; cases h; exact .inl ⟨t, p, L, 1, rfl, rfl, .inr (.inr (.inl ⟨k7, ht, rfl⟩))⟩
        · cases h
      rw [if_neg k7] at h
      by_cases k9 : k = 9
      · rw [if_pos k9] at h; split at h
        · rename_i ht; cases h; exact .inl ⟨t, p, L, 0, rfl, rfl, .inr (.inr (.inr (.inl ⟨k9, ht, rfl⟩)))⟩
        · cases h
      rw [if_neg k9] at h
      by_cases k10 : k = 10
      · rw [if_pos k10] at h; split at h
        · rename_i ht; cases h; exact .inl ⟨t, p, L, 0, rfl, rfl, .inr (.inr (.inr (.inr (.inl ⟨k10, ht, rfl⟩))))⟩
        · cases h
      rw [if_neg k10] at h
      by_cases k11 : k = 11
      · rw [if_pos k11] at h; split at h
        · rename_i ht; cases h; exact .inr (.inl ⟨t, p, L, 6, 0, rfl, rfl, .inr (.inl ⟨k11, ht, rfl, rfl⟩)⟩)
        · cases h
      rw [if_neg k11] at h
      by_cases k12 : k = 12
      · rw [if_pos k12] at h; split at h
        · rename_i ht; cases h; exact .inl ⟨t, p, L, 1, rfl, rfl, .inr (.inr (.inr (.inr (.inr (.inl ⟨k12, ht, rfl⟩)))))⟩
        · cases h
      rw [if_neg k12] at h
      by_cases k13 : k = 13
      · rw [if_pos k13] at h; split at h
        · rename_i ht; cases h; exact .inl ⟨t, p, L, 0, rfl, rfl, .inr (.inr (.inr (.inr (.inr (.inr ⟨k13, ht, rfl⟩)))))⟩
        · cases h
      rw [if_neg k13] at h
      by_cases k14 : k = 14
      · rw [if_pos k14] at h; split at h
        · rename_i ht; cases h; exact .inr (.inr (.inr ⟨t, p, L, rfl, rfl, .inr (.inl ⟨k14, ht⟩)⟩))
        · cases h
      rw [if_neg k14] at h
      by_cases k15 : k = 15
      · rw [if_pos k15] at h; split at h
        · rename_i ht; cases h; exact .inr (.inl ⟨t, p, L, 4, 1, rfl, rfl, .inr (.inr ⟨k15, ht, rfl, rfl⟩)⟩)
        · cases h
      rw [if_neg k15] at h
      by_cases k16 : k = 16
      · rw [if_pos k16] at h; split at h
        · rename_i ht; cases h; exact .inr (.inr (.inl ⟨t, p, L, 5, rfl, rfl, .inr ⟨k16, ht, rfl⟩⟩))
        · cases h
      rw [if_neg k16] at h
      by_cases k17 : k = 17
      · rw [if_pos k17] at h; split at h
        · rename_i ht; cases h; exact .inr (.inr (.inr ⟨t, p, L, rfl, rfl, .inr (.inr ⟨k17, ht⟩)⟩))
        · cases h
      rw [if_neg k17] at h
      cases h
theorem gr_n_or (k t : Nat) : gr_n k t = t ∨ (t = 1 ∧ k ≠ 3 ∧ k ≠ 4 ∧ gr_n k t = 2) := by
  unfold gr_n
  by_cases h : t = 1 ∧ k ≠ 3 ∧ k ≠ 4
  · rw [if_pos h]; exact .inr ⟨h.1, h.2.1, h.2.2, rfl⟩
  · rw [if_neg h]; exact .inl rfl
/-- the configuration ahead of token i -/
def gr_cf (K : Nat → Nat) : Nat → Option (List (Nat × Nat) × Nat)
  | 0 => some ([(0, 0)], 0)
  | i + 1 => (gr_cf K i).bind (gr_st (K i) i)
theorem gr_prev {K : Nat → Nat} {i : Nat} {c' : List (Nat × Nat) × Nat} (h : gr_cf K (i + 1) = some c') : ∃ c, gr_cf K i = some c ∧ gr_st (K i) i c = some c' := by
  simp only [gr_cf] at h
  cases hc : gr_cf K i with
  | none => rw [hc] at h; cases h
  | some c => rw [hc] at h; exact ⟨c, rfl, h⟩
theorem gr_next {K : Nat → Nat} {i : Nat} {c : List (Nat × Nat) × Nat} (h : gr_cf K i = some c) : gr_cf K (i + 1) = gr_st (K i) i c := by
  simp only [gr_cf, h]; rfl
theorem gr_ex {K : Nat → Nat} {n : Nat} {c : List (Nat × Nat) × Nat} (hn : gr_cf K n = some c) : ∀ (d i : Nat), i + d = n → ∃ c, gr_cf K i = some c := by
  intro d
  induction d with
  | zero => intro i hi; cases hi; exact ⟨c, hn⟩
  | succ d ih =>
    intro i hi
    obtain ⟨c1, h1⟩ := ih (i + 1) (by omega)
    obtain ⟨c0, h0, _⟩ := gr_prev h1
    exact ⟨c0, h0⟩
theorem gr_exle {K : Nat → Nat} {n i : Nat} {c : List (Nat × Nat) × Nat} (hn : gr_cf K n = some c) (h : i ≤ n) : ∃ L e, gr_cf K i = some (L, e) := by
  obtain ⟨⟨L, e⟩, h⟩ := gr_ex hn (n - i) i (by omega)
  exact ⟨L, e, h⟩
theorem gr_step {K : Nat → Nat} {n i : Nat} {c c0 : List (Nat × Nat) × Nat} (hn : gr_cf K n = some c) (h : i < n) (h0 : gr_cf K i = some c0) : ∃ c1, gr_cf K (i + 1) = some c1 ∧ gr_st (K i) i c0 = some c1 := by
  obtain ⟨L, e, h1⟩ := gr_exle hn (show i + 1 ≤ n from h)
  exact ⟨_, h1, by rw [← gr_next h0]; exact h1⟩
theorem gr_one {K : Nat → Nat} {c : List (Nat × Nat) × Nat} (h : gr_cf K 1 = some c) : K 0 = 1 ∧ c = ([(1, 0)], 0) := by
  obtain ⟨c0, h0, hs⟩ := gr_prev h
  simp only [gr_cf, Option.some.injEq] at h0
  subst h0
  rcases gr_cases hs with ⟨L, e, e', h1, _⟩ | ⟨t, p, L, e', h1, h2, h3⟩ | ⟨t, p, L, u, e', h1, h2, h3⟩ | ⟨t, p, L, u, h1, h2, h3⟩ | ⟨t, p, L, h1, h2, h3⟩
  · cases h1
  · cases h1; simp [gr_c2, gr_n, gr_S] at h3
  · cases h1; simp [gr_c3, gr_n, gr_S] at h3
  · cases h1; simp [gr_c4] at h3; exact ⟨h3.1, by rw [h2, h3.2]⟩
  · cases h1; simp [gr_c5, gr_n] at h3
/-- induction over the configurations from token 1 on, by the five kinds of step -/
theorem gr_ind {K : Nat → Nat} (P : Nat → List (Nat × Nat) → Nat → Prop) (h1 : K 0 = 1 → P 1 [(1, 0)] 0)
    (g1 : ∀ i L e e', 1 ≤ i → gr_cf K i = some (L, e + 1) → P i L (e + 1) → gr_c1 (K i) e e' → P (i + 1) L e')
    (g2 : ∀ i t p L e', 1 ≤ i → gr_cf K i = some ((t, p) :: L, 0) → P i ((t, p) :: L) 0 → gr_c2 (K i) t e' → P (i + 1) ((gr_n (K i) t, p) :: L) e')
    (g3 : ∀ i t p L u e', 1 ≤ i → gr_cf K i = some ((t, p) :: L, 0) → P i ((t, p) :: L) 0 → gr_c3 (K i) t u e' → P (i + 1) ((u, i) :: (gr_n (K i) t, p) :: L) e')
    (g4 : ∀ i t p L u, 1 ≤ i → gr_cf K i = some ((t, p) :: L, 0) → P i ((t, p) :: L) 0 → gr_c4 (K i) t u → P (i + 1) ((u, i) :: L) 0)
    (g5 : ∀ i t p L, 1 ≤ i → gr_cf K i = some ((t, p) :: L, 0) → P i ((t, p) :: L) 0 → gr_c5 (K i) t → P (i + 1) L 0) :
    ∀ i L e, 1 ≤ i → gr_cf K i = some (L, e) → P i L e := by
  intro i
  induction i with
  | zero => intro L e h _; omega
  | succ i ih =>
    intro L e _ h
    by_cases hi : i = 0
    · subst hi
      obtain ⟨hk, hc⟩ := gr_one h
      cases hc; exact h1 hk
    · have hi1 : 1 ≤ i := by omega
      obtain ⟨c, hc, hs⟩ := gr_prev h
      rcases gr_cases hs with ⟨L, e, e', r1, r2, h3⟩ | ⟨t, p, L, e', r1, r2, h3⟩ | ⟨t, p, L, u, e', r1, r2, h3⟩ | ⟨t, p, L, u, r1, r2, h3⟩ | ⟨t, p, L, r1, r2, h3⟩
      · subst r1; cases r2; exact g1 i _ _ _ hi1 hc (ih _ _ hi1 hc) h3
      · subst r1; cases r2; exact g2 i _ _ _ _ hi1 hc (ih _ _ hi1 hc) h3
      · subst r1; cases r2; exact g3 i _ _ _ _ _ hi1 hc (ih _ _ hi1 hc) h3
      · subst r1; cases r2; exact g4 i _ _ _ _ hi1 hc (ih _ _ hi1 hc) h3
      · subst r1; cases r2; exact g5 i _ _ _ hi1 hc (ih _ _ hi1 hc) h3
/-- positions fall strictly from the top, all below the first -/
def gr_so : Nat → List (Nat × Nat) → Prop
  | _, [] => True
  | i, f :: L => f.2 < i ∧ gr_so f.2 L
/-- what lies below what -/
def gr_sh : List (Nat × Nat) → Prop
  | [] => True
  | [f] => (f.1 = 1 ∨ f.1 = 2) ∧ f.2 = 0
  | f :: g :: L => ((f.1 = 1 ∨ f.1 = 2 ∨ f.1 = 3) ∧ g.1 = 1 ∨ (f.1 = 4 ∨ f.1 = 5 ∨ f.1 = 6) ∧ gr_S g.1) ∧ gr_sh (g :: L)
/-- the token at a frame's position -/
def gr_kd (K : Nat → Nat) : List (Nat × Nat) → Prop
  | [] => True
  | f :: L => ((f.1 = 1 ∨ f.1 = 2) ∧ K f.2 = 1 ∨ f.1 = 3 ∧ K f.2 = 4 ∨ f.1 = 4 ∧ K f.2 = 15 ∨ f.1 = 5 ∧ K f.2 = 16 ∨ f.1 = 6 ∧ K f.2 = 11) ∧ gr_kd K L
theorem gr_so_m {i j : Nat} {L : List (Nat × Nat)} (h : gr_so i L) (hij : i ≤ j) : gr_so j L := by
  cases L with
  | nil => trivial
  | cons f L => exact ⟨Nat.lt_of_lt_of_le h.1 hij, h.2⟩
theorem gr_so_lt {L : List (Nat × Nat)} : ∀ {i : Nat}, gr_so i L → ∀ f, f ∈ L → f.2 < i := by
  induction L with
  | nil => intro i _ f hf; cases hf
  | cons g L ih =>
    intro i h f hf
    rcases List.mem_cons.mp hf with rfl | hf
    · exact h.1
    · exact Nat.lt_trans (ih h.2 f hf) h.1
theorem gr_sorted {K : Nat → Nat} : ∀ i L e, 1 ≤ i → gr_cf K i = some (L, e) → gr_so i L := by
  refine gr_ind (fun i L e => gr_so i L) ?_ ?_ ?_ ?_ ?_ ?_
  · intro _; exact ⟨by decide, trivial⟩
  · intro i L e e' _ _ h _; exact gr_so_m h (by omega)
  · intro i t p L e' _ _ h _; exact ⟨Nat.lt_succ_of_lt h.1, h.2⟩
  · intro i t p L u e' _ _ h _; exact ⟨Nat.lt_succ_self i, h.1, h.2⟩
  · intro i t p L u _ _ h _; exact ⟨Nat.lt_succ_self i, gr_so_m h.2 (Nat.le_of_lt h.1)⟩
  · intro i t p L _ _ h _; exact gr_so_m h.2 (Nat.le_of_lt (Nat.lt_succ_of_lt h.1))
theorem gr_sh_t {t t' p : Nat} {L : List (Nat × Nat)} (h : gr_sh ((t, p) :: L)) (ht : t' = t ∨ t = 1 ∧ t' = 2) : gr_sh ((t', p) :: L) := by
  cases L with
  | nil => refine ⟨?_, h.2⟩; have := h.1; simp only at this ⊢; omega
  | cons g L =>
    refine ⟨?_, h.2⟩
    have := h.1
    simp only at this ⊢
    rcases ht with rfl | ⟨rfl, rfl⟩
    · exact this
    · rcases this with h | h
      · exact .inl ⟨.inr (.inl rfl), h.2⟩
      · omega
theorem gr_n_t {k t : Nat} : gr_n k t = t ∨ t = 1 ∧ gr_n k t = 2 := by
  rcases gr_n_or k t with h | ⟨a, _, _, b⟩
  · exact .inl h
  · exact .inr ⟨a, b⟩
theorem gr_sh_u {f : Nat × Nat} {L : List (Nat × Nat)} (h : gr_sh (f :: L)) : gr_sh L := by
  cases L with
  | nil => trivial
  | cons g L => exact h.2
theorem gr_shape {K : Nat → Nat} : ∀ i L e, 1 ≤ i → gr_cf K i = some (L, e) → gr_sh L := by
  refine gr_ind (fun i L e => gr_sh L) ?_ ?_ ?_ ?_ ?_ ?_
  · intro _; exact ⟨.inl rfl, rfl⟩
  · intro i L e e' _ _ h _; exact h
  · intro i t p L e' _ _ h _; exact gr_sh_t h gr_n_t
  · intro i t p L u e' _ _ h hc
    refine ⟨?_, gr_sh_t h gr_n_t⟩
    rcases hc with ⟨hk, ht, hu, _⟩ | ⟨_, hs, hu, _⟩ | ⟨_, hs, hu, _⟩
    · exact .inl ⟨.inr (.inr hu), by simp [gr_n, hk, ht]⟩
    · exact .inr ⟨.inr (.inr hu), hs⟩
    · exact .inr ⟨.inl hu, hs⟩
  · intro i t p L u _ _ h hc
    cases L with
    | nil =>
      have h1 := h.1
      simp only at h1
      rcases hc with ⟨_, ht, _⟩ | ⟨_, ht, _⟩ <;> omega
    | cons g L =>
      refine ⟨?_, h.2⟩
      have h1 := h.1
      simp only at h1
      rcases hc with ⟨_, ht, hu⟩ | ⟨_, ht, hu⟩
      · refine .inl ⟨.inl hu, ?_⟩
        rcases h1 with h1 | h1
        · exact h1.2
        · omega
      · refine .inr ⟨.inr (.inl hu), ?_⟩
        rcases h1 with h1 | h1
        · omega
        · exact h1.2
  · intro i t p L _ _ h _; exact gr_sh_u h
theorem gr_kinds {K : Nat → Nat} : ∀ i L e, 1 ≤ i → gr_cf K i = some (L, e) → gr_kd K L := by
  refine gr_ind (fun i L e => gr_kd K L) ?_ ?_ ?_ ?_ ?_ ?_
  · intro h; exact ⟨.inl ⟨.inl rfl, h⟩, trivial⟩
  · intro i L e e' _ _ h _; exact h
  · intro i t p L e' _ _ h _
    refine ⟨?_, h.2⟩
    have h1 := h.1
    have h2 := @gr_n_t (K i) t
    simp only at h1 ⊢
    omega
  · intro i t p L u e' _ _ h hc
    refine ⟨?_, ?_, h.2⟩
    · simp only
      rcases hc with ⟨hk, ht, hu, _⟩ | ⟨_, hs, hu, _⟩ | ⟨_, hs, hu, _⟩ <;> omega
    · have h1 := h.1
      have h2 := @gr_n_t (K i) t
      simp only at h1 ⊢
      omega
  · intro i t p L u _ _ h hc
    refine ⟨?_, h.2⟩
    simp only
    rcases hc with ⟨hk, _, hu⟩ | ⟨hk, _, hu⟩ <;> omega
  · intro i t p L _ _ h _; exact h.2
theorem gr_size {K : Nat → Nat} : ∀ i L e, 1 ≤ i → gr_cf K i = some (L, e) → L.length ≤ i ∧ L.length + e ≤ 2 * i := by
  refine gr_ind (fun i L e => L.length ≤ i ∧ L.length + e ≤ 2 * i) ?_ ?_ ?_ ?_ ?_ ?_
  · intro _; simp
  · intro i L e e' _ _ h hc; rcases hc with hc | hc <;> omega
  · intro i t p L e' _ _ h hc
    simp only [List.length_cons] at h ⊢
    rcases hc with hc | hc | hc | hc | hc | hc | hc <;> omega
  · intro i t p L u e' _ _ h hc
    simp only [List.length_cons] at h ⊢
    rcases hc with hc | hc | hc <;> omega
  · intro i t p L u _ _ h _
    simp only [List.length_cons] at h ⊢
    omega
  · intro i t p L _ _ h _
    simp only [List.length_cons] at h ⊢
    omega
end
section
/-- token k closes a frame of type t -/
def gr_cl (k t : Nat) : Prop := (k = 1 ∧ t = 3) ∨ (k = 16 ∧ t = 4) ∨ gr_c5 k t
theorem gr_mt {K : Nat → Nat} {n : Nat} (hn : gr_cf K n = some ([], 0)) : ∀ (d i : Nat) (A : List (Nat × Nat)) (t p : Nat) (L : List (Nat × Nat)) (e : Nat), n - i ≤ d → i ≤ n → t ≠ 0 → gr_cf K i = some (A ++ (t, p) :: L, e) →
    ∃ q t', i ≤ q ∧ q < n ∧ gr_cf K q = some ((t', p) :: L, 0) ∧ (t' = t ∨ t = 1 ∧ t' = 2) ∧ gr_cl (K q) t' := by
  intro d
  induction d with
  | zero =>
    intro i A t p L e hd hi _ hc
    have : i = n := by omega
    subst this
    rw [hc] at hn
    simp at hn
  | succ d ih =>
    intro i A t p L e hd hi h0 hc
    by_cases hin : i = n
    · subst hin
      rw [hc] at hn
      simp at hn
    have hlt : i < n := by omega
    obtain ⟨c1, h1, hs⟩ := gr_step hn hlt hc
    have up : ∀ {q t' : Nat}, i + 1 ≤ q ∧ q < n ∧ gr_cf K q = some ((t', p) :: L, 0) ∧ (t' = t ∨ t = 1 ∧ t' = 2) ∧ gr_cl (K q) t' → ∃ q t', i ≤ q ∧ q < n ∧ gr_cf K q = some ((t', p) :: L, 0) ∧ (t' = t ∨ t = 1 ∧ t' = 2) ∧ gr_cl (K q) t' :=
      fun {q t'} h => ⟨q, t', by omega, h.2⟩
    rcases gr_cases hs with ⟨L1, e1, e', r1, r2, h3⟩ | ⟨t1, p1, L1, e', r1, r2, h3⟩ | ⟨t1, p1, L1, u, e', r1, r2, h3⟩ | ⟨t1, p1, L1, u, r1, r2, h3⟩ | ⟨t1, p1, L1, r1, r2, h3⟩
    · simp only [Prod.mk.injEq] at r1
      obtain ⟨rfl, rfl⟩ := r1
      subst r2
      obtain ⟨q, t', h⟩ := ih (i + 1) A t p L e' (by omega) (by omega) h0 h1
      exact up h
    · subst r2
      cases A with
      | nil =>
        simp only [List.nil_append, Prod.mk.injEq, List.cons.injEq] at r1
        obtain ⟨⟨⟨rfl, rfl⟩, rfl⟩, rfl⟩ := r1
        have hn2 := @gr_n_t (K i) t
        obtain ⟨q, t', a1, a2, a3, a4, a5⟩ := ih (i + 1) [] (gr_n (K i) t) p L e' (by omega) (by omega) (by omega) h1
        exact up ⟨a1, a2, a3, by omega, a5⟩
      | cons a A =>
        simp only [List.cons_append, Prod.mk.injEq, List.cons.injEq] at r1
        obtain ⟨⟨rfl, rfl⟩, rfl⟩ := r1
        obtain ⟨q, t', h⟩ := ih (i + 1) ((gr_n (K i) t1, p1) :: A) t p L e' (by omega) (by omega) h0 h1
        exact up h
    · subst r2
      cases A with
      | nil =>
        simp only [List.nil_append, Prod.mk.injEq, List.cons.injEq] at r1
        obtain ⟨⟨⟨rfl, rfl⟩, rfl⟩, rfl⟩ := r1
        have hn2 := @gr_n_t (K i) t
        obtain ⟨q, t', a1, a2, a3, a4, a5⟩ := ih (i + 1) [(u, i)] (gr_n (K i) t) p L e' (by omega) (by omega) (by omega) h1
        exact up ⟨a1, a2, a3, by omega, a5⟩
      | cons a A =>
        simp only [List.cons_append, Prod.mk.injEq, List.cons.injEq] at r1
        obtain ⟨⟨rfl, rfl⟩, rfl⟩ := r1
        obtain ⟨q, t', h⟩ := ih (i + 1) ((u, i) :: (gr_n (K i) t1, p1) :: A) t p L e' (by omega) (by omega) h0 h1
        exact up h
    · subst r2
      cases A with
      | nil =>
        simp only [List.nil_append, Prod.mk.injEq, List.cons.injEq] at r1
        obtain ⟨⟨⟨rfl, rfl⟩, rfl⟩, rfl⟩ := r1
        refine ⟨i, t, Nat.le_refl _, hlt, hc, .inl rfl, ?_⟩
        rcases h3 with h3 | h3
        · exact .inl ⟨h3.1, by omega⟩
        · exact .inr (.inl ⟨h3.1, h3.2.1⟩)
      | cons a A =>
        simp only [List.cons_append, Prod.mk.injEq, List.cons.injEq] at r1
        obtain ⟨⟨rfl, rfl⟩, rfl⟩ := r1
        obtain ⟨q, t', h⟩ := ih (i + 1) ((u, i) :: A) t p L 0 (by omega) (by omega) h0 h1
        exact up h
    · subst r2
      cases A with
      | nil =>
        simp only [List.nil_append, Prod.mk.injEq, List.cons.injEq] at r1
        obtain ⟨⟨⟨rfl, rfl⟩, rfl⟩, rfl⟩ := r1
        exact ⟨i, t, Nat.le_refl _, hlt, hc, .inl rfl, .inr (.inr h3)⟩
      | cons a A =>
        simp only [List.cons_append, Prod.mk.injEq, List.cons.injEq] at r1
        obtain ⟨⟨rfl, rfl⟩, rfl⟩ := r1
        obtain ⟨q, t', h⟩ := ih (i + 1) A t p L 0 (by omega) (by omega) h0 h1
        exact up h
theorem gr_match {K : Nat → Nat} {n i t p e : Nat} {L : List (Nat × Nat)} (hn : gr_cf K n = some ([], 0)) (hi : i ≤ n) (h0 : t ≠ 0) (hc : gr_cf K i = some ((t, p) :: L, e)) :
    ∃ q t', i ≤ q ∧ q < n ∧ gr_cf K q = some ((t', p) :: L, 0) ∧ (t' = t ∨ t = 1 ∧ t' = 2) ∧ gr_cl (K q) t' :=
  gr_mt hn (n - i) i [] t p L e (Nat.le_refl _) hi h0 hc
/-- a position that is off the stack stays off -/
theorem gr_off {K : Nat → Nat} {p : Nat} : ∀ (d i : Nat) (L L' : List (Nat × Nat)) (e e' : Nat), p < i → gr_cf K i = some (L, e) → (∀ f, f ∈ L → f.2 ≠ p) → gr_cf K (i + d) = some (L', e') → ∀ f, f ∈ L' → f.2 ≠ p := by
  intro d
  induction d with
  | zero => intro i L L' e e' _ h hL h'; rw [Nat.add_zero] at h'; rw [h] at h'; cases h'; exact hL
  | succ d ih =>
    intro i L L' e e' hp h hL h'
    obtain ⟨c1, h1⟩ := gr_ex h' d (i + 1) (by omega)
    obtain ⟨L1, e1⟩ := c1
    have hs : gr_st (K i) i (L, e) = some (L1, e1) := by rw [← gr_next h]; exact h1
    refine ih (i + 1) L1 L' e1 e' (by omega) h1 ?_ (by rw [show i + 1 + d = i + (d + 1) by omega]; exact h')
    rcases gr_cases hs with ⟨L2, e2, e3, r1, r2, h3⟩ | ⟨t1, p1, L2, e3, r1, r2, h3⟩ | ⟨t1, p1, L2, u, e3, r1, r2, h3⟩ | ⟨t1, p1, L2, u, r1, r2, h3⟩ | ⟨t1, p1, L2, r1, r2, h3⟩
    · cases r1; cases r2; exact hL
    · cases r1; cases r2
      intro f hf
      rcases List.mem_cons.mp hf with rfl | hf
      · exact hL (t1, p1) (by simp)
      · exact hL f (List.mem_cons_of_mem _ hf)
    · cases r1; cases r2
      intro f hf
      rcases List.mem_cons.mp hf with rfl | hf
      · simp only; omega
      · rcases List.mem_cons.mp hf with rfl | hf
        · exact hL (t1, p1) (by simp)
        · exact hL f (List.mem_cons_of_mem _ hf)
    · cases r1; cases r2
      intro f hf
      rcases List.mem_cons.mp hf with rfl | hf
      · simp only; omega
      · exact hL f (List.mem_cons_of_mem _ hf)
    · cases r1; cases r2
      intro f hf
      exact hL f (List.mem_cons_of_mem _ hf)
/-- a frame that is closed never comes back -/
theorem gr_gone {K : Nat → Nat} {q t p i : Nat} {L L' : List (Nat × Nat)} {e' : Nat} (hq1 : 1 ≤ q) (h : gr_cf K q = some ((t, p) :: L, 0)) (hc : gr_cl (K q) t) (hi : q < i) (h' : gr_cf K i = some (L', e')) : ∀ f, f ∈ L' → f.2 ≠ p := by
  have hso := gr_sorted q _ _ hq1 h
  have hpq : p < q := hso.1
  have hL : ∀ f, f ∈ L → f.2 ≠ p := fun f hf => Nat.ne_of_lt (gr_so_lt hso.2 f hf)
  obtain ⟨c1, h1⟩ := gr_ex h' (i - (q + 1)) (q + 1) (by omega)
  obtain ⟨L1, e1⟩ := c1
  have hs : gr_st (K q) q ((t, p) :: L, 0) = some (L1, e1) := by rw [← gr_next h]; exact h1
  refine gr_off (i - (q + 1)) (q + 1) L1 L' e1 e' (by omega) h1 ?_ (by rw [show q + 1 + (i - (q + 1)) = i by omega]; exact h')
  rcases gr_cases hs with ⟨L2, e2, e3, r1, r2, h3⟩ | ⟨t1, p1, L2, e3, r1, r2, h3⟩ | ⟨t1, p1, L2, u, e3, r1, r2, h3⟩ | ⟨t1, p1, L2, u, r1, r2, h3⟩ | ⟨t1, p1, L2, r1, r2, h3⟩
  · cases r1
  · cases r1
    exfalso
    simp only [gr_cl, gr_c5] at hc
    simp only [gr_c2] at h3
    omega
  · cases r1
    exfalso
    simp only [gr_cl, gr_c5] at hc
    simp only [gr_c3] at h3
    omega
  · cases r1; cases r2
    intro f hf
    rcases List.mem_cons.mp hf with rfl | hf
    · simp only; omega
    · exact hL f hf
  · cases r1; cases r2
    exact hL
/-- the declarations of a body end once -/
theorem gr_dend {K : Nat → Nat} {b : Nat} : ∀ (d i : Nat) (L L' : List (Nat × Nat)) (e e' : Nat), b < i → gr_cf K i = some (L, e) → (1, b) ∉ L → gr_cf K (i + d) = some (L', e') → (1, b) ∉ L' := by
  intro d
  induction d with
  | zero => intro i L L' e e' _ h hL h'; rw [Nat.add_zero] at h'; rw [h] at h'; cases h'; exact hL
  | succ d ih =>
    intro i L L' e e' hp h hL h'
    obtain ⟨c1, h1⟩ := gr_ex h' d (i + 1) (by omega)
    obtain ⟨L1, e1⟩ := c1
    have hs : gr_st (K i) i (L, e) = some (L1, e1) := by rw [← gr_next h]; exact h1
    refine ih (i + 1) L1 L' e1 e' (by omega) h1 ?_ (by rw [show i + 1 + d = i + (d + 1) by omega]; exact h')
    rcases gr_cases hs with ⟨L2, e2, e3, r1, r2, h3⟩ | ⟨t1, p1, L2, e3, r1, r2, h3⟩ | ⟨t1, p1, L2, u, e3, r1, r2, h3⟩ | ⟨t1, p1, L2, u, r1, r2, h3⟩ | ⟨t1, p1, L2, r1, r2, h3⟩
    · cases r1; cases r2; exact hL
    · cases r1; cases r2
      intro hf
      have hn := @gr_n_t (K i) t1
      rcases List.mem_cons.mp hf with hf | hf
      · injection hf with f1 f2
        have : t1 = 1 := by omega
        subst this; subst f2; exact hL (by simp)
      · exact hL (List.mem_cons_of_mem _ hf)
    · cases r1; cases r2
      intro hf
      have hn := @gr_n_t (K i) t1
      rcases List.mem_cons.mp hf with hf | hf
      · injection hf with f1 f2; omega
      · rcases List.mem_cons.mp hf with hf | hf
        · injection hf with f1 f2
          have : t1 = 1 := by omega
          subst this; subst f2; exact hL (by simp)
        · exact hL (List.mem_cons_of_mem _ hf)
    · cases r1; cases r2
      intro hf
      rcases List.mem_cons.mp hf with hf | hf
      · injection hf with f1 f2; omega
      · exact hL (List.mem_cons_of_mem _ hf)
    · cases r1; cases r2
      intro hf
      exact hL (List.mem_cons_of_mem _ hf)
theorem gr_dgone {K : Nat → Nat} {s b i : Nat} {L L' : List (Nat × Nat)} {e' : Nat} (hs1 : 1 ≤ s) (h : gr_cf K s = some ((1, b) :: L, 0)) (k3 : K s ≠ 3) (k4 : K s ≠ 4) (hi : s < i) (h' : gr_cf K i = some (L', e')) : (1, b) ∉ L' := by
  have hso := gr_sorted s _ _ hs1 h
  have hbs : b < s := hso.1
  have hL : (1, b) ∉ L := fun hf => Nat.lt_irrefl _ (gr_so_lt hso.2 _ hf)
  have hn : gr_n (K s) 1 = 2 := by simp [gr_n, k3, k4]
  obtain ⟨c1, h1⟩ := gr_ex h' (i - (s + 1)) (s + 1) (by omega)
  obtain ⟨L1, e1⟩ := c1
  have hs : gr_st (K s) s ((1, b) :: L, 0) = some (L1, e1) := by rw [← gr_next h]; exact h1
  refine gr_dend (i - (s + 1)) (s + 1) L1 L' e1 e' (by omega) h1 ?_ (by rw [show s + 1 + (i - (s + 1)) = i by omega]; exact h')
  rcases gr_cases hs with ⟨L2, e2, e3, r1, r2, h3⟩ | ⟨t1, p1, L2, e3, r1, r2, h3⟩ | ⟨t1, p1, L2, u, e3, r1, r2, h3⟩ | ⟨t1, p1, L2, u, r1, r2, h3⟩ | ⟨t1, p1, L2, r1, r2, h3⟩
  · cases r1
  · cases r1; cases r2
    intro hf
    rcases List.mem_cons.mp hf with hf | hf
    · injection hf with f1 f2; omega
    · exact hL hf
  · cases r1; cases r2
    intro hf
    rcases List.mem_cons.mp hf with hf | hf
    · injection hf with f1 f2; omega
    · rcases List.mem_cons.mp hf with hf | hf
      · injection hf with f1 f2; omega
      · exact hL hf
  · cases r1; cases r2
    intro hf
    rcases List.mem_cons.mp hf with hf | hf
    · injection hf with f1 f2; omega
    · exact hL hf
  · cases r1; cases r2
    exact hL
end
section
/-- how many of the first i hold -/
def gr_ct (P : Nat → Bool) : Nat → Nat
  | 0 => 0
  | i + 1 => gr_ct P i + (if P i = true then 1 else 0)
theorem gr_ct_t {P : Nat → Bool} {i : Nat} (h : P i = true) : gr_ct P (i + 1) = gr_ct P i + 1 := by
  simp only [gr_ct]; rw [if_pos h]
theorem gr_ct_f {P : Nat → Bool} {i : Nat} (h : ¬ P i = true) : gr_ct P (i + 1) = gr_ct P i := by
  simp only [gr_ct]; rw [if_neg h]; rfl
theorem gr_ct_m {P : Nat → Bool} {i : Nat} : ∀ (d : Nat), gr_ct P i ≤ gr_ct P (i + d) := by
  intro d
  induction d with
  | zero => exact Nat.le_refl _
  | succ d ih =>
    refine Nat.le_trans ih ?_
    show gr_ct P (i + d) ≤ gr_ct P (i + d) + _
    exact Nat.le_add_right _ _
theorem gr_ct_mono {P : Nat → Bool} {i j : Nat} (h : i ≤ j) : gr_ct P i ≤ gr_ct P j := by
  have := @gr_ct_m P i (j - i)
  rwa [show i + (j - i) = j by omega] at this
theorem gr_ct_le {P : Nat → Bool} : ∀ (i : Nat), gr_ct P i ≤ i := by
  intro i
  induction i with
  | zero => exact Nat.le_refl _
  | succ i ih =>
    by_cases h : P i = true
    · rw [gr_ct_t h]; omega
    · rw [gr_ct_f h]; omega
/-- the number of the procedures ahead of i: a body's number, at its BEGIN -/
def gr_np (K : Nat → Nat) (i : Nat) : Nat := gr_ct (fun j => decide (K j = 4)) i
theorem gr_np_4 {K : Nat → Nat} {i : Nat} (h : K i = 4) : gr_np K (i + 1) = gr_np K i + 1 := gr_ct_t (by simp [h])
theorem gr_np_n {K : Nat → Nat} {i : Nat} (h : K i ≠ 4) : gr_np K (i + 1) = gr_np K i := gr_ct_f (by simp [h])
theorem gr_np_mono {K : Nat → Nat} {i j : Nat} (h : i ≤ j) : gr_np K i ≤ gr_np K j := gr_ct_mono h
/-- the body, by its BEGIN, around a stack -/
def gr_cb : List (Nat × Nat) → Option Nat
  | [] => none
  | f :: L => if f.1 = 1 ∨ f.1 = 2 then some f.2 else gr_cb L
/-- the body's number at a stack: parameters belong to the body that is to come -/
def gr_xb (K : Nat → Nat) : List (Nat × Nat) → Nat
  | [] => 0
  | f :: L => if f.1 = 1 ∨ f.1 = 2 then gr_np K f.2 else if f.1 = 3 then gr_np K (f.2 + 1) else gr_xb K L
theorem gr_cb_some {K : Nat → Nat} {L : List (Nat × Nat)} (h : gr_sh L) (h0 : L ≠ []) (h3 : ∀ p L', L ≠ (3, p) :: L') : ∃ b, gr_cb L = some b ∧ gr_xb K L = gr_np K b := by
  induction L with
  | nil => exact absurd rfl h0
  | cons f L ih =>
    obtain ⟨t, p⟩ := f
    by_cases ht : t = 1 ∨ t = 2
    · exact ⟨p, by simp [gr_cb, ht], by simp [gr_xb, ht]⟩
    · have h3' : t ≠ 3 := fun e => h3 p L (by rw [e])
      cases L with
      | nil => have := h.1; simp only at this; omega
      | cons g L =>
        have h1 := h.1
        simp only at h1
        obtain ⟨b, hb, hx⟩ := ih h.2 (by simp) (by intro p' L' e; cases e; simp only at h1; omega)
        exact ⟨b, by simp only [gr_cb]; rw [if_neg ht]; exact hb, by simp only [gr_xb]; rw [if_neg ht, if_neg h3']; exact hx⟩
theorem gr_cb_t {t t' p : Nat} {L : List (Nat × Nat)} (h : t' = t ∨ t = 1 ∧ t' = 2) : gr_cb ((t', p) :: L) = gr_cb ((t, p) :: L) := by
  rcases h with rfl | ⟨rfl, rfl⟩
  · rfl
  · simp [gr_cb]
theorem gr_xb_t {K : Nat → Nat} {t t' p : Nat} {L : List (Nat × Nat)} (h : t' = t ∨ t = 1 ∧ t' = 2) : gr_xb K ((t', p) :: L) = gr_xb K ((t, p) :: L) := by
  rcases h with rfl | ⟨rfl, rfl⟩
  · rfl
  · simp [gr_xb]
theorem gr_cb_456 {t p : Nat} {L : List (Nat × Nat)} (h : 3 ≤ t) : gr_cb ((t, p) :: L) = gr_cb L := by
  simp only [gr_cb]; rw [if_neg (by omega)]
theorem gr_cb_12 {t p : Nat} {L : List (Nat × Nat)} (h : t = 1 ∨ t = 2) : gr_cb ((t, p) :: L) = some p := by
  simp only [gr_cb]; rw [if_pos h]
/-- the numbers around a type 3 frame: no procedure since -/
theorem gr_top3 {K : Nat → Nat} : ∀ i L e, 1 ≤ i → gr_cf K i = some (L, e) → ∀ p L', L = (3, p) :: L' → gr_np K i = gr_np K (p + 1) ∧ e = 0 := by
  refine gr_ind (fun i L e => ∀ p L', L = (3, p) :: L' → gr_np K i = gr_np K (p + 1) ∧ e = 0) ?_ ?_ ?_ ?_ ?_ ?_
  · intro _ p L' h; cases h
  · intro i L e e' _ _ h _ p L' hL
    have := (h p L' hL).2
    omega
  · intro i t p L e' _ _ h hc p' L' hL
    have hn := @gr_n_t (K i) t
    injection hL with h1 h2
    injection h1 with h1 h1'
    have ht : t = 3 := by omega
    subst ht; subst h1'; subst h2
    have h := h p L rfl
    have hk : K i = 5 ∨ K i = 6 := by
      have hS : ¬ gr_S (gr_n (K i) 3) := by simp [h1, gr_S]
      simp only [gr_c2] at hc
      omega
    rw [gr_np_n (by omega)]
    refine ⟨h.1, ?_⟩
    simp only [gr_c2] at hc
    omega
  · intro i t p L u e' _ _ h hc p' L' hL
    injection hL with h1 h2
    injection h1 with h1 h1'
    subst h1'
    refine ⟨rfl, ?_⟩
    simp only [gr_c3] at hc
    omega
  · intro i t p L u _ _ h hc p' L' hL
    injection hL with h1 h2
    injection h1 with h1 h1'
    simp only [gr_c4] at hc
    omega
  · intro i t p L h1 hcf _ hc p' L' hL
    have hsh := gr_shape i _ _ h1 hcf
    subst hL
    have := hsh.1
    simp only [gr_S] at this
    omega
/-- the parameters of a procedure up to its BEGIN -/
theorem gr_params {K : Nat → Nat} {n : Nat} (hn : gr_cf K n = some ([], 0)) : ∀ (d j p : Nat) (L : List (Nat × Nat)), n - j ≤ d → j ≤ n → 1 ≤ j → gr_cf K j = some ((3, p) :: L, 0) →
    ∃ q, j ≤ q ∧ q < n ∧ K q = 1 ∧ (∀ i, j ≤ i → i ≤ q → gr_cf K i = some ((3, p) :: L, 0)) ∧ (∀ i, j ≤ i → i < q → K i = 5 ∨ K i = 6) := by
  intro d
  induction d with
  | zero =>
    intro j p L hd hj _ hc
    have : j = n := by omega
    subst this; rw [hc] at hn; simp at hn
  | succ d ih =>
    intro j p L hd hj h1j hc
    by_cases hjn : j = n
    · subst hjn; rw [hc] at hn; simp at hn
    have hlt : j < n := by omega
    obtain ⟨c1, h1, hs⟩ := gr_step hn hlt hc
    rcases gr_cases hs with ⟨L2, e2, e3, r1, r2, h3⟩ | ⟨t1, p1, L2, e3, r1, r2, h3⟩ | ⟨t1, p1, L2, u, e3, r1, r2, h3⟩ | ⟨t1, p1, L2, u, r1, r2, h3⟩ | ⟨t1, p1, L2, r1, r2, h3⟩
    · cases r1
    · cases r1
      have hnn : gr_n (K j) 3 = 3 := by simp [gr_n]
      rw [hnn] at r2
      have hk : (K j = 5 ∨ K j = 6) ∧ e3 = 0 := by
        simp only [gr_c2, hnn, gr_S] at h3
        omega
      obtain ⟨hk, rfl⟩ := hk
      subst r2
      obtain ⟨q, a1, a2, a3, a4, a5⟩ := ih (j + 1) p L (by omega) (by omega) (by omega) h1
      refine ⟨q, by omega, a2, a3, ?_, ?_⟩
      · intro i hi hiq
        by_cases e : i = j
        · subst e; exact hc
        · exact a4 i (by omega) hiq
      · intro i hi hiq
        by_cases e : i = j
        · subst e; exact hk
        · exact a5 i (by omega) hiq
    · cases r1
      simp [gr_c3, gr_n, gr_S] at h3
    · cases r1
      have hk : K j = 1 := by simp only [gr_c4] at h3; omega
      refine ⟨j, Nat.le_refl _, hlt, hk, ?_, ?_⟩
      · intro i hi hiq
        have : i = j := by omega
        subst this; exact hc
      · intro i hi hiq; omega
    · cases r1
      simp [gr_c5, gr_n] at h3
/-- the body, by its BEGIN, that token i belongs to -/
def gr_bf (K : Nat → Nat) : Nat → Nat → Nat
  | 0, _ => 0
  | f + 1, i => if K i = 5 ∨ K i = 6 then gr_bf K f (i + 1) else if K i = 1 then i else match gr_cf K i with
    | some c => (gr_cb c.1).getD 0
    | none => 0
def gr_bo (K : Nat → Nat) (n i : Nat) : Nat := gr_bf K (n - i) i
theorem gr_bo_1 {K : Nat → Nat} {n i : Nat} (hi : i < n) (h : K i = 1) : gr_bo K n i = i := by
  unfold gr_bo
  rw [show n - i = (n - i - 1) + 1 by omega]
  simp [gr_bf, h]
theorem gr_bo_p {K : Nat → Nat} {n i : Nat} (hi : i < n) (h : K i = 5 ∨ K i = 6) : gr_bo K n i = gr_bo K n (i + 1) := by
  unfold gr_bo
  rw [show n - i = (n - (i + 1)) + 1 by omega]
  simp only [gr_bf]
  rw [if_pos h]
theorem gr_bo_c {K : Nat → Nat} {n i e b : Nat} {L : List (Nat × Nat)} (hi : i < n) (h5 : K i ≠ 5) (h6 : K i ≠ 6) (h1 : K i ≠ 1) (hc : gr_cf K i = some (L, e)) (hb : gr_cb L = some b) : gr_bo K n i = b := by
  unfold gr_bo
  rw [show n - i = (n - i - 1) + 1 by omega]
  simp only [gr_bf]
  rw [if_neg (by omega), if_neg h1, hc]
  simp [hb]
theorem gr_bo_q {K : Nat → Nat} {n : Nat} : ∀ (d j q : Nat), q = j + d → q < n → K q = 1 → (∀ i, j ≤ i → i < q → K i = 5 ∨ K i = 6) → gr_bo K n j = q := by
  intro d
  induction d with
  | zero => intro j q e hq hk _; cases e; exact gr_bo_1 hq hk
  | succ d ih =>
    intro j q e hq hk h
    rw [gr_bo_p (by omega) (h j (Nat.le_refl _) (by omega))]
    exact ih (j + 1) q (by omega) hq hk (fun i hi hiq => h i (by omega) hiq)
theorem gr_k3 {K : Nat → Nat} {n i e : Nat} {L : List (Nat × Nat)} {c : List (Nat × Nat) × Nat} (hn : gr_cf K n = some c) (h1 : 1 ≤ i) (hi : i < n) (hc : gr_cf K i = some (L, e)) : (K i = 1 ∨ K i = 5 ∨ K i = 6) ↔ ∃ p L', L = (3, p) :: L' := by
  obtain ⟨c1, hc1, hs⟩ := gr_step hn hi hc
  have hsh := gr_shape i _ _ h1 hc
  rcases gr_cases hs with ⟨L2, e2, e3, r1, r2, h3⟩ | ⟨t1, p1, L2, e3, r1, r2, h3⟩ | ⟨t1, p1, L2, u, e3, r1, r2, h3⟩ | ⟨t1, p1, L2, u, r1, r2, h3⟩ | ⟨t1, p1, L2, r1, r2, h3⟩
  · cases r1
    constructor
    · intro h; simp only [gr_c1] at h3; omega
    · rintro ⟨p, L', rfl⟩
      have := (gr_top3 i _ _ h1 hc p L' rfl).2
      omega
  · cases r1
    have hnn := @gr_n_t (K i) t1
    constructor
    · intro h
      have : t1 = 3 := by simp only [gr_c2] at h3; omega
      subst this; exact ⟨p1, L2, rfl⟩
    · rintro ⟨p, L', e⟩
      injection e with e1 e2
      injection e1 with e1 e3
      subst e1
      simp only [gr_c2, gr_S] at h3
      omega
  · cases r1
    have hnn := @gr_n_t (K i) t1
    constructor
    · intro h; simp only [gr_c3] at h3; omega
    · rintro ⟨p, L', e⟩
      injection e with e1 e2
      injection e1 with e1 e3
      subst e1
      simp only [gr_c3, gr_S] at h3
      omega
  · cases r1
    constructor
    · intro h
      have h0 : t1 ≠ 0 := by
        cases L2 with
        | nil => have := hsh.1; simp only at this; omega
        | cons g L2 => have := hsh.1; simp only [gr_S] at this; omega
      have : t1 = 3 := by simp only [gr_c4] at h3; omega
      subst this; exact ⟨p1, L2, rfl⟩
    · rintro ⟨p, L', e⟩
      injection e with e1 e2
      injection e1 with e1 e3
      subst e1
      simp only [gr_c4] at h3
      omega
  · cases r1
    have hnn := @gr_n_t (K i) t1
    constructor
    · intro h; simp only [gr_c5] at h3; omega
    · rintro ⟨p, L', e⟩
      injection e with e1 e2
      injection e1 with e1 e3
      subst e1
      simp only [gr_c5] at h3
      omega
theorem gr_nn {K : Nat → Nat} {n i e : Nat} {L : List (Nat × Nat)} (hn : gr_cf K n = some ([], 0)) (hi : i < n) (hc : gr_cf K i = some (L, e)) : L ≠ [] := by
  rintro rfl
  obtain ⟨c1, hc1, hs⟩ := gr_step hn hi hc
  rcases gr_cases hs with ⟨L2, e2, e3, r1, r2, h3⟩ | ⟨t1, p1, L2, e3, r1, r2, h3⟩ | ⟨t1, p1, L2, u, e3, r1, r2, h3⟩ | ⟨t1, p1, L2, u, r1, r2, h3⟩ | ⟨t1, p1, L2, r1, r2, h3⟩
  · cases r1
    -- an expression is wanted under an empty stack: never
    have key : ∀ i L e, 1 ≤ i → gr_cf K i = some (L, e) → L = [] → e = 0 := by
      refine gr_ind (fun i L e => L = [] → e = 0) ?_ ?_ ?_ ?_ ?_ ?_
      · intro _ _; rfl
      · intro i L e e' _ _ h _ hL; have := h hL; omega
      · intro i t p L e' _ _ _ _ hL; cases hL
      · intro i t p L u e' _ _ _ _ hL; cases hL
      · intro i t p L u _ _ _ _ _; rfl
      · intro i t p L _ _ _ _ _; rfl
    by_cases h0 : i = 0
    · subst h0; simp [gr_cf] at hc
    · have := key i _ _ (by omega) hc rfl
      omega
  · cases r1
  · cases r1
  · cases r1
  · cases r1
theorem gr_k01 {K : Nat → Nat} {n : Nat} (hn : gr_cf K n = some ([], 0)) : 1 < n ∧ K 0 = 1 := by
  have h0 : n ≠ 0 := by rintro rfl; simp [gr_cf] at hn
  have h1 : n ≠ 1 := by
    rintro rfl
    have := (gr_one hn).2
    cases this
  refine ⟨by omega, ?_⟩
  obtain ⟨L, e, h⟩ := gr_exle hn (show 1 ≤ n by omega)
  exact (gr_one h).1
/-- where a token's body is: by its BEGIN, and by its number -/
theorem gr_xbo {K : Nat → Nat} {n i e : Nat} {L : List (Nat × Nat)} (hn : gr_cf K n = some ([], 0)) (hi : i < n) (hc : gr_cf K i = some (L, e)) :
    gr_np K (gr_bo K n i) = gr_xb K L ∧ K (gr_bo K n i) = 1 ∧ gr_bo K n i < n := by
  by_cases h0 : i = 0
  · subst h0
    simp only [gr_cf, Option.some.injEq, Prod.mk.injEq] at hc
    obtain ⟨rfl, rfl⟩ := hc
    have hk := gr_k01 hn
    rw [gr_bo_1 hi hk.2]
    exact ⟨rfl, hk.2, hi⟩
  have h1 : 1 ≤ i := by omega
  have h3 := gr_k3 hn h1 hi hc
  by_cases hk : K i = 1 ∨ K i = 5 ∨ K i = 6
  · obtain ⟨p, L', rfl⟩ := h3.mp hk
    have he := (gr_top3 i _ _ h1 hc p L' rfl).2
    subst he
    obtain ⟨q, a1, a2, a3, a4, a5⟩ := gr_params hn (n - i) i p L' (Nat.le_refl _) (by omega) h1 hc
    rw [gr_bo_q (q - i) i q (by omega) a2 a3 a5]
    refine ⟨?_, a3, a2⟩
    have := (gr_top3 q _ _ (by omega) (a4 q a1 (Nat.le_refl _)) p L' rfl).1
    rw [this]
    simp [gr_xb]
  · have hsh := gr_shape i _ _ h1 hc
    obtain ⟨b, hb, hx⟩ := gr_cb_some (K := K) hsh (gr_nn hn hi hc) (fun p L' e => hk (h3.mpr ⟨p, L', e⟩))
    rw [gr_bo_c hi (by omega) (by omega) (by omega) hc hb]
    refine ⟨hx.symm, ?_⟩
    have hkd := gr_kinds i _ _ h1 hc
    have hso := gr_sorted i _ _ h1 hc
    have key : ∀ (L : List (Nat × Nat)) (j : Nat), gr_kd K L → gr_so j L → gr_cb L = some b → K b = 1 ∧ b < j := by
      intro L
      induction L with
      | nil => intro j _ _ h; cases h
      | cons f L ih =>
        intro j h1 h2 h
        by_cases ht : f.1 = 1 ∨ f.1 = 2
        · simp only [gr_cb] at h
          rw [if_pos ht] at h
          injection h with h
          subst h
          have := h1.1
          exact ⟨by omega, h2.1⟩
        · simp only [gr_cb] at h
          rw [if_neg ht] at h
          have := ih f.2 h1.2 h2.2 h
          exact ⟨this.1, Nat.lt_trans this.2 h2.1⟩
    have := key L i hkd hso hb
    exact ⟨this.1, by omega⟩
/-- a body's parent, by BEGINs -/
def gr_pa (K : Nat → Nat) (b : Nat) : Option Nat := match gr_cf K b with
  | some c => gr_cb c.1
  | none => none
/-- a procedure and its BEGIN -/
theorem gr_proc {K : Nat → Nat} {n q : Nat} (hn : gr_cf K n = some ([], 0)) (hq : q < n) (hk : K q = 4) :
    ∃ b L, q < b ∧ b < n ∧ K b = 1 ∧ gr_cf K q = some ((1, gr_bo K n q) :: L, 0) ∧ (∀ i, q < i → i ≤ b → gr_cf K i = some ((3, q) :: (1, gr_bo K n q) :: L, 0) ∧ gr_bo K n i = b) ∧ (∀ i, q < i → i < b → K i = 5 ∨ K i = 6) ∧
      gr_np K b = gr_np K (q + 1) ∧ gr_pa K b = some (gr_bo K n q) ∧ gr_cf K (b + 1) = some ((1, b) :: (1, gr_bo K n q) :: L, 0) := by
  have hq0 : q ≠ 0 := by rintro rfl; have := (gr_k01 hn).2; omega
  obtain ⟨L0, e0, hc⟩ := gr_exle hn (Nat.le_of_lt hq)
  obtain ⟨c1, hc1, hs⟩ := gr_step hn hq hc
  have main : ∃ p L, L0 = (1, p) :: L ∧ e0 = 0 ∧ c1 = ((3, q) :: (1, p) :: L, 0) := by
    rcases gr_cases hs with ⟨L2, e2, e3, r1, r2, h3⟩ | ⟨t1, p1, L2, e3, r1, r2, h3⟩ | ⟨t1, p1, L2, u, e3, r1, r2, h3⟩ | ⟨t1, p1, L2, u, r1, r2, h3⟩ | ⟨t1, p1, L2, r1, r2, h3⟩
    · simp only [gr_c1] at h3; omega
    · simp only [gr_c2] at h3; omega
    · cases r1
      have h4 : t1 = 1 ∧ u = 3 ∧ e3 = 0 := by simp only [gr_c3] at h3; omega
      obtain ⟨rfl, rfl, rfl⟩ := h4
      refine ⟨p1, L2, rfl, rfl, ?_⟩
      rw [r2]; simp [gr_n, hk]
    · simp only [gr_c4] at h3; omega
    · simp only [gr_c5] at h3; omega
  obtain ⟨p, L, rfl, rfl, rfl⟩ := main
  have hbo : gr_bo K n q = p := gr_bo_c hq (by omega) (by omega) (by omega) hc (gr_cb_12 (.inl rfl))
  rw [hbo]
  obtain ⟨b, a1, a2, a3, a4, a5⟩ := gr_params hn (n - (q + 1)) (q + 1) q ((1, p) :: L) (Nat.le_refl _) (by omega) (by omega) hc1
  have hb := a4 b a1 (Nat.le_refl _)
  refine ⟨b, L, by omega, a2, a3, hc, ?_, fun i hi hib => a5 i hi hib, ?_, ?_, ?_⟩
  · intro i hi hib
    exact ⟨a4 i hi hib, gr_bo_q (b - i) i b (by omega) a2 a3 (fun j hj hjb => a5 j (by omega) hjb)⟩
  · exact (gr_top3 b _ _ (by omega) hb q _ rfl).1
  · simp [gr_pa, hb, gr_cb]
  · rw [gr_next hb]; simp [gr_st, a3]
/-- a BEGIN and its procedure -/
theorem gr_beg {K : Nat → Nat} {n b : Nat} (hn : gr_cf K n = some ([], 0)) (hb : b < n) (h0 : b ≠ 0) (hk : K b = 1) :
    ∃ q, q < b ∧ K q = 4 ∧ gr_np K b = gr_np K (q + 1) ∧ (∀ i, q < i → i < b → K i = 5 ∨ K i = 6) ∧ gr_pa K b = some (gr_bo K n q) := by
  obtain ⟨L0, e0, hc⟩ := gr_exle hn (Nat.le_of_lt hb)
  obtain ⟨q, L, rfl⟩ := (gr_k3 hn (by omega) hb hc).mp (.inl hk)
  have hkq : K q = 4 := by
    have := (gr_kinds b _ _ (by omega) hc).1
    simp only at this; omega
  have hqb : q < b := (gr_sorted b _ _ (by omega) hc).1
  obtain ⟨b', L', c1, c2, c3, c4, c5, c6, c7, c8, c9⟩ := gr_proc hn (by omega) hkq
  have : b' = b := by
    by_cases h1 : b < b'
    · have := c6 b hqb h1; omega
    · by_cases h2 : b' < b
      · have := gr_gone (by omega) (c5 b' c1 (Nat.le_refl _)).1 (.inl ⟨c3, rfl⟩) h2 hc (3, q) (by simp)
        exact absurd rfl this
      · omega
  subst this
  exact ⟨q, hqb, hkq, c7, c6, c8⟩
theorem gr_np_lt {K : Nat → Nat} {n b b' : Nat} (hn : gr_cf K n = some ([], 0)) (hb' : b' < n) (hk : K b = 1) (hk' : K b' = 1) (h : b < b') : gr_np K b < gr_np K b' := by
  obtain ⟨q, a1, a2, a3, a4, a5⟩ := gr_beg hn hb' (by omega) hk'
  have : b ≤ q := by
    by_cases h1 : q < b
    · have := a4 b h1 h; omega
    · omega
  have h2 := @gr_np_mono K b q this
  rw [gr_np_4 a2] at a3
  omega
theorem gr_np_inj {K : Nat → Nat} {n b b' : Nat} (hn : gr_cf K n = some ([], 0)) (hb : b < n) (hb' : b' < n) (hk : K b = 1) (hk' : K b' = 1) : gr_np K b = gr_np K b' ↔ b = b' := by
  constructor
  · intro h
    by_cases h1 : b < b'
    · have := gr_np_lt hn hb' hk hk' h1; omega
    · by_cases h2 : b' < b
      · have := gr_np_lt hn hb hk' hk h2; omega
      · omega
  · rintro rfl; rfl
theorem gr_pa_lt {K : Nat → Nat} {n b b' : Nat} (hn : gr_cf K n = some ([], 0)) (hb : b < n) (hk : K b = 1) (h : gr_pa K b = some b') : b' < b ∧ K b' = 1 ∧ gr_np K b' < gr_np K b := by
  have h0 : b ≠ 0 := by rintro rfl; simp [gr_pa, gr_cf, gr_cb] at h
  obtain ⟨q, a1, a2, a3, a4, a5⟩ := gr_beg hn hb h0 hk
  rw [a5] at h
  injection h with h
  obtain ⟨L, e, hc⟩ := gr_exle hn (show q ≤ n by omega)
  have hx := gr_xbo hn (show q < n by omega) hc
  rw [h] at hx
  obtain ⟨b2, L2, c1, c2, c3, c4, c5, c6, c7, c8, c9⟩ := gr_proc hn (show q < n by omega) a2
  have hq1 : 1 ≤ q := by
    have := gr_k01 hn
    by_cases e : q = 0
    · subst e; omega
    · omega
  rw [h] at c4
  have hlt : b' < q := (gr_sorted q _ _ hq1 c4).1
  exact ⟨by omega, hx.2.1, gr_np_lt hn hb hx.2.1 hk (by omega)⟩
theorem gr_pa_no {K : Nat → Nat} {n b : Nat} (hn : gr_cf K n = some ([], 0)) (hb : b < n) (hk : K b = 1) (h : gr_pa K b = none) : b = 0 := by
  by_cases h0 : b = 0
  · exact h0
  · obtain ⟨q, a1, a2, a3, a4, a5⟩ := gr_beg hn hb h0 hk
    rw [a5] at h; cases h
end
section
abbrev gr_D (k : Nat) : Prop := k = 3 ∨ k = 4 ∨ k = 5 ∨ k = 6 ∨ k = 10
/-- the first of f places from i on that holds -/
def gr_fs (P : Nat → Bool) : Nat → Nat → Option Nat
  | 0, _ => none
  | f + 1, i => if P i = true then some i else gr_fs P f (i + 1)
theorem gr_fs_some {P : Nat → Bool} {d : Nat} : ∀ (f i : Nat), gr_fs P f i = some d → P d = true ∧ i ≤ d ∧ d < i + f ∧ ∀ j, i ≤ j → j < d → ¬ P j = true := by
  intro f
  induction f with
  | zero => intro i h; simp [gr_fs] at h
  | succ f ih =>
    intro i h
    simp only [gr_fs] at h
    by_cases hp : P i = true
    · rw [if_pos hp] at h
      injection h with h
      subst h
      exact ⟨hp, Nat.le_refl _, by omega, fun j h1 h2 => by omega⟩
    · rw [if_neg hp] at h
      obtain ⟨a, b, c, d⟩ := ih (i + 1) h
      refine ⟨a, by omega, by omega, fun j h1 h2 => ?_⟩
      by_cases e : j = i
      · subst e; exact hp
      · exact d j (by omega) h2
theorem gr_fs_none {P : Nat → Bool} : ∀ (f i : Nat), gr_fs P f i = none → ∀ j, i ≤ j → j < i + f → ¬ P j = true := by
  intro f
  induction f with
  | zero => intro i _ j h1 h2; omega
  | succ f ih =>
    intro i h j h1 h2
    simp only [gr_fs] at h
    by_cases hp : P i = true
    · rw [if_pos hp] at h; cases h
    · rw [if_neg hp] at h
      by_cases e : j = i
      · subst e; exact hp
      · exact ih (i + 1) h j (by omega) (by omega)
/-- the first declaration of a name in the body with its BEGIN at b -/
def gr_dc (K V : Nat → Nat) (n b x : Nat) : Option Nat := gr_fs (fun i => decide (gr_bo K n i = b ∧ V i = x ∧ gr_D (K i))) n 0
theorem gr_dc_some {K V : Nat → Nat} {n b x d : Nat} (h : gr_dc K V n b x = some d) : d < n ∧ gr_bo K n d = b ∧ V d = x ∧ gr_D (K d) := by
  obtain ⟨a, _, c, _⟩ := gr_fs_some n 0 h
  have := of_decide_eq_true a
  exact ⟨by omega, this⟩
theorem gr_dc_none {K V : Nat → Nat} {n b x : Nat} (h : gr_dc K V n b x = none) : ∀ d, d < n → gr_bo K n d = b → V d = x → ¬ gr_D (K d) := by
  intro d hd h1 h2 h3
  exact gr_fs_none n 0 h d (Nat.zero_le _) (by omega) (decide_eq_true ⟨h1, h2, h3⟩)
/-- no name is declared twice in one body -/
def gr_ND (K V : Nat → Nat) (n : Nat) : Prop := ∀ i j, i < j → j < n → gr_D (K i) → gr_D (K j) → gr_bo K n j = gr_bo K n i → V j = V i → False
theorem gr_dc_of {K V : Nat → Nat} {n d : Nat} (hN : gr_ND K V n) (hd : d < n) (hk : gr_D (K d)) : gr_dc K V n (gr_bo K n d) (V d) = some d := by
  cases h : gr_dc K V n (gr_bo K n d) (V d) with
  | none => exact absurd hk (gr_dc_none h d hd rfl rfl)
  | some d' =>
    obtain ⟨a, b, c, e⟩ := gr_dc_some h
    by_cases h1 : d < d'
    · exact (hN d d' h1 a hk e b c).elim
    · by_cases h2 : d' < d
      · exact (hN d' d h2 hd e hk b.symm c.symm).elim
      · have : d' = d := by omega
        rw [this]
/-- the nearest declaration from the body at b outward -/
def gr_lf (K V : Nat → Nat) (n x : Nat) : Nat → Nat → Option Nat
  | 0, _ => none
  | h + 1, b => match gr_dc K V n b x with
    | some d => some d
    | none => match gr_pa K b with
      | none => none
      | some b' => gr_lf K V n x h b'
def gr_lk (K V : Nat → Nat) (n b x : Nat) : Option Nat := gr_lf K V n x (b + 1) b
theorem gr_lf_eq {K V : Nat → Nat} {n x : Nat} (hn : gr_cf K n = some ([], 0)) : ∀ (h h' b : Nat), b < n → K b = 1 → b < h → b < h' → gr_lf K V n x h b = gr_lf K V n x h' b := by
  intro h
  induction h with
  | zero => intro h' b _ _ h1; omega
  | succ h ih =>
    intro h' b hb hk h1 h2
    cases h' with
    | zero => omega
    | succ h' =>
      simp only [gr_lf]
      cases gr_dc K V n b x with
      | some d => rfl
      | none =>
        cases hp : gr_pa K b with
        | none => rfl
        | some b' =>
          have := gr_pa_lt hn hb hk hp
          exact ih h' b' (by omega) this.2.1 (by omega) (by omega)
theorem gr_lk_d {K V : Nat → Nat} {n b x d : Nat} (h : gr_dc K V n b x = some d) : gr_lk K V n b x = some d := by
  simp [gr_lk, gr_lf, h]
theorem gr_lk_0 {K V : Nat → Nat} {n b x : Nat} (h : gr_dc K V n b x = none) (hp : gr_pa K b = none) : gr_lk K V n b x = none := by
  simp [gr_lk, gr_lf, h, hp]
theorem gr_lk_p {K V : Nat → Nat} {n b b' x : Nat} (hn : gr_cf K n = some ([], 0)) (hb : b < n) (hk : K b = 1) (h : gr_dc K V n b x = none) (hp : gr_pa K b = some b') : gr_lk K V n b x = gr_lk K V n b' x := by
  have := gr_pa_lt hn hb hk hp
  simp only [gr_lk]
  rw [show gr_lf K V n x (b + 1) b = gr_lf K V n x b b' by simp [gr_lf, h, hp]]
  exact gr_lf_eq hn b (b' + 1) b' (by omega) this.2.1 this.1 (by omega)
/-- uses match their declarations -/
def gr_mk (k dk : Nat) : Prop := ((k = 7 ∨ k = 19) → dk = 3 ∨ dk = 5) ∧ ((k = 11 ∨ k = 13) → dk = 4 ∨ dk = 6) ∧ (k = 9 → dk = 10)
abbrev gr_U (k : Nat) : Prop := k = 7 ∨ k = 19 ∨ k = 11 ∨ k = 13 ∨ k = 9
def gr_us (K V : Nat → Nat) (n i : Nat) : Prop := gr_U (K i) → ∃ d, gr_lk K V n (gr_bo K n i) (V i) = some d ∧ gr_mk (K i) (K d)
def gr_US (K V : Nat → Nat) (n : Nat) : Prop := ∀ i, i < n → gr_us K V n i
/-- counts of declarations and of parameters by the body's number -/
def gr_dn (K : Nat → Nat) (n k : Nat) (i : Nat) : Nat := gr_ct (fun j => decide (gr_D (K j) ∧ gr_np K (gr_bo K n j) = k)) i
def gr_pn (K : Nat → Nat) (n k : Nat) (i : Nat) : Nat := gr_ct (fun j => decide ((K j = 5 ∨ K j = 6) ∧ gr_np K (gr_bo K n j) = k)) i
/-- the program keeps the limits -/
def gr_LM (K : Nat → Nat) (n : Nat) : Prop := gr_np K n ≤ 15 ∧ ∀ b, b < n → K b = 1 → gr_dn K n (gr_np K b) n ≤ 8 ∧ gr_pn K n (gr_np K b) n ≤ 4
/-- a place where a statement, or an end, of the body at b stands -/
def gr_P (K : Nat → Nat) (n p b : Nat) : Prop := 1 ≤ p ∧ p < n ∧ ∃ t r L, gr_cf K p = some ((t, r) :: L, 0) ∧ gr_S (gr_n (K p) t) ∧ gr_cb ((t, r) :: L) = some b
theorem gr_P_mk {K : Nat → Nat} {n p b : Nat} {L : List (Nat × Nat)} (hn : gr_cf K n = some ([], 0)) (h1 : 1 ≤ p) (hp : p ≤ n) (hc : gr_cf K p = some (L, 0)) (hS : ∃ t r L', L = (t, r) :: L' ∧ gr_S t) (hb : gr_cb L = some b) : gr_P K n p b := by
  obtain ⟨t, r, L', rfl, hS⟩ := hS
  have : p ≠ n := by rintro rfl; rw [hc] at hn; simp at hn
  refine ⟨h1, by omega, t, r, L', hc, ?_, hb⟩
  have h := @gr_n_t (K p) t
  simp only [gr_S] at hS ⊢
  omega
/-- what a token at such a place is -/
theorem gr_P_k {K : Nat → Nat} {n p b : Nat} (hn : gr_cf K n = some ([], 0)) (h : gr_P K n p b) : (K p = 2 ∨ K p = 7 ∨ K p = 8 ∨ K p = 9 ∨ K p = 10 ∨ K p = 11 ∨ K p = 15 ∨ K p = 16 ∨ K p = 17) ∧ gr_bo K n p = b := by
  obtain ⟨h1, hp, t, r, L, hc, hS, hb⟩ := h
  obtain ⟨c1, hc1, hs⟩ := gr_step hn hp hc
  have hn2 := @gr_n_or (K p) t
  have hk : K p = 2 ∨ K p = 7 ∨ K p = 8 ∨ K p = 9 ∨ K p = 10 ∨ K p = 11 ∨ K p = 15 ∨ K p = 16 ∨ K p = 17 := by
    simp only [gr_S] at hS
    rcases gr_cases hs with ⟨L2, e2, e3, r1, r2, h3⟩ | ⟨t1, p1, L2, e3, r1, r2, h3⟩ | ⟨t1, p1, L2, u, e3, r1, r2, h3⟩ | ⟨t1, p1, L2, u, r1, r2, h3⟩ | ⟨t1, p1, L2, r1, r2, h3⟩
    · cases r1
    · cases r1; simp only [gr_c2] at h3; omega
    · cases r1; simp only [gr_c3] at h3; omega
    · cases r1; simp only [gr_c4] at h3; omega
    · cases r1; simp only [gr_c5] at h3; omega
  exact ⟨hk, gr_bo_c hp (by omega) (by omega) (by omega) hc hb⟩
end
section
/-- an operator's answer; none: a division by zero -/
def gr_ap (k : Nat) (l r : Int32) : Option Int32 :=
  if k = 20 then some (l + r) else if k = 21 then some (l - r) else if k = 22 then some (l * r)
  else if k = 25 then some (if l < r then 1 else 0) else if k = 26 then some (if l = r then 1 else 0)
  else if r = 0 then none else if k = 23 then some (l / r) else some (l - l / r * r)
def gr_a2 (k : Nat) : Option Int32 → Option Int32 → Option Int32
  | some x, some y => gr_ap k x y
  | _, _ => none
/-- the expression from j on: where it ends, and its value (none: it traps); lf: the values of its leaves -/
def gr_ev (K : Nat → Nat) (lf : Nat → Int32) : Nat → Nat → Option (Nat × Option Int32)
  | 0, _ => none
  | f + 1, j => if K j = 18 ∨ K j = 19 then some (j + 1, some (lf j)) else
    match gr_ev K lf f (j + 1) with
    | none => none
    | some a => match gr_ev K lf f a.1 with
      | none => none
      | some b => some (b.1, gr_a2 (K j) a.2 b.2)
theorem gr_exp {K : Nat → Nat} {n : Nat} (lf : Nat → Int32) (hn : gr_cf K n = some ([], 0)) : ∀ (d j : Nat) (L : List (Nat × Nat)) (m : Nat), n - j ≤ d → j ≤ n → gr_cf K j = some (L, m + 1) →
    ∃ e v, gr_ev K lf d j = some (e, v) ∧ gr_cf K e = some (L, m) ∧ j < e ∧ e ≤ n ∧ ∀ i, j ≤ i → i < e → 18 ≤ K i ∧ K i ≤ 26 ∧ ∃ m', gr_cf K i = some (L, m' + 1) := by
  intro d
  induction d with
  | zero =>
    intro j L m hd hj hc
    have : j = n := by omega
    subst this; rw [hc] at hn; simp at hn
  | succ d ih =>
    intro j L m hd hj hc
    by_cases hjn : j = n
    · subst hjn; rw [hc] at hn; simp at hn
    have hlt : j < n := by omega
    obtain ⟨c1, h1, hs⟩ := gr_step hn hlt hc
    simp only [gr_st] at hs
    by_cases k1 : K j = 18 ∨ K j = 19
    · rw [if_pos k1] at hs
      injection hs with hs
      subst hs
      refine ⟨j + 1, some (lf j), by simp only [gr_ev]; rw [if_pos k1], h1, by omega, by omega, ?_⟩
      intro i h2 h3
      have : i = j := by omega
      subst this
      exact ⟨by omega, by omega, m, hc⟩
    · rw [if_neg k1] at hs
      by_cases k2 : 20 ≤ K j ∧ K j ≤ 26
      · rw [if_pos k2] at hs
        injection hs with hs
        subst hs
        obtain ⟨e1, v1, a1, a2, a3, a4, a5⟩ := ih (j + 1) L (m + 1) (by omega) (by omega) h1
        obtain ⟨e2, v2, b1, b2, b3, b4, b5⟩ := ih e1 L m (by omega) a4 a2
        refine ⟨e2, gr_a2 (K j) v1 v2, ?_, b2, by omega, b4, ?_⟩
        · simp only [gr_ev]; rw [if_neg k1, a1]; simp only; rw [b1]
        · intro i h2 h3
          by_cases c1 : i = j
          · subst c1; exact ⟨by omega, by omega, m, hc⟩
          · by_cases c2 : i < e1
            · exact a5 i (by omega) c2
            · exact b5 i (by omega) h3
      · rw [if_neg k2] at hs; cases hs
theorem gr_ev_lt {K : Nat → Nat} {lf : Nat → Int32} : ∀ (f j e : Nat) (v : Option Int32), gr_ev K lf f j = some (e, v) → j < e := by
  intro f
  induction f with
  | zero => intro j e v h; simp [gr_ev] at h
  | succ f ih =>
    intro j e v h
    simp only [gr_ev] at h
    by_cases k1 : K j = 18 ∨ K j = 19
    · rw [if_pos k1] at h; injection h with h; injection h with h _; omega
    · rw [if_neg k1] at h
      cases h1 : gr_ev K lf f (j + 1) with
      | none => rw [h1] at h; cases h
      | some a =>
        rw [h1] at h
        simp only at h
        cases h2 : gr_ev K lf f a.1 with
        | none => rw [h2] at h; cases h
        | some b =>
          rw [h2] at h
          simp only at h
          injection h with h
          injection h with h _
          have x1 := ih (j + 1) a.1 a.2 h1
          have x2 := ih a.1 b.1 b.2 h2
          omega
/-- an operator's two halves -/
theorem gr_ev_op {K : Nat → Nat} {lf : Nat → Int32} {f j e : Nat} {v : Option Int32} (h : gr_ev K lf (f + 1) j = some (e, v)) (k : ¬ (K j = 18 ∨ K j = 19)) :
    ∃ j1 a b, gr_ev K lf f (j + 1) = some (j1, a) ∧ gr_ev K lf f j1 = some (e, b) ∧ v = gr_a2 (K j) a b := by
  simp only [gr_ev] at h
  rw [if_neg k] at h
  cases h1 : gr_ev K lf f (j + 1) with
  | none => rw [h1] at h; cases h
  | some a =>
    rw [h1] at h
    simp only at h
    cases h2 : gr_ev K lf f a.1 with
    | none => rw [h2] at h; cases h
    | some b =>
      rw [h2] at h
      simp only at h
      injection h with h
      injection h with h3 h4
      subst h3
      exact ⟨a.1, a.2, b.2, rfl, h2, h4.symm⟩
theorem gr_ev_leaf {K : Nat → Nat} {lf : Nat → Int32} {f j e : Nat} {v : Option Int32} (h : gr_ev K lf (f + 1) j = some (e, v)) (k : K j = 18 ∨ K j = 19) : e = j + 1 ∧ v = some (lf j) := by
  simp only [gr_ev] at h
  rw [if_pos k] at h
  injection h with h
  injection h with h1 h2
  exact ⟨h1.symm, h2.symm⟩
theorem gr_below {f : Nat × Nat} {L : List (Nat × Nat)} (h : gr_sh (f :: L)) (ht : f.1 = 4 ∨ f.1 = 5 ∨ f.1 = 6) : ∃ t r L', L = (t, r) :: L' ∧ gr_S t := by
  cases L with
  | nil => have := h.1; omega
  | cons g L =>
    refine ⟨g.1, g.2, L, rfl, ?_⟩
    rcases h.1 with h1 | h1
    · omega
    · exact h1.2
theorem gr_P_17 {K : Nat → Nat} {n p b : Nat} (hn : gr_cf K n = some ([], 0)) (h : gr_P K n p b) (hk : K p = 17) : gr_P K n (p + 1) b := by
  obtain ⟨h1, hp, t, r, L, hc, hS, hb⟩ := h
  obtain ⟨c1, hc1, hs⟩ := gr_step hn hp hc
  have hsh := gr_shape p _ _ h1 hc
  simp only [gr_st, hk] at hs
  simp at hs
  obtain ⟨ht, rfl⟩ := hs
  refine gr_P_mk hn (by omega) hp hc1 (gr_below hsh (by simp only; omega)) ?_
  rw [gr_cb_456 (by omega)] at hb; exact hb
theorem gr_P_10 {K : Nat → Nat} {n p b : Nat} (hn : gr_cf K n = some ([], 0)) (h : gr_P K n p b) (hk : K p = 10) : gr_P K n (p + 1) b := by
  obtain ⟨h1, hp, t, r, L, hc, hS, hb⟩ := h
  obtain ⟨c1, hc1, hs⟩ := gr_step hn hp hc
  simp only [gr_st, hk] at hs
  simp at hs
  obtain ⟨ht, rfl⟩ := hs
  refine gr_P_mk hn (by omega) hp hc1 ⟨_, r, L, rfl, .inl ht⟩ ?_
  rw [gr_cb_t gr_n_t]; exact hb
theorem gr_P_16 {K : Nat → Nat} {n p b : Nat} (hn : gr_cf K n = some ([], 0)) (h : gr_P K n p b) (hk : K p = 16) : ∃ q L, p < q ∧ q < n ∧ K q = 17 ∧ gr_cf K q = some ((5, p) :: L, 0) ∧ gr_P K n (q + 1) b := by
  obtain ⟨h1, hp, t, r, L, hc, hS, hb⟩ := h
  obtain ⟨c1, hc1, hs⟩ := gr_step hn hp hc
  have hsh := gr_shape p _ _ h1 hc
  simp only [gr_st, hk] at hs
  simp at hs
  obtain ⟨ht, rfl⟩ := hs
  obtain ⟨q, t', a1, a2, a3, a4, a5⟩ := gr_match hn hp (by decide) hc1
  have ht' : t' = 5 := by omega
  subst ht'
  have hkq : K q = 17 := by
    simp only [gr_cl, gr_c5, gr_n] at a5
    simp at a5
    exact a5
  refine ⟨q, L, a1, a2, hkq, a3, ?_⟩
  have hq1 : gr_cf K (q + 1) = some (L, 0) := by rw [gr_next a3]; simp [gr_st, hkq]
  refine gr_P_mk hn (by omega) a2 hq1 (gr_below hsh (by simp only; omega)) ?_
  rw [gr_cb_456 (by omega)] at hb; exact hb
/-- SET, PRINT: the expression behind it -/
theorem gr_P_78 {K : Nat → Nat} {n p b : Nat} (hn : gr_cf K n = some ([], 0)) (h : gr_P K n p b) (hk : K p = 7 ∨ K p = 8) : ∃ L, gr_cf K (p + 1) = some (L, 1) ∧ gr_cb L = some b ∧ ∀ e, p < e → e ≤ n → gr_cf K e = some (L, 0) → gr_P K n e b := by
  obtain ⟨h1, hp, t, r, L, hc, hS, hb⟩ := h
  obtain ⟨c1, hc1, hs⟩ := gr_step hn hp hc
  have h2 : c1 = ((gr_n (K p) t, r) :: L, 1) := by
    simp only [gr_st] at hs
    rw [if_neg (by omega), if_neg (by omega), if_neg (by omega), if_neg (by omega), if_neg (by omega), if_pos hk, if_pos hS] at hs
    injection hs with hs; exact hs.symm
  subst h2
  have hb' : gr_cb ((gr_n (K p) t, r) :: L) = some b := by rw [gr_cb_t gr_n_t]; exact hb
  exact ⟨_, hc1, hb', fun e he hen hce => gr_P_mk hn (by omega) hen hce ⟨_, r, L, rfl, hS⟩ hb'⟩
/-- IF: the expression behind it, and where it goes if that is zero -/
theorem gr_P_15 {K : Nat → Nat} {n p b : Nat} (hn : gr_cf K n = some ([], 0)) (h : gr_P K n p b) (hk : K p = 15) :
    (∃ L, gr_cf K (p + 1) = some (L, 1) ∧ gr_cb L = some b ∧ ∀ e, p < e → e ≤ n → gr_cf K e = some (L, 0) → gr_P K n e b) ∧
    ∃ q L, p < q ∧ q < n ∧ gr_cf K q = some ((4, p) :: L, 0) ∧ (K q = 16 ∨ K q = 17) ∧ gr_P K n (q + 1) b := by
  obtain ⟨h1, hp, t, r, L, hc, hS, hb⟩ := h
  obtain ⟨c1, hc1, hs⟩ := gr_step hn hp hc
  have h2 : c1 = ((4, p) :: (gr_n (K p) t, r) :: L, 1) := by
    simp only [gr_st] at hs
    rw [if_neg (by omega), if_neg (by omega), if_neg (by omega), if_neg (by omega), if_neg (by omega), if_neg (by omega), if_neg (by omega), if_neg (by omega), if_neg (by omega), if_neg (by omega), if_neg (by omega), if_neg (by omega), if_pos hk, if_pos hS] at hs
    injection hs with hs; exact hs.symm
  subst h2
  have hb' : gr_cb ((gr_n (K p) t, r) :: L) = some b := by rw [gr_cb_t gr_n_t]; exact hb
  have hb4 : gr_cb ((4, p) :: (gr_n (K p) t, r) :: L) = some b := by rw [gr_cb_456 (by omega)]; exact hb'
  refine ⟨⟨_, hc1, hb4, fun e he hen hce => gr_P_mk hn (by omega) hen hce ⟨4, p, _, rfl, .inr (.inl rfl)⟩ hb4⟩, ?_⟩
  obtain ⟨q, t', a1, a2, a3, a4, a5⟩ := gr_match hn hp (by decide) hc1
  have ht' : t' = 4 := by omega
  subst ht'
  have hkq : K q = 16 ∨ K q = 17 := by
    simp only [gr_cl, gr_c5, gr_n] at a5
    simp at a5
    exact a5
  refine ⟨q, _, a1, a2, a3, hkq, ?_⟩
  rcases hkq with hkq | hkq
  · have hq1 : gr_cf K (q + 1) = some ((5, q) :: (gr_n (K p) t, r) :: L, 0) := by rw [gr_next a3]; simp [gr_st, hkq]
    exact gr_P_mk hn (by omega) a2 hq1 ⟨5, q, _, rfl, .inr (.inr rfl)⟩ (by rw [gr_cb_456 (by omega)]; exact hb')
  · have hq1 : gr_cf K (q + 1) = some ((gr_n (K p) t, r) :: L, 0) := by rw [gr_next a3]; simp [gr_st, hkq]
    exact gr_P_mk hn (by omega) a2 hq1 ⟨_, r, L, rfl, hS⟩ hb'
/-- CALL: its arguments and its DONE -/
theorem gr_P_11 {K : Nat → Nat} {n p b : Nat} (hn : gr_cf K n = some ([], 0)) (h : gr_P K n p b) (hk : K p = 11) :
    ∃ q L, p < q ∧ q < n ∧ gr_cf K (p + 1) = some ((6, p) :: L, 0) ∧ gr_cf K q = some ((6, p) :: L, 0) ∧ K q = 14 ∧ gr_cb ((6, p) :: L) = some b ∧ gr_P K n (q + 1) b := by
  obtain ⟨h1, hp, t, r, L, hc, hS, hb⟩ := h
  obtain ⟨c1, hc1, hs⟩ := gr_step hn hp hc
  have h2 : c1 = ((6, p) :: (gr_n (K p) t, r) :: L, 0) := by
    simp only [gr_st] at hs
    rw [if_neg (by omega), if_neg (by omega), if_neg (by omega), if_neg (by omega), if_neg (by omega), if_neg (by omega), if_neg (by omega), if_neg (by omega), if_pos hk, if_pos hS] at hs
    injection hs with hs; exact hs.symm
  subst h2
  have hb' : gr_cb ((gr_n (K p) t, r) :: L) = some b := by rw [gr_cb_t gr_n_t]; exact hb
  obtain ⟨q, t', a1, a2, a3, a4, a5⟩ := gr_match hn hp (by decide) hc1
  have ht' : t' = 6 := by omega
  subst ht'
  have hkq : K q = 14 := by
    simp only [gr_cl, gr_c5, gr_n] at a5
    simp at a5
    exact a5
  refine ⟨q, _, a1, a2, hc1, a3, hkq, by rw [gr_cb_456 (by omega)]; exact hb', ?_⟩
  have hq1 : gr_cf K (q + 1) = some ((gr_n (K p) t, r) :: L, 0) := by rw [gr_next a3]; simp [gr_st, hkq]
  exact gr_P_mk hn (by omega) a2 hq1 ⟨_, r, L, rfl, hS⟩ hb'
/-- one argument -/
theorem gr_arg {K : Nat → Nat} {n j p : Nat} {L : List (Nat × Nat)} (hn : gr_cf K n = some ([], 0)) (hj : j < n) (hc : gr_cf K j = some ((6, p) :: L, 0)) :
    (K j = 14) ∨ (K j = 13 ∧ gr_cf K (j + 1) = some ((6, p) :: L, 0)) ∨ (K j = 12 ∧ gr_cf K (j + 1) = some ((6, p) :: L, 1)) := by
  obtain ⟨c1, hc1, hs⟩ := gr_step hn hj hc
  have hnn : gr_n (K j) 6 = 6 := by simp [gr_n]
  rcases gr_cases hs with ⟨L2, e2, e3, r1, r2, h3⟩ | ⟨t1, p1, L2, e3, r1, r2, h3⟩ | ⟨t1, p1, L2, u, e3, r1, r2, h3⟩ | ⟨t1, p1, L2, u, r1, r2, h3⟩ | ⟨t1, p1, L2, r1, r2, h3⟩
  · cases r1
  · cases r1
    rw [hnn] at r2
    simp only [gr_c2, hnn, gr_S] at h3
    subst r2
    have : (K j = 12 ∧ e3 = 1) ∨ (K j = 13 ∧ e3 = 0) := by omega
    rcases this with ⟨a, rfl⟩ | ⟨a, rfl⟩
    · exact .inr (.inr ⟨a, hc1⟩)
    · exact .inr (.inl ⟨a, hc1⟩)
  · cases r1; simp only [gr_c3, hnn, gr_S] at h3; omega
  · cases r1; simp only [gr_c4] at h3; omega
  · cases r1; simp only [gr_c5, hnn] at h3; exact .inl (by omega)
/-- the declarations of a body: one step of them -/
theorem gr_decl {K : Nat → Nat} {n i b : Nat} {L : List (Nat × Nat)} (hn : gr_cf K n = some ([], 0)) (h1 : 1 ≤ i) (hi : i < n) (hc : gr_cf K i = some ((1, b) :: L, 0)) :
    (K i = 3 ∧ gr_cf K (i + 1) = some ((1, b) :: L, 0)) ∨
    (K i = 4 ∧ ∃ c q, i < c ∧ c < q ∧ q < n ∧ K c = 1 ∧ gr_cf K c = some ((3, i) :: (1, b) :: L, 0) ∧ (∃ t', (t' = 1 ∨ t' = 2) ∧ gr_cf K q = some ((t', c) :: (1, b) :: L, 0)) ∧ K q = 2 ∧ gr_cf K (q + 1) = some ((1, b) :: L, 0)) ∨
    (K i ≠ 3 ∧ K i ≠ 4 ∧ gr_P K n i b) := by
  by_cases k3 : K i = 3
  · left
    obtain ⟨c1, hc1, hs⟩ := gr_step hn hi hc
    simp [gr_st, gr_n, k3] at hs
    subst hs
    exact ⟨k3, hc1⟩
  right
  by_cases k4 : K i = 4
  · left
    refine ⟨k4, ?_⟩
    obtain ⟨c, L', a1, a2, a3, a4, a5, a6, a7, a8, a9⟩ := gr_proc hn hi k4
    rw [hc] at a4
    injection a4 with a4
    injection a4 with a4 _
    injection a4 with a4 a4'
    injection a4 with _ a4
    rw [← a4] at a5 a9
    subst a4'
    obtain ⟨q, t', b1, b2, b3, b4, b5⟩ := gr_match hn a2 (by decide) a9
    have hkq : K q = 2 ∧ gr_n (K q) t' = 2 := by
      simp only [gr_cl, gr_c5] at b5
      omega
    refine ⟨c, q, a1, by omega, b2, a3, (a5 c a1 (Nat.le_refl _)).1, ⟨t', by omega, b3⟩, hkq.1, ?_⟩
    rw [gr_next b3]
    have := hkq.2
    rw [hkq.1] at this ⊢
    simp [gr_st, this]
  · right
    refine ⟨k3, k4, h1, hi, 1, b, L, hc, ?_, gr_cb_12 (.inl rfl)⟩
    simp [gr_n, gr_S, k3, k4]
/-- a label's place, and the place behind it -/
theorem gr_label {K : Nat → Nat} {n d : Nat} (hn : gr_cf K n = some ([], 0)) (hd : d < n) (hk : K d = 10) : gr_P K n (d + 1) (gr_bo K n d) := by
  have h0 : d ≠ 0 := by rintro rfl; have := (gr_k01 hn).2; omega
  obtain ⟨L0, e0, hc⟩ := gr_exle hn (Nat.le_of_lt hd)
  obtain ⟨c1, hc1, hs⟩ := gr_step hn hd hc
  rcases gr_cases hs with ⟨L2, e2, e3, r1, r2, h3⟩ | ⟨t1, p1, L2, e3, r1, r2, h3⟩ | ⟨t1, p1, L2, u, e3, r1, r2, h3⟩ | ⟨t1, p1, L2, u, r1, r2, h3⟩ | ⟨t1, p1, L2, r1, r2, h3⟩
  · simp only [gr_c1] at h3; omega
  · cases r1
    have hn2 := @gr_n_t (K d) t1
    have h4 : gr_n (K d) t1 = 2 ∧ e3 = 0 := by simp only [gr_c2] at h3; omega
    obtain ⟨h4, rfl⟩ := h4
    subst r2
    have hcb : gr_cb ((t1, p1) :: L2) = some p1 := gr_cb_12 (by omega)
    rw [gr_bo_c hd (by omega) (by omega) (by omega) hc hcb]
    refine gr_P_mk hn (by omega) hd hc1 ⟨_, p1, L2, rfl, .inl h4⟩ ?_
    rw [gr_cb_t gr_n_t]; exact hcb
  · simp only [gr_c3] at h3; omega
  · simp only [gr_c4] at h3; omega
  · simp only [gr_c5] at h3; omega
end
section
/-- the activations 0 .. top: ab their bodies' BEGINs, ap their static parents -/
def ac_E (K : Nat → Nat) (n : Nat) (ab ap : Nat → Nat) (top : Nat) : Prop :=
  ∀ a, a ≤ top → ab a < n ∧ K (ab a) = 1 ∧ (a = 0 → ab a = 0) ∧ (a ≠ 0 → ap a < a ∧ gr_pa K (ab a) = some (ab (ap a)))
theorem ac_E_le {K : Nat → Nat} {n : Nat} {ab ap : Nat → Nat} {top top' : Nat} (h : ac_E K n ab ap top) (ht : top' ≤ top) : ac_E K n ab ap top' :=
  fun a ha => h a (Nat.le_trans ha ht)
/-- the nearest activation that declares x -/
def ac_al (K V : Nat → Nat) (n : Nat) (ab ap : Nat → Nat) (x : Nat) : Nat → Nat → Nat
  | 0, a => a
  | h + 1, a => match gr_dc K V n (ab a) x with
    | some _ => a
    | none => if a = 0 then 0 else ac_al K V n ab ap x h (ap a)
theorem ac_b0 {K : Nat → Nat} {n : Nat} {ab ap : Nat → Nat} {top a : Nat} (hn : gr_cf K n = some ([], 0)) (hE : ac_E K n ab ap top) (ha : a ≤ top) (h : gr_np K (ab a) = 0) : a = 0 := by
  by_cases h0 : a = 0
  · exact h0
  · obtain ⟨b1, b2, b3, b4⟩ := hE a ha
    have := gr_pa_lt hn b1 b2 (b4 h0).2
    omega
theorem ac_al_le {K V : Nat → Nat} {n x : Nat} {ab ap : Nat → Nat} {top : Nat} (hE : ac_E K n ab ap top) : ∀ (h a : Nat), a ≤ top → ac_al K V n ab ap x h a ≤ a := by
  intro h
  induction h with
  | zero => intro a _; exact Nat.le_refl _
  | succ h ih =>
    intro a ha
    simp only [ac_al]
    cases gr_dc K V n (ab a) x with
    | some d => exact Nat.le_refl _
    | none =>
      by_cases h0 : a = 0
      · simp only; rw [if_pos h0]; omega
      · simp only; rw [if_neg h0]
        have := ((hE a ha).2.2.2 h0).1
        have := ih (ap a) (by omega)
        omega
theorem ac_al_d {K V : Nat → Nat} {n x d : Nat} {ab ap : Nat → Nat} {top : Nat} (hn : gr_cf K n = some ([], 0)) (hE : ac_E K n ab ap top) : ∀ (h a : Nat), a ≤ top → gr_np K (ab a) ≤ h → gr_lk K V n (ab a) x = some d → gr_dc K V n (ab (ac_al K V n ab ap x h a)) x = some d := by
  intro h
  induction h with
  | zero =>
    intro a ha hp hl
    have h0 : a = 0 := ac_b0 hn hE ha (by omega)
    subst h0
    simp only [ac_al]
    have hb := (hE 0 ha).2.2.1 rfl
    cases hd : gr_dc K V n (ab 0) x with
    | some d' => rw [gr_lk_d hd] at hl; exact hl
    | none =>
      have hpa : gr_pa K (ab 0) = none := by rw [hb]; simp [gr_pa, gr_cf, gr_cb]
      rw [gr_lk_0 hd hpa] at hl
      cases hl
  | succ h ih =>
    intro a ha hp hl
    simp only [ac_al]
    cases hd : gr_dc K V n (ab a) x with
    | some d' => simp only; rw [gr_lk_d hd] at hl; rw [hd]; exact hl
    | none =>
      simp only
      obtain ⟨b1, b2, b3, b4⟩ := hE a ha
      by_cases h0 : a = 0
      · have hpa : gr_pa K (ab a) = none := by rw [b3 h0]; simp [gr_pa, gr_cf, gr_cb]
        rw [gr_lk_0 hd hpa] at hl
        cases hl
      · rw [if_neg h0]
        have c := b4 h0
        have := gr_pa_lt hn b1 b2 c.2
        rw [gr_lk_p hn b1 b2 hd c.2] at hl
        exact ih (ap a) (by omega) (by omega) hl
theorem ac_al_s {K V : Nat → Nat} {n x h a : Nat} {ab ap : Nat → Nat} (hd : gr_dc K V n (ab a) x ≠ none) : ac_al K V n ab ap x h a = a := by
  cases h with
  | zero => rfl
  | succ h =>
    simp only [ac_al]
    cases h2 : gr_dc K V n (ab a) x with
    | some d => rfl
    | none => exact absurd h2 hd
theorem ac_al_n {K V : Nat → Nat} {n x h a : Nat} {ab ap : Nat → Nat} (hd : gr_dc K V n (ab a) x = none) (h0 : a ≠ 0) : ac_al K V n ab ap x (h + 1) a = ac_al K V n ab ap x h (ap a) := by
  simp only [ac_al]
  rw [hd]
  simp only
  rw [if_neg h0]
theorem ac_al_0 {K V : Nat → Nat} {n x h : Nat} {ab ap : Nat → Nat} : ac_al K V n ab ap x h 0 = 0 := by
  cases h with
  | zero => rfl
  | succ h =>
    simp only [ac_al]
    cases gr_dc K V n (ab 0) x with
    | some d => rfl
    | none => rfl
end
section
/-- a parameter's body -/
theorem gr_bo_par {K : Nat → Nat} {n j : Nat} (hn : gr_cf K n = some ([], 0)) (hj : j < n) (hk : K j = 5 ∨ K j = 6) :
    j < gr_bo K n j ∧ ∀ i, j ≤ i → i < gr_bo K n j → K i = 5 ∨ K i = 6 := by
  have h1 : 1 ≤ j := by
    have := (gr_k01 hn).2
    by_cases e : j = 0
    · subst e; omega
    · omega
  obtain ⟨L, e, hc⟩ := gr_exle hn (Nat.le_of_lt hj)
  obtain ⟨p, L', rfl⟩ := (gr_k3 hn h1 hj hc).mp (.inr hk)
  have he := (gr_top3 j _ _ h1 hc p L' rfl).2
  subst he
  obtain ⟨q, a1, a2, a3, a4, a5⟩ := gr_params hn (n - j) j p L' (Nat.le_refl _) (by omega) h1 hc
  rw [gr_bo_q (q - j) j q (by omega) a2 a3 a5]
  refine ⟨?_, a5⟩
  by_cases e : j = q
  · subst e; omega
  · omega
/-- the parameters of the body at b are just those between the procedure and b -/
theorem gr_parOf {K : Nat → Nat} {n q b j : Nat} (hn : gr_cf K n = some ([], 0)) (hq : q < n) (hk : K q = 4) (hqb : q < b) (hb : b < n) (hkb : K b = 1) (hp : ∀ i, q < i → i < b → K i = 5 ∨ K i = 6) (hj : j < n) :
    ((K j = 5 ∨ K j = 6) ∧ gr_np K (gr_bo K n j) = gr_np K b) ↔ q < j ∧ j < b := by
  obtain ⟨L, e, hc⟩ := gr_exle hn (Nat.le_of_lt hj)
  have hx := gr_xbo hn hj hc
  constructor
  · rintro ⟨h1, h2⟩
    have h3 := (gr_np_inj hn hx.2.2 hb hx.2.1 hkb).mp h2
    have h4 := gr_bo_par hn hj h1
    rw [h3] at h4
    refine ⟨?_, h4.1⟩
    by_cases h5 : j ≤ q
    · have := h4.2 q h5 hqb; omega
    · omega
  · rintro ⟨h1, h2⟩
    refine ⟨hp j h1 h2, ?_⟩
    rw [gr_bo_q (b - j) j b (by omega) hb hkb (fun i h3 h4 => hp i (by omega) h4)]
theorem gr_pn_q {K : Nat → Nat} {n q b : Nat} (hn : gr_cf K n = some ([], 0)) (hq : q < n) (hk : K q = 4) (hqb : q < b) (hb : b < n) (hkb : K b = 1) (hp : ∀ i, q < i → i < b → K i = 5 ∨ K i = 6) :
    ∀ j, j ≤ n → gr_pn K n (gr_np K b) j = min j b - (q + 1) := by
  intro j
  induction j with
  | zero => intro _; simp [gr_pn, gr_ct]
  | succ j ih =>
    intro hj
    have ih := ih (by omega)
    have h1 := gr_parOf hn hq hk hqb hb hkb hp (show j < n by omega)
    unfold gr_pn at ih ⊢
    by_cases h2 : q < j ∧ j < b
    · rw [gr_ct_t (decide_eq_true (h1.mpr h2)), ih]; omega
    · rw [gr_ct_f (by rw [decide_eq_true_iff]; exact fun h => h2 (h1.mp h)), ih]; omega
/-- the target of a declaration -/
def lo_tg (K : Nat → Nat) (d : Nat) : Nat := if K d = 4 then gr_np K (d + 1) else if K d = 10 then d + 1 else 0
/-- token j's body by number -/
def lo_x (K : Nat → Nat) (n j : Nat) : Nat := gr_np K (gr_bo K n j)
/-- no name twice among the first i tokens -/
def lo_N (K V : Nat → Nat) (n i : Nat) : Prop := ∀ c d, c < d → d < i → gr_D (K c) → gr_D (K d) → lo_x K n d = lo_x K n c → V d = V c → False
/-- the tables of declarations hold the first i tokens -/
def lo_T (K V : Nat → Nat) (n i : Nat) (dk dt : Nat → Int32) : Prop :=
  (∀ d, d < i → gr_D (K d) → dk (lo_x K n d * 16 + V d) = nI (K d) ∧ dt (lo_x K n d * 16 + V d) = nI (lo_tg K d)) ∧
  (∀ k x, k < 16 → x < 16 → (∀ d, d < i → gr_D (K d) → lo_x K n d = k → V d = x → False) → dk (k * 16 + x) = 0 ∧ dt (k * 16 + x) = 0)
theorem lo_us {f : Nat → Int32} {k : Nat} {x : Int32} : upd f k x k = x := by simp [upd]
theorem lo_un {f : Nat → Int32} {k j : Nat} {x : Int32} (h : j ≠ k) : upd f k x j = f j := by simp [upd, h]
theorem lo_ix {a b x y : Nat} (hx : x < 16) (hy : y < 16) (h : a * 16 + x = b * 16 + y) : a = b ∧ x = y := by omega
theorem lo_N_n {K V : Nat → Nat} {n i : Nat} (h : lo_N K V n i) (hk : ¬ gr_D (K i)) : lo_N K V n (i + 1) := by
  intro c d hcd hd h1 h2
  by_cases e : d = i
  · subst e; exact absurd h2 hk
  · exact h c d hcd (by omega) h1 h2
theorem lo_T_n {K V : Nat → Nat} {n i : Nat} {dk dt : Nat → Int32} (h : lo_T K V n i dk dt) (hk : ¬ gr_D (K i)) : lo_T K V n (i + 1) dk dt := by
  refine ⟨fun d hd h1 => ?_, fun k x hk2 hx h1 => h.2 k x hk2 hx (fun d hd => h1 d (by omega))⟩
  by_cases e : d = i
  · subst e; exact absurd h1 hk
  · exact h.1 d (by omega) h1
/-- a declaration that is new -/
theorem lo_T_d {K V : Nat → Nat} {n i : Nat} {dk dt : Nat → Int32} (h : lo_T K V n i dk dt) (hN : lo_N K V n i) (hV : ∀ d, d ≤ i → gr_D (K d) → V d < 16) (hk : gr_D (K i)) (h0 : dk (lo_x K n i * 16 + V i) = 0) (hK : ∀ d, d ≤ i → K d < 27) :
    lo_N K V n (i + 1) ∧ lo_T K V n (i + 1) (upd dk (lo_x K n i * 16 + V i) (nI (K i))) (upd dt (lo_x K n i * 16 + V i) (nI (lo_tg K i))) := by
  have hno : ∀ d, d < i → gr_D (K d) → lo_x K n d = lo_x K n i → V d = V i → False := by
    intro d hd h1 h2 h3
    have h4 := (h.1 d hd h1).1
    rw [h2, h3, h0] at h4
    have h5 := hK d (by omega)
    have h6 : gr_D (K d) := h1
    have : nI (K d) = nI 0 := by rw [← h4]; rfl
    rw [nI_eq (by omega) (by omega)] at this
    simp only [gr_D] at h6
    omega
  refine ⟨?_, ?_, ?_⟩
  · intro c d hcd hd h1 h2 h3 h4
    by_cases e : d = i
    · subst e; exact hno c hcd h1 h3.symm h4.symm
    · exact hN c d hcd (by omega) h1 h2 h3 h4
  · intro d hd h1
    by_cases e : d = i
    · subst e; exact ⟨lo_us, lo_us⟩
    · have hne : lo_x K n d * 16 + V d ≠ lo_x K n i * 16 + V i := by
        intro e2
        have := lo_ix (hV d (by omega) h1) (hV i (Nat.le_refl _) hk) e2
        exact hno d (by omega) h1 this.1 this.2
      rw [lo_un hne, lo_un hne]
      exact h.1 d (by omega) h1
  · intro k x hk2 hx h1
    have hne : k * 16 + x ≠ lo_x K n i * 16 + V i := by
      intro e2
      have := lo_ix hx (hV i (Nat.le_refl _) hk) e2
      exact h1 i (by omega) hk this.1.symm this.2.symm
    rw [lo_un hne, lo_un hne]
    exact h.2 k x hk2 hx (fun d hd => h1 d (by omega))
/-- a declaration that is there already -/
theorem lo_T_2 {K V : Nat → Nat} {n i : Nat} {dk dt : Nat → Int32} (h : lo_T K V n i dk dt) (hV : V i < 16) (hx : lo_x K n i < 16) (hk : gr_D (K i)) (h0 : ¬ dk (lo_x K n i * 16 + V i) = 0) : ¬ lo_N K V n (i + 1) := by
  intro hN
  refine h0 (h.2 _ _ hx hV ?_).1
  intro d hd h1 h2 h3
  exact hN d i hd (by omega) h1 hk h2.symm h3.symm
theorem lo_N_up {K V : Nat → Nat} {n i j : Nat} (h : ¬ lo_N K V n i) (hij : i ≤ j) : ¬ lo_N K V n j :=
  fun h2 => h (fun c d h3 h4 => h2 c d h3 (by omega))
theorem lo_N_iff {K V : Nat → Nat} {n : Nat} (hn : gr_cf K n = some ([], 0)) : lo_N K V n n ↔ gr_ND K V n := by
  have hx : ∀ c d, c < n → d < n → (lo_x K n d = lo_x K n c ↔ gr_bo K n d = gr_bo K n c) := by
    intro c d hc hd
    obtain ⟨L, e, h1⟩ := gr_exle hn (Nat.le_of_lt hc)
    obtain ⟨L', e', h2⟩ := gr_exle hn (Nat.le_of_lt hd)
    have x1 := gr_xbo hn hc h1
    have x2 := gr_xbo hn hd h2
    exact gr_np_inj hn x2.2.2 x1.2.2 x2.2.1 x1.2.1
  constructor
  · intro h c d h1 h2 h3 h4 h5 h6
    exact h c d h1 h2 h3 h4 ((hx c d (by omega) h2).mpr h5) h6
  · intro h c d h1 h2 h3 h4 h5 h6
    exact h c d h1 h2 h3 h4 ((hx c d (by omega) h2).mp h5) h6
/-- the numbers of the unclosed bodies, the innermost first -/
def lo_ob (K : Nat → Nat) : List (Nat × Nat) → List Nat
  | [] => []
  | f :: L => if f.1 = 1 ∨ f.1 = 2 then gr_np K f.2 :: lo_ob K L else if f.1 = 3 then gr_np K (f.2 + 1) :: lo_ob K L else lo_ob K L
theorem lo_xb_le {K : Nat → Nat} : ∀ (L : List (Nat × Nat)) (i : Nat), gr_so i L → gr_xb K L ≤ gr_np K i ∧ ∀ k, k ∈ lo_ob K L → k ≤ gr_np K i := by
  intro L
  induction L with
  | nil => intro i _; exact ⟨Nat.zero_le _, fun k hk => by simp [lo_ob] at hk⟩
  | cons f L ih =>
    intro i h
    obtain ⟨t, p⟩ := f
    have h1 : p < i := h.1
    have m1 := @gr_np_mono K p i (by omega)
    have m2 := @gr_np_mono K (p + 1) i h1
    have ih := ih p h.2
    simp only [gr_xb, lo_ob]
    by_cases t1 : t = 1 ∨ t = 2
    · rw [if_pos t1, if_pos t1]
      refine ⟨m1, fun k hk => ?_⟩
      rcases List.mem_cons.mp hk with rfl | hk
      · exact m1
      · exact Nat.le_trans (ih.2 k hk) m1
    · rw [if_neg t1, if_neg t1]
      by_cases t3 : t = 3
      · rw [if_pos t3, if_pos t3]
        refine ⟨m2, fun k hk => ?_⟩
        rcases List.mem_cons.mp hk with rfl | hk
        · exact m2
        · exact Nat.le_trans (ih.2 k hk) m1
      · rw [if_neg t3, if_neg t3]
        exact ⟨Nat.le_trans ih.1 m1, fun k hk => Nat.le_trans (ih.2 k hk) m1⟩
theorem lo_hd {K : Nat → Nat} : ∀ (L : List (Nat × Nat)), lo_ob K L = [] ∧ gr_xb K L = 0 ∨ ∃ M, lo_ob K L = gr_xb K L :: M := by
  intro L
  induction L with
  | nil => exact .inl ⟨rfl, rfl⟩
  | cons f L ih =>
    simp only [gr_xb, lo_ob]
    by_cases t1 : f.1 = 1 ∨ f.1 = 2
    · rw [if_pos t1, if_pos t1]; exact .inr ⟨_, rfl⟩
    · rw [if_neg t1, if_neg t1]
      by_cases t3 : f.1 = 3
      · rw [if_pos t3, if_pos t3]; exact .inr ⟨_, rfl⟩
      · rw [if_neg t3, if_neg t3]; exact ih
theorem lo_x_le {K : Nat → Nat} {n j : Nat} (hn : gr_cf K n = some ([], 0)) (hj : j < n) : lo_x K n j ≤ gr_np K j := by
  obtain ⟨L, e, hc⟩ := gr_exle hn (Nat.le_of_lt hj)
  have hx := gr_xbo hn hj hc
  unfold lo_x
  rw [hx.1]
  by_cases h0 : j = 0
  · subst h0
    simp only [gr_cf, Option.some.injEq, Prod.mk.injEq] at hc
    rw [← hc.1]
    exact Nat.zero_le _
  · exact (lo_xb_le L j (gr_sorted j _ _ (by omega) hc)).1
theorem lo_cnt0 {K : Nat → Nat} {n k : Nat} (hn : gr_cf K n = some ([], 0)) : ∀ i, i ≤ n → gr_np K i < k → gr_dn K n k i = 0 ∧ gr_pn K n k i = 0 := by
  intro i
  induction i with
  | zero => intro _ _; exact ⟨rfl, rfl⟩
  | succ i ih =>
    intro hi hk
    have m := @gr_np_mono K i (i + 1) (by omega)
    have ih := ih (by omega) (by omega)
    have hx := lo_x_le hn (show i < n by omega)
    unfold lo_x at hx
    have ne : gr_np K (gr_bo K n i) ≠ k := by omega
    constructor
    · unfold gr_dn at ih ⊢
      rw [gr_ct_f (by simp [ne])]; exact ih.1
    · unfold gr_pn at ih ⊢
      rw [gr_ct_f (by simp [ne])]; exact ih.2
theorem lo_dn_n {K : Nat → Nat} {n k i : Nat} (h : ¬ (gr_D (K i) ∧ lo_x K n i = k)) : gr_dn K n k (i + 1) = gr_dn K n k i := by
  unfold gr_dn
  rw [gr_ct_f]
  rw [decide_eq_true_iff]
  exact h
theorem lo_dn_y {K : Nat → Nat} {n k i : Nat} (h : gr_D (K i) ∧ lo_x K n i = k) : gr_dn K n k (i + 1) = gr_dn K n k i + 1 := by
  unfold gr_dn
  exact gr_ct_t (decide_eq_true h)
theorem lo_pn_n {K : Nat → Nat} {n k i : Nat} (h : ¬ ((K i = 5 ∨ K i = 6) ∧ lo_x K n i = k)) : gr_pn K n k (i + 1) = gr_pn K n k i := by
  unfold gr_pn
  rw [gr_ct_f]
  rw [decide_eq_true_iff]
  exact h
theorem lo_pn_y {K : Nat → Nat} {n k i : Nat} (h : (K i = 5 ∨ K i = 6) ∧ lo_x K n i = k) : gr_pn K n k (i + 1) = gr_pn K n k i + 1 := by
  unfold gr_pn
  exact gr_ct_t (decide_eq_true h)
theorem lo_dn_le {K : Nat → Nat} {n k i : Nat} : gr_dn K n k i ≤ i ∧ gr_pn K n k i ≤ i := ⟨gr_ct_le i, gr_ct_le i⟩
theorem lo_dn_mono {K : Nat → Nat} {n k i j : Nat} (h : i ≤ j) : gr_dn K n k i ≤ gr_dn K n k j ∧ gr_pn K n k i ≤ gr_pn K n k j := ⟨gr_ct_mono h, gr_ct_mono h⟩
/-- what lies below an unclosed body is what lay there at its BEGIN -/
def lo_sf (K : Nat → Nat) : List (Nat × Nat) → Prop
  | [] => True
  | f :: L => ((f.1 = 1 ∨ f.1 = 2) → f.2 ≠ 0 → ∃ q, gr_cf K f.2 = some ((3, q) :: L, 0)) ∧ lo_sf K L
theorem lo_suf {K : Nat → Nat} : ∀ i L e, 1 ≤ i → gr_cf K i = some (L, e) → lo_sf K L := by
  refine gr_ind (fun i L e => lo_sf K L) ?_ ?_ ?_ ?_ ?_ ?_
  · intro _; exact ⟨fun _ h => absurd rfl h, trivial⟩
  · intro i L e e' _ _ h _; exact h
  · intro i t p L e' _ _ h _
    refine ⟨fun h1 h2 => h.1 ?_ h2, h.2⟩
    have := @gr_n_t (K i) t
    simp only at h1 ⊢
    omega
  · intro i t p L u e' _ _ h hc
    refine ⟨fun h1 _ => ?_, fun h1 h2 => h.1 ?_ h2, h.2⟩
    · simp only [gr_c3] at hc
      simp only at h1
      omega
    · have := @gr_n_t (K i) t
      simp only at h1 ⊢
      omega
  · intro i t p L u h1 hcf h hc
    refine ⟨fun h2 _ => ?_, h.2⟩
    have ht : t = 3 := by
      have hsh := gr_shape i _ _ h1 hcf
      have h0 : t ≠ 0 := by
        cases L with
        | nil => have := hsh.1; simp only at this; omega
        | cons g L2 => have := hsh.1; simp only [gr_S] at this; omega
      simp only [gr_c4] at hc
      simp only at h2
      omega
    subst ht
    exact ⟨p, hcf⟩
  · intro i t p L _ _ h _; exact h.2
/-- the body around an END -/
theorem lo_out {K : Nat → Nat} {n i t p : Nat} {L : List (Nat × Nat)} (hn : gr_cf K n = some ([], 0)) (h1 : 1 ≤ i) (hi : i < n) (hc : gr_cf K i = some ((t, p) :: L, 0)) (ht : t = 1 ∨ t = 2) :
    (p = 0 ∧ L = []) ∨ (p ≠ 0 ∧ ∃ q p0 L', q < p ∧ K q = 4 ∧ gr_np K p = gr_np K (q + 1) ∧ L = (1, p0) :: L' ∧ gr_bo K n q = p0 ∧ K p = 1) := by
  have hsh := gr_shape i _ _ h1 hc
  have hso := gr_sorted i _ _ h1 hc
  have hkp : K p = 1 := by have := (gr_kinds i _ _ h1 hc).1; simp only at this; omega
  cases L with
  | nil => exact .inl ⟨hsh.2, rfl⟩
  | cons g L =>
    right
    have hg : g.1 = 1 := by have := hsh.1; simp only [gr_S] at this; omega
    have h0 : p ≠ 0 := by
      have h2 : g.2 < p := hso.2.1
      omega
    refine ⟨h0, ?_⟩
    have hpi : p < i := hso.1
    obtain ⟨q, a1, a2, a3, a4, a5⟩ := gr_beg hn (by omega) h0 hkp
    obtain ⟨q', hq'⟩ := (lo_suf i _ _ h1 hc).1 ht h0
    have h4 : gr_pa K p = some g.2 := by
      unfold gr_pa
      simp only at hq'
      rw [hq']
      simp only
      rw [gr_cb_456 (by omega)]
      exact gr_cb_12 (.inl hg)
    rw [a5] at h4
    injection h4 with h4
    obtain ⟨g1, g2⟩ := g
    simp only at hg h4
    subst hg
    exact ⟨q, g2, L, a1, a2, a3, rfl, h4, hkp⟩
end
section
/-- where the bodies' statements start, as far as token i -/
def lo_S (K : Nat → Nat) (i : Nat) (bs : Nat → Int32) : Prop :=
  (∀ s b L, 1 ≤ s → s < i → gr_cf K s = some ((1, b) :: L, 0) → K s ≠ 3 → K s ≠ 4 → bs (gr_np K b) = nI s) ∧
  (∀ b L, gr_cf K i = some ((1, b) :: L, 0) → bs (gr_np K b) = nI i)
theorem lo_kb {K : Nat → Nat} {i t b e : Nat} {L : List (Nat × Nat)} (h1 : 1 ≤ i) (hc : gr_cf K i = some ((t, b) :: L, e)) (ht : t = 1 ∨ t = 2) : K b = 1 ∧ b < i := by
  have := (gr_kinds i _ _ h1 hc).1
  simp only at this
  exact ⟨by omega, (gr_sorted i _ _ h1 hc).1⟩
theorem lo_S_w {K : Nat → Nat} {n i b : Nat} {L : List (Nat × Nat)} {bs : Nat → Int32} (hn : gr_cf K n = some ([], 0)) (hi : i < n) (h : lo_S K i bs) (hc : gr_cf K (i + 1) = some ((1, b) :: L, 0)) :
    lo_S K (i + 1) (upd bs (gr_np K b) (nI (i + 1))) := by
  have hb := lo_kb (by omega) hc (.inl rfl)
  constructor
  · intro s b' L' h1 hs hcs k3 k4
    have hb' := lo_kb h1 hcs (.inl rfl)
    have hg := gr_dgone h1 hcs k3 k4 hs hc
    have hne : gr_np K b' ≠ gr_np K b := by
      intro e
      have := (gr_np_inj hn (by omega) (by omega) hb'.1 hb.1).mp e
      subst this
      exact hg (by simp)
    rw [lo_un hne]
    by_cases e : s = i
    · subst e; exact h.2 b' L' hcs
    · exact h.1 s b' L' h1 (by omega) hcs k3 k4
  · intro b' L' hc'
    rw [hc] at hc'
    injection hc' with hc'
    injection hc' with hc' _
    injection hc' with hc' _
    injection hc' with _ hc'
    subst hc'
    exact lo_us
theorem lo_S_n {K : Nat → Nat} {i : Nat} {bs : Nat → Int32} (h : lo_S K i bs) (hc : ∀ b L, gr_cf K (i + 1) ≠ some ((1, b) :: L, 0)) : lo_S K (i + 1) bs := by
  constructor
  · intro s b' L' h1 hs hcs k3 k4
    by_cases e : s = i
    · subst e; exact h.2 b' L' hcs
    · exact h.1 s b' L' h1 (by omega) hcs k3 k4
  · intro b' L' hc'; exact absurd hc' (hc b' L')
/-- the limits, of the bodies that are not unclosed around the present one -/
def lo_G (K : Nat → Nat) (n i : Nat) (L : List (Nat × Nat)) : Prop :=
  gr_np K i ≤ 15 ∧ ∀ k, k ≤ gr_np K i → k ∉ (lo_ob K L).tail → gr_dn K n k i ≤ 8 ∧ gr_pn K n k i ≤ 4
theorem lo_ob_t {K : Nat → Nat} {t t' p : Nat} {L : List (Nat × Nat)} (h : t' = t ∨ t = 1 ∧ t' = 2) : lo_ob K ((t', p) :: L) = lo_ob K ((t, p) :: L) := by
  rcases h with rfl | ⟨rfl, rfl⟩
  · rfl
  · simp [lo_ob]
theorem lo_ob_456 {K : Nat → Nat} {t p : Nat} {L : List (Nat × Nat)} (h : 4 ≤ t) : lo_ob K ((t, p) :: L) = lo_ob K L := by
  simp only [lo_ob]; rw [if_neg (by omega), if_neg (by omega)]
theorem lo_xb_456 {K : Nat → Nat} {t p : Nat} {L : List (Nat × Nat)} (h : 4 ≤ t) : gr_xb K ((t, p) :: L) = gr_xb K L := by
  simp only [gr_xb]; rw [if_neg (by omega), if_neg (by omega)]
theorem lo_ob_3 {K : Nat → Nat} {p : Nat} {L : List (Nat × Nat)} : lo_ob K ((3, p) :: L) = gr_np K (p + 1) :: lo_ob K L := by simp [lo_ob]
theorem lo_xb_3 {K : Nat → Nat} {p : Nat} {L : List (Nat × Nat)} : gr_xb K ((3, p) :: L) = gr_np K (p + 1) := by simp [gr_xb]
theorem lo_ob_12 {K : Nat → Nat} {t p : Nat} {L : List (Nat × Nat)} (h : t = 1 ∨ t = 2) : lo_ob K ((t, p) :: L) = gr_np K p :: lo_ob K L := by simp only [lo_ob]; rw [if_pos h]
theorem lo_xb_12 {K : Nat → Nat} {t p : Nat} {L : List (Nat × Nat)} (h : t = 1 ∨ t = 2) : gr_xb K ((t, p) :: L) = gr_np K p := by simp only [gr_xb]; rw [if_pos h]
/-- how one token moves the unclosed bodies: a body opens, closes, or stays -/
theorem lo_mv {K : Nat → Nat} {n i e e' : Nat} {L L' : List (Nat × Nat)} (hn : gr_cf K n = some ([], 0)) (h1 : 1 ≤ i) (hi : i < n) (hc : gr_cf K i = some (L, e)) (hc' : gr_cf K (i + 1) = some (L', e')) :
    (K i = 4 ∧ lo_ob K L' = gr_np K (i + 1) :: lo_ob K L ∧ gr_xb K L' = gr_np K (i + 1)) ∨
    (K i = 2 ∧ lo_ob K L = gr_xb K L :: lo_ob K L') ∨
    (K i ≠ 4 ∧ K i ≠ 2 ∧ lo_ob K L' = lo_ob K L ∧ gr_xb K L' = gr_xb K L) := by
  have hs : gr_st (K i) i (L, e) = some (L', e') := by rw [← gr_next hc]; exact hc'
  have hsh := gr_shape i _ _ h1 hc
  rcases gr_cases hs with ⟨L2, e2, e3, r1, r2, h3⟩ | ⟨t1, p1, L2, e3, r1, r2, h3⟩ | ⟨t1, p1, L2, u, e3, r1, r2, h3⟩ | ⟨t1, p1, L2, u, r1, r2, h3⟩ | ⟨t1, p1, L2, r1, r2, h3⟩
  · cases r1; cases r2
    refine .inr (.inr ⟨?_, ?_, rfl, rfl⟩) <;> (simp only [gr_c1] at h3; omega)
  · cases r1; cases r2
    refine .inr (.inr ⟨?_, ?_, lo_ob_t gr_n_t, gr_xb_t gr_n_t⟩) <;> (simp only [gr_c2] at h3; omega)
  · cases r1; cases r2
    rcases h3 with ⟨hk, ht, hu, _⟩ | ⟨hk, hS, hu, _⟩ | ⟨hk, hS, hu, _⟩
    · subst hu
      refine .inl ⟨hk, ?_, lo_xb_3⟩
      rw [lo_ob_3, lo_ob_t gr_n_t]
    · subst hu
      refine .inr (.inr ⟨by omega, by omega, ?_, ?_⟩)
      · rw [lo_ob_456 (by omega), lo_ob_t gr_n_t]
      · rw [lo_xb_456 (by omega), gr_xb_t gr_n_t]
    · subst hu
      refine .inr (.inr ⟨by omega, by omega, ?_, ?_⟩)
      · rw [lo_ob_456 (by omega), lo_ob_t gr_n_t]
      · rw [lo_xb_456 (by omega), gr_xb_t gr_n_t]
  · cases r1; cases r2
    rcases h3 with ⟨hk, ht, hu⟩ | ⟨hk, ht, hu⟩
    · have h0 : t1 ≠ 0 := by
        cases L2 with
        | nil => have := hsh.1; simp only at this; omega
        | cons g L3 => have := hsh.1; simp only [gr_S] at this; omega
      have ht3 : t1 = 3 := by omega
      subst ht3; subst hu
      have h5 := (gr_top3 i _ _ h1 hc p1 L2 rfl).1
      refine .inr (.inr ⟨by omega, by omega, ?_, ?_⟩)
      · rw [lo_ob_12 (.inl rfl), lo_ob_3, h5]
      · rw [lo_xb_12 (.inl rfl), lo_xb_3, h5]
    · subst hu; subst ht
      refine .inr (.inr ⟨by omega, by omega, ?_, ?_⟩)
      · rw [lo_ob_456 (by omega), lo_ob_456 (by omega)]
      · rw [lo_xb_456 (by omega), lo_xb_456 (by omega)]
  · cases r1; cases r2
    rcases h3 with ⟨hk, ht⟩ | ⟨hk, ht⟩ | ⟨hk, ht⟩
    · have h2 := @gr_n_t (K i) t1
      have ht : t1 = 1 ∨ t1 = 2 := by omega
      refine .inr (.inl ⟨hk, ?_⟩)
      rw [lo_ob_12 ht, lo_xb_12 ht]
    · refine .inr (.inr ⟨by omega, by omega, ?_, ?_⟩)
      · rw [lo_ob_456 (by omega)]
      · rw [lo_xb_456 (by omega)]
    · refine .inr (.inr ⟨by omega, by omega, ?_, ?_⟩)
      · rw [lo_ob_456 (by omega)]
      · rw [lo_xb_456 (by omega)]
theorem lo_G_s {K : Nat → Nat} {n i e e' : Nat} {L L' : List (Nat × Nat)} (hn : gr_cf K n = some ([], 0)) (h1 : 1 ≤ i) (hi : i < n) (hc : gr_cf K i = some (L, e)) (hc' : gr_cf K (i + 1) = some (L', e')) (h : lo_G K n i L)
    (hnp : gr_np K (i + 1) ≤ 15) (hd : gr_dn K n (gr_xb K L') (i + 1) ≤ 8 ∧ gr_pn K n (gr_xb K L') (i + 1) ≤ 4) : lo_G K n (i + 1) L' := by
  refine ⟨hnp, fun k hk hkt => ?_⟩
  by_cases hkx : k = gr_xb K L'
  · subst hkx; exact hd
  have hno : k ∉ lo_ob K L' := by
    rcases lo_hd (K := K) L' with ⟨a, _⟩ | ⟨M, a⟩
    · rw [a]; simp
    · rw [a] at hkt ⊢
      simp only [List.tail_cons] at hkt
      intro hm
      rcases List.mem_cons.mp hm with hm | hm
      · exact hkx hm
      · exact hkt hm
  have hx := (gr_xbo hn hi hc).1
  have hlx : lo_x K n i = gr_xb K L := hx
  rcases lo_mv hn h1 hi hc hc' with ⟨a1, a2, a3⟩ | ⟨a1, a2⟩ | ⟨a1, a2, a3, a4⟩
  · have hk2 : k ∉ lo_ob K L := fun hm => hno (by rw [a2]; exact List.mem_cons_of_mem _ hm)
    rw [gr_np_4 a1] at hk a3
    have hne : lo_x K n i ≠ k := by
      rw [hlx]
      rcases lo_hd (K := K) L with ⟨b, c⟩ | ⟨M, b⟩
      · intro e2
        have hsh := gr_shape i _ _ h1 hc
        have h3 : ∀ p L'', L ≠ (3, p) :: L'' := fun p L'' e3 => by
          have := (gr_k3 hn h1 hi hc).mpr ⟨p, L'', e3⟩
          omega
        obtain ⟨b2, hb2, _⟩ := gr_cb_some (K := K) hsh (gr_nn hn hi hc) h3
        have key : ∀ L : List (Nat × Nat), gr_cb L = some b2 → lo_ob K L ≠ [] := by
          intro L
          induction L with
          | nil => intro h; cases h
          | cons f L ih =>
            intro h
            simp only [gr_cb] at h
            simp only [lo_ob]
            by_cases t1 : f.1 = 1 ∨ f.1 = 2
            · rw [if_pos t1]; simp
            · rw [if_neg t1] at h ⊢
              by_cases t3 : f.1 = 3
              · rw [if_pos t3]; simp
              · rw [if_neg t3]; exact ih h
        exact key L hb2 b
      · intro e2
        exact hk2 (by rw [b, e2]; simp)
    rw [lo_dn_n (fun h => hne h.2), lo_pn_n (fun h => hne h.2)]
    refine h.2 k (by omega) (fun hm => hk2 ?_)
    exact List.mem_of_mem_tail hm
  · rw [gr_np_n (by omega)] at hk
    rw [lo_dn_n (fun h => by have := h.1; simp only [gr_D] at this; omega), lo_pn_n (fun h => by omega)]
    refine h.2 k hk ?_
    rw [a2]
    exact hno
  · rw [gr_np_n a1] at hk
    rw [a3] at hno
    have hne : ¬ (gr_D (K i) ∧ lo_x K n i = k) := by
      rintro ⟨_, e2⟩
      rw [hlx, ← a4] at e2
      exact hkx e2.symm
    have hne2 : ¬ ((K i = 5 ∨ K i = 6) ∧ lo_x K n i = k) := by
      rintro ⟨_, e2⟩
      rw [hlx, ← a4] at e2
      exact hkx e2.symm
    rw [lo_dn_n hne, lo_pn_n hne2]
    exact h.2 k hk (fun hm => hno (List.mem_of_mem_tail hm))
theorem lo_G_end {K : Nat → Nat} {n : Nat} (hn : gr_cf K n = some ([], 0)) (h : lo_G K n n []) : gr_LM K n := by
  refine ⟨h.1, fun b hb _ => h.2 _ (gr_np_mono (by omega)) ?_⟩
  simp [lo_ob]
/-- the present body has its BEGIN -/
theorem lo_xbeg {K : Nat → Nat} {n i e : Nat} {L : List (Nat × Nat)} (hn : gr_cf K n = some ([], 0)) (hi : i ≤ n) (hc : gr_cf K i = some (L, e)) : ∃ b, b < n ∧ K b = 1 ∧ gr_np K b = gr_xb K L := by
  by_cases e2 : i = n
  · subst e2
    rw [hn] at hc
    cases hc
    have := gr_k01 hn
    exact ⟨0, by omega, this.2, rfl⟩
  · have hx := gr_xbo hn (show i < n by omega) hc
    exact ⟨_, hx.2.2, hx.2.1, hx.1⟩
theorem lo_fail {K : Nat → Nat} {n i e : Nat} {L : List (Nat × Nat)} (hn : gr_cf K n = some ([], 0)) (hi : i ≤ n) (hc : gr_cf K i = some (L, e)) (h : ¬ (gr_dn K n (gr_xb K L) i ≤ 8 ∧ gr_pn K n (gr_xb K L) i ≤ 4)) : ¬ gr_LM K n := by
  intro hL
  obtain ⟨b, b1, b2, b3⟩ := lo_xbeg hn hi hc
  have := hL.2 b b1 b2
  rw [b3] at this
  have m := @lo_dn_mono K n (gr_xb K L) i n hi
  omega
/-- which tokens leave a body's declarations on top -/
theorem lo_top1 {K : Nat → Nat} {n i b : Nat} {L : List (Nat × Nat)} (hn : gr_cf K n = some ([], 0)) (h1 : 1 ≤ i) (hi : i < n) (hc' : gr_cf K (i + 1) = some ((1, b) :: L, 0)) : K i = 1 ∨ K i = 3 ∨ K i = 2 := by
  obtain ⟨c, hc, hs⟩ := gr_prev hc'
  rcases gr_cases hs with ⟨L2, e2, e3, r1, r2, h3⟩ | ⟨t1, p1, L2, e3, r1, r2, h3⟩ | ⟨t1, p1, L2, u, e3, r1, r2, h3⟩ | ⟨t1, p1, L2, u, r1, r2, h3⟩ | ⟨t1, p1, L2, r1, r2, h3⟩
  · subst r1
    injection r2 with r3 r4
    subst r3
    exfalso
    have key : ∀ i L e, 1 ≤ i → gr_cf K i = some (L, e) → ∀ b L', L = (1, b) :: L' → e = 0 := by
      refine gr_ind (fun i L e => ∀ b L', L = (1, b) :: L' → e = 0) ?_ ?_ ?_ ?_ ?_ ?_
      · intro _ _ _ _; rfl
      · intro i L e e' _ _ h _ b L' hL; have := h b L' hL; omega
      · intro i t p L e' _ _ _ hc b L' hL
        injection hL with hL _
        injection hL with hL _
        have := @gr_n_or (K i) t
        simp only [gr_c2, gr_S] at hc
        omega
      · intro i t p L u e' _ _ _ hc b L' hL
        injection hL with hL _
        injection hL with hL _
        simp only [gr_c3] at hc
        omega
      · intro i t p L u _ _ _ _ _ _ _; rfl
      · intro i t p L _ _ _ _ _ _ _; rfl
    have := key i _ _ h1 hc b L rfl
    omega
  · subst r1
    injection r2 with r3 r4
    injection r3 with r3 _
    injection r3 with r3 _
    have := @gr_n_or (K i) t1
    simp only [gr_c2, gr_S] at h3
    omega
  · injection r2 with r3 r4
    injection r3 with r3 _
    injection r3 with r3 _
    simp only [gr_c3] at h3
    omega
  · injection r2 with r3 r4
    injection r3 with r3 _
    injection r3 with r3 _
    simp only [gr_c4] at h3
    omega
  · subst r1
    injection r2 with r3 r4
    subst r3
    have hsh := gr_shape i _ _ h1 hc
    have := hsh.1
    have := @gr_n_or (K i) t1
    simp only [gr_c5, gr_S] at *
    omega
end
section
/-- the unclosed IFs and ELSEs -/
def lo_br : List (Nat × Nat) → List Nat
  | [] => []
  | f :: L => if f.1 = 4 ∨ f.1 = 5 then f.2 :: lo_br L else lo_br L
/-- an array holds a list as a stack -/
def lo_as (a : Nat → Int32) : List Nat → Prop
  | [] => True
  | p :: M => a M.length = nI p ∧ lo_as a M
theorem lo_as_u {a : Nat → Int32} {j : Nat} {v : Int32} : ∀ {M : List Nat}, lo_as a M → M.length ≤ j → lo_as (upd a j v) M := by
  intro M
  induction M with
  | nil => intro _ _; trivial
  | cons p M ih =>
    intro h hj
    simp only [List.length_cons] at hj
    exact ⟨by rw [lo_un (by omega)]; exact h.1, ih h.2 (by omega)⟩
theorem lo_br_t {t t' p : Nat} {L : List (Nat × Nat)} (h : t' = t ∨ t = 1 ∧ t' = 2) : lo_br ((t', p) :: L) = lo_br ((t, p) :: L) := by
  rcases h with rfl | ⟨rfl, rfl⟩
  · rfl
  · simp [lo_br]
theorem lo_br_45 {t p : Nat} {L : List (Nat × Nat)} (h : t = 4 ∨ t = 5) : lo_br ((t, p) :: L) = p :: lo_br L := by
  simp only [lo_br]; rw [if_pos h]
theorem lo_br_n {t p : Nat} {L : List (Nat × Nat)} (h : t ≠ 4) (h' : t ≠ 5) : lo_br ((t, p) :: L) = lo_br L := by
  simp only [lo_br]; rw [if_neg (by omega)]
theorem lo_br_le {L : List (Nat × Nat)} : (lo_br L).length ≤ L.length := by
  induction L with
  | nil => exact Nat.le_refl _
  | cons f L ih =>
    simp only [lo_br]
    split
    · simp only [List.length_cons]; omega
    · simp only [List.length_cons]; omega
/-- how one token moves them -/
theorem lo_brmv {K : Nat → Nat} {n i e e' : Nat} {L L' : List (Nat × Nat)} (hn : gr_cf K n = some ([], 0)) (h1 : 1 ≤ i) (hi : i < n) (hc : gr_cf K i = some (L, e)) (hc' : gr_cf K (i + 1) = some (L', e')) :
    (K i = 15 ∧ lo_br L' = i :: lo_br L) ∨
    (K i = 16 ∧ ∃ p L2, L = (4, p) :: L2 ∧ e = 0 ∧ lo_br L = p :: lo_br L2 ∧ lo_br L' = i :: lo_br L2) ∨
    (K i = 17 ∧ ∃ t p L2, (t = 4 ∨ t = 5) ∧ L = (t, p) :: L2 ∧ e = 0 ∧ lo_br L = p :: lo_br L2 ∧ lo_br L' = lo_br L2) ∨
    (K i ≠ 15 ∧ K i ≠ 16 ∧ K i ≠ 17 ∧ lo_br L' = lo_br L) := by
  have hs : gr_st (K i) i (L, e) = some (L', e') := by rw [← gr_next hc]; exact hc'
  have hsh := gr_shape i _ _ h1 hc
  rcases gr_cases hs with ⟨L2, e2, e3, r1, r2, h3⟩ | ⟨t1, p1, L2, e3, r1, r2, h3⟩ | ⟨t1, p1, L2, u, e3, r1, r2, h3⟩ | ⟨t1, p1, L2, u, r1, r2, h3⟩ | ⟨t1, p1, L2, r1, r2, h3⟩
  · cases r1; cases r2
    refine .inr (.inr (.inr ⟨?_, ?_, ?_, rfl⟩)) <;> (simp only [gr_c1] at h3; omega)
  · cases r1; cases r2
    refine .inr (.inr (.inr ⟨?_, ?_, ?_, lo_br_t gr_n_t⟩)) <;> (simp only [gr_c2] at h3; omega)
  · cases r1; cases r2
    rcases h3 with ⟨hk, ht, hu, _⟩ | ⟨hk, hS, hu, _⟩ | ⟨hk, hS, hu, _⟩
    · subst hu
      refine .inr (.inr (.inr ⟨by omega, by omega, by omega, ?_⟩))
      rw [lo_br_n (by omega) (by omega), lo_br_t gr_n_t]
    · subst hu
      refine .inr (.inr (.inr ⟨by omega, by omega, by omega, ?_⟩))
      rw [lo_br_n (by omega) (by omega), lo_br_t gr_n_t]
    · subst hu
      refine .inl ⟨hk, ?_⟩
      rw [lo_br_45 (.inl rfl), lo_br_t gr_n_t]
  · cases r1; cases r2
    rcases h3 with ⟨hk, ht, hu⟩ | ⟨hk, ht, hu⟩
    · subst hu
      refine .inr (.inr (.inr ⟨by omega, by omega, by omega, ?_⟩))
      rw [lo_br_n (by omega) (by omega), lo_br_n (by omega) (by omega)]
    · subst hu; subst ht
      refine .inr (.inl ⟨hk, p1, L2, rfl, rfl, lo_br_45 (.inl rfl), lo_br_45 (.inr rfl)⟩)
  · cases r1; cases r2
    rcases h3 with ⟨hk, ht⟩ | ⟨hk, ht⟩ | ⟨hk, ht⟩
    · have h2 := @gr_n_t (K i) t1
      refine .inr (.inr (.inr ⟨by omega, by omega, by omega, ?_⟩))
      rw [lo_br_n (by omega) (by omega)]
    · refine .inr (.inr (.inr ⟨by omega, by omega, by omega, ?_⟩))
      rw [lo_br_n (by omega) (by omega)]
    · exact .inr (.inr (.inl ⟨hk, t1, p1, _, ht, rfl, rfl, lo_br_45 ht, rfl⟩))
/-- the branches of the first i tokens -/
def lo_B (K : Nat → Nat) (i : Nat) (bt : Nat → Int32) : Prop := ∀ q t p L, 1 ≤ q → q < i → gr_cf K q = some ((t, p) :: L, 0) → (t = 4 ∨ t = 5) → (K q = 16 ∨ K q = 17) → bt p = nI (q + 1)
/-- the links of the first i tokens -/
def lo_L (K : Nat → Nat) (i : Nat) (lk : Nat → Int32) : Prop := ∀ q t p L, 1 ≤ q → q < i → gr_cf K q = some ((t, p) :: L, 0) → gr_cl (K q) t → lk p = nI q
theorem lo_clo {K : Nat → Nat} {n q t p : Nat} {L : List (Nat × Nat)} (hn : gr_cf K n = some ([], 0)) (hq : q < n) (hc : gr_cf K q = some ((t, p) :: L, 0)) (ht : t = 4 ∨ t = 5) (hk : K q = 16 ∨ K q = 17) : gr_cl (K q) t := by
  obtain ⟨c1, hc1, hs⟩ := gr_step hn hq hc
  have h2 := @gr_n_t (K q) t
  rcases gr_cases hs with ⟨L2, e2, e3, r1, r2, h3⟩ | ⟨t1, p1, L2, e3, r1, r2, h3⟩ | ⟨t1, p1, L2, u, e3, r1, r2, h3⟩ | ⟨t1, p1, L2, u, r1, r2, h3⟩ | ⟨t1, p1, L2, r1, r2, h3⟩
  · cases r1
  · cases r1; simp only [gr_c2] at h3; omega
  · cases r1; simp only [gr_c3] at h3; omega
  · cases r1; simp only [gr_c4] at h3; exact .inr (.inl (by omega))
  · cases r1; exact .inr (.inr h3)
theorem lo_B_w {K : Nat → Nat} {n i t p : Nat} {L : List (Nat × Nat)} {bt : Nat → Int32} (hn : gr_cf K n = some ([], 0)) (h : lo_B K i bt) (hi : i < n) (hc : gr_cf K i = some ((t, p) :: L, 0)) : lo_B K (i + 1) (upd bt p (nI (i + 1))) := by
  intro q t' p' L' h1 hq hcq ht hk
  by_cases e : q = i
  · subst e
    rw [hc] at hcq
    injection hcq with hcq
    injection hcq with hcq _
    injection hcq with hcq _
    injection hcq with _ hcq
    subst hcq
    exact lo_us
  · have hg := gr_gone h1 hcq (lo_clo hn (by omega) hcq ht hk) (show q < i by omega) hc (t, p) (by simp)
    rw [lo_un (Ne.symm hg)]
    exact h q t' p' L' h1 (by omega) hcq ht hk
theorem lo_B_n {K : Nat → Nat} {i : Nat} {bt : Nat → Int32} (h : lo_B K i bt) (hk : K i ≠ 16 ∧ K i ≠ 17) : lo_B K (i + 1) bt := by
  intro q t' p' L' h1 hq hcq ht hk'
  by_cases e : q = i
  · subst e; omega
  · exact h q t' p' L' h1 (by omega) hcq ht hk'
theorem lo_L_w {K : Nat → Nat} {i t p : Nat} {L : List (Nat × Nat)} {lk : Nat → Int32} (h : lo_L K i lk) (hc : gr_cf K i = some ((t, p) :: L, 0)) : lo_L K (i + 1) (upd lk p (nI i)) := by
  intro q t' p' L' h1 hq hcq hk
  by_cases e : q = i
  · subst e
    rw [hc] at hcq
    injection hcq with hcq
    injection hcq with hcq _
    injection hcq with hcq _
    injection hcq with _ hcq
    subst hcq
    exact lo_us
  · have hg := gr_gone h1 hcq hk (show q < i by omega) hc (t, p) (by simp)
    rw [lo_un (Ne.symm hg)]
    exact h q t' p' L' h1 (by omega) hcq hk
theorem lo_L_n {K : Nat → Nat} {i : Nat} {lk : Nat → Int32} (h : lo_L K i lk) (hk : ∀ t p L, gr_cf K i = some ((t, p) :: L, 0) → ¬ gr_cl (K i) t) : lo_L K (i + 1) lk := by
  intro q t' p' L' h1 hq hcq hk'
  by_cases e : q = i
  · subst e; exact absurd hk' (hk t' p' L' hcq)
  · exact h q t' p' L' h1 (by omega) hcq hk'
theorem lo_L_x {K : Nat → Nat} {i j : Nat} {lk : Nat → Int32} (h : lo_L K i lk) (hx : ∀ q, i ≤ q → q < j → ∃ L m, gr_cf K q = some (L, m + 1)) : lo_L K j lk := by
  intro q t' p' L' h1 hq hcq hk'
  by_cases e : q < i
  · exact h q t' p' L' h1 e hcq hk'
  · obtain ⟨L, m, hm⟩ := hx q (by omega) hq
    rw [hm] at hcq
    injection hcq with hcq
    injection hcq with _ hcq
    omega
/-- what the parse itself writes of the bodies -/
def yb_v (K : Nat → Nat) (j : Nat) : Int32 := if K j = 1 then nI j else match gr_cf K j with
  | some (L, 0) => nI ((gr_cb L).getD 0)
  | _ => -1
/-- with the expressions' tokens filled in -/
def yb_w (K : Nat → Nat) (j : Nat) : Nat := if K j = 1 then j else match gr_cf K j with
  | some c => (gr_cb c.1).getD 0
  | none => 0
/-- a parent as the reference keeps it -/
def yb_p : Option Nat → Int32
  | some b => nI b
  | none => -1
theorem yb_x {K : Nat → Nat} {n j m : Nat} {L : List (Nat × Nat)} (hn : gr_cf K n = some ([], 0)) (hj : j + 1 < n) (hc : gr_cf K (j + 1) = some (L, m + 1)) : yb_w K (j + 1) = yb_w K j ∧ yb_v K (j + 1) = -1 := by
  obtain ⟨c2, hc2, hs2⟩ := gr_step hn hj hc
  have hk2 : K (j + 1) ≠ 1 := by
    rcases gr_cases hs2 with ⟨L2, e2, e3, r1, r2, h3⟩ | ⟨t1, p1, L2, e3, r1, r2, h3⟩ | ⟨t1, p1, L2, u, e3, r1, r2, h3⟩ | ⟨t1, p1, L2, u, r1, r2, h3⟩ | ⟨t1, p1, L2, r1, r2, h3⟩
    · simp only [gr_c1] at h3; omega
    · cases r1
    · cases r1
    · cases r1
    · cases r1
  have hv : yb_v K (j + 1) = -1 := by
    unfold yb_v
    rw [if_neg hk2, hc]
    rfl
  refine ⟨?_, hv⟩
  have hw : yb_w K (j + 1) = (gr_cb L).getD 0 := by
    unfold yb_w
    rw [if_neg hk2, hc]
  rw [hw]
  obtain ⟨c, hc0, hs⟩ := gr_prev hc
  unfold yb_w
  rcases gr_cases hs with ⟨L2, e2, e3, r1, r2, h3⟩ | ⟨t1, p1, L2, e3, r1, r2, h3⟩ | ⟨t1, p1, L2, u, e3, r1, r2, h3⟩ | ⟨t1, p1, L2, u, r1, r2, h3⟩ | ⟨t1, p1, L2, r1, r2, h3⟩
  · subst r1; cases r2
    rw [if_neg (by simp only [gr_c1] at h3; omega), hc0]
  · subst r1; cases r2
    rw [if_neg (by simp only [gr_c2] at h3; omega), hc0]
    simp only
    rw [gr_cb_t gr_n_t]
  · subst r1; cases r2
    have hu : u = 4 ∧ K j = 15 := by simp only [gr_c3] at h3; omega
    obtain ⟨rfl, hk⟩ := hu
    rw [if_neg (by omega), hc0]
    simp only
    rw [gr_cb_456 (by omega), gr_cb_t gr_n_t]
  · cases r2
  · cases r2
theorem yb_h {K : Nat → Nat} {j : Nat} {L : List (Nat × Nat)} (hc : gr_cf K j = some (L, 0)) : yb_v K j = nI (yb_w K j) := by
  unfold yb_v yb_w
  by_cases h : K j = 1
  · rw [if_pos h, if_pos h]
  · rw [if_neg h, if_neg h, hc]
    rfl
theorem yb_bo {K : Nat → Nat} {n j : Nat} (hj : j < n) (h5 : K j ≠ 5) (h6 : K j ≠ 6) : gr_bo K n j = yb_w K j := by
  unfold gr_bo yb_w
  rw [show n - j = (n - j - 1) + 1 by omega]
  simp only [gr_bf]
  rw [if_neg (by omega)]
  all_goals
    by_cases h : K j = 1
    · rw [if_pos h, if_pos h]
    · rw [if_neg h, if_neg h]
      cases gr_cf K j <;> rfl
theorem yb_w_lt {K : Nat → Nat} {n j : Nat} (hn : gr_cf K n = some ([], 0)) (hj : j < n) : yb_w K j < n := by
  by_cases hk : K j = 5 ∨ K j = 6
  · obtain ⟨L, e, hc⟩ := gr_exle hn (Nat.le_of_lt hj)
    have h1 : 1 ≤ j := by
      have := (gr_k01 hn).2
      by_cases e : j = 0
      · subst e; omega
      · omega
    have hso := gr_sorted j _ _ h1 hc
    unfold yb_w
    rw [if_neg (by omega), hc]
    simp only
    have key : ∀ (L : List (Nat × Nat)) (i : Nat), gr_so i L → i < n → (gr_cb L).getD 0 < n := by
      intro L
      induction L with
      | nil => intro i _ hi; simp [gr_cb]; omega
      | cons f L ih =>
        intro i h hi
        simp only [gr_cb]
        split
        · have := h.1
          simp only [Option.getD_some]
          omega
        · exact ih f.2 h.2 (Nat.lt_trans h.1 hi)
    exact key L j hso hj
  · rw [← yb_bo hj (by omega) (by omega)]
    obtain ⟨L, e, hc⟩ := gr_exle hn (Nat.le_of_lt hj)
    exact (gr_xbo hn hj hc).2.2
/-- the end of an expression by counting -/
def ye_e (K : Nat → Nat) : Nat → Nat → Nat → Option Nat
  | _, j, 0 => some j
  | 0, _, _ + 1 => none
  | f + 1, j, m + 1 => if K j = 18 ∨ K j = 19 then ye_e K f (j + 1) m else if 20 ≤ K j ∧ K j ≤ 26 then ye_e K f (j + 1) (m + 2) else none
theorem ye_0 {K : Nat → Nat} {f j : Nat} : ye_e K f j 0 = some j := by
  cases f <;> rfl
theorem ye_s {K : Nat → Nat} : ∀ (f j m : Nat) (L : List (Nat × Nat)) (e : Nat), gr_cf K j = some (L, m) → ye_e K f j m = some e →
    j ≤ e ∧ e ≤ j + f ∧ gr_cf K e = some (L, 0) ∧ ∀ q, j ≤ q → q < e → 18 ≤ K q ∧ ∃ m', gr_cf K q = some (L, m' + 1) := by
  intro f
  induction f with
  | zero =>
    intro j m L e hc h
    cases m with
    | zero => rw [ye_0] at h; injection h with h; subst h; exact ⟨Nat.le_refl _, Nat.le_refl _, hc, fun q h1 h2 => by omega⟩
    | succ m => simp [ye_e] at h
  | succ f ih =>
    intro j m L e hc h
    cases m with
    | zero => rw [ye_0] at h; injection h with h; subst h; exact ⟨Nat.le_refl _, by omega, hc, fun q h1 h2 => by omega⟩
    | succ m =>
      simp only [ye_e] at h
      have hs := gr_next hc
      simp only [gr_st] at hs
      by_cases k1 : K j = 18 ∨ K j = 19
      · rw [if_pos k1] at h hs
        obtain ⟨a, b, c, d⟩ := ih (j + 1) m L e hs h
        refine ⟨by omega, by omega, c, fun q h1 h2 => ?_⟩
        by_cases eq : q = j
        · subst eq; exact ⟨by omega, m, hc⟩
        · exact d q (by omega) h2
      · rw [if_neg k1] at h hs
        by_cases k2 : 20 ≤ K j ∧ K j ≤ 26
        · rw [if_pos k2] at h hs
          obtain ⟨a, b, c, d⟩ := ih (j + 1) (m + 2) L e hs h
          refine ⟨by omega, by omega, c, fun q h1 h2 => ?_⟩
          by_cases eq : q = j
          · subst eq; exact ⟨by omega, m, hc⟩
          · exact d q (by omega) h2
        · rw [if_neg k2] at h; cases h
theorem ye_n {K : Nat → Nat} {n : Nat} : ∀ (f j m : Nat) (L : List (Nat × Nat)), j + f = n → gr_cf K j = some (L, m) → ye_e K f j m = none → gr_cf K n ≠ some ([], 0) := by
  intro f
  induction f with
  | zero =>
    intro j m L hj hc h hn
    cases m with
    | zero => rw [ye_0] at h; cases h
    | succ m =>
      have : j = n := by omega
      subst this; rw [hc] at hn; simp at hn
  | succ f ih =>
    intro j m L hj hc h hn
    cases m with
    | zero => rw [ye_0] at h; cases h
    | succ m =>
      simp only [ye_e] at h
      have hs := gr_next hc
      simp only [gr_st] at hs
      by_cases k1 : K j = 18 ∨ K j = 19
      · rw [if_pos k1] at h hs
        exact ih (j + 1) m L (by omega) hs h hn
      · rw [if_neg k1] at h hs
        by_cases k2 : 20 ≤ K j ∧ K j ≤ 26
        · rw [if_pos k2] at h hs
          exact ih (j + 1) (m + 2) L (by omega) hs h hn
        · rw [if_neg k2] at hs
          obtain ⟨L2, e2, h2⟩ := gr_exle hn (show j + 1 ≤ n by omega)
          rw [hs] at h2; cases h2
/-- both ends agree -/
theorem ye_ev {K : Nat → Nat} {n j e : Nat} {L : List (Nat × Nat)} (hn : gr_cf K n = some ([], 0)) (hj : j ≤ n) (hc : gr_cf K j = some (L, 1)) (he : gr_cf K e = some (L, 0)) (hje : j < e) (hen : e ≤ n) (hq : ∀ i, j ≤ i → i < e → ∃ m', gr_cf K i = some (L, m' + 1)) : ye_e K (n - j) j 1 = some e := by
  cases h : ye_e K (n - j) j 1 with
  | none => exact absurd hn (ye_n (n - j) j 1 L (by omega) hc h)
  | some e' =>
    obtain ⟨a, b, c, d⟩ := ye_s (n - j) j 1 L e' hc h
    have : e' = e := by
      by_cases h1 : e < e'
      · obtain ⟨_, m', h2⟩ := d e (by omega) h1
        rw [he] at h2; simp at h2
      · by_cases h2 : e' < e
        · obtain ⟨m', h3⟩ := hq e' a h2
          rw [c] at h3; simp at h3
        · omega
    rw [this]
end
section
/-- the component's wants of the frames -/
def xs_w (t : Nat) : Nat := if t = 0 then 1 else if t = 1 then 3 else if t = 2 then 4 else if t = 3 then 2 else t + 1
def xs_ws (L : List (Nat × Nat)) : Nat → List Nat
  | 0 => L.map (fun f => xs_w f.1)
  | e + 1 => 8 :: xs_ws L e
theorem xs_len {L : List (Nat × Nat)} : ∀ e, (xs_ws L e).length = L.length + e := by
  intro e
  induction e with
  | zero => simp [xs_ws]
  | succ e ih => simp only [xs_ws, List.length_cons, ih]; omega
def xs_n (k w : Nat) : Nat := if w = 3 ∧ k ≠ 3 ∧ k ≠ 4 then 4 else w
def xs_fit (k w : Nat) : Prop := if k = 1 then w = 1 ∨ w = 2 else if k = 3 ∨ k = 4 then w = 3 else if k = 5 ∨ k = 6 then w = 2 else if k = 10 ∨ k = 2 then w = 4
  else if k = 7 ∨ k = 8 ∨ k = 9 ∨ k = 11 ∨ k = 15 then w = 4 ∨ w = 5 ∨ w = 6 else if k = 16 then w = 5 else if k = 17 then w = 5 ∨ w = 6 else if k = 12 ∨ k = 13 ∨ k = 14 then w = 7 else w = 8
def xs_tk (k w : Nat) (M : List Nat) : List Nat := if k = 1 then 3 :: M else if k = 16 then 6 :: M else if k = 2 ∨ k = 17 ∨ k = 14 ∨ k = 18 ∨ k = 19 then M
  else if k = 4 then 2 :: w :: M else if k = 11 then 7 :: w :: M else if k = 15 then 8 :: 5 :: w :: M else if k = 3 ∨ k = 5 ∨ k = 6 ∨ k = 9 ∨ k = 10 ∨ k = 13 then w :: M else 8 :: w :: M
theorem xs_26 {k : Nat} (h1 : 1 ≤ k) (h2 : k ≤ 26) : k = 1 ∨ k = 2 ∨ k = 3 ∨ k = 4 ∨ k = 5 ∨ k = 6 ∨ k = 7 ∨ k = 8 ∨ k = 9 ∨ k = 10 ∨ k = 11 ∨ k = 12 ∨ k = 13 ∨ k = 14 ∨ k = 15 ∨ k = 16 ∨ k = 17 ∨ k = 18 ∨ k = 19 ∨ k = 20 ∨ k = 21 ∨ k = 22 ∨ k = 23 ∨ k = 24 ∨ k = 25 ∨ k = 26 := by omega
/-- the component's step is the pushdown's -/
def xs_ok (k i w : Nat) (M : List Nat) (c : List (Nat × Nat) × Nat) : Prop :=
  (xs_fit k (xs_n k w) ∧ ∃ L' e', gr_st k i c = some (L', e') ∧ xs_ws L' e' = xs_tk k (xs_n k w) M) ∨ (¬ xs_fit k (xs_n k w) ∧ gr_st k i c = none)
theorem xs_e {k i e : Nat} {L : List (Nat × Nat)} (h1 : 1 ≤ k) (h2 : k ≤ 26) : xs_ok k i 8 (xs_ws L e) (L, e + 1) := by
  rcases xs_26 h1 h2 with h | h | h | h | h | h | h | h | h | h | h | h | h | h | h | h | h | h | h | h | h | h | h | h | h | h <;> subst h <;> simp [xs_ok, xs_fit, xs_n, gr_st, xs_ws, xs_tk]
theorem xs_t0 {k i p : Nat} {L : List (Nat × Nat)} (h1 : 1 ≤ k) (h2 : k ≤ 26) : xs_ok k i 1 (L.map (fun f => xs_w f.1)) ((0, p) :: L, 0) := by
  rcases xs_26 h1 h2 with h | h | h | h | h | h | h | h | h | h | h | h | h | h | h | h | h | h | h | h | h | h | h | h | h | h <;> subst h <;> simp [xs_ok, xs_fit, xs_n, gr_st, gr_n, gr_S, xs_ws, xs_tk, xs_w]
theorem xs_t1 {k i p : Nat} {L : List (Nat × Nat)} (h1 : 1 ≤ k) (h2 : k ≤ 26) : xs_ok k i 3 (L.map (fun f => xs_w f.1)) ((1, p) :: L, 0) := by
  rcases xs_26 h1 h2 with h | h | h | h | h | h | h | h | h | h | h | h | h | h | h | h | h | h | h | h | h | h | h | h | h | h <;> subst h <;> simp [xs_ok, xs_fit, xs_n, gr_st, gr_n, gr_S, xs_ws, xs_tk, xs_w]
theorem xs_t2 {k i p : Nat} {L : List (Nat × Nat)} (h1 : 1 ≤ k) (h2 : k ≤ 26) : xs_ok k i 4 (L.map (fun f => xs_w f.1)) ((2, p) :: L, 0) := by
  rcases xs_26 h1 h2 with h | h | h | h | h | h | h | h | h | h | h | h | h | h | h | h | h | h | h | h | h | h | h | h | h | h <;> subst h <;> simp [xs_ok, xs_fit, xs_n, gr_st, gr_n, gr_S, xs_ws, xs_tk, xs_w]
theorem xs_t3 {k i p : Nat} {L : List (Nat × Nat)} (h1 : 1 ≤ k) (h2 : k ≤ 26) : xs_ok k i 2 (L.map (fun f => xs_w f.1)) ((3, p) :: L, 0) := by
  rcases xs_26 h1 h2 with h | h | h | h | h | h | h | h | h | h | h | h | h | h | h | h | h | h | h | h | h | h | h | h | h | h <;> subst h <;> simp [xs_ok, xs_fit, xs_n, gr_st, gr_n, gr_S, xs_ws, xs_tk, xs_w]
theorem xs_t4 {k i p : Nat} {L : List (Nat × Nat)} (h1 : 1 ≤ k) (h2 : k ≤ 26) : xs_ok k i 5 (L.map (fun f => xs_w f.1)) ((4, p) :: L, 0) := by
  rcases xs_26 h1 h2 with h | h | h | h | h | h | h | h | h | h | h | h | h | h | h | h | h | h | h | h | h | h | h | h | h | h <;> subst h <;> simp [xs_ok, xs_fit, xs_n, gr_st, gr_n, gr_S, xs_ws, xs_tk, xs_w]
theorem xs_t5 {k i p : Nat} {L : List (Nat × Nat)} (h1 : 1 ≤ k) (h2 : k ≤ 26) : xs_ok k i 6 (L.map (fun f => xs_w f.1)) ((5, p) :: L, 0) := by
  rcases xs_26 h1 h2 with h | h | h | h | h | h | h | h | h | h | h | h | h | h | h | h | h | h | h | h | h | h | h | h | h | h <;> subst h <;> simp [xs_ok, xs_fit, xs_n, gr_st, gr_n, gr_S, xs_ws, xs_tk, xs_w]
theorem xs_t6 {k i p : Nat} {L : List (Nat × Nat)} (h1 : 1 ≤ k) (h2 : k ≤ 26) : xs_ok k i 7 (L.map (fun f => xs_w f.1)) ((6, p) :: L, 0) := by
  rcases xs_26 h1 h2 with h | h | h | h | h | h | h | h | h | h | h | h | h | h | h | h | h | h | h | h | h | h | h | h | h | h <;> subst h <;> simp [xs_ok, xs_fit, xs_n, gr_st, gr_n, gr_S, xs_ws, xs_tk, xs_w]
theorem xs_ty {K : Nat → Nat} {i e : Nat} {t p : Nat} {L : List (Nat × Nat)} (hc : gr_cf K i = some ((t, p) :: L, e)) : t ≤ 6 := by
  by_cases h0 : i = 0
  · subst h0
    simp only [gr_cf, Option.some.injEq, Prod.mk.injEq, List.cons.injEq] at hc
    omega
  · have := (gr_kinds i _ _ (by omega) hc).1
    simp only at this
    omega
/-- one token of the component's stack -/
theorem xs_step {K : Nat → Nat} {i e : Nat} {L : List (Nat × Nat)} (hc : gr_cf K i = some (L, e)) (h1 : 1 ≤ K i) (h2 : K i ≤ 26) :
    (xs_ws L e = [] ∧ gr_cf K (i + 1) = none) ∨ ∃ w M, xs_ws L e = w :: M ∧ w ≤ 8 ∧ ((xs_fit (K i) (xs_n (K i) w) ∧ ∃ L' e', gr_cf K (i + 1) = some (L', e') ∧ xs_ws L' e' = xs_tk (K i) (xs_n (K i) w) M) ∨ (¬ xs_fit (K i) (xs_n (K i) w) ∧ gr_cf K (i + 1) = none)) := by
  rw [gr_next hc]
  cases e with
  | succ e => exact .inr ⟨8, xs_ws L e, rfl, by omega, xs_e h1 h2⟩
  | zero =>
    cases L with
    | nil => exact .inl ⟨rfl, rfl⟩
    | cons f L =>
      obtain ⟨t, p⟩ := f
      have ht := xs_ty hc
      have ht : t = 0 ∨ t = 1 ∨ t = 2 ∨ t = 3 ∨ t = 4 ∨ t = 5 ∨ t = 6 := by omega
      right
      rcases ht with rfl | rfl | rfl | rfl | rfl | rfl | rfl
      · exact ⟨1, _, rfl, by omega, xs_t0 h1 h2⟩
      · exact ⟨3, _, rfl, by omega, xs_t1 h1 h2⟩
      · exact ⟨4, _, rfl, by omega, xs_t2 h1 h2⟩
      · exact ⟨2, _, rfl, by omega, xs_t3 h1 h2⟩
      · exact ⟨5, _, rfl, by omega, xs_t4 h1 h2⟩
      · exact ⟨6, _, rfl, by omega, xs_t5 h1 h2⟩
      · exact ⟨7, _, rfl, by omega, xs_t6 h1 h2⟩
end
section
theorem li_e {k c : Nat} (hk : k < 2147483648) (hc : c < 2147483648) : (nI k = (OfNat.ofNat c : Int32)) ↔ k = OfNat.ofNat c := nI_eq hk hc
theorem li_lt {k c : Nat} (hk : k < 2147483648) (hc : c < 2147483648) : (nI k < (OfNat.ofNat c : Int32)) ↔ k < OfNat.ofNat c := nI_ltI hk hc
theorem li_gt {k c : Nat} (hk : k < 2147483648) (hc : c < 2147483648) : ((OfNat.ofNat c : Int32) < nI k) ↔ OfNat.ofNat c < k := nI_ltI hc hk
theorem li_le {k c : Nat} (hk : k < 2147483648) (hc : c < 2147483648) : (nI k ≤ (OfNat.ofNat c : Int32)) ↔ k ≤ OfNat.ofNat c := nI_leI hk hc
theorem li_ge {k c : Nat} (hk : k < 2147483648) (hc : c < 2147483648) : ((OfNat.ofNat c : Int32) ≤ nI k) ↔ OfNat.ofNat c ≤ k := nI_leI hc hk
theorem li_sub {a b : Nat} (h : b ≤ a) : nI a - nI b = nI (a - b) := by
  obtain ⟨c, rfl⟩ := Nat.exists_eq_add_of_le h
  rw [← nI_add, show b + c - b = c by omega]
  grind
theorem li_m1 {a : Nat} (h : 1 ≤ a) : nI a - 1 = nI (a - 1) := li_sub h
theorem li_d1 {a : Nat} (h : 1 ≤ a) : nI a + (-1) = nI (a - 1) := by
  rw [← li_m1 h]; grind
theorem li_mul (a b : Nat) : nI a * nI b = nI (a * b) := (Int32.ofNat_mul a b).symm
theorem li_m16 (a : Nat) : nI a * 16 = nI (a * 16) := li_mul a 16
theorem li_m4 (a : Nat) : nI a * 4 = nI (a * 4) := li_mul a 4
theorem li_0 (a : Nat) (h : a = 0) : nI a = 0 := by rw [h]; rfl
variable {f_depthLimit f_state f_trapCode f_begun f_tokenTotal f_printedTotal f_stackSize f_bodyCount f_declaredTwice f_liveDepth f_position : Int32} {a_tokenKind a_tokenValue a_printed a_stack a_bodyParent a_bodyStart a_declCount a_paramCount a_paramName a_declKind a_declTarget a_tokenBody a_branchTarget a_liveBody a_liveParent a_returnTo a_slotValue a_slotHome a_waitingOp a_waitingLeft a_leftKnown a_argKind a_argValue a_argHome : Nat → Int32}
theorem xc_push {post : St2 → Prop} {e : Int32} {s : Nat} (hs : s < 513) (h : post (f_depthLimit, f_state, f_trapCode, f_begun, f_tokenTotal, f_printedTotal, nI (s + 1), f_bodyCount, f_declaredTwice, f_liveDepth, f_position, a_tokenKind, a_tokenValue, a_printed, upd a_stack s e, a_bodyParent, a_bodyStart, a_declCount, a_paramCount, a_paramName, a_declKind, a_declTarget, a_tokenBody, a_branchTarget, a_liveBody, a_liveParent, a_returnTo, a_slotValue, a_slotHome, a_waitingOp, a_waitingLeft, a_leftKnown, a_argKind, a_argValue, a_argHome)) : wpX_push post (f_depthLimit, f_state, f_trapCode, f_begun, f_tokenTotal, f_printedTotal, nI s, f_bodyCount, f_declaredTwice, f_liveDepth, f_position, a_tokenKind, a_tokenValue, a_printed, a_stack, a_bodyParent, a_bodyStart, a_declCount, a_paramCount, a_paramName, a_declKind, a_declTarget, a_tokenBody, a_branchTarget, a_liveBody, a_liveParent, a_returnTo, a_slotValue, a_slotHome, a_waitingOp, a_waitingLeft, a_leftKnown, a_argKind, a_argValue, a_argHome) e := by
  unfold wpX_push
  refine br_f (nI_ge (b := 513) hs (by decide)) ⟨vp_in_nI hs (by decide), ?_⟩
  rw [nI_clamp (by omega), nI_1]
  exact nm_e (nm_e h)
theorem xc_fits {post : Int32 → Prop} {k w : Nat} (h1 : 1 ≤ k) (h2 : k ≤ 26) (hw : w ≤ 8) (ht : xs_fit k w → post 1) (hf : ¬ xs_fit k w → post 0) : wpX_fits post () (nI k) (nI w) := by
  have one : ∀ c : Nat, c < 9 → (xs_fit k w ↔ w = c) → (nI w = nI c → post 1) ∧ (¬ nI w = nI c → post 0) := by
    intro c hc e
    by_cases h : w = c
    · exact br_t (by rw [h]) (ht (e.mpr h))
    · exact br_f (fun h2 => h ((nI_eq (by omega) (by omega)).mp h2)) (hf (fun h2 => h (e.mp h2)))
  have two : ∀ c d : Nat, c < 9 → d < 9 → (xs_fit k w ↔ w = c ∨ w = d) → (nI w = nI c → post 1) ∧ (¬ nI w = nI c → (nI w = nI d → post 1) ∧ (¬ nI w = nI d → post 0)) := by
    intro c d hc hd e
    by_cases h : w = c
    · exact br_t (by rw [h]) (ht (e.mpr (.inl h)))
    · refine br_f (fun h2 => h ((nI_eq (by omega) (by omega)).mp h2)) ?_
      by_cases h3 : w = d
      · exact br_t (by rw [h3]) (ht (e.mpr (.inr h3)))
      · exact br_f (fun h2 => h3 ((nI_eq (by omega) (by omega)).mp h2)) (hf (fun h2 => by have := e.mp h2; omega))
  have thr : ∀ c d g : Nat, c < 9 → d < 9 → g < 9 → (xs_fit k w ↔ w = c ∨ w = d ∨ w = g) → (nI w = nI c → post 1) ∧ (¬ nI w = nI c → (nI w = nI d → post 1) ∧ (¬ nI w = nI d → (nI w = nI g → post 1) ∧ (¬ nI w = nI g → post 0))) := by
    intro c d g hc hd hg e
    by_cases h : w = c
    · exact br_t (by rw [h]) (ht (e.mpr (.inl h)))
    · refine br_f (fun h2 => h ((nI_eq (by omega) (by omega)).mp h2)) ?_
      by_cases h3 : w = d
      · exact br_t (by rw [h3]) (ht (e.mpr (.inr (.inl h3))))
      · refine br_f (fun h2 => h3 ((nI_eq (by omega) (by omega)).mp h2)) ?_
        by_cases h4 : w = g
        · exact br_t (by rw [h4]) (ht (e.mpr (.inr (.inr h4))))
        · exact br_f (fun h2 => h4 ((nI_eq (by omega) (by omega)).mp h2)) (hf (fun h2 => by have := e.mp h2; omega))
  unfold wpX_fits
  rcases xs_26 h1 h2 with h | h | h | h | h | h | h | h | h | h | h | h | h | h | h | h | h | h | h | h | h | h | h | h | h | h <;> subst h
  · exact br_f (by decide) (br_f (by decide) (br_t rfl (two 1 2 (by decide) (by decide) (by simp [xs_fit]))))
  · exact br_f (by decide) (br_f (by decide) (br_f (by decide) (br_t rfl (one 4 (by decide) (by simp [xs_fit])))))
  · exact br_f (by decide) (br_f (by decide) (br_f (by decide) (br_f (by decide) (br_t rfl (one 3 (by decide) (by simp [xs_fit]))))))
  · exact br_f (by decide) (br_f (by decide) (br_f (by decide) (br_f (by decide) (br_f (by decide) (br_t rfl (one 3 (by decide) (by simp [xs_fit])))))))
  · exact br_f (by decide) (br_f (by decide) (br_f (by decide) (br_f (by decide) (br_f (by decide) (br_f (by decide) (br_t rfl (one 2 (by decide) (by simp [xs_fit]))))))))
  · exact br_f (by decide) (br_f (by decide) (br_f (by decide) (br_f (by decide) (br_f (by decide) (br_f (by decide) (br_f (by decide) (br_t rfl (one 2 (by decide) (by simp [xs_fit])))))))))
  · exact br_f (by decide) (br_f (by decide) (br_f (by decide) (br_f (by decide) (br_f (by decide) (br_f (by decide) (br_f (by decide) (br_f (by decide) (br_t rfl (thr 4 5 6 (by decide) (by decide) (by decide) (by simp [xs_fit]))))))))))
  · exact br_f (by decide) (br_f (by decide) (br_f (by decide) (br_f (by decide) (br_f (by decide) (br_f (by decide) (br_f (by decide) (br_f (by decide) (br_f (by decide) (br_t rfl (thr 4 5 6 (by decide) (by decide) (by decide) (by simp [xs_fit])))))))))))
  · exact br_f (by decide) (br_f (by decide) (br_f (by decide) (br_f (by decide) (br_f (by decide) (br_f (by decide) (br_f (by decide) (br_f (by decide) (br_f (by decide) (br_f (by decide) (br_t rfl (thr 4 5 6 (by decide) (by decide) (by decide) (by simp [xs_fit]))))))))))))
  · exact br_f (by decide) (br_f (by decide) (br_f (by decide) (br_f (by decide) (br_f (by decide) (br_f (by decide) (br_f (by decide) (br_f (by decide) (br_f (by decide) (br_f (by decide) (br_f (by decide) (br_t rfl (one 4 (by decide) (by simp [xs_fit])))))))))))))
  · exact br_f (by decide) (br_f (by decide) (br_f (by decide) (br_f (by decide) (br_f (by decide) (br_f (by decide) (br_f (by decide) (br_f (by decide) (br_f (by decide) (br_f (by decide) (br_f (by decide) (br_f (by decide) (br_t rfl (thr 4 5 6 (by decide) (by decide) (by decide) (by simp [xs_fit]))))))))))))))
  · exact br_f (by decide) (br_f (by decide) (br_f (by decide) (br_f (by decide) (br_f (by decide) (br_f (by decide) (br_f (by decide) (br_f (by decide) (br_f (by decide) (br_f (by decide) (br_f (by decide) (br_f (by decide) (br_f (by decide) (br_t rfl (one 7 (by decide) (by simp [xs_fit])))))))))))))))
  · exact br_f (by decide) (br_f (by decide) (br_f (by decide) (br_f (by decide) (br_f (by decide) (br_f (by decide) (br_f (by decide) (br_f (by decide) (br_f (by decide) (br_f (by decide) (br_f (by decide) (br_f (by decide) (br_f (by decide) (br_f (by decide) (br_t rfl (one 7 (by decide) (by simp [xs_fit]))))))))))))))))
  · exact br_f (by decide) (br_f (by decide) (br_f (by decide) (br_f (by decide) (br_f (by decide) (br_f (by decide) (br_f (by decide) (br_f (by decide) (br_f (by decide) (br_f (by decide) (br_f (by decide) (br_f (by decide) (br_f (by decide) (br_f (by decide) (br_f (by decide) (br_t rfl (one 7 (by decide) (by simp [xs_fit])))))))))))))))))
  · exact br_f (by decide) (br_f (by decide) (br_f (by decide) (br_f (by decide) (br_f (by decide) (br_f (by decide) (br_f (by decide) (br_f (by decide) (br_f (by decide) (br_f (by decide) (br_f (by decide) (br_f (by decide) (br_f (by decide) (br_f (by decide) (br_f (by decide) (br_f (by decide) (br_t rfl (thr 4 5 6 (by decide) (by decide) (by decide) (by simp [xs_fit]))))))))))))))))))
  · exact br_f (by decide) (br_f (by decide) (br_f (by decide) (br_f (by decide) (br_f (by decide) (br_f (by decide) (br_f (by decide) (br_f (by decide) (br_f (by decide) (br_f (by decide) (br_f (by decide) (br_f (by decide) (br_f (by decide) (br_f (by decide) (br_f (by decide) (br_f (by decide) (br_f (by decide) (br_t rfl (one 5 (by decide) (by simp [xs_fit])))))))))))))))))))
  · exact br_f (by decide) (br_f (by decide) (br_f (by decide) (br_f (by decide) (br_f (by decide) (br_f (by decide) (br_f (by decide) (br_f (by decide) (br_f (by decide) (br_f (by decide) (br_f (by decide) (br_f (by decide) (br_f (by decide) (br_f (by decide) (br_f (by decide) (br_f (by decide) (br_f (by decide) (br_f (by decide) (br_t rfl (two 5 6 (by decide) (by decide) (by simp [xs_fit]))))))))))))))))))))
  · exact br_f (by decide) (br_t (by decide) (one 8 (by decide) (by simp [xs_fit])))
  · exact br_f (by decide) (br_t (by decide) (one 8 (by decide) (by simp [xs_fit])))
  · exact br_f (by decide) (br_t (by decide) (one 8 (by decide) (by simp [xs_fit])))
  · exact br_f (by decide) (br_t (by decide) (one 8 (by decide) (by simp [xs_fit])))
  · exact br_f (by decide) (br_t (by decide) (one 8 (by decide) (by simp [xs_fit])))
  · exact br_f (by decide) (br_t (by decide) (one 8 (by decide) (by simp [xs_fit])))
  · exact br_f (by decide) (br_t (by decide) (one 8 (by decide) (by simp [xs_fit])))
  · exact br_f (by decide) (br_t (by decide) (one 8 (by decide) (by simp [xs_fit])))
  · exact br_f (by decide) (br_t (by decide) (one 8 (by decide) (by simp [xs_fit])))
theorem xc_take {post : St2 → Prop} {k w : Nat} {M : List Nat} (h1 : 1 ≤ k) (h2 : k ≤ 26) (hM : M.length < 511) (has : lo_as a_stack (w :: M))
    (h : ∀ a', lo_as a' (xs_tk k w M) → post (f_depthLimit, f_state, f_trapCode, f_begun, f_tokenTotal, f_printedTotal, nI (xs_tk k w M).length, f_bodyCount, f_declaredTwice, f_liveDepth, f_position, a_tokenKind, a_tokenValue, a_printed, a', a_bodyParent, a_bodyStart, a_declCount, a_paramCount, a_paramName, a_declKind, a_declTarget, a_tokenBody, a_branchTarget, a_liveBody, a_liveParent, a_returnTo, a_slotValue, a_slotHome, a_waitingOp, a_waitingLeft, a_leftKnown, a_argKind, a_argValue, a_argHome)) : wpX_takeToken post (f_depthLimit, f_state, f_trapCode, f_begun, f_tokenTotal, f_printedTotal, nI (M.length + 1), f_bodyCount, f_declaredTwice, f_liveDepth, f_position, a_tokenKind, a_tokenValue, a_printed, a_stack, a_bodyParent, a_bodyStart, a_declCount, a_paramCount, a_paramName, a_declKind, a_declTarget, a_tokenBody, a_branchTarget, a_liveBody, a_liveParent, a_returnTo, a_slotValue, a_slotHome, a_waitingOp, a_waitingLeft, a_leftKnown, a_argKind, a_argValue, a_argHome) (nI k) := by
  have hsub : nI (M.length + 1) - 1 = nI M.length := nI_pred _
  have hin : vp_in (nI M.length) 513 := vp_in_nI (by omega) (by decide)
  have hcl : (nI M.length).toNatClampNeg = M.length := nI_clamp (by omega)
  have same : xs_tk k w M = w :: M → post (f_depthLimit, f_state, f_trapCode, f_begun, f_tokenTotal, f_printedTotal, nI (M.length + 1), f_bodyCount, f_declaredTwice, f_liveDepth, f_position, a_tokenKind, a_tokenValue, a_printed, a_stack, a_bodyParent, a_bodyStart, a_declCount, a_paramCount, a_paramName, a_declKind, a_declTarget, a_tokenBody, a_branchTarget, a_liveBody, a_liveParent, a_returnTo, a_slotValue, a_slotHome, a_waitingOp, a_waitingLeft, a_leftKnown, a_argKind, a_argValue, a_argHome) := by
    intro e; rw [e] at h; exact h a_stack has
  have pop : xs_tk k w M = M → wX_takeToken_123 post f_depthLimit f_state f_trapCode f_begun f_tokenTotal f_printedTotal (nI (M.length + 1)) f_bodyCount f_declaredTwice f_liveDepth f_position a_tokenKind a_tokenValue a_printed a_stack a_bodyParent a_bodyStart a_declCount a_paramCount a_paramName a_declKind a_declTarget a_tokenBody a_branchTarget a_liveBody a_liveParent a_returnTo a_slotValue a_slotHome a_waitingOp a_waitingLeft a_leftKnown a_argKind a_argValue a_argHome := by
    intro e; rw [e] at h
    unfold wX_takeToken_123
    rw [hsub]
    exact nm_e (h a_stack has.2)
  have psh : ∀ x : Nat, xs_tk k w M = x :: w :: M → wpX_push post (f_depthLimit, f_state, f_trapCode, f_begun, f_tokenTotal, f_printedTotal, nI (M.length + 1), f_bodyCount, f_declaredTwice, f_liveDepth, f_position, a_tokenKind, a_tokenValue, a_printed, a_stack, a_bodyParent, a_bodyStart, a_declCount, a_paramCount, a_paramName, a_declKind, a_declTarget, a_tokenBody, a_branchTarget, a_liveBody, a_liveParent, a_returnTo, a_slotValue, a_slotHome, a_waitingOp, a_waitingLeft, a_leftKnown, a_argKind, a_argValue, a_argHome) (nI x) := by
    intro x e; rw [e] at h
    refine xc_push (by omega) ?_
    exact h _ ⟨lo_us, lo_as_u has (by simp)⟩
  have rep : ∀ x : Nat, xs_tk k w M = x :: M → vp_in (nI (M.length + 1) - 1) 513 ∧ ∀ y, y = upd a_stack (nI (M.length + 1) - 1).toNatClampNeg (nI x) → post (f_depthLimit, f_state, f_trapCode, f_begun, f_tokenTotal, f_printedTotal, nI (M.length + 1), f_bodyCount, f_declaredTwice, f_liveDepth, f_position, a_tokenKind, a_tokenValue, a_printed, y, a_bodyParent, a_bodyStart, a_declCount, a_paramCount, a_paramName, a_declKind, a_declTarget, a_tokenBody, a_branchTarget, a_liveBody, a_liveParent, a_returnTo, a_slotValue, a_slotHome, a_waitingOp, a_waitingLeft, a_leftKnown, a_argKind, a_argValue, a_argHome) := by
    intro x e; rw [e] at h
    rw [hsub, hcl]
    exact ⟨hin, nm_e (h _ ⟨lo_us, lo_as_u has.2 (Nat.le_refl _)⟩)⟩
  have p15 : k = 15 → wpX_push (fun u => wpX_push post u 8) (f_depthLimit, f_state, f_trapCode, f_begun, f_tokenTotal, f_printedTotal, nI (M.length + 1), f_bodyCount, f_declaredTwice, f_liveDepth, f_position, a_tokenKind, a_tokenValue, a_printed, a_stack, a_bodyParent, a_bodyStart, a_declCount, a_paramCount, a_paramName, a_declKind, a_declTarget, a_tokenBody, a_branchTarget, a_liveBody, a_liveParent, a_returnTo, a_slotValue, a_slotHome, a_waitingOp, a_waitingLeft, a_leftKnown, a_argKind, a_argValue, a_argHome) 5 := by
    intro e; subst e
    refine xc_push (by omega) (xc_push (by omega) (h _ ⟨lo_us, ?_, ?_⟩))
    · rw [lo_un (by simp)]; exact lo_us
    · exact lo_as_u (lo_as_u has (by simp)) (by simp)
  unfold wpX_takeToken wX_takeToken_170
  rcases xs_26 h1 h2 with e | e | e | e | e | e | e | e | e | e | e | e | e | e | e | e | e | e | e | e | e | e | e | e | e | e <;> subst e
  · exact br_f (by decide) (br_f (by decide) (br_t rfl (rep 3 rfl)))
  · exact br_f (by decide) (br_f (by decide) (br_f (by decide) (br_t rfl (pop rfl))))
  · exact br_f (by decide) (br_f (by decide) (br_f (by decide) (br_f (by decide) (br_t rfl (same rfl)))))
  · exact br_f (by decide) (br_f (by decide) (br_f (by decide) (br_f (by decide) (br_f (by decide) (br_t rfl (psh 2 rfl))))))
  · exact br_f (by decide) (br_f (by decide) (br_f (by decide) (br_f (by decide) (br_f (by decide) (br_f (by decide) (br_t rfl (same rfl)))))))
  · exact br_f (by decide) (br_f (by decide) (br_f (by decide) (br_f (by decide) (br_f (by decide) (br_f (by decide) (br_f (by decide) (br_t rfl (same rfl))))))))
  · exact br_f (by decide) (br_f (by decide) (br_f (by decide) (br_f (by decide) (br_f (by decide) (br_f (by decide) (br_f (by decide) (br_f (by decide) (br_t rfl (psh 8 rfl)))))))))
  · exact br_f (by decide) (br_f (by decide) (br_f (by decide) (br_f (by decide) (br_f (by decide) (br_f (by decide) (br_f (by decide) (br_f (by decide) (br_f (by decide) (br_t rfl (psh 8 rfl))))))))))
  · exact br_f (by decide) (br_f (by decide) (br_f (by decide) (br_f (by decide) (br_f (by decide) (br_f (by decide) (br_f (by decide) (br_f (by decide) (br_f (by decide) (br_f (by decide) (br_t rfl (same rfl)))))))))))
  · exact br_f (by decide) (br_f (by decide) (br_f (by decide) (br_f (by decide) (br_f (by decide) (br_f (by decide) (br_f (by decide) (br_f (by decide) (br_f (by decide) (br_f (by decide) (br_f (by decide) (br_t rfl (same rfl))))))))))))
  · exact br_f (by decide) (br_f (by decide) (br_f (by decide) (br_f (by decide) (br_f (by decide) (br_f (by decide) (br_f (by decide) (br_f (by decide) (br_f (by decide) (br_f (by decide) (br_f (by decide) (br_f (by decide) (br_t rfl (psh 7 rfl)))))))))))))
  · exact br_f (by decide) (br_f (by decide) (br_f (by decide) (br_f (by decide) (br_f (by decide) (br_f (by decide) (br_f (by decide) (br_f (by decide) (br_f (by decide) (br_f (by decide) (br_f (by decide) (br_f (by decide) (br_f (by decide) (br_t rfl (psh 8 rfl))))))))))))))
  · exact br_f (by decide) (br_f (by decide) (br_f (by decide) (br_f (by decide) (br_f (by decide) (br_f (by decide) (br_f (by decide) (br_f (by decide) (br_f (by decide) (br_f (by decide) (br_f (by decide) (br_f (by decide) (br_f (by decide) (br_f (by decide) (br_t rfl (same rfl)))))))))))))))
  · exact br_f (by decide) (br_f (by decide) (br_f (by decide) (br_f (by decide) (br_f (by decide) (br_f (by decide) (br_f (by decide) (br_f (by decide) (br_f (by decide) (br_f (by decide) (br_f (by decide) (br_f (by decide) (br_f (by decide) (br_f (by decide) (br_f (by decide) (br_t rfl (pop rfl))))))))))))))))
  · exact br_f (by decide) (br_f (by decide) (br_f (by decide) (br_f (by decide) (br_f (by decide) (br_f (by decide) (br_f (by decide) (br_f (by decide) (br_f (by decide) (br_f (by decide) (br_f (by decide) (br_f (by decide) (br_f (by decide) (br_f (by decide) (br_f (by decide) (br_f (by decide) (br_t rfl (p15 rfl)))))))))))))))))
  · exact br_f (by decide) (br_f (by decide) (br_f (by decide) (br_f (by decide) (br_f (by decide) (br_f (by decide) (br_f (by decide) (br_f (by decide) (br_f (by decide) (br_f (by decide) (br_f (by decide) (br_f (by decide) (br_f (by decide) (br_f (by decide) (br_f (by decide) (br_f (by decide) (br_f (by decide) (br_t rfl (rep 6 rfl))))))))))))))))))
  · exact br_f (by decide) (br_f (by decide) (br_f (by decide) (br_f (by decide) (br_f (by decide) (br_f (by decide) (br_f (by decide) (br_f (by decide) (br_f (by decide) (br_f (by decide) (br_f (by decide) (br_f (by decide) (br_f (by decide) (br_f (by decide) (br_f (by decide) (br_f (by decide) (br_f (by decide) (br_f (by decide) (br_t rfl (pop rfl)))))))))))))))))))
  · exact br_f (by decide) (br_f (by decide) (br_f (by decide) (br_f (by decide) (br_f (by decide) (br_f (by decide) (br_f (by decide) (br_f (by decide) (br_f (by decide) (br_f (by decide) (br_f (by decide) (br_f (by decide) (br_f (by decide) (br_f (by decide) (br_f (by decide) (br_f (by decide) (br_f (by decide) (br_f (by decide) (br_f (by decide) (br_t rfl (pop rfl))))))))))))))))))))
  · exact br_f (by decide) (br_f (by decide) (br_f (by decide) (br_f (by decide) (br_f (by decide) (br_f (by decide) (br_f (by decide) (br_f (by decide) (br_f (by decide) (br_f (by decide) (br_f (by decide) (br_f (by decide) (br_f (by decide) (br_f (by decide) (br_f (by decide) (br_f (by decide) (br_f (by decide) (br_f (by decide) (br_f (by decide) (br_f (by decide) (br_t rfl (pop rfl)))))))))))))))))))))
  · exact br_f (by decide) (br_t (by decide) (psh 8 rfl))
  · exact br_f (by decide) (br_t (by decide) (psh 8 rfl))
  · exact br_f (by decide) (br_t (by decide) (psh 8 rfl))
  · exact br_f (by decide) (br_t (by decide) (psh 8 rfl))
  · exact br_f (by decide) (br_t (by decide) (psh 8 rfl))
  · exact br_f (by decide) (br_t (by decide) (psh 8 rfl))
  · exact br_f (by decide) (br_t (by decide) (psh 8 rfl))
theorem xc_70 {post : Int32 → St2 → Prop} {J : Int32 → Int32 → Int32 → Int32 → Int32 → Int32 → Int32 → Int32 → Int32 → Int32 → Int32 → Int32 → (Nat → Int32) → (Nat → Int32) → (Nat → Int32) → (Nat → Int32) → (Nat → Int32) → (Nat → Int32) → (Nat → Int32) → (Nat → Int32) → (Nat → Int32) → (Nat → Int32) → (Nat → Int32) → (Nat → Int32) → (Nat → Int32) → (Nat → Int32) → (Nat → Int32) → (Nat → Int32) → (Nat → Int32) → (Nat → Int32) → (Nat → Int32) → (Nat → Int32) → (Nat → Int32) → (Nat → Int32) → (Nat → Int32) → (Nat → Int32) → Prop}
    {k w i : Nat} {M : List Nat} (h1 : 1 ≤ k) (h2 : k ≤ 26) (hw : w ≤ 8) (hM : M.length < 511) (has : lo_as a_stack (w :: M))
    (hf : ¬ xs_fit k w → post 0 (f_depthLimit, f_state, f_trapCode, f_begun, f_tokenTotal, f_printedTotal, nI (M.length + 1), f_bodyCount, f_declaredTwice, f_liveDepth, f_position, a_tokenKind, a_tokenValue, a_printed, a_stack, a_bodyParent, a_bodyStart, a_declCount, a_paramCount, a_paramName, a_declKind, a_declTarget, a_tokenBody, a_branchTarget, a_liveBody, a_liveParent, a_returnTo, a_slotValue, a_slotHome, a_waitingOp, a_waitingLeft, a_leftKnown, a_argKind, a_argValue, a_argHome))
    (ht : xs_fit k w → ∀ a', lo_as a' (xs_tk k w M) → J (nI (i + 1)) f_depthLimit f_state f_trapCode f_begun f_tokenTotal f_printedTotal (nI (xs_tk k w M).length) f_bodyCount f_declaredTwice f_liveDepth f_position a_tokenKind a_tokenValue a_printed a' a_bodyParent a_bodyStart a_declCount a_paramCount a_paramName a_declKind a_declTarget a_tokenBody a_branchTarget a_liveBody a_liveParent a_returnTo a_slotValue a_slotHome a_waitingOp a_waitingLeft a_leftKnown a_argKind a_argValue a_argHome) :
    wX_isProgram_70 post J (nI i) (nI k) (nI M.length) f_depthLimit f_state f_trapCode f_begun f_tokenTotal f_printedTotal (nI (M.length + 1)) f_bodyCount f_declaredTwice f_liveDepth f_position a_tokenKind a_tokenValue a_printed a_stack a_bodyParent a_bodyStart a_declCount a_paramCount a_paramName a_declKind a_declTarget a_tokenBody a_branchTarget a_liveBody a_liveParent a_returnTo a_slotValue a_slotHome a_waitingOp a_waitingLeft a_leftKnown a_argKind a_argValue a_argHome := by
  unfold wX_isProgram_70
  refine ⟨vp_in_nI (by omega) (by decide), ?_⟩
  rw [nI_clamp (by omega), has.1]
  refine xc_fits h1 h2 hw (fun hfit => br_f (by decide) (xc_take h1 h2 hM has ?_)) (fun hfit => br_t rfl (hf hfit))
  intro a' ha'
  exact nm_r (nI_1 i) (ht hfit a' ha')
theorem xc_none {K : Nat → Nat} {n i : Nat} (h : gr_cf K (i + 1) = none) (hi : i < n) : gr_cf K n ≠ some ([], 0) := by
  intro hn
  obtain ⟨L, e, h2⟩ := gr_exle hn (show i + 1 ≤ n by omega)
  rw [h] at h2; cases h2
/-- the component's grammar check -/
theorem xc_12 {post : Int32 → St2 → Prop} {K : Nat → Nat} {n : Nat} (hn : n ≤ 256) (hk : ∀ i, i < n → a_tokenKind i = nI (K i) ∧ 1 ≤ K i ∧ K i ≤ 26)
    (ht : gr_cf K n = some ([], 0) → ∀ s a, post 1 (f_depthLimit, f_state, f_trapCode, f_begun, nI n, f_printedTotal, s, f_bodyCount, f_declaredTwice, f_liveDepth, f_position, a_tokenKind, a_tokenValue, a_printed, a, a_bodyParent, a_bodyStart, a_declCount, a_paramCount, a_paramName, a_declKind, a_declTarget, a_tokenBody, a_branchTarget, a_liveBody, a_liveParent, a_returnTo, a_slotValue, a_slotHome, a_waitingOp, a_waitingLeft, a_leftKnown, a_argKind, a_argValue, a_argHome)) (hf : gr_cf K n ≠ some ([], 0) → ∀ s a, post 0 (f_depthLimit, f_state, f_trapCode, f_begun, nI n, f_printedTotal, s, f_bodyCount, f_declaredTwice, f_liveDepth, f_position, a_tokenKind, a_tokenValue, a_printed, a, a_bodyParent, a_bodyStart, a_declCount, a_paramCount, a_paramName, a_declKind, a_declTarget, a_tokenBody, a_branchTarget, a_liveBody, a_liveParent, a_returnTo, a_slotValue, a_slotHome, a_waitingOp, a_waitingLeft, a_leftKnown, a_argKind, a_argValue, a_argHome)) :
    ∀ (d i f : Nat) (L : List (Nat × Nat)) (e : Nat) (a : Nat → Int32), i + d = n → d < f → gr_cf K i = some (L, e) → lo_as a (xs_ws L e) →
      wX_isProgram_12 post f (nI i) f_depthLimit f_state f_trapCode f_begun (nI n) f_printedTotal (nI (L.length + e)) f_bodyCount f_declaredTwice f_liveDepth f_position a_tokenKind a_tokenValue a_printed a a_bodyParent a_bodyStart a_declCount a_paramCount a_paramName a_declKind a_declTarget a_tokenBody a_branchTarget a_liveBody a_liveParent a_returnTo a_slotValue a_slotHome a_waitingOp a_waitingLeft a_leftKnown a_argKind a_argValue a_argHome := by
  intro d
  induction d with
  | zero =>
    intro i f L e a hi hfu hc has
    have : i = n := by omega
    subst this
    cases f with
    | zero => omega
    | succ f =>
      have hsz : L.length + e ≤ 2 * i + 1 := by
        by_cases h0 : i = 0
        · subst h0
          simp only [gr_cf, Option.some.injEq, Prod.mk.injEq] at hc
          rw [← hc.1, ← hc.2]; simp
        · have := (gr_size i L e (by omega) hc).2; omega
      refine br_t (nI_le (Nat.le_refl _) (by omega)) (br_c (fun h0 => ?_) (fun h0 => ?_))
      · refine ht ?_ _ _
        rw [li_e (by omega) (by decide)] at h0
        have h00 : L.length = 0 ∧ e = 0 := by
          have : L.length + e = 0 := h0
          omega
        rw [hc, h00.2, List.length_eq_zero_iff.mp h00.1]
      · refine hf ?_ _ _
        intro h2
        rw [hc] at h2
        cases h2
        exact h0 rfl
  | succ d ih =>
    intro i f L e a hi hfu hc has
    cases f with
    | zero => omega
    | succ f =>
      obtain ⟨k1, k2, k3⟩ := hk i (by omega)
      have hsz : L.length + e ≤ 2 * i + 1 := by
        by_cases h0 : i = 0
        · subst h0
          simp only [gr_cf, Option.some.injEq, Prod.mk.injEq] at hc
          rw [← hc.1, ← hc.2]; simp
        · have := (gr_size i L e (by omega) hc).2; omega
      refine br_f (nI_ge (by omega) (by omega)) ?_
      rcases xs_step hc k2 k3 with ⟨hw, hno⟩ | ⟨w, M, hw, hw8, hst⟩
      · have hl := @xs_len L e
        rw [hw] at hl
        refine br_t (li_0 _ ?_) (hf (xc_none hno (by omega)) _ _)
        simp at hl; omega
      · have hl := @xs_len L e
        rw [hw] at hl
        simp only [List.length_cons] at hl
        rw [← hl]
        rw [hw] at has
        have hMl : M.length < 511 := by omega
        refine br_f (nI_ne0 (by omega) (by omega)) ⟨vp_in_nI (by omega) (by decide), nm_r (show _ = nI (K i) by rw [nI_clamp (by omega)]; exact k1) (nm_r (nI_pred M.length) ⟨vp_in_nI (by omega) (by decide), ?_⟩)⟩
        rw [nI_clamp (by omega), has.1]
        have go : ∀ a2, lo_as a2 (xs_n (K i) w :: M) → wX_isProgram_70 post (wX_isProgram_12 post f) (nI i) (nI (K i)) (nI M.length) f_depthLimit f_state f_trapCode f_begun (nI n) f_printedTotal (nI (M.length + 1)) f_bodyCount f_declaredTwice f_liveDepth f_position a_tokenKind a_tokenValue a_printed a2 a_bodyParent a_bodyStart a_declCount a_paramCount a_paramName a_declKind a_declTarget a_tokenBody a_branchTarget a_liveBody a_liveParent a_returnTo a_slotValue a_slotHome a_waitingOp a_waitingLeft a_leftKnown a_argKind a_argValue a_argHome := by
          intro a2 ha2
          have hxn : xs_n (K i) w ≤ 8 := by unfold xs_n; split <;> omega
          refine xc_70 k2 k3 hxn hMl ha2 (fun hfit => ?_) (fun hfit a' ha' => ?_)
          · rcases hst with ⟨h3, _⟩ | ⟨_, h3⟩
            · exact absurd h3 hfit
            · exact hf (xc_none h3 (by omega)) _ _
          · rcases hst with ⟨_, L', e', h4, h5⟩ | ⟨h3, _⟩
            · rw [← h5] at ha' ⊢
              rw [xs_len]
              exact ih (i + 1) f L' e' a' (by omega) (by omega) h4 ha'
            · exact absurd hfit h3
        by_cases c3 : w = 3
        · subst c3
          refine br_t rfl ?_
          by_cases q3 : K i = 3
          · refine br_t (by rw [q3]; rfl) (go a ?_)
            simp only [xs_n, q3]; exact has
          · refine br_f (fun h => q3 ((li_e (by omega) (by decide)).mp h)) ?_
            by_cases q4 : K i = 4
            · refine br_t (by rw [q4]; rfl) (go a ?_)
              simp only [xs_n, q4]; exact has
            · refine br_f (fun h => q4 ((li_e (by omega) (by decide)).mp h)) ⟨vp_in_nI (by omega) (by decide), nm_e (go _ ?_)⟩
              have hx4 : xs_n (K i) 3 = 4 := by simp [xs_n, q3, q4]
              rw [hx4]
              exact ⟨lo_us, lo_as_u has.2 (Nat.le_refl _)⟩
        · refine br_f (fun h => c3 ((li_e (by omega) (by decide)).mp h)) (go a ?_)
          have hx : xs_n (K i) w = w := by simp [xs_n, c3]
          rw [hx]; exact has
theorem xc_prog {post : Int32 → St2 → Prop} {K : Nat → Nat} {n : Nat} (hn : n ≤ 256) (hk : ∀ i, i < n → a_tokenKind i = nI (K i) ∧ 1 ≤ K i ∧ K i ≤ 26)
    (ht : gr_cf K n = some ([], 0) → ∀ s a, post 1 (f_depthLimit, f_state, f_trapCode, f_begun, nI n, f_printedTotal, s, f_bodyCount, f_declaredTwice, f_liveDepth, f_position, a_tokenKind, a_tokenValue, a_printed, a, a_bodyParent, a_bodyStart, a_declCount, a_paramCount, a_paramName, a_declKind, a_declTarget, a_tokenBody, a_branchTarget, a_liveBody, a_liveParent, a_returnTo, a_slotValue, a_slotHome, a_waitingOp, a_waitingLeft, a_leftKnown, a_argKind, a_argValue, a_argHome)) (hf : gr_cf K n ≠ some ([], 0) → ∀ s a, post 0 (f_depthLimit, f_state, f_trapCode, f_begun, nI n, f_printedTotal, s, f_bodyCount, f_declaredTwice, f_liveDepth, f_position, a_tokenKind, a_tokenValue, a_printed, a, a_bodyParent, a_bodyStart, a_declCount, a_paramCount, a_paramName, a_declKind, a_declTarget, a_tokenBody, a_branchTarget, a_liveBody, a_liveParent, a_returnTo, a_slotValue, a_slotHome, a_waitingOp, a_waitingLeft, a_leftKnown, a_argKind, a_argValue, a_argHome)) :
    wpX_isProgram post (f_depthLimit, f_state, f_trapCode, f_begun, nI n, f_printedTotal, f_stackSize, f_bodyCount, f_declaredTwice, f_liveDepth, f_position, a_tokenKind, a_tokenValue, a_printed, a_stack, a_bodyParent, a_bodyStart, a_declCount, a_paramCount, a_paramName, a_declKind, a_declTarget, a_tokenBody, a_branchTarget, a_liveBody, a_liveParent, a_returnTo, a_slotValue, a_slotHome, a_waitingOp, a_waitingLeft, a_leftKnown, a_argKind, a_argValue, a_argHome) := by
  unfold wpX_isProgram
  refine xc_push (s := 0) (by decide) ⟨n + 1, ?_⟩
  exact xc_12 hn hk ht hf n 0 (n + 1) [(0, 0)] 0 _ (by omega) (by omega) rfl ⟨lo_us, trivial⟩
end
section
def xl_A (K : Nat → Nat) (n i : Nat) (tb : Nat → Int32) : Prop := ∀ j, j < i → tb j = nI (lo_x K n j)
def xl_B (K : Nat → Nat) (n i : Nat) (bp : Nat → Int32) : Prop := bp 0 = 0 ∧ ∀ q, q < i → K q = 4 → bp (gr_np K (q + 1)) = nI (lo_x K n q)
def xl_C (K : Nat → Nat) (n i : Nat) (dc pc : Nat → Int32) : Prop := ∀ k, k ≤ gr_np K i → dc k = nI (gr_dn K n k i) ∧ pc k = nI (gr_pn K n k i)
def xl_N (K V : Nat → Nat) (n i : Nat) (pm : Nat → Int32) : Prop := ∀ j, j < i → (K j = 5 ∨ K j = 6) → gr_pn K n (lo_x K n j) j < 4 → pm (lo_x K n j * 4 + gr_pn K n (lo_x K n j) j) = nI (V j)
def xl_T (K V : Nat → Nat) (n i : Nat) (tw : Int32) (dk dt : Nat → Int32) : Prop := (tw = 0 ∧ lo_N K V n i ∧ lo_T K V n i dk dt) ∨ (tw = 1 ∧ ¬ lo_N K V n i)
theorem xl_A_s {K : Nat → Nat} {n i : Nat} {tb : Nat → Int32} (h : xl_A K n i tb) : xl_A K n (i + 1) (upd tb i (nI (lo_x K n i))) := by
  intro j hj
  by_cases e : j = i
  · subst e; exact lo_us
  · rw [lo_un e]; exact h j (by omega)
theorem xl_B_n {K : Nat → Nat} {n i : Nat} {bp : Nat → Int32} (h : xl_B K n i bp) (hk : K i ≠ 4) : xl_B K n (i + 1) bp := by
  refine ⟨h.1, fun q hq h4 => ?_⟩
  by_cases e : q = i
  · subst e; exact absurd h4 hk
  · exact h.2 q (by omega) h4
theorem xl_B_4 {K : Nat → Nat} {n i : Nat} {bp : Nat → Int32} (h : xl_B K n i bp) (hk : K i = 4) : xl_B K n (i + 1) (upd bp (gr_np K i + 1) (nI (lo_x K n i))) := by
  refine ⟨by rw [lo_un (by omega)]; exact h.1, fun q hq h4 => ?_⟩
  by_cases e : q = i
  · subst e; rw [gr_np_4 hk]; exact lo_us
  · have := @gr_np_mono K (q + 1) i (by omega)
    rw [lo_un (by omega)]; exact h.2 q (by omega) h4
theorem xl_C_n {K : Nat → Nat} {n i : Nat} {dc pc : Nat → Int32} (h : xl_C K n i dc pc) (hk : ¬ gr_D (K i)) : xl_C K n (i + 1) dc pc := by
  intro k hk2
  simp only [gr_D] at hk
  rw [gr_np_n (by omega)] at hk2
  rw [lo_dn_n (fun h2 => hk h2.1), lo_pn_n (fun h2 => by omega)]
  exact h k hk2
theorem xl_C_d {K : Nat → Nat} {n i : Nat} {dc pc : Nat → Int32} (h : xl_C K n i dc pc) (hx : lo_x K n i ≤ gr_np K i) (hk : K i = 3 ∨ K i = 10) : xl_C K n (i + 1) (upd dc (lo_x K n i) (dc (lo_x K n i) + 1)) pc := by
  intro k hk2
  rw [gr_np_n (by omega)] at hk2
  rw [lo_pn_n (fun h2 => by omega)]
  refine ⟨?_, (h k hk2).2⟩
  by_cases e : k = lo_x K n i
  · subst e
    rw [lo_us, lo_dn_y ⟨by simp only [gr_D]; omega, rfl⟩, (h _ hx).1, nI_1]
  · rw [lo_un e, lo_dn_n (fun h2 => e h2.2.symm)]; exact (h k hk2).1
theorem xl_C_p {K : Nat → Nat} {n i : Nat} {dc pc : Nat → Int32} (h : xl_C K n i dc pc) (hx : lo_x K n i ≤ gr_np K i) (hk : K i = 5 ∨ K i = 6) : xl_C K n (i + 1) (upd dc (lo_x K n i) (dc (lo_x K n i) + 1)) (upd pc (lo_x K n i) (pc (lo_x K n i) + 1)) := by
  intro k hk2
  rw [gr_np_n (by omega)] at hk2
  by_cases e : k = lo_x K n i
  · subst e
    rw [lo_us, lo_us, lo_dn_y ⟨by simp only [gr_D]; omega, rfl⟩, lo_pn_y ⟨hk, rfl⟩, (h _ hx).1, (h _ hx).2, nI_1, nI_1]
    exact ⟨rfl, rfl⟩
  · rw [lo_un e, lo_un e, lo_dn_n (fun h2 => e h2.2.symm), lo_pn_n (fun h2 => e h2.2.symm)]; exact h k hk2
theorem xl_C_4 {K : Nat → Nat} {n i : Nat} {dc pc : Nat → Int32} (hn : gr_cf K n = some ([], 0)) (hi : i < n) (h : xl_C K n i dc pc) (hx : lo_x K n i ≤ gr_np K i) (hk : K i = 4) :
    xl_C K n (i + 1) (upd (upd dc (lo_x K n i) (dc (lo_x K n i) + 1)) (gr_np K i + 1) 0) (upd pc (gr_np K i + 1) 0) := by
  intro k hk2
  rw [gr_np_4 hk] at hk2
  rw [lo_pn_n (fun h2 => by omega)]
  by_cases e : k = gr_np K i + 1
  · subst e
    have c := lo_cnt0 (k := gr_np K i + 1) hn i (by omega) (by omega)
    rw [lo_us, lo_us, lo_dn_n (fun h2 => by omega), c.1, c.2]
    exact ⟨rfl, rfl⟩
  · rw [lo_un e, lo_un e]
    refine ⟨?_, (h k (by omega)).2⟩
    by_cases e2 : k = lo_x K n i
    · subst e2
      rw [lo_us, lo_dn_y ⟨by simp only [gr_D]; omega, rfl⟩, (h _ hx).1, nI_1]
    · rw [lo_un e2, lo_dn_n (fun h2 => e2 h2.2.symm)]; exact (h k (by omega)).1
theorem xl_N_n {K V : Nat → Nat} {n i : Nat} {pm : Nat → Int32} (h : xl_N K V n i pm) (hk : ¬ (K i = 5 ∨ K i = 6)) : xl_N K V n (i + 1) pm := by
  intro j hj h1 h2
  by_cases e : j = i
  · subst e; exact absurd h1 hk
  · exact h j (by omega) h1 h2
theorem xl_N_4 {K V : Nat → Nat} {n i : Nat} {pm : Nat → Int32} (h : xl_N K V n i pm) (hp : ¬ gr_pn K n (lo_x K n i) i < 4) : xl_N K V n (i + 1) pm := by
  intro j hj h1 h2
  by_cases e : j = i
  · subst e; exact absurd h2 hp
  · exact h j (by omega) h1 h2
theorem xl_N_p {K V : Nat → Nat} {n i : Nat} {pm : Nat → Int32} (h : xl_N K V n i pm) (hk : K i = 5 ∨ K i = 6) (hp : gr_pn K n (lo_x K n i) i < 4) : xl_N K V n (i + 1) (upd pm (lo_x K n i * 4 + gr_pn K n (lo_x K n i) i) (nI (V i))) := by
  intro j hj h1 h2
  by_cases e : j = i
  · subst e; exact lo_us
  · rw [lo_un]
    · exact h j (by omega) h1 h2
    · intro e2
      have e3 : lo_x K n j = lo_x K n i := by omega
      rw [e3] at e2 h2
      have m : gr_pn K n (lo_x K n i) (j + 1) ≤ gr_pn K n (lo_x K n i) i := (lo_dn_mono (by omega)).2
      rw [lo_pn_y ⟨h1, e3⟩] at m
      omega
theorem xl_T_n {K V : Nat → Nat} {n i : Nat} {tw : Int32} {dk dt : Nat → Int32} (h : xl_T K V n i tw dk dt) (hk : ¬ gr_D (K i)) : xl_T K V n (i + 1) tw dk dt := by
  rcases h with ⟨a, b, c⟩ | ⟨a, b⟩
  · exact .inl ⟨a, lo_N_n b hk, lo_T_n c hk⟩
  · exact .inr ⟨a, lo_N_up b (by omega)⟩
theorem xl_T_d0 {K V : Nat → Nat} {n i : Nat} {tw : Int32} {dk dt : Nat → Int32} (h : xl_T K V n i tw dk dt) (hV : ∀ d, d ≤ i → gr_D (K d) → V d < 16) (hK : ∀ d, d ≤ i → K d < 27) (hk : gr_D (K i)) (h0 : dk (lo_x K n i * 16 + V i) = 0) :
    xl_T K V n (i + 1) tw (upd dk (lo_x K n i * 16 + V i) (nI (K i))) (upd dt (lo_x K n i * 16 + V i) (nI (lo_tg K i))) := by
  rcases h with ⟨a, b, c⟩ | ⟨a, b⟩
  · have := lo_T_d c b hV hk h0 hK
    exact .inl ⟨a, this.1, this.2⟩
  · exact .inr ⟨a, lo_N_up b (by omega)⟩
theorem xl_T_d1 {K V : Nat → Nat} {n i : Nat} {tw : Int32} {dk dt dk' dt' : Nat → Int32} (h : xl_T K V n i tw dk dt) (hV : V i < 16) (hx : lo_x K n i < 16) (hk : gr_D (K i)) (h0 : ¬ dk (lo_x K n i * 16 + V i) = 0) :
    xl_T K V n (i + 1) 1 dk' dt' := by
  rcases h with ⟨a, b, c⟩ | ⟨a, b⟩
  · exact .inr ⟨rfl, lo_T_2 c hV hx hk h0⟩
  · exact .inr ⟨rfl, lo_N_up b (by omega)⟩
end
section
variable {f_depthLimit f_state f_trapCode f_begun f_tokenTotal f_printedTotal f_stackSize f_bodyCount f_declaredTwice f_liveDepth f_position : Int32} {a_tokenKind a_tokenValue a_printed a_stack a_bodyParent a_bodyStart a_declCount a_paramCount a_paramName a_declKind a_declTarget a_tokenBody a_branchTarget a_liveBody a_liveParent a_returnTo a_slotValue a_slotHome a_waitingOp a_waitingLeft a_leftKnown a_argKind a_argValue a_argHome : Nat → Int32}
theorem xl_clear0 {post : St2 → Prop} (h : ∀ dk dt, (∀ j, j < 256 → dk j = 0 ∧ dt j = 0) → post (f_depthLimit, f_state, f_trapCode, f_begun, f_tokenTotal, f_printedTotal, f_stackSize, f_bodyCount, f_declaredTwice, f_liveDepth, f_position, a_tokenKind, a_tokenValue, a_printed, a_stack, a_bodyParent, a_bodyStart, a_declCount, a_paramCount, a_paramName, dk, dt, a_tokenBody, a_branchTarget, a_liveBody, a_liveParent, a_returnTo, a_slotValue, a_slotHome, a_waitingOp, a_waitingLeft, a_leftKnown, a_argKind, a_argValue, a_argHome)) :
    ∀ (d i f : Nat) (dk dt : Nat → Int32), i + d = 256 → d < f → (∀ j, j < i → dk j = 0 ∧ dt j = 0) → wX_clearBodies_12 post f_depthLimit f_state f_trapCode f_begun f_tokenTotal f_printedTotal f_stackSize f_bodyCount f_declaredTwice f_liveDepth f_position f (nI i) a_tokenKind a_tokenValue a_printed a_stack a_bodyParent a_bodyStart a_declCount a_paramCount a_paramName dk dt a_tokenBody a_branchTarget a_liveBody a_liveParent a_returnTo a_slotValue a_slotHome a_waitingOp a_waitingLeft a_leftKnown a_argKind a_argValue a_argHome := by
  intro d
  induction d with
  | zero =>
    intro i f dk dt hi hf hz
    cases f with
    | zero => omega
    | succ f => exact br_t (nI_le (b := i) (a := 256) (by omega) (by omega)) (h dk dt (fun j hj => hz j (by omega)))
  | succ d ih =>
    intro i f dk dt hi hf hz
    cases f with
    | zero => omega
    | succ f =>
      refine br_f (nI_ge (b := 256) (by omega) (by decide)) ⟨vp_in_nI (by omega) (by decide), ?_⟩
      rw [nI_clamp (by omega)]
      refine nm_e ⟨vp_in_nI (by omega) (by decide), nm_e (nm_r (nI_1 i) (ih (i + 1) f _ _ (by omega) (by omega) ?_))⟩
      intro j hj
      by_cases e : j = i
      · subst e; exact ⟨lo_us, lo_us⟩
      · rw [lo_un e, lo_un e]; exact hz j (by omega)
theorem xl_clear {post : St2 → Prop} (h : ∀ dk dt, (∀ j, j < 256 → dk j = 0 ∧ dt j = 0) → post (f_depthLimit, f_state, f_trapCode, f_begun, f_tokenTotal, f_printedTotal, f_stackSize, 0, 0, f_liveDepth, f_position, a_tokenKind, a_tokenValue, a_printed, a_stack, a_bodyParent, a_bodyStart, a_declCount, a_paramCount, a_paramName, dk, dt, a_tokenBody, a_branchTarget, a_liveBody, a_liveParent, a_returnTo, a_slotValue, a_slotHome, a_waitingOp, a_waitingLeft, a_leftKnown, a_argKind, a_argValue, a_argHome)) : wpX_clearBodies post (f_depthLimit, f_state, f_trapCode, f_begun, f_tokenTotal, f_printedTotal, f_stackSize, f_bodyCount, f_declaredTwice, f_liveDepth, f_position, a_tokenKind, a_tokenValue, a_printed, a_stack, a_bodyParent, a_bodyStart, a_declCount, a_paramCount, a_paramName, a_declKind, a_declTarget, a_tokenBody, a_branchTarget, a_liveBody, a_liveParent, a_returnTo, a_slotValue, a_slotHome, a_waitingOp, a_waitingLeft, a_leftKnown, a_argKind, a_argValue, a_argHome) := by
  unfold wpX_clearBodies
  exact ⟨257, xl_clear0 h 256 0 257 _ _ (by omega) (by omega) (fun j hj => by omega)⟩
theorem xl_add {post : Int32 → St2 → Prop} {c : Nat} {p : Int32} (hc : c < 16) (h : post (nI c) (f_depthLimit, f_state, f_trapCode, f_begun, f_tokenTotal, f_printedTotal, f_stackSize, nI (c + 1), f_declaredTwice, f_liveDepth, f_position, a_tokenKind, a_tokenValue, a_printed, a_stack, upd a_bodyParent c p, a_bodyStart, upd a_declCount c 0, upd a_paramCount c 0, a_paramName, a_declKind, a_declTarget, a_tokenBody, a_branchTarget, a_liveBody, a_liveParent, a_returnTo, a_slotValue, a_slotHome, a_waitingOp, a_waitingLeft, a_leftKnown, a_argKind, a_argValue, a_argHome)) : wpX_addBody post (f_depthLimit, f_state, f_trapCode, f_begun, f_tokenTotal, f_printedTotal, f_stackSize, nI c, f_declaredTwice, f_liveDepth, f_position, a_tokenKind, a_tokenValue, a_printed, a_stack, a_bodyParent, a_bodyStart, a_declCount, a_paramCount, a_paramName, a_declKind, a_declTarget, a_tokenBody, a_branchTarget, a_liveBody, a_liveParent, a_returnTo, a_slotValue, a_slotHome, a_waitingOp, a_waitingLeft, a_leftKnown, a_argKind, a_argValue, a_argHome) p := by
  unfold wpX_addBody
  have hin : vp_in (nI c) 16 := vp_in_nI hc (by decide)
  dsimp only
  rw [nI_clamp (by omega), nI_1]
  exact nm_e ⟨hin, nm_e ⟨hin, nm_e ⟨hin, nm_e h⟩⟩⟩
theorem xl_decl {post : St2 → Prop} {b i x : Nat} {t : Int32} (hb : b < 16) (hi : i < 256) (hv : a_tokenValue i = nI x) (hx : x < 16)
    (h0 : a_declKind (b * 16 + x) = 0 → post (f_depthLimit, f_state, f_trapCode, f_begun, f_tokenTotal, f_printedTotal, f_stackSize, f_bodyCount, f_declaredTwice, f_liveDepth, f_position, a_tokenKind, a_tokenValue, a_printed, a_stack, a_bodyParent, a_bodyStart, upd a_declCount b (a_declCount b + 1), a_paramCount, a_paramName, upd a_declKind (b * 16 + x) (a_tokenKind i), upd a_declTarget (b * 16 + x) t, a_tokenBody, a_branchTarget, a_liveBody, a_liveParent, a_returnTo, a_slotValue, a_slotHome, a_waitingOp, a_waitingLeft, a_leftKnown, a_argKind, a_argValue, a_argHome))
    (h1 : ¬ a_declKind (b * 16 + x) = 0 → post (f_depthLimit, f_state, f_trapCode, f_begun, f_tokenTotal, f_printedTotal, f_stackSize, f_bodyCount, 1, f_liveDepth, f_position, a_tokenKind, a_tokenValue, a_printed, a_stack, a_bodyParent, a_bodyStart, upd a_declCount b (a_declCount b + 1), a_paramCount, a_paramName, upd a_declKind (b * 16 + x) (a_tokenKind i), upd a_declTarget (b * 16 + x) t, a_tokenBody, a_branchTarget, a_liveBody, a_liveParent, a_returnTo, a_slotValue, a_slotHome, a_waitingOp, a_waitingLeft, a_leftKnown, a_argKind, a_argValue, a_argHome)) :
    wpX_declare post (f_depthLimit, f_state, f_trapCode, f_begun, f_tokenTotal, f_printedTotal, f_stackSize, f_bodyCount, f_declaredTwice, f_liveDepth, f_position, a_tokenKind, a_tokenValue, a_printed, a_stack, a_bodyParent, a_bodyStart, a_declCount, a_paramCount, a_paramName, a_declKind, a_declTarget, a_tokenBody, a_branchTarget, a_liveBody, a_liveParent, a_returnTo, a_slotValue, a_slotHome, a_waitingOp, a_waitingLeft, a_leftKnown, a_argKind, a_argValue, a_argHome) (nI b) (nI i) t := by
  unfold wpX_declare wX_declare_28
  have hbi : b * 16 + x < 256 := by omega
  have i1 : vp_in (nI b) 16 := vp_in_nI hb (by decide)
  have i2 : vp_in (nI i) 256 := vp_in_nI hi (by decide)
  have i3 : vp_in (nI (b * 16 + x)) 256 := vp_in_nI hbi (by decide)
  refine ⟨i2, nm_r (show _ = nI (b * 16 + x) by rw [nI_clamp (by omega), hv, li_m16, nI_add]) ⟨i3, ?_⟩⟩
  rw [nI_clamp (by omega), nI_clamp (n := i) (by omega), nI_clamp (n := b) (by omega)]
  exact br_c (fun e => ⟨i2, i3, nm_e ⟨i3, nm_e ⟨i1, i1, nm_e (h0 e)⟩⟩⟩) (fun e => ⟨i2, i3, nm_e ⟨i3, nm_e ⟨i1, i1, nm_e (h1 e)⟩⟩⟩)
theorem xl_close {post : Int32 → St2 → Prop} {b i o : Nat} (hb : b < 16) (ho : o < 16) (h0 : b = 0 → post (nI 0) (f_depthLimit, f_state, f_trapCode, f_begun, f_tokenTotal, f_printedTotal, f_stackSize, f_bodyCount, f_declaredTwice, f_liveDepth, f_position, a_tokenKind, a_tokenValue, a_printed, a_stack, a_bodyParent, a_bodyStart, a_declCount, a_paramCount, a_paramName, a_declKind, a_declTarget, a_tokenBody, a_branchTarget, a_liveBody, a_liveParent, a_returnTo, a_slotValue, a_slotHome, a_waitingOp, a_waitingLeft, a_leftKnown, a_argKind, a_argValue, a_argHome)) (h1 : b ≠ 0 → a_bodyParent b = nI o ∧ post (nI o) (f_depthLimit, f_state, f_trapCode, f_begun, f_tokenTotal, f_printedTotal, f_stackSize, f_bodyCount, f_declaredTwice, f_liveDepth, f_position, a_tokenKind, a_tokenValue, a_printed, a_stack, a_bodyParent, upd a_bodyStart o (nI (i + 1)), a_declCount, a_paramCount, a_paramName, a_declKind, a_declTarget, a_tokenBody, a_branchTarget, a_liveBody, a_liveParent, a_returnTo, a_slotValue, a_slotHome, a_waitingOp, a_waitingLeft, a_leftKnown, a_argKind, a_argValue, a_argHome)) : wpX_closeBody post (f_depthLimit, f_state, f_trapCode, f_begun, f_tokenTotal, f_printedTotal, f_stackSize, f_bodyCount, f_declaredTwice, f_liveDepth, f_position, a_tokenKind, a_tokenValue, a_printed, a_stack, a_bodyParent, a_bodyStart, a_declCount, a_paramCount, a_paramName, a_declKind, a_declTarget, a_tokenBody, a_branchTarget, a_liveBody, a_liveParent, a_returnTo, a_slotValue, a_slotHome, a_waitingOp, a_waitingLeft, a_leftKnown, a_argKind, a_argValue, a_argHome) (nI b) (nI i) := by
  unfold wpX_closeBody
  by_cases e : b = 0
  · subst e; exact br_t rfl (h0 rfl)
  · have h := h1 e
    refine br_f (nI_ne0 (by omega) (by omega)) ⟨vp_in_nI hb (by decide), nm_r (show _ = nI o by rw [nI_clamp (by omega)]; exact h.1) ⟨vp_in_nI ho (by decide), ?_⟩⟩
    rw [nI_clamp (by omega), nI_1]
    exact nm_e h.2
theorem xl_param {post : St2 → Prop} {b c : Nat} {v : Int32} (hb : b < 16) (hc : a_paramCount b = nI c) (hc2 : c ≤ 256)
    (h0 : c < 4 → post (f_depthLimit, f_state, f_trapCode, f_begun, f_tokenTotal, f_printedTotal, f_stackSize, f_bodyCount, f_declaredTwice, f_liveDepth, f_position, a_tokenKind, a_tokenValue, a_printed, a_stack, a_bodyParent, a_bodyStart, a_declCount, upd a_paramCount b (nI c + 1), upd a_paramName (b * 4 + c) v, a_declKind, a_declTarget, a_tokenBody, a_branchTarget, a_liveBody, a_liveParent, a_returnTo, a_slotValue, a_slotHome, a_waitingOp, a_waitingLeft, a_leftKnown, a_argKind, a_argValue, a_argHome)) (h1 : ¬ c < 4 → post (f_depthLimit, f_state, f_trapCode, f_begun, f_tokenTotal, f_printedTotal, f_stackSize, f_bodyCount, f_declaredTwice, f_liveDepth, f_position, a_tokenKind, a_tokenValue, a_printed, a_stack, a_bodyParent, a_bodyStart, a_declCount, upd a_paramCount b (nI c + 1), a_paramName, a_declKind, a_declTarget, a_tokenBody, a_branchTarget, a_liveBody, a_liveParent, a_returnTo, a_slotValue, a_slotHome, a_waitingOp, a_waitingLeft, a_leftKnown, a_argKind, a_argValue, a_argHome)) : wpX_addParam post (f_depthLimit, f_state, f_trapCode, f_begun, f_tokenTotal, f_printedTotal, f_stackSize, f_bodyCount, f_declaredTwice, f_liveDepth, f_position, a_tokenKind, a_tokenValue, a_printed, a_stack, a_bodyParent, a_bodyStart, a_declCount, a_paramCount, a_paramName, a_declKind, a_declTarget, a_tokenBody, a_branchTarget, a_liveBody, a_liveParent, a_returnTo, a_slotValue, a_slotHome, a_waitingOp, a_waitingLeft, a_leftKnown, a_argKind, a_argValue, a_argHome) (nI b) v := by
  unfold wpX_addParam wX_addParam_26
  have i1 : vp_in (nI b) 16 := vp_in_nI hb (by decide)
  refine ⟨i1, ?_⟩
  rw [nI_clamp (by omega), hc, li_m4, nI_add]
  by_cases e : c < 4
  · refine br_f (nI_ge (b := 4) e (by decide)) ⟨i1, vp_in_nI (by omega) (by decide), ?_⟩
    rw [nI_clamp (by omega)]
    exact nm_e ⟨i1, i1, nm_e (h0 e)⟩
  · exact br_t (nI_le (a := 4) (by omega) (by omega)) ⟨i1, i1, nm_e (h1 e)⟩
theorem xl_90 {post : Int32 → St2 → Prop} {J : Int32 → Int32 → Int32 → Int32 → Int32 → Int32 → Int32 → Int32 → Int32 → Int32 → Int32 → Int32 → Int32 → (Nat → Int32) → (Nat → Int32) → (Nat → Int32) → (Nat → Int32) → (Nat → Int32) → (Nat → Int32) → (Nat → Int32) → (Nat → Int32) → (Nat → Int32) → (Nat → Int32) → (Nat → Int32) → (Nat → Int32) → (Nat → Int32) → (Nat → Int32) → (Nat → Int32) → (Nat → Int32) → (Nat → Int32) → (Nat → Int32) → (Nat → Int32) → (Nat → Int32) → (Nat → Int32) → (Nat → Int32) → (Nat → Int32) → (Nat → Int32) → Prop} {x i d p : Nat} (hx : x < 16) (hd : a_declCount x = nI d) (hp : a_paramCount x = nI p) (hd2 : d ≤ 256) (hp2 : p ≤ 256)
    (hbad : ¬ (d ≤ 8 ∧ p ≤ 4) → post 0 (f_depthLimit, f_state, f_trapCode, f_begun, f_tokenTotal, f_printedTotal, f_stackSize, f_bodyCount, f_declaredTwice, f_liveDepth, f_position, a_tokenKind, a_tokenValue, a_printed, a_stack, a_bodyParent, a_bodyStart, a_declCount, a_paramCount, a_paramName, a_declKind, a_declTarget, a_tokenBody, a_branchTarget, a_liveBody, a_liveParent, a_returnTo, a_slotValue, a_slotHome, a_waitingOp, a_waitingLeft, a_leftKnown, a_argKind, a_argValue, a_argHome)) (hok : d ≤ 8 ∧ p ≤ 4 → J (nI x) (nI (i + 1)) f_depthLimit f_state f_trapCode f_begun f_tokenTotal f_printedTotal f_stackSize f_bodyCount f_declaredTwice f_liveDepth f_position a_tokenKind a_tokenValue a_printed a_stack a_bodyParent a_bodyStart a_declCount a_paramCount a_paramName a_declKind a_declTarget a_tokenBody a_branchTarget a_liveBody a_liveParent a_returnTo a_slotValue a_slotHome a_waitingOp a_waitingLeft a_leftKnown a_argKind a_argValue a_argHome) : wX_layOutBodies_90 post J (nI x) (nI i) f_depthLimit f_state f_trapCode f_begun f_tokenTotal f_printedTotal f_stackSize f_bodyCount f_declaredTwice f_liveDepth f_position a_tokenKind a_tokenValue a_printed a_stack a_bodyParent a_bodyStart a_declCount a_paramCount a_paramName a_declKind a_declTarget a_tokenBody a_branchTarget a_liveBody a_liveParent a_returnTo a_slotValue a_slotHome a_waitingOp a_waitingLeft a_leftKnown a_argKind a_argValue a_argHome := by
  unfold wX_layOutBodies_90
  have i1 : vp_in (nI x) 16 := vp_in_nI hx (by decide)
  refine ⟨i1, ?_⟩
  rw [nI_clamp (by omega), hd, hp]
  by_cases e : 8 < d
  · exact br_t (nI_lt (a := 8) e (by omega)) (hbad (by omega))
  · refine br_f (nI_nlt (b := d) (a := 8) (by omega) (by omega)) ⟨i1, ?_⟩
    by_cases e2 : p ≤ 4
    · exact br_t (nI_le (b := 4) e2 (by decide)) (nm_r (nI_1 i) (hok ⟨by omega, e2⟩))
    · exact br_f (nI_ge (a := 4) (by omega) (by omega)) (hbad (by omega))
theorem xl_tok0 {post : St2 → Prop} {b i k : Nat} (hi : i < 256) (hk : a_tokenKind i = nI k) (hk2 : k = 7 ∨ k = 8 ∨ k = 9 ∨ (11 ≤ k ∧ k ≤ 26)) (h : post (f_depthLimit, f_state, f_trapCode, f_begun, f_tokenTotal, f_printedTotal, f_stackSize, f_bodyCount, f_declaredTwice, f_liveDepth, f_position, a_tokenKind, a_tokenValue, a_printed, a_stack, a_bodyParent, a_bodyStart, a_declCount, a_paramCount, a_paramName, a_declKind, a_declTarget, a_tokenBody, a_branchTarget, a_liveBody, a_liveParent, a_returnTo, a_slotValue, a_slotHome, a_waitingOp, a_waitingLeft, a_leftKnown, a_argKind, a_argValue, a_argHome)) : wpX_layOutToken post (f_depthLimit, f_state, f_trapCode, f_begun, f_tokenTotal, f_printedTotal, f_stackSize, f_bodyCount, f_declaredTwice, f_liveDepth, f_position, a_tokenKind, a_tokenValue, a_printed, a_stack, a_bodyParent, a_bodyStart, a_declCount, a_paramCount, a_paramName, a_declKind, a_declTarget, a_tokenBody, a_branchTarget, a_liveBody, a_liveParent, a_returnTo, a_slotValue, a_slotHome, a_waitingOp, a_waitingLeft, a_leftKnown, a_argKind, a_argValue, a_argHome) (nI b) (nI i) := by
  unfold wpX_layOutToken
  refine ⟨vp_in_nI hi (by decide), nm_r (show _ = nI k by rw [nI_clamp (by omega)]; exact hk) ?_⟩
  rcases hk2 with rfl | rfl | rfl | ⟨h1, h2⟩
  · exact br_f (by decide) (br_f (by decide) (br_f (by decide) (br_f (by decide) (br_f (by decide) (br_f (by decide) (br_f (by decide) (br_f (by decide) (br_t rfl h))))))))
  · exact br_f (by decide) (br_f (by decide) (br_f (by decide) (br_f (by decide) (br_f (by decide) (br_f (by decide) (br_f (by decide) (br_f (by decide) (br_f (by decide) (br_t rfl h)))))))))
  · exact br_f (by decide) (br_f (by decide) (br_f (by decide) (br_f (by decide) (br_f (by decide) (br_f (by decide) (br_f (by decide) (br_f (by decide) (br_f (by decide) (br_f (by decide) (br_t rfl h))))))))))
  · exact br_f (nI_nlt (b := 1) (by omega) (by omega)) (br_t (nI_lt (a := 10) (by omega) (by omega)) h)
theorem xl_tok1 {post : St2 → Prop} {b i : Nat} (hb : b < 16) (hi : i < 256) (hk : a_tokenKind i = nI 1) (h : post (f_depthLimit, f_state, f_trapCode, f_begun, f_tokenTotal, f_printedTotal, f_stackSize, f_bodyCount, f_declaredTwice, f_liveDepth, f_position, a_tokenKind, a_tokenValue, a_printed, a_stack, a_bodyParent, upd a_bodyStart b (nI (i + 1)), a_declCount, a_paramCount, a_paramName, a_declKind, a_declTarget, a_tokenBody, a_branchTarget, a_liveBody, a_liveParent, a_returnTo, a_slotValue, a_slotHome, a_waitingOp, a_waitingLeft, a_leftKnown, a_argKind, a_argValue, a_argHome)) : wpX_layOutToken post (f_depthLimit, f_state, f_trapCode, f_begun, f_tokenTotal, f_printedTotal, f_stackSize, f_bodyCount, f_declaredTwice, f_liveDepth, f_position, a_tokenKind, a_tokenValue, a_printed, a_stack, a_bodyParent, a_bodyStart, a_declCount, a_paramCount, a_paramName, a_declKind, a_declTarget, a_tokenBody, a_branchTarget, a_liveBody, a_liveParent, a_returnTo, a_slotValue, a_slotHome, a_waitingOp, a_waitingLeft, a_leftKnown, a_argKind, a_argValue, a_argHome) (nI b) (nI i) := by
  unfold wpX_layOutToken
  refine ⟨vp_in_nI hi (by decide), nm_r (show _ = nI 1 by rw [nI_clamp (by omega)]; exact hk) ?_⟩
  rw [nI_1, nI_clamp (n := b) (by omega)]
  exact br_f (by decide) (br_f (by decide) (br_t rfl ⟨vp_in_nI hb (by decide), nm_e h⟩))
theorem xl_tok3 {post : St2 → Prop} {b i : Nat} (hb : b < 16) (hi : i < 256) (hk : a_tokenKind i = nI 3) (h : wpX_declare post (f_depthLimit, f_state, f_trapCode, f_begun, f_tokenTotal, f_printedTotal, f_stackSize, f_bodyCount, f_declaredTwice, f_liveDepth, f_position, a_tokenKind, a_tokenValue, a_printed, a_stack, a_bodyParent, upd a_bodyStart b (nI (i + 1)), a_declCount, a_paramCount, a_paramName, a_declKind, a_declTarget, a_tokenBody, a_branchTarget, a_liveBody, a_liveParent, a_returnTo, a_slotValue, a_slotHome, a_waitingOp, a_waitingLeft, a_leftKnown, a_argKind, a_argValue, a_argHome) (nI b) (nI i) 0) : wpX_layOutToken post (f_depthLimit, f_state, f_trapCode, f_begun, f_tokenTotal, f_printedTotal, f_stackSize, f_bodyCount, f_declaredTwice, f_liveDepth, f_position, a_tokenKind, a_tokenValue, a_printed, a_stack, a_bodyParent, a_bodyStart, a_declCount, a_paramCount, a_paramName, a_declKind, a_declTarget, a_tokenBody, a_branchTarget, a_liveBody, a_liveParent, a_returnTo, a_slotValue, a_slotHome, a_waitingOp, a_waitingLeft, a_leftKnown, a_argKind, a_argValue, a_argHome) (nI b) (nI i) := by
  unfold wpX_layOutToken
  refine ⟨vp_in_nI hi (by decide), nm_r (show _ = nI 3 by rw [nI_clamp (by omega)]; exact hk) ?_⟩
  rw [nI_1, nI_clamp (n := b) (by omega)]
  exact br_f (by decide) (br_f (by decide) (br_f (by decide) (br_f (by decide) (br_t rfl ⟨vp_in_nI hb (by decide), nm_e h⟩))))
theorem xl_tok10 {post : St2 → Prop} {b i : Nat} (hi : i < 256) (hk : a_tokenKind i = nI 10) (h : wpX_declare post (f_depthLimit, f_state, f_trapCode, f_begun, f_tokenTotal, f_printedTotal, f_stackSize, f_bodyCount, f_declaredTwice, f_liveDepth, f_position, a_tokenKind, a_tokenValue, a_printed, a_stack, a_bodyParent, a_bodyStart, a_declCount, a_paramCount, a_paramName, a_declKind, a_declTarget, a_tokenBody, a_branchTarget, a_liveBody, a_liveParent, a_returnTo, a_slotValue, a_slotHome, a_waitingOp, a_waitingLeft, a_leftKnown, a_argKind, a_argValue, a_argHome) (nI b) (nI i) (nI (i + 1))) : wpX_layOutToken post (f_depthLimit, f_state, f_trapCode, f_begun, f_tokenTotal, f_printedTotal, f_stackSize, f_bodyCount, f_declaredTwice, f_liveDepth, f_position, a_tokenKind, a_tokenValue, a_printed, a_stack, a_bodyParent, a_bodyStart, a_declCount, a_paramCount, a_paramName, a_declKind, a_declTarget, a_tokenBody, a_branchTarget, a_liveBody, a_liveParent, a_returnTo, a_slotValue, a_slotHome, a_waitingOp, a_waitingLeft, a_leftKnown, a_argKind, a_argValue, a_argHome) (nI b) (nI i) := by
  unfold wpX_layOutToken
  refine ⟨vp_in_nI hi (by decide), nm_r (show _ = nI 10 by rw [nI_clamp (by omega)]; exact hk) ?_⟩
  rw [nI_1]
  exact br_f (by decide) (br_f (by decide) (br_f (by decide) (br_f (by decide) (br_f (by decide) (br_f (by decide) (br_f (by decide) (br_f (by decide) (br_f (by decide) (br_f (by decide) (br_f (by decide) (br_t rfl h)))))))))))
theorem xl_tok5 {post : St2 → Prop} {b i k : Nat} (hi : i < 256) (hk : a_tokenKind i = nI k) (hk2 : k = 5 ∨ k = 6)
    (h : wX_layOutToken_103 post (nI b) (nI i) f_depthLimit f_state f_trapCode f_begun f_tokenTotal f_printedTotal f_stackSize f_bodyCount f_declaredTwice f_liveDepth f_position a_tokenKind a_tokenValue a_printed a_stack a_bodyParent a_bodyStart a_declCount a_paramCount a_paramName a_declKind a_declTarget a_tokenBody a_branchTarget a_liveBody a_liveParent a_returnTo a_slotValue a_slotHome a_waitingOp a_waitingLeft a_leftKnown a_argKind a_argValue a_argHome) : wpX_layOutToken post (f_depthLimit, f_state, f_trapCode, f_begun, f_tokenTotal, f_printedTotal, f_stackSize, f_bodyCount, f_declaredTwice, f_liveDepth, f_position, a_tokenKind, a_tokenValue, a_printed, a_stack, a_bodyParent, a_bodyStart, a_declCount, a_paramCount, a_paramName, a_declKind, a_declTarget, a_tokenBody, a_branchTarget, a_liveBody, a_liveParent, a_returnTo, a_slotValue, a_slotHome, a_waitingOp, a_waitingLeft, a_leftKnown, a_argKind, a_argValue, a_argHome) (nI b) (nI i) := by
  unfold wpX_layOutToken
  refine ⟨vp_in_nI hi (by decide), nm_r (show _ = nI k by rw [nI_clamp (by omega)]; exact hk) ?_⟩
  rcases hk2 with rfl | rfl
  · exact br_f (by decide) (br_f (by decide) (br_f (by decide) (br_f (by decide) (br_f (by decide) (br_f (by decide) (br_t rfl h))))))
  · exact br_f (by decide) (br_f (by decide) (br_f (by decide) (br_f (by decide) (br_f (by decide) (br_f (by decide) (br_f (by decide) (br_t rfl h)))))))
end
section
variable {f_depthLimit f_state f_trapCode f_begun f_tokenTotal f_printedTotal f_stackSize f_bodyCount f_declaredTwice f_liveDepth f_position : Int32} {a_tokenKind a_tokenValue a_printed a_stack a_bodyParent a_bodyStart a_declCount a_paramCount a_paramName a_declKind a_declTarget a_tokenBody a_branchTarget a_liveBody a_liveParent a_returnTo a_slotValue a_slotHome a_waitingOp a_waitingLeft a_leftKnown a_argKind a_argValue a_argHome : Nat → Int32}
/-- the component lays out the bodies: from token 1 on -/
theorem xl_12 {post : Int32 → St2 → Prop} {K V : Nat → Nat} {n : Nat} (hn : gr_cf K n = some ([], 0)) (h256 : n ≤ 256) (htk : ∀ i, i < n → a_tokenKind i = nI (K i) ∧ 1 ≤ K i ∧ K i ≤ 26) (htv : ∀ i, i < n → gr_D (K i) → a_tokenValue i = nI (V i) ∧ V i < 16)
    (hbad : ¬ gr_LM K n → ∀ (bc tw : Int32) (bp bs dc pc pm dk dt tb : Nat → Int32), post 0 (f_depthLimit, f_state, f_trapCode, f_begun, nI n, f_printedTotal, f_stackSize, bc, tw, f_liveDepth, f_position, a_tokenKind, a_tokenValue, a_printed, a_stack, bp, bs, dc, pc, pm, dk, dt, tb, a_branchTarget, a_liveBody, a_liveParent, a_returnTo, a_slotValue, a_slotHome, a_waitingOp, a_waitingLeft, a_leftKnown, a_argKind, a_argValue, a_argHome))
    (hok : gr_LM K n → ∀ (bc tw : Int32) (bp bs dc pc pm dk dt tb : Nat → Int32), xl_A K n n tb → xl_B K n n bp → lo_S K n bs → xl_C K n n dc pc → xl_N K V n n pm → xl_T K V n n tw dk dt → post 1 (f_depthLimit, f_state, f_trapCode, f_begun, nI n, f_printedTotal, f_stackSize, bc, tw, f_liveDepth, f_position, a_tokenKind, a_tokenValue, a_printed, a_stack, bp, bs, dc, pc, pm, dk, dt, tb, a_branchTarget, a_liveBody, a_liveParent, a_returnTo, a_slotValue, a_slotHome, a_waitingOp, a_waitingLeft, a_leftKnown, a_argKind, a_argValue, a_argHome)) :
    ∀ (d i f : Nat) (L : List (Nat × Nat)) (e : Nat) (tw : Int32) (bp bs dc pc pm dk dt tb : Nat → Int32), i + d = n → d < f → 1 ≤ i → gr_cf K i = some (L, e) → lo_G K n i L →
      xl_A K n i tb → xl_B K n i bp → lo_S K i bs → xl_C K n i dc pc → xl_N K V n i pm → xl_T K V n i tw dk dt →
      wX_layOutBodies_12 post f (nI (gr_xb K L)) (nI i) f_depthLimit f_state f_trapCode f_begun (nI n) f_printedTotal f_stackSize (nI (gr_np K i + 1)) tw f_liveDepth f_position a_tokenKind a_tokenValue a_printed a_stack bp bs dc pc pm dk dt tb a_branchTarget a_liveBody a_liveParent a_returnTo a_slotValue a_slotHome a_waitingOp a_waitingLeft a_leftKnown a_argKind a_argValue a_argHome := by
  intro d
  induction d with
  | zero =>
    intro i f L e tw bp bs dc pc pm dk dt tb hi hf h1 hc hG hA hB hS hC hN hT
    have : i = n := by omega
    subst this
    rw [hn] at hc
    cases hc
    cases f with
    | zero => omega
    | succ f => exact br_t (nI_le (Nat.le_refl _) (by omega)) (hok (lo_G_end hn hG) _ _ _ _ _ _ _ _ _ _ hA hB hS hC hN hT)
  | succ d ih =>
    intro i f L e tw bp bs dc pc pm dk dt tb hi hf h1 hc hG hA hB hS hC hN hT
    cases f with
    | zero => omega
    | succ f =>
      have hin : i < n := by omega
      have h256i : i < 256 := by omega
      obtain ⟨k1, k2, k3⟩ := htk i hin
      obtain ⟨L', e', hc'⟩ := gr_exle hn (show i + 1 ≤ n by omega)
      have hx : lo_x K n i = gr_xb K L := (gr_xbo hn hin hc).1
      have hso := lo_xb_le (K := K) L i (gr_sorted i _ _ h1 hc)
      have hso' := lo_xb_le (K := K) L' (i + 1) (gr_sorted (i + 1) _ _ (by omega) hc')
      have hxl : gr_xb K L ≤ gr_np K i := hso.1
      have hx16 : gr_xb K L < 16 := by have := hG.1; omega
      have hVd : ∀ d, d ≤ i → gr_D (K d) → V d < 16 := fun d hd h => (htv d (by omega) h).2
      have hKd : ∀ d, d ≤ i → K d < 27 := fun d hd => by have := (htk d (by omega)).2.2; omega
      have fin : ∀ (tw : Int32) (bp bs dc pc pm dk dt tb : Nat → Int32), gr_np K (i + 1) ≤ 15 → xl_A K n (i + 1) tb → xl_B K n (i + 1) bp → lo_S K (i + 1) bs → xl_C K n (i + 1) dc pc → xl_N K V n (i + 1) pm → xl_T K V n (i + 1) tw dk dt →
          wX_layOutBodies_90 post (wX_layOutBodies_12 post f) (nI (gr_xb K L')) (nI i) f_depthLimit f_state f_trapCode f_begun (nI n) f_printedTotal f_stackSize (nI (gr_np K (i + 1) + 1)) tw f_liveDepth f_position a_tokenKind a_tokenValue a_printed a_stack bp bs dc pc pm dk dt tb a_branchTarget a_liveBody a_liveParent a_returnTo a_slotValue a_slotHome a_waitingOp a_waitingLeft a_leftKnown a_argKind a_argValue a_argHome := by
        intro tw bp bs dc pc pm dk dt tb hnp hA hB hS hC hN hT
        have c := hC _ hso'.1
        have c2 := @lo_dn_le K n (gr_xb K L') (i + 1)
        refine xl_90 (by omega) c.1 c.2 (by omega) (by omega) (fun hb => ?_) (fun hg => ?_)
        · exact hbad (lo_fail hn (by omega) hc' hb) _ _ _ _ _ _ _ _ _ _
        · exact ih (i + 1) f L' e' tw bp bs dc pc pm dk dt tb (by omega) (by omega) (by omega) hc' (lo_G_s hn h1 hin hc hc' hG hnp hg) hA hB hS hC hN hT
      have hA' : xl_A K n (i + 1) (upd tb i (nI (gr_xb K L))) := by rw [← hx]; exact xl_A_s hA
      refine br_f (nI_ge (by omega) (by omega)) ⟨vp_in_nI h256i (by decide), ?_⟩
      rw [nI_clamp (by omega)]
      refine nm_e ⟨vp_in_nI h256i (by decide), nm_r k1 ?_⟩
      by_cases k4 : K i = 4
      · have hD : gr_D (K i) := by simp only [gr_D]; omega
        have hv := htv i hin hD
        refine br_t (by rw [k4]; rfl) ?_
        by_cases c16 : gr_np K i + 1 = 16
        · refine br_t (by rw [c16]; rfl) (hbad ?_ _ _ _ _ _ _ _ _ _ _)
          intro hL
          have m := @gr_np_mono K (i + 1) n (by omega)
          rw [gr_np_4 k4] at m
          have := hL.1
          omega
        · have hnp4 := gr_np_4 k4
          have hG1 := hG.1
          have hmv : gr_xb K L' = gr_np K (i + 1) := by
            rcases lo_mv hn h1 hin hc hc' with h | h | h
            · exact h.2.2
            · omega
            · exact absurd k4 h.1
          have htg : nI (gr_np K i + 1) = nI (lo_tg K i) := by unfold lo_tg; rw [if_pos k4, hnp4]
          have go : ∀ (tw : Int32) (dk dt : Nat → Int32), xl_T K V n (i + 1) tw dk dt →
              wpX_addBody (fun r_194 u => match u with | (f_depthLimit, f_state, f_trapCode, f_begun, f_tokenTotal, f_printedTotal, f_stackSize, f_bodyCount, f_declaredTwice, f_liveDepth, f_position, a_tokenKind, a_tokenValue, a_printed, a_stack, a_bodyParent, a_bodyStart, a_declCount, a_paramCount, a_paramName, a_declKind, a_declTarget, a_tokenBody, a_branchTarget, a_liveBody, a_liveParent, a_returnTo, a_slotValue, a_slotHome, a_waitingOp, a_waitingLeft, a_leftKnown, a_argKind, a_argValue, a_argHome) => wX_layOutBodies_90 post (wX_layOutBodies_12 post f) r_194 (nI i) f_depthLimit f_state f_trapCode f_begun f_tokenTotal f_printedTotal f_stackSize f_bodyCount f_declaredTwice f_liveDepth f_position a_tokenKind a_tokenValue a_printed a_stack a_bodyParent a_bodyStart a_declCount a_paramCount a_paramName a_declKind a_declTarget a_tokenBody a_branchTarget a_liveBody a_liveParent a_returnTo a_slotValue a_slotHome a_waitingOp a_waitingLeft a_leftKnown a_argKind a_argValue a_argHome) (f_depthLimit, f_state, f_trapCode, f_begun, nI n, f_printedTotal, f_stackSize, nI (gr_np K i + 1), tw, f_liveDepth, f_position, a_tokenKind, a_tokenValue, a_printed, a_stack, bp, bs, upd dc (gr_xb K L) (dc (gr_xb K L) + 1), pc, pm, dk, dt, upd tb i (nI (gr_xb K L)), a_branchTarget, a_liveBody, a_liveParent, a_returnTo, a_slotValue, a_slotHome, a_waitingOp, a_waitingLeft, a_leftKnown, a_argKind, a_argValue, a_argHome) (nI (gr_xb K L)) := by
            intro tw dk dt hT'
            refine xl_add (by omega) ?_
            have := fin tw (upd bp (gr_np K i + 1) (nI (gr_xb K L))) bs (upd (upd dc (gr_xb K L) (dc (gr_xb K L) + 1)) (gr_np K i + 1) 0) (upd pc (gr_np K i + 1) 0) pm dk dt (upd tb i (nI (gr_xb K L))) (by omega) hA'
              (by rw [← hx]; exact xl_B_4 hB k4) (lo_S_n hS (fun b L2 h2 => by have := lo_top1 hn h1 hin h2; omega)) (by rw [← hx] at hxl ⊢; exact xl_C_4 hn hin hC hxl k4) (xl_N_n hN (by omega)) hT'
            rw [hmv, hnp4] at this
            exact this
          refine br_f (fun h => c16 ((li_e (by omega) (by decide)).mp h)) (xl_decl hx16 h256i hv.1 hv.2 (fun h0 => ?_) (fun h0 => ?_))
          · refine go tw _ _ ?_
            rw [← hx] at h0 ⊢
            rw [k1, htg]
            exact xl_T_d0 hT hVd hKd hD h0
          · refine go 1 _ _ ?_
            rw [← hx] at h0 ⊢
            exact xl_T_d1 hT hv.2 (by omega) hD h0
      · refine br_f (fun h => k4 ((li_e (by omega) (by decide)).mp h)) ?_
        have hnpn := gr_np_n k4
        have hG1 := hG.1
        by_cases k2' : K i = 2
        · refine br_t (by rw [k2']; rfl) ?_
          have hD : ¬ gr_D (K i) := by simp only [gr_D]; omega
          obtain ⟨c1, hc1, hs⟩ := gr_step hn hin hc
          have hL : ∃ t p, L = (t, p) :: L' ∧ e = 0 ∧ e' = 0 ∧ (t = 1 ∨ t = 2) := by
            rw [hc'] at hc1
            injection hc1 with hc1
            subst hc1
            rcases gr_cases hs with ⟨L2, e2, e3, r1, r2, h3⟩ | ⟨t1, p1, L2, e3, r1, r2, h3⟩ | ⟨t1, p1, L2, u, e3, r1, r2, h3⟩ | ⟨t1, p1, L2, u, r1, r2, h3⟩ | ⟨t1, p1, L2, r1, r2, h3⟩
            · simp only [gr_c1] at h3; omega
            · simp only [gr_c2] at h3; omega
            · simp only [gr_c3] at h3; omega
            · simp only [gr_c4] at h3; omega
            · cases r1; cases r2
              have := @gr_n_t (K i) t1
              exact ⟨t1, p1, rfl, rfl, rfl, by simp only [gr_c5] at h3; omega⟩
          obtain ⟨t, p, rfl, rfl, rfl, ht⟩ := hL
          have hxp : gr_xb K ((t, p) :: L') = gr_np K p := lo_xb_12 ht
          have rest := fun (bs : Nat → Int32) (hS' : lo_S K (i + 1) bs) => fin tw bp bs dc pc pm dk dt (upd tb i (nI (gr_xb K ((t, p) :: L')))) (by omega) hA' (xl_B_n hB k4) hS' (xl_C_n hC hD) (xl_N_n hN (by omega)) (xl_T_n hT hD)
          rw [hnpn] at rest
          rcases lo_out hn h1 hin hc ht with ⟨p0, hL0⟩ | ⟨p0, q, r, L2, q1, q2, q3, q4, q5, q6⟩
          · subst hL0; subst p0
            refine xl_close (o := 0) hx16 (by omega) (fun _ => ?_) (fun h => absurd hxp h)
            exact rest bs (lo_S_n hS (fun b L2 h2 => by rw [hc'] at h2; simp at h2))
          · subst q4
            have hr : gr_xb K ((1, r) :: L2) = gr_np K r := lo_xb_12 (.inl rfl)
            have hr16 : gr_xb K ((1, r) :: L2) < 16 := by have := hso'.1; omega
            refine xl_close (o := gr_xb K ((1, r) :: L2)) hx16 hr16 (fun h => ?_) (fun _ => ⟨?_, ?_⟩)
            · have := gr_np_4 q2
              omega
            · have := hB.2 q (by have := (gr_sorted i _ _ h1 hc).1; simp only at this; omega) q2
              rw [hxp, q3, this, hr]
              unfold lo_x
              rw [q5]
            · refine rest _ ?_
              rw [hr]
              exact lo_S_w hn hin hS hc'
        · refine br_f (fun h => k2' ((li_e (by omega) (by decide)).mp h)) ?_
          have hmv : gr_xb K L' = gr_xb K L := by
            rcases lo_mv hn h1 hin hc hc' with h | h | h
            · omega
            · omega
            · exact h.2.2.2
          have fin' := fun (tw : Int32) (bs dc pc pm dk dt : Nat → Int32) => fin tw bp bs dc pc pm dk dt (upd tb i (nI (gr_xb K L))) (by omega) hA' (xl_B_n hB k4)
          rw [hnpn, hmv] at fin'
          by_cases kk1 : K i = 1
          · have hD : ¬ gr_D (K i) := by simp only [gr_D]; omega
            refine xl_tok1 hx16 h256i (by rw [k1, kk1]) (fin' _ _ _ _ _ _ _ ?_ (xl_C_n hC hD) (xl_N_n hN (by omega)) (xl_T_n hT hD))
            have hcc : ∃ L2, gr_cf K (i + 1) = some ((1, i) :: L2, 0) := by
              obtain ⟨p, L2, rfl⟩ := (gr_k3 hn h1 hin hc).mp (.inl kk1)
              have he := (gr_top3 i _ _ h1 hc p L2 rfl).2
              subst he
              exact ⟨L2, by rw [gr_next hc]; simp [gr_st, kk1]⟩
            obtain ⟨L2, hcc⟩ := hcc
            have hxi : gr_xb K L = gr_np K i := by
              rw [← hmv]
              rw [hc'] at hcc
              injection hcc with hcc
              injection hcc with hcc _
              rw [hcc]
              exact lo_xb_12 (.inl rfl)
            rw [hxi]
            exact lo_S_w hn hin hS hcc
          · by_cases kk3 : K i = 3
            · have hD : gr_D (K i) := by simp only [gr_D]; omega
              have hv := htv i hin hD
              have hcc : ∃ p L2, gr_cf K (i + 1) = some ((1, p) :: L2, 0) ∧ gr_xb K L = gr_np K p := by
                obtain ⟨c1, hc1, hs⟩ := gr_step hn hin hc
                rcases gr_cases hs with ⟨L2, e2, e3, r1, r2, h3⟩ | ⟨t1, p1, L2, e3, r1, r2, h3⟩ | ⟨t1, p1, L2, u, e3, r1, r2, h3⟩ | ⟨t1, p1, L2, u, r1, r2, h3⟩ | ⟨t1, p1, L2, r1, r2, h3⟩
                · simp only [gr_c1] at h3; omega
                · cases r1
                  have h4 : t1 = 1 ∧ e3 = 0 := by simp only [gr_c2] at h3; omega
                  obtain ⟨rfl, rfl⟩ := h4
                  refine ⟨p1, L2, ?_, lo_xb_12 (.inl rfl)⟩
                  rw [hc1, r2]; simp [gr_n, kk3]
                · simp only [gr_c3] at h3; omega
                · simp only [gr_c4] at h3; omega
                · simp only [gr_c5] at h3; omega
              obtain ⟨p, L2, hcc, hxp⟩ := hcc
              have hS' : lo_S K (i + 1) (upd bs (gr_xb K L) (nI (i + 1))) := by rw [hxp]; exact lo_S_w hn hin hS hcc
              have htg : (0 : Int32) = nI (lo_tg K i) := by unfold lo_tg; rw [if_neg k4, if_neg (by omega)]; rfl
              have hC' : xl_C K n (i + 1) (upd dc (gr_xb K L) (dc (gr_xb K L) + 1)) pc := by rw [← hx] at hxl ⊢; exact xl_C_d hC hxl (.inl kk3)
              refine xl_tok3 hx16 h256i (by rw [k1, kk3]) (xl_decl hx16 h256i hv.1 hv.2 (fun h0 => ?_) (fun h0 => ?_))
              · refine fin' _ _ _ _ _ _ _ hS' hC' (xl_N_n hN (by omega)) ?_
                rw [← hx] at h0 ⊢
                rw [k1, htg]
                exact xl_T_d0 hT hVd hKd hD h0
              · refine fin' _ _ _ _ _ _ _ hS' hC' (xl_N_n hN (by omega)) ?_
                rw [← hx] at h0 ⊢
                exact xl_T_d1 hT hv.2 (by omega) hD h0
            · have hS' : lo_S K (i + 1) bs := lo_S_n hS (fun b L2 h2 => by have := lo_top1 hn h1 hin h2; omega)
              by_cases kk10 : K i = 10
              · have hD : gr_D (K i) := by simp only [gr_D]; omega
                have hv := htv i hin hD
                have htg : nI (i + 1) = nI (lo_tg K i) := by unfold lo_tg; rw [if_neg k4, if_pos kk10]
                have hC' : xl_C K n (i + 1) (upd dc (gr_xb K L) (dc (gr_xb K L) + 1)) pc := by rw [← hx] at hxl ⊢; exact xl_C_d hC hxl (.inr kk10)
                refine xl_tok10 h256i (by rw [k1, kk10]) (xl_decl hx16 h256i hv.1 hv.2 (fun h0 => ?_) (fun h0 => ?_))
                · refine fin' _ _ _ _ _ _ _ hS' hC' (xl_N_n hN (by omega)) ?_
                  rw [← hx] at h0 ⊢
                  rw [k1, htg]
                  exact xl_T_d0 hT hVd hKd hD h0
                · refine fin' _ _ _ _ _ _ _ hS' hC' (xl_N_n hN (by omega)) ?_
                  rw [← hx] at h0 ⊢
                  exact xl_T_d1 hT hv.2 (by omega) hD h0
              · by_cases kk5 : K i = 5 ∨ K i = 6
                · have hD : gr_D (K i) := by simp only [gr_D]; omega
                  have hv := htv i hin hD
                  have htg : (0 : Int32) = nI (lo_tg K i) := by unfold lo_tg; rw [if_neg k4, if_neg kk10]; rfl
                  have hpc := (hC _ hxl).2
                  have hpl := (@lo_dn_le K n (gr_xb K L) i).2
                  have par : ∀ (tw : Int32) (dk dt : Nat → Int32), xl_T K V n (i + 1) tw dk dt →
                      wpX_addParam (fun u => match u with | (f_depthLimit, f_state, f_trapCode, f_begun, f_tokenTotal, f_printedTotal, f_stackSize, f_bodyCount, f_declaredTwice, f_liveDepth, f_position, a_tokenKind, a_tokenValue, a_printed, a_stack, a_bodyParent, a_bodyStart, a_declCount, a_paramCount, a_paramName, a_declKind, a_declTarget, a_tokenBody, a_branchTarget, a_liveBody, a_liveParent, a_returnTo, a_slotValue, a_slotHome, a_waitingOp, a_waitingLeft, a_leftKnown, a_argKind, a_argValue, a_argHome) => wX_layOutBodies_90 post (wX_layOutBodies_12 post f) (nI (gr_xb K L)) (nI i) f_depthLimit f_state f_trapCode f_begun f_tokenTotal f_printedTotal f_stackSize f_bodyCount f_declaredTwice f_liveDepth f_position a_tokenKind a_tokenValue a_printed a_stack a_bodyParent a_bodyStart a_declCount a_paramCount a_paramName a_declKind a_declTarget a_tokenBody a_branchTarget a_liveBody a_liveParent a_returnTo a_slotValue a_slotHome a_waitingOp a_waitingLeft a_leftKnown a_argKind a_argValue a_argHome) (f_depthLimit, f_state, f_trapCode, f_begun, nI n, f_printedTotal, f_stackSize, nI (gr_np K i + 1), tw, f_liveDepth, f_position, a_tokenKind, a_tokenValue, a_printed, a_stack, bp, bs, upd dc (gr_xb K L) (dc (gr_xb K L) + 1), pc, pm, dk, dt, upd tb i (nI (gr_xb K L)), a_branchTarget, a_liveBody, a_liveParent, a_returnTo, a_slotValue, a_slotHome, a_waitingOp, a_waitingLeft, a_leftKnown, a_argKind, a_argValue, a_argHome) (nI (gr_xb K L)) (nI (V i)) := by
                    intro tw dk dt hT'
                    have hC' : xl_C K n (i + 1) (upd dc (gr_xb K L) (dc (gr_xb K L) + 1)) (upd pc (gr_xb K L) (nI (gr_pn K n (gr_xb K L) i) + 1)) := by
                      rw [← hpc]; rw [← hx] at hxl ⊢; exact xl_C_p hC hxl kk5
                    refine xl_param hx16 hpc (by omega) (fun h4 => ?_) (fun h4 => ?_)
                    · refine fin' tw _ _ _ _ _ _ hS' hC' ?_ hT'
                      rw [← hx] at h4 ⊢
                      exact xl_N_p hN kk5 h4
                    · refine fin' tw _ _ _ _ _ _ hS' hC' ?_ hT'
                      rw [← hx] at h4
                      exact xl_N_4 hN h4
                  refine xl_tok5 h256i k1 kk5 ?_
                  unfold wX_layOutToken_103
                  refine xl_decl hx16 h256i hv.1 hv.2 (fun h0 => ⟨vp_in_nI h256i (by decide), ?_⟩) (fun h0 => ⟨vp_in_nI h256i (by decide), ?_⟩)
                  · rw [nI_clamp (by omega), hv.1]
                    refine par tw _ _ ?_
                    rw [← hx] at h0 ⊢
                    rw [k1, htg]
                    exact xl_T_d0 hT hVd hKd hD h0
                  · rw [nI_clamp (by omega), hv.1]
                    refine par 1 _ _ ?_
                    rw [← hx] at h0 ⊢
                    exact xl_T_d1 hT hv.2 (by omega) hD h0
                · have hD : ¬ gr_D (K i) := by simp only [gr_D]; omega
                  exact xl_tok0 h256i k1 (by omega) (fin' _ _ _ _ _ _ _ hS' (xl_C_n hC hD) (xl_N_n hN (by omega)) (xl_T_n hT hD))
end
section
/-- what the component's tables say once it has compiled -/
def sx_P (K : Nat → Nat) (n : Nat) (bp : Nat → Int32) : Prop := bp 0 = 0 ∧ ∀ b b', b < n → K b = 1 → gr_pa K b = some b' → bp (gr_np K b) = nI (gr_np K b')
def sx_D (K V : Nat → Nat) (n : Nat) (dk dt : Nat → Int32) : Prop := ∀ b x, b < n → K b = 1 → x < 16 →
  (gr_dc K V n b x = none → dk (gr_np K b * 16 + x) = 0 ∧ dt (gr_np K b * 16 + x) = 0) ∧ (∀ d, gr_dc K V n b x = some d → dk (gr_np K b * 16 + x) = nI (K d) ∧ dt (gr_np K b * 16 + x) = nI (lo_tg K d))
def sx_Q (K V : Nat → Nat) (n : Nat) (pc pm : Nat → Int32) : Prop := ∀ q b, q < n → K q = 4 → q < b → b < n → K b = 1 → (∀ i, q < i → i < b → K i = 5 ∨ K i = 6) →
  b - q - 1 ≤ 4 ∧ pc (gr_np K b) = nI (b - q - 1) ∧ ∀ i, i < b - q - 1 → pm (gr_np K b * 4 + i) = nI (V (q + 1 + i))
def sx_B (K : Nat → Nat) (n : Nat) (bs : Nat → Int32) : Prop := ∀ s b L, 1 ≤ s → s < n → gr_cf K s = some ((1, b) :: L, 0) → K s ≠ 3 → K s ≠ 4 → bs (gr_np K b) = nI s
theorem sx_P_of {K : Nat → Nat} {n : Nat} {bp : Nat → Int32} (hn : gr_cf K n = some ([], 0)) (h : xl_B K n n bp) : sx_P K n bp := by
  refine ⟨h.1, fun b b' hb hk hp => ?_⟩
  have h0 : b ≠ 0 := by rintro rfl; simp [gr_pa, gr_cf, gr_cb] at hp
  obtain ⟨q, a1, a2, a3, a4, a5⟩ := gr_beg hn hb h0 hk
  rw [a5] at hp
  injection hp with hp
  rw [a3, h.2 q (by omega) a2]
  unfold lo_x
  rw [hp]
theorem sx_D_of {K V : Nat → Nat} {n : Nat} {dk dt : Nat → Int32} (hn : gr_cf K n = some ([], 0)) (hL : gr_LM K n) (h : lo_T K V n n dk dt) : sx_D K V n dk dt := by
  intro b x hb hk hx
  have h15 : gr_np K b < 16 := by
    have := @gr_np_mono K b n (by omega)
    have := hL.1
    omega
  constructor
  · intro hd
    refine h.2 _ _ h15 hx (fun d hd2 h1 h2 h3 => ?_)
    obtain ⟨L, e, hc⟩ := gr_exle hn (Nat.le_of_lt hd2)
    have hxb := gr_xbo hn hd2 hc
    have := (gr_np_inj hn hxb.2.2 hb hxb.2.1 hk).mp h2
    exact gr_dc_none hd d hd2 this h3 h1
  · intro d hd
    obtain ⟨a1, a2, a3, a4⟩ := gr_dc_some hd
    have := h.1 d a1 a4
    unfold lo_x at this
    rw [a2, a3] at this
    exact this
theorem sx_Q_of {K V : Nat → Nat} {n : Nat} {dc pc pm : Nat → Int32} (hn : gr_cf K n = some ([], 0)) (hL : gr_LM K n) (hC : xl_C K n n dc pc) (hN : xl_N K V n n pm) : sx_Q K V n pc pm := by
  intro q b hq hk hqb hb hkb hp
  have hpn := gr_pn_q hn hq hk hqb hb hkb hp
  have hn1 := hpn n (Nat.le_refl _)
  have e1 : min n b - (q + 1) = b - q - 1 := by omega
  rw [e1] at hn1
  have hl := (hL.2 b hb hkb).2
  rw [hn1] at hl
  refine ⟨hl, ?_, fun i hi => ?_⟩
  · rw [(hC _ (gr_np_mono (by omega))).2, hn1]
  · have hx : lo_x K n (q + 1 + i) = gr_np K b := ((gr_parOf hn hq hk hqb hb hkb hp (show q + 1 + i < n by omega)).mpr ⟨by omega, by omega⟩).2
    have h2 := hpn (q + 1 + i) (by omega)
    have e2 : min (q + 1 + i) b - (q + 1) = i := by omega
    rw [e2] at h2
    have := hN (q + 1 + i) (by omega) (hp _ (by omega) (by omega)) (by rw [hx, h2]; omega)
    rw [hx, h2] at this
    exact this
/-- a use matches what is declared; 0: nothing -/
def sx_k (K : Nat → Nat) : Option Nat → Nat
  | some d => K d
  | none => 0
theorem sx_us {K V : Nat → Nat} {n i : Nat} : gr_us K V n i ↔ gr_mk (K i) (sx_k K (gr_lk K V n (gr_bo K n i) (V i))) := by
  unfold gr_us
  constructor
  · intro h
    by_cases hU : gr_U (K i)
    · obtain ⟨d, h1, h2⟩ := h hU
      rw [h1]; exact h2
    · simp only [gr_U] at hU
      refine ⟨fun h => by omega, fun h => by omega, fun h => by omega⟩
  · intro h hU
    cases hl : gr_lk K V n (gr_bo K n i) (V i) with
    | some d => rw [hl] at h; exact ⟨d, rfl, h⟩
    | none =>
      rw [hl] at h
      simp only [gr_mk, sx_k, gr_U] at h hU
      omega
end
section
abbrev xn_nm (k : Nat) : Prop := k = 3 ∨ k = 4 ∨ k = 5 ∨ k = 6 ∨ k = 7 ∨ k = 9 ∨ k = 10 ∨ k = 11 ∨ k = 13 ∨ k = 19
theorem xn_car {post : Int32 → Prop} {k : Nat} (h1 : 1 ≤ k) (h2 : k ≤ 26) (ht : xn_nm k → post 1) (hf : ¬ xn_nm k → post 0) : wpX_carriesName post () (nI k) := by
  unfold wpX_carriesName
  rcases xs_26 h1 h2 with h | h | h | h | h | h | h | h | h | h | h | h | h | h | h | h | h | h | h | h | h | h | h | h | h | h <;> subst h
  · exact br_t (by decide) (hf (by omega))
  · exact br_t (by decide) (hf (by omega))
  · exact br_f (by decide) (br_f (by decide) (br_t rfl (ht (by omega))))
  · exact br_f (by decide) (br_f (by decide) (br_f (by decide) (br_t rfl (ht (by omega)))))
  · exact br_f (by decide) (br_f (by decide) (br_f (by decide) (br_f (by decide) (br_t rfl (ht (by omega))))))
  · exact br_f (by decide) (br_f (by decide) (br_f (by decide) (br_f (by decide) (br_f (by decide) (br_t rfl (ht (by omega)))))))
  · exact br_f (by decide) (br_f (by decide) (br_f (by decide) (br_f (by decide) (br_f (by decide) (br_f (by decide) (br_t rfl (ht (by omega))))))))
  · exact br_f (by decide) (br_f (by decide) (br_f (by decide) (br_f (by decide) (br_f (by decide) (br_f (by decide) (br_f (by decide) (br_t rfl (hf (by omega)))))))))
  · exact br_f (by decide) (br_f (by decide) (br_f (by decide) (br_f (by decide) (br_f (by decide) (br_f (by decide) (br_f (by decide) (br_f (by decide) (br_t rfl (ht (by omega))))))))))
  · exact br_f (by decide) (br_f (by decide) (br_f (by decide) (br_f (by decide) (br_f (by decide) (br_f (by decide) (br_f (by decide) (br_f (by decide) (br_f (by decide) (br_t rfl (ht (by omega)))))))))))
  · exact br_f (by decide) (br_f (by decide) (br_f (by decide) (br_f (by decide) (br_f (by decide) (br_f (by decide) (br_f (by decide) (br_f (by decide) (br_f (by decide) (br_f (by decide) (br_t rfl (ht (by omega))))))))))))
  · exact br_f (by decide) (br_f (by decide) (br_f (by decide) (br_f (by decide) (br_f (by decide) (br_f (by decide) (br_f (by decide) (br_f (by decide) (br_f (by decide) (br_f (by decide) (br_f (by decide) (br_t rfl (hf (by omega)))))))))))))
  · exact br_f (by decide) (br_f (by decide) (br_f (by decide) (br_f (by decide) (br_f (by decide) (br_f (by decide) (br_f (by decide) (br_f (by decide) (br_f (by decide) (br_f (by decide) (br_f (by decide) (br_f (by decide) (br_t rfl (ht (by omega))))))))))))))
  · exact br_f (by decide) (br_f (by decide) (br_f (by decide) (br_f (by decide) (br_f (by decide) (br_f (by decide) (br_f (by decide) (br_f (by decide) (br_f (by decide) (br_f (by decide) (br_f (by decide) (br_f (by decide) (br_f (by decide) (br_t rfl (hf (by omega)))))))))))))))
  · exact br_f (by decide) (br_f (by decide) (br_f (by decide) (br_f (by decide) (br_f (by decide) (br_f (by decide) (br_f (by decide) (br_f (by decide) (br_f (by decide) (br_f (by decide) (br_f (by decide) (br_f (by decide) (br_f (by decide) (br_f (by decide) (br_t rfl (hf (by omega))))))))))))))))
  · exact br_f (by decide) (br_f (by decide) (br_f (by decide) (br_f (by decide) (br_f (by decide) (br_f (by decide) (br_f (by decide) (br_f (by decide) (br_f (by decide) (br_f (by decide) (br_f (by decide) (br_f (by decide) (br_f (by decide) (br_f (by decide) (br_f (by decide) (br_t rfl (hf (by omega)))))))))))))))))
  · exact br_f (by decide) (br_f (by decide) (br_f (by decide) (br_f (by decide) (br_f (by decide) (br_f (by decide) (br_f (by decide) (br_f (by decide) (br_f (by decide) (br_f (by decide) (br_f (by decide) (br_f (by decide) (br_f (by decide) (br_f (by decide) (br_f (by decide) (br_f (by decide) (br_t rfl (hf (by omega))))))))))))))))))
  · exact br_f (by decide) (br_f (by decide) (br_f (by decide) (br_f (by decide) (br_f (by decide) (br_f (by decide) (br_f (by decide) (br_f (by decide) (br_f (by decide) (br_f (by decide) (br_f (by decide) (br_f (by decide) (br_f (by decide) (br_f (by decide) (br_f (by decide) (br_f (by decide) (br_f (by decide) (br_t rfl (hf (by omega)))))))))))))))))))
  · exact br_f (by decide) (br_f (by decide) (br_f (by decide) (br_f (by decide) (br_f (by decide) (br_f (by decide) (br_f (by decide) (br_f (by decide) (br_f (by decide) (br_f (by decide) (br_f (by decide) (br_f (by decide) (br_f (by decide) (br_f (by decide) (br_f (by decide) (br_f (by decide) (br_f (by decide) (br_f (by decide) (br_t rfl (ht (by omega))))))))))))))))))))
  · exact br_f (by decide) (br_t (by decide) (hf (by omega)))
  · exact br_f (by decide) (br_t (by decide) (hf (by omega)))
  · exact br_f (by decide) (br_t (by decide) (hf (by omega)))
  · exact br_f (by decide) (br_t (by decide) (hf (by omega)))
  · exact br_f (by decide) (br_t (by decide) (hf (by omega)))
  · exact br_f (by decide) (br_t (by decide) (hf (by omega)))
  · exact br_f (by decide) (br_t (by decide) (hf (by omega)))
theorem xn_mt {post : Int32 → Prop} {k d : Nat} (h1 : 1 ≤ k) (h2 : k ≤ 26) (hd : d ≤ 26) (ht : gr_mk k d → post 1) (hf : ¬ gr_mk k d → post 0) : wpX_matches post () (nI k) (nI d) := by
  have two : ∀ c e : Nat, c ≤ 26 → e ≤ 26 → (gr_mk k d ↔ d = c ∨ d = e) → (nI d = nI c → post 1) ∧ (¬ nI d = nI c → (nI d = nI e → post 1) ∧ (¬ nI d = nI e → post 0)) := by
    intro c e hc he h
    by_cases q : d = c
    · exact br_t (by rw [q]) (ht (h.mpr (.inl q)))
    · refine br_f (fun h2 => q ((nI_eq (by omega) (by omega)).mp h2)) ?_
      by_cases q2 : d = e
      · exact br_t (by rw [q2]) (ht (h.mpr (.inr q2)))
      · exact br_f (fun h2 => q2 ((nI_eq (by omega) (by omega)).mp h2)) (hf (fun h2 => by have := h.mp h2; omega))
  have one : (gr_mk k d ↔ d = 10) → (nI d = nI 10 → post 1) ∧ (¬ nI d = nI 10 → post 0) := by
    intro h
    by_cases q : d = 10
    · exact br_t (by rw [q]) (ht (h.mpr q))
    · exact br_f (fun h2 => q ((nI_eq (by omega) (by omega)).mp h2)) (hf (fun h2 => q (h.mp h2)))
  unfold wpX_matches
  rcases xs_26 h1 h2 with h | h | h | h | h | h | h | h | h | h | h | h | h | h | h | h | h | h | h | h | h | h | h | h | h | h <;> subst h
  · exact br_t (by decide) (ht (by simp [gr_mk]))
  · exact br_t (by decide) (ht (by simp [gr_mk]))
  · exact br_t (by decide) (ht (by simp [gr_mk]))
  · exact br_t (by decide) (ht (by simp [gr_mk]))
  · exact br_t (by decide) (ht (by simp [gr_mk]))
  · exact br_t (by decide) (ht (by simp [gr_mk]))
  · exact br_f (by decide) (br_f (by decide) (br_t rfl (two 3 5 (by decide) (by decide) (by simp [gr_mk]))))
  · exact br_f (by decide) (br_f (by decide) (br_f (by decide) (br_t rfl (ht (by simp [gr_mk])))))
  · exact br_f (by decide) (br_f (by decide) (br_f (by decide) (br_f (by decide) (br_t rfl (one (by simp [gr_mk]))))))
  · exact br_f (by decide) (br_f (by decide) (br_f (by decide) (br_f (by decide) (br_f (by decide) (br_t rfl (ht (by simp [gr_mk])))))))
  · exact br_f (by decide) (br_f (by decide) (br_f (by decide) (br_f (by decide) (br_f (by decide) (br_f (by decide) (br_t rfl (two 4 6 (by decide) (by decide) (by simp [gr_mk]))))))))
  · exact br_f (by decide) (br_f (by decide) (br_f (by decide) (br_f (by decide) (br_f (by decide) (br_f (by decide) (br_f (by decide) (br_t rfl (ht (by simp [gr_mk])))))))))
  · exact br_f (by decide) (br_f (by decide) (br_f (by decide) (br_f (by decide) (br_f (by decide) (br_f (by decide) (br_f (by decide) (br_f (by decide) (br_t rfl (two 4 6 (by decide) (by decide) (by simp [gr_mk]))))))))))
  · exact br_f (by decide) (br_f (by decide) (br_f (by decide) (br_f (by decide) (br_f (by decide) (br_f (by decide) (br_f (by decide) (br_f (by decide) (br_f (by decide) (br_t rfl (ht (by simp [gr_mk])))))))))))
  · exact br_f (by decide) (br_f (by decide) (br_f (by decide) (br_f (by decide) (br_f (by decide) (br_f (by decide) (br_f (by decide) (br_f (by decide) (br_f (by decide) (br_f (by decide) (br_t rfl (ht (by simp [gr_mk]))))))))))))
  · exact br_f (by decide) (br_f (by decide) (br_f (by decide) (br_f (by decide) (br_f (by decide) (br_f (by decide) (br_f (by decide) (br_f (by decide) (br_f (by decide) (br_f (by decide) (br_f (by decide) (br_t rfl (ht (by simp [gr_mk])))))))))))))
  · exact br_f (by decide) (br_f (by decide) (br_f (by decide) (br_f (by decide) (br_f (by decide) (br_f (by decide) (br_f (by decide) (br_f (by decide) (br_f (by decide) (br_f (by decide) (br_f (by decide) (br_f (by decide) (br_t rfl (ht (by simp [gr_mk]))))))))))))))
  · exact br_f (by decide) (br_f (by decide) (br_f (by decide) (br_f (by decide) (br_f (by decide) (br_f (by decide) (br_f (by decide) (br_f (by decide) (br_f (by decide) (br_f (by decide) (br_f (by decide) (br_f (by decide) (br_f (by decide) (br_t rfl (ht (by simp [gr_mk])))))))))))))))
  · exact br_f (by decide) (br_f (by decide) (br_f (by decide) (br_f (by decide) (br_f (by decide) (br_f (by decide) (br_f (by decide) (br_f (by decide) (br_f (by decide) (br_f (by decide) (br_f (by decide) (br_f (by decide) (br_f (by decide) (br_f (by decide) (br_t rfl (two 3 5 (by decide) (by decide) (by simp [gr_mk]))))))))))))))))
  · exact br_f (by decide) (br_t (by decide) (ht (by simp [gr_mk])))
  · exact br_f (by decide) (br_t (by decide) (ht (by simp [gr_mk])))
  · exact br_f (by decide) (br_t (by decide) (ht (by simp [gr_mk])))
  · exact br_f (by decide) (br_t (by decide) (ht (by simp [gr_mk])))
  · exact br_f (by decide) (br_t (by decide) (ht (by simp [gr_mk])))
  · exact br_f (by decide) (br_t (by decide) (ht (by simp [gr_mk])))
  · exact br_f (by decide) (br_t (by decide) (ht (by simp [gr_mk])))
variable {f_depthLimit f_state f_trapCode f_begun f_tokenTotal f_printedTotal f_stackSize f_bodyCount f_declaredTwice f_liveDepth f_position : Int32} {a_tokenKind a_tokenValue a_printed a_stack a_bodyParent a_bodyStart a_declCount a_paramCount a_paramName a_declKind a_declTarget a_tokenBody a_branchTarget a_liveBody a_liveParent a_returnTo a_slotValue a_slotHome a_waitingOp a_waitingLeft a_leftKnown a_argKind a_argValue a_argHome : Nat → Int32}
theorem xn_idx {b x : Nat} (hb : b < 16) (hx : x < 16) : nI b * 16 + nI x = nI (b * 16 + x) ∧ vp_in (nI (b * 16 + x)) 256 ∧ (nI (b * 16 + x)).toNatClampNeg = b * 16 + x := by
  refine ⟨by rw [li_m16, nI_add], vp_in_nI (by omega) (by decide), nI_clamp (by omega)⟩
theorem xn_39 {post : Int32 → Prop} {b x : Nat} (hb : b < 16) (hx : x < 16) (h : post (a_declKind (b * 16 + x))) : wX_nearestKind_39 post (nI x) (nI b) f_depthLimit f_state f_trapCode f_begun f_tokenTotal f_printedTotal f_stackSize f_bodyCount f_declaredTwice f_liveDepth f_position a_tokenKind a_tokenValue a_printed a_stack a_bodyParent a_bodyStart a_declCount a_paramCount a_paramName a_declKind a_declTarget a_tokenBody a_branchTarget a_liveBody a_liveParent a_returnTo a_slotValue a_slotHome a_waitingOp a_waitingLeft a_leftKnown a_argKind a_argValue a_argHome := by
  unfold wX_nearestKind_39
  have i := xn_idx hb hx
  rw [i.1, i.2.2]
  exact ⟨i.2.1, h⟩
theorem xn_near0 {post : Int32 → Prop} {x : Nat} (hx : x < 16) (hbp : a_bodyParent 0 = 0) (hdk : a_declKind x = 0) (h : post 0) : ∀ (d i f : Nat), i + d = 16 → d < f → wX_nearestKind_5 post (nI x) f_depthLimit f_state f_trapCode f_begun f_tokenTotal f_printedTotal f_stackSize f_bodyCount f_declaredTwice f_liveDepth f_position a_tokenKind a_tokenValue a_printed a_stack a_bodyParent a_bodyStart a_declCount a_paramCount a_paramName a_declKind a_declTarget a_tokenBody a_branchTarget a_liveBody a_liveParent a_returnTo a_slotValue a_slotHome a_waitingOp a_waitingLeft a_leftKnown a_argKind a_argValue a_argHome f (nI 0) (nI i) := by
  have e0 : (0 : Nat) * 16 + x = x := by omega
  intro d
  induction d with
  | zero =>
    intro i f hi hf
    cases f with
    | zero => omega
    | succ f => exact br_t (nI_le (a := 16) (by omega) (by omega)) (xn_39 (by decide) hx (by rw [e0, hdk]; exact h))
  | succ d ih =>
    intro i f hi hf
    cases f with
    | zero => omega
    | succ f =>
      refine br_f (nI_ge (b := 16) (by omega) (by decide)) ?_
      have ix := xn_idx (b := 0) (by decide) hx
      rw [ix.1, ix.2.2]
      refine ⟨ix.2.1, br_t (by rw [e0]; exact hdk) ⟨vp_in_nI (by decide) (by decide), nm_r (show _ = nI 0 from hbp) (nm_r (nI_1 i) (ih (i + 1) f (by omega) (by omega)))⟩⟩
theorem xn_near5 {post : Int32 → Prop} {K V : Nat → Nat} {n x : Nat} (hn : gr_cf K n = some ([], 0)) (hL : gr_LM K n) (hK : ∀ d, d < n → 1 ≤ K d ∧ K d ≤ 26) (hP : sx_P K n a_bodyParent) (hD : sx_D K V n a_declKind a_declTarget) (hx : x < 16) :
    ∀ (h b i f : Nat), gr_np K b ≤ h → b < n → K b = 1 → i + h < 16 → 16 - i < f → post (nI (sx_k K (gr_lk K V n b x))) → wX_nearestKind_5 post (nI x) f_depthLimit f_state f_trapCode f_begun f_tokenTotal f_printedTotal f_stackSize f_bodyCount f_declaredTwice f_liveDepth f_position a_tokenKind a_tokenValue a_printed a_stack a_bodyParent a_bodyStart a_declCount a_paramCount a_paramName a_declKind a_declTarget a_tokenBody a_branchTarget a_liveBody a_liveParent a_returnTo a_slotValue a_slotHome a_waitingOp a_waitingLeft a_leftKnown a_argKind a_argValue a_argHome f (nI (gr_np K b)) (nI i) := by
  intro h
  induction h with
  | zero =>
    intro b i f hb hbn hk hi hf hp
    have hb16 : gr_np K b < 16 := by omega
    cases hd : gr_dc K V n b x with
    | some d =>
      rw [gr_lk_d hd] at hp
      have hdd := (hD b x hbn hk hx).2 d hd
      have hKd := hK d (gr_dc_some hd).1
      cases f with
      | zero => omega
      | succ f =>
        refine br_f (nI_ge (b := 16) (by omega) (by decide)) ?_
        have ix := xn_idx hb16 hx
        rw [ix.1, ix.2.2]
        refine ⟨ix.2.1, br_f (by rw [hdd.1]; exact nI_ne0 (by omega) (by omega)) (xn_39 hb16 hx (by rw [hdd.1]; exact hp))⟩
    | none =>
      have hb0 : b = 0 := by
        by_cases e : b = 0
        · exact e
        · obtain ⟨q, a1, a2, a3, a4, a5⟩ := gr_beg hn hbn e hk
          have := gr_np_4 a2
          omega
      subst hb0
      rw [gr_lk_0 hd (by simp [gr_pa, gr_cf, gr_cb])] at hp
      have hdd := ((hD 0 x hbn hk hx).1 hd).1
      have e0 : gr_np K 0 * 16 + x = x := by show 0 * 16 + x = x; omega
      rw [e0] at hdd
      exact xn_near0 hx hP.1 hdd hp (16 - i) i f (by omega) hf
  | succ h ih =>
    intro b i f hb hbn hk hi hf hp
    have hb16 : gr_np K b < 16 := by have := @gr_np_mono K b n (by omega); have := hL.1; omega
    cases f with
    | zero => omega
    | succ f =>
    cases hd : gr_dc K V n b x with
    | some d =>
      rw [gr_lk_d hd] at hp
      have hdd := (hD b x hbn hk hx).2 d hd
      have hKd := hK d (gr_dc_some hd).1
      refine br_f (nI_ge (b := 16) (by omega) (by decide)) ?_
      have ix := xn_idx hb16 hx
      rw [ix.1, ix.2.2]
      exact ⟨ix.2.1, br_f (by rw [hdd.1]; exact nI_ne0 (by omega) (by omega)) (xn_39 hb16 hx (by rw [hdd.1]; exact hp))⟩
    | none =>
      cases hpa : gr_pa K b with
      | none =>
        have hb0 := gr_pa_no hn hbn hk hpa
        subst hb0
        rw [gr_lk_0 hd hpa] at hp
        have hdd := ((hD 0 x hbn hk hx).1 hd).1
        have e0 : gr_np K 0 * 16 + x = x := by show 0 * 16 + x = x; omega
        rw [e0] at hdd
        exact xn_near0 hx hP.1 hdd hp (16 - i) i (f + 1) (by omega) hf
      | some b' =>
        have hlt := gr_pa_lt hn hbn hk hpa
        rw [gr_lk_p hn hbn hk hd hpa] at hp
        have hdd := ((hD b x hbn hk hx).1 hd).1
        refine br_f (nI_ge (b := 16) (by omega) (by decide)) ?_
        have ix := xn_idx hb16 hx
        rw [ix.1, ix.2.2]
        refine ⟨ix.2.1, br_t hdd ⟨vp_in_nI hb16 (by decide), nm_r (show _ = nI (gr_np K b') by rw [nI_clamp (by omega)]; exact hP.2 b b' hbn hk hpa) (nm_r (nI_1 i) (ih b' (i + 1) f (by omega) (by omega) hlt.2.1 (by omega) (by omega) hp))⟩⟩
theorem xn_near {post : Int32 → Prop} {K V : Nat → Nat} {n x b : Nat} (hn : gr_cf K n = some ([], 0)) (hL : gr_LM K n) (hK : ∀ d, d < n → 1 ≤ K d ∧ K d ≤ 26) (hP : sx_P K n a_bodyParent) (hD : sx_D K V n a_declKind a_declTarget) (hx : x < 16)
    (hb : b < n) (hk : K b = 1) (h : post (nI (sx_k K (gr_lk K V n b x)))) : wpX_nearestKind post (f_depthLimit, f_state, f_trapCode, f_begun, f_tokenTotal, f_printedTotal, f_stackSize, f_bodyCount, f_declaredTwice, f_liveDepth, f_position, a_tokenKind, a_tokenValue, a_printed, a_stack, a_bodyParent, a_bodyStart, a_declCount, a_paramCount, a_paramName, a_declKind, a_declTarget, a_tokenBody, a_branchTarget, a_liveBody, a_liveParent, a_returnTo, a_slotValue, a_slotHome, a_waitingOp, a_waitingLeft, a_leftKnown, a_argKind, a_argValue, a_argHome) (nI (gr_np K b)) (nI x) := by
  unfold wpX_nearestKind
  have : gr_np K b ≤ 15 := by have := @gr_np_mono K b n (by omega); have := hL.1; omega
  exact ⟨17, xn_near5 hn hL hK hP hD hx 15 b 0 17 this hb hk (by omega) (by omega) h⟩
theorem xn_all {post : Int32 → Prop} {K V : Nat → Nat} {n : Nat} (hn : gr_cf K n = some ([], 0)) (hL : gr_LM K n) (h256 : n ≤ 256) (htk : ∀ i, i < n → a_tokenKind i = nI (K i) ∧ 1 ≤ K i ∧ K i ≤ 26) (htv : ∀ i, i < n → xn_nm (K i) → a_tokenValue i = nI (V i) ∧ V i < 16)
    (hP : sx_P K n a_bodyParent) (hD : sx_D K V n a_declKind a_declTarget) (hA : xl_A K n n a_tokenBody) (ht : gr_US K V n → post 1) (hf : ¬ gr_US K V n → post 0) :
    ∀ (d i f : Nat), i + d = n → d < f → (∀ j, j < i → gr_us K V n j) → wX_allUsesMatch_2 post f_depthLimit f_state f_trapCode f_begun (nI n) f_printedTotal f_stackSize f_bodyCount f_declaredTwice f_liveDepth f_position a_tokenKind a_tokenValue a_printed a_stack a_bodyParent a_bodyStart a_declCount a_paramCount a_paramName a_declKind a_declTarget a_tokenBody a_branchTarget a_liveBody a_liveParent a_returnTo a_slotValue a_slotHome a_waitingOp a_waitingLeft a_leftKnown a_argKind a_argValue a_argHome f (nI i) := by
  have hK : ∀ d, d < n → 1 ≤ K d ∧ K d ≤ 26 := fun d hd => (htk d hd).2
  intro d
  induction d with
  | zero =>
    intro i f hi hfu hu
    have : i = n := by omega
    subst this
    cases f with
    | zero => omega
    | succ f => exact br_t (nI_le (Nat.le_refl _) (by omega)) (ht hu)
  | succ d ih =>
    intro i f hi hfu hu
    cases f with
    | zero => omega
    | succ f =>
      obtain ⟨k1, k2, k3⟩ := htk i (by omega)
      have hin : vp_in (nI i) 256 := vp_in_nI (by omega) (by decide)
      have hcl : (nI i).toNatClampNeg = i := nI_clamp (by omega)
      have next : gr_us K V n i → wX_allUsesMatch_2 post f_depthLimit f_state f_trapCode f_begun (nI n) f_printedTotal f_stackSize f_bodyCount f_declaredTwice f_liveDepth f_position a_tokenKind a_tokenValue a_printed a_stack a_bodyParent a_bodyStart a_declCount a_paramCount a_paramName a_declKind a_declTarget a_tokenBody a_branchTarget a_liveBody a_liveParent a_returnTo a_slotValue a_slotHome a_waitingOp a_waitingLeft a_leftKnown a_argKind a_argValue a_argHome f (nI (i + 1)) := by
        intro h
        refine ih (i + 1) f (by omega) (by omega) (fun j hj => ?_)
        by_cases e : j = i
        · subst e; exact h
        · exact hu j (by omega)
      refine br_f (nI_ge (by omega) (by omega)) ⟨hin, nm_r (show _ = nI (K i) by rw [hcl]; exact k1) (xn_car k2 k3 (fun hnm => ?_) (fun hnm => ?_))⟩
      · obtain ⟨v1, v2⟩ := htv i (by omega) hnm
        obtain ⟨L, e, hc⟩ := gr_exle hn (show i ≤ n by omega)
        have hxb := gr_xbo hn (show i < n by omega) hc
        refine br_f (by decide) ⟨hin, hin, ?_⟩
        rw [hcl, hA i (by omega), v1]
        refine xn_near hn hL hK hP hD v2 hxb.2.2 hxb.2.1 (xn_mt k2 k3 ?_ (fun h => ?_) (fun h => ?_))
        · cases hlk : gr_lk K V n (gr_bo K n i) (V i) with
          | none => simp [sx_k]
          | some d2 =>
            have key : ∀ (h b : Nat), gr_lf K V n (V i) h b = some d2 → d2 < n := by
              intro h
              induction h with
              | zero => intro b h2; simp [gr_lf] at h2
              | succ h ih2 =>
                intro b h2
                simp only [gr_lf] at h2
                cases hd : gr_dc K V n b (V i) with
                | some d3 => rw [hd] at h2; simp only at h2; injection h2 with h2; subst h2; exact (gr_dc_some hd).1
                | none =>
                  rw [hd] at h2
                  simp only at h2
                  cases hp : gr_pa K b with
                  | none => rw [hp] at h2; cases h2
                  | some b' => rw [hp] at h2; exact ih2 b' h2
            exact (hK d2 (key _ _ hlk)).2
        · exact br_f (by decide) (nm_r (nI_1 i) (next (sx_us.mpr h)))
        · exact br_t rfl (hf (fun hU => h (sx_us.mp (hU i (by omega)))))
      · refine br_t rfl (nm_r (nI_1 i) (next ?_))
        intro hU
        simp only [gr_U] at hU
        exact absurd (by omega) hnm
end
section
variable {f_depthLimit f_state f_trapCode f_begun f_tokenTotal f_printedTotal f_stackSize f_bodyCount f_declaredTwice f_liveDepth f_position : Int32} {a_tokenKind a_tokenValue a_printed a_stack a_bodyParent a_bodyStart a_declCount a_paramCount a_paramName a_declKind a_declTarget a_tokenBody a_branchTarget a_liveBody a_liveParent a_returnTo a_slotValue a_slotHome a_waitingOp a_waitingLeft a_leftKnown a_argKind a_argValue a_argHome : Nat → Int32}
theorem xk_83 {post : St2 → Prop} {J : Int32 → Int32 → Int32 → Int32 → Int32 → Int32 → Int32 → Int32 → Int32 → Int32 → Int32 → Int32 → (Nat → Int32) → (Nat → Int32) → (Nat → Int32) → (Nat → Int32) → (Nat → Int32) → (Nat → Int32) → (Nat → Int32) → (Nat → Int32) → (Nat → Int32) → (Nat → Int32) → (Nat → Int32) → (Nat → Int32) → (Nat → Int32) → (Nat → Int32) → (Nat → Int32) → (Nat → Int32) → (Nat → Int32) → (Nat → Int32) → (Nat → Int32) → (Nat → Int32) → (Nat → Int32) → (Nat → Int32) → (Nat → Int32) → (Nat → Int32) → Prop} {i s k p : Nat} (hs : s ≤ 256) (hi : i < 256) (hk : k ≤ 26) (h0 : s = 0 ∨ k ≠ 17 → J (nI (i + 1)) f_depthLimit f_state f_trapCode f_begun f_tokenTotal f_printedTotal (nI s) f_bodyCount f_declaredTwice f_liveDepth f_position a_tokenKind a_tokenValue a_printed a_stack a_bodyParent a_bodyStart a_declCount a_paramCount a_paramName a_declKind a_declTarget a_tokenBody a_branchTarget a_liveBody a_liveParent a_returnTo a_slotValue a_slotHome a_waitingOp a_waitingLeft a_leftKnown a_argKind a_argValue a_argHome)
    (h1 : s ≠ 0 → k = 17 → a_stack (s - 1) = nI p ∧ p < 256 ∧ J (nI (i + 1)) f_depthLimit f_state f_trapCode f_begun f_tokenTotal f_printedTotal (nI (s - 1)) f_bodyCount f_declaredTwice f_liveDepth f_position a_tokenKind a_tokenValue a_printed a_stack a_bodyParent a_bodyStart a_declCount a_paramCount a_paramName a_declKind a_declTarget a_tokenBody (upd a_branchTarget p (nI (i + 1))) a_liveBody a_liveParent a_returnTo a_slotValue a_slotHome a_waitingOp a_waitingLeft a_leftKnown a_argKind a_argValue a_argHome) : wX_linkBranches_83 post J (nI i) (nI k) f_depthLimit f_state f_trapCode f_begun f_tokenTotal f_printedTotal (nI s) f_bodyCount f_declaredTwice f_liveDepth f_position a_tokenKind a_tokenValue a_printed a_stack a_bodyParent a_bodyStart a_declCount a_paramCount a_paramName a_declKind a_declTarget a_tokenBody a_branchTarget a_liveBody a_liveParent a_returnTo a_slotValue a_slotHome a_waitingOp a_waitingLeft a_leftKnown a_argKind a_argValue a_argHome := by
  unfold wX_linkBranches_83
  by_cases e : s = 0
  · subst e
    exact br_t (by decide) (nm_r (nI_1 i) (h0 (.inl rfl)))
  · refine br_f (nI_nle (by omega) (by omega)) ?_
    by_cases q : k = 17
    · obtain ⟨a1, a2, a3⟩ := h1 e q
      subst q
      refine br_t rfl ?_
      rw [li_m1 (by omega), nI_clamp (n := s - 1) (by omega), a1, nI_clamp (n := p) (by omega), nI_1]
      exact ⟨vp_in_nI (by omega) (by decide), vp_in_nI a2 (by decide), nm_e (nm_e (nm_e a3))⟩
    · exact br_f (fun h => q ((nI_eq (b := 17) (by omega) (by decide)).mp h)) (nm_r (nI_1 i) (h0 (.inr q)))
/-- the component links the branches -/
theorem xk_link {post : St2 → Prop} {K : Nat → Nat} {n : Nat} (hn : gr_cf K n = some ([], 0)) (h256 : n ≤ 256) (htk : ∀ i, i < n → a_tokenKind i = nI (K i) ∧ 1 ≤ K i ∧ K i ≤ 26)
    (h : ∀ (s : Int32) (st bt : Nat → Int32), lo_B K n bt → post (f_depthLimit, f_state, f_trapCode, f_begun, nI n, f_printedTotal, s, f_bodyCount, f_declaredTwice, f_liveDepth, f_position, a_tokenKind, a_tokenValue, a_printed, st, a_bodyParent, a_bodyStart, a_declCount, a_paramCount, a_paramName, a_declKind, a_declTarget, a_tokenBody, bt, a_liveBody, a_liveParent, a_returnTo, a_slotValue, a_slotHome, a_waitingOp, a_waitingLeft, a_leftKnown, a_argKind, a_argValue, a_argHome)) :
    ∀ (d i f : Nat) (L : List (Nat × Nat)) (e : Nat) (st bt : Nat → Int32), i + d = n → d < f → 1 ≤ i → gr_cf K i = some (L, e) → lo_as st (lo_br L) → lo_B K i bt →
      wX_linkBranches_7 post f (nI i) f_depthLimit f_state f_trapCode f_begun (nI n) f_printedTotal (nI (lo_br L).length) f_bodyCount f_declaredTwice f_liveDepth f_position a_tokenKind a_tokenValue a_printed st a_bodyParent a_bodyStart a_declCount a_paramCount a_paramName a_declKind a_declTarget a_tokenBody bt a_liveBody a_liveParent a_returnTo a_slotValue a_slotHome a_waitingOp a_waitingLeft a_leftKnown a_argKind a_argValue a_argHome := by
  intro d
  induction d with
  | zero =>
    intro i f L e st bt hi hf h1 hc has hB
    have : i = n := by omega
    subst this
    cases f with
    | zero => omega
    | succ f => exact br_t (nI_le (Nat.le_refl _) (by omega)) (h _ _ _ hB)
  | succ d ih =>
    intro i f L e st bt hi hf h1 hc has hB
    cases f with
    | zero => omega
    | succ f =>
      have hin : i < n := by omega
      obtain ⟨k1, k2, k3⟩ := htk i hin
      obtain ⟨L', e', hc'⟩ := gr_exle hn (show i + 1 ≤ n by omega)
      have hlen := (gr_size i _ _ h1 hc).1
      have hbl := @lo_br_le L
      have hso := gr_sorted i _ _ h1 hc
      refine br_f (nI_ge (by omega) (by omega)) ⟨vp_in_nI (by omega) (by decide), nm_r (show _ = nI (K i) by rw [nI_clamp (by omega)]; exact k1) ?_⟩
      rcases lo_brmv hn h1 hin hc hc' with ⟨q1, q2⟩ | ⟨q1, p, L2, q2, q3, q4, q5⟩ | ⟨q1, t, p, L2, q2, q3, q4, q5, q6⟩ | ⟨q1, q2, q3, q4⟩
      · refine br_t (by rw [q1]; rfl) (xc_push (by omega) (nm_r (nI_1 i) ?_))
        have := ih (i + 1) f L' e' (upd st (lo_br L).length (nI i)) bt (by omega) (by omega) (by omega) hc' (by rw [q2]; exact ⟨lo_us, lo_as_u has (Nat.le_refl _)⟩) (lo_B_n hB (by omega))
        rw [q2] at this
        exact this
      · subst q2; subst q3
        rw [q4] at has ⊢
        simp only [List.length_cons]
        have hp : p < 256 := by have : p < i := hso.1; omega
        have hl2 := hbl
        rw [q4] at hl2
        simp only [List.length_cons] at hl2 hlen
        refine br_f (by rw [q1]; decide) (br_f (nI_nle (by omega) (by omega)) (br_t (by rw [q1]; rfl) ?_))
        rw [nI_pred, nI_clamp (n := (lo_br L2).length) (by omega), has.1, nI_clamp (n := p) (by omega), nI_1]
        refine ⟨vp_in_nI (by omega) (by decide), vp_in_nI hp (by decide), nm_e ⟨vp_in_nI (by omega) (by decide), nm_e (nm_e ?_)⟩⟩
        have := ih (i + 1) f L' e' (upd st (lo_br L2).length (nI i)) (upd bt p (nI (i + 1))) (by omega) (by omega) (by omega) hc' (by rw [q5]; exact ⟨lo_us, lo_as_u has.2 (Nat.le_refl _)⟩) (lo_B_w hn hB hin hc)
        rw [q5] at this
        exact this
      · subst q3; subst q4
        rw [q5] at has ⊢
        simp only [List.length_cons]
        have hp : p < 256 := by have : p < i := hso.1; omega
        have hl2 := hbl
        rw [q5] at hl2
        simp only [List.length_cons] at hl2 hlen
        refine br_f (by rw [q1]; decide) (br_f (nI_nle (by omega) (by omega)) (br_f (by rw [q1]; decide) ?_))
        refine xk_83 (p := p) (by omega) (by omega) k3 (fun h => by omega) (fun _ _ => ⟨has.1, hp, ?_⟩)
        have := ih (i + 1) f L' e' st (upd bt p (nI (i + 1))) (by omega) (by omega) (by omega) hc' (by rw [q6]; exact has.2) (lo_B_w hn hB hin hc)
        rw [q6] at this
        exact this
      · have go := ih (i + 1) f L' e' st bt (by omega) (by omega) (by omega) hc' (by rw [q4]; exact has) (lo_B_n hB (by omega))
        rw [q4] at go
        have g83 : wX_linkBranches_83 post (wX_linkBranches_7 post f) (nI i) (nI (K i)) f_depthLimit f_state f_trapCode f_begun (nI n) f_printedTotal (nI (lo_br L).length) f_bodyCount f_declaredTwice f_liveDepth f_position a_tokenKind a_tokenValue a_printed st a_bodyParent a_bodyStart a_declCount a_paramCount a_paramName a_declKind a_declTarget a_tokenBody bt a_liveBody a_liveParent a_returnTo a_slotValue a_slotHome a_waitingOp a_waitingLeft a_leftKnown a_argKind a_argValue a_argHome :=
          xk_83 (p := 0) (by omega) (by omega) k3 (fun _ => go) (fun _ h => by omega)
        refine br_f (fun h => q1 ((nI_eq (b := 15) (by omega) (by decide)).mp h)) (br_c (fun _ => g83) (fun _ => br_f (fun h => q2 ((nI_eq (b := 16) (by omega) (by decide)).mp h)) g83))
theorem xk_linkB {post : St2 → Prop} {K : Nat → Nat} {n : Nat} (hn : gr_cf K n = some ([], 0)) (h256 : n ≤ 256) (htk : ∀ i, i < n → a_tokenKind i = nI (K i) ∧ 1 ≤ K i ∧ K i ≤ 26)
    (h : ∀ (s : Int32) (st bt : Nat → Int32), lo_B K n bt → post (f_depthLimit, f_state, f_trapCode, f_begun, nI n, f_printedTotal, s, f_bodyCount, f_declaredTwice, f_liveDepth, f_position, a_tokenKind, a_tokenValue, a_printed, st, a_bodyParent, a_bodyStart, a_declCount, a_paramCount, a_paramName, a_declKind, a_declTarget, a_tokenBody, bt, a_liveBody, a_liveParent, a_returnTo, a_slotValue, a_slotHome, a_waitingOp, a_waitingLeft, a_leftKnown, a_argKind, a_argValue, a_argHome)) : wpX_linkBranches post (f_depthLimit, f_state, f_trapCode, f_begun, nI n, f_printedTotal, f_stackSize, f_bodyCount, f_declaredTwice, f_liveDepth, f_position, a_tokenKind, a_tokenValue, a_printed, a_stack, a_bodyParent, a_bodyStart, a_declCount, a_paramCount, a_paramName, a_declKind, a_declTarget, a_tokenBody, a_branchTarget, a_liveBody, a_liveParent, a_returnTo, a_slotValue, a_slotHome, a_waitingOp, a_waitingLeft, a_leftKnown, a_argKind, a_argValue, a_argHome) := by
  unfold wpX_linkBranches
  have h01 := gr_k01 hn
  obtain ⟨k1, k2, k3⟩ := htk 0 (by omega)
  have hc1 : gr_cf K 1 = some ([(1, 0)], 0) := by
    obtain ⟨L, e, hc⟩ := gr_exle hn (show 1 ≤ n by omega)
    rw [hc, (gr_one hc).2]
  refine ⟨n + 1, br_f (nI_ge (a := 0) (by omega) (by omega)) ⟨vp_in_nI (n := 0) (by omega) (by decide), nm_r (show _ = nI 1 by rw [← h01.2]; exact k1) (br_f (by decide) (br_t (by decide) ?_))⟩⟩
  refine xk_83 (i := 0) (k := 1) (s := 0) (p := 0) (by omega) (by omega) (by omega) (fun _ => ?_) (fun h => absurd rfl h)
  exact xk_link hn h256 htk h (n - 1) 1 n [(1, 0)] 0 _ _ (by omega) (by omega) (by omega) hc1 trivial (fun q t p L a1 a2 => by omega)
theorem xk_open22 {post : St2 → Prop} {a k : Nat} (ha : a < 17) (hk : k < 16) (sv0 sh0 : Nat → Int32)
    (h : ∀ sv sh, (∀ x, x < 16 → sv (a * 16 + x) = a_declTarget (k * 16 + x) ∧ sh (a * 16 + x) = nI a) → (∀ j, (j < a * 16 ∨ a * 16 + 16 ≤ j) → sv j = sv0 j ∧ sh j = sh0 j) → post (f_depthLimit, f_state, f_trapCode, f_begun, f_tokenTotal, f_printedTotal, f_stackSize, f_bodyCount, f_declaredTwice, nI a, a_bodyStart k, a_tokenKind, a_tokenValue, a_printed, a_stack, a_bodyParent, a_bodyStart, a_declCount, a_paramCount, a_paramName, a_declKind, a_declTarget, a_tokenBody, a_branchTarget, a_liveBody, a_liveParent, a_returnTo, sv, sh, a_waitingOp, a_waitingLeft, a_leftKnown, a_argKind, a_argValue, a_argHome)) :
    ∀ (d i f : Nat) (sv sh : Nat → Int32), i + d = 16 → d < f → (∀ x, x < i → sv (a * 16 + x) = a_declTarget (k * 16 + x) ∧ sh (a * 16 + x) = nI a) → (∀ j, (j < a * 16 ∨ a * 16 + 16 ≤ j) → sv j = sv0 j ∧ sh j = sh0 j) →
      wX_openActivation_22 post (nI k) f_depthLimit f_state f_trapCode f_begun f_tokenTotal f_printedTotal f_stackSize f_bodyCount f_declaredTwice (nI a) f_position f (nI i) a_tokenKind a_tokenValue a_printed a_stack a_bodyParent a_bodyStart a_declCount a_paramCount a_paramName a_declKind a_declTarget a_tokenBody a_branchTarget a_liveBody a_liveParent a_returnTo sv sh a_waitingOp a_waitingLeft a_leftKnown a_argKind a_argValue a_argHome := by
  intro d
  induction d with
  | zero =>
    intro i f sv sh hi hf h1 h2
    have : i = 16 := by omega
    subst this
    cases f with
    | zero => omega
    | succ f =>
      refine br_t (by decide) ⟨vp_in_nI hk (by decide), ?_⟩
      rw [nI_clamp (by omega)]
      exact nm_e (h sv sh h1 h2)
  | succ d ih =>
    intro i f sv sh hi hf h1 h2
    cases f with
    | zero => omega
    | succ f =>
      refine br_f (nI_ge (b := 16) (by omega) (by decide)) (nm_r (show _ = nI (a * 16 + i) by rw [li_m16, nI_add]) ?_)
      rw [li_m16, nI_add, nI_clamp (n := k * 16 + i) (by omega), nI_clamp (n := a * 16 + i) (by omega)]
      refine ⟨vp_in_nI (by omega) (by decide), vp_in_nI (by omega) (by decide), nm_e ⟨vp_in_nI (by omega) (by decide), nm_e (nm_r (nI_1 i) (ih (i + 1) f _ _ (by omega) (by omega) ?_ ?_))⟩⟩
      · intro x hx
        by_cases e : x = i
        · subst e; exact ⟨lo_us, lo_us⟩
        · rw [lo_un (by omega), lo_un (by omega)]; exact h1 x (by omega)
      · intro j hj
        rw [lo_un (by omega), lo_un (by omega)]; exact h2 j hj
theorem xk_open {post : St2 → Prop} {a k : Nat} {p : Int32} (ha : a < 17) (hk : k < 16)
    (h : ∀ sv sh, (∀ x, x < 16 → sv (a * 16 + x) = a_declTarget (k * 16 + x) ∧ sh (a * 16 + x) = nI a) → (∀ j, (j < a * 16 ∨ a * 16 + 16 ≤ j) → sv j = a_slotValue j ∧ sh j = a_slotHome j) → post (f_depthLimit, f_state, f_trapCode, f_begun, f_tokenTotal, f_printedTotal, f_stackSize, f_bodyCount, f_declaredTwice, nI a, a_bodyStart k, a_tokenKind, a_tokenValue, a_printed, a_stack, a_bodyParent, a_bodyStart, a_declCount, a_paramCount, a_paramName, a_declKind, a_declTarget, a_tokenBody, a_branchTarget, upd a_liveBody a (nI k), upd a_liveParent a p, a_returnTo, sv, sh, a_waitingOp, a_waitingLeft, a_leftKnown, a_argKind, a_argValue, a_argHome)) :
    wpX_openActivation post (f_depthLimit, f_state, f_trapCode, f_begun, f_tokenTotal, f_printedTotal, f_stackSize, f_bodyCount, f_declaredTwice, nI a, f_position, a_tokenKind, a_tokenValue, a_printed, a_stack, a_bodyParent, a_bodyStart, a_declCount, a_paramCount, a_paramName, a_declKind, a_declTarget, a_tokenBody, a_branchTarget, a_liveBody, a_liveParent, a_returnTo, a_slotValue, a_slotHome, a_waitingOp, a_waitingLeft, a_leftKnown, a_argKind, a_argValue, a_argHome) (nI k) p := by
  unfold wpX_openActivation
  dsimp only
  rw [nI_clamp (by omega)]
  refine ⟨vp_in_nI ha (by decide), nm_e ⟨vp_in_nI ha (by decide), nm_e ⟨17, ?_⟩⟩⟩
  exact xk_open22 ha hk a_slotValue a_slotHome h 16 0 17 _ _ (by omega) (by omega) (fun x hx => by omega) (fun j _ => ⟨rfl, rfl⟩)
/-- the component's tables, once it has compiled -/
def sx_S (K V : Nat → Nat) (n : Nat) (bp bs pc pm dk dt bt : Nat → Int32) : Prop := sx_P K n bp ∧ sx_B K n bs ∧ sx_Q K V n pc pm ∧ sx_D K V n dk dt ∧ lo_B K n bt
theorem xk_compile {post : Int32 → St2 → Prop} {K V : Nat → Nat} {n : Nat} (h256 : n ≤ 256) (htk : ∀ i, i < n → a_tokenKind i = nI (K i) ∧ 1 ≤ K i ∧ K i ≤ 26) (htv : ∀ i, i < n → xn_nm (K i) → a_tokenValue i = nI (V i) ∧ V i < 16)
    (h1 : gr_cf K n ≠ some ([], 0) → ∀ (ss : Int32) (st : Nat → Int32), post 1 (f_depthLimit, 0, f_trapCode, f_begun, nI n, f_printedTotal, ss, f_bodyCount, f_declaredTwice, f_liveDepth, f_position, a_tokenKind, a_tokenValue, a_printed, st, a_bodyParent, a_bodyStart, a_declCount, a_paramCount, a_paramName, a_declKind, a_declTarget, a_tokenBody, a_branchTarget, a_liveBody, a_liveParent, a_returnTo, a_slotValue, a_slotHome, a_waitingOp, a_waitingLeft, a_leftKnown, a_argKind, a_argValue, a_argHome))
    (h2 : gr_cf K n = some ([], 0) → ¬ gr_LM K n → ∀ (ss bc tw : Int32) (st bp bs dc pc pm dk dt tb : Nat → Int32), post 2 (f_depthLimit, 0, f_trapCode, f_begun, nI n, f_printedTotal, ss, bc, tw, f_liveDepth, f_position, a_tokenKind, a_tokenValue, a_printed, st, bp, bs, dc, pc, pm, dk, dt, tb, a_branchTarget, a_liveBody, a_liveParent, a_returnTo, a_slotValue, a_slotHome, a_waitingOp, a_waitingLeft, a_leftKnown, a_argKind, a_argValue, a_argHome))
    (h3 : gr_cf K n = some ([], 0) → gr_LM K n → ¬ (gr_ND K V n ∧ gr_US K V n) → ∀ (ss bc tw : Int32) (st bp bs dc pc pm dk dt tb : Nat → Int32), post 3 (f_depthLimit, 0, f_trapCode, f_begun, nI n, f_printedTotal, ss, bc, tw, f_liveDepth, f_position, a_tokenKind, a_tokenValue, a_printed, st, bp, bs, dc, pc, pm, dk, dt, tb, a_branchTarget, a_liveBody, a_liveParent, a_returnTo, a_slotValue, a_slotHome, a_waitingOp, a_waitingLeft, a_leftKnown, a_argKind, a_argValue, a_argHome))
    (h4 : gr_cf K n = some ([], 0) → gr_LM K n → gr_ND K V n → gr_US K V n → ∀ (ss bc tw : Int32) (st bp bs dc pc pm dk dt tb bt sv sh : Nat → Int32), sx_S K V n bp bs pc pm dk dt bt → (∀ x, x < 16 → sv x = dt x ∧ sh x = 0) →
      post 0 (f_depthLimit, 1, 0, 0, nI n, 0, ss, bc, tw, 0, bs 0, a_tokenKind, a_tokenValue, a_printed, st, bp, bs, dc, pc, pm, dk, dt, tb, bt, upd a_liveBody 0 0, upd a_liveParent 0 0, a_returnTo, sv, sh, a_waitingOp, a_waitingLeft, a_leftKnown, a_argKind, a_argValue, a_argHome)) :
    wpX_compile post (f_depthLimit, 0, f_trapCode, f_begun, nI n, f_printedTotal, f_stackSize, f_bodyCount, f_declaredTwice, f_liveDepth, f_position, a_tokenKind, a_tokenValue, a_printed, a_stack, a_bodyParent, a_bodyStart, a_declCount, a_paramCount, a_paramName, a_declKind, a_declTarget, a_tokenBody, a_branchTarget, a_liveBody, a_liveParent, a_returnTo, a_slotValue, a_slotHome, a_waitingOp, a_waitingLeft, a_leftKnown, a_argKind, a_argValue, a_argHome) := by
  unfold wpX_compile
  refine br_t rfl (xc_prog h256 htk (fun hn ss st => br_f (by decide) ?_) (fun hn ss st => br_t rfl (h1 hn ss st)))
  have htd : ∀ i, i < n → gr_D (K i) → a_tokenValue i = nI (V i) ∧ V i < 16 := fun i hi h => htv i hi (by simp only [gr_D] at h; simp only [xn_nm]; omega)
  have h01 := gr_k01 hn
  have hc1 : gr_cf K 1 = some ([(1, 0)], 0) := by
    obtain ⟨L, e, hc⟩ := gr_exle hn (show 1 ≤ n by omega)
    rw [hc, (gr_one hc).2]
  have np0 : gr_np K 0 = 0 := rfl
  have np1 : gr_np K 1 = 0 := by rw [gr_np_n (show K 0 ≠ 4 by omega)]; rfl
  have hx0 : lo_x K n 0 = 0 := by unfold lo_x; rw [gr_bo_1 (by omega) h01.2]; rfl
  unfold wpX_layOutBodies
  refine xl_clear (fun dk dt hz => xl_add (c := 0) (by decide) ⟨n + 1, ?_⟩)
  have main : ∀ (tb : Nat → Int32), xl_A K n 1 tb → wX_layOutBodies_12 (fun r_39 u => match u with | (f_depthLimit, f_state, f_trapCode, f_begun, f_tokenTotal, f_printedTotal, f_stackSize, f_bodyCount, f_declaredTwice, f_liveDepth, f_position, a_tokenKind, a_tokenValue, a_printed, a_stack, a_bodyParent, a_bodyStart, a_declCount, a_paramCount, a_paramName, a_declKind, a_declTarget, a_tokenBody, a_branchTarget, a_liveBody, a_liveParent, a_returnTo, a_slotValue, a_slotHome, a_waitingOp, a_waitingLeft, a_leftKnown, a_argKind, a_argValue, a_argHome) => ((r_39 = 0 → post 2 (f_depthLimit, f_state, f_trapCode, f_begun, f_tokenTotal, f_printedTotal, f_stackSize, f_bodyCount, f_declaredTwice, f_liveDepth, f_position, a_tokenKind, a_tokenValue, a_printed, a_stack, a_bodyParent, a_bodyStart, a_declCount, a_paramCount, a_paramName, a_declKind, a_declTarget, a_tokenBody, a_branchTarget, a_liveBody, a_liveParent, a_returnTo, a_slotValue, a_slotHome, a_waitingOp, a_waitingLeft, a_leftKnown, a_argKind, a_argValue, a_argHome)) ∧ (¬ r_39 = 0 → ((f_declaredTwice = 0 → wpX_allUsesMatch (fun r_77 => ((r_77 = 0 → post 3 (f_depthLimit, f_state, f_trapCode, f_begun, f_tokenTotal, f_printedTotal, f_stackSize, f_bodyCount, f_declaredTwice, f_liveDepth, f_position, a_tokenKind, a_tokenValue, a_printed, a_stack, a_bodyParent, a_bodyStart, a_declCount, a_paramCount, a_paramName, a_declKind, a_declTarget, a_tokenBody, a_branchTarget, a_liveBody, a_liveParent, a_returnTo, a_slotValue, a_slotHome, a_waitingOp, a_waitingLeft, a_leftKnown, a_argKind, a_argValue, a_argHome)) ∧ (¬ r_77 = 0 → wpX_linkBranches (fun u => match u with | (f_depthLimit, f_state, f_trapCode, f_begun, f_tokenTotal, f_printedTotal, f_stackSize, f_bodyCount, f_declaredTwice, f_liveDepth, f_position, a_tokenKind, a_tokenValue, a_printed, a_stack, a_bodyParent, a_bodyStart, a_declCount, a_paramCount, a_paramName, a_declKind, a_declTarget, a_tokenBody, a_branchTarget, a_liveBody, a_liveParent, a_returnTo, a_slotValue, a_slotHome, a_waitingOp, a_waitingLeft, a_leftKnown, a_argKind, a_argValue, a_argHome) => wpX_startMain (fun u => match u with | (f_depthLimit, f_state, f_trapCode, f_begun, f_tokenTotal, f_printedTotal, f_stackSize, f_bodyCount, f_declaredTwice, f_liveDepth, f_position, a_tokenKind, a_tokenValue, a_printed, a_stack, a_bodyParent, a_bodyStart, a_declCount, a_paramCount, a_paramName, a_declKind, a_declTarget, a_tokenBody, a_branchTarget, a_liveBody, a_liveParent, a_returnTo, a_slotValue, a_slotHome, a_waitingOp, a_waitingLeft, a_leftKnown, a_argKind, a_argValue, a_argHome) => post 0 (f_depthLimit, f_state, f_trapCode, f_begun, f_tokenTotal, f_printedTotal, f_stackSize, f_bodyCount, f_declaredTwice, f_liveDepth, f_position, a_tokenKind, a_tokenValue, a_printed, a_stack, a_bodyParent, a_bodyStart, a_declCount, a_paramCount, a_paramName, a_declKind, a_declTarget, a_tokenBody, a_branchTarget, a_liveBody, a_liveParent, a_returnTo, a_slotValue, a_slotHome, a_waitingOp, a_waitingLeft, a_leftKnown, a_argKind, a_argValue, a_argHome)) (f_depthLimit, f_state, f_trapCode, f_begun, f_tokenTotal, f_printedTotal, f_stackSize, f_bodyCount, f_declaredTwice, f_liveDepth, f_position, a_tokenKind, a_tokenValue, a_printed, a_stack, a_bodyParent, a_bodyStart, a_declCount, a_paramCount, a_paramName, a_declKind, a_declTarget, a_tokenBody, a_branchTarget, a_liveBody, a_liveParent, a_returnTo, a_slotValue, a_slotHome, a_waitingOp, a_waitingLeft, a_leftKnown, a_argKind, a_argValue, a_argHome)) (f_depthLimit, f_state, f_trapCode, f_begun, f_tokenTotal, f_printedTotal, f_stackSize, f_bodyCount, f_declaredTwice, f_liveDepth, f_position, a_tokenKind, a_tokenValue, a_printed, a_stack, a_bodyParent, a_bodyStart, a_declCount, a_paramCount, a_paramName, a_declKind, a_declTarget, a_tokenBody, a_branchTarget, a_liveBody, a_liveParent, a_returnTo, a_slotValue, a_slotHome, a_waitingOp, a_waitingLeft, a_leftKnown, a_argKind, a_argValue, a_argHome)))) (f_depthLimit, f_state, f_trapCode, f_begun, f_tokenTotal, f_printedTotal, f_stackSize, f_bodyCount, f_declaredTwice, f_liveDepth, f_position, a_tokenKind, a_tokenValue, a_printed, a_stack, a_bodyParent, a_bodyStart, a_declCount, a_paramCount, a_paramName, a_declKind, a_declTarget, a_tokenBody, a_branchTarget, a_liveBody, a_liveParent, a_returnTo, a_slotValue, a_slotHome, a_waitingOp, a_waitingLeft, a_leftKnown, a_argKind, a_argValue, a_argHome)) ∧ (¬ f_declaredTwice = 0 → post 3 (f_depthLimit, f_state, f_trapCode, f_begun, f_tokenTotal, f_printedTotal, f_stackSize, f_bodyCount, f_declaredTwice, f_liveDepth, f_position, a_tokenKind, a_tokenValue, a_printed, a_stack, a_bodyParent, a_bodyStart, a_declCount, a_paramCount, a_paramName, a_declKind, a_declTarget, a_tokenBody, a_branchTarget, a_liveBody, a_liveParent, a_returnTo, a_slotValue, a_slotHome, a_waitingOp, a_waitingLeft, a_leftKnown, a_argKind, a_argValue, a_argHome))))))
      n (nI (gr_xb K [(1, 0)])) (nI 1) f_depthLimit 0 f_trapCode f_begun (nI n) f_printedTotal ss (nI (gr_np K 1 + 1)) 0 f_liveDepth f_position a_tokenKind a_tokenValue a_printed st (upd a_bodyParent 0 0) (upd a_bodyStart 0 (nI 1)) (upd a_declCount 0 0) (upd a_paramCount 0 0) a_paramName dk dt tb a_branchTarget a_liveBody a_liveParent a_returnTo a_slotValue a_slotHome a_waitingOp a_waitingLeft a_leftKnown a_argKind a_argValue a_argHome := by
    intro tb hA
    refine xl_12 hn h256 htk htd (fun hL => ?_) (fun hL => ?_) (n - 1) 1 n [(1, 0)] 0 _ _ _ _ _ _ _ _ _ (by omega) (by omega) (Nat.le_refl _) hc1 ?_ hA ?_ ?_ ?_ ?_ ?_
    · intro bc tw bp bs dc pc pm dk dt tb
      exact br_t rfl (h2 hn hL ss bc tw st bp bs dc pc pm dk dt tb)
    · intro bc tw bp bs dc pc pm dk dt tb hA hB hS hC hN hT
      refine br_f (by decide) ?_
      rcases hT with ⟨rfl, hT1, hT2⟩ | ⟨rfl, hT1⟩
      · refine br_t rfl ?_
        have hND := (lo_N_iff hn).mp hT1
        have hP := sx_P_of hn hB
        have hD := sx_D_of hn hL hT2
        unfold wpX_allUsesMatch
        refine ⟨n + 1, xn_all hn hL h256 htk htv hP hD hA (fun hU => br_f (by decide) ?_) (fun hU => br_t rfl ?_) n 0 (n + 1) (by omega) (by omega) (fun j hj => by omega)⟩
        · refine xk_linkB hn h256 htk (fun s st' bt hBt => ?_)
          unfold wpX_startMain
          refine xk_open (a := 0) (k := 0) (by decide) (by decide) (fun sv sh q1 q2 => ?_)
          refine h4 hn hL hND hU s bc 0 st' bp bs dc pc pm dk dt tb bt sv sh ⟨hP, hS.1, sx_Q_of hn hL hC hN, hD, hBt⟩ (fun x hx => ?_)
          have := q1 x hx
          rw [show 0 * 16 + x = x by omega] at this
          exact this
        · exact h3 hn hL (fun h => hU h.2) ss bc 0 st bp bs dc pc pm dk dt tb
      · refine br_f (by decide) (h3 hn hL (fun h => hT1 ((lo_N_iff hn).mpr h.1)) ss bc 1 st bp bs dc pc pm dk dt tb)
    · refine ⟨by omega, fun k hk _ => ?_⟩
      have := @lo_dn_n K n k 0 (fun h => by have := h.1; simp only [gr_D] at this; omega)
      have h2 := @lo_pn_n K n k 0 (fun h => by omega)
      rw [this, h2]
      exact ⟨Nat.zero_le _, Nat.zero_le _⟩
    · refine ⟨lo_us, fun q hq h4 => ?_⟩
      have : q = 0 := by omega
      subst this; omega
    · refine ⟨fun s b L a1 a2 => by omega, fun b L hc => ?_⟩
      rw [hc1] at hc
      injection hc with hc
      injection hc with hc _
      injection hc with hc _
      injection hc with _ hc
      subst hc
      exact lo_us
    · intro k hk
      have hk0 : k = 0 := by omega
      subst hk0
      have := @lo_dn_n K n 0 0 (fun h => by have := h.1; simp only [gr_D] at this; omega)
      have h2 := @lo_pn_n K n 0 0 (fun h => by omega)
      rw [this, h2]
      exact ⟨lo_us, lo_us⟩
    · intro j hj h5
      have : j = 0 := by omega
      subst this; omega
    · refine .inl ⟨rfl, fun c d h5 h6 => by omega, fun d hd h5 => ?_, fun k x hk hx _ => hz _ (by omega)⟩
      have : d = 0 := by omega
      subst this
      simp only [gr_D] at h5
      omega
  obtain ⟨k1, k2, k3⟩ := htk 0 (by omega)
  refine br_f (nI_ge (a := 0) (by omega) (by omega)) ⟨vp_in_nI (n := 0) (by decide) (by decide), nm_e ⟨vp_in_nI (n := 0) (by decide) (by decide), nm_r (show _ = nI 1 by rw [← h01.2]; exact k1) (br_f (by decide) (br_f (by decide) (xl_tok1 (b := 0) (i := 0) (by decide) (by decide) (by rw [← h01.2]; exact k1) ?_)))⟩⟩
  refine xl_90 (x := 0) (i := 0) (d := 0) (p := 0) (by decide) lo_us lo_us (by omega) (by omega) (fun h => absurd ⟨by omega, by omega⟩ h) (fun _ => ?_)
  have := main (upd a_tokenBody 0 0) (fun j hj => by
    have : j = 0 := by omega
    subst this
    rw [hx0]; exact lo_us)
  rw [np1] at this
  exact this
end
section
variable {f_depthLimit f_state f_trapCode f_begun f_tokenTotal f_printedTotal f_stackSize f_bodyCount f_declaredTwice f_liveDepth f_position : Int32} {a_tokenKind a_tokenValue a_printed a_stack a_bodyParent a_bodyStart a_declCount a_paramCount a_paramName a_declKind a_declTarget a_tokenBody a_branchTarget a_liveBody a_liveParent a_returnTo a_slotValue a_slotHome a_waitingOp a_waitingLeft a_leftKnown a_argKind a_argValue a_argHome : Nat → Int32}
theorem rx_apply {post : Int32 → St2 → Prop} {k : Nat} {l r : Int32} (h1 : 20 ≤ k) (h2 : k ≤ 26) (hs : ∀ c, gr_ap k l r = some c → post c (f_depthLimit, f_state, f_trapCode, f_begun, f_tokenTotal, f_printedTotal, f_stackSize, f_bodyCount, f_declaredTwice, f_liveDepth, f_position, a_tokenKind, a_tokenValue, a_printed, a_stack, a_bodyParent, a_bodyStart, a_declCount, a_paramCount, a_paramName, a_declKind, a_declTarget, a_tokenBody, a_branchTarget, a_liveBody, a_liveParent, a_returnTo, a_slotValue, a_slotHome, a_waitingOp, a_waitingLeft, a_leftKnown, a_argKind, a_argValue, a_argHome)) (hn : gr_ap k l r = none → post 0 (f_depthLimit, f_state, 1, f_begun, f_tokenTotal, f_printedTotal, f_stackSize, f_bodyCount, f_declaredTwice, f_liveDepth, f_position, a_tokenKind, a_tokenValue, a_printed, a_stack, a_bodyParent, a_bodyStart, a_declCount, a_paramCount, a_paramName, a_declKind, a_declTarget, a_tokenBody, a_branchTarget, a_liveBody, a_liveParent, a_returnTo, a_slotValue, a_slotHome, a_waitingOp, a_waitingLeft, a_leftKnown, a_argKind, a_argValue, a_argHome)) : wpX_apply post (f_depthLimit, f_state, f_trapCode, f_begun, f_tokenTotal, f_printedTotal, f_stackSize, f_bodyCount, f_declaredTwice, f_liveDepth, f_position, a_tokenKind, a_tokenValue, a_printed, a_stack, a_bodyParent, a_bodyStart, a_declCount, a_paramCount, a_paramName, a_declKind, a_declTarget, a_tokenBody, a_branchTarget, a_liveBody, a_liveParent, a_returnTo, a_slotValue, a_slotHome, a_waitingOp, a_waitingLeft, a_leftKnown, a_argKind, a_argValue, a_argHome) (nI k) l r := by
  unfold wpX_apply
  have hk : k = 20 ∨ k = 21 ∨ k = 22 ∨ k = 23 ∨ k = 24 ∨ k = 25 ∨ k = 26 := by omega
  rcases hk with e | e | e | e | e | e | e <;> subst e
  · exact br_f (by decide) (br_f (by decide) (br_t rfl (hs _ rfl)))
  · exact br_f (by decide) (br_f (by decide) (br_f (by decide) (br_t rfl (hs _ rfl))))
  · exact br_f (by decide) (br_f (by decide) (br_f (by decide) (br_f (by decide) (br_t rfl (hs _ rfl)))))
  · refine br_f (by decide) (br_f (by decide) (br_f (by decide) (br_f (by decide) (br_f (by decide) (br_t rfl ?_)))))
    unfold wX_apply_78
    by_cases r0 : r = 0
    · exact br_t r0 (hn (by simp [gr_ap, r0]))
    · exact br_f r0 (br_t rfl ⟨r0, hs _ (by simp [gr_ap, r0])⟩)
  · refine br_f (by decide) (br_f (by decide) (br_f (by decide) (br_f (by decide) (br_f (by decide) (br_f (by decide) (br_t rfl ?_))))))
    unfold wX_apply_78
    by_cases r0 : r = 0
    · exact br_t r0 (hn (by simp [gr_ap, r0]))
    · exact br_f r0 (br_f (by decide) ⟨r0, hs _ (by simp [gr_ap, r0])⟩)
  · refine br_f (by decide) (br_f (by decide) (br_f (by decide) (br_f (by decide) (br_f (by decide) (br_f (by decide) (br_f (by decide) (br_t rfl ?_)))))))
    by_cases c : r ≤ l
    · exact br_t c (hs 0 (by simp [gr_ap, Int32.not_lt.mpr c]))
    · exact br_f c (hs 1 (by simp [gr_ap, Int32.not_le.mp c]))
  · refine br_f (by decide) (br_f (by decide) (br_f (by decide) (br_f (by decide) (br_f (by decide) (br_f (by decide) (br_f (by decide) (br_f (by decide) (br_t rfl ?_))))))))
    by_cases c : l = r
    · exact br_t c (hs 1 (by simp [gr_ap, c]))
    · exact br_f c (hs 0 (by simp [gr_ap, c]))
theorem rx_isop {post : Int32 → Prop} {k : Nat} (hk : k ≤ 26) (h0 : k < 20 → post 0) (h1 : 20 ≤ k → post 1) : wpX_isOperator post () (nI k) := by
  unfold wpX_isOperator
  by_cases c : k < 20
  · exact br_t (nI_lt (b := 20) c (by decide)) (h0 c)
  · exact br_f (nI_nlt (b := 20) (by omega) (by omega)) (br_f (nI_nlt (a := 26) (by omega) (by decide)) (h1 (by omega)))
theorem rx_nb : vp_nar .boolean 0 = 0 ∧ vp_nar .boolean 1 = 1 := by decide
/-- the same below w -/
def rx_ag (w : Nat) (a b : Nat → Int32) : Prop := ∀ i, i < w → a i = b i
theorem rx_end {post : Int32 → St2 → Prop} {J : Int32 → Int32 → Int32 → Int32 → Int32 → Int32 → Int32 → Int32 → Int32 → Int32 → Int32 → Int32 → Int32 → (Nat → Int32) → (Nat → Int32) → (Nat → Int32) → (Nat → Int32) → (Nat → Int32) → (Nat → Int32) → (Nat → Int32) → (Nat → Int32) → (Nat → Int32) → (Nat → Int32) → (Nat → Int32) → (Nat → Int32) → (Nat → Int32) → (Nat → Int32) → (Nat → Int32) → (Nat → Int32) → (Nat → Int32) → (Nat → Int32) → (Nat → Int32) → (Nat → Int32) → (Nat → Int32) → (Nat → Int32) → (Nat → Int32) → (Nat → Int32) → Prop} {x : Int32} {i w : Nat} {ps tc : Int32} (wo wl lk : Nat → Int32) (hw : w < 2 ^ 31) (hw2 : w ≤ 256) (ht : ¬ tc = 0) (h : post x (f_depthLimit, f_state, tc, f_begun, f_tokenTotal, f_printedTotal, f_stackSize, f_bodyCount, f_declaredTwice, f_liveDepth, ps, a_tokenKind, a_tokenValue, a_printed, a_stack, a_bodyParent, a_bodyStart, a_declCount, a_paramCount, a_paramName, a_declKind, a_declTarget, a_tokenBody, a_branchTarget, a_liveBody, a_liveParent, a_returnTo, a_slotValue, a_slotHome, wo, wl, lk, a_argKind, a_argValue, a_argHome)) : wX_evaluate_92 post J (nI i) 1 (nI w) x f_depthLimit f_state tc f_begun f_tokenTotal f_printedTotal f_stackSize f_bodyCount f_declaredTwice f_liveDepth ps a_tokenKind a_tokenValue a_printed a_stack a_bodyParent a_bodyStart a_declCount a_paramCount a_paramName a_declKind a_declTarget a_tokenBody a_branchTarget a_liveBody a_liveParent a_returnTo a_slotValue a_slotHome wo wl lk a_argKind a_argValue a_argHome := by
  have h144 : wX_evaluate_144 post J (nI w) (nI i) x f_depthLimit f_state tc f_begun f_tokenTotal f_printedTotal f_stackSize f_bodyCount f_declaredTwice f_liveDepth ps a_tokenKind a_tokenValue a_printed a_stack a_bodyParent a_bodyStart a_declCount a_paramCount a_paramName a_declKind a_declTarget a_tokenBody a_branchTarget a_liveBody a_liveParent a_returnTo a_slotValue a_slotHome wo wl lk a_argKind a_argValue a_argHome := by
    unfold wX_evaluate_144
    exact br_c (fun _ => h) (fun _ => br_f ht h)
  refine br_c (fun _ => h144) (fun h0 => ⟨?_, br_c (fun _ => h144) (fun _ => br_f ht h144)⟩)
  have : 1 ≤ w := by
    by_cases e : w = 0
    · subst e; exact absurd (by decide) h0
    · omega
  rw [li_m1 this]
  exact vp_in_nI (by omega) (by decide)
/-- the component's evaluation, by the expression's tree -/
theorem rx_ev {post : Int32 → St2 → Prop} {K V : Nat → Nat} {n : Nat} {lf : Nat → Int32} (h256 : n ≤ 256) (htk : ∀ i, i < n → a_tokenKind i = nI (K i) ∧ 1 ≤ K i ∧ K i ≤ 26) (hnum : ∀ j, j < n → K j = 18 → a_tokenValue j = lf j) (hnam : ∀ j, j < n → K j = 19 → a_tokenValue j = nI (V j)) :
    ∀ (F j e : Nat) (v : Option Int32), gr_ev K lf F j = some (e, v) → e ≤ n → (∀ i, j ≤ i → i < e → 18 ≤ K i) →
      (∀ i, j ≤ i → i < e → K i = 19 → ∀ (P : Int32 → Prop) (ps : Int32) (wo wl lk : Nat → Int32), (∀ s, s < 272 → a_slotValue s = lf i → P (nI s)) → wpX_slotOf P (f_depthLimit, f_state, 0, f_begun, f_tokenTotal, f_printedTotal, f_stackSize, f_bodyCount, f_declaredTwice, f_liveDepth, ps, a_tokenKind, a_tokenValue, a_printed, a_stack, a_bodyParent, a_bodyStart, a_declCount, a_paramCount, a_paramName, a_declKind, a_declTarget, a_tokenBody, a_branchTarget, a_liveBody, a_liveParent, a_returnTo, a_slotValue, a_slotHome, wo, wl, lk, a_argKind, a_argValue, a_argHome) (nI (V i))) →
      (v = none → ∀ (r ps : Int32) (wo wl lk : Nat → Int32), post r (f_depthLimit, f_state, 1, f_begun, f_tokenTotal, f_printedTotal, f_stackSize, f_bodyCount, f_declaredTwice, f_liveDepth, ps, a_tokenKind, a_tokenValue, a_printed, a_stack, a_bodyParent, a_bodyStart, a_declCount, a_paramCount, a_paramName, a_declKind, a_declTarget, a_tokenBody, a_branchTarget, a_liveBody, a_liveParent, a_returnTo, a_slotValue, a_slotHome, wo, wl, lk, a_argKind, a_argValue, a_argHome)) →
      ∀ (f w i : Nat) (wo wl lk : Nat → Int32), w + (e - j) ≤ 256 → i + (e - j) ≤ 256 →
      (∀ x, v = some x → ∀ (wo' wl' lk' : Nat → Int32), rx_ag w wo' wo → rx_ag w wl' wl → rx_ag w lk' lk → ∃ m, wX_evaluate_92 post (wX_evaluate_4 post f) (nI (i + (e - j) - 1)) m (nI w) x f_depthLimit f_state 0 f_begun f_tokenTotal f_printedTotal f_stackSize f_bodyCount f_declaredTwice f_liveDepth (nI e) a_tokenKind a_tokenValue a_printed a_stack a_bodyParent a_bodyStart a_declCount a_paramCount a_paramName a_declKind a_declTarget a_tokenBody a_branchTarget a_liveBody a_liveParent a_returnTo a_slotValue a_slotHome wo' wl' lk' a_argKind a_argValue a_argHome) →
      wX_evaluate_4 post (f + (e - j)) (nI w) (nI i) f_depthLimit f_state 0 f_begun f_tokenTotal f_printedTotal f_stackSize f_bodyCount f_declaredTwice f_liveDepth (nI j) a_tokenKind a_tokenValue a_printed a_stack a_bodyParent a_bodyStart a_declCount a_paramCount a_paramName a_declKind a_declTarget a_tokenBody a_branchTarget a_liveBody a_liveParent a_returnTo a_slotValue a_slotHome wo wl lk a_argKind a_argValue a_argHome := by
  intro F
  induction F with
  | zero => intro j e v h; simp [gr_ev] at h
  | succ F ih =>
    intro j e v hev hen hk18 hleaf hnone f w i wo wl lk hw hi hcont
    have hje := gr_ev_lt _ _ _ _ hev
    have hjn : j < n := by omega
    obtain ⟨k1, k2, k3⟩ := htk j hjn
    have hin : vp_in (nI j) 256 := vp_in_nI (by omega) (by decide)
    have hcl : (nI j).toNatClampNeg = j := nI_clamp (by omega)
    obtain ⟨f1, hf1⟩ : ∃ f1, f + (e - j) = f1 + 1 := ⟨f + (e - j) - 1, by omega⟩
    rw [hf1]
    refine br_f (nI_ge (b := 256) (by omega) (by decide)) ⟨hin, ?_⟩
    rw [hcl]
    refine nm_r k1 ⟨hin, nm_e (nm_r (nI_1 j) ?_)⟩
    by_cases kl : K j = 18 ∨ K j = 19
    · obtain ⟨he, hv⟩ := gr_ev_leaf hev kl
      subst he; subst hv
      have hf2 : f1 = f := by omega
      subst hf2
      obtain ⟨m, hm⟩ := hcont (lf j) rfl wo wl lk (fun _ _ => rfl) (fun _ _ => rfl) (fun _ _ => rfl)
      rw [show i + (j + 1 - j) - 1 = i by omega] at hm
      refine rx_isop k3 (fun _ => br_t rfl ?_) (fun h => by omega)
      by_cases q : K j = 19
      · refine br_t (by rw [q]; rfl) ?_
        rw [hnam j hjn q]
        refine hleaf j (Nat.le_refl _) (by omega) q _ _ _ _ _ (fun s hs hsv => ⟨vp_in_nI hs (by decide), ?_⟩)
        rw [nI_clamp (by omega), hsv]
        exact nm_e ⟨m, hm⟩
      · refine br_f (fun h => q ((nI_eq (b := 19) (by omega) (by decide)).mp h)) ?_
        rw [hnum j hjn (by omega)]
        exact ⟨m, hm⟩
    · obtain ⟨j1, a, b, e1, e2, hv⟩ := gr_ev_op hev kl
      have hk20 : 20 ≤ K j := by have := hk18 j (Nat.le_refl _) hje; omega
      have l1 := gr_ev_lt _ _ _ _ e1
      have l2 := gr_ev_lt _ _ _ _ e2
      refine rx_isop k3 (fun h => by omega) (fun _ => br_f (by decide) ?_)
      rw [nI_clamp (n := w) (by omega)]
      refine ⟨vp_in_nI (by omega) (by decide), nm_e ⟨vp_in_nI (by omega) (by decide), nm_e (nm_r (nI_1 w) (nm_r (nI_1 i) ?_))⟩⟩
      -- the left operand
      have ef : f1 = (f + (e - j1)) + (j1 - (j + 1)) := by omega
      rw [ef]
      refine ih (j + 1) j1 a e1 (by omega) (fun q h3 h4 => hk18 q (by omega) (by omega)) (fun q h3 h4 => hleaf q (by omega) (by omega)) (fun ha => hnone (by rw [hv, ha]; rfl)) (f + (e - j1)) (w + 1) (i + 1) _ _ _ (by omega) (by omega) ?_
      intro x hx wo1 wl1 lk1 g1 g2 g3
      have o1 : wo1 w = nI (K j) := by rw [g1 w (by omega)]; exact lo_us
      have o3 : lk1 w = 0 := by rw [g3 w (by omega)]; exact lo_us
      refine ⟨1, ?_⟩
      refine br_f (nI_nle (by omega) (by omega)) ?_
      rw [nI_pred, nI_clamp (n := w) (by omega)]
      refine ⟨vp_in_nI (by omega) (by decide), br_t o3 ?_⟩
      unfold wX_evaluate_144
      refine br_f (nI_ne0 (by omega) (by omega)) (br_t rfl ?_)
      rw [nI_pred, nI_clamp (n := w) (by omega)]
      refine ⟨vp_in_nI (by omega) (by decide), nm_e ⟨vp_in_nI (by omega) (by decide), nm_e (nm_r (nI_1 _) ?_)⟩⟩
      -- the right operand
      refine ih j1 e b e2 hen (fun q h3 h4 => hk18 q (by omega) h4) (fun q h3 h4 => hleaf q (by omega) h4) (fun hb => hnone (by rw [hv, hb]; cases a <;> rfl)) f (w + 1) _ _ _ _ (by omega) (by omega) ?_
      intro y hy wo2 wl2 lk2 g4 g5 g6
      have p1 : wo2 w = nI (K j) := by rw [g4 w (by omega)]; exact o1
      have p2 : wl2 w = x := by rw [g5 w (by omega)]; exact lo_us
      have p3 : lk2 w = 1 := by rw [g6 w (by omega)]; exact lo_us
      rw [show i + 1 + (j1 - (j + 1)) - 1 + 1 + (e - j1) - 1 = i + (e - j) - 1 by omega]
      have fin : ∃ m, wpX_apply (fun r u => match u with | (f_depthLimit, f_state, f_trapCode, f_begun, f_tokenTotal, f_printedTotal, f_stackSize, f_bodyCount, f_declaredTwice, f_liveDepth, f_position, a_tokenKind, a_tokenValue, a_printed, a_stack, a_bodyParent, a_bodyStart, a_declCount, a_paramCount, a_paramName, a_declKind, a_declTarget, a_tokenBody, a_branchTarget, a_liveBody, a_liveParent, a_returnTo, a_slotValue, a_slotHome, a_waitingOp, a_waitingLeft, a_leftKnown, a_argKind, a_argValue, a_argHome) => ∀ y1 : Int32, y1 = nI w → wX_evaluate_92 post (wX_evaluate_4 post f) (nI (i + (e - j) - 1)) m y1 r f_depthLimit f_state f_trapCode f_begun f_tokenTotal f_printedTotal f_stackSize f_bodyCount f_declaredTwice f_liveDepth f_position a_tokenKind a_tokenValue a_printed a_stack a_bodyParent a_bodyStart a_declCount a_paramCount a_paramName a_declKind a_declTarget a_tokenBody a_branchTarget a_liveBody a_liveParent a_returnTo a_slotValue a_slotHome a_waitingOp a_waitingLeft a_leftKnown a_argKind a_argValue a_argHome) (f_depthLimit, f_state, 0, f_begun, f_tokenTotal, f_printedTotal, f_stackSize, f_bodyCount, f_declaredTwice, f_liveDepth, nI e, a_tokenKind, a_tokenValue, a_printed, a_stack, a_bodyParent, a_bodyStart, a_declCount, a_paramCount, a_paramName, a_declKind, a_declTarget, a_tokenBody, a_branchTarget, a_liveBody, a_liveParent, a_returnTo, a_slotValue, a_slotHome, wo2, wl2, lk2, a_argKind, a_argValue, a_argHome) (nI (K j)) x y := by
        have hvv : v = gr_ap (K j) x y := by rw [hv, hx, hy]; rfl
        cases hr : gr_ap (K j) x y with
        | some c =>
          obtain ⟨m, hm⟩ := hcont c (by rw [hvv, hr]) wo2 wl2 lk2 (fun q hq => by rw [g4 q (by omega), g1 q (by omega), lo_un (by omega)]) (fun q hq => by rw [g5 q (by omega), lo_un (by omega), g2 q (by omega)]) (fun q hq => by rw [g6 q (by omega), lo_un (by omega), g3 q (by omega), lo_un (by omega)])
          exact ⟨m, rx_apply hk20 k3 (fun c' hc => by rw [hr] at hc; injection hc with hc; subst hc; exact nm_e hm) (fun hc => by rw [hr] at hc; cases hc)⟩
        | none =>
          refine ⟨1, rx_apply hk20 k3 (fun c' hc => by rw [hr] at hc; cases hc) (fun _ => ?_)⟩
          exact nm_e (rx_end _ _ _ (by omega) (by omega) (by decide) (hnone (by rw [hvv, hr]) _ _ _ _ _))
      obtain ⟨m, hm⟩ := fin
      refine ⟨m + 1, ?_⟩
      have d1 : nI (w + 1) + (-1) = nI w := by rw [li_d1 (by omega)]; rfl
      refine br_f (nI_nle (by omega) (by omega)) ?_
      rw [nI_pred, nI_clamp (n := w) (by omega), p1, p2, d1]
      have iw : vp_in (nI w) 256 := vp_in_nI (by omega) (by decide)
      refine ⟨iw, br_f (by rw [p3]; decide) (br_t rfl ⟨iw, iw, ?_⟩)⟩
      exact hm
theorem rx_eval {post : Int32 → St2 → Prop} {K V : Nat → Nat} {n F j e : Nat} {v : Option Int32} {lf : Nat → Int32} (h256 : n ≤ 256) (htk : ∀ i, i < n → a_tokenKind i = nI (K i) ∧ 1 ≤ K i ∧ K i ≤ 26) (hnum : ∀ j, j < n → K j = 18 → a_tokenValue j = lf j) (hnam : ∀ j, j < n → K j = 19 → a_tokenValue j = nI (V j))
    (hev : gr_ev K lf F j = some (e, v)) (hen : e ≤ n) (hk : ∀ i, j ≤ i → i < e → 18 ≤ K i)
    (hleaf : ∀ i, j ≤ i → i < e → K i = 19 → ∀ (P : Int32 → Prop) (ps : Int32) (wo wl lk : Nat → Int32), (∀ s, s < 272 → a_slotValue s = lf i → P (nI s)) → wpX_slotOf P (f_depthLimit, f_state, 0, f_begun, f_tokenTotal, f_printedTotal, f_stackSize, f_bodyCount, f_declaredTwice, f_liveDepth, ps, a_tokenKind, a_tokenValue, a_printed, a_stack, a_bodyParent, a_bodyStart, a_declCount, a_paramCount, a_paramName, a_declKind, a_declTarget, a_tokenBody, a_branchTarget, a_liveBody, a_liveParent, a_returnTo, a_slotValue, a_slotHome, wo, wl, lk, a_argKind, a_argValue, a_argHome) (nI (V i)))
    (hnone : v = none → ∀ (r ps : Int32) (wo wl lk : Nat → Int32), post r (f_depthLimit, f_state, 1, f_begun, f_tokenTotal, f_printedTotal, f_stackSize, f_bodyCount, f_declaredTwice, f_liveDepth, ps, a_tokenKind, a_tokenValue, a_printed, a_stack, a_bodyParent, a_bodyStart, a_declCount, a_paramCount, a_paramName, a_declKind, a_declTarget, a_tokenBody, a_branchTarget, a_liveBody, a_liveParent, a_returnTo, a_slotValue, a_slotHome, wo, wl, lk, a_argKind, a_argValue, a_argHome))
    (hsome : ∀ x, v = some x → ∀ (wo wl lk : Nat → Int32), post x (f_depthLimit, f_state, 0, f_begun, f_tokenTotal, f_printedTotal, f_stackSize, f_bodyCount, f_declaredTwice, f_liveDepth, nI e, a_tokenKind, a_tokenValue, a_printed, a_stack, a_bodyParent, a_bodyStart, a_declCount, a_paramCount, a_paramName, a_declKind, a_declTarget, a_tokenBody, a_branchTarget, a_liveBody, a_liveParent, a_returnTo, a_slotValue, a_slotHome, wo, wl, lk, a_argKind, a_argValue, a_argHome)) :
    wpX_evaluate post (f_depthLimit, f_state, 0, f_begun, f_tokenTotal, f_printedTotal, f_stackSize, f_bodyCount, f_declaredTwice, f_liveDepth, nI j, a_tokenKind, a_tokenValue, a_printed, a_stack, a_bodyParent, a_bodyStart, a_declCount, a_paramCount, a_paramName, a_declKind, a_declTarget, a_tokenBody, a_branchTarget, a_liveBody, a_liveParent, a_returnTo, a_slotValue, a_slotHome, a_waitingOp, a_waitingLeft, a_leftKnown, a_argKind, a_argValue, a_argHome) := by
  unfold wpX_evaluate
  refine ⟨0 + (e - j), rx_ev h256 htk hnum hnam F j e v hev hen hk hleaf hnone 0 0 0 _ _ _ (by omega) (by omega) (fun x hx wo wl lk _ _ _ => ⟨1, ?_⟩)⟩
  refine br_t (by decide) ?_
  unfold wX_evaluate_144
  exact br_t rfl (hsome x hx wo wl lk)
end
section
variable {f_depthLimit f_state f_trapCode f_begun f_tokenTotal f_printedTotal f_stackSize f_bodyCount f_declaredTwice f_liveDepth f_position : Int32} {a_tokenKind a_tokenValue a_printed a_stack a_bodyParent a_bodyStart a_declCount a_paramCount a_paramName a_declKind a_declTarget a_tokenBody a_branchTarget a_liveBody a_liveParent a_returnTo a_slotValue a_slotHome a_waitingOp a_waitingLeft a_leftKnown a_argKind a_argValue a_argHome : Nat → Int32}
theorem rs_0 {post : Int32 → Prop} {x : Nat} (hx : x < 16) (hlb : a_liveBody 0 = nI 0) (hlp : a_liveParent 0 = 0) (hdk : a_declKind x = 0) (h : post (nI x)) : ∀ (d i f : Nat), i + d = 16 → d < f → wX_slotOf_7 post (nI x) f_depthLimit f_state f_trapCode f_begun f_tokenTotal f_printedTotal f_stackSize f_bodyCount f_declaredTwice f_liveDepth f_position a_tokenKind a_tokenValue a_printed a_stack a_bodyParent a_bodyStart a_declCount a_paramCount a_paramName a_declKind a_declTarget a_tokenBody a_branchTarget a_liveBody a_liveParent a_returnTo a_slotValue a_slotHome a_waitingOp a_waitingLeft a_leftKnown a_argKind a_argValue a_argHome f (nI 0) (nI i) := by
  have e0 : (0 : Nat) * 16 + x = x := by omega
  intro d
  induction d with
  | zero =>
    intro i f hi hf
    cases f with
    | zero => omega
    | succ f =>
      refine br_t (nI_le (a := 16) (by omega) (by omega)) ?_
      rw [li_m16, nI_add, e0]
      exact h
  | succ d ih =>
    intro i f hi hf
    cases f with
    | zero => omega
    | succ f =>
      refine br_f (nI_ge (b := 16) (by omega) (by decide)) ⟨vp_in_nI (by decide) (by decide), ?_⟩
      have ix := xn_idx (b := 0) (by decide) hx
      rw [show (nI 0).toNatClampNeg = 0 from rfl, hlb, ix.1, ix.2.2, e0, hlp]
      refine ⟨by rw [e0] at ix; exact ix.2.1, br_t hdk ⟨vp_in_nI (by decide) (by decide), nm_e (nm_r (nI_1 i) (ih (i + 1) f (by omega) (by omega)))⟩⟩
theorem rs_7 {post : Int32 → Prop} {K V : Nat → Nat} {n x top : Nat} {ab ap : Nat → Nat} (hn : gr_cf K n = some ([], 0)) (hL : gr_LM K n) (hK : ∀ d, d < n → 1 ≤ K d ∧ K d ≤ 26) (hD : sx_D K V n a_declKind a_declTarget) (hx : x < 16) (hE : ac_E K n ab ap top) (ht : top ≤ 16)
    (hlb : ∀ a, a ≤ top → a_liveBody a = nI (gr_np K (ab a))) (hl0 : a_liveParent 0 = 0) (hlp : ∀ a, 1 ≤ a → a ≤ top → a_liveParent a = nI (ap a)) :
    ∀ (h a i f : Nat), gr_np K (ab a) ≤ h → a ≤ top → i + h < 16 → 16 - i < f → post (nI (ac_al K V n ab ap x h a * 16 + x)) → wX_slotOf_7 post (nI x) f_depthLimit f_state f_trapCode f_begun f_tokenTotal f_printedTotal f_stackSize f_bodyCount f_declaredTwice f_liveDepth f_position a_tokenKind a_tokenValue a_printed a_stack a_bodyParent a_bodyStart a_declCount a_paramCount a_paramName a_declKind a_declTarget a_tokenBody a_branchTarget a_liveBody a_liveParent a_returnTo a_slotValue a_slotHome a_waitingOp a_waitingLeft a_leftKnown a_argKind a_argValue a_argHome f (nI a) (nI i) := by
  have at0 : ∀ (i f : Nat), i < 16 → 16 - i < f → gr_dc K V n (ab 0) x = none → post (nI x) → wX_slotOf_7 post (nI x) f_depthLimit f_state f_trapCode f_begun f_tokenTotal f_printedTotal f_stackSize f_bodyCount f_declaredTwice f_liveDepth f_position a_tokenKind a_tokenValue a_printed a_stack a_bodyParent a_bodyStart a_declCount a_paramCount a_paramName a_declKind a_declTarget a_tokenBody a_branchTarget a_liveBody a_liveParent a_returnTo a_slotValue a_slotHome a_waitingOp a_waitingLeft a_leftKnown a_argKind a_argValue a_argHome f (nI 0) (nI i) := by
    intro i f hi hf hd hp
    obtain ⟨b1, b2, b3, b4⟩ := hE 0 (Nat.zero_le _)
    have hb0 := b3 rfl
    have h1 := hlb 0 (Nat.zero_le _)
    have hdd := ((hD (ab 0) x b1 b2 hx).1 hd).1
    rw [hb0] at h1 hdd
    have e0 : gr_np K 0 * 16 + x = x := by show 0 * 16 + x = x; omega
    rw [e0] at hdd
    exact rs_0 hx h1 hl0 hdd hp (16 - i) i f (by omega) hf
  have fnd : ∀ (a i f d : Nat), a ≤ top → i < 16 → 0 < f → gr_dc K V n (ab a) x = some d → post (nI (a * 16 + x)) → wX_slotOf_7 post (nI x) f_depthLimit f_state f_trapCode f_begun f_tokenTotal f_printedTotal f_stackSize f_bodyCount f_declaredTwice f_liveDepth f_position a_tokenKind a_tokenValue a_printed a_stack a_bodyParent a_bodyStart a_declCount a_paramCount a_paramName a_declKind a_declTarget a_tokenBody a_branchTarget a_liveBody a_liveParent a_returnTo a_slotValue a_slotHome a_waitingOp a_waitingLeft a_leftKnown a_argKind a_argValue a_argHome f (nI a) (nI i) := by
    intro a i f d ha hi hf hd hp
    obtain ⟨b1, b2, b3, b4⟩ := hE a ha
    have hb16 : gr_np K (ab a) < 16 := by have := @gr_np_mono K (ab a) n (by omega); have := hL.1; omega
    have hdd := (hD (ab a) x b1 b2 hx).2 d hd
    have hKd := hK d (gr_dc_some hd).1
    have ix := xn_idx hb16 hx
    cases f with
    | zero => omega
    | succ f =>
      refine br_f (nI_ge (b := 16) (by omega) (by decide)) ⟨vp_in_nI (by omega) (by decide), ?_⟩
      rw [nI_clamp (n := a) (by omega), hlb a ha, ix.1, ix.2.2, hdd.1]
      refine ⟨ix.2.1, br_f (nI_ne0 (by omega) (by omega)) ?_⟩
      rw [li_m16, nI_add]
      exact hp
  intro h
  induction h with
  | zero =>
    intro a i f hb ha hi hf hp
    have h0 : a = 0 := ac_b0 hn hE ha (by omega)
    subst h0
    cases hd : gr_dc K V n (ab 0) x with
    | some d => exact fnd 0 i f d ha (by omega) (by omega) hd hp
    | none =>
      refine at0 i f (by omega) hf hd ?_
      have : ac_al K V n ab ap x 0 0 * 16 + x = x := by simp [ac_al]
      rw [this] at hp
      exact hp
  | succ h ih =>
    intro a i f hb ha hi hf hp
    cases hd : gr_dc K V n (ab a) x with
    | some d =>
      rw [ac_al_s (by rw [hd]; simp)] at hp
      exact fnd a i f d ha (by omega) (by omega) hd hp
    | none =>
      by_cases h0 : a = 0
      · subst h0
        rw [ac_al_0] at hp
        exact at0 i f (by omega) hf hd (by rw [show 0 * 16 + x = x by omega] at hp; exact hp)
      · obtain ⟨b1, b2, b3, b4⟩ := hE a ha
        have c := b4 h0
        have hlt := gr_pa_lt hn b1 b2 c.2
        rw [ac_al_n hd h0] at hp
        have hb16 : gr_np K (ab a) < 16 := by have := @gr_np_mono K (ab a) n (by omega); have := hL.1; omega
        have hdd := ((hD (ab a) x b1 b2 hx).1 hd).1
        have ix := xn_idx hb16 hx
        cases f with
        | zero => omega
        | succ f =>
          refine br_f (nI_ge (b := 16) (by omega) (by decide)) ⟨vp_in_nI (by omega) (by decide), ?_⟩
          rw [nI_clamp (n := a) (by omega), hlb a ha, ix.1, ix.2.2, hlp a (by omega) ha]
          exact ⟨ix.2.1, br_t hdd ⟨vp_in_nI (by omega) (by decide), nm_e (nm_r (nI_1 i) (ih (ap a) (i + 1) f (by omega) (by omega) (by omega) (by omega) hp))⟩⟩
theorem rs_slot {post : Int32 → Prop} {K V : Nat → Nat} {n x top : Nat} {ab ap : Nat → Nat} (hn : gr_cf K n = some ([], 0)) (hL : gr_LM K n) (hK : ∀ d, d < n → 1 ≤ K d ∧ K d ≤ 26) (hD : sx_D K V n a_declKind a_declTarget) (hx : x < 16) (hE : ac_E K n ab ap top) (ht : top ≤ 16)
    (hlb : ∀ a, a ≤ top → a_liveBody a = nI (gr_np K (ab a))) (hl0 : a_liveParent 0 = 0) (hlp : ∀ a, 1 ≤ a → a ≤ top → a_liveParent a = nI (ap a)) (h : post (nI (ac_al K V n ab ap x 15 top * 16 + x))) : wpX_slotOf post (f_depthLimit, f_state, f_trapCode, f_begun, f_tokenTotal, f_printedTotal, f_stackSize, f_bodyCount, f_declaredTwice, nI top, f_position, a_tokenKind, a_tokenValue, a_printed, a_stack, a_bodyParent, a_bodyStart, a_declCount, a_paramCount, a_paramName, a_declKind, a_declTarget, a_tokenBody, a_branchTarget, a_liveBody, a_liveParent, a_returnTo, a_slotValue, a_slotHome, a_waitingOp, a_waitingLeft, a_leftKnown, a_argKind, a_argValue, a_argHome) (nI x) := by
  unfold wpX_slotOf
  refine ⟨17, rs_7 hn hL hK hD hx hE ht hlb hl0 hlp 15 top 0 17 ?_ (Nat.le_refl _) (by omega) (by omega) h⟩
  have := (hE top (Nat.le_refl _)).1
  have := @gr_np_mono K (ab top) n (by omega)
  have := hL.1
  omega
end
section
variable {f_depthLimit f_state f_trapCode f_begun f_tokenTotal f_printedTotal f_stackSize f_bodyCount f_declaredTwice f_liveDepth f_position : Int32} {a_tokenKind a_tokenValue a_printed a_stack a_bodyParent a_bodyStart a_declCount a_paramCount a_paramName a_declKind a_declTarget a_tokenBody a_branchTarget a_liveBody a_liveParent a_returnTo a_slotValue a_slotHome a_waitingOp a_waitingLeft a_leftKnown a_argKind a_argValue a_argHome : Nat → Int32}
def rt_TK (K V : Nat → Nat) (n : Nat) (kd vl : Nat → Int32) : Prop := n ≤ 256 ∧ (∀ i, i < n → kd i = nI (K i) ∧ 1 ≤ K i ∧ K i ≤ 26) ∧ (∀ i, i < n → xn_nm (K i) → vl i = nI (V i) ∧ V i < 16)
def rt_ST (K V : Nat → Nat) (n : Nat) (bp bs pc pm dk dt bt : Nat → Int32) : Prop := gr_cf K n = some ([], 0) ∧ gr_LM K n ∧ gr_ND K V n ∧ gr_US K V n ∧ sx_S K V n bp bs pc pm dk dt bt
/-- the slots of activation a -/
def rt_SL (K V : Nat → Nat) (n : Nat) (ab : Nat → Nat) (a : Nat) (sv sh av aq ae : Nat → Int32) : Prop := ∀ d, d < n → gr_D (K d) → gr_bo K n d = ab a →
  (K d = 3 ∨ K d = 5 → sv (a * 16 + V d) = av (a * 16 + V d)) ∧
  (K d = 4 → sv (a * 16 + V d) = nI (gr_np K (d + 1)) ∧ sh (a * 16 + V d) = nI a) ∧
  (K d = 10 → sv (a * 16 + V d) = nI (d + 1) ∧ sh (a * 16 + V d) = nI a) ∧
  (K d = 6 → ∃ q h, q < n ∧ K q = 4 ∧ h < a ∧ gr_bo K n q = ab h ∧ sv (a * 16 + V d) = nI (gr_np K (q + 1)) ∧ sh (a * 16 + V d) = nI h ∧ aq (a * 16 + V d) = nI q ∧ ae (a * 16 + V d) = nI h)
def rt_R (K V : Nat → Nat) (n : Nat) (ab ap rt : Nat → Nat) (top : Nat) (lb lp rr sv sh yb yp yr av aq ae : Nat → Int32) : Prop :=
  top ≤ 16 ∧ ac_E K n ab ap top ∧ (∀ a, 1 ≤ a → a ≤ top → gr_P K n (rt a) (ab (a - 1)) ∧ rr a = nI (rt a) ∧ yr a = nI (rt a)) ∧
  (∀ a, a ≤ top → lb a = nI (gr_np K (ab a)) ∧ yb a = nI (ab a)) ∧ lp 0 = 0 ∧ (∀ a, 1 ≤ a → a ≤ top → lp a = nI (ap a) ∧ yp a = nI (ap a)) ∧ (∀ a, a ≤ top → rt_SL K V n ab a sv sh av aq ae)
theorem rt_R_le {K V : Nat → Nat} {n : Nat} {ab ap rt : Nat → Nat} {top top' : Nat} {lb lp rr sv sh yb yp yr av aq ae : Nat → Int32} (h : rt_R K V n ab ap rt top lb lp rr sv sh yb yp yr av aq ae) (ht : top' ≤ top) : rt_R K V n ab ap rt top' lb lp rr sv sh yb yp yr av aq ae :=
  ⟨by have := h.1; omega, ac_E_le h.2.1 ht, fun a h1 h2 => h.2.2.1 a h1 (by omega), fun a h1 => h.2.2.2.1 a (by omega), h.2.2.2.2.1, fun a h1 h2 => h.2.2.2.2.2.1 a h1 (by omega), fun a h1 => h.2.2.2.2.2.2 a (by omega)⟩
/-- the main variables agree -/
def rt_MV (K V : Nat → Nat) (n : Nat) (sv av : Nat → Int32) : Prop := ∀ d, d < n → K d = 3 → gr_bo K n d = 0 → sv (V d) = av (V d)
theorem rt_MV_of {K V : Nat → Nat} {n : Nat} {ab ap rt : Nat → Nat} {top : Nat} {lb lp rr sv sh yb yp yr av aq ae : Nat → Int32} (h : rt_R K V n ab ap rt top lb lp rr sv sh yb yp yr av aq ae) : rt_MV K V n sv av := by
  intro d hd hk hb
  have h0 := (h.2.1 0 (Nat.zero_le _)).2.2.1 rfl
  have := (h.2.2.2.2.2.2 0 (Nat.zero_le _) d hd (.inl hk) (by rw [h0]; exact hb)).1 (.inl hk)
  rw [show 0 * 16 + V d = V d by omega] at this
  exact this
/-- the leaves' values -/
def rt_lf (K V : Nat → Nat) (n : Nat) (ab ap : Nat → Nat) (top : Nat) (vl av : Nat → Int32) (j : Nat) : Int32 := if K j = 18 then vl j else av (ac_al K V n ab ap (V j) 15 top * 16 + V j)
theorem rt_name {K V : Nat → Nat} {n i b : Nat} (hU : gr_US K V n) (hi : i < n) (hu : gr_U (K i)) (hb : gr_bo K n i = b) : ∃ d, gr_lk K V n b (V i) = some d ∧ gr_mk (K i) (K d) := by
  obtain ⟨d, h1, h2⟩ := hU i hi hu
  rw [hb] at h1
  exact ⟨d, h1, h2⟩
/-- what the nearest activation that declares a name holds -/
theorem rt_near {K V : Nat → Nat} {n x d : Nat} {ab ap rt : Nat → Nat} {top : Nat} {lb lp rr sv sh yb yp yr av aq ae : Nat → Int32} (hn : gr_cf K n = some ([], 0)) (hL : gr_LM K n) (h : rt_R K V n ab ap rt top lb lp rr sv sh yb yp yr av aq ae) (hl : gr_lk K V n (ab top) x = some d) :
    ∃ a, a = ac_al K V n ab ap x 15 top ∧ a ≤ top ∧ d < n ∧ gr_bo K n d = ab a ∧ V d = x ∧ gr_D (K d) := by
  have hb := (h.2.1 top (Nat.le_refl _)).1
  have hm := @gr_np_mono K (ab top) n (by omega)
  have hd := ac_al_d hn h.2.1 15 top (Nat.le_refl _) (by have := hL.1; omega) hl
  have := gr_dc_some hd
  exact ⟨_, rfl, ac_al_le h.2.1 15 top (Nat.le_refl _), this⟩
/-- an expression of the present body -/
theorem rt_exp {K V : Nat → Nat} {n j b : Nat} {L : List (Nat × Nat)} (lf : Nat → Int32) (hn : gr_cf K n = some ([], 0)) (hj : j ≤ n) (hc : gr_cf K j = some (L, 1)) (hb : gr_cb L = some b) :
    ∃ e v, gr_ev K lf n j = some (e, v) ∧ gr_cf K e = some (L, 0) ∧ j < e ∧ e ≤ n ∧ ∀ i, j ≤ i → i < e → 18 ≤ K i ∧ (∃ m', gr_cf K i = some (L, m' + 1)) ∧ gr_bo K n i = b := by
  obtain ⟨e, v, a1, a2, a3, a4, a5⟩ := gr_exp lf hn n j L 0 (by omega) hj hc
  refine ⟨e, v, a1, a2, a3, a4, fun i h1 h2 => ?_⟩
  obtain ⟨b1, b2, m', b3⟩ := a5 i h1 h2
  exact ⟨b1, ⟨m', b3⟩, gr_bo_c (by omega) (by omega) (by omega) (by omega) b3 hb⟩
/-- the component evaluates an expression of the present body -/
theorem rt_xe {post : Int32 → St2 → Prop} {K V : Nat → Nat} {n j e : Nat} {v : Option Int32} {ab ap rt : Nat → Nat} {top : Nat} {yb yp yr av aq ae : Nat → Int32}
    (hT : rt_TK K V n a_tokenKind a_tokenValue) (hS : rt_ST K V n a_bodyParent a_bodyStart a_paramCount a_paramName a_declKind a_declTarget a_branchTarget)
    (hR : rt_R K V n ab ap rt top a_liveBody a_liveParent a_returnTo a_slotValue a_slotHome yb yp yr av aq ae)
    (hev : gr_ev K (rt_lf K V n ab ap top a_tokenValue av) n j = some (e, v)) (hen : e ≤ n) (hq : ∀ i, j ≤ i → i < e → 18 ≤ K i ∧ gr_bo K n i = ab top)
    (hnone : v = none → ∀ (r ps : Int32) (wo wl lk : Nat → Int32), post r (f_depthLimit, f_state, 1, f_begun, nI n, f_printedTotal, f_stackSize, f_bodyCount, f_declaredTwice, nI top, ps, a_tokenKind, a_tokenValue, a_printed, a_stack, a_bodyParent, a_bodyStart, a_declCount, a_paramCount, a_paramName, a_declKind, a_declTarget, a_tokenBody, a_branchTarget, a_liveBody, a_liveParent, a_returnTo, a_slotValue, a_slotHome, wo, wl, lk, a_argKind, a_argValue, a_argHome))
    (hsome : ∀ x, v = some x → ∀ (wo wl lk : Nat → Int32), post x (f_depthLimit, f_state, 0, f_begun, nI n, f_printedTotal, f_stackSize, f_bodyCount, f_declaredTwice, nI top, nI e, a_tokenKind, a_tokenValue, a_printed, a_stack, a_bodyParent, a_bodyStart, a_declCount, a_paramCount, a_paramName, a_declKind, a_declTarget, a_tokenBody, a_branchTarget, a_liveBody, a_liveParent, a_returnTo, a_slotValue, a_slotHome, wo, wl, lk, a_argKind, a_argValue, a_argHome)) :
    wpX_evaluate post (f_depthLimit, f_state, 0, f_begun, nI n, f_printedTotal, f_stackSize, f_bodyCount, f_declaredTwice, nI top, nI j, a_tokenKind, a_tokenValue, a_printed, a_stack, a_bodyParent, a_bodyStart, a_declCount, a_paramCount, a_paramName, a_declKind, a_declTarget, a_tokenBody, a_branchTarget, a_liveBody, a_liveParent, a_returnTo, a_slotValue, a_slotHome, a_waitingOp, a_waitingLeft, a_leftKnown, a_argKind, a_argValue, a_argHome) := by
  obtain ⟨h256, htk, htv⟩ := hT
  obtain ⟨hn, hL, hN, hU, hX⟩ := hS
  refine rx_eval (V := V) h256 htk (fun j hj hk => by unfold rt_lf; rw [if_pos hk]) (fun j hj hk => (htv j hj (by simp only [xn_nm]; omega)).1) hev hen (fun i a b => (hq i a b).1) (fun i a b hk P ps wo wl lk hP => ?_) hnone hsome
  have hv := htv i (by omega) (by simp only [xn_nm]; omega)
  obtain ⟨d, hl, hm⟩ := rt_name hU (show i < n by omega) (.inr (.inl hk)) (hq i a b).2
  obtain ⟨a', ha', r1, r2, r3, r4, r5⟩ := rt_near hn hL hR hl
  have hkd := hm.1 (.inr hk)
  have hsl := (hR.2.2.2.2.2.2 a' r1 d r2 r5 r3).1 hkd
  have ht := hR.1
  refine rs_slot hn hL (fun d hd => (htk d hd).2) hX.2.2.2.1 hv.2 hR.2.1 ht (fun a h => (hR.2.2.2.1 a h).1) hR.2.2.2.2.1 (fun a h1 h2 => (hR.2.2.2.2.2.1 a h1 h2).1) ?_
  rw [← ha']
  refine hP _ (by omega) ?_
  unfold rt_lf
  rw [if_neg (by omega), ← ha', ← r4]
  exact hsl
end
section
variable {f_depthLimit f_state f_trapCode f_begun f_tokenTotal f_printedTotal f_stackSize f_bodyCount f_declaredTwice f_liveDepth f_position : Int32} {a_tokenKind a_tokenValue a_printed a_stack a_bodyParent a_bodyStart a_declCount a_paramCount a_paramName a_declKind a_declTarget a_tokenBody a_branchTarget a_liveBody a_liveParent a_returnTo a_slotValue a_slotHome a_waitingOp a_waitingLeft a_leftKnown a_argKind a_argValue a_argHome : Nat → Int32}
/-- how the settling goes, ahead of any state -/
theorem pt_settle {K : Nat → Nat} {n : Nat} {ab rt : Nat → Nat} (hn : gr_cf K n = some ([], 0)) (h256 : n ≤ 256) :
    ∀ (M top pc : Nat), top * 256 + (256 - pc) ≤ M → top ≤ 16 → (∀ a, 1 ≤ a → a ≤ top → gr_P K n (rt a) (ab (a - 1))) → gr_P K n pc (ab top) →
      ∃ (s' : Int32) (top' pc' : Nat), ((s' = 1 ∧ top' ≤ top ∧ gr_P K n pc' (ab top') ∧ K pc' ≠ 2 ∧ K pc' ≠ 16 ∧ K pc' ≠ 17) ∨ (s' = 2 ∧ top' = 0)) ∧
        (∀ (f_depthLimit f_trapCode f_begun f_tokenTotal f_printedTotal f_stackSize f_bodyCount f_declaredTwice : Int32) (a_tokenKind a_tokenValue a_printed a_stack a_bodyParent a_bodyStart a_declCount a_paramCount a_paramName a_declKind a_declTarget a_tokenBody a_branchTarget a_liveBody a_liveParent a_returnTo a_slotValue a_slotHome a_waitingOp a_waitingLeft a_leftKnown a_argKind a_argValue a_argHome : Nat → Int32) (post : St2 → Prop) (i fx : Nat),
          (∀ i, i < n → a_tokenKind i = nI (K i) ∧ 1 ≤ K i ∧ K i ≤ 26) → lo_B K n a_branchTarget → (∀ a, 1 ≤ a → a ≤ top → a_returnTo a = nI (rt a)) →
          i + M ≤ 4352 → M < fx → post (f_depthLimit, s', f_trapCode, f_begun, f_tokenTotal, f_printedTotal, f_stackSize, f_bodyCount, f_declaredTwice, nI top', nI pc', a_tokenKind, a_tokenValue, a_printed, a_stack, a_bodyParent, a_bodyStart, a_declCount, a_paramCount, a_paramName, a_declKind, a_declTarget, a_tokenBody, a_branchTarget, a_liveBody, a_liveParent, a_returnTo, a_slotValue, a_slotHome, a_waitingOp, a_waitingLeft, a_leftKnown, a_argKind, a_argValue, a_argHome) → wX_settle_2 post fx (nI i) f_depthLimit 1 f_trapCode f_begun f_tokenTotal f_printedTotal f_stackSize f_bodyCount f_declaredTwice (nI top) (nI pc) a_tokenKind a_tokenValue a_printed a_stack a_bodyParent a_bodyStart a_declCount a_paramCount a_paramName a_declKind a_declTarget a_tokenBody a_branchTarget a_liveBody a_liveParent a_returnTo a_slotValue a_slotHome a_waitingOp a_waitingLeft a_leftKnown a_argKind a_argValue a_argHome) := by
  intro M
  induction M with
  | zero =>
    intro top pc hM ht hR hP
    have := hP.2.1
    omega
  | succ M ih =>
    intro top pc hM ht hR hP
    have hpn := hP.2.1
    have hp1 := hP.1
    have hin : vp_in (nI pc) 256 := vp_in_nI (by omega) (by decide)
    have hcl : (nI pc).toNatClampNeg = pc := nI_clamp (by omega)
    have hit : vp_in (nI top) 17 := vp_in_nI (by omega) (by decide)
    have hct : (nI top).toNatClampNeg = top := nI_clamp (by omega)
    by_cases q2 : K pc = 2
    · by_cases t0 : top = 0
      · subst t0
        refine ⟨2, 0, pc, .inr ⟨rfl, rfl⟩, ?_⟩
        intro _ _ _ _ _ _ _ _ _ _ _ _ _ _ _ _ _ _ _ _ _ _ _ _ _ _ _ _ _ _ _ _  post i fx htk hB hrr hi hf hp
        have k1 := (htk pc hpn).1
        obtain ⟨f1, rfl⟩ : ∃ f1, fx = f1 + 1 + 1 := ⟨fx - 2, by omega⟩
        refine br_f (nI_ge (b := 4352) (by omega) (by decide)) (br_t rfl ⟨hin, ?_⟩)
        rw [hcl, k1, q2]
        refine nm_e (br_t rfl ?_)
        unfold wpX_leaveBody
        exact br_t rfl (nm_e (br_c (fun _ => hp) (fun _ => br_f (by decide) hp)))
      · have r1 := hR top (by omega) (Nat.le_refl _)
        have hr1 := r1.1
        obtain ⟨s', top', pc', c, hx⟩ := ih (top - 1) (rt top) (by omega) (by omega) (fun a h1 h2 => hR a h1 (by omega)) r1
        refine ⟨s', top', pc', ?_, ?_⟩
        · rcases c with ⟨a, b, c⟩ | c
          · exact .inl ⟨a, by omega, c⟩
          · exact .inr c
        · intro _ _ _ _ _ _ _ _ _ _ _ _ _ _ _ _ _ _ _ _ _ _ _ _ _ _ _ _ _ _ _ _  post i fx htk hB hrr hi hf hp
          have k1 := (htk pc hpn).1
          obtain ⟨f1, rfl⟩ : ∃ f1, fx = f1 + 1 := ⟨fx - 1, by omega⟩
          refine br_f (nI_ge (b := 4352) (by omega) (by decide)) (br_t rfl ⟨hin, ?_⟩)
          rw [hcl, k1, q2]
          refine nm_e (br_t rfl ?_)
          unfold wpX_leaveBody
          refine br_f (nI_ne0 (by omega) (by omega)) ⟨hit, ?_⟩
          rw [hct, hrr top (by omega) (Nat.le_refl _)]
          exact nm_e (nm_r (li_m1 (by omega)) (nm_r (nI_1 i) (hx _ _ _ _ _ _ _ _ _ _ _ _ _ _ _ _ _ _ _ _ _ _ _ _ _ _ _ _ _ _ _ _  post (i + 1) f1 htk hB (fun a h1 h2 => hrr a h1 (by omega)) (by omega) (by omega) hp)))
    · by_cases q16 : K pc = 16
      · obtain ⟨q, L, a1, a2, a3, a4, a5⟩ := gr_P_16 hn hP q16
        obtain ⟨s', top', pc', c, hx⟩ := ih top (q + 1) (by omega) ht hR a5
        refine ⟨s', top', pc', c, ?_⟩
        intro _ _ _ _ _ _ _ _ _ _ _ _ _ _ _ _ _ _ _ _ _ _ _ _ _ _ _ _ _ _ _ _  post i fx htk hB hrr hi hf hp
        have k1 := (htk pc hpn).1
        have hbt := hB q 5 pc L (by omega) a2 a4 (.inr rfl) (.inr a3)
        obtain ⟨f1, rfl⟩ : ∃ f1, fx = f1 + 1 := ⟨fx - 1, by omega⟩
        refine br_f (nI_ge (b := 4352) (by omega) (by decide)) (br_t rfl ⟨hin, ?_⟩)
        rw [hcl, k1, q16, hbt]
        exact nm_e (br_f (by decide) (br_t rfl ⟨hin, nm_e (nm_r (nI_1 i) (hx _ _ _ _ _ _ _ _ _ _ _ _ _ _ _ _ _ _ _ _ _ _ _ _ _ _ _ _ _ _ _ _  post (i + 1) f1 htk hB hrr (by omega) (by omega) hp))⟩))
      · by_cases q17 : K pc = 17
        · obtain ⟨s', top', pc', c, hx⟩ := ih top (pc + 1) (by omega) ht hR (gr_P_17 hn hP q17)
          refine ⟨s', top', pc', c, ?_⟩
          intro _ _ _ _ _ _ _ _ _ _ _ _ _ _ _ _ _ _ _ _ _ _ _ _ _ _ _ _ _ _ _ _  post i fx htk hB hrr hi hf hp
          have k1 := (htk pc hpn).1
          obtain ⟨f1, rfl⟩ : ∃ f1, fx = f1 + 1 := ⟨fx - 1, by omega⟩
          refine br_f (nI_ge (b := 4352) (by omega) (by decide)) (br_t rfl ⟨hin, ?_⟩)
          rw [hcl, k1, q17]
          exact nm_e (br_f (by decide) (br_f (by decide) (br_t rfl (nm_r (nI_1 pc) (nm_r (nI_1 i) (hx _ _ _ _ _ _ _ _ _ _ _ _ _ _ _ _ _ _ _ _ _ _ _ _ _ _ _ _ _ _ _ _  post (i + 1) f1 htk hB hrr (by omega) (by omega) hp))))))
        · refine ⟨1, top, pc, .inl ⟨rfl, Nat.le_refl _, hP, q2, q16, q17⟩, ?_⟩
          intro _ _ _ _ _ _ _ _ _ _ _ _ _ _ _ _ _ _ _ _ _ _ _ _ _ _ _ _ _ _ _ _  post i fx htk hB hrr hi hf hp
          obtain ⟨k1, k2, k3⟩ := htk pc hpn
          have nf : ∀ c, c ≤ 26 → K pc ≠ c → ¬ nI (K pc) = nI c := fun c hc h h2 => h ((nI_eq (by omega) (by omega)).mp h2)
          obtain ⟨f1, rfl⟩ : ∃ f1, fx = f1 + 1 := ⟨fx - 1, by omega⟩
          refine br_f (nI_ge (b := 4352) (by omega) (by decide)) (br_t rfl ⟨hin, ?_⟩)
          rw [hcl, k1]
          exact nm_e (br_f (nf 2 (by decide) q2) (br_f (nf 16 (by decide) q16) (br_f (nf 17 (by decide) q17) hp)))
end
section
variable {f_depthLimit f_state f_trapCode f_begun f_tokenTotal f_printedTotal f_stackSize f_bodyCount f_declaredTwice f_liveDepth f_position : Int32} {a_tokenKind a_tokenValue a_printed a_stack a_bodyParent a_bodyStart a_declCount a_paramCount a_paramName a_declKind a_declTarget a_tokenBody a_branchTarget a_liveBody a_liveParent a_returnTo a_slotValue a_slotHome a_waitingOp a_waitingLeft a_leftKnown a_argKind a_argValue a_argHome : Nat → Int32}
theorem ps_slot {post : Int32 → Prop} {PX : St2 → Prop} {K V : Nat → Nat} {n lim on top pc : Nat} {ex : Int32} {ab ap rt : Nat → Nat} {yb yp yr av aq ae : Nat → Int32} (hT : rt_TK K V n a_tokenKind a_tokenValue) (hS : rt_ST K V n a_bodyParent a_bodyStart a_paramCount a_paramName a_declKind a_declTarget a_branchTarget) (hR : rt_R K V n ab ap rt top a_liveBody a_liveParent a_returnTo a_slotValue a_slotHome yb yp yr av aq ae) (hpn : pc < n) {x d : Nat} (hx : x < 16) (hl : gr_lk K V n (ab top) x = some d) (h : post (nI (ac_al K V n ab ap x 15 top * 16 + x))) : wpX_slotOf post (f_depthLimit, f_state, f_trapCode, f_begun, f_tokenTotal, f_printedTotal, f_stackSize, f_bodyCount, f_declaredTwice, nI top, f_position, a_tokenKind, a_tokenValue, a_printed, a_stack, a_bodyParent, a_bodyStart, a_declCount, a_paramCount, a_paramName, a_declKind, a_declTarget, a_tokenBody, a_branchTarget, a_liveBody, a_liveParent, a_returnTo, a_slotValue, a_slotHome, a_waitingOp, a_waitingLeft, a_leftKnown, a_argKind, a_argValue, a_argHome) (nI x) :=
  rs_slot hS.1 hS.2.1 (fun d hd => (hT.2.1 d hd).2) hS.2.2.2.2.2.2.2.1 hx hR.2.1 hR.1 (fun a h => (hR.2.2.2.1 a h).1) hR.2.2.2.2.1 (fun a h1 h2 => (hR.2.2.2.2.2.1 a h1 h2).1) h
theorem ps_le {PX : St2 → Prop} {K V : Nat → Nat} {n lim on top pc : Nat} {ex : Int32} {ab ap rt : Nat → Nat} {yb yp yr av aq ae : Nat → Int32} (hT : rt_TK K V n a_tokenKind a_tokenValue) (hS : rt_ST K V n a_bodyParent a_bodyStart a_paramCount a_paramName a_declKind a_declTarget a_branchTarget) (hR : rt_R K V n ab ap rt top a_liveBody a_liveParent a_returnTo a_slotValue a_slotHome yb yp yr av aq ae) (hpn : pc < n) {x : Nat} : ac_al K V n ab ap x 15 top ≤ top := ac_al_le hR.2.1 15 top (Nat.le_refl _)
theorem ps_set {PX : St2 → Prop} {K V : Nat → Nat} {n lim on top pc : Nat} {ex : Int32} {ab ap rt : Nat → Nat} {yb yp yr av aq ae : Nat → Int32} (hT : rt_TK K V n a_tokenKind a_tokenValue) (hS : rt_ST K V n a_bodyParent a_bodyStart a_paramCount a_paramName a_declKind a_declTarget a_branchTarget) (hR : rt_R K V n ab ap rt top a_liveBody a_liveParent a_returnTo a_slotValue a_slotHome yb yp yr av aq ae) (hpn : pc < n) {e : Nat} {v : Option Int32} (e1 : gr_ev K (rt_lf K V n ab ap top a_tokenValue av) n (pc + 1) = some (e, v)) (e4 : e ≤ n) (e5 : ∀ i, pc + 1 ≤ i → i < e → 18 ≤ K i ∧ gr_bo K n i = ab top) {d : Nat} (hvp : V pc < 16) (hl : gr_lk K V n (ab top) (V pc) = some d)
    (h0 : v = none → ∀ (ps : Int32) (wo wl lk : Nat → Int32), PX (nI lim, 1, 1, ex, nI n, nI on, f_stackSize, f_bodyCount, f_declaredTwice, nI top, ps, a_tokenKind, a_tokenValue, a_printed, a_stack, a_bodyParent, a_bodyStart, a_declCount, a_paramCount, a_paramName, a_declKind, a_declTarget, a_tokenBody, a_branchTarget, a_liveBody, a_liveParent, a_returnTo, a_slotValue, a_slotHome, wo, wl, lk, a_argKind, a_argValue, a_argHome))
    (h1 : ∀ x, v = some x → ∀ (wo wl lk : Nat → Int32), PX (nI lim, 1, 0, ex, nI n, nI on, f_stackSize, f_bodyCount, f_declaredTwice, nI top, nI e, a_tokenKind, a_tokenValue, a_printed, a_stack, a_bodyParent, a_bodyStart, a_declCount, a_paramCount, a_paramName, a_declKind, a_declTarget, a_tokenBody, a_branchTarget, a_liveBody, a_liveParent, a_returnTo, upd a_slotValue (ac_al K V n ab ap (V pc) 15 top * 16 + V pc) x, a_slotHome, wo, wl, lk, a_argKind, a_argValue, a_argHome)) :
    wpX_doSet PX (nI lim, 1, 0, ex, nI n, nI on, f_stackSize, f_bodyCount, f_declaredTwice, nI top, nI (pc + 1), a_tokenKind, a_tokenValue, a_printed, a_stack, a_bodyParent, a_bodyStart, a_declCount, a_paramCount, a_paramName, a_declKind, a_declTarget, a_tokenBody, a_branchTarget, a_liveBody, a_liveParent, a_returnTo, a_slotValue, a_slotHome, a_waitingOp, a_waitingLeft, a_leftKnown, a_argKind, a_argValue, a_argHome) (nI (V pc)) := by
  have ht := hR.1
  have hle : ac_al K V n ab ap (V pc) 15 top ≤ top := ac_al_le hR.2.1 15 top (Nat.le_refl _)
  unfold wpX_doSet
  refine rt_xe hT hS hR e1 e4 e5 (fun hv0 r ps wo wl lk => br_f (by decide) (h0 hv0 ps wo wl lk)) (fun x hx wo wl lk => br_t rfl ?_)
  refine rs_slot hS.1 hS.2.1 (fun d hd => (hT.2.1 d hd).2) hS.2.2.2.2.2.2.2.1 hvp hR.2.1 hR.1 (fun a h => (hR.2.2.2.1 a h).1) hR.2.2.2.2.1 (fun a h1 h2 => (hR.2.2.2.2.2.1 a h1 h2).1) ?_
  rw [nI_clamp (by omega)]
  exact ⟨vp_in_nI (by omega) (by decide), nm_e (h1 x hx wo wl lk)⟩
theorem ps_print {PX : St2 → Prop} {K V : Nat → Nat} {n lim on top pc : Nat} {ex : Int32} {ab ap rt : Nat → Nat} {yb yp yr av aq ae : Nat → Int32} (hT : rt_TK K V n a_tokenKind a_tokenValue) (hS : rt_ST K V n a_bodyParent a_bodyStart a_paramCount a_paramName a_declKind a_declTarget a_branchTarget) (hR : rt_R K V n ab ap rt top a_liveBody a_liveParent a_returnTo a_slotValue a_slotHome yb yp yr av aq ae) (hpn : pc < n) {e : Nat} {v : Option Int32} (e1 : gr_ev K (rt_lf K V n ab ap top a_tokenValue av) n (pc + 1) = some (e, v)) (e4 : e ≤ n) (e5 : ∀ i, pc + 1 ≤ i → i < e → 18 ≤ K i ∧ gr_bo K n i = ab top) (hon : on ≤ 32)
    (h0 : v = none → ∀ (ps : Int32) (wo wl lk : Nat → Int32), PX (nI lim, 1, 1, ex, nI n, nI on, f_stackSize, f_bodyCount, f_declaredTwice, nI top, ps, a_tokenKind, a_tokenValue, a_printed, a_stack, a_bodyParent, a_bodyStart, a_declCount, a_paramCount, a_paramName, a_declKind, a_declTarget, a_tokenBody, a_branchTarget, a_liveBody, a_liveParent, a_returnTo, a_slotValue, a_slotHome, wo, wl, lk, a_argKind, a_argValue, a_argHome))
    (h4 : ∀ x, v = some x → ¬ on < 32 → ∀ (wo wl lk : Nat → Int32), PX (nI lim, 1, 4, ex, nI n, nI on, f_stackSize, f_bodyCount, f_declaredTwice, nI top, nI e, a_tokenKind, a_tokenValue, a_printed, a_stack, a_bodyParent, a_bodyStart, a_declCount, a_paramCount, a_paramName, a_declKind, a_declTarget, a_tokenBody, a_branchTarget, a_liveBody, a_liveParent, a_returnTo, a_slotValue, a_slotHome, wo, wl, lk, a_argKind, a_argValue, a_argHome))
    (h1 : ∀ x, v = some x → on < 32 → ∀ (wo wl lk : Nat → Int32), PX (nI lim, 1, 0, ex, nI n, nI (on + 1), f_stackSize, f_bodyCount, f_declaredTwice, nI top, nI e, a_tokenKind, a_tokenValue, upd a_printed on x, a_stack, a_bodyParent, a_bodyStart, a_declCount, a_paramCount, a_paramName, a_declKind, a_declTarget, a_tokenBody, a_branchTarget, a_liveBody, a_liveParent, a_returnTo, a_slotValue, a_slotHome, wo, wl, lk, a_argKind, a_argValue, a_argHome)) :
    wpX_doPrint PX (nI lim, 1, 0, ex, nI n, nI on, f_stackSize, f_bodyCount, f_declaredTwice, nI top, nI (pc + 1), a_tokenKind, a_tokenValue, a_printed, a_stack, a_bodyParent, a_bodyStart, a_declCount, a_paramCount, a_paramName, a_declKind, a_declTarget, a_tokenBody, a_branchTarget, a_liveBody, a_liveParent, a_returnTo, a_slotValue, a_slotHome, a_waitingOp, a_waitingLeft, a_leftKnown, a_argKind, a_argValue, a_argHome) := by
  unfold wpX_doPrint
  refine rt_xe hT hS hR e1 e4 e5 (fun hv0 r ps wo wl lk => br_f (by decide) (h0 hv0 ps wo wl lk)) (fun x hx wo wl lk => br_t rfl ?_)
  by_cases o : on < 32
  · refine br_t (nI_lt (b := 32) o (by decide)) ⟨vp_in_nI o (by decide), ?_⟩
    rw [nI_clamp (by omega), nI_1]
    exact nm_e (nm_e (h1 x hx o wo wl lk))
  · exact br_f (nI_nlt (b := 32) (by omega) (by omega)) (h4 x hx o wo wl lk)
theorem ps_if {PX : St2 → Prop} {K V : Nat → Nat} {n lim on top pc : Nat} {ex : Int32} {ab ap rt : Nat → Nat} {yb yp yr av aq ae : Nat → Int32} (hT : rt_TK K V n a_tokenKind a_tokenValue) (hS : rt_ST K V n a_bodyParent a_bodyStart a_paramCount a_paramName a_declKind a_declTarget a_branchTarget) (hR : rt_R K V n ab ap rt top a_liveBody a_liveParent a_returnTo a_slotValue a_slotHome yb yp yr av aq ae) (hpn : pc < n) {e : Nat} {v : Option Int32} (e1 : gr_ev K (rt_lf K V n ab ap top a_tokenValue av) n (pc + 1) = some (e, v)) (e4 : e ≤ n) (e5 : ∀ i, pc + 1 ≤ i → i < e → 18 ≤ K i ∧ gr_bo K n i = ab top) {q : Nat} (hbt : a_branchTarget pc = nI (q + 1))
    (h0 : v = none → ∀ (ps : Int32) (wo wl lk : Nat → Int32), PX (nI lim, 1, 1, ex, nI n, nI on, f_stackSize, f_bodyCount, f_declaredTwice, nI top, ps, a_tokenKind, a_tokenValue, a_printed, a_stack, a_bodyParent, a_bodyStart, a_declCount, a_paramCount, a_paramName, a_declKind, a_declTarget, a_tokenBody, a_branchTarget, a_liveBody, a_liveParent, a_returnTo, a_slotValue, a_slotHome, wo, wl, lk, a_argKind, a_argValue, a_argHome))
    (h1 : ∀ x, v = some x → x = 0 → ∀ (wo wl lk : Nat → Int32), PX (nI lim, 1, 0, ex, nI n, nI on, f_stackSize, f_bodyCount, f_declaredTwice, nI top, nI (q + 1), a_tokenKind, a_tokenValue, a_printed, a_stack, a_bodyParent, a_bodyStart, a_declCount, a_paramCount, a_paramName, a_declKind, a_declTarget, a_tokenBody, a_branchTarget, a_liveBody, a_liveParent, a_returnTo, a_slotValue, a_slotHome, wo, wl, lk, a_argKind, a_argValue, a_argHome))
    (h2 : ∀ x, v = some x → ¬ x = 0 → ∀ (wo wl lk : Nat → Int32), PX (nI lim, 1, 0, ex, nI n, nI on, f_stackSize, f_bodyCount, f_declaredTwice, nI top, nI e, a_tokenKind, a_tokenValue, a_printed, a_stack, a_bodyParent, a_bodyStart, a_declCount, a_paramCount, a_paramName, a_declKind, a_declTarget, a_tokenBody, a_branchTarget, a_liveBody, a_liveParent, a_returnTo, a_slotValue, a_slotHome, wo, wl, lk, a_argKind, a_argValue, a_argHome)) :
    wpX_doIf PX (nI lim, 1, 0, ex, nI n, nI on, f_stackSize, f_bodyCount, f_declaredTwice, nI top, nI (pc + 1), a_tokenKind, a_tokenValue, a_printed, a_stack, a_bodyParent, a_bodyStart, a_declCount, a_paramCount, a_paramName, a_declKind, a_declTarget, a_tokenBody, a_branchTarget, a_liveBody, a_liveParent, a_returnTo, a_slotValue, a_slotHome, a_waitingOp, a_waitingLeft, a_leftKnown, a_argKind, a_argValue, a_argHome) (nI pc) := by
  have h256 := hT.1
  unfold wpX_doIf
  refine rt_xe hT hS hR e1 e4 e5 (fun hv0 r ps wo wl lk => br_f (by decide) (h0 hv0 ps wo wl lk)) (fun x hx wo wl lk => br_t rfl ?_)
  by_cases x0 : x = 0
  · refine br_t x0 ⟨vp_in_nI (by omega) (by decide), ?_⟩
    rw [nI_clamp (by omega), hbt]
    exact nm_e (h1 x hx x0 wo wl lk)
  · exact br_f x0 (h2 x hx x0 wo wl lk)
theorem ps_goto {PX : St2 → Prop} {K V : Nat → Nat} {n lim on top pc : Nat} {ex : Int32} {ab ap rt : Nat → Nat} {yb yp yr av aq ae : Nat → Int32} (hT : rt_TK K V n a_tokenKind a_tokenValue) (hS : rt_ST K V n a_bodyParent a_bodyStart a_paramCount a_paramName a_declKind a_declTarget a_branchTarget) (hR : rt_R K V n ab ap rt top a_liveBody a_liveParent a_returnTo a_slotValue a_slotHome yb yp yr av aq ae) (hpn : pc < n) {d : Nat} (hvp : V pc < 16) (hl : gr_lk K V n (ab top) (V pc) = some d) (hkd : K d = 10)
    (h1 : PX (nI lim, 1, 0, ex, nI n, nI on, f_stackSize, f_bodyCount, f_declaredTwice, nI (ac_al K V n ab ap (V pc) 15 top), nI (d + 1), a_tokenKind, a_tokenValue, a_printed, a_stack, a_bodyParent, a_bodyStart, a_declCount, a_paramCount, a_paramName, a_declKind, a_declTarget, a_tokenBody, a_branchTarget, a_liveBody, a_liveParent, a_returnTo, a_slotValue, a_slotHome, a_waitingOp, a_waitingLeft, a_leftKnown, a_argKind, a_argValue, a_argHome)) :
    wpX_doGoto PX (nI lim, 1, 0, ex, nI n, nI on, f_stackSize, f_bodyCount, f_declaredTwice, nI top, nI (pc + 1), a_tokenKind, a_tokenValue, a_printed, a_stack, a_bodyParent, a_bodyStart, a_declCount, a_paramCount, a_paramName, a_declKind, a_declTarget, a_tokenBody, a_branchTarget, a_liveBody, a_liveParent, a_returnTo, a_slotValue, a_slotHome, a_waitingOp, a_waitingLeft, a_leftKnown, a_argKind, a_argValue, a_argHome) (nI (V pc)) := by
  have ht := hR.1
  obtain ⟨a', ha', r1, r2, r3, r4, r5⟩ := rt_near hS.1 hS.2.1 hR hl
  have hsl := (hR.2.2.2.2.2.2 a' r1 d r2 r5 r3).2.2.1 hkd
  rw [r4, ha'] at hsl
  rw [ha'] at r1
  unfold wpX_doGoto
  refine rs_slot hS.1 hS.2.1 (fun d hd => (hT.2.1 d hd).2) hS.2.2.2.2.2.2.2.1 hvp hR.2.1 hR.1 (fun a h => (hR.2.2.2.1 a h).1) hR.2.2.2.2.1 (fun a h1 h2 => (hR.2.2.2.2.2.1 a h1 h2).1) ?_
  rw [nI_clamp (by omega), hsl.1, hsl.2]
  exact ⟨vp_in_nI (by omega) (by decide), nm_e ⟨vp_in_nI (by omega) (by decide), nm_e h1⟩⟩
end
section
variable {f_depthLimit f_state f_trapCode f_begun f_tokenTotal f_printedTotal f_stackSize f_bodyCount f_declaredTwice f_liveDepth f_position : Int32} {a_tokenKind a_tokenValue a_printed a_stack a_bodyParent a_bodyStart a_declCount a_paramCount a_paramName a_declKind a_declTarget a_tokenBody a_branchTarget a_liveBody a_liveParent a_returnTo a_slotValue a_slotHome a_waitingOp a_waitingLeft a_leftKnown a_argKind a_argValue a_argHome : Nat → Int32}
/-- a procedure value that is alive: the procedure q of an activation h -/
def rt_V (K : Nat → Nat) (n : Nat) (ab : Nat → Nat) (top q h : Nat) : Prop := q < n ∧ K q = 4 ∧ h ≤ top ∧ gr_bo K n q = ab h
theorem rk_pv {K V : Nat → Nat} {n x d : Nat} {ab ap rt : Nat → Nat} {top : Nat} {lb lp rr sv sh yb yp yr av aq ae : Nat → Int32} (hn : gr_cf K n = some ([], 0)) (hL : gr_LM K n) (hR : rt_R K V n ab ap rt top lb lp rr sv sh yb yp yr av aq ae) (hl : gr_lk K V n (ab top) x = some d) (hk : K d = 4 ∨ K d = 6) :
    ∃ q h, rt_V K n ab top q h ∧ sv (ac_al K V n ab ap x 15 top * 16 + x) = nI (gr_np K (q + 1)) ∧ sh (ac_al K V n ab ap x 15 top * 16 + x) = nI h ∧
      ((K d = 4 ∧ q = d ∧ h = ac_al K V n ab ap x 15 top) ∨ (K d ≠ 4 ∧ aq (ac_al K V n ab ap x 15 top * 16 + x) = nI q ∧ ae (ac_al K V n ab ap x 15 top * 16 + x) = nI h)) := by
  obtain ⟨a', ha', r1, r2, r3, r4, r5⟩ := rt_near hn hL hR hl
  have hsl := hR.2.2.2.2.2.2 a' r1 d r2 r5 r3
  rw [r4] at hsl
  rw [← ha']
  rcases hk with k4 | k6
  · have := hsl.2.1 k4
    exact ⟨d, a', ⟨r2, k4, r1, r3⟩, this.1, this.2, .inl ⟨k4, rfl, rfl⟩⟩
  · obtain ⟨q, h, q1, q2, q3, q4, q5, q6, q7, q8⟩ := hsl.2.2.2 k6
    exact ⟨q, h, ⟨q1, q2, by omega, q4⟩, q5, q6, .inr ⟨by omega, q7, q8⟩⟩
/-- the first four arguments agree -/
def rk_A (K : Nat → Nat) (n : Nat) (ab : Nat → Nat) (top c : Nat) (ak av ah tk tv tq te : Nat → Int32) : Prop := ∀ i, i < c → i < 4 →
  (ak i = 5 ∧ tk i = 12 ∧ av i = tv i) ∨ (ak i = 6 ∧ tk i = 13 ∧ ∃ q h, rt_V K n ab top q h ∧ av i = nI (gr_np K (q + 1)) ∧ ah i = nI h ∧ tq i = nI q ∧ te i = nI h)
theorem rk_A_4 {K : Nat → Nat} {n : Nat} {ab : Nat → Nat} {top c : Nat} {ak av ah tk tv tq te : Nat → Int32} (h : rk_A K n ab top c ak av ah tk tv tq te) (hc : ¬ c < 4) : rk_A K n ab top (c + 1) ak av ah tk tv tq te :=
  fun i hi hi4 => h i (by omega) hi4
theorem rk_A_v {K : Nat → Nat} {n : Nat} {ab : Nat → Nat} {top c : Nat} {x a b d : Int32} {ak av ah tk tv tq te : Nat → Int32} (h : rk_A K n ab top c ak av ah tk tv tq te) : rk_A K n ab top (c + 1) (upd ak c 5) (upd av c x) (upd ah c a) (upd tk c 12) (upd tv c x) (upd tq c b) (upd te c d) := by
  intro i hi hi4
  by_cases e : i = c
  · subst e; exact .inl ⟨lo_us, lo_us, by rw [lo_us, lo_us]⟩
  · rw [lo_un e, lo_un e, lo_un e, lo_un e, lo_un e, lo_un e, lo_un e]; exact h i (by omega) hi4
theorem rk_A_p {K : Nat → Nat} {n : Nat} {ab : Nat → Nat} {top c q hh : Nat} {z : Int32} {ak av ah tk tv tq te : Nat → Int32} (h : rk_A K n ab top c ak av ah tk tv tq te) (hV : rt_V K n ab top q hh) : rk_A K n ab top (c + 1) (upd ak c 6) (upd av c (nI (gr_np K (q + 1)))) (upd ah c (nI hh)) (upd tk c 13) (upd tv c z) (upd tq c (nI q)) (upd te c (nI hh)) := by
  intro i hi hi4
  by_cases e : i = c
  · subst e; exact .inr ⟨lo_us, lo_us, q, hh, hV, lo_us, lo_us, lo_us, lo_us⟩
  · rw [lo_un e, lo_un e, lo_un e, lo_un e, lo_un e, lo_un e, lo_un e]; exact h i (by omega) hi4
theorem rk_keep {post : St2 → Prop} {c : Nat} {k v h : Int32} (hc : c ≤ 1000) (h0 : c < 4 → post (f_depthLimit, f_state, f_trapCode, f_begun, f_tokenTotal, f_printedTotal, f_stackSize, f_bodyCount, f_declaredTwice, f_liveDepth, f_position, a_tokenKind, a_tokenValue, a_printed, a_stack, a_bodyParent, a_bodyStart, a_declCount, a_paramCount, a_paramName, a_declKind, a_declTarget, a_tokenBody, a_branchTarget, a_liveBody, a_liveParent, a_returnTo, a_slotValue, a_slotHome, a_waitingOp, a_waitingLeft, a_leftKnown, upd a_argKind c k, upd a_argValue c v, upd a_argHome c h)) (h1 : ¬ c < 4 → post (f_depthLimit, f_state, f_trapCode, f_begun, f_tokenTotal, f_printedTotal, f_stackSize, f_bodyCount, f_declaredTwice, f_liveDepth, f_position, a_tokenKind, a_tokenValue, a_printed, a_stack, a_bodyParent, a_bodyStart, a_declCount, a_paramCount, a_paramName, a_declKind, a_declTarget, a_tokenBody, a_branchTarget, a_liveBody, a_liveParent, a_returnTo, a_slotValue, a_slotHome, a_waitingOp, a_waitingLeft, a_leftKnown, a_argKind, a_argValue, a_argHome)) : wpX_keepArgument post (f_depthLimit, f_state, f_trapCode, f_begun, f_tokenTotal, f_printedTotal, f_stackSize, f_bodyCount, f_declaredTwice, f_liveDepth, f_position, a_tokenKind, a_tokenValue, a_printed, a_stack, a_bodyParent, a_bodyStart, a_declCount, a_paramCount, a_paramName, a_declKind, a_declTarget, a_tokenBody, a_branchTarget, a_liveBody, a_liveParent, a_returnTo, a_slotValue, a_slotHome, a_waitingOp, a_waitingLeft, a_leftKnown, a_argKind, a_argValue, a_argHome) (nI c) k v h := by
  unfold wpX_keepArgument
  by_cases e : c < 4
  · have hin : vp_in (nI c) 4 := vp_in_nI e (by decide)
    refine br_f (nI_ge (b := 4) e (by decide)) ?_
    rw [nI_clamp (by omega)]
    exact ⟨hin, nm_e ⟨hin, nm_e ⟨hin, nm_e (h0 e)⟩⟩⟩
  · exact br_t (nI_le (a := 4) (by omega) (by omega)) (h1 e)
/-- a procedure value, the same for every state that stands for these slots -/
theorem pa_pv {K V : Nat → Nat} {n x d : Nat} {ab ap rt : Nat → Nat} {top : Nat} {lb0 lp0 rr0 sv0 sh0 yb0 yp0 yr0 av aq ae : Nat → Int32} (h256 : n ≤ 256) (hn : gr_cf K n = some ([], 0)) (hL : gr_LM K n) (hR0 : rt_R K V n ab ap rt top lb0 lp0 rr0 sv0 sh0 yb0 yp0 yr0 av aq ae) (hl : gr_lk K V n (ab top) x = some d) (hk : K d = 4 ∨ K d = 6) :
    ∃ q h, rt_V K n ab top q h ∧ ∀ (lb lp rr sv sh yb yp yr : Nat → Int32), rt_R K V n ab ap rt top lb lp rr sv sh yb yp yr av aq ae → sv (ac_al K V n ab ap x 15 top * 16 + x) = nI (gr_np K (q + 1)) ∧ sh (ac_al K V n ab ap x 15 top * 16 + x) = nI h := by
  obtain ⟨q, h, hV, _, _, h3⟩ := rk_pv hn hL hR0 hl hk
  have ht := hR0.1
  refine ⟨q, h, hV, fun lb lp rr sv sh yb yp yr hR => ?_⟩
  obtain ⟨q', h', hV', s1, s2, s3⟩ := rk_pv hn hL hR hl hk
  have e : q' = q ∧ h' = h := by
    rcases h3 with ⟨a1, a2, a3⟩ | ⟨a1, a2, a3⟩
    · rcases s3 with ⟨b1, b2, b3⟩ | ⟨b1, b2, b3⟩
      · exact ⟨by rw [b2, a2], by rw [b3, a3]⟩
      · exact absurd a1 b1
    · rcases s3 with ⟨b1, b2, b3⟩ | ⟨b1, b2, b3⟩
      · exact absurd b1 a1
      · have v1 := hV.1
        have v2 := hV'.1
        have v3 := hV.2.2.1
        have v4 := hV'.2.2.1
        rw [a2] at b2
        rw [a3] at b3
        exact ⟨((nI_eq (by omega) (by omega)).mp b2).symm, ((nI_eq (by omega) (by omega)).mp b3).symm⟩
  rw [e.1] at s1
  rw [e.2] at s2
  exact ⟨s1, s2⟩
/-- the arguments: their outcome ahead of any state -/
theorem pa_args {K V : Nat → Nat} {n top pc dn : Nat} {L : List (Nat × Nat)} {ab ap rt : Nat → Nat} {a_tokenKind a_tokenValue av aq ae lb0 lp0 rr0 sv0 sh0 yb0 yp0 yr0 : Nat → Int32} (hT : rt_TK K V n a_tokenKind a_tokenValue) (hn : gr_cf K n = some ([], 0)) (hL : gr_LM K n) (hU : gr_US K V n) (hR0 : rt_R K V n ab ap rt top lb0 lp0 rr0 sv0 sh0 yb0 yp0 yr0 av aq ae)
    (hdn : dn < n) (hcd : gr_cf K dn = some ((6, pc) :: L, 0)) (hkd : K dn = 14) (hcb : gr_cb ((6, pc) :: L) = some (ab top)) :
    ∀ (m j c : Nat) (tk tv tq te : Nat → Int32), n - j ≤ m → 1 ≤ j → j ≤ dn → c + m ≤ 256 → gr_cf K j = some ((6, pc) :: L, 0) →
      ∃ res : Option (Nat × (Nat → Int32) × (Nat → Int32) × (Nat → Int32) × (Nat → Int32)), ∀ (lim on : Nat) (ex f_stackSize f_bodyCount f_declaredTwice : Int32) (a_printed a_stack a_bodyParent a_bodyStart a_declCount a_paramCount a_paramName a_declKind a_declTarget a_tokenBody a_branchTarget a_liveBody a_liveParent a_returnTo a_slotValue a_slotHome yb yp yr : Nat → Int32) (Px : Int32 → St2 → Prop) (g fx : Nat) (ak av_ ah wo wl lk : Nat → Int32),
        rt_ST K V n a_bodyParent a_bodyStart a_paramCount a_paramName a_declKind a_declTarget a_branchTarget → rt_R K V n ab ap rt top a_liveBody a_liveParent a_returnTo a_slotValue a_slotHome yb yp yr av aq ae → rk_A K n ab top c ak av_ ah tk tv tq te → g + m ≤ 255 → m < fx →
        (res = none → ∀ (r ps : Int32) (ak av_ ah wo wl lk : Nat → Int32), Px r (nI lim, 1, 1, ex, nI n, nI on, f_stackSize, f_bodyCount, f_declaredTwice, nI top, ps, a_tokenKind, a_tokenValue, a_printed, a_stack, a_bodyParent, a_bodyStart, a_declCount, a_paramCount, a_paramName, a_declKind, a_declTarget, a_tokenBody, a_branchTarget, a_liveBody, a_liveParent, a_returnTo, a_slotValue, a_slotHome, wo, wl, lk, ak, av_, ah)) →
        (∀ c' tk' tv' tq' te', res = some (c', tk', tv', tq', te') → c' ≤ 256 → ∀ (ak av_ ah wo wl lk : Nat → Int32), rk_A K n ab top c' ak av_ ah tk' tv' tq' te' → Px (nI c') (nI lim, 1, 0, ex, nI n, nI on, f_stackSize, f_bodyCount, f_declaredTwice, nI top, nI (dn + 1), a_tokenKind, a_tokenValue, a_printed, a_stack, a_bodyParent, a_bodyStart, a_declCount, a_paramCount, a_paramName, a_declKind, a_declTarget, a_tokenBody, a_branchTarget, a_liveBody, a_liveParent, a_returnTo, a_slotValue, a_slotHome, wo, wl, lk, ak, av_, ah)) →
        wX_takeArguments_4 Px fx (nI c) (nI g) (nI lim) 1 0 ex (nI n) (nI on) f_stackSize f_bodyCount f_declaredTwice (nI top) (nI j) a_tokenKind a_tokenValue a_printed a_stack a_bodyParent a_bodyStart a_declCount a_paramCount a_paramName a_declKind a_declTarget a_tokenBody a_branchTarget a_liveBody a_liveParent a_returnTo a_slotValue a_slotHome wo wl lk ak av_ ah := by
  obtain ⟨h256, htk, htv⟩ := hT
  have hT : rt_TK K V n a_tokenKind a_tokenValue := ⟨h256, htk, htv⟩
  have ht := hR0.1
  intro m
  induction m with
  | zero => intro j c tk tv tq te hm; omega
  | succ m ih =>
    intro j c tk tv tq te hm h1 hjd hcm hc
    have hjn : j < n := by omega
    obtain ⟨k1, k2, k3⟩ := htk j hjn
    have hin : vp_in (nI j) 256 := vp_in_nI (by omega) (by decide)
    have hcl : (nI j).toNatClampNeg = j := nI_clamp (by omega)
    by_cases q14 : K j = 14
    · have hjdn : j = dn := by
        by_cases e : j = dn
        · exact e
        · exact absurd rfl (gr_gone h1 hc (.inr (.inr (.inr (.inl ⟨q14, rfl⟩)))) (show j < dn by omega) hcd (6, pc) (by simp))
      subst hjdn
      refine ⟨some (c, tk, tv, tq, te), ?_⟩
      intro lim on ex f_stackSize f_bodyCount f_declaredTwice a_printed a_stack a_bodyParent a_bodyStart a_declCount a_paramCount a_paramName a_declKind a_declTarget a_tokenBody a_branchTarget a_liveBody a_liveParent a_returnTo a_slotValue a_slotHome yb yp yr Px g fx ak av_ ah wo wl lk hS hR hA hg hfx h0 hs
      obtain ⟨f1, rfl⟩ : ∃ f1, fx = f1 + 1 := ⟨fx - 1, by omega⟩
      refine br_f (nI_ge (b := 256) (by omega) (by decide)) ⟨hin, ?_⟩
      rw [hcl, k1]
      refine br_t (by rw [q14]; rfl) ?_
      unfold wX_takeArguments_120
      rw [nI_1]
      exact nm_e (hs c tk tv tq te rfl (by omega) ak av_ ah wo wl lk hA)
    · have hlt : j < dn := by
        by_cases e : j = dn
        · subst e; exact absurd hkd q14
        · omega
      have hbo : gr_bo K n j = ab top := by
        rcases gr_arg hn hjn hc with q | q | q
        · exact absurd q q14
        · exact gr_bo_c hjn (by omega) (by omega) (by omega) hc hcb
        · exact gr_bo_c hjn (by omega) (by omega) (by omega) hc hcb
      rcases gr_arg hn hjn hc with q | ⟨q13, hc'⟩ | ⟨q12, hc'⟩
      · exact absurd q q14
      · have hv := htv j hjn (by simp only [xn_nm]; omega)
        obtain ⟨d, hl, hmk⟩ := rt_name hU hjn (.inr (.inr (.inr (.inl q13)))) hbo
        obtain ⟨q2, h2, hV, hpv⟩ := pa_pv h256 hn hL hR0 hl (hmk.2.1 (.inr q13))
        have hle : ac_al K V n ab ap (V j) 15 top ≤ top := ac_al_le hR0.2.1 15 top (Nat.le_refl _)
        by_cases c4 : c < 4
        · obtain ⟨res, hres⟩ := ih (j + 1) (c + 1) (upd tk c 13) (upd tv c 0) (upd tq c (nI q2)) (upd te c (nI h2)) (by omega) (by omega) (by omega) (by omega) hc'
          refine ⟨res, ?_⟩
          intro lim on ex f_stackSize f_bodyCount f_declaredTwice a_printed a_stack a_bodyParent a_bodyStart a_declCount a_paramCount a_paramName a_declKind a_declTarget a_tokenBody a_branchTarget a_liveBody a_liveParent a_returnTo a_slotValue a_slotHome yb yp yr Px g fx ak av_ ah wo wl lk hS hR hA hg hfx h0 hs
          obtain ⟨f1, rfl⟩ : ∃ f1, fx = f1 + 1 := ⟨fx - 1, by omega⟩
          obtain ⟨s1, s2⟩ := hpv _ _ _ _ _ _ _ _ hR
          refine br_f (nI_ge (b := 256) (by omega) (by decide)) ⟨hin, ?_⟩
          rw [hcl, k1]
          refine br_f (fun h => q14 ((nI_eq (b := 14) (by omega) (by decide)).mp h)) ?_
          rw [nI_1]
          refine nm_e ⟨hin, br_t (by rw [q13]; rfl) ⟨hin, ?_⟩⟩
          rw [hv.1]
          refine rs_slot hn hL (fun d hd => (htk d hd).2) hS.2.2.2.2.2.2.2.1 hv.2 hR.2.1 ht (fun a h => (hR.2.2.2.1 a h).1) hR.2.2.2.2.1 (fun a h1 h2 => (hR.2.2.2.2.2.1 a h1 h2).1) ?_
          have ix : vp_in (nI (ac_al K V n ab ap (V j) 15 top * 16 + V j)) 272 := vp_in_nI (by omega) (by decide)
          rw [nI_clamp (by omega), s1, s2]
          refine ⟨ix, ix, rk_keep (by omega) (fun _ => ?_) (fun h => absurd c4 h)⟩
          unfold wX_takeArguments_102
          exact br_t rfl (nm_r (nI_1 c) (nm_r (nI_1 g) (hres lim on ex _ _ _ _ _ _ _ _ _ _ _ _ _ _ _ _ _ _ _ yb yp yr Px (g + 1) f1 _ _ _ _ _ _ hS hR (rk_A_p hA hV) (by omega) (by omega) h0 hs)))
        · obtain ⟨res, hres⟩ := ih (j + 1) (c + 1) tk tv tq te (by omega) (by omega) (by omega) (by omega) hc'
          refine ⟨res, ?_⟩
          intro lim on ex f_stackSize f_bodyCount f_declaredTwice a_printed a_stack a_bodyParent a_bodyStart a_declCount a_paramCount a_paramName a_declKind a_declTarget a_tokenBody a_branchTarget a_liveBody a_liveParent a_returnTo a_slotValue a_slotHome yb yp yr Px g fx ak av_ ah wo wl lk hS hR hA hg hfx h0 hs
          obtain ⟨f1, rfl⟩ : ∃ f1, fx = f1 + 1 := ⟨fx - 1, by omega⟩
          obtain ⟨s1, s2⟩ := hpv _ _ _ _ _ _ _ _ hR
          refine br_f (nI_ge (b := 256) (by omega) (by decide)) ⟨hin, ?_⟩
          rw [hcl, k1]
          refine br_f (fun h => q14 ((nI_eq (b := 14) (by omega) (by decide)).mp h)) ?_
          rw [nI_1]
          refine nm_e ⟨hin, br_t (by rw [q13]; rfl) ⟨hin, ?_⟩⟩
          rw [hv.1]
          refine rs_slot hn hL (fun d hd => (htk d hd).2) hS.2.2.2.2.2.2.2.1 hv.2 hR.2.1 ht (fun a h => (hR.2.2.2.1 a h).1) hR.2.2.2.2.1 (fun a h1 h2 => (hR.2.2.2.2.2.1 a h1 h2).1) ?_
          have ix : vp_in (nI (ac_al K V n ab ap (V j) 15 top * 16 + V j)) 272 := vp_in_nI (by omega) (by decide)
          rw [nI_clamp (by omega), s1, s2]
          refine ⟨ix, ix, rk_keep (by omega) (fun h => absurd h c4) (fun _ => ?_)⟩
          unfold wX_takeArguments_102
          exact br_t rfl (nm_r (nI_1 c) (nm_r (nI_1 g) (hres lim on ex _ _ _ _ _ _ _ _ _ _ _ _ _ _ _ _ _ _ _ yb yp yr Px (g + 1) f1 _ _ _ _ _ _ hS hR (rk_A_4 hA c4) (by omega) (by omega) h0 hs)))
      · obtain ⟨e, v, e1, e2, e3, e4, e5⟩ := rt_exp (V := V) (rt_lf K V n ab ap top a_tokenValue av) hn hjn hc' hcb
        have hed : e ≤ dn := by
          by_cases c1 : e ≤ dn
          · exact c1
          · obtain ⟨_, ⟨m', h7⟩, _⟩ := e5 dn (by omega) (by omega)
            rw [hcd] at h7
            simp at h7
        have e6 : ∀ i, j + 1 ≤ i → i < e → 18 ≤ K i ∧ gr_bo K n i = ab top := fun i a b => ⟨(e5 i a b).1, (e5 i a b).2.2⟩
        cases hv : v with
        | none =>
          refine ⟨none, ?_⟩
          intro lim on ex f_stackSize f_bodyCount f_declaredTwice a_printed a_stack a_bodyParent a_bodyStart a_declCount a_paramCount a_paramName a_declKind a_declTarget a_tokenBody a_branchTarget a_liveBody a_liveParent a_returnTo a_slotValue a_slotHome yb yp yr Px g fx ak av_ ah wo wl lk hS hR hA hg hfx h0 hs
          obtain ⟨f1, rfl⟩ : ∃ f1, fx = f1 + 1 := ⟨fx - 1, by omega⟩
          refine br_f (nI_ge (b := 256) (by omega) (by decide)) ⟨hin, ?_⟩
          rw [hcl, k1]
          refine br_f (fun h => q14 ((nI_eq (b := 14) (by omega) (by decide)).mp h)) ?_
          rw [nI_1]
          refine nm_e ⟨hin, br_f (by rw [q12]; decide) ?_⟩
          refine rt_xe hT hS hR e1 e4 e6 (fun _ r ps wo wl lk => ?_) (fun x hx => by rw [hv] at hx; cases hx)
          have fin : ∀ (ak av_ ah : Nat → Int32), wX_takeArguments_102 Px (wX_takeArguments_4 Px f1) (nI c) (nI g) (nI lim) 1 1 ex (nI n) (nI on) f_stackSize f_bodyCount f_declaredTwice (nI top) ps a_tokenKind a_tokenValue a_printed a_stack a_bodyParent a_bodyStart a_declCount a_paramCount a_paramName a_declKind a_declTarget a_tokenBody a_branchTarget a_liveBody a_liveParent a_returnTo a_slotValue a_slotHome wo wl lk ak av_ ah := by
            intro ak av_ ah
            unfold wX_takeArguments_102
            exact br_f (by decide) (h0 rfl _ _ _ _ _ _ _ _)
          exact rk_keep (by omega) (fun _ => fin _ _ _) (fun _ => fin _ _ _)
        | some x =>
          by_cases c4 : c < 4
          · obtain ⟨res, hres⟩ := ih e (c + 1) (upd tk c 12) (upd tv c x) (upd tq c 0) (upd te c 0) (by omega) (by omega) hed (by omega) e2
            refine ⟨res, ?_⟩
            intro lim on ex f_stackSize f_bodyCount f_declaredTwice a_printed a_stack a_bodyParent a_bodyStart a_declCount a_paramCount a_paramName a_declKind a_declTarget a_tokenBody a_branchTarget a_liveBody a_liveParent a_returnTo a_slotValue a_slotHome yb yp yr Px g fx ak av_ ah wo wl lk hS hR hA hg hfx h0 hs
            obtain ⟨f1, rfl⟩ : ∃ f1, fx = f1 + 1 := ⟨fx - 1, by omega⟩
            refine br_f (nI_ge (b := 256) (by omega) (by decide)) ⟨hin, ?_⟩
            rw [hcl, k1]
            refine br_f (fun h => q14 ((nI_eq (b := 14) (by omega) (by decide)).mp h)) ?_
            rw [nI_1]
            refine nm_e ⟨hin, br_f (by rw [q12]; decide) ?_⟩
            refine rt_xe hT hS hR e1 e4 e6 (fun h => by rw [hv] at h; cases h) (fun y hy wo wl lk => ?_)
            rw [hv] at hy
            injection hy with hy
            subst hy
            refine rk_keep (by omega) (fun _ => ?_) (fun h => absurd c4 h)
            unfold wX_takeArguments_102
            exact br_t rfl (nm_r (nI_1 c) (nm_r (nI_1 g) (hres lim on ex _ _ _ _ _ _ _ _ _ _ _ _ _ _ _ _ _ _ _ yb yp yr Px (g + 1) f1 _ _ _ _ _ _ hS hR (rk_A_v hA) (by omega) (by omega) h0 hs)))
          · obtain ⟨res, hres⟩ := ih e (c + 1) tk tv tq te (by omega) (by omega) hed (by omega) e2
            refine ⟨res, ?_⟩
            intro lim on ex f_stackSize f_bodyCount f_declaredTwice a_printed a_stack a_bodyParent a_bodyStart a_declCount a_paramCount a_paramName a_declKind a_declTarget a_tokenBody a_branchTarget a_liveBody a_liveParent a_returnTo a_slotValue a_slotHome yb yp yr Px g fx ak av_ ah wo wl lk hS hR hA hg hfx h0 hs
            obtain ⟨f1, rfl⟩ : ∃ f1, fx = f1 + 1 := ⟨fx - 1, by omega⟩
            refine br_f (nI_ge (b := 256) (by omega) (by decide)) ⟨hin, ?_⟩
            rw [hcl, k1]
            refine br_f (fun h => q14 ((nI_eq (b := 14) (by omega) (by decide)).mp h)) ?_
            rw [nI_1]
            refine nm_e ⟨hin, br_f (by rw [q12]; decide) ?_⟩
            refine rt_xe hT hS hR e1 e4 e6 (fun h => by rw [hv] at h; cases h) (fun y hy wo wl lk => ?_)
            rw [hv] at hy
            injection hy with hy
            subst hy
            refine rk_keep (by omega) (fun h => absurd h c4) (fun _ => ?_)
            unfold wX_takeArguments_102
            exact br_t rfl (nm_r (nI_1 c) (nm_r (nI_1 g) (hres lim on ex _ _ _ _ _ _ _ _ _ _ _ _ _ _ _ _ _ _ _ yb yp yr Px (g + 1) f1 _ _ _ _ _ _ hS hR (rk_A_4 hA c4) (by omega) (by omega) h0 hs)))
end
section
variable {f_depthLimit f_state f_trapCode f_begun f_tokenTotal f_printedTotal f_stackSize f_bodyCount f_declaredTwice f_liveDepth f_position : Int32} {a_tokenKind a_tokenValue a_printed a_stack a_bodyParent a_bodyStart a_declCount a_paramCount a_paramName a_declKind a_declTarget a_tokenBody a_branchTarget a_liveBody a_liveParent a_returnTo a_slotValue a_slotHome a_waitingOp a_waitingLeft a_leftKnown a_argKind a_argValue a_argHome : Nat → Int32}
/-- the arguments fit the procedure q with P parameters -/
def rk_F (K : Nat → Nat) (q P c : Nat) (ak : Nat → Int32) : Prop := c = P ∧ ∀ i, i < P → ak i = nI (K (q + 1 + i))
/-- a procedure's parameters -/
def rk_Pr (K V : Nat → Nat) (n q b : Nat) : Prop := q < n ∧ K q = 4 ∧ q < b ∧ b < n ∧ K b = 1 ∧ (∀ i, q < i → i < b → (K i = 5 ∨ K i = 6) ∧ gr_bo K n i = b ∧ V i < 16 ∧ gr_dc K V n b (V i) = some i) ∧ b - q - 1 ≤ 4 ∧ gr_np K b < 16
theorem rk_par {K V : Nat → Nat} {n q b i : Nat} (h : rk_Pr K V n q b) (hi : i < b - q - 1) : q + 1 + i < n ∧ (K (q + 1 + i) = 5 ∨ K (q + 1 + i) = 6) ∧ gr_bo K n (q + 1 + i) = b ∧ V (q + 1 + i) < 16 ∧ gr_dc K V n b (V (q + 1 + i)) = some (q + 1 + i) := by
  have h5 := h.2.2.2.2.2.1 (q + 1 + i) (by omega) (by omega)
  have := h.2.2.2.1
  exact ⟨by omega, h5⟩
theorem rk_inj {K V : Nat → Nat} {n q b i j : Nat} (h : rk_Pr K V n q b) (hi : i < b - q - 1) (hj : j < b - q - 1) (e : V (q + 1 + i) = V (q + 1 + j)) : i = j := by
  have a := (rk_par h hi).2.2.2.2
  have c := (rk_par h hj).2.2.2.2
  rw [e, c] at a
  injection a with a
  omega
theorem rk_fit {post : Int32 → Prop} {K V : Nat → Nat} {n q b c : Nat} (hK : ∀ d, d < n → 1 ≤ K d ∧ K d ≤ 26) (hPr : rk_Pr K V n q b) (hQ : sx_Q K V n a_paramCount a_paramName) (hD : sx_D K V n a_declKind a_declTarget) (hc : c ≤ 256)
    (ht : rk_F K q (b - q - 1) c a_argKind → post 1) (hf : ¬ rk_F K q (b - q - 1) c a_argKind → post 0) : wpX_argumentsFit post (f_depthLimit, f_state, f_trapCode, f_begun, f_tokenTotal, f_printedTotal, f_stackSize, f_bodyCount, f_declaredTwice, f_liveDepth, f_position, a_tokenKind, a_tokenValue, a_printed, a_stack, a_bodyParent, a_bodyStart, a_declCount, a_paramCount, a_paramName, a_declKind, a_declTarget, a_tokenBody, a_branchTarget, a_liveBody, a_liveParent, a_returnTo, a_slotValue, a_slotHome, a_waitingOp, a_waitingLeft, a_leftKnown, a_argKind, a_argValue, a_argHome) (nI (gr_np K b)) (nI c) := by
  obtain ⟨p1, p2, p3, p4, p5, p6, p7, p8⟩ := hPr
  have hPr : rk_Pr K V n q b := ⟨p1, p2, p3, p4, p5, p6, p7, p8⟩
  have hq := hQ q b p1 p2 p3 p4 p5 (fun i h1 h2 => (p6 i h1 h2).1)
  unfold wpX_argumentsFit
  refine ⟨vp_in_nI p8 (by decide), ?_⟩
  rw [nI_clamp (n := gr_np K b) (by omega), hq.2.1]
  by_cases e : c = b - q - 1
  · have loop : ∀ (d i f : Nat), i + d = b - q - 1 → d < f → (∀ i', i' < i → a_argKind i' = nI (K (q + 1 + i'))) → wX_argumentsFit_14 post (nI (gr_np K b)) (nI c) f_depthLimit f_state f_trapCode f_begun f_tokenTotal f_printedTotal f_stackSize f_bodyCount f_declaredTwice f_liveDepth f_position a_tokenKind a_tokenValue a_printed a_stack a_bodyParent a_bodyStart a_declCount a_paramCount a_paramName a_declKind a_declTarget a_tokenBody a_branchTarget a_liveBody a_liveParent a_returnTo a_slotValue a_slotHome a_waitingOp a_waitingLeft a_leftKnown a_argKind a_argValue a_argHome f (nI i) := by
      intro d
      induction d with
      | zero =>
        intro i f hi hfu h
        have : i = b - q - 1 := by omega
        subst this
        cases f with
        | zero => omega
        | succ f => exact br_t (nI_le (by omega) (by omega)) (ht ⟨e, h⟩)
      | succ d ih =>
        intro i f hi hfu h
        cases f with
        | zero => omega
        | succ f =>
          obtain ⟨r1, r2, r3, r4, r5⟩ := rk_par hPr (show i < b - q - 1 by omega)
          have hdk := ((hD b (V (q + 1 + i)) p4 p5 r4).2 _ r5).1
          refine br_f (nI_ge (by omega) (by omega)) (br_f (nI_ge (b := 4) (by omega) (by decide)) ?_)
          rw [li_m4, nI_add, nI_clamp (n := gr_np K b * 4 + i) (by omega), hq.2.2 i (by omega)]
          refine ⟨vp_in_nI (by omega) (by decide), nm_e ?_⟩
          rw [li_m16, nI_add, nI_clamp (n := gr_np K b * 16 + V (q + 1 + i)) (by omega), nI_clamp (n := i) (by omega), hdk]
          refine ⟨vp_in_nI (by omega) (by decide), vp_in_nI (by omega) (by decide), ?_⟩
          by_cases g : nI (K (q + 1 + i)) = a_argKind i
          · refine br_t g (nm_r (nI_1 i) (ih (i + 1) f (by omega) (by omega) (fun i' hi' => ?_)))
            by_cases e2 : i' = i
            · subst e2; exact g.symm
            · exact h i' (by omega)
          · exact br_f g (hf (fun hF => g (hF.2 i (by omega)).symm))
    exact br_t (by rw [e]) ⟨b - q, loop (b - q - 1) 0 (b - q) (by omega) (by omega) (fun i' h => by omega)⟩
  · exact br_f (fun h => e ((nI_eq (by omega) (by omega)).mp h)) (hf (fun hF => e hF.1))
/-- the component binds the parameters -/
theorem rk_bind {post : St2 → Prop} {K V : Nat → Nat} {n q b t : Nat} (hPr : rk_Pr K V n q b) (hQ : sx_Q K V n a_paramCount a_paramName) (ht : t ≤ 16) (sv0 sh0 : Nat → Int32)
    (h : ∀ sv sh, (∀ i, i < b - q - 1 → sv (t * 16 + V (q + 1 + i)) = a_argValue i ∧ sh (t * 16 + V (q + 1 + i)) = a_argHome i) → (∀ j, (∀ i, i < b - q - 1 → j ≠ t * 16 + V (q + 1 + i)) → sv j = sv0 j ∧ sh j = sh0 j) → post (f_depthLimit, f_state, f_trapCode, f_begun, f_tokenTotal, f_printedTotal, f_stackSize, f_bodyCount, f_declaredTwice, nI t, f_position, a_tokenKind, a_tokenValue, a_printed, a_stack, a_bodyParent, a_bodyStart, a_declCount, a_paramCount, a_paramName, a_declKind, a_declTarget, a_tokenBody, a_branchTarget, a_liveBody, a_liveParent, a_returnTo, sv, sh, a_waitingOp, a_waitingLeft, a_leftKnown, a_argKind, a_argValue, a_argHome)) :
    ∀ (d i f : Nat) (sv sh : Nat → Int32), i + d = b - q - 1 → d < f → (∀ i', i' < i → sv (t * 16 + V (q + 1 + i')) = a_argValue i' ∧ sh (t * 16 + V (q + 1 + i')) = a_argHome i') → (∀ j, (∀ i', i' < i → j ≠ t * 16 + V (q + 1 + i')) → sv j = sv0 j ∧ sh j = sh0 j) →
      wX_bindParams_2 post (nI (gr_np K b)) f_depthLimit f_state f_trapCode f_begun f_tokenTotal f_printedTotal f_stackSize f_bodyCount f_declaredTwice (nI t) f_position f (nI i) a_tokenKind a_tokenValue a_printed a_stack a_bodyParent a_bodyStart a_declCount a_paramCount a_paramName a_declKind a_declTarget a_tokenBody a_branchTarget a_liveBody a_liveParent a_returnTo sv sh a_waitingOp a_waitingLeft a_leftKnown a_argKind a_argValue a_argHome := by
  obtain ⟨p1, p2, p3, p4, p5, p6, p7, p8⟩ := hPr
  have hPr : rk_Pr K V n q b := ⟨p1, p2, p3, p4, p5, p6, p7, p8⟩
  have hq := hQ q b p1 p2 p3 p4 p5 (fun i h1 h2 => (p6 i h1 h2).1)
  intro d
  induction d with
  | zero =>
    intro i f sv sh hi hf h1 h2
    have : i = b - q - 1 := by omega
    subst this
    cases f with
    | zero => omega
    | succ f =>
      refine ⟨vp_in_nI p8 (by decide), ?_⟩
      rw [nI_clamp (n := gr_np K b) (by omega), hq.2.1]
      exact br_t (nI_le (Nat.le_refl _) (by omega)) (h sv sh h1 h2)
  | succ d ih =>
    intro i f sv sh hi hf h1 h2
    cases f with
    | zero => omega
    | succ f =>
      obtain ⟨r1, r2, r3, r4, r5⟩ := rk_par hPr (show i < b - q - 1 by omega)
      refine ⟨vp_in_nI p8 (by decide), ?_⟩
      rw [nI_clamp (n := gr_np K b) (by omega), hq.2.1]
      refine br_f (nI_ge (by omega) (by omega)) (br_f (nI_ge (b := 4) (by omega) (by decide)) ?_)
      rw [li_m4, nI_add, nI_clamp (n := gr_np K b * 4 + i) (by omega), hq.2.2 i (by omega)]
      refine ⟨vp_in_nI (by omega) (by decide), nm_r (show _ = nI (t * 16 + V (q + 1 + i)) by rw [li_m16, nI_add]) ?_⟩
      rw [nI_clamp (n := t * 16 + V (q + 1 + i)) (by omega), nI_clamp (n := i) (by omega)]
      have i4 : vp_in (nI i) 4 := vp_in_nI (by omega) (by decide)
      have is : vp_in (nI (t * 16 + V (q + 1 + i))) 272 := vp_in_nI (by omega) (by decide)
      refine ⟨i4, is, nm_e ⟨i4, is, nm_e (nm_r (nI_1 i) (ih (i + 1) f _ _ (by omega) (by omega) (fun i' hi' => ?_) (fun j hj => ?_)))⟩⟩
      · by_cases e : i' = i
        · subst e; exact ⟨lo_us, lo_us⟩
        · have hne : t * 16 + V (q + 1 + i') ≠ t * 16 + V (q + 1 + i) := fun h5 => e (rk_inj hPr (by omega) (by omega) (by omega))
          rw [lo_un hne, lo_un hne]; exact h1 i' (by omega)
      · have hne := hj i (by omega)
        rw [lo_un hne, lo_un hne]; exact h2 j (fun i' hi' => hj i' (by omega))
/-- the reference's new slots, just as its loops write them -/
def rk_z (t : Nat) (a : Nat → Int32) : Nat → Nat → Int32
  | 0 => a
  | i + 1 => upd (rk_z t a i) (t * 16 + i) 0
def rk_b1 (V : Nat → Nat) (q t : Nat) (tk tv a : Nat → Int32) : Nat → Nat → Int32
  | 0 => a
  | i + 1 => if tk i = 12 then upd (rk_b1 V q t tk tv a i) (t * 16 + V (q + 1 + i)) (tv i) else rk_b1 V q t tk tv a i
def rk_b2 (V : Nat → Nat) (q t : Nat) (tk tv a : Nat → Int32) : Nat → Nat → Int32
  | 0 => a
  | i + 1 => if tk i = 12 then rk_b2 V q t tk tv a i else upd (rk_b2 V q t tk tv a i) (t * 16 + V (q + 1 + i)) (tv i)
theorem rk_z_lo {t : Nat} {a : Nat → Int32} : ∀ i j, j < t * 16 → rk_z t a i j = a j := by
  intro i
  induction i with
  | zero => intro j _; rfl
  | succ i ih => intro j hj; simp only [rk_z]; rw [lo_un (by omega)]; exact ih j hj
theorem rk_z_in {t : Nat} {a : Nat → Int32} : ∀ i x, x < i → rk_z t a i (t * 16 + x) = 0 := by
  intro i
  induction i with
  | zero => intro x hx; omega
  | succ i ih =>
    intro x hx
    simp only [rk_z]
    by_cases e : x = i
    · subst e; exact lo_us
    · rw [lo_un (by omega)]; exact ih x (by omega)
theorem rk_b1_no {V : Nat → Nat} {q t : Nat} {tk tv a : Nat → Int32} : ∀ i j, (∀ i', i' < i → j ≠ t * 16 + V (q + 1 + i')) → rk_b1 V q t tk tv a i j = a j := by
  intro i
  induction i with
  | zero => intro j _; rfl
  | succ i ih =>
    intro j hj
    simp only [rk_b1]
    split
    · rw [lo_un (hj i (by omega))]; exact ih j (fun i' h => hj i' (by omega))
    · exact ih j (fun i' h => hj i' (by omega))
theorem rk_b2_no {V : Nat → Nat} {q t : Nat} {tk tv a : Nat → Int32} : ∀ i j, (∀ i', i' < i → j ≠ t * 16 + V (q + 1 + i')) → rk_b2 V q t tk tv a i j = a j := by
  intro i
  induction i with
  | zero => intro j _; rfl
  | succ i ih =>
    intro j hj
    simp only [rk_b2]
    split
    · exact ih j (fun i' h => hj i' (by omega))
    · rw [lo_un (hj i (by omega))]; exact ih j (fun i' h => hj i' (by omega))
theorem rk_b1_y {V : Nat → Nat} {q t P : Nat} {tk tv a : Nat → Int32} (hinj : ∀ i j, i < P → j < P → V (q + 1 + i) = V (q + 1 + j) → i = j) : ∀ i, i ≤ P → ∀ i', i' < i → tk i' = 12 → rk_b1 V q t tk tv a i (t * 16 + V (q + 1 + i')) = tv i' := by
  intro i
  induction i with
  | zero => intro _ i' h; omega
  | succ i ih =>
    intro hP i' hi' h12
    simp only [rk_b1]
    by_cases e : i' = i
    · subst e; rw [if_pos h12]; exact lo_us
    · have hne : t * 16 + V (q + 1 + i') ≠ t * 16 + V (q + 1 + i) := fun h5 => e (hinj i' i (by omega) (by omega) (by omega))
      split
      · rw [lo_un hne]; exact ih (by omega) i' (by omega) h12
      · exact ih (by omega) i' (by omega) h12
theorem rk_b2_y {V : Nat → Nat} {q t P : Nat} {tk tv a : Nat → Int32} (hinj : ∀ i j, i < P → j < P → V (q + 1 + i) = V (q + 1 + j) → i = j) : ∀ i, i ≤ P → ∀ i', i' < i → ¬ tk i' = 12 → rk_b2 V q t tk tv a i (t * 16 + V (q + 1 + i')) = tv i' := by
  intro i
  induction i with
  | zero => intro _ i' h; omega
  | succ i ih =>
    intro hP i' hi' h12
    simp only [rk_b2]
    by_cases e : i' = i
    · subst e; rw [if_neg h12]; exact lo_us
    · have hne : t * 16 + V (q + 1 + i') ≠ t * 16 + V (q + 1 + i) := fun h5 => e (hinj i' i (by omega) (by omega) (by omega))
      split
      · exact ih (by omega) i' (by omega) h12
      · rw [lo_un hne]; exact ih (by omega) i' (by omega) h12
/-- a body has a first statement -/
theorem rk_first {K : Nat → Nat} {n b : Nat} {L : List (Nat × Nat)} (hn : gr_cf K n = some ([], 0)) : ∀ (m i : Nat), n - i ≤ m → 1 ≤ i → i ≤ n → gr_cf K i = some ((1, b) :: L, 0) → ∃ s, 1 ≤ s ∧ s < n ∧ gr_cf K s = some ((1, b) :: L, 0) ∧ K s ≠ 3 ∧ K s ≠ 4 ∧ gr_P K n s b := by
  intro m
  induction m with
  | zero =>
    intro i hm h1 hi hc
    have : i = n := by omega
    subst this; rw [hn] at hc; cases hc
  | succ m ih =>
    intro i hm h1 hi hc
    have hlt : i < n := by
      by_cases e : i = n
      · subst e; rw [hn] at hc; cases hc
      · omega
    rcases gr_decl hn h1 hlt hc with ⟨q, hc'⟩ | ⟨q, c, r, a1, a2, a3, a4, a5, a6, a8, a9⟩ | ⟨q3, q4, hP⟩
    · exact ih (i + 1) (by omega) (by omega) (by omega) hc'
    · exact ih (r + 1) (by omega) (by omega) (by omega) a9
    · exact ⟨i, h1, hlt, hc, q3, q4, hP⟩
def rk_u (f : Nat → Nat) (t x : Nat) : Nat → Nat := fun a => if a = t then x else f a
theorem rk_us {f : Nat → Nat} {t x : Nat} : rk_u f t x t = x := by simp [rk_u]
theorem rk_un {f : Nat → Nat} {t x a : Nat} (h : a ≠ t) : rk_u f t x a = f a := by simp [rk_u, h]
/-- the relation with one activation more -/
theorem rk_R {K V : Nat → Nat} {n : Nat} {ab ap rt : Nat → Nat} {top q h b c dn : Nat} {lb lp rr sv0 sh0 sv1 sh1 sv sh yb yp yr av aq ae ak va ah tk tv tq te dk dt : Nat → Int32} (hn : gr_cf K n = some ([], 0)) (hN : gr_ND K V n) (hV : ∀ d, d < n → gr_D (K d) → V d < 16)
    (hR : rt_R K V n ab ap rt top lb lp rr sv0 sh0 yb yp yr av aq ae) (hPr : rk_Pr K V n q b) (hq : rt_V K n ab top q h) (hpa : gr_pa K b = some (gr_bo K n q)) (hA : rk_A K n ab top c ak va ah tk tv tq te) (hF : rk_F K q (b - q - 1) c ak) (hPd : gr_P K n (dn + 1) (ab top)) (htop : top + 1 ≤ 16) (hD : sx_D K V n dk dt)
    (h1 : ∀ x, x < 16 → sv1 ((top + 1) * 16 + x) = dt (gr_np K b * 16 + x) ∧ sh1 ((top + 1) * 16 + x) = nI (top + 1)) (h2 : ∀ j, (j < (top + 1) * 16 ∨ (top + 1) * 16 + 16 ≤ j) → sv1 j = sv0 j ∧ sh1 j = sh0 j)
    (h3 : ∀ i, i < b - q - 1 → sv ((top + 1) * 16 + V (q + 1 + i)) = va i ∧ sh ((top + 1) * 16 + V (q + 1 + i)) = ah i) (h4 : ∀ j, (∀ i, i < b - q - 1 → j ≠ (top + 1) * 16 + V (q + 1 + i)) → sv j = sv1 j ∧ sh j = sh1 j) :
    rt_R K V n (rk_u ab (top + 1) b) (rk_u ap (top + 1) h) (rk_u rt (top + 1) (dn + 1)) (top + 1) (upd lb (top + 1) (nI (gr_np K b))) (upd lp (top + 1) (nI h)) (upd rr (top + 1) (nI (dn + 1))) sv sh (upd yb (top + 1) (nI b)) (upd yp (top + 1) (nI h)) (upd yr (top + 1) (nI (dn + 1)))
      (rk_b1 V q (top + 1) tk tv (rk_z (top + 1) av 16) (b - q - 1)) (rk_b2 V q (top + 1) tk tq (rk_z (top + 1) aq 16) (b - q - 1)) (rk_b2 V q (top + 1) tk te (rk_z (top + 1) ae 16) (b - q - 1)) := by
  obtain ⟨p1, p2, p3, p4, p5, p6, p7, p8⟩ := hPr
  have hPr : rk_Pr K V n q b := ⟨p1, p2, p3, p4, p5, p6, p7, p8⟩
  have hinj : ∀ i j, i < b - q - 1 → j < b - q - 1 → V (q + 1 + i) = V (q + 1 + j) → i = j := fun i j a b e => rk_inj hPr a b e
  refine ⟨htop, fun a ha => ?_, fun a ha1 ha => ?_, fun a ha => ?_, ?_, fun a ha1 ha => ?_, fun a ha => ?_⟩
  · by_cases e : a = top + 1
    · subst e
      rw [rk_us, rk_us]
      refine ⟨p4, p5, fun h => by omega, fun _ => ⟨by have := hq.2.2.1; omega, ?_⟩⟩
      rw [hpa, hq.2.2.2, rk_un (by have := hq.2.2.1; omega)]
    · obtain ⟨c1, c2, c3, c4⟩ := hR.2.1 a (by omega)
      rw [rk_un e, rk_un e]
      refine ⟨c1, c2, c3, fun h0 => ⟨(c4 h0).1, ?_⟩⟩
      rw [rk_un (by have := (c4 h0).1; omega)]
      exact (c4 h0).2
  · by_cases e : a = top + 1
    · subst e
      rw [rk_us, lo_us, lo_us, show top + 1 - 1 = top by omega, rk_un (by omega)]
      exact ⟨hPd, rfl, rfl⟩
    · rw [rk_un e, lo_un e, lo_un e, rk_un (by omega)]
      exact hR.2.2.1 a ha1 (by omega)
  · by_cases e : a = top + 1
    · subst e
      rw [rk_us, lo_us, lo_us]; exact ⟨rfl, rfl⟩
    · rw [rk_un e, lo_un e, lo_un e]
      exact hR.2.2.2.1 a (by omega)
  · rw [lo_un (by omega)]; exact hR.2.2.2.2.1
  · by_cases e : a = top + 1
    · subst e
      rw [rk_us, lo_us, lo_us]; exact ⟨rfl, rfl⟩
    · rw [rk_un e, lo_un e, lo_un e]
      exact hR.2.2.2.2.2.1 a ha1 (by omega)
  · intro d hd hDd hb
    have hvd := hV d hd hDd
    by_cases e : a = top + 1
    · subst e
      rw [rk_us] at hb
      by_cases kp : K d = 5 ∨ K d = 6
      · -- a parameter
        have hrange : q < d ∧ d < b := (gr_parOf hn p1 p2 p3 p4 p5 (fun i h1 h2 => (p6 i h1 h2).1) hd).mp ⟨kp, by rw [hb]⟩
        have hi : d - q - 1 < b - q - 1 := by omega
        have ed : q + 1 + (d - q - 1) = d := by omega
        have x3 := h3 (d - q - 1) hi
        have xF := hF.2 (d - q - 1) hi
        have xA := hA (d - q - 1) (by have := hF.1; omega) (by omega)
        have y1 := @rk_b1_y V q (top + 1) (b - q - 1) tk tv (rk_z (top + 1) av 16) hinj (b - q - 1) (Nat.le_refl _) (d - q - 1) hi
        have y2 := @rk_b2_y V q (top + 1) (b - q - 1) tk tq (rk_z (top + 1) aq 16) hinj (b - q - 1) (Nat.le_refl _) (d - q - 1) hi
        have y3 := @rk_b2_y V q (top + 1) (b - q - 1) tk te (rk_z (top + 1) ae 16) hinj (b - q - 1) (Nat.le_refl _) (d - q - 1) hi
        rw [ed] at x3 xF y1 y2 y3
        rcases xA with ⟨g1, g2, g3⟩ | ⟨g1, g2, q2, h5, hV2, g3, g4, g5, g6⟩
        · have k5 : K d = 5 := by
            rw [xF] at g1
            exact (nI_eq (b := 5) (by omega) (by decide)).mp g1
          refine ⟨fun _ => ?_, fun h => by omega, fun h => by omega, fun h => by omega⟩
          rw [x3.1, y1 g2, g3]
        · have k6 : K d = 6 := by
            rw [xF] at g1
            exact (nI_eq (b := 6) (by omega) (by decide)).mp g1
          have n12 : ¬ tk (d - q - 1) = 12 := by rw [g2]; decide
          refine ⟨fun h => by omega, fun h => by omega, fun h => by omega, fun _ => ⟨q2, h5, hV2.1, hV2.2.1, by have := hV2.2.2.1; omega, ?_, ?_, ?_, ?_, ?_⟩⟩
          · rw [rk_un (by have := hV2.2.2.1; omega)]; exact hV2.2.2.2
          · rw [x3.1]; exact g3
          · rw [x3.2]; exact g4
          · rw [y2 n12]; exact g5
          · rw [y3 n12]; exact g6
      · -- another declaration
        have hdc := gr_dc_of hN hd hDd
        rw [hb] at hdc
        have hno : ∀ i, i < b - q - 1 → (top + 1) * 16 + V d ≠ (top + 1) * 16 + V (q + 1 + i) := by
          intro i hi e2
          have r := rk_par hPr hi
          have e3 : V d = V (q + 1 + i) := by omega
          rw [e3, r.2.2.2.2] at hdc
          injection hdc with hdc
          rw [hdc] at r
          exact kp r.2.1
        have x4 := h4 _ hno
        have x1 := h1 (V d) hvd
        have hdt := ((hD b (V d) p4 p5 hvd).2 d hdc).2
        rw [x4.1, x4.2, x1.1, x1.2, hdt]
        refine ⟨fun h35 => ?_, fun k4 => ?_, fun k10 => ?_, fun k6 => absurd (.inr k6) kp⟩
        · rw [rk_b1_no _ _ hno, rk_z_in 16 (V d) hvd]
          unfold lo_tg
          rw [if_neg (by omega), if_neg (by omega)]; rfl
        · unfold lo_tg; rw [if_pos k4]; exact ⟨rfl, rfl⟩
        · unfold lo_tg; rw [if_neg (by omega), if_pos k10]; exact ⟨rfl, rfl⟩
    · rw [rk_un e] at hb
      have hlo : a * 16 + V d < (top + 1) * 16 := by omega
      have hno : ∀ i, i < b - q - 1 → a * 16 + V d ≠ (top + 1) * 16 + V (q + 1 + i) := fun i hi => by omega
      have x4 := h4 _ hno
      have x2 := h2 _ (.inl hlo)
      have old := hR.2.2.2.2.2.2 a (by omega) d hd hDd hb
      rw [x4.1, x4.2, x2.1, x2.2, rk_b1_no _ _ hno, rk_b2_no _ _ hno, rk_b2_no _ _ hno, rk_z_lo 16 _ hlo, rk_z_lo 16 _ hlo, rk_z_lo 16 _ hlo]
      refine ⟨old.1, old.2.1, old.2.2.1, fun k6 => ?_⟩
      obtain ⟨q2, h5, g1, g2, g3, g4, g5, g6, g7, g8⟩ := old.2.2.2 k6
      exact ⟨q2, h5, g1, g2, g3, by rw [rk_un (by omega)]; exact g4, g5, g6, g7, g8⟩
end
section
variable {f_depthLimit f_state f_trapCode f_begun f_tokenTotal f_printedTotal f_stackSize f_bodyCount f_declaredTwice f_liveDepth f_position : Int32} {a_tokenKind a_tokenValue a_printed a_stack a_bodyParent a_bodyStart a_declCount a_paramCount a_paramName a_declKind a_declTarget a_tokenBody a_branchTarget a_liveBody a_liveParent a_returnTo a_slotValue a_slotHome a_waitingOp a_waitingLeft a_leftKnown a_argKind a_argValue a_argHome : Nat → Int32}
theorem pt_R_y {K V : Nat → Nat} {n : Nat} {ab ap rt : Nat → Nat} {top : Nat} {lb lp rr sv sh yb yp yr av aq ae : Nat → Int32} (h : rt_R K V n ab ap rt top lb lp rr sv sh yb yp yr av aq ae) : rt_R K V n ab ap rt top lb lp rr sv sh (fun a => nI (ab a)) (fun a => nI (ap a)) (fun a => nI (rt a)) av aq ae :=
  ⟨h.1, h.2.1, fun a h1 h2 => ⟨(h.2.2.1 a h1 h2).1, (h.2.2.1 a h1 h2).2.1, rfl⟩, fun a h1 => ⟨(h.2.2.2.1 a h1).1, rfl⟩, h.2.2.2.2.1, fun a h1 h2 => ⟨(h.2.2.2.2.2.1 a h1 h2).1, rfl⟩, h.2.2.2.2.2.2⟩
/-- (mode, top, pc, outputs, bodies, parents, returns, variables, procedure values, their homes, output, statements, trap) -/
abbrev pt_AS : Type := Nat × Nat × Nat × Nat × (Nat → Nat) × (Nat → Nat) × (Nat → Nat) × (Nat → Int32) × (Nat → Int32) × (Nat → Int32) × (Nat → Int32) × Int32 × Int32
def pt_rel (K V : Nat → Nat) (n lim : Nat) (kd vl : Nat → Int32) (A : pt_AS) (u : St2) : Prop := match A, u with
  | (md, top, pc, on, ab, ap, rt, av, aq, ae, pr, ex, tc), (f_depthLimit, f_state, f_trapCode, f_begun, f_tokenTotal, f_printedTotal, f_stackSize, f_bodyCount, f_declaredTwice, f_liveDepth, f_position, a_tokenKind, a_tokenValue, a_printed, a_stack, a_bodyParent, a_bodyStart, a_declCount, a_paramCount, a_paramName, a_declKind, a_declTarget, a_tokenBody, a_branchTarget, a_liveBody, a_liveParent, a_returnTo, a_slotValue, a_slotHome, a_waitingOp, a_waitingLeft, a_leftKnown, a_argKind, a_argValue, a_argHome) => f_depthLimit = nI lim ∧ f_begun = ex ∧ f_tokenTotal = nI n ∧ f_printedTotal = nI on ∧ a_tokenKind = kd ∧ a_tokenValue = vl ∧ a_printed = pr ∧ f_liveDepth = nI top ∧ f_trapCode = tc ∧ on ≤ 32 ∧ top ≤ 16 ∧ rt_TK K V n kd vl ∧
    rt_ST K V n a_bodyParent a_bodyStart a_paramCount a_paramName a_declKind a_declTarget a_branchTarget ∧ rt_MV K V n a_slotValue av ∧
    ((md = 0 ∧ f_state = 1 ∧ tc = 0 ∧ f_position = nI pc ∧ gr_P K n pc (ab top) ∧ rt_R K V n ab ap rt top a_liveBody a_liveParent a_returnTo a_slotValue a_slotHome (fun a => nI (ab a)) (fun a => nI (ap a)) (fun a => nI (rt a)) av aq ae) ∨
     (md = 1 ∧ f_state = 2 ∧ tc = 0 ∧ top = 0) ∨ (md = 2 ∧ f_state = 3 ∧ ¬ tc = 0) ∨ (md = 3 ∧ f_state = 1 ∧ ¬ tc = 0))
/-- one statement: its outcome ahead of any state -/
def pt_ex (A : pt_AS) : Int32 := match A with
  | (_, _, _, _, _, _, _, _, _, _, _, ex, _) => ex
def pt_md (A : pt_AS) : Nat := A.1
def pt_nx (K V : Nat → Nat) (n lim : Nat) (kd vl : Nat → Int32) (A A' : pt_AS) : Prop := pt_ex A' = pt_ex A + 1 ∧ (pt_md A' = 0 ∨ pt_md A' = 3) ∧ ∀ u, pt_rel K V n lim kd vl A u → ∀ PX : St2 → Prop, (∀ u', pt_rel K V n lim kd vl A' u' → PX u') → wpX_doStatement PX u
theorem pt_rt_set {K V : Nat → Nat} {n : Nat} {ab ap rt : Nat → Nat} {top a' d : Nat} {x : Int32} {lb lp rr sv sh yb yp yr av aq ae : Nat → Int32} (hN : gr_ND K V n) (hV : ∀ d, d < n → gr_D (K d) → V d < 16) (h : rt_R K V n ab ap rt top lb lp rr sv sh yb yp yr av aq ae) (hd : d < n) (hD : gr_D (K d)) (hb : gr_bo K n d = ab a') (hk : K d = 3 ∨ K d = 5) :
    rt_R K V n ab ap rt top lb lp rr (upd sv (a' * 16 + V d) x) sh yb yp yr (upd av (a' * 16 + V d) x) aq ae := by
  refine ⟨h.1, h.2.1, h.2.2.1, h.2.2.2.1, h.2.2.2.2.1, h.2.2.2.2.2.1, fun a ha => ?_⟩
  intro d2 hd2 hD2 hb2
  by_cases e : a * 16 + V d2 = a' * 16 + V d
  · have h1 := lo_ix (hV d2 hd2 hD2) (hV d hd hD) e
    obtain ⟨rfl, hv⟩ := h1
    have : d2 = d := by
      by_cases c1 : d2 < d
      · exact (hN d2 d c1 hd hD2 hD (by rw [hb, hb2]) hv.symm).elim
      · by_cases c2 : d < d2
        · exact (hN d d2 c2 hd2 hD hD2 (by rw [hb, hb2]) hv).elim
        · omega
    subst this
    exact ⟨fun _ => by rw [lo_us, lo_us], fun h4 => by omega, fun h4 => by omega, fun h4 => by omega⟩
  · have h1 := h.2.2.2.2.2.2 a ha d2 hd2 hD2 hb2
    rw [lo_un e, lo_un e]
    exact h1
/-- what a running abstract state holds by itself -/
theorem pt_pure {K V : Nat → Nat} {n lim top pc on : Nat} {ab ap rt : Nat → Nat} {kd vl av aq ae pr : Nat → Int32} {ex : Int32} {u0 : St2} (h0 : pt_rel K V n lim kd vl (0, top, pc, on, ab, ap, rt, av, aq, ae, pr, ex, 0) u0) : rt_TK K V n kd vl ∧ gr_cf K n = some ([], 0) ∧ gr_LM K n ∧ gr_ND K V n ∧ gr_US K V n ∧ gr_P K n pc (ab top) ∧ on ≤ 32 ∧ ∃ lb lp rr sv sh, rt_R K V n ab ap rt top lb lp rr sv sh (fun a => nI (ab a)) (fun a => nI (ap a)) (fun a => nI (rt a)) av aq ae := by
  obtain ⟨f_depthLimit, f_state, f_trapCode, f_begun, f_tokenTotal, f_printedTotal, f_stackSize, f_bodyCount, f_declaredTwice, f_liveDepth, f_position, a_tokenKind, a_tokenValue, a_printed, a_stack, a_bodyParent, a_bodyStart, a_declCount, a_paramCount, a_paramName, a_declKind, a_declTarget, a_tokenBody, a_branchTarget, a_liveBody, a_liveParent, a_returnTo, a_slotValue, a_slotHome, a_waitingOp, a_waitingLeft, a_leftKnown, a_argKind, a_argValue, a_argHome⟩ := u0
  obtain ⟨_, _, _, _, _, _, _, _, _, hon, ht16, hT, hS, hM, hmd⟩ := h0
  rcases hmd with ⟨_, _, _, _, hP, hR⟩ | ⟨h, _⟩ | ⟨h, _⟩ | ⟨h, _⟩
  · exact ⟨hT, hS.1, hS.2.1, hS.2.2.1, hS.2.2.2.1, hP, hon, _, _, _, _, _, hR⟩
  · omega
  · omega
  · omega
theorem pt_set {K V : Nat → Nat} {n lim top pc on : Nat} {ab ap rt : Nat → Nat} {kd vl av aq ae pr : Nat → Int32} {ex : Int32} {u0 : St2} (h0 : pt_rel K V n lim kd vl (0, top, pc, on, ab, ap, rt, av, aq, ae, pr, ex, 0) u0) (hk : K pc = 7) : ∃ A', pt_nx K V n lim kd vl (0, top, pc, on, ab, ap, rt, av, aq, ae, pr, ex, 0) A' := by
  obtain ⟨hT0, hn, hL, hN, hU, hP, hon0, lb0, lp0, rr0, sv0, sh0, hR0⟩ := pt_pure h0
  have hpn := hP.2.1
  have hv := hT0.2.2 pc hpn (by simp only [xn_nm]; omega)
  obtain ⟨L, c1, c2, c3⟩ := gr_P_78 hn hP (.inl hk)
  obtain ⟨e, v, e1, e2, e3, e4, e5⟩ := rt_exp (V := V) (rt_lf K V n ab ap top vl av) hn hpn c1 c2
  obtain ⟨d, hl, hm⟩ := rt_name hU hpn (.inl hk) (gr_P_k hn hP).2
  obtain ⟨a', ha', r1, r2, r3, r4, r5⟩ := rt_near hn hL hR0 hl
  have hkd := hm.1 (.inl hk)
  have hVd : ∀ d, d < n → gr_D (K d) → V d < 16 := fun d hd h => (hT0.2.2 d hd (by simp only [gr_D] at h; simp only [xn_nm]; omega)).2
  refine ⟨match v with | none => (3, top, pc, on, ab, ap, rt, av, aq, ae, pr, ex + 1, 1) | some x => (0, top, e, on, ab, ap, rt, upd av (a' * 16 + V pc) x, aq, ae, pr, ex + 1, 0), ?_, ?_, ?_⟩
  · (repeat' split) <;> rfl
  · (repeat' split) <;> first | exact .inl rfl | exact .inr rfl
  intro u hrel PX hPX
  obtain ⟨f_depthLimit, f_state, f_trapCode, f_begun, f_tokenTotal, f_printedTotal, f_stackSize, f_bodyCount, f_declaredTwice, f_liveDepth, f_position, a_tokenKind, a_tokenValue, a_printed, a_stack, a_bodyParent, a_bodyStart, a_declCount, a_paramCount, a_paramName, a_declKind, a_declTarget, a_tokenBody, a_branchTarget, a_liveBody, a_liveParent, a_returnTo, a_slotValue, a_slotHome, a_waitingOp, a_waitingLeft, a_leftKnown, a_argKind, a_argValue, a_argHome⟩ := u
  obtain ⟨rfl, rfl, rfl, rfl, rfl, rfl, rfl, rfl, rfl, hon, ht16, hT, hS, hM, hmd⟩ := hrel
  rcases hmd with ⟨_, rfl, _, rfl, _, hR⟩ | ⟨h, _⟩ | ⟨h, _⟩ | ⟨h, _⟩
  · have hin : vp_in (nI pc) 256 := vp_in_nI (by have := hT.1; omega) (by decide)
    unfold wpX_doStatement
    refine ⟨hin, ?_⟩
    rw [nI_clamp (by have := hT.1; omega), (hT.2.1 pc hpn).1, hv.1]
    refine nm_e (nm_e (nm_r (nI_1 pc) ⟨hin, nm_e ?_⟩))
    rw [hk]
    refine br_f (by decide) (br_f (by decide) (br_t rfl (ps_set hT hS hR hpn e1 e4 (fun i a b => ⟨(e5 i a b).1, (e5 i a b).2.2⟩) hv.2 hl (fun hv0 ps wo wl lk => hPX _ ?_) (fun x hx wo wl lk => hPX _ ?_))))
    · subst hv0
      exact ⟨rfl, rfl, rfl, rfl, rfl, rfl, rfl, rfl, rfl, hon, ht16, hT, hS, hM, .inr (.inr (.inr ⟨rfl, rfl, by decide⟩))⟩
    · subst hx
      have hR' := pt_rt_set (x := x) hN hVd hR r2 r5 r3 hkd
      rw [r4, ha'] at hR'
      rw [ha']
      exact ⟨rfl, rfl, rfl, rfl, rfl, rfl, rfl, rfl, rfl, hon, ht16, hT, hS, rt_MV_of hR', .inl ⟨rfl, rfl, rfl, rfl, c3 e (by omega) e4 e2, hR'⟩⟩
  · omega
  · omega
  · omega
end
section
variable {f_depthLimit f_state f_trapCode f_begun f_tokenTotal f_printedTotal f_stackSize f_bodyCount f_declaredTwice f_liveDepth f_position : Int32} {a_tokenKind a_tokenValue a_printed a_stack a_bodyParent a_bodyStart a_declCount a_paramCount a_paramName a_declKind a_declTarget a_tokenBody a_branchTarget a_liveBody a_liveParent a_returnTo a_slotValue a_slotHome a_waitingOp a_waitingLeft a_leftKnown a_argKind a_argValue a_argHome : Nat → Int32}
theorem pt_print {K V : Nat → Nat} {n lim top pc on : Nat} {ab ap rt : Nat → Nat} {kd vl av aq ae pr : Nat → Int32} {ex : Int32} {u0 : St2} (h0 : pt_rel K V n lim kd vl (0, top, pc, on, ab, ap, rt, av, aq, ae, pr, ex, 0) u0) (hk : K pc = 8) : ∃ A', pt_nx K V n lim kd vl (0, top, pc, on, ab, ap, rt, av, aq, ae, pr, ex, 0) A' := by
  obtain ⟨hT0, hn, hL, hN, hU, hP, hon0, lb0, lp0, rr0, sv0, sh0, hR0⟩ := pt_pure h0
  have hpn := hP.2.1
  obtain ⟨L, c1, c2, c3⟩ := gr_P_78 hn hP (.inr hk)
  obtain ⟨e, v, e1, e2, e3, e4, e5⟩ := rt_exp (V := V) (rt_lf K V n ab ap top vl av) hn hpn c1 c2
  refine ⟨match v with | none => (3, top, pc, on, ab, ap, rt, av, aq, ae, pr, ex + 1, 1) | some x => (if on < 32 then (0, top, e, on + 1, ab, ap, rt, av, aq, ae, upd pr on x, ex + 1, 0) else (3, top, pc, on, ab, ap, rt, av, aq, ae, pr, ex + 1, 4)), ?_, ?_, ?_⟩
  · (repeat' split) <;> rfl
  · (repeat' split) <;> first | exact .inl rfl | exact .inr rfl
  intro u hrel PX hPX
  obtain ⟨f_depthLimit, f_state, f_trapCode, f_begun, f_tokenTotal, f_printedTotal, f_stackSize, f_bodyCount, f_declaredTwice, f_liveDepth, f_position, a_tokenKind, a_tokenValue, a_printed, a_stack, a_bodyParent, a_bodyStart, a_declCount, a_paramCount, a_paramName, a_declKind, a_declTarget, a_tokenBody, a_branchTarget, a_liveBody, a_liveParent, a_returnTo, a_slotValue, a_slotHome, a_waitingOp, a_waitingLeft, a_leftKnown, a_argKind, a_argValue, a_argHome⟩ := u
  obtain ⟨rfl, rfl, rfl, rfl, rfl, rfl, rfl, rfl, rfl, hon, ht16, hT, hS, hM, hmd⟩ := hrel
  rcases hmd with ⟨_, rfl, _, rfl, _, hR⟩ | ⟨h, _⟩ | ⟨h, _⟩ | ⟨h, _⟩
  · have hin : vp_in (nI pc) 256 := vp_in_nI (by have := hT.1; omega) (by decide)
    unfold wpX_doStatement
    refine ⟨hin, ?_⟩
    rw [nI_clamp (by have := hT.1; omega), (hT.2.1 pc hpn).1]
    refine nm_e (nm_e (nm_r (nI_1 pc) ⟨hin, nm_e ?_⟩))
    rw [hk]
    refine br_f (by decide) (br_f (by decide) (br_f (by decide) (br_t rfl (ps_print hT hS hR hpn e1 e4 (fun i a b => ⟨(e5 i a b).1, (e5 i a b).2.2⟩) hon (fun hv0 ps wo wl lk => hPX _ ?_) (fun x hx o wo wl lk => hPX _ ?_) (fun x hx o wo wl lk => hPX _ ?_)))))
    · subst hv0
      exact ⟨rfl, rfl, rfl, rfl, rfl, rfl, rfl, rfl, rfl, hon, ht16, hT, hS, hM, .inr (.inr (.inr ⟨rfl, rfl, by decide⟩))⟩
    · subst hx
      simp only [if_neg o]
      exact ⟨rfl, rfl, rfl, rfl, rfl, rfl, rfl, rfl, rfl, hon, ht16, hT, hS, hM, .inr (.inr (.inr ⟨rfl, rfl, by decide⟩))⟩
    · subst hx
      simp only [if_pos o]
      exact ⟨rfl, rfl, rfl, rfl, rfl, rfl, rfl, rfl, rfl, by omega, ht16, hT, hS, hM, .inl ⟨rfl, rfl, rfl, rfl, c3 e (by omega) e4 e2, hR⟩⟩
  · omega
  · omega
  · omega
theorem pt_if {K V : Nat → Nat} {n lim top pc on : Nat} {ab ap rt : Nat → Nat} {kd vl av aq ae pr : Nat → Int32} {ex : Int32} {u0 : St2} (h0 : pt_rel K V n lim kd vl (0, top, pc, on, ab, ap, rt, av, aq, ae, pr, ex, 0) u0) (hk : K pc = 15) : ∃ A', pt_nx K V n lim kd vl (0, top, pc, on, ab, ap, rt, av, aq, ae, pr, ex, 0) A' := by
  obtain ⟨hT0, hn, hL, hN, hU, hP, hon0, lb0, lp0, rr0, sv0, sh0, hR0⟩ := pt_pure h0
  have hpn := hP.2.1
  obtain ⟨⟨L, c1, c2, c3⟩, q, L2, q1, q2, q3, q4, q5⟩ := gr_P_15 hn hP hk
  obtain ⟨e, v, e1, e2, e3, e4, e5⟩ := rt_exp (V := V) (rt_lf K V n ab ap top vl av) hn hpn c1 c2
  refine ⟨match v with | none => (3, top, pc, on, ab, ap, rt, av, aq, ae, pr, ex + 1, 1) | some x => (if x = 0 then (0, top, q + 1, on, ab, ap, rt, av, aq, ae, pr, ex + 1, 0) else (0, top, e, on, ab, ap, rt, av, aq, ae, pr, ex + 1, 0)), ?_, ?_, ?_⟩
  · (repeat' split) <;> rfl
  · (repeat' split) <;> first | exact .inl rfl | exact .inr rfl
  intro u hrel PX hPX
  obtain ⟨f_depthLimit, f_state, f_trapCode, f_begun, f_tokenTotal, f_printedTotal, f_stackSize, f_bodyCount, f_declaredTwice, f_liveDepth, f_position, a_tokenKind, a_tokenValue, a_printed, a_stack, a_bodyParent, a_bodyStart, a_declCount, a_paramCount, a_paramName, a_declKind, a_declTarget, a_tokenBody, a_branchTarget, a_liveBody, a_liveParent, a_returnTo, a_slotValue, a_slotHome, a_waitingOp, a_waitingLeft, a_leftKnown, a_argKind, a_argValue, a_argHome⟩ := u
  obtain ⟨rfl, rfl, rfl, rfl, rfl, rfl, rfl, rfl, rfl, hon, ht16, hT, hS, hM, hmd⟩ := hrel
  rcases hmd with ⟨_, rfl, _, rfl, _, hR⟩ | ⟨h, _⟩ | ⟨h, _⟩ | ⟨h, _⟩
  · have hin : vp_in (nI pc) 256 := vp_in_nI (by have := hT.1; omega) (by decide)
    unfold wpX_doStatement
    refine ⟨hin, ?_⟩
    rw [nI_clamp (by have := hT.1; omega), (hT.2.1 pc hpn).1]
    refine nm_e (nm_e (nm_r (nI_1 pc) ⟨hin, nm_e ?_⟩))
    rw [hk]
    have hbt : a_branchTarget pc = nI (q + 1) := hS.2.2.2.2.2.2.2.2 q 4 pc L2 (by omega) q2 q3 (.inl rfl) q4
    refine br_f (by decide) (br_f (by decide) (br_f (by decide) (br_f (by decide) (br_f (by decide) (br_f (by decide) (br_f (by decide) (br_f (by decide) (br_f (by decide) (br_f (by decide) (br_t rfl (ps_if hT hS hR hpn e1 e4 (fun i a b => ⟨(e5 i a b).1, (e5 i a b).2.2⟩) hbt (fun hv0 ps wo wl lk => hPX _ ?_) (fun x hx o wo wl lk => hPX _ ?_) (fun x hx o wo wl lk => hPX _ ?_))))))))))))
    · subst hv0
      exact ⟨rfl, rfl, rfl, rfl, rfl, rfl, rfl, rfl, rfl, hon, ht16, hT, hS, hM, .inr (.inr (.inr ⟨rfl, rfl, by decide⟩))⟩
    · subst hx
      simp only [if_pos o]
      exact ⟨rfl, rfl, rfl, rfl, rfl, rfl, rfl, rfl, rfl, hon, ht16, hT, hS, hM, .inl ⟨rfl, rfl, rfl, rfl, q5, hR⟩⟩
    · subst hx
      simp only [if_neg o]
      exact ⟨rfl, rfl, rfl, rfl, rfl, rfl, rfl, rfl, rfl, hon, ht16, hT, hS, hM, .inl ⟨rfl, rfl, rfl, rfl, c3 e (by omega) e4 e2, hR⟩⟩
  · omega
  · omega
  · omega
theorem pt_label {K V : Nat → Nat} {n lim top pc on : Nat} {ab ap rt : Nat → Nat} {kd vl av aq ae pr : Nat → Int32} {ex : Int32} {u0 : St2} (h0 : pt_rel K V n lim kd vl (0, top, pc, on, ab, ap, rt, av, aq, ae, pr, ex, 0) u0) (hk : K pc = 10) : ∃ A', pt_nx K V n lim kd vl (0, top, pc, on, ab, ap, rt, av, aq, ae, pr, ex, 0) A' := by
  obtain ⟨hT0, hn, hL, hN, hU, hP, hon0, lb0, lp0, rr0, sv0, sh0, hR0⟩ := pt_pure h0
  have hpn := hP.2.1
  refine ⟨(0, top, pc + 1, on, ab, ap, rt, av, aq, ae, pr, ex + 1, 0), ?_, ?_, ?_⟩
  · (repeat' split) <;> rfl
  · (repeat' split) <;> first | exact .inl rfl | exact .inr rfl
  intro u hrel PX hPX
  obtain ⟨f_depthLimit, f_state, f_trapCode, f_begun, f_tokenTotal, f_printedTotal, f_stackSize, f_bodyCount, f_declaredTwice, f_liveDepth, f_position, a_tokenKind, a_tokenValue, a_printed, a_stack, a_bodyParent, a_bodyStart, a_declCount, a_paramCount, a_paramName, a_declKind, a_declTarget, a_tokenBody, a_branchTarget, a_liveBody, a_liveParent, a_returnTo, a_slotValue, a_slotHome, a_waitingOp, a_waitingLeft, a_leftKnown, a_argKind, a_argValue, a_argHome⟩ := u
  obtain ⟨rfl, rfl, rfl, rfl, rfl, rfl, rfl, rfl, rfl, hon, ht16, hT, hS, hM, hmd⟩ := hrel
  rcases hmd with ⟨_, rfl, _, rfl, _, hR⟩ | ⟨h, _⟩ | ⟨h, _⟩ | ⟨h, _⟩
  · have hin : vp_in (nI pc) 256 := vp_in_nI (by have := hT.1; omega) (by decide)
    unfold wpX_doStatement
    refine ⟨hin, ?_⟩
    rw [nI_clamp (by have := hT.1; omega), (hT.2.1 pc hpn).1]
    refine nm_e (nm_e (nm_r (nI_1 pc) ⟨hin, nm_e ?_⟩))
    rw [hk]
    refine br_f (by decide) (br_f (by decide) (br_f (by decide) (br_f (by decide) (br_f (by decide) (br_t rfl (hPX _ ?_))))))
    exact ⟨rfl, rfl, rfl, rfl, rfl, rfl, rfl, rfl, rfl, hon, ht16, hT, hS, hM, .inl ⟨rfl, rfl, rfl, rfl, gr_P_10 hn hP hk, hR⟩⟩
  · omega
  · omega
  · omega
theorem pt_goto {K V : Nat → Nat} {n lim top pc on : Nat} {ab ap rt : Nat → Nat} {kd vl av aq ae pr : Nat → Int32} {ex : Int32} {u0 : St2} (h0 : pt_rel K V n lim kd vl (0, top, pc, on, ab, ap, rt, av, aq, ae, pr, ex, 0) u0) (hk : K pc = 9) : ∃ A', pt_nx K V n lim kd vl (0, top, pc, on, ab, ap, rt, av, aq, ae, pr, ex, 0) A' := by
  obtain ⟨hT0, hn, hL, hN, hU, hP, hon0, lb0, lp0, rr0, sv0, sh0, hR0⟩ := pt_pure h0
  have hpn := hP.2.1
  have hv := hT0.2.2 pc hpn (by simp only [xn_nm]; omega)
  obtain ⟨d, hl, hm⟩ := rt_name hU hpn (.inr (.inr (.inr (.inr hk)))) (gr_P_k hn hP).2
  obtain ⟨a', ha', r1, r2, r3, r4, r5⟩ := rt_near hn hL hR0 hl
  have hkd := hm.2.2 hk
  have hPd : gr_P K n (d + 1) (ab a') := by rw [← r3]; exact gr_label hn r2 hkd
  refine ⟨(0, a', d + 1, on, ab, ap, rt, av, aq, ae, pr, ex + 1, 0), ?_, ?_, ?_⟩
  · (repeat' split) <;> rfl
  · (repeat' split) <;> first | exact .inl rfl | exact .inr rfl
  intro u hrel PX hPX
  obtain ⟨f_depthLimit, f_state, f_trapCode, f_begun, f_tokenTotal, f_printedTotal, f_stackSize, f_bodyCount, f_declaredTwice, f_liveDepth, f_position, a_tokenKind, a_tokenValue, a_printed, a_stack, a_bodyParent, a_bodyStart, a_declCount, a_paramCount, a_paramName, a_declKind, a_declTarget, a_tokenBody, a_branchTarget, a_liveBody, a_liveParent, a_returnTo, a_slotValue, a_slotHome, a_waitingOp, a_waitingLeft, a_leftKnown, a_argKind, a_argValue, a_argHome⟩ := u
  obtain ⟨rfl, rfl, rfl, rfl, rfl, rfl, rfl, rfl, rfl, hon, ht16, hT, hS, hM, hmd⟩ := hrel
  rcases hmd with ⟨_, rfl, _, rfl, _, hR⟩ | ⟨h, _⟩ | ⟨h, _⟩ | ⟨h, _⟩
  · have hin : vp_in (nI pc) 256 := vp_in_nI (by have := hT.1; omega) (by decide)
    unfold wpX_doStatement
    refine ⟨hin, ?_⟩
    rw [nI_clamp (by have := hT.1; omega), (hT.2.1 pc hpn).1, hv.1]
    refine nm_e (nm_e (nm_r (nI_1 pc) ⟨hin, nm_e ?_⟩))
    rw [hk]
    refine br_f (by decide) (br_f (by decide) (br_f (by decide) (br_f (by decide) (br_t rfl (ps_goto hT hS hR hpn hv.2 hl hkd (hPX _ ?_))))))
    rw [← ha']
    exact ⟨rfl, rfl, rfl, rfl, rfl, rfl, rfl, rfl, rfl, hon, by omega, hT, hS, hM, .inl ⟨rfl, rfl, rfl, rfl, hPd, rt_R_le hR r1⟩⟩
  · omega
  · omega
  · omega
def pt_F (K : Nat → Nat) (q P c : Nat) (tk : Nat → Int32) : Prop := c = P ∧ ∀ i, i < P → (tk i = 12 ∧ K (q + 1 + i) = 5) ∨ (tk i = 13 ∧ K (q + 1 + i) = 6)
theorem pt_F_iff {K V : Nat → Nat} {n q b c : Nat} {ab : Nat → Nat} {top : Nat} {ak va ah tk tv tq te : Nat → Int32} (hPr : rk_Pr K V n q b) (hA : rk_A K n ab top c ak va ah tk tv tq te) : rk_F K q (b - q - 1) c ak ↔ pt_F K q (b - q - 1) c tk := by
  have p7 := hPr.2.2.2.2.2.2.1
  constructor
  · rintro ⟨h1, h2⟩
    refine ⟨h1, fun i hi => ?_⟩
    have r := rk_par hPr hi
    have hk := h2 i hi
    rcases hA i (by omega) (by omega) with ⟨a1, a2, _⟩ | ⟨a1, a2, _⟩
    · rw [a1] at hk
      exact .inl ⟨a2, ((nI_eq (a := 5) (by decide) (by omega)).mp hk).symm⟩
    · rw [a1] at hk
      exact .inr ⟨a2, ((nI_eq (a := 6) (by decide) (by omega)).mp hk).symm⟩
  · rintro ⟨h1, h2⟩
    refine ⟨h1, fun i hi => ?_⟩
    rcases hA i (by omega) (by omega) with ⟨a1, a2, _⟩ | ⟨a1, a2, _⟩
    · rcases h2 i hi with ⟨b1, b2⟩ | ⟨b1, b2⟩
      · rw [a1, b2]; rfl
      · rw [a2] at b1; exact absurd b1 (by decide)
    · rcases h2 i hi with ⟨b1, b2⟩ | ⟨b1, b2⟩
      · rw [a2] at b1; exact absurd b1 (by decide)
      · rw [a1, b2]; rfl
noncomputable def pt_cl (K V : Nat → Nat) (lim top pc on : Nat) (ab ap rt : Nat → Nat) (av aq ae pr : Nat → Int32) (ex : Int32) (q h b s dn : Nat) : Option (Nat × (Nat → Int32) × (Nat → Int32) × (Nat → Int32) × (Nat → Int32)) → pt_AS
  | none => (3, top, pc, on, ab, ap, rt, av, aq, ae, pr, ex + 1, 1)
  | some (c, tk, tv, tq, te) => @ite _ (pt_F K q (b - q - 1) c tk) (Classical.propDecidable _)
      (if top < lim then (0, top + 1, s, on, rk_u ab (top + 1) b, rk_u ap (top + 1) h, rk_u rt (top + 1) (dn + 1), rk_b1 V q (top + 1) tk tv (rk_z (top + 1) av 16) (b - q - 1), rk_b2 V q (top + 1) tk tq (rk_z (top + 1) aq 16) (b - q - 1), rk_b2 V q (top + 1) tk te (rk_z (top + 1) ae 16) (b - q - 1), pr, ex + 1, 0)
       else (3, top, pc, on, ab, ap, rt, av, aq, ae, pr, ex + 1, 2))
      (3, top, pc, on, ab, ap, rt, av, aq, ae, pr, ex + 1, 3)
theorem pt_call {K V : Nat → Nat} {n lim top pc on : Nat} {ab ap rt : Nat → Nat} {kd vl av aq ae pr : Nat → Int32} {ex : Int32} {u0 : St2} (h0 : pt_rel K V n lim kd vl (0, top, pc, on, ab, ap, rt, av, aq, ae, pr, ex, 0) u0) (hl2 : lim ≤ 16) (hk : K pc = 11) : ∃ A', pt_nx K V n lim kd vl (0, top, pc, on, ab, ap, rt, av, aq, ae, pr, ex, 0) A' := by
  obtain ⟨hT0, hn, hL, hN, hU, hP, hon0, lb0, lp0, rr0, sv0, sh0, hR0⟩ := pt_pure h0
  have hpn := hP.2.1
  have hv := hT0.2.2 pc hpn (by simp only [xn_nm]; omega)
  obtain ⟨h256, htk, htv⟩ := hT0
  have hT0 : rt_TK K V n kd vl := ⟨h256, htk, htv⟩
  have hp1 := hP.1
  have hVd : ∀ d, d < n → gr_D (K d) → V d < 16 := fun d hd h => (htv d hd (by simp only [gr_D] at h; simp only [xn_nm]; omega)).2
  obtain ⟨dn, L, d1, d2, d3, d4, d5, d6, d7⟩ := gr_P_11 hn hP hk
  obtain ⟨d, hl, hm⟩ := rt_name hU hpn (.inr (.inr (.inl hk))) (gr_P_k hn hP).2
  obtain ⟨q, h, hVq, hpv⟩ := pa_pv h256 hn hL hR0 hl (hm.2.1 (.inl hk))
  obtain ⟨b, L', c1, c2, c3, c4, c5, c6, c7, c8, c9⟩ := gr_proc hn hVq.1 hVq.2.1
  obtain ⟨s, e1, e2, e3, e4, e5, e6⟩ := rk_first hn n (b + 1) (by omega) (by omega) (by omega) c9
  have h16 : gr_np K b < 16 := by have := @gr_np_mono K b n (by omega); have := hL.1; omega
  obtain ⟨res, hres⟩ := pa_args hT0 hn hL hU hR0 d2 d4 d5 d6 (n - (pc + 1)) (pc + 1) 0 (fun _ => 0) (fun _ => 0) (fun _ => 0) (fun _ => 0) (Nat.le_refl _) (by omega) (by omega) (by omega) d3
  refine ⟨pt_cl K V lim top pc on ab ap rt av aq ae pr ex q h b s dn res, ?_, ?_, ?_⟩
  · unfold pt_cl; (repeat' split) <;> rfl
  · unfold pt_cl; (repeat' split) <;> first | exact .inl rfl | exact .inr rfl
  intro u hrel PX hPX
  obtain ⟨f_depthLimit, f_state, f_trapCode, f_begun, f_tokenTotal, f_printedTotal, f_stackSize, f_bodyCount, f_declaredTwice, f_liveDepth, f_position, a_tokenKind, a_tokenValue, a_printed, a_stack, a_bodyParent, a_bodyStart, a_declCount, a_paramCount, a_paramName, a_declKind, a_declTarget, a_tokenBody, a_branchTarget, a_liveBody, a_liveParent, a_returnTo, a_slotValue, a_slotHome, a_waitingOp, a_waitingLeft, a_leftKnown, a_argKind, a_argValue, a_argHome⟩ := u
  obtain ⟨rfl, rfl, rfl, rfl, rfl, rfl, rfl, rfl, rfl, hon, ht16, hT, hS, hM, hmd⟩ := hrel
  rcases hmd with ⟨_, rfl, _, rfl, _, hR⟩ | ⟨h, _⟩ | ⟨h, _⟩ | ⟨h, _⟩
  · have hin : vp_in (nI pc) 256 := vp_in_nI (by have := hT.1; omega) (by decide)
    unfold wpX_doStatement
    refine ⟨hin, ?_⟩
    rw [nI_clamp (by have := hT.1; omega), (hT.2.1 pc hpn).1, hv.1]
    refine nm_e (nm_e (nm_r (nI_1 pc) ⟨hin, nm_e ?_⟩))
    rw [hk]
    have hXX := hS.2.2.2.2
    have hPr : rk_Pr K V n q b := by
      refine ⟨hVq.1, hVq.2.1, c1, c2, c3, fun i h1 h2 => ⟨c6 i h1 h2, (c5 i h1 (by omega)).2, ?_, ?_⟩, (hXX.2.2.1 q b hVq.1 hVq.2.1 c1 c2 c3 c6).1, h16⟩
      · exact (htv i (by omega) (by have := c6 i h1 h2; simp only [xn_nm]; omega)).2
      · have := gr_dc_of hN (show i < n by omega) (by have := c6 i h1 h2; simp only [gr_D]; omega)
        rw [(c5 i h1 (by omega)).2] at this
        exact this
    have hbs : a_bodyStart (gr_np K b) = nI s := hXX.2.1 s b _ e1 e2 e3 e4 e5
    obtain ⟨s1, s2⟩ := hpv _ _ _ _ _ _ _ _ hR
    have hle : ac_al K V n ab ap (V pc) 15 top ≤ top := ac_al_le hR.2.1 15 top (Nat.le_refl _)
    refine br_f (by decide) (br_f (by decide) (br_f (by decide) (br_f (by decide) (br_f (by decide) (br_f (by decide) (br_t rfl ?_))))))
    unfold wpX_doCall
    refine rs_slot hn hL (fun d hd => (htk d hd).2) hXX.2.2.2.1 hv.2 hR.2.1 hR.1 (fun a h => (hR.2.2.2.1 a h).1) hR.2.2.2.2.1 (fun a h1 h2 => (hR.2.2.2.2.2.1 a h1 h2).1) ?_
    have ix : vp_in (nI (ac_al K V n ab ap (V pc) 15 top * 16 + V pc)) 272 := vp_in_nI (by omega) (by decide)
    rw [nI_clamp (by omega), s1, s2, ← c7]
    refine ⟨ix, nm_e ⟨ix, nm_e ?_⟩⟩
    unfold wpX_takeArguments
    refine ⟨n, hres lim on (f_begun + 1) _ _ _ _ _ _ _ _ _ _ _ _ _ _ _ _ _ _ _ _ _ _ _ 0 n _ _ _ _ _ _ hS hR (fun i hi => by omega) (by omega) (by omega) (fun hr r ps ak av_ ah wo wl lk => ?_) (fun c tk tv tq te hr hc ak av_ ah wo wl lk hA => ?_)⟩
    · refine br_f (by decide) (hPX _ ?_)
      subst hr
      exact ⟨rfl, rfl, rfl, rfl, rfl, rfl, rfl, rfl, rfl, hon, ht16, hT, hS, hM, .inr (.inr (.inr ⟨rfl, rfl, by decide⟩))⟩
    · subst hr
      have hFF := pt_F_iff hPr hA
      refine br_t rfl (rk_fit (fun d hd => (htk d hd).2) hPr hXX.2.2.1 hXX.2.2.2.1 hc (fun hF => br_f (by decide) ?_) (fun hF => br_t rfl (hPX _ ?_)))
      · have hF2 := hFF.mp hF
        by_cases hlt : top < lim
        · refine br_t (nI_lt hlt (by omega)) (nm_r (nI_1 top) ⟨vp_in_nI (by omega) (by decide), ?_⟩)
          rw [nI_clamp (n := top + 1) (by omega)]
          refine nm_e (xk_open (by omega) h16 (fun sv1 sh1 o1 o2 => ?_))
          unfold wpX_bindParams
          refine ⟨b - q, rk_bind hPr hXX.2.2.1 (by omega) sv1 sh1 (fun sv sh o3 o4 => ?_) (b - q - 1) 0 (b - q) _ _ (by omega) (by omega) (fun i' h => by omega) (fun j _ => ⟨rfl, rfl⟩)⟩
          rw [hbs]
          refine hPX _ ?_
          simp only [pt_cl]
          rw [if_pos hF2, if_pos hlt]
          have hR' := pt_R_y (rk_R (dk := a_declKind) (dt := a_declTarget) hn hN hVd hR hPr hVq c8 hA hF d7 (by omega) hXX.2.2.2.1 o1 o2 o3 o4)
          exact ⟨rfl, rfl, rfl, rfl, rfl, rfl, rfl, rfl, rfl, hon, by omega, hT, hS, rt_MV_of hR', .inl ⟨rfl, rfl, rfl, rfl, by rw [rk_us]; exact e6, hR'⟩⟩
        · refine br_f (nI_nlt (by omega) (by omega)) (hPX _ ?_)
          simp only [pt_cl]
          rw [if_pos hF2, if_neg hlt]
          exact ⟨rfl, rfl, rfl, rfl, rfl, rfl, rfl, rfl, rfl, hon, ht16, hT, hS, hM, .inr (.inr (.inr ⟨rfl, rfl, by decide⟩))⟩
      · have hF2 : ¬ pt_F K q (b - q - 1) c tk := fun h => hF (hFF.mpr h)
        simp only [pt_cl]
        rw [if_neg hF2]
        exact ⟨rfl, rfl, rfl, rfl, rfl, rfl, rfl, rfl, rfl, hon, ht16, hT, hS, hM, .inr (.inr (.inr ⟨rfl, rfl, by decide⟩))⟩
  · omega
  · omega
  · omega
end
section
variable {f_depthLimit f_state f_trapCode f_begun f_tokenTotal f_printedTotal f_stackSize f_bodyCount f_declaredTwice f_liveDepth f_position : Int32} {a_tokenKind a_tokenValue a_printed a_stack a_bodyParent a_bodyStart a_declCount a_paramCount a_paramName a_declKind a_declTarget a_tokenBody a_branchTarget a_liveBody a_liveParent a_returnTo a_slotValue a_slotHome a_waitingOp a_waitingLeft a_leftKnown a_argKind a_argValue a_argHome : Nat → Int32}
/-- settled, or ended -/
def pt_ok (K : Nat → Nat) (A : pt_AS) : Prop := (pt_md A = 0 ∧ K A.2.2.1 ≠ 2 ∧ K A.2.2.1 ≠ 16 ∧ K A.2.2.1 ≠ 17) ∨ pt_md A = 1 ∨ pt_md A = 2
theorem pt_stl {K V : Nat → Nat} {n lim top pc on : Nat} {ab ap rt : Nat → Nat} {kd vl av aq ae pr : Nat → Int32} {ex : Int32} {u0 : St2} (h0 : pt_rel K V n lim kd vl (0, top, pc, on, ab, ap, rt, av, aq, ae, pr, ex, 0) u0) : ∃ A1, pt_ok K A1 ∧ pt_ex A1 = ex ∧ ∀ u, pt_rel K V n lim kd vl (0, top, pc, on, ab, ap, rt, av, aq, ae, pr, ex, 0) u → ∀ C : St2 → Prop, (∀ u', pt_rel K V n lim kd vl A1 u' → C u') → wpX_settle C u := by
  obtain ⟨hT0, hn, hL, hN, hU, hP, hon0, lb0, lp0, rr0, sv0, sh0, hR0⟩ := pt_pure h0
  have ht0 := hR0.1
  obtain ⟨s', top', pc', hc, hx⟩ := pt_settle hn hT0.1 4352 top pc (by omega) ht0 (fun a h1 h2 => (hR0.2.2.1 a h1 h2).1) hP
  have walk : ∀ A1 : pt_AS, (∀ u, pt_rel K V n lim kd vl (0, top, pc, on, ab, ap, rt, av, aq, ae, pr, ex, 0) u → ∀ C : St2 → Prop, (∀ u', pt_rel K V n lim kd vl A1 u' → C u') → (match u with | (f_depthLimit, f_state, f_trapCode, f_begun, f_tokenTotal, f_printedTotal, f_stackSize, f_bodyCount, f_declaredTwice, f_liveDepth, f_position, a_tokenKind, a_tokenValue, a_printed, a_stack, a_bodyParent, a_bodyStart, a_declCount, a_paramCount, a_paramName, a_declKind, a_declTarget, a_tokenBody, a_branchTarget, a_liveBody, a_liveParent, a_returnTo, a_slotValue, a_slotHome, a_waitingOp, a_waitingLeft, a_leftKnown, a_argKind, a_argValue, a_argHome) => C (f_depthLimit, s', f_trapCode, f_begun, f_tokenTotal, f_printedTotal, f_stackSize, f_bodyCount, f_declaredTwice, nI top', nI pc', a_tokenKind, a_tokenValue, a_printed, a_stack, a_bodyParent, a_bodyStart, a_declCount, a_paramCount, a_paramName, a_declKind, a_declTarget, a_tokenBody, a_branchTarget, a_liveBody, a_liveParent, a_returnTo, a_slotValue, a_slotHome, a_waitingOp, a_waitingLeft, a_leftKnown, a_argKind, a_argValue, a_argHome))) → ∀ u, pt_rel K V n lim kd vl (0, top, pc, on, ab, ap, rt, av, aq, ae, pr, ex, 0) u → ∀ C : St2 → Prop, (∀ u', pt_rel K V n lim kd vl A1 u' → C u') → wpX_settle C u := by
    intro A1 hA u hrel C hC
    have hh := hA u hrel C hC
    obtain ⟨f_depthLimit, f_state, f_trapCode, f_begun, f_tokenTotal, f_printedTotal, f_stackSize, f_bodyCount, f_declaredTwice, f_liveDepth, f_position, a_tokenKind, a_tokenValue, a_printed, a_stack, a_bodyParent, a_bodyStart, a_declCount, a_paramCount, a_paramName, a_declKind, a_declTarget, a_tokenBody, a_branchTarget, a_liveBody, a_liveParent, a_returnTo, a_slotValue, a_slotHome, a_waitingOp, a_waitingLeft, a_leftKnown, a_argKind, a_argValue, a_argHome⟩ := u
    obtain ⟨rfl, rfl, rfl, rfl, rfl, rfl, rfl, rfl, rfl, hon, ht16, hT, hS, hM, hmd⟩ := hrel
    rcases hmd with ⟨_, rfl, _, rfl, _, hR⟩ | ⟨h, _⟩ | ⟨h, _⟩ | ⟨h, _⟩
    · unfold wpX_settle
      exact ⟨4353, hx _ _ _ _ _ _ _ _ _ _ _ _ _ _ _ _ _ _ _ _ _ _ _ _ _ _ _ _ _ _ _ _ C 0 4353 hT.2.1 hS.2.2.2.2.2.2.2.2 (fun a h1 h2 => (hR.2.2.1 a h1 h2).2.1) (by omega) (by omega) hh⟩
    · omega
    · omega
    · omega
  rcases hc with ⟨rfl, c1, c2, c3⟩ | ⟨rfl, rfl⟩
  · refine ⟨(0, top', pc', on, ab, ap, rt, av, aq, ae, pr, ex, 0), .inl ⟨rfl, c3⟩, rfl, walk _ (fun u hrel C hC => ?_)⟩
    obtain ⟨f_depthLimit, f_state, f_trapCode, f_begun, f_tokenTotal, f_printedTotal, f_stackSize, f_bodyCount, f_declaredTwice, f_liveDepth, f_position, a_tokenKind, a_tokenValue, a_printed, a_stack, a_bodyParent, a_bodyStart, a_declCount, a_paramCount, a_paramName, a_declKind, a_declTarget, a_tokenBody, a_branchTarget, a_liveBody, a_liveParent, a_returnTo, a_slotValue, a_slotHome, a_waitingOp, a_waitingLeft, a_leftKnown, a_argKind, a_argValue, a_argHome⟩ := u
    obtain ⟨rfl, rfl, rfl, rfl, rfl, rfl, rfl, rfl, rfl, hon, ht16, hT, hS, hM, hmd⟩ := hrel
    rcases hmd with ⟨_, rfl, _, rfl, _, hR⟩ | ⟨h, _⟩ | ⟨h, _⟩ | ⟨h, _⟩
    · exact hC _ ⟨rfl, rfl, rfl, rfl, rfl, rfl, rfl, rfl, rfl, hon, by omega, hT, hS, hM, .inl ⟨rfl, rfl, rfl, rfl, c2, rt_R_le hR c1⟩⟩
    · omega
    · omega
    · omega
  · refine ⟨(1, 0, pc', on, ab, ap, rt, av, aq, ae, pr, ex, 0), .inr (.inl rfl), rfl, walk _ (fun u hrel C hC => ?_)⟩
    obtain ⟨f_depthLimit, f_state, f_trapCode, f_begun, f_tokenTotal, f_printedTotal, f_stackSize, f_bodyCount, f_declaredTwice, f_liveDepth, f_position, a_tokenKind, a_tokenValue, a_printed, a_stack, a_bodyParent, a_bodyStart, a_declCount, a_paramCount, a_paramName, a_declKind, a_declTarget, a_tokenBody, a_branchTarget, a_liveBody, a_liveParent, a_returnTo, a_slotValue, a_slotHome, a_waitingOp, a_waitingLeft, a_leftKnown, a_argKind, a_argValue, a_argHome⟩ := u
    obtain ⟨rfl, rfl, rfl, rfl, rfl, rfl, rfl, rfl, rfl, hon, ht16, hT, hS, hM, hmd⟩ := hrel
    rcases hmd with ⟨_, rfl, _, rfl, _, hR⟩ | ⟨h, _⟩ | ⟨h, _⟩ | ⟨h, _⟩
    · exact hC _ ⟨rfl, rfl, rfl, rfl, rfl, rfl, rfl, rfl, rfl, hon, by omega, hT, hS, hM, .inr (.inl ⟨rfl, rfl, rfl, rfl⟩)⟩
    · omega
    · omega
    · omega
/-- a statement of any kind -/
theorem pt_any {K V : Nat → Nat} {n lim top pc on : Nat} {ab ap rt : Nat → Nat} {kd vl av aq ae pr : Nat → Int32} {ex : Int32} {u0 : St2} (h0 : pt_rel K V n lim kd vl (0, top, pc, on, ab, ap, rt, av, aq, ae, pr, ex, 0) u0) (hl2 : lim ≤ 16) (h2 : K pc ≠ 2) (h16 : K pc ≠ 16) (h17 : K pc ≠ 17) : ∃ A', pt_nx K V n lim kd vl (0, top, pc, on, ab, ap, rt, av, aq, ae, pr, ex, 0) A' := by
  obtain ⟨hT0, hn, hL, hN, hU, hP, _⟩ := pt_pure h0
  have hk := (gr_P_k hn hP).1
  have hk : K pc = 7 ∨ K pc = 8 ∨ K pc = 9 ∨ K pc = 10 ∨ K pc = 11 ∨ K pc = 15 := by omega
  rcases hk with q | q | q | q | q | q
  · exact pt_set h0 q
  · exact pt_print h0 q
  · exact pt_goto h0 q
  · exact pt_label h0 q
  · exact pt_call h0 hl2 q
  · exact pt_if h0 q
/-- a statement, the trap's state, the settling -/
def pt_ms (K V : Nat → Nat) (n lim : Nat) (kd vl : Nat → Int32) (A A' : pt_AS) : Prop := pt_ok K A' ∧ pt_ex A' = pt_ex A + 1 ∧ ∀ u, pt_rel K V n lim kd vl A u → ∀ C : St2 → Prop, (∀ u', pt_rel K V n lim kd vl A' u' → C u') →
  wpX_doStatement (fun u => match u with | (f_depthLimit, f_state, f_trapCode, f_begun, f_tokenTotal, f_printedTotal, f_stackSize, f_bodyCount, f_declaredTwice, f_liveDepth, f_position, a_tokenKind, a_tokenValue, a_printed, a_stack, a_bodyParent, a_bodyStart, a_declCount, a_paramCount, a_paramName, a_declKind, a_declTarget, a_tokenBody, a_branchTarget, a_liveBody, a_liveParent, a_returnTo, a_slotValue, a_slotHome, a_waitingOp, a_waitingLeft, a_leftKnown, a_argKind, a_argValue, a_argHome) => ((f_trapCode = 0 → wpX_settle C (f_depthLimit, f_state, f_trapCode, f_begun, f_tokenTotal, f_printedTotal, f_stackSize, f_bodyCount, f_declaredTwice, f_liveDepth, f_position, a_tokenKind, a_tokenValue, a_printed, a_stack, a_bodyParent, a_bodyStart, a_declCount, a_paramCount, a_paramName, a_declKind, a_declTarget, a_tokenBody, a_branchTarget, a_liveBody, a_liveParent, a_returnTo, a_slotValue, a_slotHome, a_waitingOp, a_waitingLeft, a_leftKnown, a_argKind, a_argValue, a_argHome)) ∧ (¬ f_trapCode = 0 → wpX_settle C (f_depthLimit, 3, f_trapCode, f_begun, f_tokenTotal, f_printedTotal, f_stackSize, f_bodyCount, f_declaredTwice, f_liveDepth, f_position, a_tokenKind, a_tokenValue, a_printed, a_stack, a_bodyParent, a_bodyStart, a_declCount, a_paramCount, a_paramName, a_declKind, a_declTarget, a_tokenBody, a_branchTarget, a_liveBody, a_liveParent, a_returnTo, a_slotValue, a_slotHome, a_waitingOp, a_waitingLeft, a_leftKnown, a_argKind, a_argValue, a_argHome)))) u
theorem pt_mac {K V : Nat → Nat} {n lim top pc on : Nat} {ab ap rt : Nat → Nat} {kd vl av aq ae pr : Nat → Int32} {ex : Int32} {u0 : St2} (h0 : pt_rel K V n lim kd vl (0, top, pc, on, ab, ap, rt, av, aq, ae, pr, ex, 0) u0) (hl2 : lim ≤ 16) (h2 : K pc ≠ 2) (h16 : K pc ≠ 16) (h17 : K pc ≠ 17) : ∃ A', pt_ms K V n lim kd vl (0, top, pc, on, ab, ap, rt, av, aq, ae, pr, ex, 0) A' := by
  obtain ⟨A1, n1, n2, n3⟩ := pt_any h0 hl2 h2 h16 h17
  by_cases hex : ∃ u1, pt_rel K V n lim kd vl A1 u1
  · obtain ⟨u1, hu1⟩ := hex
    obtain ⟨md, top1, pc1, on1, ab1, ap1, rt1, av1, aq1, ae1, pr1, ex1, tc1⟩ := A1
    rcases n2 with rfl | rfl
    · have htc : tc1 = 0 := by
        obtain ⟨f_depthLimit, f_state, f_trapCode, f_begun, f_tokenTotal, f_printedTotal, f_stackSize, f_bodyCount, f_declaredTwice, f_liveDepth, f_position, a_tokenKind, a_tokenValue, a_printed, a_stack, a_bodyParent, a_bodyStart, a_declCount, a_paramCount, a_paramName, a_declKind, a_declTarget, a_tokenBody, a_branchTarget, a_liveBody, a_liveParent, a_returnTo, a_slotValue, a_slotHome, a_waitingOp, a_waitingLeft, a_leftKnown, a_argKind, a_argValue, a_argHome⟩ := u1
        obtain ⟨_, _, _, _, _, _, _, _, _, _, _, _, _, _, hmd⟩ := hu1
        rcases hmd with ⟨_, _, h, _⟩ | ⟨h, _⟩ | ⟨h, _⟩ | ⟨h, _⟩
        · exact h
        · exact absurd h (by decide)
        · exact absurd h (by decide)
        · exact absurd h (by decide)
      subst htc
      obtain ⟨A2, m1, m2, m3⟩ := pt_stl hu1
      refine ⟨A2, m1, m2.trans n1, fun u hrel C hC => n3 u hrel _ (fun u' hu' => ?_)⟩
      have hs := m3 u' hu' C hC
      obtain ⟨f_depthLimit, f_state, f_trapCode, f_begun, f_tokenTotal, f_printedTotal, f_stackSize, f_bodyCount, f_declaredTwice, f_liveDepth, f_position, a_tokenKind, a_tokenValue, a_printed, a_stack, a_bodyParent, a_bodyStart, a_declCount, a_paramCount, a_paramName, a_declKind, a_declTarget, a_tokenBody, a_branchTarget, a_liveBody, a_liveParent, a_returnTo, a_slotValue, a_slotHome, a_waitingOp, a_waitingLeft, a_leftKnown, a_argKind, a_argValue, a_argHome⟩ := u'
      obtain ⟨_, _, _, _, _, _, _, _, htc, _⟩ := hu'
      exact br_t htc hs
    · refine ⟨(2, top1, pc1, on1, ab1, ap1, rt1, av1, aq1, ae1, pr1, ex1, tc1), .inr (.inr rfl), n1, fun u hrel C hC => n3 u hrel _ (fun u' hu' => ?_)⟩
      obtain ⟨f_depthLimit, f_state, f_trapCode, f_begun, f_tokenTotal, f_printedTotal, f_stackSize, f_bodyCount, f_declaredTwice, f_liveDepth, f_position, a_tokenKind, a_tokenValue, a_printed, a_stack, a_bodyParent, a_bodyStart, a_declCount, a_paramCount, a_paramName, a_declKind, a_declTarget, a_tokenBody, a_branchTarget, a_liveBody, a_liveParent, a_returnTo, a_slotValue, a_slotHome, a_waitingOp, a_waitingLeft, a_leftKnown, a_argKind, a_argValue, a_argHome⟩ := u'
      obtain ⟨rfl, rfl, rfl, rfl, rfl, rfl, rfl, rfl, rfl, hon, ht16, hT, hS, hM, hmd⟩ := hu'
      rcases hmd with ⟨h, _⟩ | ⟨h, _⟩ | ⟨h, _⟩ | ⟨_, rfl, htc⟩
      · exact absurd h (by decide)
      · exact absurd h (by decide)
      · exact absurd h (by decide)
      · refine br_f htc ?_
        unfold wpX_settle
        refine ⟨1, br_f (by decide) (br_f (by decide) (hC _ ?_))⟩
        exact ⟨rfl, rfl, rfl, rfl, rfl, rfl, rfl, rfl, rfl, hon, ht16, hT, hS, hM, .inr (.inr (.inl ⟨rfl, rfl, htc⟩))⟩
  · refine ⟨(1, 0, 0, 0, fun _ => 0, fun _ => 0, fun _ => 0, fun _ => 0, fun _ => 0, fun _ => 0, fun _ => 0, ex + 1, 0), .inr (.inl rfl), rfl, fun u hrel C hC => n3 u hrel _ (fun u' hu' => absurd ⟨u', hu'⟩ hex)⟩
/-- the whole course: every settled state has its next -/
theorem pt_course {K V : Nat → Nat} {n lim : Nat} (kd vl : Nat → Int32) (hl2 : lim ≤ 16) : ∃ nx : pt_AS → pt_AS, ∀ A, (pt_md A = 0 → pt_ok K A → pt_ms K V n lim kd vl A (nx A)) ∧ (pt_md A ≠ 0 → nx A = A) := by
  have h : ∀ A : pt_AS, ∃ A', (pt_md A = 0 → pt_ok K A → pt_ms K V n lim kd vl A A') ∧ (pt_md A ≠ 0 → A' = A) := by
    intro A
    by_cases h0 : pt_md A = 0
    · by_cases hex : ∃ u1, pt_rel K V n lim kd vl A u1
      · obtain ⟨u1, hu1⟩ := hex
        by_cases hok : pt_ok K A
        · obtain ⟨md, top, pc, on, ab, ap, rt, av, aq, ae, pr, ex, tc⟩ := A
          have hmd0 : md = 0 := h0
          subst hmd0
          have htc : tc = 0 := by
            obtain ⟨f_depthLimit, f_state, f_trapCode, f_begun, f_tokenTotal, f_printedTotal, f_stackSize, f_bodyCount, f_declaredTwice, f_liveDepth, f_position, a_tokenKind, a_tokenValue, a_printed, a_stack, a_bodyParent, a_bodyStart, a_declCount, a_paramCount, a_paramName, a_declKind, a_declTarget, a_tokenBody, a_branchTarget, a_liveBody, a_liveParent, a_returnTo, a_slotValue, a_slotHome, a_waitingOp, a_waitingLeft, a_leftKnown, a_argKind, a_argValue, a_argHome⟩ := u1
            obtain ⟨_, _, _, _, _, _, _, _, _, _, _, _, _, _, hmd⟩ := hu1
            rcases hmd with ⟨_, _, h, _⟩ | ⟨h, _⟩ | ⟨h, _⟩ | ⟨h, _⟩
            · exact h
            · exact absurd h (by decide)
            · exact absurd h (by decide)
            · exact absurd h (by decide)
          subst htc
          rcases hok with ⟨_, c1, c2, c3⟩ | h | h
          · obtain ⟨A', hA'⟩ := pt_mac hu1 hl2 c1 c2 c3
            exact ⟨A', fun _ _ => hA', fun h => absurd h0 h⟩
          · exact absurd (show (0 : Nat) = 1 from h) (by decide)
          · exact absurd (show (0 : Nat) = 2 from h) (by decide)
        · exact ⟨A, fun _ h => absurd h hok, fun h => absurd h0 h⟩
      · obtain ⟨md, top, pc, on, ab, ap, rt, av, aq, ae, pr, ex, tc⟩ := A
        refine ⟨(1, 0, 0, 0, fun _ => 0, fun _ => 0, fun _ => 0, fun _ => 0, fun _ => 0, fun _ => 0, fun _ => 0, ex + 1, 0), fun _ _ => ⟨.inr (.inl rfl), rfl, fun u hrel => absurd ⟨u, hrel⟩ hex⟩, fun h => absurd h0 h⟩
    · exact ⟨A, fun h => absurd h h0, fun _ => rfl⟩
  exact ⟨fun A => (h A).choose, fun A => (h A).choose_spec⟩
def pt_s (nx : pt_AS → pt_AS) (A : pt_AS) : Nat → pt_AS
  | 0 => A
  | k + 1 => nx (pt_s nx A k)
end
section
variable {f_depthLimit f_state f_trapCode f_begun f_tokenTotal f_printedTotal f_stackSize f_bodyCount f_declaredTwice f_liveDepth f_position : Int32} {a_tokenKind a_tokenValue a_printed a_stack a_bodyParent a_bodyStart a_declCount a_paramCount a_paramName a_declKind a_declTarget a_tokenBody a_branchTarget a_liveBody a_liveParent a_returnTo a_slotValue a_slotHome a_waitingOp a_waitingLeft a_leftKnown a_argKind a_argValue a_argHome : Nat → Int32}
def rt_c28 (post : Int32 → St2 → Prop) (x2 : Int32) (f : Nat) (x3 : Int32) (u : St2) : Prop := match u with
  | (f_depthLimit, f_state, f_trapCode, f_begun, f_tokenTotal, f_printedTotal, f_stackSize, f_bodyCount, f_declaredTwice, f_liveDepth, f_position, a_tokenKind, a_tokenValue, a_printed, a_stack, a_bodyParent, a_bodyStart, a_declCount, a_paramCount, a_paramName, a_declKind, a_declTarget, a_tokenBody, a_branchTarget, a_liveBody, a_liveParent, a_returnTo, a_slotValue, a_slotHome, a_waitingOp, a_waitingLeft, a_leftKnown, a_argKind, a_argValue, a_argHome) => wX_run_28 post x2 f x3 f_depthLimit f_state f_trapCode f_begun f_tokenTotal f_printedTotal f_stackSize f_bodyCount f_declaredTwice f_liveDepth f_position a_tokenKind a_tokenValue a_printed a_stack a_bodyParent a_bodyStart a_declCount a_paramCount a_paramName a_declKind a_declTarget a_tokenBody a_branchTarget a_liveBody a_liveParent a_returnTo a_slotValue a_slotHome a_waitingOp a_waitingLeft a_leftKnown a_argKind a_argValue a_argHome
theorem pt_s_ok {K V : Nat → Nat} {n lim : Nat} {kd vl : Nat → Int32} {nx : pt_AS → pt_AS} (hnx : ∀ A, (pt_md A = 0 → pt_ok K A → pt_ms K V n lim kd vl A (nx A)) ∧ (pt_md A ≠ 0 → nx A = A)) {A : pt_AS} (hA : pt_ok K A) : ∀ k, pt_ok K (pt_s nx A k) := by
  intro k
  induction k with
  | zero => exact hA
  | succ k ih =>
    show pt_ok K (nx (pt_s nx A k))
    by_cases h : pt_md (pt_s nx A k) = 0
    · exact ((hnx _).1 h ih).1
    · rw [(hnx _).2 h]; exact ih
theorem pt_s_end {K V : Nat → Nat} {n lim : Nat} {kd vl : Nat → Int32} {nx : pt_AS → pt_AS} (hnx : ∀ A, (pt_md A = 0 → pt_ok K A → pt_ms K V n lim kd vl A (nx A)) ∧ (pt_md A ≠ 0 → nx A = A)) {A : pt_AS} {k : Nat} (h : pt_md (pt_s nx A k) ≠ 0) : ∀ r, pt_s nx A (k + r) = pt_s nx A k := by
  intro r
  induction r with
  | zero => rfl
  | succ r ih =>
    show nx (pt_s nx A (k + r)) = _
    rw [ih]
    exact (hnx _).2 h
theorem pt_s_ex {K V : Nat → Nat} {n lim : Nat} {kd vl : Nat → Int32} {nx : pt_AS → pt_AS} (hnx : ∀ A, (pt_md A = 0 → pt_ok K A → pt_ms K V n lim kd vl A (nx A)) ∧ (pt_md A ≠ 0 → nx A = A)) {A : pt_AS} (hA : pt_ok K A) (h0 : pt_ex A = 0) : ∀ k, ∃ e, e ≤ k ∧ pt_ex (pt_s nx A k) = nI e ∧ (pt_md (pt_s nx A k) = 0 → e = k) := by
  intro k
  induction k with
  | zero => exact ⟨0, Nat.le_refl _, h0, fun _ => rfl⟩
  | succ k ih =>
    obtain ⟨e, h1, h2, h3⟩ := ih
    by_cases h : pt_md (pt_s nx A k) = 0
    · have hm := (hnx _).1 h (pt_s_ok hnx hA k)
      refine ⟨e + 1, by omega, ?_, fun _ => by have := h3 h; omega⟩
      show pt_ex (nx (pt_s nx A k)) = _
      rw [hm.2.1, h2, nI_1]
    · refine ⟨e, by omega, ?_, fun h4 => ?_⟩
      · show pt_ex (nx (pt_s nx A k)) = _
        rw [(hnx _).2 h]; exact h2
      · have h4 : pt_md (nx (pt_s nx A k)) = 0 := h4
        rw [(hnx _).2 h] at h4
        exact absurd h4 h
theorem pt_st {K V : Nat → Nat} {n lim : Nat} {kd vl : Nat → Int32} {A : pt_AS} {u : St2} (h : pt_rel K V n lim kd vl A u) (hA : pt_ok K A) : (pt_md A = 0 ↔ u.2.1 = 1) := by
  obtain ⟨f_depthLimit, f_state, f_trapCode, f_begun, f_tokenTotal, f_printedTotal, f_stackSize, f_bodyCount, f_declaredTwice, f_liveDepth, f_position, a_tokenKind, a_tokenValue, a_printed, a_stack, a_bodyParent, a_bodyStart, a_declCount, a_paramCount, a_paramName, a_declKind, a_declTarget, a_tokenBody, a_branchTarget, a_liveBody, a_liveParent, a_returnTo, a_slotValue, a_slotHome, a_waitingOp, a_waitingLeft, a_leftKnown, a_argKind, a_argValue, a_argHome⟩ := u
  obtain ⟨md, top, pc, on, ab, ap, rt, av, aq, ae, pr, ex, tc⟩ := A
  obtain ⟨_, _, _, _, _, _, _, _, _, _, _, _, _, _, hmd⟩ := h
  rcases hmd with ⟨rfl, h, _⟩ | ⟨rfl, h, _⟩ | ⟨rfl, h, _⟩ | ⟨rfl, h, _⟩
  · exact ⟨fun _ => h, fun _ => rfl⟩
  · exact ⟨fun h2 => absurd (show (1 : Nat) = 0 from h2) (by decide), fun h2 => by
      have h3 : f_state = 1 := h2
      rw [h] at h3; exact absurd h3 (by decide)⟩
  · exact ⟨fun h2 => absurd (show (2 : Nat) = 0 from h2) (by decide), fun h2 => by
      have h3 : f_state = 1 := h2
      rw [h] at h3; exact absurd h3 (by decide)⟩
  · rcases hA with ⟨h2, _⟩ | h2 | h2
    · exact absurd (show (3 : Nat) = 0 from h2) (by decide)
    · exact absurd (show (3 : Nat) = 1 from h2) (by decide)
    · exact absurd (show (3 : Nat) = 2 from h2) (by decide)
/-- the run's loop along the course -/
theorem pt_28 {K V : Nat → Nat} {n lim F : Nat} {kd vl : Nat → Int32} {nx : pt_AS → pt_AS} (hF : F ≤ 256) (hnx : ∀ A, (pt_md A = 0 → pt_ok K A → pt_ms K V n lim kd vl A (nx A)) ∧ (pt_md A ≠ 0 → nx A = A)) {A : pt_AS} (hA : pt_ok K A) {post : Int32 → St2 → Prop} :
    ∀ (r k sp fx : Nat) (u : St2), r + sp = F → r < fx → pt_rel K V n lim kd vl (pt_s nx A k) u → (∀ u', pt_rel K V n lim kd vl (pt_s nx A (k + r)) u' → post u'.2.1 u') → rt_c28 post (nI F) fx (nI sp) u := by
  intro r
  induction r with
  | zero =>
    intro k sp fx u hr hfx hrel hp
    obtain ⟨f1, rfl⟩ : ∃ f1, fx = f1 + 1 := ⟨fx - 1, by omega⟩
    have hh := hp u hrel
    obtain ⟨f_depthLimit, f_state, f_trapCode, f_begun, f_tokenTotal, f_printedTotal, f_stackSize, f_bodyCount, f_declaredTwice, f_liveDepth, f_position, a_tokenKind, a_tokenValue, a_printed, a_stack, a_bodyParent, a_bodyStart, a_declCount, a_paramCount, a_paramName, a_declKind, a_declTarget, a_tokenBody, a_branchTarget, a_liveBody, a_liveParent, a_returnTo, a_slotValue, a_slotHome, a_waitingOp, a_waitingLeft, a_leftKnown, a_argKind, a_argValue, a_argHome⟩ := u
    exact br_t (nI_le (by omega) (by omega)) hh
  | succ r ih =>
    intro k sp fx u hr hfx hrel hp
    obtain ⟨f1, rfl⟩ : ∃ f1, fx = f1 + 1 := ⟨fx - 1, by omega⟩
    have hst := pt_st hrel (pt_s_ok hnx hA k)
    by_cases h : pt_md (pt_s nx A k) = 0
    · have hm := (hnx _).1 h (pt_s_ok hnx hA k)
      have h1 := hst.mp h
      have hw := hm.2.2 u hrel (fun u => match u with | (f_depthLimit, f_state, f_trapCode, f_begun, f_tokenTotal, f_printedTotal, f_stackSize, f_bodyCount, f_declaredTwice, f_liveDepth, f_position, a_tokenKind, a_tokenValue, a_printed, a_stack, a_bodyParent, a_bodyStart, a_declCount, a_paramCount, a_paramName, a_declKind, a_declTarget, a_tokenBody, a_branchTarget, a_liveBody, a_liveParent, a_returnTo, a_slotValue, a_slotHome, a_waitingOp, a_waitingLeft, a_leftKnown, a_argKind, a_argValue, a_argHome) => ∀ y : Int32, y = nI sp + 1 → wX_run_28 post (nI F) f1 y f_depthLimit f_state f_trapCode f_begun f_tokenTotal f_printedTotal f_stackSize f_bodyCount f_declaredTwice f_liveDepth f_position a_tokenKind a_tokenValue a_printed a_stack a_bodyParent a_bodyStart a_declCount a_paramCount a_paramName a_declKind a_declTarget a_tokenBody a_branchTarget a_liveBody a_liveParent a_returnTo a_slotValue a_slotHome a_waitingOp a_waitingLeft a_leftKnown a_argKind a_argValue a_argHome) (fun u' hu' => by
        have hc := ih (k + 1) (sp + 1) f1 u' (by omega) (by omega) hu' (fun u2 h2 => hp u2 (by rw [show k + (r + 1) = k + 1 + r by omega]; exact h2))
        obtain ⟨f_depthLimit, f_state, f_trapCode, f_begun, f_tokenTotal, f_printedTotal, f_stackSize, f_bodyCount, f_declaredTwice, f_liveDepth, f_position, a_tokenKind, a_tokenValue, a_printed, a_stack, a_bodyParent, a_bodyStart, a_declCount, a_paramCount, a_paramName, a_declKind, a_declTarget, a_tokenBody, a_branchTarget, a_liveBody, a_liveParent, a_returnTo, a_slotValue, a_slotHome, a_waitingOp, a_waitingLeft, a_leftKnown, a_argKind, a_argValue, a_argHome⟩ := u'
        exact nm_r (nI_1 sp) hc)
      obtain ⟨f_depthLimit, f_state, f_trapCode, f_begun, f_tokenTotal, f_printedTotal, f_stackSize, f_bodyCount, f_declaredTwice, f_liveDepth, f_position, a_tokenKind, a_tokenValue, a_printed, a_stack, a_bodyParent, a_bodyStart, a_declCount, a_paramCount, a_paramName, a_declKind, a_declTarget, a_tokenBody, a_branchTarget, a_liveBody, a_liveParent, a_returnTo, a_slotValue, a_slotHome, a_waitingOp, a_waitingLeft, a_leftKnown, a_argKind, a_argValue, a_argHome⟩ := u
      exact br_f (nI_ge (by omega) (by omega)) (br_t h1 hw)
    · have hh := hp u (by rw [pt_s_end hnx h]; exact hrel)
      have h1 : ¬ u.2.1 = 1 := fun h2 => h (hst.mpr h2)
      obtain ⟨f_depthLimit, f_state, f_trapCode, f_begun, f_tokenTotal, f_printedTotal, f_stackSize, f_bodyCount, f_declaredTwice, f_liveDepth, f_position, a_tokenKind, a_tokenValue, a_printed, a_stack, a_bodyParent, a_bodyStart, a_declCount, a_paramCount, a_paramName, a_declKind, a_declTarget, a_tokenBody, a_branchTarget, a_liveBody, a_liveParent, a_returnTo, a_slotValue, a_slotHome, a_waitingOp, a_waitingLeft, a_leftKnown, a_argKind, a_argValue, a_argHome⟩ := u
      exact br_f (nI_ge (by omega) (by omega)) (br_f h1 hh)
end
section
variable {f_depthLimit f_state f_trapCode f_begun f_tokenTotal f_printedTotal f_stackSize f_bodyCount f_declaredTwice f_liveDepth f_position : Int32} {a_tokenKind a_tokenValue a_printed a_stack a_bodyParent a_bodyStart a_declCount a_paramCount a_paramName a_declKind a_declTarget a_tokenBody a_branchTarget a_liveBody a_liveParent a_returnTo a_slotValue a_slotHome a_waitingOp a_waitingLeft a_leftKnown a_argKind a_argValue a_argHome : Nat → Int32}
theorem pt_noop {K V : Nat → Nat} {n lim : Nat} {kd vl : Nat → Int32} {A : pt_AS} {u : St2} {C : St2 → Prop} (h : pt_rel K V n lim kd vl A u) (h0 : pt_md A = 0) (hA : pt_ok K A) (hC : C u) : wpX_settle C u := by
  obtain ⟨f_depthLimit, f_state, f_trapCode, f_begun, f_tokenTotal, f_printedTotal, f_stackSize, f_bodyCount, f_declaredTwice, f_liveDepth, f_position, a_tokenKind, a_tokenValue, a_printed, a_stack, a_bodyParent, a_bodyStart, a_declCount, a_paramCount, a_paramName, a_declKind, a_declTarget, a_tokenBody, a_branchTarget, a_liveBody, a_liveParent, a_returnTo, a_slotValue, a_slotHome, a_waitingOp, a_waitingLeft, a_leftKnown, a_argKind, a_argValue, a_argHome⟩ := u
  obtain ⟨md, top, pc, on, ab, ap, rt, av, aq, ae, pr, ex, tc⟩ := A
  have hmd0 : md = 0 := h0
  subst hmd0
  obtain ⟨rfl, rfl, rfl, rfl, rfl, rfl, rfl, rfl, rfl, hon, ht16, hT, hS, hM, hmd⟩ := h
  rcases hmd with ⟨_, rfl, _, rfl, hP, hR⟩ | ⟨h, _⟩ | ⟨h, _⟩ | ⟨h, _⟩
  · rcases hA with ⟨_, c1, c2, c3⟩ | h | h
    · have hpn := hP.2.1
      have h256 := hT.1
      obtain ⟨k1, k2, k3⟩ := hT.2.1 pc hpn
      have c1 : K pc ≠ 2 := c1
      have c2 : K pc ≠ 16 := c2
      have c3 : K pc ≠ 17 := c3
      have nf : ∀ c, c ≤ 26 → K pc ≠ c → ¬ nI (K pc) = nI c := fun c hc h h2 => h ((nI_eq (by omega) (by omega)).mp h2)
      unfold wpX_settle
      refine ⟨1, br_f (by decide) (br_t rfl ⟨vp_in_nI (by omega) (by decide), ?_⟩)⟩
      rw [nI_clamp (by omega), k1]
      exact nm_e (br_f (nf 2 (by decide) c1) (br_f (nf 16 (by decide) c2) (br_f (nf 17 (by decide) c3) hC)))
    · exact absurd (show (0 : Nat) = 1 from h) (by decide)
    · exact absurd (show (0 : Nat) = 2 from h) (by decide)
  · exact absurd h (by decide)
  · exact absurd h (by decide)
  · exact absurd h (by decide)
/-- the fuel that a call gets -/
def pt_fu (v1 : Int32) (F : Nat) : Prop := 1 ≤ F ∧ F ≤ 256 ∧ ((1 ≤ v1 ∧ v1 ≤ 256 ∧ v1 = nI F) ∨ (¬ 1 ≤ v1 ∧ F = 1) ∨ (1 ≤ v1 ∧ ¬ v1 ≤ 256 ∧ F = 256))
theorem pt_fu_ex (v1 : Int32) : ∃ F, pt_fu v1 F := by
  by_cases h1 : 1 ≤ v1
  · by_cases h2 : v1 ≤ 256
    · obtain ⟨F, hF, rfl⟩ := nI_of2 (x := v1) (M := 256) (n := 256) (by decide) (Int32.not_lt.mpr (Int32.le_trans (by decide) h1)) h2
      refine ⟨F, ?_, hF, .inl ⟨h1, h2, rfl⟩⟩
      by_cases e : F = 0
      · subst e; exact absurd h1 (by decide)
      · omega
    · exact ⟨256, by omega, by omega, .inr (.inr ⟨h1, h2, rfl⟩)⟩
  · exact ⟨1, by omega, by omega, .inr (.inl ⟨h1, rfl⟩)⟩
theorem pt_runG {u : St2} {post : Int32 → St2 → Prop} {v1 : Int32} {F : Nat} (hF : pt_fu v1 F) (h1 : u.2.1 = 1) (h : wpX_settle (fun u => match u with | (f_depthLimit, f_state, f_trapCode, f_begun, f_tokenTotal, f_printedTotal, f_stackSize, f_bodyCount, f_declaredTwice, f_liveDepth, f_position, a_tokenKind, a_tokenValue, a_printed, a_stack, a_bodyParent, a_bodyStart, a_declCount, a_paramCount, a_paramName, a_declKind, a_declTarget, a_tokenBody, a_branchTarget, a_liveBody, a_liveParent, a_returnTo, a_slotValue, a_slotHome, a_waitingOp, a_waitingLeft, a_leftKnown, a_argKind, a_argValue, a_argHome) => ∃ n28, wX_run_28 post (nI F) n28 0 f_depthLimit f_state f_trapCode f_begun f_tokenTotal f_printedTotal f_stackSize f_bodyCount f_declaredTwice f_liveDepth f_position a_tokenKind a_tokenValue a_printed a_stack a_bodyParent a_bodyStart a_declCount a_paramCount a_paramName a_declKind a_declTarget a_tokenBody a_branchTarget a_liveBody a_liveParent a_returnTo a_slotValue a_slotHome a_waitingOp a_waitingLeft a_leftKnown a_argKind a_argValue a_argHome) u) : wpX_run post u v1 := by
  obtain ⟨f_depthLimit, f_state, f_trapCode, f_begun, f_tokenTotal, f_printedTotal, f_stackSize, f_bodyCount, f_declaredTwice, f_liveDepth, f_position, a_tokenKind, a_tokenValue, a_printed, a_stack, a_bodyParent, a_bodyStart, a_declCount, a_paramCount, a_paramName, a_declKind, a_declTarget, a_tokenBody, a_branchTarget, a_liveBody, a_liveParent, a_returnTo, a_slotValue, a_slotHome, a_waitingOp, a_waitingLeft, a_leftKnown, a_argKind, a_argValue, a_argHome⟩ := u
  obtain ⟨_, _, hF⟩ := hF
  refine br_t h1 ?_
  rcases hF with ⟨a, b, rfl⟩ | ⟨a, rfl⟩ | ⟨a, b, rfl⟩
  · exact br_t a (br_t b h)
  · exact br_f a h
  · exact br_t a (br_f b h)
/-- a run from a settled state -/
theorem pt_runs {K V : Nat → Nat} {n lim F k : Nat} {kd vl : Nat → Int32} {nx : pt_AS → pt_AS} (hnx : ∀ A, (pt_md A = 0 → pt_ok K A → pt_ms K V n lim kd vl A (nx A)) ∧ (pt_md A ≠ 0 → nx A = A)) {A : pt_AS} (hA : pt_ok K A) {post : Int32 → St2 → Prop} {u : St2} {v1 : Int32} (hF : pt_fu v1 F)
    (hrel : pt_rel K V n lim kd vl (pt_s nx A k) u) (hp : ∀ u', pt_rel K V n lim kd vl (pt_s nx A (k + F)) u' → post u'.2.1 u') : wpX_run post u v1 := by
  have hok := pt_s_ok hnx hA k
  have hst := pt_st hrel hok
  by_cases h : pt_md (pt_s nx A k) = 0
  · refine pt_runG hF (hst.mp h) (pt_noop hrel h hok ?_)
    have hc := pt_28 hF.2.1 hnx hA F k 0 (F + 1) u (by omega) (by omega) hrel hp
    obtain ⟨f_depthLimit, f_state, f_trapCode, f_begun, f_tokenTotal, f_printedTotal, f_stackSize, f_bodyCount, f_declaredTwice, f_liveDepth, f_position, a_tokenKind, a_tokenValue, a_printed, a_stack, a_bodyParent, a_bodyStart, a_declCount, a_paramCount, a_paramName, a_declKind, a_declTarget, a_tokenBody, a_branchTarget, a_liveBody, a_liveParent, a_returnTo, a_slotValue, a_slotHome, a_waitingOp, a_waitingLeft, a_leftKnown, a_argKind, a_argValue, a_argHome⟩ := u
    exact ⟨F + 1, hc⟩
  · have hh := hp u (by rw [pt_s_end hnx h]; exact hrel)
    have h1 : ¬ u.2.1 = 1 := fun h2 => h (hst.mpr h2)
    obtain ⟨f_depthLimit, f_state, f_trapCode, f_begun, f_tokenTotal, f_printedTotal, f_stackSize, f_bodyCount, f_declaredTwice, f_liveDepth, f_position, a_tokenKind, a_tokenValue, a_printed, a_stack, a_bodyParent, a_bodyStart, a_declCount, a_paramCount, a_paramName, a_declKind, a_declTarget, a_tokenBody, a_branchTarget, a_liveBody, a_liveParent, a_returnTo, a_slotValue, a_slotHome, a_waitingOp, a_waitingLeft, a_leftKnown, a_argKind, a_argValue, a_argHome⟩ := u
    exact br_f h1 hh
/-- the first run, from the start -/
theorem pt_run1 {K V : Nat → Nat} {n lim F : Nat} {kd vl : Nat → Int32} {nx : pt_AS → pt_AS} (hnx : ∀ A, (pt_md A = 0 → pt_ok K A → pt_ms K V n lim kd vl A (nx A)) ∧ (pt_md A ≠ 0 → nx A = A)) {A B : pt_AS} (hA : pt_ok K A) {post : Int32 → St2 → Prop} {u : St2} {v1 : Int32} (hF : pt_fu v1 F) (h1 : u.2.1 = 1)
    (hst : ∀ C : St2 → Prop, (∀ u', pt_rel K V n lim kd vl A u' → C u') → wpX_settle C u) (hp : ∀ u', pt_rel K V n lim kd vl (pt_s nx A F) u' → post u'.2.1 u') : wpX_run post u v1 := by
  refine pt_runG hF h1 (hst _ (fun u' hu' => ?_))
  have hc := pt_28 hF.2.1 hnx hA (post := post) F 0 0 (F + 1) u' (by omega) (by omega) hu' (fun u2 h2 => hp u2 (by rw [Nat.zero_add] at h2; exact h2))
  obtain ⟨f_depthLimit, f_state, f_trapCode, f_begun, f_tokenTotal, f_printedTotal, f_stackSize, f_bodyCount, f_declaredTwice, f_liveDepth, f_position, a_tokenKind, a_tokenValue, a_printed, a_stack, a_bodyParent, a_bodyStart, a_declCount, a_paramCount, a_paramName, a_declKind, a_declTarget, a_tokenBody, a_branchTarget, a_liveBody, a_liveParent, a_returnTo, a_slotValue, a_slotHome, a_waitingOp, a_waitingLeft, a_leftKnown, a_argKind, a_argValue, a_argHome⟩ := u'
  exact ⟨F + 1, hc⟩
end
section
variable {f_depthLimit f_state f_trapCode f_begun f_tokenTotal f_printedTotal f_stackSize f_bodyCount f_declaredTwice f_liveDepth f_position : Int32} {a_tokenKind a_tokenValue a_printed a_stack a_bodyParent a_bodyStart a_declCount a_paramCount a_paramName a_declKind a_declTarget a_tokenBody a_branchTarget a_liveBody a_liveParent a_returnTo a_slotValue a_slotHome a_waitingOp a_waitingLeft a_leftKnown a_argKind a_argValue a_argHome : Nat → Int32}
/-- two states that stand for one: the plain answers -/
theorem pt_same {K V : Nat → Nat} {n lim : Nat} {kd vl : Nat → Int32} {A : pt_AS} {u w : St2} (h : pt_rel K V n lim kd vl A u) (h' : pt_rel K V n lim kd vl A w) (hA : pt_ok K A) :
    u.2.1 = w.2.1 ∧ u.2.2.1 = w.2.2.1 ∧ u.2.2.2.1 = w.2.2.2.1 ∧ u.2.2.2.2.2.1 = w.2.2.2.2.2.1 ∧ u.2.2.2.2.2.2.2.2.2.1 = w.2.2.2.2.2.2.2.2.2.1 ∧ u.2.2.2.2.2.2.2.2.2.2.2.2.2.1 = w.2.2.2.2.2.2.2.2.2.2.2.2.2.1 := by
  obtain ⟨md, top, pc, on, ab, ap, rt, av, aq, ae, pr, ex, tc⟩ := A
  have st : ∀ z : St2, pt_rel K V n lim kd vl (md, top, pc, on, ab, ap, rt, av, aq, ae, pr, ex, tc) z → z.2.1 = (if md = 0 then 1 else if md = 1 then 2 else 3) ∧ z.2.2.1 = tc ∧ z.2.2.2.1 = ex ∧ z.2.2.2.2.2.1 = nI on ∧ z.2.2.2.2.2.2.2.2.2.1 = nI top ∧ z.2.2.2.2.2.2.2.2.2.2.2.2.2.1 = pr := by
    intro z hz
    obtain ⟨f_depthLimit, f_state, f_trapCode, f_begun, f_tokenTotal, f_printedTotal, f_stackSize, f_bodyCount, f_declaredTwice, f_liveDepth, f_position, a_tokenKind, a_tokenValue, a_printed, a_stack, a_bodyParent, a_bodyStart, a_declCount, a_paramCount, a_paramName, a_declKind, a_declTarget, a_tokenBody, a_branchTarget, a_liveBody, a_liveParent, a_returnTo, a_slotValue, a_slotHome, a_waitingOp, a_waitingLeft, a_leftKnown, a_argKind, a_argValue, a_argHome⟩ := z
    obtain ⟨_, rfl, _, rfl, _, _, rfl, rfl, rfl, _, _, _, _, _, hmd⟩ := hz
    rcases hmd with ⟨rfl, h, _⟩ | ⟨rfl, h, _⟩ | ⟨rfl, h, _⟩ | ⟨rfl, h, _⟩
    · exact ⟨h, rfl, rfl, rfl, rfl, rfl⟩
    · exact ⟨h, rfl, rfl, rfl, rfl, rfl⟩
    · exact ⟨h, rfl, rfl, rfl, rfl, rfl⟩
    · rcases hA with ⟨h2, _⟩ | h2 | h2
      · exact absurd (show (3 : Nat) = 0 from h2) (by decide)
      · exact absurd (show (3 : Nat) = 1 from h2) (by decide)
      · exact absurd (show (3 : Nat) = 2 from h2) (by decide)
  have a := st u h
  have b := st w h'
  rw [a.1, a.2.1, a.2.2.1, a.2.2.2.1, a.2.2.2.2.1, a.2.2.2.2.2, b.1, b.2.1, b.2.2.1, b.2.2.2.1, b.2.2.2.2.1, b.2.2.2.2.2]
  exact ⟨rfl, rfl, rfl, rfl, rfl, rfl⟩
theorem ow_isName {post : Int32 → Prop} {x : Int32} (ht : ∀ j : Nat, j < 16 → x = nI j → post 1) (hf : (x < 0 ∨ 16 ≤ x) → post 0) : wpX_isName post () x := by
  unfold wpX_isName
  by_cases h0 : x < 0
  · exact br_t h0 (hf (.inl h0))
  · refine br_f h0 ?_
    by_cases h1 : 16 ≤ x
    · exact br_t h1 (hf (.inr h1))
    · obtain ⟨j, hj, rfl⟩ := nI_of h0
      refine br_f h1 (ht j ?_ rfl)
      by_cases e : j < 16
      · exact e
      · exact absurd (nI_le (a := 16) (by omega) hj) h1
/-- a name, or none -/
theorem pt_nm (x : Int32) : (∃ j : Nat, j < 16 ∧ x = nI j) ∨ (x < 0 ∨ 16 ≤ x) := by
  by_cases h0 : x < 0
  · exact .inr (.inl h0)
  · by_cases h1 : 16 ≤ x
    · exact .inr (.inr h1)
    · obtain ⟨j, hj, rfl⟩ := nI_of h0
      refine .inl ⟨j, ?_, rfl⟩
      by_cases e : j < 16
      · exact e
      · exact absurd (nI_le (a := 16) (by omega) hj) h1
theorem pt_nm_no {x : Int32} (h : x < 0 ∨ 16 ≤ x) {j : Nat} (hj : j < 16) (e : x = nI j) : False := by
  subst e
  rcases h with h | h
  · exact nI_pos (by omega) h
  · exact nI_ge (b := 16) hj (by decide) h
theorem pt_main {K V : Nat → Nat} {n lim : Nat} {kd vl : Nat → Int32} {A : pt_AS} (hA : pt_ok K A) (x : Int32) : ∃ r, ∀ u, pt_rel K V n lim kd vl A u → ∀ post : Int32 → Prop, post r → wpX_mainVar post u x := by
  obtain ⟨md, top, pc, on, ab, ap, rt, av, aq, ae, pr, ex, tc⟩ := A
  have sn : ∀ z : St2, pt_rel K V n lim kd vl (md, top, pc, on, ab, ap, rt, av, aq, ae, pr, ex, tc) z → ¬ z.2.1 = 0 := by
    intro z hz
    obtain ⟨f_depthLimit, f_state, f_trapCode, f_begun, f_tokenTotal, f_printedTotal, f_stackSize, f_bodyCount, f_declaredTwice, f_liveDepth, f_position, a_tokenKind, a_tokenValue, a_printed, a_stack, a_bodyParent, a_bodyStart, a_declCount, a_paramCount, a_paramName, a_declKind, a_declTarget, a_tokenBody, a_branchTarget, a_liveBody, a_liveParent, a_returnTo, a_slotValue, a_slotHome, a_waitingOp, a_waitingLeft, a_leftKnown, a_argKind, a_argValue, a_argHome⟩ := z
    obtain ⟨_, _, _, _, _, _, _, _, _, _, _, _, _, _, hmd⟩ := hz
    intro h0
    have h0 : f_state = 0 := h0
    rcases hmd with ⟨_, h, _⟩ | ⟨_, h, _⟩ | ⟨_, h, _⟩ | ⟨_, h, _⟩ <;> (rw [h] at h0; exact absurd h0 (by decide))
  rcases pt_nm x with ⟨j, hj, rfl⟩ | hx
  · refine ⟨match gr_dc K V n 0 j with | none => 0 | some d => (if K d = 3 then av j else 0), fun u hu post hp => ?_⟩
    have hs := sn u hu
    obtain ⟨f_depthLimit, f_state, f_trapCode, f_begun, f_tokenTotal, f_printedTotal, f_stackSize, f_bodyCount, f_declaredTwice, f_liveDepth, f_position, a_tokenKind, a_tokenValue, a_printed, a_stack, a_bodyParent, a_bodyStart, a_declCount, a_paramCount, a_paramName, a_declKind, a_declTarget, a_tokenBody, a_branchTarget, a_liveBody, a_liveParent, a_returnTo, a_slotValue, a_slotHome, a_waitingOp, a_waitingLeft, a_leftKnown, a_argKind, a_argValue, a_argHome⟩ := u
    obtain ⟨rfl, rfl, rfl, rfl, rfl, rfl, rfl, rfl, rfl, hon, ht16, hT, hS, hM, hmd⟩ := hu
    have hk0 := gr_k01 hS.1
    have hdx := hS.2.2.2.2.2.2.2.1 0 j (by omega) hk0.2 hj
    rw [show gr_np K 0 * 16 + j = j by show 0 * 16 + j = j; omega] at hdx
    refine br_f hs (ow_isName (fun j' hj' e => br_f (by decide) ⟨vp_in_nI (by omega) (by decide), ?_⟩) (fun hb => (pt_nm_no hb hj rfl).elim))
    rw [nI_clamp (n := j) (by omega)]
    cases hd : gr_dc K V n 0 j with
    | none =>
      rw [hd] at hp
      rw [(hdx.1 hd).1]
      exact br_f (by decide) hp
    | some d =>
      rw [hd] at hp
      simp only at hp
      have hds := gr_dc_some hd
      have hKd := hT.2.1 d hds.1
      rw [(hdx.2 d hd).1]
      by_cases q3 : K d = 3
      · rw [if_pos q3] at hp
        refine br_t (by rw [q3]; rfl) ⟨vp_in_nI (by omega) (by decide), ?_⟩
        have := hM d hds.1 q3 hds.2.1
        rw [hds.2.2.1] at this
        rw [this]; exact hp
      · rw [if_neg q3] at hp
        exact br_f (fun h => q3 ((nI_eq (b := 3) (by omega) (by decide)).mp h)) hp
  · refine ⟨0, fun u hu post hp => ?_⟩
    have hs := sn u hu
    obtain ⟨f_depthLimit, f_state, f_trapCode, f_begun, f_tokenTotal, f_printedTotal, f_stackSize, f_bodyCount, f_declaredTwice, f_liveDepth, f_position, a_tokenKind, a_tokenValue, a_printed, a_stack, a_bodyParent, a_bodyStart, a_declCount, a_paramCount, a_paramName, a_declKind, a_declTarget, a_tokenBody, a_branchTarget, a_liveBody, a_liveParent, a_returnTo, a_slotValue, a_slotHome, a_waitingOp, a_waitingLeft, a_leftKnown, a_argKind, a_argValue, a_argHome⟩ := u
    exact br_f hs (ow_isName (fun j hj e => (pt_nm_no hx hj e).elim) (fun _ => br_t rfl hp))
theorem pt_seen {K V : Nat → Nat} {n lim : Nat} {kd vl : Nat → Int32} {A : pt_AS} (hA : pt_ok K A) (x : Int32) : ∃ r, ∀ u, pt_rel K V n lim kd vl A u → ∀ post : Int32 → Prop, post r → wpX_seen post u x := by
  obtain ⟨md, top, pc, on, ab, ap, rt, av, aq, ae, pr, ex, tc⟩ := A
  by_cases h0 : md = 0
  · subst h0
    rcases pt_nm x with ⟨j, hj, rfl⟩ | hx
    · refine ⟨match gr_lk K V n (ab top) j with | none => 0 | some d => (if K d = 3 ∨ K d = 5 then av (ac_al K V n ab ap j 15 top * 16 + j) else 0), fun u hu post hp => ?_⟩
      obtain ⟨f_depthLimit, f_state, f_trapCode, f_begun, f_tokenTotal, f_printedTotal, f_stackSize, f_bodyCount, f_declaredTwice, f_liveDepth, f_position, a_tokenKind, a_tokenValue, a_printed, a_stack, a_bodyParent, a_bodyStart, a_declCount, a_paramCount, a_paramName, a_declKind, a_declTarget, a_tokenBody, a_branchTarget, a_liveBody, a_liveParent, a_returnTo, a_slotValue, a_slotHome, a_waitingOp, a_waitingLeft, a_leftKnown, a_argKind, a_argValue, a_argHome⟩ := u
      obtain ⟨rfl, rfl, rfl, rfl, rfl, rfl, rfl, rfl, rfl, hon, ht16, hT, hS, hM, hmd⟩ := hu
      rcases hmd with ⟨_, rfl, _, rfl, hP, hR⟩ | ⟨h, _⟩ | ⟨h, _⟩ | ⟨h, _⟩
      · have ht := hR.1
        obtain ⟨b1, b2, b3, b4⟩ := hR.2.1 top (Nat.le_refl _)
        refine br_t rfl (ow_isName (fun j' hj' e => br_f (by decide) ⟨vp_in_nI (by omega) (by decide), ?_⟩) (fun hb => (pt_nm_no hb hj rfl).elim))
        rw [nI_clamp (n := top) (by omega), (hR.2.2.2.1 top (Nat.le_refl _)).1]
        refine xn_near hS.1 hS.2.1 (fun d hd => (hT.2.1 d hd).2) hS.2.2.2.2.1 hS.2.2.2.2.2.2.2.1 hj b1 b2 ?_
        refine rs_slot hS.1 hS.2.1 (fun d hd => (hT.2.1 d hd).2) hS.2.2.2.2.2.2.2.1 hj hR.2.1 ht (fun a h => (hR.2.2.2.1 a h).1) hR.2.2.2.2.1 (fun a h1 h2 => (hR.2.2.2.2.2.1 a h1 h2).1) ?_
        have hle : ac_al K V n ab ap j 15 top ≤ top := ac_al_le hR.2.1 15 top (Nat.le_refl _)
        have ix : vp_in (nI (ac_al K V n ab ap j 15 top * 16 + j)) 272 := vp_in_nI (by omega) (by decide)
        rw [nI_clamp (by omega)]
        cases hl : gr_lk K V n (ab top) j with
        | none =>
          rw [hl] at hp
          exact br_f (show ¬ nI 0 = 3 by decide) (br_f (show ¬ nI 0 = 5 by decide) hp)
        | some d =>
          rw [hl] at hp
          simp only at hp
          obtain ⟨a', ha', r1, r2, r3, r4, r5⟩ := rt_near hS.1 hS.2.1 hR hl
          have hkd := hT.2.1 d r2
          have hsl := (hR.2.2.2.2.2.2 a' r1 d r2 r5 r3).1
          rw [r4, ha'] at hsl
          by_cases q3 : K d = 3
          · rw [if_pos (.inl q3)] at hp
            refine br_t (by show nI (K d) = 3; rw [q3]; rfl) ⟨ix, ?_⟩
            rw [hsl (.inl q3)]; exact hp
          · refine br_f (fun h => q3 ((nI_eq (b := 3) (by omega) (by decide)).mp h)) ?_
            by_cases q5 : K d = 5
            · rw [if_pos (.inr q5)] at hp
              refine br_t (by show nI (K d) = 5; rw [q5]; rfl) ⟨ix, ?_⟩
              rw [hsl (.inr q5)]; exact hp
            · rw [if_neg (by omega)] at hp
              exact br_f (fun h => q5 ((nI_eq (b := 5) (by omega) (by decide)).mp h)) hp
      · omega
      · omega
      · omega
    · refine ⟨0, fun u hu post hp => ?_⟩
      obtain ⟨f_depthLimit, f_state, f_trapCode, f_begun, f_tokenTotal, f_printedTotal, f_stackSize, f_bodyCount, f_declaredTwice, f_liveDepth, f_position, a_tokenKind, a_tokenValue, a_printed, a_stack, a_bodyParent, a_bodyStart, a_declCount, a_paramCount, a_paramName, a_declKind, a_declTarget, a_tokenBody, a_branchTarget, a_liveBody, a_liveParent, a_returnTo, a_slotValue, a_slotHome, a_waitingOp, a_waitingLeft, a_leftKnown, a_argKind, a_argValue, a_argHome⟩ := u
      obtain ⟨_, _, _, _, _, _, _, _, _, _, _, _, _, _, hmd⟩ := hu
      rcases hmd with ⟨_, rfl, _⟩ | ⟨h, _⟩ | ⟨h, _⟩ | ⟨h, _⟩
      · exact br_t rfl (ow_isName (fun j hj e => (pt_nm_no hx hj e).elim) (fun _ => br_t rfl hp))
      · omega
      · omega
      · omega
  · refine ⟨0, fun u hu post hp => ?_⟩
    have hst := pt_st hu hA
    have h1 : ¬ u.2.1 = 1 := fun h2 => h0 (hst.mpr h2)
    obtain ⟨f_depthLimit, f_state, f_trapCode, f_begun, f_tokenTotal, f_printedTotal, f_stackSize, f_bodyCount, f_declaredTwice, f_liveDepth, f_position, a_tokenKind, a_tokenValue, a_printed, a_stack, a_bodyParent, a_bodyStart, a_declCount, a_paramCount, a_paramName, a_declKind, a_declTarget, a_tokenBody, a_branchTarget, a_liveBody, a_liveParent, a_returnTo, a_slotValue, a_slotHome, a_waitingOp, a_waitingLeft, a_leftKnown, a_argKind, a_argValue, a_argHome⟩ := u
    exact br_f h1 hp
end
section
variable {f_depthLimit f_state f_trapCode f_begun f_tokenTotal f_printedTotal f_stackSize f_bodyCount f_declaredTwice f_liveDepth f_position : Int32} {a_tokenKind a_tokenValue a_printed a_stack a_bodyParent a_bodyStart a_declCount a_paramCount a_paramName a_declKind a_declTarget a_tokenBody a_branchTarget a_liveBody a_liveParent a_returnTo a_slotValue a_slotHome a_waitingOp a_waitingLeft a_leftKnown a_argKind a_argValue a_argHome : Nat → Int32}
/-- an object that is being edited -/
def pt_edt (lim : Nat) (u : St2) : Prop := match u with
  | (f_depthLimit, f_state, f_trapCode, f_begun, f_tokenTotal, f_printedTotal, f_stackSize, f_bodyCount, f_declaredTwice, f_liveDepth, f_position, a_tokenKind, a_tokenValue, a_printed, a_stack, a_bodyParent, a_bodyStart, a_declCount, a_paramCount, a_paramName, a_declKind, a_declTarget, a_tokenBody, a_branchTarget, a_liveBody, a_liveParent, a_returnTo, a_slotValue, a_slotHome, a_waitingOp, a_waitingLeft, a_leftKnown, a_argKind, a_argValue, a_argHome) => ∃ (K V : Nat → Nat) (n : Nat), f_depthLimit = nI lim ∧ f_state = 0 ∧ f_tokenTotal = nI n ∧ rt_TK K V n a_tokenKind a_tokenValue
theorem ow_TK {K V : Nat → Nat} {n k x : Nat} {kd vl : Nat → Int32} {w : Int32} (hT : rt_TK K V n kd vl) (hn : n < 256) (h1 : 1 ≤ k) (h2 : k ≤ 26) (hw : xn_nm k → w = nI x ∧ x < 16) :
    rt_TK (fun j => if j = n then k else K j) (fun j => if j = n then x else V j) (n + 1) (upd kd n (nI k)) (upd vl n w) := by
  refine ⟨by omega, fun i hi => ?_, fun i hi hnm => ?_⟩
  · by_cases e : i = n
    · subst e; simp only [if_pos]; exact ⟨lo_us, h1, h2⟩
    · simp only [if_neg e]; rw [lo_un e]; exact hT.2.1 i (by omega)
  · by_cases e : i = n
    · subst e; simp only [if_pos] at hnm ⊢; rw [lo_us]; exact hw hnm
    · simp only [if_neg e] at hnm ⊢; rw [lo_un e]; exact hT.2.2 i (by omega) hnm
/-- a token: one answer and one state -/
theorem pt_token {lim : Nat} {u : St2} (h : pt_edt lim u) (v1 v2 : Int32) : ∃ r u', pt_edt lim u' ∧ ∀ post : Int32 → St2 → Prop, post r u' → wpX_token post u v1 v2 := by
  have J := h
  obtain ⟨f_depthLimit, f_state, f_trapCode, f_begun, f_tokenTotal, f_printedTotal, f_stackSize, f_bodyCount, f_declaredTwice, f_liveDepth, f_position, a_tokenKind, a_tokenValue, a_printed, a_stack, a_bodyParent, a_bodyStart, a_declCount, a_paramCount, a_paramName, a_declKind, a_declTarget, a_tokenBody, a_branchTarget, a_liveBody, a_liveParent, a_returnTo, a_slotValue, a_slotHome, a_waitingOp, a_waitingLeft, a_leftKnown, a_argKind, a_argValue, a_argHome⟩ := u
  obtain ⟨K, V, n, rfl, rfl, rfl, hT⟩ := h
  have hn := hT.1
  by_cases hn2 : n < 256
  · have n2 : nI n < 256 := nI_lt (b := 256) hn2 (by decide)
    by_cases p1 : v1 < 1
    · exact ⟨0, _, J, fun post hp => br_t rfl (br_t n2 (br_t p1 hp))⟩
    · by_cases p2 : v1 ≤ 26
      · obtain ⟨c, hc, rfl⟩ := nI_of2 (x := v1) (M := 26) (n := 26) (by decide) (Int32.not_lt.mpr (Int32.le_trans (by decide) (Int32.not_lt.mp p1))) p2
        have hc1 : 1 ≤ c := by
          by_cases e : c = 0
          · subst e; exact absurd (by decide) p1
          · omega
        have hin : vp_in (nI n) 256 := vp_in_nI hn2 (by decide)
        have hcl : (nI n).toNatClampNeg = n := nI_clamp (by omega)
        by_cases hnm : xn_nm c
        · rcases pt_nm v2 with ⟨j, hj, rfl⟩ | hx
          · refine ⟨1, (nI lim, 0, f_trapCode, f_begun, nI (n + 1), f_printedTotal, f_stackSize, f_bodyCount, f_declaredTwice, f_liveDepth, f_position, upd a_tokenKind n (nI c), upd a_tokenValue n (nI j), a_printed, a_stack, a_bodyParent, a_bodyStart, a_declCount, a_paramCount, a_paramName, a_declKind, a_declTarget, a_tokenBody, a_branchTarget, a_liveBody, a_liveParent, a_returnTo, a_slotValue, a_slotHome, a_waitingOp, a_waitingLeft, a_leftKnown, a_argKind, a_argValue, a_argHome), ⟨_, _, n + 1, rfl, rfl, rfl, ow_TK (x := j) hT hn2 hc1 hc (fun _ => ⟨rfl, hj⟩)⟩, fun post hp => ?_⟩
            refine br_t rfl (br_t n2 (br_f p1 (br_t p2 (xn_car hc1 hc (fun _ => br_f (by decide) (ow_isName (fun j' hj' e => br_f (by decide) ?_) (fun hb => (pt_nm_no hb hj rfl).elim))) (fun h => absurd hnm h)))))
            unfold wX_token_50 wX_token_78 wX_token_83
            rw [hcl, nI_1]
            exact ⟨hin, nm_e (br_f (by decide) ⟨hin, nm_e (nm_e hp)⟩)⟩
          · exact ⟨0, _, J, fun post hp => br_t rfl (br_t n2 (br_f p1 (br_t p2 (xn_car hc1 hc (fun _ => br_f (by decide) (ow_isName (fun j hj e => (pt_nm_no hx hj e).elim) (fun _ => br_t rfl hp))) (fun h => absurd hnm h)))))⟩
        · by_cases q : nI c = 18
          · refine ⟨1, (nI lim, 0, f_trapCode, f_begun, nI (n + 1), f_printedTotal, f_stackSize, f_bodyCount, f_declaredTwice, f_liveDepth, f_position, upd a_tokenKind n (nI c), upd a_tokenValue n v2, a_printed, a_stack, a_bodyParent, a_bodyStart, a_declCount, a_paramCount, a_paramName, a_declKind, a_declTarget, a_tokenBody, a_branchTarget, a_liveBody, a_liveParent, a_returnTo, a_slotValue, a_slotHome, a_waitingOp, a_waitingLeft, a_leftKnown, a_argKind, a_argValue, a_argHome), ⟨_, _, n + 1, rfl, rfl, rfl, ow_TK (x := 0) hT hn2 hc1 hc (fun h => absurd h hnm)⟩, fun post hp => ?_⟩
            refine br_t rfl (br_t n2 (br_f p1 (br_t p2 (xn_car hc1 hc (fun h => absurd h hnm) (fun _ => br_t rfl ?_)))))
            unfold wX_token_50 wX_token_78 wX_token_83
            rw [hcl, nI_1]
            exact ⟨hin, nm_e (br_t rfl (br_t q ⟨hin, nm_e (nm_e hp)⟩))⟩
          · refine ⟨1, (nI lim, 0, f_trapCode, f_begun, nI (n + 1), f_printedTotal, f_stackSize, f_bodyCount, f_declaredTwice, f_liveDepth, f_position, upd a_tokenKind n (nI c), upd a_tokenValue n 0, a_printed, a_stack, a_bodyParent, a_bodyStart, a_declCount, a_paramCount, a_paramName, a_declKind, a_declTarget, a_tokenBody, a_branchTarget, a_liveBody, a_liveParent, a_returnTo, a_slotValue, a_slotHome, a_waitingOp, a_waitingLeft, a_leftKnown, a_argKind, a_argValue, a_argHome), ⟨_, _, n + 1, rfl, rfl, rfl, ow_TK (x := 0) hT hn2 hc1 hc (fun h => absurd h hnm)⟩, fun post hp => ?_⟩
            refine br_t rfl (br_t n2 (br_f p1 (br_t p2 (xn_car hc1 hc (fun h => absurd h hnm) (fun _ => br_t rfl ?_)))))
            unfold wX_token_50 wX_token_78 wX_token_83
            rw [hcl, nI_1]
            exact ⟨hin, nm_e (br_t rfl (br_f q ⟨hin, nm_e (nm_e hp)⟩))⟩
      · exact ⟨0, _, J, fun post hp => br_t rfl (br_t n2 (br_f p1 (br_f p2 hp)))⟩
  · exact ⟨0, _, J, fun post hp => br_t rfl (br_f (nI_nlt (b := 256) (by omega) (by omega)) hp)⟩
/-- the compiling: where it starts from is the same for every object with these tokens -/
theorem pt_compile {lim : Nat} {u : St2} (h : pt_edt lim u) : ∃ (K V : Nat → Nat) (n : Nat) (kd vl : Nat → Int32) (B : pt_AS), pt_md B = 0 ∧ pt_ex B = 0 ∧ ∀ post : Int32 → St2 → Prop, (∀ r u', ¬ r = 0 → post r u') → (∀ u', pt_rel K V n lim kd vl B u' → post 0 u') → wpX_compile post u := by
  obtain ⟨f_depthLimit, f_state, f_trapCode, f_begun, f_tokenTotal, f_printedTotal, f_stackSize, f_bodyCount, f_declaredTwice, f_liveDepth, f_position, a_tokenKind, a_tokenValue, a_printed, a_stack, a_bodyParent, a_bodyStart, a_declCount, a_paramCount, a_paramName, a_declKind, a_declTarget, a_tokenBody, a_branchTarget, a_liveBody, a_liveParent, a_returnTo, a_slotValue, a_slotHome, a_waitingOp, a_waitingLeft, a_leftKnown, a_argKind, a_argValue, a_argHome⟩ := u
  obtain ⟨K, V, n, rfl, rfl, rfl, hT⟩ := h
  obtain ⟨h256, htk, htv⟩ := hT
  have hT : rt_TK K V n a_tokenKind a_tokenValue := ⟨h256, htk, htv⟩
  have hs : ∃ s, gr_cf K n = some ([], 0) → 1 ≤ s ∧ s < n ∧ gr_cf K s = some ([(1, 0)], 0) ∧ K s ≠ 3 ∧ K s ≠ 4 ∧ gr_P K n s 0 := by
    by_cases hn : gr_cf K n = some ([], 0)
    · have h01 := gr_k01 hn
      have hc1 : gr_cf K 1 = some ([(1, 0)], 0) := by
        obtain ⟨L, e, hc⟩ := gr_exle hn (show 1 ≤ n by omega)
        rw [hc, (gr_one hc).2]
      obtain ⟨s, hs⟩ := rk_first hn n 1 (by omega) (by omega) (by omega) hc1
      exact ⟨s, fun _ => hs⟩
    · exact ⟨0, fun h => absurd h hn⟩
  obtain ⟨s, hs⟩ := hs
  refine ⟨K, V, n, a_tokenKind, a_tokenValue, (0, 0, s, 0, fun _ => 0, fun _ => 0, fun _ => 0, fun _ => 0, fun _ => 0, fun _ => 0, a_printed, 0, 0), rfl, rfl, fun post hbad hgood => ?_⟩
  refine xk_compile h256 htk htv (fun h1 ss st => hbad _ _ (by decide)) (fun hn h2 ss bc tw st bp bs dc pc pm dk dt tb => hbad _ _ (by decide)) (fun hn hL h3 ss bc tw st bp bs dc pc pm dk dt tb => hbad _ _ (by decide)) (fun hn hL hN hU ss bc tw st bp bs dc pc pm dk dt tb bt sv sh hX hsl => hgood _ ?_)
  obtain ⟨s1, s2, s3, s4, s5, s6⟩ := hs hn
  have hbs : bs 0 = nI s := hX.2.1 s 0 [] s1 s2 s3 s4 s5
  have hk0 := gr_k01 hn
  have hR : rt_R K V n (fun _ => 0) (fun _ => 0) (fun _ => 0) 0 (upd a_liveBody 0 0) (upd a_liveParent 0 0) a_returnTo sv sh (fun a => nI 0) (fun a => nI 0) (fun a => nI 0) (fun _ => 0) (fun _ => 0) (fun _ => 0) := by
    refine ⟨by omega, fun a ha => ⟨show 0 < n by omega, hk0.2, fun _ => rfl, fun h => by omega⟩, fun a h1 h2 => by omega, fun a ha => ?_, lo_us, fun a h1 h2 => by omega, fun a ha d hd hD hb => ?_⟩
    · have : a = 0 := by omega
      subst this
      exact ⟨lo_us, rfl⟩
    · have : a = 0 := by omega
      subst this
      have hv := (htv d hd (by simp only [gr_D] at hD; simp only [xn_nm]; omega)).2
      have hdc := gr_dc_of hN hd hD
      rw [hb] at hdc
      have hdt := ((hX.2.2.2.1 0 (V d) (by omega) hk0.2 hv).2 d hdc).2
      rw [show gr_np K 0 * 16 + V d = V d by show 0 * 16 + V d = V d; omega] at hdt
      have hs := hsl (V d) hv
      rw [show 0 * 16 + V d = V d by omega, hs.1, hs.2, hdt]
      refine ⟨fun h3 => ?_, fun h4 => ?_, fun h10 => ?_, fun h6 => ?_⟩
      · unfold lo_tg; rw [if_neg (by omega), if_neg (by omega)]; rfl
      · unfold lo_tg; rw [if_pos h4]; exact ⟨rfl, rfl⟩
      · unfold lo_tg; rw [if_neg (by omega), if_pos h10]; exact ⟨rfl, rfl⟩
      · have h7 := (gr_bo_par hn hd (.inr h6)).1
        rw [hb] at h7
        exact absurd (show d < 0 from h7) (by omega)
  exact ⟨rfl, rfl, rfl, rfl, rfl, rfl, rfl, rfl, rfl, by omega, by omega, hT, ⟨hn, hL, hN, hU, hX⟩, rt_MV_of hR, .inl ⟨rfl, rfl, rfl, hbs, s6, hR⟩⟩
end
section
variable {f_depthLimit f_state f_trapCode f_begun f_tokenTotal f_printedTotal f_stackSize f_bodyCount f_declaredTwice f_liveDepth f_position : Int32} {a_tokenKind a_tokenValue a_printed a_stack a_bodyParent a_bodyStart a_declCount a_paramCount a_paramName a_declKind a_declTarget a_tokenBody a_branchTarget a_liveBody a_liveParent a_returnTo a_slotValue a_slotHome a_waitingOp a_waitingLeft a_leftKnown a_argKind a_argValue a_argHome : Nat → Int32}
theorem pt_out {K V : Nat → Nat} {n lim : Nat} {kd vl : Nat → Int32} {A : pt_AS} (x : Int32) : ∃ r, ∀ u, pt_rel K V n lim kd vl A u → ∀ post : Int32 → Prop, post r → wpX_output post u x := by
  obtain ⟨md, top, pc, on, ab, ap, rt, av, aq, ae, pr, ex, tc⟩ := A
  by_cases h0 : x < 0
  · refine ⟨0, fun u hu post hp => ?_⟩
    obtain ⟨f_depthLimit, f_state, f_trapCode, f_begun, f_tokenTotal, f_printedTotal, f_stackSize, f_bodyCount, f_declaredTwice, f_liveDepth, f_position, a_tokenKind, a_tokenValue, a_printed, a_stack, a_bodyParent, a_bodyStart, a_declCount, a_paramCount, a_paramName, a_declKind, a_declTarget, a_tokenBody, a_branchTarget, a_liveBody, a_liveParent, a_returnTo, a_slotValue, a_slotHome, a_waitingOp, a_waitingLeft, a_leftKnown, a_argKind, a_argValue, a_argHome⟩ := u
    exact br_t h0 hp
  · by_cases h1 : nI on ≤ x
    · refine ⟨0, fun u hu post hp => ?_⟩
      obtain ⟨f_depthLimit, f_state, f_trapCode, f_begun, f_tokenTotal, f_printedTotal, f_stackSize, f_bodyCount, f_declaredTwice, f_liveDepth, f_position, a_tokenKind, a_tokenValue, a_printed, a_stack, a_bodyParent, a_bodyStart, a_declCount, a_paramCount, a_paramName, a_declKind, a_declTarget, a_tokenBody, a_branchTarget, a_liveBody, a_liveParent, a_returnTo, a_slotValue, a_slotHome, a_waitingOp, a_waitingLeft, a_leftKnown, a_argKind, a_argValue, a_argHome⟩ := u
      obtain ⟨_, _, _, rfl, _⟩ := hu
      exact br_f h0 (br_t h1 hp)
    · obtain ⟨j, hj, rfl⟩ := nI_of h0
      refine ⟨pr j, fun u hu post hp => ?_⟩
      obtain ⟨f_depthLimit, f_state, f_trapCode, f_begun, f_tokenTotal, f_printedTotal, f_stackSize, f_bodyCount, f_declaredTwice, f_liveDepth, f_position, a_tokenKind, a_tokenValue, a_printed, a_stack, a_bodyParent, a_bodyStart, a_declCount, a_paramCount, a_paramName, a_declKind, a_declTarget, a_tokenBody, a_branchTarget, a_liveBody, a_liveParent, a_returnTo, a_slotValue, a_slotHome, a_waitingOp, a_waitingLeft, a_leftKnown, a_argKind, a_argValue, a_argHome⟩ := u
      obtain ⟨_, _, _, rfl, _, _, rfl, _, _, hon, _⟩ := hu
      refine br_f h0 (br_f h1 ?_)
      rw [nI_leI (by omega) hj] at h1
      refine ⟨vp_in_nI (by omega) (by decide), ?_⟩
      rw [nI_clamp hj]
      exact hp
/-- what the law needs of two objects that were compiled from the same tokens: R k, 'k statements of fuel were given' -/
def la_R (R : Nat → St2 → Prop) : Prop :=
  (∀ (k : Nat) (u : St2) (v : Int32) (F : Nat) (post : Int32 → St2 → Prop), R k u → pt_fu v F → (∀ u', R (k + F) u' → post u'.2.1 u') → wpX_run post u v) ∧
  (∀ k, 0 < k → ∀ u w : St2, R k u → R k w → u.2.1 = w.2.1 ∧ u.2.2.1 = w.2.2.1 ∧ u.2.2.2.1 = w.2.2.2.1 ∧ u.2.2.2.2.2.1 = w.2.2.2.2.2.1 ∧ u.2.2.2.2.2.2.2.2.2.1 = w.2.2.2.2.2.2.2.2.2.1) ∧
  (∀ k, 0 < k → ∀ x : Int32, ∃ r, ∀ u, R k u → ∀ post : Int32 → Prop, post r → wpX_mainVar post u x) ∧
  (∀ k, 0 < k → ∀ x : Int32, ∃ r, ∀ u, R k u → ∀ post : Int32 → Prop, post r → wpX_seen post u x) ∧
  (∀ k, 0 < k → ∀ x : Int32, ∃ r, ∀ u, R k u → ∀ post : Int32 → Prop, post r → wpX_output post u x) ∧
  (∀ k, 0 < k → ∀ u : St2, R k u → ∃ e, e ≤ k ∧ u.2.2.2.1 = nI e ∧ (u.2.1 = 1 → e = k))
theorem la_ex {K V : Nat → Nat} {n lim : Nat} {kd vl : Nat → Int32} {A : pt_AS} {u : St2} (h : pt_rel K V n lim kd vl A u) : u.2.2.2.1 = pt_ex A := by
  obtain ⟨f_depthLimit, f_state, f_trapCode, f_begun, f_tokenTotal, f_printedTotal, f_stackSize, f_bodyCount, f_declaredTwice, f_liveDepth, f_position, a_tokenKind, a_tokenValue, a_printed, a_stack, a_bodyParent, a_bodyStart, a_declCount, a_paramCount, a_paramName, a_declKind, a_declTarget, a_tokenBody, a_branchTarget, a_liveBody, a_liveParent, a_returnTo, a_slotValue, a_slotHome, a_waitingOp, a_waitingLeft, a_leftKnown, a_argKind, a_argValue, a_argHome⟩ := u
  obtain ⟨md, top, pc, on, ab, ap, rt, av, aq, ae, pr, ex, tc⟩ := A
  exact h.2.1
theorem la_ride {lim : Nat} {u : St2} (h : pt_edt lim u) (hl : lim ≤ 16) : ∃ R, la_R R ∧ ∀ post : Int32 → St2 → Prop, (∀ r u', ¬ r = 0 → post r u') → (∀ u', R 0 u' → post 0 u') → wpX_compile post u := by
  obtain ⟨K, V, n, kd, vl, B, hB0, hBx, hc⟩ := pt_compile h
  by_cases hex : ∃ u1, pt_rel K V n lim kd vl B u1
  · obtain ⟨u1, hu1⟩ := hex
    obtain ⟨md, top, pc, on, ab, ap, rt, av, aq, ae, pr, ex, tc⟩ := B
    have hmd0 : md = 0 := hB0
    subst hmd0
    have hex0 : ex = 0 := hBx
    subst hex0
    have s1 : ∀ z : St2, pt_rel K V n lim kd vl (0, top, pc, on, ab, ap, rt, av, aq, ae, pr, 0, tc) z → z.2.1 = 1 ∧ tc = 0 := by
      intro z hz
      obtain ⟨f_depthLimit, f_state, f_trapCode, f_begun, f_tokenTotal, f_printedTotal, f_stackSize, f_bodyCount, f_declaredTwice, f_liveDepth, f_position, a_tokenKind, a_tokenValue, a_printed, a_stack, a_bodyParent, a_bodyStart, a_declCount, a_paramCount, a_paramName, a_declKind, a_declTarget, a_tokenBody, a_branchTarget, a_liveBody, a_liveParent, a_returnTo, a_slotValue, a_slotHome, a_waitingOp, a_waitingLeft, a_leftKnown, a_argKind, a_argValue, a_argHome⟩ := z
      obtain ⟨_, _, _, _, _, _, _, _, _, _, _, _, _, _, hmd⟩ := hz
      rcases hmd with ⟨_, h, h2, _⟩ | ⟨h, _⟩ | ⟨h, _⟩ | ⟨h, _⟩
      · exact ⟨h, h2⟩
      · exact absurd h (by decide)
      · exact absurd h (by decide)
      · exact absurd h (by decide)
    have htc : tc = 0 := (s1 u1 hu1).2
    subst htc
    obtain ⟨A1, hok, hx, hst⟩ := pt_stl hu1
    obtain ⟨nx, hnx⟩ := pt_course (K := K) (V := V) (n := n) (lim := lim) kd vl hl
    refine ⟨fun k u => (k = 0 ∧ pt_rel K V n lim kd vl (0, top, pc, on, ab, ap, rt, av, aq, ae, pr, 0, 0) u) ∨ (0 < k ∧ pt_rel K V n lim kd vl (pt_s nx A1 k) u), ⟨?_, ?_, ?_, ?_, ?_, ?_⟩, fun post hb hg => hc post hb (fun u' hu' => hg u' (.inl ⟨rfl, hu'⟩))⟩
    · intro k u v F post hR hF hp
      have hF1 := hF.1
      rcases hR with ⟨rfl, hr⟩ | ⟨hk, hr⟩
      · exact pt_run1 (B := A1) hnx hok hF (s1 u hr).1 (hst u hr) (fun u' hu' => hp u' (.inr ⟨by omega, by rw [Nat.zero_add]; exact hu'⟩))
      · exact pt_runs hnx hok hF hr (fun u' hu' => hp u' (.inr ⟨by omega, hu'⟩))
    · intro k hk u w hu hw
      rcases hu with ⟨rfl, _⟩ | ⟨_, hu⟩
      · omega
      · rcases hw with ⟨rfl, _⟩ | ⟨_, hw⟩
        · omega
        · have hs := pt_same hu hw (pt_s_ok hnx hok k)
          exact ⟨hs.1, hs.2.1, hs.2.2.1, hs.2.2.2.1, hs.2.2.2.2.1⟩
    · intro k hk x
      obtain ⟨r, hr⟩ := pt_main (V := V) (n := n) (lim := lim) (kd := kd) (vl := vl) (pt_s_ok hnx hok k) x
      exact ⟨r, fun u hu post hp => hu.elim (fun h => absurd h.1 (by omega)) (fun h => hr u h.2 post hp)⟩
    · intro k hk x
      obtain ⟨r, hr⟩ := pt_seen (V := V) (n := n) (lim := lim) (kd := kd) (vl := vl) (pt_s_ok hnx hok k) x
      exact ⟨r, fun u hu post hp => hu.elim (fun h => absurd h.1 (by omega)) (fun h => hr u h.2 post hp)⟩
    · intro k hk x
      obtain ⟨r, hr⟩ := pt_out (K := K) (V := V) (n := n) (lim := lim) (kd := kd) (vl := vl) (A := pt_s nx A1 k) x
      exact ⟨r, fun u hu post hp => hu.elim (fun h => absurd h.1 (by omega)) (fun h => hr u h.2 post hp)⟩
    · intro k hk u hu
      rcases hu with ⟨rfl, _⟩ | ⟨_, hu⟩
      · omega
      · obtain ⟨e, e1, e2, e3⟩ := pt_s_ex hnx hok hx k
        exact ⟨e, e1, (la_ex hu).trans e2, fun h1 => e3 ((pt_st hu (pt_s_ok hnx hok k)).mpr h1)⟩
  · refine ⟨fun _ _ => False, ⟨fun _ _ _ _ _ h => h.elim, fun _ _ _ _ h => h.elim, fun _ _ _ => ⟨0, fun _ h => h.elim⟩, fun _ _ _ => ⟨0, fun _ h => h.elim⟩, fun _ _ _ => ⟨0, fun _ h => h.elim⟩, fun _ _ _ h => h.elim⟩, fun post hb _ => hc post hb (fun u' hu' => absurd ⟨u', hu'⟩ hex)⟩
theorem la_fu {F : Nat} (h1 : 1 ≤ F) (h2 : F ≤ 256) : pt_fu (nI F) F := ⟨h1, h2, .inl ⟨nI_le (a := 1) h1 (by omega), nI_le (b := 256) h2 (by decide), rfl⟩⟩
end
section
theorem de_and {c A B : Prop} (a : c → A) (b : ¬ c → B) : (c → A) ∧ (¬ c → B) := ⟨a, b⟩
theorem de_z {A B : Prop} {j : Nat} (a : A) (b : ∀ i, j = i + 1 → B) : (nI j = 0 → A) ∧ (¬ nI j = 0 → B) := by
  cases j with
  | zero => exact ⟨fun _ => a, fun h => absurd rfl h⟩
  | succ i => exact ⟨fun _ => a, fun _ => b i rfl⟩
/-- the script's cell: any answer, where the index isn't negative -/
theorem de_cell {post : Int32 → Prop} {L : Nat} {xs : Nat → Int32} (hL : L ≤ 260) {x : Int32} (p : Nat) (hx : x = nI p) (hp : p < 2 ^ 31) (h : ∀ r, post r) : wpL_cell post L xs () x := by
  subst hx
  by_cases h2 : L ≤ p
  · exact br_t (nI_le h2 hp) (h _)
  · exact br_f (nI_ge (by omega) (by omega)) ⟨vp_in_nI (by omega) (by omega), h _⟩
theorem de_cell0 {post : Int32 → Prop} {L : Nat} {xs : Nat → Int32} (hL : L ≤ 260) {b : Nat} (hb : b < 2 ^ 20) (h : ∀ r, post r) : wpL_cell post L xs () (nI b) := de_cell hL b rfl (by omega) h
theorem de_cell1 {post : Int32 → Prop} {L : Nat} {xs : Nat → Int32} (hL : L ≤ 260) {b : Nat} (hb : b < 2 ^ 20) (h : ∀ r, post r) : wpL_cell post L xs () (nI b + 1) := de_cell hL (b + 1) (nI_add b 1) (by omega) h
theorem de_cell2 {post : Int32 → Prop} {L : Nat} {xs : Nat → Int32} (hL : L ≤ 260) {b : Nat} (hb : b < 2 ^ 20) (h : ∀ r, post r) : wpL_cell post L xs () (nI b + 2) := de_cell hL (b + 2) (nI_add b 2) (by omega) h
theorem de_cell3 {post : Int32 → Prop} {L : Nat} {xs : Nat → Int32} (hL : L ≤ 260) {b j : Nat} (hb : b < 2 ^ 20) (hj : j < 2 ^ 20) (h : ∀ r, post r) : wpL_cell post L xs () (nI b + 2 + nI j) := de_cell hL (b + 2 + j) ((congrArg (· + nI j) (nI_add b 2)).trans (nI_add (b + 2) j)) (by omega) h
theorem de_code {post : Int32 → Prop} {a b : Int32} (h : ∀ r, post r) : wpL_code post () a b := h _
theorem de_inner {post : Int32 → Prop} {c : Int32} (h : ∀ r, post r) : wpL_inner post () c := by
  repeat' (first | exact h _ | refine de_and (fun _ => ?_) (fun _ => ?_) | (intro _ hx; cases hx) | omega)
theorem de_var {post : Int32 → Prop} {a b : Int32} (h : ∀ r, post r) : wpL_var post () a b := by
  repeat' (first | exact h _ | refine de_and (fun _ => ?_) (fun _ => ?_) | (intro _ hx; cases hx) | omega)
theorem de_proc {post : Int32 → Prop} {a b : Int32} (h : ∀ r, post r) : wpL_proc post () a b := by
  repeat' (first | exact h _ | with_reducible refine de_inner (fun _ => ?_) | refine de_and (fun _ => ?_) (fun _ => ?_) | (intro _ hx; cases hx) | omega)
theorem de_label {post : Int32 → Prop} {a b : Int32} (h : ∀ r, post r) : wpL_label post () a b := by
  repeat' (first | exact h _ | with_reducible refine de_inner (fun _ => ?_) | refine de_and (fun _ => ?_) (fun _ => ?_) | (intro _ hx; cases hx) | omega)
theorem de_skel {post : Int32 → Prop} {a b : Int32} (h : ∀ r, post r) : wpL_skel post () a b := by
  repeat' (first | exact h _ | with_reducible refine de_code (fun _ => ?_) | refine de_and (fun _ => ?_) (fun _ => ?_) | (intro _ hx; cases hx) | omega)
theorem de_expr {post : Int32 → Prop} {L : Nat} {xs : Nat → Int32} (hL : L ≤ 260) {b j : Nat} {x2 : Int32} (hb : b < 2 ^ 20) (hj : j < 2 ^ 20) (h : ∀ r, post r) : wpL_expr post L xs () (nI b) x2 (nI j) := by
  repeat' (first | exact h _ | with_reducible refine de_code (fun _ => ?_) | with_reducible refine de_inner (fun _ => ?_) | with_reducible refine de_var (fun _ => ?_) | with_reducible refine de_proc (fun _ => ?_) | with_reducible refine de_label (fun _ => ?_) | with_reducible refine de_cell2 hL hb (fun _ => ?_) | with_reducible refine de_cell3 hL hb hj (fun _ => ?_) | refine de_and (fun _ => ?_) (fun _ => ?_) | (intro _ hx; cases hx) | omega)
theorem de_expr1 {post : Int32 → Prop} {L : Nat} {xs : Nat → Int32} (hL : L ≤ 260) {b j : Nat} {x2 : Int32} (hb : b < 2 ^ 20) (hj : j < 2 ^ 20) (h : ∀ r, post r) : wpL_expr post L xs () (nI b) x2 (nI (j + 1) - 1) := by
  rw [nI_pred]; exact de_expr hL hb hj h
end
section
theorem de_359 {post : Int32 → Prop} {L : Nat} {xs : Nat → Int32} {x3 : Int32} (h : ∀ r, post r) : wL_simple_359 post L xs x3 := de_and (fun _ => h _) (fun _ => h _)
theorem de_303 {post : Int32 → Prop} {L : Nat} {xs : Nat → Int32} (hL : L ≤ 260) {b j : Nat} (hb : b < 2 ^ 20) (hj : j < 2 ^ 20) (h : ∀ r, post r) {x2 x7 x8 : Int32} : wL_simple_303 post L xs (nI b) x2 (nI j) x7 x8 := by
  refine de_and (fun _ => de_359 h) (fun _ => de_z (h _) (fun i hi => ?_))
  subst hi
  refine de_and (fun _ => ?_) (fun _ => de_expr1 hL hb (by omega) h)
  intro y _
  exact de_and (fun _ => de_and (fun _ => h _) (fun _ => fun z _ => de_359 h)) (fun _ => de_359 h)
theorem de_252 {post : Int32 → Prop} {L : Nat} {xs : Nat → Int32} (hL : L ≤ 260) {b j : Nat} (hb : b < 2 ^ 20) (hj : j < 2 ^ 20) (h : ∀ r, post r) {x2 x5 x6 z0 : Int32} : wL_simple_252 post L xs (nI b) x2 (nI j) x5 x6 z0 := by
  unfold wL_simple_252
  refine de_proc (fun q => de_z (h _) (fun i hi => ?_))
  subst hi
  refine nm_r (pk_m1 i) (de_and (fun _ => de_z (h _) (fun i2 hi2 => ?_)) (fun _ => de_303 hL hb (by omega) h))
  subst hi2
  exact nm_r (pk_m1 i2) (de_303 hL hb (by omega) h)
theorem de_226 {post : Int32 → Prop} {L : Nat} {xs : Nat → Int32} (hL : L ≤ 260) {b j : Nat} (hb : b < 2 ^ 20) (hj : j < 2 ^ 20) (h : ∀ r, post r) {x2 x4 x5 z0 : Int32} : wL_simple_226 post L xs (nI b) x2 (nI j) x4 x5 z0 := de_and (fun _ => de_252 hL hb hj h) (fun _ => de_and (fun _ => de_252 hL hb hj h) (fun _ => de_252 hL hb hj h))
theorem de_62 {post : Int32 → Prop} {L : Nat} {xs : Nat → Int32} (hL : L ≤ 260) {b j : Nat} (hb : b < 2 ^ 20) (hj : j < 2 ^ 20) (h : ∀ r, post r) {x2 x4 x5 : Int32} : wL_simple_62 post L xs (nI b) x2 (nI j) x4 x5 := by
  refine de_and (fun _ => de_z (de_var (fun _ => h _)) (fun i hi => ?_)) (fun _ => de_and (fun _ => de_z (h _) (fun i hi => ?_)) (fun _ => de_and (fun _ => de_and (fun _ => de_label (fun _ => h _)) (fun _ => h _)) (fun _ => de_and (fun _ => de_and (fun _ => h _) (fun _ => de_and (fun _ => h _) (fun _ => h _))) (fun _ => de_and (fun _ => de_226 hL hb hj h) (fun _ => de_and (fun _ => de_226 hL hb hj h) (fun _ => de_226 hL hb hj h))))))
  · subst hi; exact de_and (fun _ => h _) (fun _ => de_expr1 hL hb (by omega) h)
  · subst hi; exact de_and (fun _ => h _) (fun _ => de_expr1 hL hb (by omega) h)
theorem de_45 {post : Int32 → Prop} {L : Nat} {xs : Nat → Int32} (hL : L ≤ 260) {b j : Nat} (hb : b < 2 ^ 20) (hj : j < 2 ^ 20) (h : ∀ r, post r) {x2 x4 x5 : Int32} : wL_simple_45 post L xs (nI b) x2 (nI j) x4 x5 := by
  unfold wL_simple_45
  exact de_inner (fun _ => de_and (fun _ => de_and (fun _ => de_62 hL hb hj h) (fun _ => de_62 hL hb hj h)) (fun _ => de_62 hL hb hj h))
theorem de_29 {post : Int32 → Prop} {L : Nat} {xs : Nat → Int32} (hL : L ≤ 260) {b j : Nat} (hb : b < 2 ^ 20) (hj : j < 2 ^ 20) (h : ∀ r, post r) {x2 x4 x5 : Int32} : wL_simple_29 post L xs (nI b) x2 (nI j) x4 x5 := by
  unfold wL_simple_29
  exact de_inner (fun _ => de_and (fun _ => de_and (fun _ => de_45 hL hb hj h) (fun _ => de_45 hL hb hj h)) (fun _ => de_45 hL hb hj h))
theorem de_simple {post : Int32 → Prop} {L : Nat} {xs : Nat → Int32} (hL : L ≤ 260) {b j : Nat} (hb : b < 2 ^ 20) (hj : j < 2 ^ 20) (h : ∀ r, post r) {x2 : Int32} : wpL_simple post L xs () (nI b) x2 (nI j) := by
  unfold wpL_simple
  exact de_cell0 hL hb (fun _ => fun y _ => de_cell1 hL hb (fun _ => de_and (fun _ => de_29 hL hb hj h) (fun _ => de_29 hL hb hj h)))
theorem de_len2 {post : Int32 → Prop} {L : Nat} {xs : Nat → Int32} (hL : L ≤ 260) {b : Nat} (hb : b < 2 ^ 20) {x2 : Int32} (h : ∀ i, i ≤ 10 → post (nI i)) : ∀ r j fx : Nat, r + j = 10 → r < fx → wL_len_2 post L xs (nI b) x2 fx (nI j) := by
  intro r
  induction r with
  | zero =>
    intro j fx hr hf
    obtain ⟨f1, rfl⟩ : ∃ f1, fx = f1 + 1 := ⟨fx - 1, by omega⟩
    have e : j = 10 := by omega
    subst e
    exact br_t (nI_le (a := 10) (b := 10) (by omega) (by decide)) (h 10 (by omega))
  | succ r ih =>
    intro j fx hr hf
    obtain ⟨f1, rfl⟩ : ∃ f1, fx = f1 + 1 := ⟨fx - 1, by omega⟩
    have hn := ih (j + 1) f1 (by omega) (by omega)
    exact br_f (nI_ge (b := 10) (by omega) (by decide)) (de_simple hL hb (by omega) (fun c => de_and (fun _ => nm_r (nI_1 j) hn) (fun _ => h j (by omega))))
theorem de_len {post : Int32 → Prop} {L : Nat} {xs : Nat → Int32} (hL : L ≤ 260) {b : Nat} (hb : b < 2 ^ 20) {x2 : Int32} (h : ∀ i, i ≤ 10 → post (nI i)) : wpL_len post L xs () (nI b) x2 := by
  unfold wpL_len
  exact ⟨11, de_len2 hL hb h 10 0 11 (by omega) (by omega)⟩
theorem de_151 {post : Int32 → Prop} {L : Nat} {xs : Nat → Int32} {x4 : Int32} (h : ∀ r, post r) : wL_top_151 post L xs x4 := de_and (fun _ => h _) (fun _ => h _)
theorem de_top {post : Int32 → Prop} {L : Nat} {xs : Nat → Int32} (hL : L ≤ 260) {b j : Nat} (hb : b < 2 ^ 19) (hj : j < 2 ^ 19) {x2 : Int32} (h : ∀ r, post r) : wpL_top post L xs () (nI b) x2 (nI j) := by
  unfold wpL_top
  rw [show nI b + 5 = nI (b + 5) from nI_add b 5, show nI b + 10 = nI (b + 10) from nI_add b 10]
  refine de_cell0 hL (by omega) (fun _ => de_and (fun _ => de_z (h _) (fun i hi => ?_)) (fun _ => de_simple hL (by omega) (by omega) h))
  by_cases h4 : 4 ≤ j
  · refine br_t (nI_le (a := 4) h4 (by omega)) (nm_r (pk_sub (b := 4) h4) (de_len hL (by omega) (fun l hl => ?_)))
    by_cases hk : l ≤ j - 4
    · refine br_t (nI_le hk (by omega)) (nm_r (pk_sub hk) (de_cell1 hL (by omega) (fun _ => de_and (fun _ => de_151 h) (fun _ => de_z (h _) (fun i3 hi3 => ?_)))))
      rw [hi3]
      refine nm_r (pk_m1 i3) (de_len hL (by omega) (fun l2 hl2 => ?_))
      by_cases hk2 : l2 ≤ i3
      · exact br_t (nI_le hk2 (by omega)) (fun y _ => de_151 h)
      · exact br_f (nI_ge (by omega) (by omega)) (de_simple hL (by omega) (by omega) h)
    · exact br_f (nI_ge (by omega) (by omega)) (de_simple hL (by omega) (by omega) h)
  · refine br_f (nI_ge (b := 4) (by omega) (by decide)) ?_
    subst hi
    exact de_expr1 hL (by omega) (by omega) h
end
section
variable {f_depthLimit f_state f_trapCode f_begun f_tokenTotal f_printedTotal f_stackSize f_bodyCount f_declaredTwice f_liveDepth f_position : Int32} {a_tokenKind a_tokenValue a_printed a_stack a_bodyParent a_bodyStart a_declCount a_paramCount a_paramName a_declKind a_declTarget a_tokenBody a_branchTarget a_liveBody a_liveParent a_returnTo a_slotValue a_slotHome a_waitingOp a_waitingLeft a_leftKnown a_argKind a_argValue a_argHome : Nat → Int32}
variable {g_depthLimit g_state g_trapCode g_begun g_tokenTotal g_printedTotal g_stackSize g_bodyCount g_declaredTwice g_liveDepth g_position : Int32} {b_tokenKind b_tokenValue b_printed b_stack b_bodyParent b_bodyStart b_declCount b_paramCount b_paramName b_declKind b_declTarget b_tokenBody b_branchTarget b_liveBody b_liveParent b_returnTo b_slotValue b_slotHome b_waitingOp b_waitingLeft b_leftKnown b_argKind b_argValue b_argHome : Nat → Int32}
def la_J (J : Int32 → Int32 → Int32 → Int32 → Int32 → Int32 → Int32 → Int32 → Int32 → Int32 → Int32 → Int32 → Int32 → (Nat → Int32) → (Nat → Int32) → (Nat → Int32) → (Nat → Int32) → (Nat → Int32) → (Nat → Int32) → (Nat → Int32) → (Nat → Int32) → (Nat → Int32) → (Nat → Int32) → (Nat → Int32) → (Nat → Int32) → (Nat → Int32) → (Nat → Int32) → (Nat → Int32) → (Nat → Int32) → (Nat → Int32) → (Nat → Int32) → (Nat → Int32) → (Nat → Int32) → (Nat → Int32) → (Nat → Int32) → (Nat → Int32) → (Nat → Int32) → Int32 → Int32 → Int32 → Int32 → Int32 → Int32 → Int32 → Int32 → Int32 → Int32 → Int32 → (Nat → Int32) → (Nat → Int32) → (Nat → Int32) → (Nat → Int32) → (Nat → Int32) → (Nat → Int32) → (Nat → Int32) → (Nat → Int32) → (Nat → Int32) → (Nat → Int32) → (Nat → Int32) → (Nat → Int32) → (Nat → Int32) → (Nat → Int32) → (Nat → Int32) → (Nat → Int32) → (Nat → Int32) → (Nat → Int32) → (Nat → Int32) → (Nat → Int32) → (Nat → Int32) → (Nat → Int32) → (Nat → Int32) → (Nat → Int32) → Prop) (x4 x5 : Int32) (u : St2) : Prop := match u with
  | (f_depthLimit, f_state, f_trapCode, f_begun, f_tokenTotal, f_printedTotal, f_stackSize, f_bodyCount, f_declaredTwice, f_liveDepth, f_position, a_tokenKind, a_tokenValue, a_printed, a_stack, a_bodyParent, a_bodyStart, a_declCount, a_paramCount, a_paramName, a_declKind, a_declTarget, a_tokenBody, a_branchTarget, a_liveBody, a_liveParent, a_returnTo, a_slotValue, a_slotHome, a_waitingOp, a_waitingLeft, a_leftKnown, a_argKind, a_argValue, a_argHome) => J x4 x5 f_depthLimit f_state f_trapCode f_begun f_tokenTotal f_printedTotal f_stackSize f_bodyCount f_declaredTwice f_liveDepth f_position a_tokenKind a_tokenValue a_printed a_stack a_bodyParent a_bodyStart a_declCount a_paramCount a_paramName a_declKind a_declTarget a_tokenBody a_branchTarget a_liveBody a_liveParent a_returnTo a_slotValue a_slotHome a_waitingOp a_waitingLeft a_leftKnown a_argKind a_argValue a_argHome f_depthLimit f_state f_trapCode f_begun f_tokenTotal f_printedTotal f_stackSize f_bodyCount f_declaredTwice f_liveDepth f_position a_tokenKind a_tokenValue a_printed a_stack a_bodyParent a_bodyStart a_declCount a_paramCount a_paramName a_declKind a_declTarget a_tokenBody a_branchTarget a_liveBody a_liveParent a_returnTo a_slotValue a_slotHome a_waitingOp a_waitingLeft a_leftKnown a_argKind a_argValue a_argHome
def la_w51 (post : Int32 → Prop) (J : Int32 → Int32 → Int32 → Int32 → Int32 → Int32 → Int32 → Int32 → Int32 → Int32 → Int32 → Int32 → Int32 → (Nat → Int32) → (Nat → Int32) → (Nat → Int32) → (Nat → Int32) → (Nat → Int32) → (Nat → Int32) → (Nat → Int32) → (Nat → Int32) → (Nat → Int32) → (Nat → Int32) → (Nat → Int32) → (Nat → Int32) → (Nat → Int32) → (Nat → Int32) → (Nat → Int32) → (Nat → Int32) → (Nat → Int32) → (Nat → Int32) → (Nat → Int32) → (Nat → Int32) → (Nat → Int32) → (Nat → Int32) → (Nat → Int32) → (Nat → Int32) → Int32 → Int32 → Int32 → Int32 → Int32 → Int32 → Int32 → Int32 → Int32 → Int32 → Int32 → (Nat → Int32) → (Nat → Int32) → (Nat → Int32) → (Nat → Int32) → (Nat → Int32) → (Nat → Int32) → (Nat → Int32) → (Nat → Int32) → (Nat → Int32) → (Nat → Int32) → (Nat → Int32) → (Nat → Int32) → (Nat → Int32) → (Nat → Int32) → (Nat → Int32) → (Nat → Int32) → (Nat → Int32) → (Nat → Int32) → (Nat → Int32) → (Nat → Int32) → (Nat → Int32) → (Nat → Int32) → (Nat → Int32) → (Nat → Int32) → Prop) (L : Nat) (xs : Nat → Int32) (x4 x5 : Int32) (kc ks n : Nat) (x6 : Int32) (u : St2) : Prop := match u with
  | (f_depthLimit, f_state, f_trapCode, f_begun, f_tokenTotal, f_printedTotal, f_stackSize, f_bodyCount, f_declaredTwice, f_liveDepth, f_position, a_tokenKind, a_tokenValue, a_printed, a_stack, a_bodyParent, a_bodyStart, a_declCount, a_paramCount, a_paramName, a_declKind, a_declTarget, a_tokenBody, a_branchTarget, a_liveBody, a_liveParent, a_returnTo, a_slotValue, a_slotHome, a_waitingOp, a_waitingLeft, a_leftKnown, a_argKind, a_argValue, a_argHome) => wL_law_51 post L xs J x4 x5 kc ks n x6 f_depthLimit f_state f_trapCode f_begun f_tokenTotal f_printedTotal f_stackSize f_bodyCount f_declaredTwice f_liveDepth f_position a_tokenKind a_tokenValue a_printed a_stack a_bodyParent a_bodyStart a_declCount a_paramCount a_paramName a_declKind a_declTarget a_tokenBody a_branchTarget a_liveBody a_liveParent a_returnTo a_slotValue a_slotHome a_waitingOp a_waitingLeft a_leftKnown a_argKind a_argValue a_argHome f_depthLimit f_state f_trapCode f_begun f_tokenTotal f_printedTotal f_stackSize f_bodyCount f_declaredTwice f_liveDepth f_position a_tokenKind a_tokenValue a_printed a_stack a_bodyParent a_bodyStart a_declCount a_paramCount a_paramName a_declKind a_declTarget a_tokenBody a_branchTarget a_liveBody a_liveParent a_returnTo a_slotValue a_slotHome a_waitingOp a_waitingLeft a_leftKnown a_argKind a_argValue a_argHome
theorem la_51 {post : Int32 → Prop} {L : Nat} {xs : Nat → Int32} {kc ks lim : Nat} {J : Int32 → Int32 → Int32 → Int32 → Int32 → Int32 → Int32 → Int32 → Int32 → Int32 → Int32 → Int32 → Int32 → (Nat → Int32) → (Nat → Int32) → (Nat → Int32) → (Nat → Int32) → (Nat → Int32) → (Nat → Int32) → (Nat → Int32) → (Nat → Int32) → (Nat → Int32) → (Nat → Int32) → (Nat → Int32) → (Nat → Int32) → (Nat → Int32) → (Nat → Int32) → (Nat → Int32) → (Nat → Int32) → (Nat → Int32) → (Nat → Int32) → (Nat → Int32) → (Nat → Int32) → (Nat → Int32) → (Nat → Int32) → (Nat → Int32) → (Nat → Int32) → Int32 → Int32 → Int32 → Int32 → Int32 → Int32 → Int32 → Int32 → Int32 → Int32 → Int32 → (Nat → Int32) → (Nat → Int32) → (Nat → Int32) → (Nat → Int32) → (Nat → Int32) → (Nat → Int32) → (Nat → Int32) → (Nat → Int32) → (Nat → Int32) → (Nat → Int32) → (Nat → Int32) → (Nat → Int32) → (Nat → Int32) → (Nat → Int32) → (Nat → Int32) → (Nat → Int32) → (Nat → Int32) → (Nat → Int32) → (Nat → Int32) → (Nat → Int32) → (Nat → Int32) → (Nat → Int32) → (Nat → Int32) → (Nat → Int32) → Prop} {x4 x5 : Int32} (hJ : ∀ u, pt_edt lim u → la_J J x4 (x5 + 1) u) :
    ∀ (r j fx : Nat) (u : St2), r + j = 16 → r < fx → pt_edt lim u → la_w51 post J L xs x4 x5 kc ks fx (nI j) u := by
  intro r
  induction r with
  | zero =>
    intro j fx u hr hf hu
    obtain ⟨f1, rfl⟩ : ∃ f1, fx = f1 + 1 := ⟨fx - 1, by omega⟩
    have hh := hJ u hu
    obtain ⟨f_depthLimit, f_state, f_trapCode, f_begun, f_tokenTotal, f_printedTotal, f_stackSize, f_bodyCount, f_declaredTwice, f_liveDepth, f_position, a_tokenKind, a_tokenValue, a_printed, a_stack, a_bodyParent, a_bodyStart, a_declCount, a_paramCount, a_paramName, a_declKind, a_declTarget, a_tokenBody, a_branchTarget, a_liveBody, a_liveParent, a_returnTo, a_slotValue, a_slotHome, a_waitingOp, a_waitingLeft, a_leftKnown, a_argKind, a_argValue, a_argHome⟩ := u
    exact br_t (nI_le (a := 16) (by omega) (by omega)) (nm_e hh)
  | succ r ih =>
    intro j fx u hr hf hu
    obtain ⟨f1, rfl⟩ : ∃ f1, fx = f1 + 1 := ⟨fx - 1, by omega⟩
    have hh := hJ u hu
    have ht := pt_token hu
    obtain ⟨f_depthLimit, f_state, f_trapCode, f_begun, f_tokenTotal, f_printedTotal, f_stackSize, f_bodyCount, f_declaredTwice, f_liveDepth, f_position, a_tokenKind, a_tokenValue, a_printed, a_stack, a_bodyParent, a_bodyStart, a_declCount, a_paramCount, a_paramName, a_declKind, a_declTarget, a_tokenBody, a_branchTarget, a_liveBody, a_liveParent, a_returnTo, a_slotValue, a_slotHome, a_waitingOp, a_waitingLeft, a_leftKnown, a_argKind, a_argValue, a_argHome⟩ := u
    refine br_f (nI_ge (b := 16) (by omega) (by decide)) (de_skel (fun c => ?_))
    by_cases hc : 0 ≤ c
    · refine br_t hc ?_
      obtain ⟨q, u', hu', hk⟩ := ht (c >>> ((8 : Int32) &&& 31)) (c &&& 255)
      have hn := ih (j + 1) f1 u' (by omega) (by omega) hu'
      obtain ⟨g_depthLimit, g_state, g_trapCode, g_begun, g_tokenTotal, g_printedTotal, g_stackSize, g_bodyCount, g_declaredTwice, g_liveDepth, g_position, b_tokenKind, b_tokenValue, b_printed, b_stack, b_bodyParent, b_bodyStart, b_declCount, b_paramCount, b_paramName, b_declKind, b_declTarget, b_tokenBody, b_branchTarget, b_liveBody, b_liveParent, b_returnTo, b_slotValue, b_slotHome, b_waitingOp, b_waitingLeft, b_leftKnown, b_argKind, b_argValue, b_argHome⟩ := u'
      exact hk _ (hk _ (nm_r (nI_1 j) hn))
    · exact br_f hc (nm_e hh)
def la_w194 (post : Int32 → Prop) (J0 J : Int32 → Int32 → Int32 → Int32 → Int32 → Int32 → Int32 → Int32 → Int32 → Int32 → Int32 → Int32 → Int32 → (Nat → Int32) → (Nat → Int32) → (Nat → Int32) → (Nat → Int32) → (Nat → Int32) → (Nat → Int32) → (Nat → Int32) → (Nat → Int32) → (Nat → Int32) → (Nat → Int32) → (Nat → Int32) → (Nat → Int32) → (Nat → Int32) → (Nat → Int32) → (Nat → Int32) → (Nat → Int32) → (Nat → Int32) → (Nat → Int32) → (Nat → Int32) → (Nat → Int32) → (Nat → Int32) → (Nat → Int32) → (Nat → Int32) → (Nat → Int32) → Int32 → Int32 → Int32 → Int32 → Int32 → Int32 → Int32 → Int32 → Int32 → Int32 → Int32 → (Nat → Int32) → (Nat → Int32) → (Nat → Int32) → (Nat → Int32) → (Nat → Int32) → (Nat → Int32) → (Nat → Int32) → (Nat → Int32) → (Nat → Int32) → (Nat → Int32) → (Nat → Int32) → (Nat → Int32) → (Nat → Int32) → (Nat → Int32) → (Nat → Int32) → (Nat → Int32) → (Nat → Int32) → (Nat → Int32) → (Nat → Int32) → (Nat → Int32) → (Nat → Int32) → (Nat → Int32) → (Nat → Int32) → (Nat → Int32) → Prop) (L : Nat) (xs : Nat → Int32) (x4 x5 x7 x8 x9 : Int32) (kc ks n : Nat) (x10 : Int32) (u : St2) : Prop := match u with
  | (f_depthLimit, f_state, f_trapCode, f_begun, f_tokenTotal, f_printedTotal, f_stackSize, f_bodyCount, f_declaredTwice, f_liveDepth, f_position, a_tokenKind, a_tokenValue, a_printed, a_stack, a_bodyParent, a_bodyStart, a_declCount, a_paramCount, a_paramName, a_declKind, a_declTarget, a_tokenBody, a_branchTarget, a_liveBody, a_liveParent, a_returnTo, a_slotValue, a_slotHome, a_waitingOp, a_waitingLeft, a_leftKnown, a_argKind, a_argValue, a_argHome) => wL_law_194 post L xs J0 J x4 x5 x7 x8 x9 kc ks n x10 f_depthLimit f_state f_trapCode f_begun f_tokenTotal f_printedTotal f_stackSize f_bodyCount f_declaredTwice f_liveDepth f_position a_tokenKind a_tokenValue a_printed a_stack a_bodyParent a_bodyStart a_declCount a_paramCount a_paramName a_declKind a_declTarget a_tokenBody a_branchTarget a_liveBody a_liveParent a_returnTo a_slotValue a_slotHome a_waitingOp a_waitingLeft a_leftKnown a_argKind a_argValue a_argHome f_depthLimit f_state f_trapCode f_begun f_tokenTotal f_printedTotal f_stackSize f_bodyCount f_declaredTwice f_liveDepth f_position a_tokenKind a_tokenValue a_printed a_stack a_bodyParent a_bodyStart a_declCount a_paramCount a_paramName a_declKind a_declTarget a_tokenBody a_branchTarget a_liveBody a_liveParent a_returnTo a_slotValue a_slotHome a_waitingOp a_waitingLeft a_leftKnown a_argKind a_argValue a_argHome
theorem la_194 {post : Int32 → Prop} {L : Nat} {xs : Nat → Int32} {kc ks lim : Nat} (hL : L ≤ 260) {J0 J : Int32 → Int32 → Int32 → Int32 → Int32 → Int32 → Int32 → Int32 → Int32 → Int32 → Int32 → Int32 → Int32 → (Nat → Int32) → (Nat → Int32) → (Nat → Int32) → (Nat → Int32) → (Nat → Int32) → (Nat → Int32) → (Nat → Int32) → (Nat → Int32) → (Nat → Int32) → (Nat → Int32) → (Nat → Int32) → (Nat → Int32) → (Nat → Int32) → (Nat → Int32) → (Nat → Int32) → (Nat → Int32) → (Nat → Int32) → (Nat → Int32) → (Nat → Int32) → (Nat → Int32) → (Nat → Int32) → (Nat → Int32) → (Nat → Int32) → (Nat → Int32) → Int32 → Int32 → Int32 → Int32 → Int32 → Int32 → Int32 → Int32 → Int32 → Int32 → Int32 → (Nat → Int32) → (Nat → Int32) → (Nat → Int32) → (Nat → Int32) → (Nat → Int32) → (Nat → Int32) → (Nat → Int32) → (Nat → Int32) → (Nat → Int32) → (Nat → Int32) → (Nat → Int32) → (Nat → Int32) → (Nat → Int32) → (Nat → Int32) → (Nat → Int32) → (Nat → Int32) → (Nat → Int32) → (Nat → Int32) → (Nat → Int32) → (Nat → Int32) → (Nat → Int32) → (Nat → Int32) → (Nat → Int32) → (Nat → Int32) → Prop} {b : Nat} (hb : b < 2 ^ 19) {x5 x7 x8 x9 : Int32} (hJ : ∀ u, pt_edt lim u → la_J J (nI (b + 16)) (x9 + 1) u) :
    ∀ (r j fx : Nat) (u : St2), r + j = 32 → r < fx → pt_edt lim u → la_w194 post J0 J L xs (nI b) x5 x7 x8 x9 kc ks fx (nI j) u := by
  intro r
  induction r with
  | zero =>
    intro j fx u hr hf hu
    obtain ⟨f1, rfl⟩ : ∃ f1, fx = f1 + 1 := ⟨fx - 1, by omega⟩
    have hh := hJ u hu
    obtain ⟨f_depthLimit, f_state, f_trapCode, f_begun, f_tokenTotal, f_printedTotal, f_stackSize, f_bodyCount, f_declaredTwice, f_liveDepth, f_position, a_tokenKind, a_tokenValue, a_printed, a_stack, a_bodyParent, a_bodyStart, a_declCount, a_paramCount, a_paramName, a_declKind, a_declTarget, a_tokenBody, a_branchTarget, a_liveBody, a_liveParent, a_returnTo, a_slotValue, a_slotHome, a_waitingOp, a_waitingLeft, a_leftKnown, a_argKind, a_argValue, a_argHome⟩ := u
    exact br_t (nI_le (a := 32) (by omega) (by omega)) (nm_r (nI_add b 16) (nm_e hh))
  | succ r ih =>
    intro j fx u hr hf hu
    obtain ⟨f1, rfl⟩ : ∃ f1, fx = f1 + 1 := ⟨fx - 1, by omega⟩
    have hh := hJ u hu
    have ht := pt_token hu
    obtain ⟨f_depthLimit, f_state, f_trapCode, f_begun, f_tokenTotal, f_printedTotal, f_stackSize, f_bodyCount, f_declaredTwice, f_liveDepth, f_position, a_tokenKind, a_tokenValue, a_printed, a_stack, a_bodyParent, a_bodyStart, a_declCount, a_paramCount, a_paramName, a_declKind, a_declTarget, a_tokenBody, a_branchTarget, a_liveBody, a_liveParent, a_returnTo, a_slotValue, a_slotHome, a_waitingOp, a_waitingLeft, a_leftKnown, a_argKind, a_argValue, a_argHome⟩ := u
    refine br_f (nI_ge (b := 32) (by omega) (by decide)) (de_top hL (by omega) (by omega) (fun c => ?_))
    by_cases hc : 0 ≤ c
    · refine br_t hc ?_
      obtain ⟨q, u', hu', hk⟩ := ht (c >>> ((8 : Int32) &&& 31)) (c &&& 255)
      have hn := ih (j + 1) f1 u' (by omega) (by omega) hu'
      obtain ⟨g_depthLimit, g_state, g_trapCode, g_begun, g_tokenTotal, g_printedTotal, g_stackSize, g_bodyCount, g_declaredTwice, g_liveDepth, g_position, b_tokenKind, b_tokenValue, b_printed, b_stack, b_bodyParent, b_bodyStart, b_declCount, b_paramCount, b_paramName, b_declKind, b_declTarget, b_tokenBody, b_branchTarget, b_liveBody, b_liveParent, b_returnTo, b_slotValue, b_slotHome, b_waitingOp, b_waitingLeft, b_leftKnown, b_argKind, b_argValue, b_argHome⟩ := u'
      exact hk _ (hk _ (nm_r (nI_1 j) hn))
    · exact br_f hc (nm_r (nI_add b 16) (nm_e hh))
def la_w171 (post : Int32 → Prop) (J : Int32 → Int32 → Int32 → Int32 → Int32 → Int32 → Int32 → Int32 → Int32 → Int32 → Int32 → Int32 → Int32 → (Nat → Int32) → (Nat → Int32) → (Nat → Int32) → (Nat → Int32) → (Nat → Int32) → (Nat → Int32) → (Nat → Int32) → (Nat → Int32) → (Nat → Int32) → (Nat → Int32) → (Nat → Int32) → (Nat → Int32) → (Nat → Int32) → (Nat → Int32) → (Nat → Int32) → (Nat → Int32) → (Nat → Int32) → (Nat → Int32) → (Nat → Int32) → (Nat → Int32) → (Nat → Int32) → (Nat → Int32) → (Nat → Int32) → (Nat → Int32) → Int32 → Int32 → Int32 → Int32 → Int32 → Int32 → Int32 → Int32 → Int32 → Int32 → Int32 → (Nat → Int32) → (Nat → Int32) → (Nat → Int32) → (Nat → Int32) → (Nat → Int32) → (Nat → Int32) → (Nat → Int32) → (Nat → Int32) → (Nat → Int32) → (Nat → Int32) → (Nat → Int32) → (Nat → Int32) → (Nat → Int32) → (Nat → Int32) → (Nat → Int32) → (Nat → Int32) → (Nat → Int32) → (Nat → Int32) → (Nat → Int32) → (Nat → Int32) → (Nat → Int32) → (Nat → Int32) → (Nat → Int32) → (Nat → Int32) → Prop) (L : Nat) (xs : Nat → Int32) (x5 x7 x8 : Int32) (kc ks n : Nat) (x4 x9 : Int32) (u : St2) : Prop := match u with
  | (f_depthLimit, f_state, f_trapCode, f_begun, f_tokenTotal, f_printedTotal, f_stackSize, f_bodyCount, f_declaredTwice, f_liveDepth, f_position, a_tokenKind, a_tokenValue, a_printed, a_stack, a_bodyParent, a_bodyStart, a_declCount, a_paramCount, a_paramName, a_declKind, a_declTarget, a_tokenBody, a_branchTarget, a_liveBody, a_liveParent, a_returnTo, a_slotValue, a_slotHome, a_waitingOp, a_waitingLeft, a_leftKnown, a_argKind, a_argValue, a_argHome) => wL_law_171 post L xs J x5 x7 x8 kc ks n x4 x9 f_depthLimit f_state f_trapCode f_begun f_tokenTotal f_printedTotal f_stackSize f_bodyCount f_declaredTwice f_liveDepth f_position a_tokenKind a_tokenValue a_printed a_stack a_bodyParent a_bodyStart a_declCount a_paramCount a_paramName a_declKind a_declTarget a_tokenBody a_branchTarget a_liveBody a_liveParent a_returnTo a_slotValue a_slotHome a_waitingOp a_waitingLeft a_leftKnown a_argKind a_argValue a_argHome f_depthLimit f_state f_trapCode f_begun f_tokenTotal f_printedTotal f_stackSize f_bodyCount f_declaredTwice f_liveDepth f_position a_tokenKind a_tokenValue a_printed a_stack a_bodyParent a_bodyStart a_declCount a_paramCount a_paramName a_declKind a_declTarget a_tokenBody a_branchTarget a_liveBody a_liveParent a_returnTo a_slotValue a_slotHome a_waitingOp a_waitingLeft a_leftKnown a_argKind a_argValue a_argHome
theorem la_171 {post : Int32 → Prop} {L : Nat} {xs : Nat → Int32} {kc ks lim : Nat} (hL : L ≤ 260) {J : Int32 → Int32 → Int32 → Int32 → Int32 → Int32 → Int32 → Int32 → Int32 → Int32 → Int32 → Int32 → Int32 → (Nat → Int32) → (Nat → Int32) → (Nat → Int32) → (Nat → Int32) → (Nat → Int32) → (Nat → Int32) → (Nat → Int32) → (Nat → Int32) → (Nat → Int32) → (Nat → Int32) → (Nat → Int32) → (Nat → Int32) → (Nat → Int32) → (Nat → Int32) → (Nat → Int32) → (Nat → Int32) → (Nat → Int32) → (Nat → Int32) → (Nat → Int32) → (Nat → Int32) → (Nat → Int32) → (Nat → Int32) → (Nat → Int32) → (Nat → Int32) → Int32 → Int32 → Int32 → Int32 → Int32 → Int32 → Int32 → Int32 → Int32 → Int32 → Int32 → (Nat → Int32) → (Nat → Int32) → (Nat → Int32) → (Nat → Int32) → (Nat → Int32) → (Nat → Int32) → (Nat → Int32) → (Nat → Int32) → (Nat → Int32) → (Nat → Int32) → (Nat → Int32) → (Nat → Int32) → (Nat → Int32) → (Nat → Int32) → (Nat → Int32) → (Nat → Int32) → (Nat → Int32) → (Nat → Int32) → (Nat → Int32) → (Nat → Int32) → (Nat → Int32) → (Nat → Int32) → (Nat → Int32) → (Nat → Int32) → Prop} {B m : Nat} (hB : B < 2 ^ 18) (hm : m ≤ 3) {x5 x7 : Int32} (hJ : ∀ b u, b ≤ B + 48 → pt_edt lim u → la_J J (nI b) (x5 + 1) u) :
    ∀ (r i fx b : Nat) (u : St2), r + i = m → r < fx → b ≤ B + 16 * i → pt_edt lim u → la_w171 post J L xs x5 x7 (nI m) kc ks fx (nI b) (nI i) u := by
  intro r
  induction r with
  | zero =>
    intro i fx b u hr hf hb hu
    obtain ⟨f1, rfl⟩ : ∃ f1, fx = f1 + 1 := ⟨fx - 1, by omega⟩
    have hh := hJ b u (by omega) hu
    obtain ⟨f_depthLimit, f_state, f_trapCode, f_begun, f_tokenTotal, f_printedTotal, f_stackSize, f_bodyCount, f_declaredTwice, f_liveDepth, f_position, a_tokenKind, a_tokenValue, a_printed, a_stack, a_bodyParent, a_bodyStart, a_declCount, a_paramCount, a_paramName, a_declKind, a_declTarget, a_tokenBody, a_branchTarget, a_liveBody, a_liveParent, a_returnTo, a_slotValue, a_slotHome, a_waitingOp, a_waitingLeft, a_leftKnown, a_argKind, a_argValue, a_argHome⟩ := u
    exact br_t (nI_le (by omega) (by omega)) (nm_e hh)
  | succ r ih =>
    intro i fx b u hr hf hb hu
    obtain ⟨f1, rfl⟩ : ∃ f1, fx = f1 + 1 := ⟨fx - 1, by omega⟩
    have hh := hJ b u (by omega) hu
    have hn : la_w194 post J (wL_law_171 post L xs J x5 x7 (nI m) kc ks f1) L xs (nI b) x5 x7 (nI m) (nI i) kc ks 33 (nI 0) u := la_194 hL (by omega) (fun u' hu' => by
      have h2 := ih (i + 1) f1 (b + 16) u' (by omega) (by omega) (by omega) hu'
      obtain ⟨f_depthLimit, f_state, f_trapCode, f_begun, f_tokenTotal, f_printedTotal, f_stackSize, f_bodyCount, f_declaredTwice, f_liveDepth, f_position, a_tokenKind, a_tokenValue, a_printed, a_stack, a_bodyParent, a_bodyStart, a_declCount, a_paramCount, a_paramName, a_declKind, a_declTarget, a_tokenBody, a_branchTarget, a_liveBody, a_liveParent, a_returnTo, a_slotValue, a_slotHome, a_waitingOp, a_waitingLeft, a_leftKnown, a_argKind, a_argValue, a_argHome⟩ := u'
      rw [nI_1]
      exact h2) 32 0 33 u (by omega) (by omega) hu
    obtain ⟨f_depthLimit, f_state, f_trapCode, f_begun, f_tokenTotal, f_printedTotal, f_stackSize, f_bodyCount, f_declaredTwice, f_liveDepth, f_position, a_tokenKind, a_tokenValue, a_printed, a_stack, a_bodyParent, a_bodyStart, a_declCount, a_paramCount, a_paramName, a_declKind, a_declTarget, a_tokenBody, a_branchTarget, a_liveBody, a_liveParent, a_returnTo, a_slotValue, a_slotHome, a_waitingOp, a_waitingLeft, a_leftKnown, a_argKind, a_argValue, a_argHome⟩ := u
    refine br_f (nI_ge (by omega) (by omega)) ?_
    by_cases hc : f_tokenTotal ≤ 225
    · exact br_t hc ⟨33, hn⟩
    · exact br_f hc (nm_e hh)
def la_w154 (post : Int32 → Prop) (J : Int32 → Int32 → Int32 → Int32 → Int32 → Int32 → Int32 → Int32 → Int32 → Int32 → Int32 → Int32 → Int32 → (Nat → Int32) → (Nat → Int32) → (Nat → Int32) → (Nat → Int32) → (Nat → Int32) → (Nat → Int32) → (Nat → Int32) → (Nat → Int32) → (Nat → Int32) → (Nat → Int32) → (Nat → Int32) → (Nat → Int32) → (Nat → Int32) → (Nat → Int32) → (Nat → Int32) → (Nat → Int32) → (Nat → Int32) → (Nat → Int32) → (Nat → Int32) → (Nat → Int32) → (Nat → Int32) → (Nat → Int32) → (Nat → Int32) → (Nat → Int32) → Int32 → Int32 → Int32 → Int32 → Int32 → Int32 → Int32 → Int32 → Int32 → Int32 → Int32 → (Nat → Int32) → (Nat → Int32) → (Nat → Int32) → (Nat → Int32) → (Nat → Int32) → (Nat → Int32) → (Nat → Int32) → (Nat → Int32) → (Nat → Int32) → (Nat → Int32) → (Nat → Int32) → (Nat → Int32) → (Nat → Int32) → (Nat → Int32) → (Nat → Int32) → (Nat → Int32) → (Nat → Int32) → (Nat → Int32) → (Nat → Int32) → (Nat → Int32) → (Nat → Int32) → (Nat → Int32) → (Nat → Int32) → (Nat → Int32) → Prop) (L : Nat) (xs : Nat → Int32) (x4 x5 x6 x7 : Int32) (kc ks : Nat) (u : St2) : Prop := match u with
  | (f_depthLimit, f_state, f_trapCode, f_begun, f_tokenTotal, f_printedTotal, f_stackSize, f_bodyCount, f_declaredTwice, f_liveDepth, f_position, a_tokenKind, a_tokenValue, a_printed, a_stack, a_bodyParent, a_bodyStart, a_declCount, a_paramCount, a_paramName, a_declKind, a_declTarget, a_tokenBody, a_branchTarget, a_liveBody, a_liveParent, a_returnTo, a_slotValue, a_slotHome, a_waitingOp, a_waitingLeft, a_leftKnown, a_argKind, a_argValue, a_argHome) => wL_law_154 post L xs J x4 x5 x6 x7 kc ks f_depthLimit f_state f_trapCode f_begun f_tokenTotal f_printedTotal f_stackSize f_bodyCount f_declaredTwice f_liveDepth f_position a_tokenKind a_tokenValue a_printed a_stack a_bodyParent a_bodyStart a_declCount a_paramCount a_paramName a_declKind a_declTarget a_tokenBody a_branchTarget a_liveBody a_liveParent a_returnTo a_slotValue a_slotHome a_waitingOp a_waitingLeft a_leftKnown a_argKind a_argValue a_argHome f_depthLimit f_state f_trapCode f_begun f_tokenTotal f_printedTotal f_stackSize f_bodyCount f_declaredTwice f_liveDepth f_position a_tokenKind a_tokenValue a_printed a_stack a_bodyParent a_bodyStart a_declCount a_paramCount a_paramName a_declKind a_declTarget a_tokenBody a_branchTarget a_liveBody a_liveParent a_returnTo a_slotValue a_slotHome a_waitingOp a_waitingLeft a_leftKnown a_argKind a_argValue a_argHome
theorem la_154 {post : Int32 → Prop} {L : Nat} {xs : Nat → Int32} {kc ks lim : Nat} (hL : L ≤ 260) {J : Int32 → Int32 → Int32 → Int32 → Int32 → Int32 → Int32 → Int32 → Int32 → Int32 → Int32 → Int32 → Int32 → (Nat → Int32) → (Nat → Int32) → (Nat → Int32) → (Nat → Int32) → (Nat → Int32) → (Nat → Int32) → (Nat → Int32) → (Nat → Int32) → (Nat → Int32) → (Nat → Int32) → (Nat → Int32) → (Nat → Int32) → (Nat → Int32) → (Nat → Int32) → (Nat → Int32) → (Nat → Int32) → (Nat → Int32) → (Nat → Int32) → (Nat → Int32) → (Nat → Int32) → (Nat → Int32) → (Nat → Int32) → (Nat → Int32) → (Nat → Int32) → Int32 → Int32 → Int32 → Int32 → Int32 → Int32 → Int32 → Int32 → Int32 → Int32 → Int32 → (Nat → Int32) → (Nat → Int32) → (Nat → Int32) → (Nat → Int32) → (Nat → Int32) → (Nat → Int32) → (Nat → Int32) → (Nat → Int32) → (Nat → Int32) → (Nat → Int32) → (Nat → Int32) → (Nat → Int32) → (Nat → Int32) → (Nat → Int32) → (Nat → Int32) → (Nat → Int32) → (Nat → Int32) → (Nat → Int32) → (Nat → Int32) → (Nat → Int32) → (Nat → Int32) → (Nat → Int32) → (Nat → Int32) → (Nat → Int32) → Prop} {b g : Nat} (hB : b < 2 ^ 18) (hg : g < 2 ^ 18) {x5 x7 : Int32} (hJ : ∀ b' u, b' ≤ b + 48 → pt_edt lim u → la_J J (nI b') (x5 + 1) u) {u : St2} (hu : pt_edt lim u) :
    la_w154 post J L xs (nI b) x5 (nI g) x7 kc ks u := by
  have hn := fun (m : Nat) (hm : m ≤ 3) => la_171 (post := post) (xs := xs) (kc := kc) (ks := ks) (x7 := x7) hL hB hm hJ m 0 (m + 1) b u (by omega) (by omega) (by omega) hu
  obtain ⟨f_depthLimit, f_state, f_trapCode, f_begun, f_tokenTotal, f_printedTotal, f_stackSize, f_bodyCount, f_declaredTwice, f_liveDepth, f_position, a_tokenKind, a_tokenValue, a_printed, a_stack, a_bodyParent, a_bodyStart, a_declCount, a_paramCount, a_paramName, a_declKind, a_declTarget, a_tokenBody, a_branchTarget, a_liveBody, a_liveParent, a_returnTo, a_slotValue, a_slotHome, a_waitingOp, a_waitingLeft, a_leftKnown, a_argKind, a_argValue, a_argHome⟩ := u
  show wL_law_154 _ _ _ _ _ _ _ _ _ _ f_depthLimit f_state f_trapCode f_begun f_tokenTotal f_printedTotal f_stackSize f_bodyCount f_declaredTwice f_liveDepth f_position a_tokenKind a_tokenValue a_printed a_stack a_bodyParent a_bodyStart a_declCount a_paramCount a_paramName a_declKind a_declTarget a_tokenBody a_branchTarget a_liveBody a_liveParent a_returnTo a_slotValue a_slotHome a_waitingOp a_waitingLeft a_leftKnown a_argKind a_argValue a_argHome f_depthLimit f_state f_trapCode f_begun f_tokenTotal f_printedTotal f_stackSize f_bodyCount f_declaredTwice f_liveDepth f_position a_tokenKind a_tokenValue a_printed a_stack a_bodyParent a_bodyStart a_declCount a_paramCount a_paramName a_declKind a_declTarget a_tokenBody a_branchTarget a_liveBody a_liveParent a_returnTo a_slotValue a_slotHome a_waitingOp a_waitingLeft a_leftKnown a_argKind a_argValue a_argHome
  unfold wL_law_154
  refine de_cell hL (1 + g) (nI_add 1 g) (by omega) (fun c => ?_)
  obtain ⟨m, hm, e⟩ := pk_andE c (m := 3) 2 (by decide)
  exact nm_r e ⟨_, hn m (by omega)⟩
end
section
variable {f_depthLimit f_state f_trapCode f_begun f_tokenTotal f_printedTotal f_stackSize f_bodyCount f_declaredTwice f_liveDepth f_position : Int32} {a_tokenKind a_tokenValue a_printed a_stack a_bodyParent a_bodyStart a_declCount a_paramCount a_paramName a_declKind a_declTarget a_tokenBody a_branchTarget a_liveBody a_liveParent a_returnTo a_slotValue a_slotHome a_waitingOp a_waitingLeft a_leftKnown a_argKind a_argValue a_argHome : Nat → Int32}
variable {g_depthLimit g_state g_trapCode g_begun g_tokenTotal g_printedTotal g_stackSize g_bodyCount g_declaredTwice g_liveDepth g_position : Int32} {b_tokenKind b_tokenValue b_printed b_stack b_bodyParent b_bodyStart b_declCount b_paramCount b_paramName b_declKind b_declTarget b_tokenBody b_branchTarget b_liveBody b_liveParent b_returnTo b_slotValue b_slotHome b_waitingOp b_waitingLeft b_leftKnown b_argKind b_argValue b_argHome : Nat → Int32}
theorem la_s2 (i : Nat) : nI i - 2 + 1 = nI (i + 1) - 2 := by
  rw [nI_succ]; grind
theorem la_t2 {i : Nat} (h : i < 2 ^ 20) : (nI i - 2).toInt = (i : Int) - 2 := pk_sub_toInt (b := 2) (by omega) (by decide)
theorem la_n2 {i : Nat} {c : Int32} {e : Nat} (hc : c.toInt = e) (h : i ≤ e + 2) (he : e < 1000) : ¬ c < nI i - 2 := by
  intro h2
  have h3 := Int32.lt_iff_toInt_lt.mp h2
  rw [la_t2 (by omega), hc] at h3
  omega
def la_w596 (post : Int32 → Prop) (L : Nat) (xs : Nat → Int32) (J : Int32 → Prop) (x7 : Int64) (x12 z0 : Int32) (kc ks : Nat) (u v : St2) : Prop := match u, v with
  | (f_depthLimit, f_state, f_trapCode, f_begun, f_tokenTotal, f_printedTotal, f_stackSize, f_bodyCount, f_declaredTwice, f_liveDepth, f_position, a_tokenKind, a_tokenValue, a_printed, a_stack, a_bodyParent, a_bodyStart, a_declCount, a_paramCount, a_paramName, a_declKind, a_declTarget, a_tokenBody, a_branchTarget, a_liveBody, a_liveParent, a_returnTo, a_slotValue, a_slotHome, a_waitingOp, a_waitingLeft, a_leftKnown, a_argKind, a_argValue, a_argHome), (g_depthLimit, g_state, g_trapCode, g_begun, g_tokenTotal, g_printedTotal, g_stackSize, g_bodyCount, g_declaredTwice, g_liveDepth, g_position, b_tokenKind, b_tokenValue, b_printed, b_stack, b_bodyParent, b_bodyStart, b_declCount, b_paramCount, b_paramName, b_declKind, b_declTarget, b_tokenBody, b_branchTarget, b_liveBody, b_liveParent, b_returnTo, b_slotValue, b_slotHome, b_waitingOp, b_waitingLeft, b_leftKnown, b_argKind, b_argValue, b_argHome) => wL_law_596 post L xs J x7 x12 z0 kc ks f_depthLimit f_state f_trapCode f_begun f_tokenTotal f_printedTotal f_stackSize f_bodyCount f_declaredTwice f_liveDepth f_position a_tokenKind a_tokenValue a_printed a_stack a_bodyParent a_bodyStart a_declCount a_paramCount a_paramName a_declKind a_declTarget a_tokenBody a_branchTarget a_liveBody a_liveParent a_returnTo a_slotValue a_slotHome a_waitingOp a_waitingLeft a_leftKnown a_argKind a_argValue a_argHome g_depthLimit g_state g_trapCode g_begun g_tokenTotal g_printedTotal g_stackSize g_bodyCount g_declaredTwice g_liveDepth g_position b_tokenKind b_tokenValue b_printed b_stack b_bodyParent b_bodyStart b_declCount b_paramCount b_paramName b_declKind b_declTarget b_tokenBody b_branchTarget b_liveBody b_liveParent b_returnTo b_slotValue b_slotHome b_waitingOp b_waitingLeft b_leftKnown b_argKind b_argValue b_argHome
theorem la_596 {post : Int32 → Prop} {L : Nat} {xs : Nat → Int32} {x7 : Int64} {kc ks : Nat} {R : Nat → St2 → Prop} (hR : la_R R) {f : Nat} (hf1 : 0 < f) {u v : St2} (hu : R f u) (hv : R f v) {J : Int32 → Prop} {x : Int32} (z : Int32) (hJ : J (x + 1)) :
    la_w596 post L xs J x7 x z kc ks u v := by
  obtain ⟨a, ha⟩ := hR.2.2.1 f hf1 z
  obtain ⟨b, hb⟩ := hR.2.2.2.1 f hf1 z
  have ha1 := ha u hu
  have ha2 := ha v hv
  have hb1 := hb u hu
  have hb2 := hb v hv
  clear ha hb
  obtain ⟨f_depthLimit, f_state, f_trapCode, f_begun, f_tokenTotal, f_printedTotal, f_stackSize, f_bodyCount, f_declaredTwice, f_liveDepth, f_position, a_tokenKind, a_tokenValue, a_printed, a_stack, a_bodyParent, a_bodyStart, a_declCount, a_paramCount, a_paramName, a_declKind, a_declTarget, a_tokenBody, a_branchTarget, a_liveBody, a_liveParent, a_returnTo, a_slotValue, a_slotHome, a_waitingOp, a_waitingLeft, a_leftKnown, a_argKind, a_argValue, a_argHome⟩ := u
  obtain ⟨g_depthLimit, g_state, g_trapCode, g_begun, g_tokenTotal, g_printedTotal, g_stackSize, g_bodyCount, g_declaredTwice, g_liveDepth, g_position, b_tokenKind, b_tokenValue, b_printed, b_stack, b_bodyParent, b_bodyStart, b_declCount, b_paramCount, b_paramName, b_declKind, b_declTarget, b_tokenBody, b_branchTarget, b_liveBody, b_liveParent, b_returnTo, b_slotValue, b_slotHome, b_waitingOp, b_waitingLeft, b_leftKnown, b_argKind, b_argValue, b_argHome⟩ := v
  show wL_law_596 post L xs J x7 x z kc ks f_depthLimit f_state f_trapCode f_begun f_tokenTotal f_printedTotal f_stackSize f_bodyCount f_declaredTwice f_liveDepth f_position a_tokenKind a_tokenValue a_printed a_stack a_bodyParent a_bodyStart a_declCount a_paramCount a_paramName a_declKind a_declTarget a_tokenBody a_branchTarget a_liveBody a_liveParent a_returnTo a_slotValue a_slotHome a_waitingOp a_waitingLeft a_leftKnown a_argKind a_argValue a_argHome g_depthLimit g_state g_trapCode g_begun g_tokenTotal g_printedTotal g_stackSize g_bodyCount g_declaredTwice g_liveDepth g_position b_tokenKind b_tokenValue b_printed b_stack b_bodyParent b_bodyStart b_declCount b_paramCount b_paramName b_declKind b_declTarget b_tokenBody b_branchTarget b_liveBody b_liveParent b_returnTo b_slotValue b_slotHome b_waitingOp b_waitingLeft b_leftKnown b_argKind b_argValue b_argHome
  unfold wL_law_596
  exact ha1 _ (ha2 _ (br_t rfl (hb1 _ (hb2 _ (br_t rfl (nm_e hJ))))))
def la_w563 (post : Int32 → Prop) (L : Nat) (xs : Nat → Int32) (x7 : Int64) (kc ks n : Nat) (x12 : Int32) (u v : St2) : Prop := match u, v with
  | (f_depthLimit, f_state, f_trapCode, f_begun, f_tokenTotal, f_printedTotal, f_stackSize, f_bodyCount, f_declaredTwice, f_liveDepth, f_position, a_tokenKind, a_tokenValue, a_printed, a_stack, a_bodyParent, a_bodyStart, a_declCount, a_paramCount, a_paramName, a_declKind, a_declTarget, a_tokenBody, a_branchTarget, a_liveBody, a_liveParent, a_returnTo, a_slotValue, a_slotHome, a_waitingOp, a_waitingLeft, a_leftKnown, a_argKind, a_argValue, a_argHome), (g_depthLimit, g_state, g_trapCode, g_begun, g_tokenTotal, g_printedTotal, g_stackSize, g_bodyCount, g_declaredTwice, g_liveDepth, g_position, b_tokenKind, b_tokenValue, b_printed, b_stack, b_bodyParent, b_bodyStart, b_declCount, b_paramCount, b_paramName, b_declKind, b_declTarget, b_tokenBody, b_branchTarget, b_liveBody, b_liveParent, b_returnTo, b_slotValue, b_slotHome, b_waitingOp, b_waitingLeft, b_leftKnown, b_argKind, b_argValue, b_argHome) => wL_law_563 post L xs x7 kc ks f_depthLimit f_state f_trapCode f_begun f_tokenTotal f_printedTotal f_stackSize f_bodyCount f_declaredTwice f_liveDepth f_position a_tokenKind a_tokenValue a_printed a_stack a_bodyParent a_bodyStart a_declCount a_paramCount a_paramName a_declKind a_declTarget a_tokenBody a_branchTarget a_liveBody a_liveParent a_returnTo a_slotValue a_slotHome a_waitingOp a_waitingLeft a_leftKnown a_argKind a_argValue a_argHome g_depthLimit g_state g_trapCode g_begun g_tokenTotal g_printedTotal g_stackSize g_bodyCount g_declaredTwice g_liveDepth g_position b_tokenKind b_tokenValue b_printed b_stack b_bodyParent b_bodyStart b_declCount b_paramCount b_paramName b_declKind b_declTarget b_tokenBody b_branchTarget b_liveBody b_liveParent b_returnTo b_slotValue b_slotHome b_waitingOp b_waitingLeft b_leftKnown b_argKind b_argValue b_argHome n x12
theorem la_563 {L : Nat} {xs : Nat → Int32} {kc ks : Nat} {R : Nat → St2 → Prop} (hR : la_R R) {f : Nat} (hf1 : 0 < f) (hf : f ≤ 2048) {u v : St2} (hu : R f u) (hv : R f v) :
    ∀ (r i fx : Nat) (x : Int32), x = nI i - 2 → r + i = 22 → r < fx → la_w563 (fun r => r = 1) L xs (lN f) kc ks fx x u v := by
  intro r
  induction r with
  | zero =>
    intro i fx x hx hr hfx
    obtain ⟨f1, rfl⟩ : ∃ f1, fx = f1 + 1 := ⟨fx - 1, by omega⟩
    have e : i = 22 := by omega
    subst e hx
    obtain ⟨e, e1, e2, e3⟩ := hR.2.2.2.2.2 f hf1 u hu
    have hl : (nI e).toInt64 = lN e := nI_l (by omega)
    have hle : (nI e).toInt64 ≤ lN f := by rw [hl]; exact (lN_le (by omega) (by omega)).mpr e1
    have heq : u.2.1 = 1 → (nI e).toInt64 = lN f := fun h => by rw [hl, e3 h]
    rw [← e2] at hle heq
    clear hl e2 e3 e1
    obtain ⟨f_depthLimit, f_state, f_trapCode, f_begun, f_tokenTotal, f_printedTotal, f_stackSize, f_bodyCount, f_declaredTwice, f_liveDepth, f_position, a_tokenKind, a_tokenValue, a_printed, a_stack, a_bodyParent, a_bodyStart, a_declCount, a_paramCount, a_paramName, a_declKind, a_declTarget, a_tokenBody, a_branchTarget, a_liveBody, a_liveParent, a_returnTo, a_slotValue, a_slotHome, a_waitingOp, a_waitingLeft, a_leftKnown, a_argKind, a_argValue, a_argHome⟩ := u
    obtain ⟨g_depthLimit, g_state, g_trapCode, g_begun, g_tokenTotal, g_printedTotal, g_stackSize, g_bodyCount, g_declaredTwice, g_liveDepth, g_position, b_tokenKind, b_tokenValue, b_printed, b_stack, b_bodyParent, b_bodyStart, b_declCount, b_paramCount, b_paramName, b_declKind, b_declTarget, b_tokenBody, b_branchTarget, b_liveBody, b_liveParent, b_returnTo, b_slotValue, b_slotHome, b_waitingOp, b_waitingLeft, b_leftKnown, b_argKind, b_argValue, b_argHome⟩ := v
    refine br_t (by decide) (br_t hle ?_)
    by_cases hs : f_state = 1
    · exact br_t hs (br_t (heq hs) rfl)
    · exact br_f hs rfl
  | succ r ih =>
    intro i fx x hx hr hfx
    obtain ⟨f1, rfl⟩ : ∃ f1, fx = f1 + 1 := ⟨fx - 1, by omega⟩
    have hn := ih (i + 1) f1 (x + 1) (by rw [hx]; exact la_s2 i) (by omega) (by omega)
    have c : ¬ 19 < x := by rw [hx]; exact la_n2 (e := 19) (by decide) (by omega) (by omega)
    have h596 : ∀ z, la_w596 (fun r => r = 1) L xs (fun y => la_w563 (fun r => r = 1) L xs (lN f) kc ks f1 y u v) (lN f) x z kc ks u v := fun z => la_596 hR hf1 hu hv z hn
    clear ih hn
    obtain ⟨f_depthLimit, f_state, f_trapCode, f_begun, f_tokenTotal, f_printedTotal, f_stackSize, f_bodyCount, f_declaredTwice, f_liveDepth, f_position, a_tokenKind, a_tokenValue, a_printed, a_stack, a_bodyParent, a_bodyStart, a_declCount, a_paramCount, a_paramName, a_declKind, a_declTarget, a_tokenBody, a_branchTarget, a_liveBody, a_liveParent, a_returnTo, a_slotValue, a_slotHome, a_waitingOp, a_waitingLeft, a_leftKnown, a_argKind, a_argValue, a_argHome⟩ := u
    obtain ⟨g_depthLimit, g_state, g_trapCode, g_begun, g_tokenTotal, g_printedTotal, g_stackSize, g_bodyCount, g_declaredTwice, g_liveDepth, g_position, b_tokenKind, b_tokenValue, b_printed, b_stack, b_bodyParent, b_bodyStart, b_declCount, b_paramCount, b_paramName, b_declKind, b_declTarget, b_tokenBody, b_branchTarget, b_liveBody, b_liveParent, b_returnTo, b_slotValue, b_slotHome, b_waitingOp, b_waitingLeft, b_leftKnown, b_argKind, b_argValue, b_argHome⟩ := v
    exact br_f c (de_and (fun _ => h596 _) (fun _ => de_and (fun _ => h596 _) (fun _ => h596 _)))
def la_w534 (post : Int32 → Prop) (L : Nat) (xs : Nat → Int32) (J : Int32 → Prop) (x7 : Int64) (x12 z0 : Int32) (kc ks : Nat) (u v : St2) : Prop := match u, v with
  | (f_depthLimit, f_state, f_trapCode, f_begun, f_tokenTotal, f_printedTotal, f_stackSize, f_bodyCount, f_declaredTwice, f_liveDepth, f_position, a_tokenKind, a_tokenValue, a_printed, a_stack, a_bodyParent, a_bodyStart, a_declCount, a_paramCount, a_paramName, a_declKind, a_declTarget, a_tokenBody, a_branchTarget, a_liveBody, a_liveParent, a_returnTo, a_slotValue, a_slotHome, a_waitingOp, a_waitingLeft, a_leftKnown, a_argKind, a_argValue, a_argHome), (g_depthLimit, g_state, g_trapCode, g_begun, g_tokenTotal, g_printedTotal, g_stackSize, g_bodyCount, g_declaredTwice, g_liveDepth, g_position, b_tokenKind, b_tokenValue, b_printed, b_stack, b_bodyParent, b_bodyStart, b_declCount, b_paramCount, b_paramName, b_declKind, b_declTarget, b_tokenBody, b_branchTarget, b_liveBody, b_liveParent, b_returnTo, b_slotValue, b_slotHome, b_waitingOp, b_waitingLeft, b_leftKnown, b_argKind, b_argValue, b_argHome) => wL_law_534 post L xs J x7 x12 z0 kc ks f_depthLimit f_state f_trapCode f_begun f_tokenTotal f_printedTotal f_stackSize f_bodyCount f_declaredTwice f_liveDepth f_position a_tokenKind a_tokenValue a_printed a_stack a_bodyParent a_bodyStart a_declCount a_paramCount a_paramName a_declKind a_declTarget a_tokenBody a_branchTarget a_liveBody a_liveParent a_returnTo a_slotValue a_slotHome a_waitingOp a_waitingLeft a_leftKnown a_argKind a_argValue a_argHome g_depthLimit g_state g_trapCode g_begun g_tokenTotal g_printedTotal g_stackSize g_bodyCount g_declaredTwice g_liveDepth g_position b_tokenKind b_tokenValue b_printed b_stack b_bodyParent b_bodyStart b_declCount b_paramCount b_paramName b_declKind b_declTarget b_tokenBody b_branchTarget b_liveBody b_liveParent b_returnTo b_slotValue b_slotHome b_waitingOp b_waitingLeft b_leftKnown b_argKind b_argValue b_argHome
theorem la_534 {post : Int32 → Prop} {L : Nat} {xs : Nat → Int32} {x7 : Int64} {kc ks : Nat} {R : Nat → St2 → Prop} (hR : la_R R) {f : Nat} (hf1 : 0 < f) {u v : St2} (hu : R f u) (hv : R f v) {J : Int32 → Prop} {x : Int32} (z : Int32) (hJ : J (x + 1)) :
    la_w534 post L xs J x7 x z kc ks u v := by
  obtain ⟨a, ha⟩ := hR.2.2.2.2.1 f hf1 z
  have ha1 := ha u hu
  have ha2 := ha v hv
  clear ha
  obtain ⟨f_depthLimit, f_state, f_trapCode, f_begun, f_tokenTotal, f_printedTotal, f_stackSize, f_bodyCount, f_declaredTwice, f_liveDepth, f_position, a_tokenKind, a_tokenValue, a_printed, a_stack, a_bodyParent, a_bodyStart, a_declCount, a_paramCount, a_paramName, a_declKind, a_declTarget, a_tokenBody, a_branchTarget, a_liveBody, a_liveParent, a_returnTo, a_slotValue, a_slotHome, a_waitingOp, a_waitingLeft, a_leftKnown, a_argKind, a_argValue, a_argHome⟩ := u
  obtain ⟨g_depthLimit, g_state, g_trapCode, g_begun, g_tokenTotal, g_printedTotal, g_stackSize, g_bodyCount, g_declaredTwice, g_liveDepth, g_position, b_tokenKind, b_tokenValue, b_printed, b_stack, b_bodyParent, b_bodyStart, b_declCount, b_paramCount, b_paramName, b_declKind, b_declTarget, b_tokenBody, b_branchTarget, b_liveBody, b_liveParent, b_returnTo, b_slotValue, b_slotHome, b_waitingOp, b_waitingLeft, b_leftKnown, b_argKind, b_argValue, b_argHome⟩ := v
  show wL_law_534 post L xs J x7 x z kc ks f_depthLimit f_state f_trapCode f_begun f_tokenTotal f_printedTotal f_stackSize f_bodyCount f_declaredTwice f_liveDepth f_position a_tokenKind a_tokenValue a_printed a_stack a_bodyParent a_bodyStart a_declCount a_paramCount a_paramName a_declKind a_declTarget a_tokenBody a_branchTarget a_liveBody a_liveParent a_returnTo a_slotValue a_slotHome a_waitingOp a_waitingLeft a_leftKnown a_argKind a_argValue a_argHome g_depthLimit g_state g_trapCode g_begun g_tokenTotal g_printedTotal g_stackSize g_bodyCount g_declaredTwice g_liveDepth g_position b_tokenKind b_tokenValue b_printed b_stack b_bodyParent b_bodyStart b_declCount b_paramCount b_paramName b_declKind b_declTarget b_tokenBody b_branchTarget b_liveBody b_liveParent b_returnTo b_slotValue b_slotHome b_waitingOp b_waitingLeft b_leftKnown b_argKind b_argValue b_argHome
  unfold wL_law_534
  exact ha1 _ (ha2 _ (br_t rfl (nm_e hJ)))
def la_w501 (post : Int32 → Prop) (L : Nat) (xs : Nat → Int32) (x7 : Int64) (kc ks n : Nat) (x12 : Int32) (u v : St2) : Prop := match u, v with
  | (f_depthLimit, f_state, f_trapCode, f_begun, f_tokenTotal, f_printedTotal, f_stackSize, f_bodyCount, f_declaredTwice, f_liveDepth, f_position, a_tokenKind, a_tokenValue, a_printed, a_stack, a_bodyParent, a_bodyStart, a_declCount, a_paramCount, a_paramName, a_declKind, a_declTarget, a_tokenBody, a_branchTarget, a_liveBody, a_liveParent, a_returnTo, a_slotValue, a_slotHome, a_waitingOp, a_waitingLeft, a_leftKnown, a_argKind, a_argValue, a_argHome), (g_depthLimit, g_state, g_trapCode, g_begun, g_tokenTotal, g_printedTotal, g_stackSize, g_bodyCount, g_declaredTwice, g_liveDepth, g_position, b_tokenKind, b_tokenValue, b_printed, b_stack, b_bodyParent, b_bodyStart, b_declCount, b_paramCount, b_paramName, b_declKind, b_declTarget, b_tokenBody, b_branchTarget, b_liveBody, b_liveParent, b_returnTo, b_slotValue, b_slotHome, b_waitingOp, b_waitingLeft, b_leftKnown, b_argKind, b_argValue, b_argHome) => wL_law_501 post L xs x7 kc ks f_depthLimit f_state f_trapCode f_begun f_tokenTotal f_printedTotal f_stackSize f_bodyCount f_declaredTwice f_liveDepth f_position a_tokenKind a_tokenValue a_printed a_stack a_bodyParent a_bodyStart a_declCount a_paramCount a_paramName a_declKind a_declTarget a_tokenBody a_branchTarget a_liveBody a_liveParent a_returnTo a_slotValue a_slotHome a_waitingOp a_waitingLeft a_leftKnown a_argKind a_argValue a_argHome g_depthLimit g_state g_trapCode g_begun g_tokenTotal g_printedTotal g_stackSize g_bodyCount g_declaredTwice g_liveDepth g_position b_tokenKind b_tokenValue b_printed b_stack b_bodyParent b_bodyStart b_declCount b_paramCount b_paramName b_declKind b_declTarget b_tokenBody b_branchTarget b_liveBody b_liveParent b_returnTo b_slotValue b_slotHome b_waitingOp b_waitingLeft b_leftKnown b_argKind b_argValue b_argHome n x12
theorem la_501 {L : Nat} {xs : Nat → Int32} {kc ks : Nat} {R : Nat → St2 → Prop} (hR : la_R R) {f : Nat} (hf1 : 0 < f) (hf : f ≤ 2048) {u v : St2} (hu : R f u) (hv : R f v) :
    ∀ (r i fx : Nat) (x : Int32), x = nI i - 2 → r + i = 39 → r < fx → la_w501 (fun r => r = 1) L xs (lN f) kc ks fx x u v := by
  intro r
  induction r with
  | zero =>
    intro i fx x hx hr hfx
    obtain ⟨f1, rfl⟩ : ∃ f1, fx = f1 + 1 := ⟨fx - 1, by omega⟩
    have e : i = 39 := by omega
    subst e hx
    have hh := la_563 (L := L) (xs := xs) (kc := kc) (ks := ks) hR hf1 hf hu hv 22 0 23 (-2) (by decide) (by omega) (by omega)
    obtain ⟨f_depthLimit, f_state, f_trapCode, f_begun, f_tokenTotal, f_printedTotal, f_stackSize, f_bodyCount, f_declaredTwice, f_liveDepth, f_position, a_tokenKind, a_tokenValue, a_printed, a_stack, a_bodyParent, a_bodyStart, a_declCount, a_paramCount, a_paramName, a_declKind, a_declTarget, a_tokenBody, a_branchTarget, a_liveBody, a_liveParent, a_returnTo, a_slotValue, a_slotHome, a_waitingOp, a_waitingLeft, a_leftKnown, a_argKind, a_argValue, a_argHome⟩ := u
    obtain ⟨g_depthLimit, g_state, g_trapCode, g_begun, g_tokenTotal, g_printedTotal, g_stackSize, g_bodyCount, g_declaredTwice, g_liveDepth, g_position, b_tokenKind, b_tokenValue, b_printed, b_stack, b_bodyParent, b_bodyStart, b_declCount, b_paramCount, b_paramName, b_declKind, b_declTarget, b_tokenBody, b_branchTarget, b_liveBody, b_liveParent, b_returnTo, b_slotValue, b_slotHome, b_waitingOp, b_waitingLeft, b_leftKnown, b_argKind, b_argValue, b_argHome⟩ := v
    exact br_t (by decide) ⟨23, hh⟩
  | succ r ih =>
    intro i fx x hx hr hfx
    obtain ⟨f1, rfl⟩ : ∃ f1, fx = f1 + 1 := ⟨fx - 1, by omega⟩
    have hn := ih (i + 1) f1 (x + 1) (by rw [hx]; exact la_s2 i) (by omega) (by omega)
    have c : ¬ 36 < x := by rw [hx]; exact la_n2 (e := 36) (by decide) (by omega) (by omega)
    have h534 : ∀ z, la_w534 (fun r => r = 1) L xs (fun y => la_w501 (fun r => r = 1) L xs (lN f) kc ks f1 y u v) (lN f) x z kc ks u v := fun z => la_534 hR hf1 hu hv z hn
    clear ih hn
    obtain ⟨f_depthLimit, f_state, f_trapCode, f_begun, f_tokenTotal, f_printedTotal, f_stackSize, f_bodyCount, f_declaredTwice, f_liveDepth, f_position, a_tokenKind, a_tokenValue, a_printed, a_stack, a_bodyParent, a_bodyStart, a_declCount, a_paramCount, a_paramName, a_declKind, a_declTarget, a_tokenBody, a_branchTarget, a_liveBody, a_liveParent, a_returnTo, a_slotValue, a_slotHome, a_waitingOp, a_waitingLeft, a_leftKnown, a_argKind, a_argValue, a_argHome⟩ := u
    obtain ⟨g_depthLimit, g_state, g_trapCode, g_begun, g_tokenTotal, g_printedTotal, g_stackSize, g_bodyCount, g_declaredTwice, g_liveDepth, g_position, b_tokenKind, b_tokenValue, b_printed, b_stack, b_bodyParent, b_bodyStart, b_declCount, b_paramCount, b_paramName, b_declKind, b_declTarget, b_tokenBody, b_branchTarget, b_liveBody, b_liveParent, b_returnTo, b_slotValue, b_slotHome, b_waitingOp, b_waitingLeft, b_leftKnown, b_argKind, b_argValue, b_argHome⟩ := v
    exact br_f c (de_and (fun _ => h534 _) (fun _ => de_and (fun _ => h534 _) (fun _ => h534 _)))
def la_w440 (post : Int32 → Prop) (L : Nat) (xs : Nat → Int32) (x7 : Int64) (kc ks : Nat) (u v : St2) : Prop := match u, v with
  | (f_depthLimit, f_state, f_trapCode, f_begun, f_tokenTotal, f_printedTotal, f_stackSize, f_bodyCount, f_declaredTwice, f_liveDepth, f_position, a_tokenKind, a_tokenValue, a_printed, a_stack, a_bodyParent, a_bodyStart, a_declCount, a_paramCount, a_paramName, a_declKind, a_declTarget, a_tokenBody, a_branchTarget, a_liveBody, a_liveParent, a_returnTo, a_slotValue, a_slotHome, a_waitingOp, a_waitingLeft, a_leftKnown, a_argKind, a_argValue, a_argHome), (g_depthLimit, g_state, g_trapCode, g_begun, g_tokenTotal, g_printedTotal, g_stackSize, g_bodyCount, g_declaredTwice, g_liveDepth, g_position, b_tokenKind, b_tokenValue, b_printed, b_stack, b_bodyParent, b_bodyStart, b_declCount, b_paramCount, b_paramName, b_declKind, b_declTarget, b_tokenBody, b_branchTarget, b_liveBody, b_liveParent, b_returnTo, b_slotValue, b_slotHome, b_waitingOp, b_waitingLeft, b_leftKnown, b_argKind, b_argValue, b_argHome) => wL_law_440 post L xs x7 kc ks f_depthLimit f_state f_trapCode f_begun f_tokenTotal f_printedTotal f_stackSize f_bodyCount f_declaredTwice f_liveDepth f_position a_tokenKind a_tokenValue a_printed a_stack a_bodyParent a_bodyStart a_declCount a_paramCount a_paramName a_declKind a_declTarget a_tokenBody a_branchTarget a_liveBody a_liveParent a_returnTo a_slotValue a_slotHome a_waitingOp a_waitingLeft a_leftKnown a_argKind a_argValue a_argHome g_depthLimit g_state g_trapCode g_begun g_tokenTotal g_printedTotal g_stackSize g_bodyCount g_declaredTwice g_liveDepth g_position b_tokenKind b_tokenValue b_printed b_stack b_bodyParent b_bodyStart b_declCount b_paramCount b_paramName b_declKind b_declTarget b_tokenBody b_branchTarget b_liveBody b_liveParent b_returnTo b_slotValue b_slotHome b_waitingOp b_waitingLeft b_leftKnown b_argKind b_argValue b_argHome
theorem la_440 {L : Nat} {xs : Nat → Int32} {kc ks : Nat} {R : Nat → St2 → Prop} (hR : la_R R) {f : Nat} (hf1 : 0 < f) (hf : f ≤ 2048) {u v : St2} (hu : R f u) (hv : R f v) : la_w440 (fun r => r = 1) L xs (lN f) kc ks u v := by
  obtain ⟨s1, s2, s3, s4, s5⟩ := hR.2.1 f hf1 u v hu hv
  have hh := la_501 (L := L) (xs := xs) (kc := kc) (ks := ks) hR hf1 hf hu hv 39 0 40 (-2) (by decide) (by omega) (by omega)
  obtain ⟨f_depthLimit, f_state, f_trapCode, f_begun, f_tokenTotal, f_printedTotal, f_stackSize, f_bodyCount, f_declaredTwice, f_liveDepth, f_position, a_tokenKind, a_tokenValue, a_printed, a_stack, a_bodyParent, a_bodyStart, a_declCount, a_paramCount, a_paramName, a_declKind, a_declTarget, a_tokenBody, a_branchTarget, a_liveBody, a_liveParent, a_returnTo, a_slotValue, a_slotHome, a_waitingOp, a_waitingLeft, a_leftKnown, a_argKind, a_argValue, a_argHome⟩ := u
  obtain ⟨g_depthLimit, g_state, g_trapCode, g_begun, g_tokenTotal, g_printedTotal, g_stackSize, g_bodyCount, g_declaredTwice, g_liveDepth, g_position, b_tokenKind, b_tokenValue, b_printed, b_stack, b_bodyParent, b_bodyStart, b_declCount, b_paramCount, b_paramName, b_declKind, b_declTarget, b_tokenBody, b_branchTarget, b_liveBody, b_liveParent, b_returnTo, b_slotValue, b_slotHome, b_waitingOp, b_waitingLeft, b_leftKnown, b_argKind, b_argValue, b_argHome⟩ := v
  exact br_t s1 (br_t s2 (br_t s3 (br_t s5 (br_t s4 ⟨40, hh⟩))))
end
section
variable {f_depthLimit f_state f_trapCode f_begun f_tokenTotal f_printedTotal f_stackSize f_bodyCount f_declaredTwice f_liveDepth f_position : Int32} {a_tokenKind a_tokenValue a_printed a_stack a_bodyParent a_bodyStart a_declCount a_paramCount a_paramName a_declKind a_declTarget a_tokenBody a_branchTarget a_liveBody a_liveParent a_returnTo a_slotValue a_slotHome a_waitingOp a_waitingLeft a_leftKnown a_argKind a_argValue a_argHome : Nat → Int32}
variable {g_depthLimit g_state g_trapCode g_begun g_tokenTotal g_printedTotal g_stackSize g_bodyCount g_declaredTwice g_liveDepth g_position : Int32} {b_tokenKind b_tokenValue b_printed b_stack b_bodyParent b_bodyStart b_declCount b_paramCount b_paramName b_declKind b_declTarget b_tokenBody b_branchTarget b_liveBody b_liveParent b_returnTo b_slotValue b_slotHome b_waitingOp b_waitingLeft b_leftKnown b_argKind b_argValue b_argHome : Nat → Int32}
theorem de_cl {v : Int32} {F : Nat} (hF : pt_fu v F) {post : Int64 → Prop} (h : post (lN F)) : wpL_cl post () v := by
  obtain ⟨h1, h2, hF⟩ := hF
  rcases hF with ⟨a, b, rfl⟩ | ⟨a, rfl⟩ | ⟨a, b, rfl⟩
  · refine br_t a (br_t b ?_)
    rw [nI_l (by omega)]; exact h
  · exact br_f a h
  · exact br_t a (br_f b h)
def la_w370 (post : Int32 → Prop) (L : Nat) (xs : Nat → Int32) (x7 : Int64) (kc ks n : Nat) (x9 : Int64) (x11 x12 : Int32) (u v : St2) : Prop := match u, v with
  | (f_depthLimit, f_state, f_trapCode, f_begun, f_tokenTotal, f_printedTotal, f_stackSize, f_bodyCount, f_declaredTwice, f_liveDepth, f_position, a_tokenKind, a_tokenValue, a_printed, a_stack, a_bodyParent, a_bodyStart, a_declCount, a_paramCount, a_paramName, a_declKind, a_declTarget, a_tokenBody, a_branchTarget, a_liveBody, a_liveParent, a_returnTo, a_slotValue, a_slotHome, a_waitingOp, a_waitingLeft, a_leftKnown, a_argKind, a_argValue, a_argHome), (g_depthLimit, g_state, g_trapCode, g_begun, g_tokenTotal, g_printedTotal, g_stackSize, g_bodyCount, g_declaredTwice, g_liveDepth, g_position, b_tokenKind, b_tokenValue, b_printed, b_stack, b_bodyParent, b_bodyStart, b_declCount, b_paramCount, b_paramName, b_declKind, b_declTarget, b_tokenBody, b_branchTarget, b_liveBody, b_liveParent, b_returnTo, b_slotValue, b_slotHome, b_waitingOp, b_waitingLeft, b_leftKnown, b_argKind, b_argValue, b_argHome) => wL_law_370 post L xs x7 kc ks n x9 x11 x12 f_depthLimit f_state f_trapCode f_begun f_tokenTotal f_printedTotal f_stackSize f_bodyCount f_declaredTwice f_liveDepth f_position a_tokenKind a_tokenValue a_printed a_stack a_bodyParent a_bodyStart a_declCount a_paramCount a_paramName a_declKind a_declTarget a_tokenBody a_branchTarget a_liveBody a_liveParent a_returnTo a_slotValue a_slotHome a_waitingOp a_waitingLeft a_leftKnown a_argKind a_argValue a_argHome g_depthLimit g_state g_trapCode g_begun g_tokenTotal g_printedTotal g_stackSize g_bodyCount g_declaredTwice g_liveDepth g_position b_tokenKind b_tokenValue b_printed b_stack b_bodyParent b_bodyStart b_declCount b_paramCount b_paramName b_declKind b_declTarget b_tokenBody b_branchTarget b_liveBody b_liveParent b_returnTo b_slotValue b_slotHome b_waitingOp b_waitingLeft b_leftKnown b_argKind b_argValue b_argHome
theorem la_370 {L : Nat} {xs : Nat → Int32} {kc ks : Nat} (hL : L ≤ 260) {R : Nat → St2 → Prop} (hR : la_R R) {f c0 : Nat} (hf1 : 1 ≤ f) (hf : f ≤ 2048) (hc0 : c0 < 2 ^ 20) {u : St2} (hu : R f u) :
    ∀ (D d k it fx : Nat) (v : St2), d ≤ D → d + k = f → d < fx → it ≤ k → R k v → la_w370 (fun r => r = 1) L xs (lN f) kc ks fx (lN d) (nI (c0 + it)) (nI it) u v := by
  intro D
  induction D with
  | zero =>
    intro d k it fx v hd hk hfx hit hv
    obtain ⟨f1, rfl⟩ : ∃ f1, fx = f1 + 1 := ⟨fx - 1, by omega⟩
    have e : d = 0 := by omega
    subst e
    have e : k = f := by omega
    subst e
    have hh := la_440 (L := L) (xs := xs) (kc := kc) (ks := ks) hR hf1 hf hu hv
    obtain ⟨f_depthLimit, f_state, f_trapCode, f_begun, f_tokenTotal, f_printedTotal, f_stackSize, f_bodyCount, f_declaredTwice, f_liveDepth, f_position, a_tokenKind, a_tokenValue, a_printed, a_stack, a_bodyParent, a_bodyStart, a_declCount, a_paramCount, a_paramName, a_declKind, a_declTarget, a_tokenBody, a_branchTarget, a_liveBody, a_liveParent, a_returnTo, a_slotValue, a_slotHome, a_waitingOp, a_waitingLeft, a_leftKnown, a_argKind, a_argValue, a_argHome⟩ := u
    obtain ⟨g_depthLimit, g_state, g_trapCode, g_begun, g_tokenTotal, g_printedTotal, g_stackSize, g_bodyCount, g_declaredTwice, g_liveDepth, g_position, b_tokenKind, b_tokenValue, b_printed, b_stack, b_bodyParent, b_bodyStart, b_declCount, b_paramCount, b_paramName, b_declKind, b_declTarget, b_tokenBody, b_branchTarget, b_liveBody, b_liveParent, b_returnTo, b_slotValue, b_slotHome, b_waitingOp, b_waitingLeft, b_leftKnown, b_argKind, b_argValue, b_argHome⟩ := v
    exact br_f (nI_ge (b := 4096) (by omega) (by decide)) (br_t (by decide) hh)
  | succ D ih =>
    intro d k it fx v hd hk hfx hit hv
    by_cases hd0 : d = 0
    · subst hd0
      exact ih 0 k it fx v (by omega) hk hfx hit hv
    · obtain ⟨f1, rfl⟩ : ∃ f1, fx = f1 + 1 := ⟨fx - 1, by omega⟩
      have hrun := hR.1 k v
      have hnx : ∀ (F : Nat) (v' : St2), 1 ≤ F → F ≤ d → R (k + F) v' → la_w370 (fun r => r = 1) L xs (lN f) kc ks f1 (lN (d - F)) (nI (c0 + it + 1)) (nI (it + 1)) u v' := fun F v' h1 h2 h3 => ih (d - F) (k + F) (it + 1) f1 v' (by omega) (by omega) (by omega) (by omega) h3
      obtain ⟨f_depthLimit, f_state, f_trapCode, f_begun, f_tokenTotal, f_printedTotal, f_stackSize, f_bodyCount, f_declaredTwice, f_liveDepth, f_position, a_tokenKind, a_tokenValue, a_printed, a_stack, a_bodyParent, a_bodyStart, a_declCount, a_paramCount, a_paramName, a_declKind, a_declTarget, a_tokenBody, a_branchTarget, a_liveBody, a_liveParent, a_returnTo, a_slotValue, a_slotHome, a_waitingOp, a_waitingLeft, a_leftKnown, a_argKind, a_argValue, a_argHome⟩ := u
      obtain ⟨g_depthLimit, g_state, g_trapCode, g_begun, g_tokenTotal, g_printedTotal, g_stackSize, g_bodyCount, g_declaredTwice, g_liveDepth, g_position, b_tokenKind, b_tokenValue, b_printed, b_stack, b_bodyParent, b_bodyStart, b_declCount, b_paramCount, b_paramName, b_declKind, b_declTarget, b_tokenBody, b_branchTarget, b_liveBody, b_liveParent, b_returnTo, b_slotValue, b_slotHome, b_waitingOp, b_waitingLeft, b_leftKnown, b_argKind, b_argValue, b_argHome⟩ := v
      refine br_f (nI_ge (b := 4096) (by omega) (by decide)) (br_f (fun h => absurd ((lN_le (a := d) (b := 0) (by omega) (by decide)).mp h) (by omega)) (nm_r (nI_1 _) (de_cell hL (c0 + it) rfl (by omega) (fun g => ?_))))
      obtain ⟨F, hF⟩ := pt_fu_ex g
      refine de_cl hF ?_
      have hF1 := hF.1
      have hF2 := hF.2.1
      by_cases hc : F ≤ d
      · refine br_t ((lN_le (by omega) (by omega)).mpr hc) (hrun g F _ hv hF (fun v' hv' => ?_))
        have h3 := hnx F v' hF1 hc hv'
        obtain ⟨g_depthLimit, g_state, g_trapCode, g_begun, g_tokenTotal, g_printedTotal, g_stackSize, g_bodyCount, g_declaredTwice, g_liveDepth, g_position, b_tokenKind, b_tokenValue, b_printed, b_stack, b_bodyParent, b_bodyStart, b_declCount, b_paramCount, b_paramName, b_declKind, b_declTarget, b_tokenBody, b_branchTarget, b_liveBody, b_liveParent, b_returnTo, b_slotValue, b_slotHome, b_waitingOp, b_waitingLeft, b_leftKnown, b_argKind, b_argValue, b_argHome⟩ := v'
        exact nm_r (lN_sub hc) (nm_r (nI_1 it) h3)
      · refine br_f (fun h => hc ((lN_le (by omega) (by omega)).mp h)) ?_
        rw [lN_i]
        refine hrun (nI d) d _ hv (la_fu (by omega) (by omega)) (fun v' hv' => ?_)
        have h3 := hnx d v' (by omega) (Nat.le_refl _) hv'
        obtain ⟨g_depthLimit, g_state, g_trapCode, g_begun, g_tokenTotal, g_printedTotal, g_stackSize, g_bodyCount, g_declaredTwice, g_liveDepth, g_position, b_tokenKind, b_tokenValue, b_printed, b_stack, b_bodyParent, b_bodyStart, b_declCount, b_paramCount, b_paramName, b_declKind, b_declTarget, b_tokenBody, b_branchTarget, b_liveBody, b_liveParent, b_returnTo, b_slotValue, b_slotHome, b_waitingOp, b_waitingLeft, b_leftKnown, b_argKind, b_argValue, b_argHome⟩ := v'
        exact nm_r (lN_sub (Nat.le_refl _)) (nm_r (nI_1 it) h3)
def la_w313 (post : Int32 → Prop) (L : Nat) (xs : Nat → Int32) (x5 x6 : Int32) (kc ks n : Nat) (x7 : Int64) (x9 : Int32) (u v : St2) : Prop := match u, v with
  | (f_depthLimit, f_state, f_trapCode, f_begun, f_tokenTotal, f_printedTotal, f_stackSize, f_bodyCount, f_declaredTwice, f_liveDepth, f_position, a_tokenKind, a_tokenValue, a_printed, a_stack, a_bodyParent, a_bodyStart, a_declCount, a_paramCount, a_paramName, a_declKind, a_declTarget, a_tokenBody, a_branchTarget, a_liveBody, a_liveParent, a_returnTo, a_slotValue, a_slotHome, a_waitingOp, a_waitingLeft, a_leftKnown, a_argKind, a_argValue, a_argHome), (g_depthLimit, g_state, g_trapCode, g_begun, g_tokenTotal, g_printedTotal, g_stackSize, g_bodyCount, g_declaredTwice, g_liveDepth, g_position, b_tokenKind, b_tokenValue, b_printed, b_stack, b_bodyParent, b_bodyStart, b_declCount, b_paramCount, b_paramName, b_declKind, b_declTarget, b_tokenBody, b_branchTarget, b_liveBody, b_liveParent, b_returnTo, b_slotValue, b_slotHome, b_waitingOp, b_waitingLeft, b_leftKnown, b_argKind, b_argValue, b_argHome) => wL_law_313 post L xs x5 x6 kc ks n x7 x9 f_depthLimit f_state f_trapCode f_begun f_tokenTotal f_printedTotal f_stackSize f_bodyCount f_declaredTwice f_liveDepth f_position a_tokenKind a_tokenValue a_printed a_stack a_bodyParent a_bodyStart a_declCount a_paramCount a_paramName a_declKind a_declTarget a_tokenBody a_branchTarget a_liveBody a_liveParent a_returnTo a_slotValue a_slotHome a_waitingOp a_waitingLeft a_leftKnown a_argKind a_argValue a_argHome g_depthLimit g_state g_trapCode g_begun g_tokenTotal g_printedTotal g_stackSize g_bodyCount g_declaredTwice g_liveDepth g_position b_tokenKind b_tokenValue b_printed b_stack b_bodyParent b_bodyStart b_declCount b_paramCount b_paramName b_declKind b_declTarget b_tokenBody b_branchTarget b_liveBody b_liveParent b_returnTo b_slotValue b_slotHome b_waitingOp b_waitingLeft b_leftKnown b_argKind b_argValue b_argHome
theorem la_313 {L : Nat} {xs : Nat → Int32} {kc ks : Nat} (hL : L ≤ 260) {R : Nat → St2 → Prop} (hR : la_R R) {b m : Nat} (hb : b < 2 ^ 18) (hm1 : 1 ≤ m) (hm : m ≤ 8) {v : St2} (hv : R 0 v) :
    ∀ (r i k fx : Nat) (u : St2), r + i = m → r < fx → i ≤ k → k ≤ 256 * i → R k u → la_w313 (fun r => r = 1) L xs (nI b) (nI m) kc ks fx (lN k) (nI i) u v := by
  intro r
  induction r with
  | zero =>
    intro i k fx u hr hfx hik hki hu
    obtain ⟨f1, rfl⟩ : ∃ f1, fx = f1 + 1 := ⟨fx - 1, by omega⟩
    have hh := la_370 (xs := xs) (kc := kc) (ks := ks) hL hR (f := k) (c0 := b + 9) (by omega) (by omega) (by omega) hu k k 0 0 (k + 1) v (by omega) (by omega) (by omega) (by omega) hv
    obtain ⟨f_depthLimit, f_state, f_trapCode, f_begun, f_tokenTotal, f_printedTotal, f_stackSize, f_bodyCount, f_declaredTwice, f_liveDepth, f_position, a_tokenKind, a_tokenValue, a_printed, a_stack, a_bodyParent, a_bodyStart, a_declCount, a_paramCount, a_paramName, a_declKind, a_declTarget, a_tokenBody, a_branchTarget, a_liveBody, a_liveParent, a_returnTo, a_slotValue, a_slotHome, a_waitingOp, a_waitingLeft, a_leftKnown, a_argKind, a_argValue, a_argHome⟩ := u
    obtain ⟨g_depthLimit, g_state, g_trapCode, g_begun, g_tokenTotal, g_printedTotal, g_stackSize, g_bodyCount, g_declaredTwice, g_liveDepth, g_position, b_tokenKind, b_tokenValue, b_printed, b_stack, b_bodyParent, b_bodyStart, b_declCount, b_paramCount, b_paramName, b_declKind, b_declTarget, b_tokenBody, b_branchTarget, b_liveBody, b_liveParent, b_returnTo, b_slotValue, b_slotHome, b_waitingOp, b_waitingLeft, b_leftKnown, b_argKind, b_argValue, b_argHome⟩ := v
    exact br_t (nI_le (by omega) (by omega)) (nm_r (nI_add b 9) ⟨k + 1, hh⟩)
  | succ r ih =>
    intro i k fx u hr hfx hik hki hu
    obtain ⟨f1, rfl⟩ : ∃ f1, fx = f1 + 1 := ⟨fx - 1, by omega⟩
    have hrun := hR.1 k u
    have hnx := fun (F : Nat) (u' : St2) (h1 : 1 ≤ F) (h2 : F ≤ 256) (h3 : R (k + F) u') => ih (i + 1) (k + F) f1 u' (by omega) (by omega) (by omega) (by omega) h3
    obtain ⟨f_depthLimit, f_state, f_trapCode, f_begun, f_tokenTotal, f_printedTotal, f_stackSize, f_bodyCount, f_declaredTwice, f_liveDepth, f_position, a_tokenKind, a_tokenValue, a_printed, a_stack, a_bodyParent, a_bodyStart, a_declCount, a_paramCount, a_paramName, a_declKind, a_declTarget, a_tokenBody, a_branchTarget, a_liveBody, a_liveParent, a_returnTo, a_slotValue, a_slotHome, a_waitingOp, a_waitingLeft, a_leftKnown, a_argKind, a_argValue, a_argHome⟩ := u
    obtain ⟨g_depthLimit, g_state, g_trapCode, g_begun, g_tokenTotal, g_printedTotal, g_stackSize, g_bodyCount, g_declaredTwice, g_liveDepth, g_position, b_tokenKind, b_tokenValue, b_printed, b_stack, b_bodyParent, b_bodyStart, b_declCount, b_paramCount, b_paramName, b_declKind, b_declTarget, b_tokenBody, b_branchTarget, b_liveBody, b_liveParent, b_returnTo, b_slotValue, b_slotHome, b_waitingOp, b_waitingLeft, b_leftKnown, b_argKind, b_argValue, b_argHome⟩ := v
    refine br_f (nI_ge (by omega) (by omega)) (de_cell hL (b + 1 + i) ((congrArg (· + nI i) (nI_add b 1)).trans (nI_add (b + 1) i)) (by omega) (fun g => ?_))
    obtain ⟨F, hF⟩ := pt_fu_ex g
    have hF1 := hF.1
    have hF2 := hF.2.1
    refine hrun g F _ hu hF (fun u' hu' => ?_)
    have h3 := hnx F u' hF1 hF2 hu'
    obtain ⟨f_depthLimit, f_state, f_trapCode, f_begun, f_tokenTotal, f_printedTotal, f_stackSize, f_bodyCount, f_declaredTwice, f_liveDepth, f_position, a_tokenKind, a_tokenValue, a_printed, a_stack, a_bodyParent, a_bodyStart, a_declCount, a_paramCount, a_paramName, a_declKind, a_declTarget, a_tokenBody, a_branchTarget, a_liveBody, a_liveParent, a_returnTo, a_slotValue, a_slotHome, a_waitingOp, a_waitingLeft, a_leftKnown, a_argKind, a_argValue, a_argHome⟩ := u'
    exact de_cl hF (nm_r (lN_add k F) (nm_r (nI_1 i) h3))
end
section
variable {f_depthLimit f_state f_trapCode f_begun f_tokenTotal f_printedTotal f_stackSize f_bodyCount f_declaredTwice f_liveDepth f_position : Int32} {a_tokenKind a_tokenValue a_printed a_stack a_bodyParent a_bodyStart a_declCount a_paramCount a_paramName a_declKind a_declTarget a_tokenBody a_branchTarget a_liveBody a_liveParent a_returnTo a_slotValue a_slotHome a_waitingOp a_waitingLeft a_leftKnown a_argKind a_argValue a_argHome : Nat → Int32}
variable {g_depthLimit g_state g_trapCode g_begun g_tokenTotal g_printedTotal g_stackSize g_bodyCount g_declaredTwice g_liveDepth g_position : Int32} {b_tokenKind b_tokenValue b_printed b_stack b_bodyParent b_bodyStart b_declCount b_paramCount b_paramName b_declKind b_declTarget b_tokenBody b_branchTarget b_liveBody b_liveParent b_returnTo b_slotValue b_slotHome b_waitingOp b_waitingLeft b_leftKnown b_argKind b_argValue b_argHome : Nat → Int32}
def la_w34 (post : Int32 → Prop) (L : Nat) (xs : Nat → Int32) (kc ks n : Nat) (x4 x5 : Int32) (u : St2) : Prop := match u with
  | (f_depthLimit, f_state, f_trapCode, f_begun, f_tokenTotal, f_printedTotal, f_stackSize, f_bodyCount, f_declaredTwice, f_liveDepth, f_position, a_tokenKind, a_tokenValue, a_printed, a_stack, a_bodyParent, a_bodyStart, a_declCount, a_paramCount, a_paramName, a_declKind, a_declTarget, a_tokenBody, a_branchTarget, a_liveBody, a_liveParent, a_returnTo, a_slotValue, a_slotHome, a_waitingOp, a_waitingLeft, a_leftKnown, a_argKind, a_argValue, a_argHome) => wL_law_34 post L xs kc ks n x4 x5 f_depthLimit f_state f_trapCode f_begun f_tokenTotal f_printedTotal f_stackSize f_bodyCount f_declaredTwice f_liveDepth f_position a_tokenKind a_tokenValue a_printed a_stack a_bodyParent a_bodyStart a_declCount a_paramCount a_paramName a_declKind a_declTarget a_tokenBody a_branchTarget a_liveBody a_liveParent a_returnTo a_slotValue a_slotHome a_waitingOp a_waitingLeft a_leftKnown a_argKind a_argValue a_argHome f_depthLimit f_state f_trapCode f_begun f_tokenTotal f_printedTotal f_stackSize f_bodyCount f_declaredTwice f_liveDepth f_position a_tokenKind a_tokenValue a_printed a_stack a_bodyParent a_bodyStart a_declCount a_paramCount a_paramName a_declKind a_declTarget a_tokenBody a_branchTarget a_liveBody a_liveParent a_returnTo a_slotValue a_slotHome a_waitingOp a_waitingLeft a_leftKnown a_argKind a_argValue a_argHome
theorem la_34 {L : Nat} {xs : Nat → Int32} {kc ks lim : Nat} (hL : L ≤ 260) (hl : lim ≤ 16) :
    ∀ (r sg fx b : Nat) (u : St2), r + sg = 13 → r < fx → b ≤ 8 + 48 * sg → pt_edt lim u → la_w34 (fun r => r = 1) L xs kc ks fx (nI b) (nI sg) u := by
  intro r
  induction r with
  | zero =>
    intro sg fx b u hr hf hb hu
    obtain ⟨f1, rfl⟩ : ∃ f1, fx = f1 + 1 := ⟨fx - 1, by omega⟩
    obtain ⟨R, hR, hc⟩ := la_ride hu hl
    obtain ⟨f_depthLimit, f_state, f_trapCode, f_begun, f_tokenTotal, f_printedTotal, f_stackSize, f_bodyCount, f_declaredTwice, f_liveDepth, f_position, a_tokenKind, a_tokenValue, a_printed, a_stack, a_bodyParent, a_bodyStart, a_declCount, a_paramCount, a_paramName, a_declKind, a_declTarget, a_tokenBody, a_branchTarget, a_liveBody, a_liveParent, a_returnTo, a_slotValue, a_slotHome, a_waitingOp, a_waitingLeft, a_leftKnown, a_argKind, a_argValue, a_argHome⟩ := u
    refine br_t (nI_le (a := 13) (by omega) (by omega)) (hc _ (fun r u' hr => ?_) (fun ua hua => ?_))
    · obtain ⟨g_depthLimit, g_state, g_trapCode, g_begun, g_tokenTotal, g_printedTotal, g_stackSize, g_bodyCount, g_declaredTwice, g_liveDepth, g_position, b_tokenKind, b_tokenValue, b_printed, b_stack, b_bodyParent, b_bodyStart, b_declCount, b_paramCount, b_paramName, b_declKind, b_declTarget, b_tokenBody, b_branchTarget, b_liveBody, b_liveParent, b_returnTo, b_slotValue, b_slotHome, b_waitingOp, b_waitingLeft, b_leftKnown, b_argKind, b_argValue, b_argHome⟩ := u'
      exact br_f hr rfl
    · have hx : ∀ ub, R 0 ub → ∀ m, 1 ≤ m → m ≤ 8 → la_w313 (fun r => r = 1) L xs (nI b) (nI m) kc ks (m + 1) (lN 0) (nI 0) ua ub := fun ub hub m h1 h2 => la_313 hL hR (by omega) h1 h2 hub m 0 0 (m + 1) ua (by omega) (by omega) (by omega) (by omega) hua
      obtain ⟨g_depthLimit, g_state, g_trapCode, g_begun, g_tokenTotal, g_printedTotal, g_stackSize, g_bodyCount, g_declaredTwice, g_liveDepth, g_position, b_tokenKind, b_tokenValue, b_printed, b_stack, b_bodyParent, b_bodyStart, b_declCount, b_paramCount, b_paramName, b_declKind, b_declTarget, b_tokenBody, b_branchTarget, b_liveBody, b_liveParent, b_returnTo, b_slotValue, b_slotHome, b_waitingOp, b_waitingLeft, b_leftKnown, b_argKind, b_argValue, b_argHome⟩ := ua
      refine br_t rfl (hc _ (fun r u' hr => ?_) (fun ub hub => ?_))
      · obtain ⟨f_depthLimit, f_state, f_trapCode, f_begun, f_tokenTotal, f_printedTotal, f_stackSize, f_bodyCount, f_declaredTwice, f_liveDepth, f_position, a_tokenKind, a_tokenValue, a_printed, a_stack, a_bodyParent, a_bodyStart, a_declCount, a_paramCount, a_paramName, a_declKind, a_declTarget, a_tokenBody, a_branchTarget, a_liveBody, a_liveParent, a_returnTo, a_slotValue, a_slotHome, a_waitingOp, a_waitingLeft, a_leftKnown, a_argKind, a_argValue, a_argHome⟩ := u'
        exact br_f hr rfl
      · have hx := hx ub hub
        obtain ⟨f_depthLimit, f_state, f_trapCode, f_begun, f_tokenTotal, f_printedTotal, f_stackSize, f_bodyCount, f_declaredTwice, f_liveDepth, f_position, a_tokenKind, a_tokenValue, a_printed, a_stack, a_bodyParent, a_bodyStart, a_declCount, a_paramCount, a_paramName, a_declKind, a_declTarget, a_tokenBody, a_branchTarget, a_liveBody, a_liveParent, a_returnTo, a_slotValue, a_slotHome, a_waitingOp, a_waitingLeft, a_leftKnown, a_argKind, a_argValue, a_argHome⟩ := ub
        refine br_t rfl (de_cell hL b rfl (by omega) (fun c => ?_))
        obtain ⟨m, hm, e⟩ := pk_andE c (m := 7) 3 (by decide)
        exact nm_r (show 1 + (c &&& 7) = nI (1 + m) by rw [e]; exact nI_add 1 m) ⟨_, hx (1 + m) (by omega) (by omega)⟩
  | succ r ih =>
    intro sg fx b u hr hf hb hu
    obtain ⟨f1, rfl⟩ : ∃ f1, fx = f1 + 1 := ⟨fx - 1, by omega⟩
    have hJ : ∀ b' u', b' ≤ b + 48 → pt_edt lim u' → la_J (wL_law_34 (fun r => r = 1) L xs kc ks f1) (nI b') (nI sg + 1) u' := by
      intro b' u' hb' hu'
      have h2 := ih (sg + 1) f1 b' u' (by omega) (by omega) (by omega) hu'
      rw [nI_1]
      obtain ⟨f_depthLimit, f_state, f_trapCode, f_begun, f_tokenTotal, f_printedTotal, f_stackSize, f_bodyCount, f_declaredTwice, f_liveDepth, f_position, a_tokenKind, a_tokenValue, a_printed, a_stack, a_bodyParent, a_bodyStart, a_declCount, a_paramCount, a_paramName, a_declKind, a_declTarget, a_tokenBody, a_branchTarget, a_liveBody, a_liveParent, a_returnTo, a_slotValue, a_slotHome, a_waitingOp, a_waitingLeft, a_leftKnown, a_argKind, a_argValue, a_argHome⟩ := u'
      exact h2
    have h51 := la_51 (post := fun r => r = 1) (L := L) (xs := xs) (kc := kc) (ks := ks) (x4 := nI b) (x5 := nI sg) (fun u' hu' => hJ b u' (by omega) hu') 16 0 17 u (by omega) (by omega) hu
    have h154 := fun x7 => la_154 (post := fun r => r = 1) (xs := xs) (kc := kc) (ks := ks) (x7 := x7) (g := sg / 2 ^ 1) hL (by omega) (by omega) hJ hu
    obtain ⟨f_depthLimit, f_state, f_trapCode, f_begun, f_tokenTotal, f_printedTotal, f_stackSize, f_bodyCount, f_declaredTwice, f_liveDepth, f_position, a_tokenKind, a_tokenValue, a_printed, a_stack, a_bodyParent, a_bodyStart, a_declCount, a_paramCount, a_paramName, a_declKind, a_declTarget, a_tokenBody, a_branchTarget, a_liveBody, a_liveParent, a_returnTo, a_slotValue, a_slotHome, a_waitingOp, a_waitingLeft, a_leftKnown, a_argKind, a_argValue, a_argHome⟩ := u
    refine br_f (nI_ge (b := 13) (by omega) (by decide)) ?_
    by_cases hc : (nI sg &&& 1) = 0
    · exact br_t hc ⟨17, h51⟩
    · refine br_f hc (nm_r (pk_shrN (n := sg) (by omega) _ 1 (by decide)) ?_)
      exact de_and (fun _ => h154 _) (fun _ => de_and (fun _ => de_and (fun _ => h154 _) (fun _ => h154 _)) (fun _ => h154 _))
end
section
def la_u0 (lim : Nat) : St2 := (nI lim, 0, 0, 0, 0, 0, 0, 0, 0, 0, 0, fun _ => 0, fun _ => 0, fun _ => 0, fun _ => 0, fun _ => 0, fun _ => 0, fun _ => 0, fun _ => 0, fun _ => 0, fun _ => 0, fun _ => 0, fun _ => 0, fun _ => 0, fun _ => 0, fun _ => 0, fun _ => 0, fun _ => 0, fun _ => 0, fun _ => 0, fun _ => 0, fun _ => 0, fun _ => 0, fun _ => 0, fun _ => 0)
theorem la_u0e (lim : Nat) : pt_edt lim (la_u0 lim) := ⟨fun _ => 0, fun _ => 0, 0, rfl, rfl, rfl, ⟨by omega, fun i hi => by omega, fun i hi => by omega⟩⟩
theorem la_clamp (x : Int32) : ∃ lim, 1 ≤ lim ∧ lim ≤ 16 ∧ ∀ q : Int32 → Prop, q (nI lim) → wpX_clamp q () x 1 16 := by
  by_cases h1 : 1 ≤ x
  · by_cases h2 : x ≤ 16
    · obtain ⟨lim, hl, rfl⟩ := nI_of2 (x := x) (M := 16) (n := 16) (by decide) (Int32.not_lt.mpr (Int32.le_trans (by decide) h1)) h2
      have hl1 : 1 ≤ lim := by
        by_cases e : lim = 0
        · subst e; exact absurd h1 (by decide)
        · omega
      exact ⟨lim, hl1, hl, fun q hq => br_t h1 (br_t h2 hq)⟩
    · exact ⟨16, by omega, by omega, fun q hq => br_t h1 (br_f h2 hq)⟩
  · exact ⟨1, by omega, by omega, fun q hq => br_f h1 hq⟩
theorem la_init (x : Int32) : ∃ lim, 1 ≤ lim ∧ lim ≤ 16 ∧ ∀ post : St2 → Prop, post (la_u0 lim) → wpX_init post 24 3584 (0, 0, 0, 0, 0, 0, 0, 0, 0, 0, 0) x := by
  obtain ⟨lim, l1, l2, hc⟩ := la_clamp x
  refine ⟨lim, l1, l2, fun post hp => ?_⟩
  unfold wpX_init
  exact ⟨by decide, by decide, by decide, by decide, by decide, by decide, by decide, by decide, by decide, by decide, by decide, by decide, by decide, by decide, by decide, by decide, by decide, by decide, by decide, by decide, by decide, by decide, by decide, by decide, by decide, by decide, by decide, by decide, by decide, by decide, by decide, by decide, by decide, by decide, by decide, by decide, by decide, by decide, by decide, by decide, by decide, by decide, by decide, by decide, by decide, by decide, by decide, by decide, hc _ hp⟩
theorem i_vc (xs : Nat → Int32) (L : Nat) (hL : L ≤ 260) : wpL_law (fun r => r = 1) L xs := by
  unfold wpL_law
  refine de_cell hL 0 rfl (by decide) (fun r => ⟨by decide, ?_⟩)
  intro x1 _
  obtain ⟨lim, l1, l2, hi⟩ := la_init x1
  refine ⟨24, 3584, by decide, by decide, hi _ ?_⟩
  refine ⟨by decide, by decide, 24, 3584, by decide, by decide, hi _ ?_⟩
  exact ⟨14, la_34 hL l2 13 0 14 8 (la_u0 lim) (by omega) (by omega) (by omega) (la_u0e lim)⟩
end
