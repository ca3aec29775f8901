/-- the type that a frame has for a token of kind k: declarations end at the first other token -/
def gr_n (k t : Nat) : Nat := if t = 1 ∧ k ≠ 3 ∧ k ≠ 4 then 2 else t
abbrev gr_S (t : Nat) : Prop := t = 2 ∨ t = 4 ∨ t = 5
/-- one token of the pushdown: frames (type, position): 0 program, 1 decls, 2 tops, 3 params, 4 then, 5 else, 6 args; the second: expressions still wanted -/
def gr_st (k i : Nat) (c : List (Nat × Nat) × Nat) : Option (List (Nat × Nat) × Nat) :=
  match c with
  | (L, e + 1) => if k = 18 ∨ k = 19 then some (L, e) else if 20 ≤ k ∧ k ≤ 26 then some (L, e + 2) else none
  | ([], 0) => none
  | ((t, p) :: L, 0) =>
    if k = 1 then (if t = 0 ∨ t = 3 then some ((1, i) :: L, 0) else none)
    else if k = 2 then (if gr_n k t = 2 then some (L, 0) else none)
    else if k = 3 then (if t = 1 then some ((gr_n k t, p) :: L, 0) else none)
    else if k = 4 then (if t = 1 then some ((3, i) :: (gr_n k t, p) :: L, 0) else none)
    else if k = 5 ∨ k = 6 then (if t = 3 then some ((gr_n k t, p) :: L, 0) else none)
    else if k = 7 ∨ k = 8 then (if gr_S (gr_n k t) then some ((gr_n k t, p) :: L, 1) else none)
    else if k = 9 then (if gr_S (gr_n k t) then some ((gr_n k t, p) :: L, 0) else none)
    else if k = 10 then (if gr_n k t = 2 then some ((gr_n k t, p) :: L, 0) else none)
    else if k = 11 then (if gr_S (gr_n k t) then some ((6, i) :: (gr_n k t, p) :: L, 0) else none)
    else if k = 12 then (if t = 6 then some ((gr_n k t, p) :: L, 1) else none)
    else if k = 13 then (if t = 6 then some ((gr_n k t, p) :: L, 0) else none)
    else if k = 14 then (if t = 6 then some (L, 0) else none)
    else if k = 15 then (if gr_S (gr_n k t) then some ((4, i) :: (gr_n k t, p) :: L, 1) else none)
    else if k = 16 then (if t = 4 then some ((5, i) :: L, 0) else none)
    else if k = 17 then (if t = 4 ∨ t = 5 then some (L, 0) else none)
    else none
def gr_c1 (k e e' : Nat) : Prop := ((k = 18 ∨ k = 19) ∧ e' = e) ∨ (20 ≤ k ∧ k ≤ 26 ∧ e' = e + 2)
def gr_c2 (k t e' : Nat) : Prop := (k = 3 ∧ t = 1 ∧ e' = 0) ∨ ((k = 5 ∨ k = 6) ∧ t = 3 ∧ e' = 0) ∨ ((k = 7 ∨ k = 8) ∧ gr_S (gr_n k t) ∧ e' = 1) ∨ (k = 9 ∧ gr_S (gr_n k t) ∧ e' = 0) ∨ (k = 10 ∧ gr_n k t = 2 ∧ e' = 0) ∨ (k = 12 ∧ t = 6 ∧ e' = 1) ∨ (k = 13 ∧ t = 6 ∧ e' = 0)
def gr_c3 (k t u e' : Nat) : Prop := (k = 4 ∧ t = 1 ∧ u = 3 ∧ e' = 0) ∨ (k = 11 ∧ gr_S (gr_n k t) ∧ u = 6 ∧ e' = 0) ∨ (k = 15 ∧ gr_S (gr_n k t) ∧ u = 4 ∧ e' = 1)
def gr_c4 (k t u : Nat) : Prop := (k = 1 ∧ (t = 0 ∨ t = 3) ∧ u = 1) ∨ (k = 16 ∧ t = 4 ∧ u = 5)
def gr_c5 (k t : Nat) : Prop := (k = 2 ∧ gr_n k t = 2) ∨ (k = 14 ∧ t = 6) ∨ (k = 17 ∧ (t = 4 ∨ t = 5))
theorem gr_cases {k i : Nat} {c c' : List (Nat × Nat) × Nat} (h : gr_st k i c = some c') :
    (∃ L e e', c = (L, e + 1) ∧ c' = (L, e') ∧ gr_c1 k e e') ∨
    (∃ t p L e', c = ((t, p) :: L, 0) ∧ c' = ((gr_n k t, p) :: L, e') ∧ gr_c2 k t e') ∨
    (∃ t p L u e', c = ((t, p) :: L, 0) ∧ c' = ((u, i) :: (gr_n k t, p) :: L, e') ∧ gr_c3 k t u e') ∨
    (∃ t p L u, c = ((t, p) :: L, 0) ∧ c' = ((u, i) :: L, 0) ∧ gr_c4 k t u) ∨
    (∃ t p L, c = ((t, p) :: L, 0) ∧ c' = (L, 0) ∧ gr_c5 k t) := by
  obtain ⟨L, e⟩ := c
  cases e with
  | succ e =>
    left
    simp only [gr_st] at h
    by_cases h1 : k = 18 ∨ k = 19
    · rw [if_pos h1] at h; cases h; exact ⟨L, e, e, rfl, rfl, Or.inl ⟨h1, rfl⟩⟩
    · rw [if_neg h1] at h
      by_cases h2 : 20 ≤ k ∧ k ≤ 26
      · rw [if_pos h2] at h; cases h; exact ⟨L, e, e + 2, rfl, rfl, Or.inr ⟨h2.1, h2.2, rfl⟩⟩
      · rw [if_neg h2] at h; cases h
  | zero =>
    right
    cases L with
    | nil => simp [gr_st] at h
    | cons f L =>
      obtain ⟨t, p⟩ := f
      simp only [gr_st] at h
      by_cases k1 : k = 1
      · rw [if_pos k1] at h; split at h
        · rename_i ht; cases h; exact .inr (.inr (.inl ⟨t, p, L, 1, rfl, rfl, .inl ⟨k1, ht, rfl⟩⟩))
        · cases h
      rw [if_neg k1] at h
      by_cases k2 : k = 2
      · rw [if_pos k2] at h; split at h
        · rename_i ht; cases h; exact .inr (.inr (.inr ⟨t, p, L, rfl, rfl, .inl ⟨k2, ht⟩⟩))
        · cases h
      rw [if_neg k2] at h
      by_cases k3 : k = 3
      · rw [if_pos k3] at h; split at h
        · rename_i ht; cases h; exact .inl ⟨t, p, L, 0, rfl, rfl, .inl ⟨k3, ht, rfl⟩⟩
        · cases h
      rw [if_neg k3] at h
      by_cases k4 : k = 4
      · rw [if_pos k4] at h; split at h
        · rename_i ht; cases h; exact .inr (.inl ⟨t, p, L, 3, 0, rfl, rfl, .inl ⟨k4, ht, rfl, rfl⟩⟩)
        · cases h
      rw [if_neg k4] at h
      by_cases k5 : k = 5 ∨ k = 6
      · rw [if_pos k5] at h; split at h
        · rename_i ht; cases h; exact .inl ⟨t, p, L, 0, rfl, rfl, .inr (.inl ⟨k5, ht, rfl⟩)⟩
        · cases h
      rw [if_neg k5] at h
      by_cases k7 : k = 7 ∨ k = 8
      · rw [if_pos k7] at h; split at h
        · rename_i ht; cases h; exact .inl ⟨t, p, L, 1, rfl, rfl, .inr (.inr (.inl ⟨k7, ht, rfl⟩))⟩
        · cases h
      rw [if_neg k7] at h
      by_cases k9 : k = 9
      · rw [if_pos k9] at h; split at h
        · rename_i ht; cases h; exact .inl ⟨t, p, L, 0, rfl, rfl, .inr (.inr (.inr (.inl ⟨k9, ht, rfl⟩)))⟩
        · cases h
      rw [if_neg k9] at h
      by_cases k10 : k = 10
      · rw [if_pos k10] at h; split at h
        · rename_i ht; cases h; exact .inl ⟨t, p, L, 0, rfl, rfl, .inr (.inr (.inr (.inr (.inl ⟨k10, ht, rfl⟩))))⟩
        · cases h
      rw [if_neg k10] at h
      by_cases k11 : k = 11
      · rw [if_pos k11] at h; split at h
        · rename_i ht; cases h; exact .inr (.inl ⟨t, p, L, 6, 0, rfl, rfl, .inr (.inl ⟨k11, ht, rfl, rfl⟩)⟩)
        · cases h
      rw [if_neg k11] at h
      by_cases k12 : k = 12
      · rw [if_pos k12] at h; split at h
        · rename_i ht; cases h; exact .inl ⟨t, p, L, 1, rfl, rfl, .inr (.inr (.inr (.inr (.inr (.inl ⟨k12, ht, rfl⟩)))))⟩
        · cases h
      rw [if_neg k12] at h
      by_cases k13 : k = 13
      · rw [if_pos k13] at h; split at h
        · rename_i ht; cases h; exact .inl ⟨t, p, L, 0, rfl, rfl, .inr (.inr (.inr (.inr (.inr (.inr ⟨k13, ht, rfl⟩)))))⟩
        · cases h
      rw [if_neg k13] at h
      by_cases k14 : k = 14
      · rw [if_pos k14] at h; split at h
        · rename_i ht; cases h; exact .inr (.inr (.inr ⟨t, p, L, rfl, rfl, .inr (.inl ⟨k14, ht⟩)⟩))
        · cases h
      rw [if_neg k14] at h
      by_cases k15 : k = 15
      · rw [if_pos k15] at h; split at h
        · rename_i ht; cases h; exact .inr (.inl ⟨t, p, L, 4, 1, rfl, rfl, .inr (.inr ⟨k15, ht, rfl, rfl⟩)⟩)
        · cases h
      rw [if_neg k15] at h
      by_cases k16 : k = 16
      · rw [if_pos k16] at h; split at h
        · rename_i ht; cases h; exact .inr (.inr (.inl ⟨t, p, L, 5, rfl, rfl, .inr ⟨k16, ht, rfl⟩⟩))
        · cases h
      rw [if_neg k16] at h
      by_cases k17 : k = 17
      · rw [if_pos k17] at h; split at h
        · rename_i ht; cases h; exact .inr (.inr (.inr ⟨t, p, L, rfl, rfl, .inr (.inr ⟨k17, ht⟩)⟩))
        · cases h
      rw [if_neg k17] at h
      cases h
theorem gr_n_or (k t : Nat) : gr_n k t = t ∨ (t = 1 ∧ k ≠ 3 ∧ k ≠ 4 ∧ gr_n k t = 2) := by
  unfold gr_n
  by_cases h : t = 1 ∧ k ≠ 3 ∧ k ≠ 4
  · rw [if_pos h]; exact .inr ⟨h.1, h.2.1, h.2.2, rfl⟩
  · rw [if_neg h]; exact .inl rfl
/-- the configuration ahead of token i -/
def gr_cf (K : Nat → Nat) : Nat → Option (List (Nat × Nat) × Nat)
  | 0 => some ([(0, 0)], 0)
  | i + 1 => (gr_cf K i).bind (gr_st (K i) i)
theorem gr_prev {K : Nat → Nat} {i : Nat} {c' : List (Nat × Nat) × Nat} (h : gr_cf K (i + 1) = some c') : ∃ c, gr_cf K i = some c ∧ gr_st (K i) i c = some c' := by
  simp only [gr_cf] at h
  cases hc : gr_cf K i with
  | none => rw [hc] at h; cases h
  | some c => rw [hc] at h; exact ⟨c, rfl, h⟩
theorem gr_next {K : Nat → Nat} {i : Nat} {c : List (Nat × Nat) × Nat} (h : gr_cf K i = some c) : gr_cf K (i + 1) = gr_st (K i) i c := by
  simp only [gr_cf, h]; rfl
theorem gr_ex {K : Nat → Nat} {n : Nat} {c : List (Nat × Nat) × Nat} (hn : gr_cf K n = some c) : ∀ (d i : Nat), i + d = n → ∃ c, gr_cf K i = some c := by
  intro d
  induction d with
  | zero => intro i hi; cases hi; exact ⟨c, hn⟩
  | succ d ih =>
    intro i hi
    obtain ⟨c1, h1⟩ := ih (i + 1) (by omega)
    obtain ⟨c0, h0, _⟩ := gr_prev h1
    exact ⟨c0, h0⟩
theorem gr_exle {K : Nat → Nat} {n i : Nat} {c : List (Nat × Nat) × Nat} (hn : gr_cf K n = some c) (h : i ≤ n) : ∃ L e, gr_cf K i = some (L, e) := by
  obtain ⟨⟨L, e⟩, h⟩ := gr_ex hn (n - i) i (by omega)
  exact ⟨L, e, h⟩
theorem gr_step {K : Nat → Nat} {n i : Nat} {c c0 : List (Nat × Nat) × Nat} (hn : gr_cf K n = some c) (h : i < n) (h0 : gr_cf K i = some c0) : ∃ c1, gr_cf K (i + 1) = some c1 ∧ gr_st (K i) i c0 = some c1 := by
  obtain ⟨L, e, h1⟩ := gr_exle hn (show i + 1 ≤ n from h)
  exact ⟨_, h1, by rw [← gr_next h0]; exact h1⟩
theorem gr_one {K : Nat → Nat} {c : List (Nat × Nat) × Nat} (h : gr_cf K 1 = some c) : K 0 = 1 ∧ c = ([(1, 0)], 0) := by
  obtain ⟨c0, h0, hs⟩ := gr_prev h
  simp only [gr_cf, Option.some.injEq] at h0
  subst h0
  rcases gr_cases hs with ⟨L, e, e', h1, _⟩ | ⟨t, p, L, e', h1, h2, h3⟩ | ⟨t, p, L, u, e', h1, h2, h3⟩ | ⟨t, p, L, u, h1, h2, h3⟩ | ⟨t, p, L, h1, h2, h3⟩
  · cases h1
  · cases h1; simp [gr_c2, gr_n, gr_S] at h3
  · cases h1; simp [gr_c3, gr_n, gr_S] at h3
  · cases h1; simp [gr_c4] at h3; exact ⟨h3.1, by rw [h2, h3.2]⟩
  · cases h1; simp [gr_c5, gr_n] at h3
/-- induction over the configurations from token 1 on, by the five kinds of step -/
theorem gr_ind {K : Nat → Nat} (P : Nat → List (Nat × Nat) → Nat → Prop) (h1 : K 0 = 1 → P 1 [(1, 0)] 0)
    (g1 : ∀ i L e e', 1 ≤ i → gr_cf K i = some (L, e + 1) → P i L (e + 1) → gr_c1 (K i) e e' → P (i + 1) L e')
    (g2 : ∀ i t p L e', 1 ≤ i → gr_cf K i = some ((t, p) :: L, 0) → P i ((t, p) :: L) 0 → gr_c2 (K i) t e' → P (i + 1) ((gr_n (K i) t, p) :: L) e')
    (g3 : ∀ i t p L u e', 1 ≤ i → gr_cf K i = some ((t, p) :: L, 0) → P i ((t, p) :: L) 0 → gr_c3 (K i) t u e' → P (i + 1) ((u, i) :: (gr_n (K i) t, p) :: L) e')
    (g4 : ∀ i t p L u, 1 ≤ i → gr_cf K i = some ((t, p) :: L, 0) → P i ((t, p) :: L) 0 → gr_c4 (K i) t u → P (i + 1) ((u, i) :: L) 0)
    (g5 : ∀ i t p L, 1 ≤ i → gr_cf K i = some ((t, p) :: L, 0) → P i ((t, p) :: L) 0 → gr_c5 (K i) t → P (i + 1) L 0) :
    ∀ i L e, 1 ≤ i → gr_cf K i = some (L, e) → P i L e := by
  intro i
  induction i with
  | zero => intro L e h _; omega
  | succ i ih =>
    intro L e _ h
    by_cases hi : i = 0
    · subst hi
      obtain ⟨hk, hc⟩ := gr_one h
      cases hc; exact h1 hk
    · have hi1 : 1 ≤ i := by omega
      obtain ⟨c, hc, hs⟩ := gr_prev h
      rcases gr_cases hs with ⟨L, e, e', r1, r2, h3⟩ | ⟨t, p, L, e', r1, r2, h3⟩ | ⟨t, p, L, u, e', r1, r2, h3⟩ | ⟨t, p, L, u, r1, r2, h3⟩ | ⟨t, p, L, r1, r2, h3⟩
      · subst r1; cases r2; exact g1 i _ _ _ hi1 hc (ih _ _ hi1 hc) h3
      · subst r1; cases r2; exact g2 i _ _ _ _ hi1 hc (ih _ _ hi1 hc) h3
      · subst r1; cases r2; exact g3 i _ _ _ _ _ hi1 hc (ih _ _ hi1 hc) h3
      · subst r1; cases r2; exact g4 i _ _ _ _ hi1 hc (ih _ _ hi1 hc) h3
      · subst r1; cases r2; exact g5 i _ _ _ hi1 hc (ih _ _ hi1 hc) h3
/-- positions fall strictly from the top, all below the first -/
def gr_so : Nat → List (Nat × Nat) → Prop
  | _, [] => True
  | i, f :: L => f.2 < i ∧ gr_so f.2 L
/-- what lies below what -/
def gr_sh : List (Nat × Nat) → Prop
  | [] => True
  | [f] => (f.1 = 1 ∨ f.1 = 2) ∧ f.2 = 0
  | f :: g :: L => ((f.1 = 1 ∨ f.1 = 2 ∨ f.1 = 3) ∧ g.1 = 1 ∨ (f.1 = 4 ∨ f.1 = 5 ∨ f.1 = 6) ∧ gr_S g.1) ∧ gr_sh (g :: L)
/-- the token at a frame's position -/
def gr_kd (K : Nat → Nat) : List (Nat × Nat) → Prop
  | [] => True
  | f :: L => ((f.1 = 1 ∨ f.1 = 2) ∧ K f.2 = 1 ∨ f.1 = 3 ∧ K f.2 = 4 ∨ f.1 = 4 ∧ K f.2 = 15 ∨ f.1 = 5 ∧ K f.2 = 16 ∨ f.1 = 6 ∧ K f.2 = 11) ∧ gr_kd K L
theorem gr_so_m {i j : Nat} {L : List (Nat × Nat)} (h : gr_so i L) (hij : i ≤ j) : gr_so j L := by
  cases L with
  | nil => trivial
  | cons f L => exact ⟨Nat.lt_of_lt_of_le h.1 hij, h.2⟩
theorem gr_so_lt {L : List (Nat × Nat)} : ∀ {i : Nat}, gr_so i L → ∀ f, f ∈ L → f.2 < i := by
  induction L with
  | nil => intro i _ f hf; cases hf
  | cons g L ih =>
    intro i h f hf
    rcases List.mem_cons.mp hf with rfl | hf
    · exact h.1
    · exact Nat.lt_trans (ih h.2 f hf) h.1
theorem gr_sorted {K : Nat → Nat} : ∀ i L e, 1 ≤ i → gr_cf K i = some (L, e) → gr_so i L := by
  refine gr_ind (fun i L e => gr_so i L) ?_ ?_ ?_ ?_ ?_ ?_
  · intro _; exact ⟨by decide, trivial⟩
  · intro i L e e' _ _ h _; exact gr_so_m h (by omega)
  · intro i t p L e' _ _ h _; exact ⟨Nat.lt_succ_of_lt h.1, h.2⟩
  · intro i t p L u e' _ _ h _; exact ⟨Nat.lt_succ_self i, h.1, h.2⟩
  · intro i t p L u _ _ h _; exact ⟨Nat.lt_succ_self i, gr_so_m h.2 (Nat.le_of_lt h.1)⟩
  · intro i t p L _ _ h _; exact gr_so_m h.2 (Nat.le_of_lt (Nat.lt_succ_of_lt h.1))
theorem gr_sh_t {t t' p : Nat} {L : List (Nat × Nat)} (h : gr_sh ((t, p) :: L)) (ht : t' = t ∨ t = 1 ∧ t' = 2) : gr_sh ((t', p) :: L) := by
  cases L with
  | nil => refine ⟨?_, h.2⟩; have := h.1; simp only at this ⊢; omega
  | cons g L =>
    refine ⟨?_, h.2⟩
    have := h.1
    simp only at this ⊢
    rcases ht with rfl | ⟨rfl, rfl⟩
    · exact this
    · rcases this with h | h
      · exact .inl ⟨.inr (.inl rfl), h.2⟩
      · omega
theorem gr_n_t {k t : Nat} : gr_n k t = t ∨ t = 1 ∧ gr_n k t = 2 := by
  rcases gr_n_or k t with h | ⟨a, _, _, b⟩
  · exact .inl h
  · exact .inr ⟨a, b⟩
theorem gr_sh_u {f : Nat × Nat} {L : List (Nat × Nat)} (h : gr_sh (f :: L)) : gr_sh L := by
  cases L with
  | nil => trivial
  | cons g L => exact h.2
theorem gr_shape {K : Nat → Nat} : ∀ i L e, 1 ≤ i → gr_cf K i = some (L, e) → gr_sh L := by
  refine gr_ind (fun i L e => gr_sh L) ?_ ?_ ?_ ?_ ?_ ?_
  · intro _; exact ⟨.inl rfl, rfl⟩
  · intro i L e e' _ _ h _; exact h
  · intro i t p L e' _ _ h _; exact gr_sh_t h gr_n_t
  · intro i t p L u e' _ _ h hc
    refine ⟨?_, gr_sh_t h gr_n_t⟩
    rcases hc with ⟨hk, ht, hu, _⟩ | ⟨_, hs, hu, _⟩ | ⟨_, hs, hu, _⟩
    · exact .inl ⟨.inr (.inr hu), by simp [gr_n, hk, ht]⟩
    · exact .inr ⟨.inr (.inr hu), hs⟩
    · exact .inr ⟨.inl hu, hs⟩
  · intro i t p L u _ _ h hc
    cases L with
    | nil =>
      have h1 := h.1
      simp only at h1
      rcases hc with ⟨_, ht, _⟩ | ⟨_, ht, _⟩ <;> omega
    | cons g L =>
      refine ⟨?_, h.2⟩
      have h1 := h.1
      simp only at h1
      rcases hc with ⟨_, ht, hu⟩ | ⟨_, ht, hu⟩
      · refine .inl ⟨.inl hu, ?_⟩
        rcases h1 with h1 | h1
        · exact h1.2
        · omega
      · refine .inr ⟨.inr (.inl hu), ?_⟩
        rcases h1 with h1 | h1
        · omega
        · exact h1.2
  · intro i t p L _ _ h _; exact gr_sh_u h
theorem gr_kinds {K : Nat → Nat} : ∀ i L e, 1 ≤ i → gr_cf K i = some (L, e) → gr_kd K L := by
  refine gr_ind (fun i L e => gr_kd K L) ?_ ?_ ?_ ?_ ?_ ?_
  · intro h; exact ⟨.inl ⟨.inl rfl, h⟩, trivial⟩
  · intro i L e e' _ _ h _; exact h
  · intro i t p L e' _ _ h _
    refine ⟨?_, h.2⟩
    have h1 := h.1
    have h2 := @gr_n_t (K i) t
    simp only at h1 ⊢
    omega
  · intro i t p L u e' _ _ h hc
    refine ⟨?_, ?_, h.2⟩
    · simp only
      rcases hc with ⟨hk, ht, hu, _⟩ | ⟨_, hs, hu, _⟩ | ⟨_, hs, hu, _⟩ <;> omega
    · have h1 := h.1
      have h2 := @gr_n_t (K i) t
      simp only at h1 ⊢
      omega
  · intro i t p L u _ _ h hc
    refine ⟨?_, h.2⟩
    simp only
    rcases hc with ⟨hk, _, hu⟩ | ⟨hk, _, hu⟩ <;> omega
  · intro i t p L _ _ h _; exact h.2
theorem gr_size {K : Nat → Nat} : ∀ i L e, 1 ≤ i → gr_cf K i = some (L, e) → L.length ≤ i ∧ L.length + e ≤ 2 * i := by
  refine gr_ind (fun i L e => L.length ≤ i ∧ L.length + e ≤ 2 * i) ?_ ?_ ?_ ?_ ?_ ?_
  · intro _; simp
  · intro i L e e' _ _ h hc; rcases hc with hc | hc <;> omega
  · intro i t p L e' _ _ h hc
    simp only [List.length_cons] at h ⊢
    rcases hc with hc | hc | hc | hc | hc | hc | hc <;> omega
  · intro i t p L u e' _ _ h hc
    simp only [List.length_cons] at h ⊢
    rcases hc with hc | hc | hc <;> omega
  · intro i t p L u _ _ h _
    simp only [List.length_cons] at h ⊢
    omega
  · intro i t p L _ _ h _
    simp only [List.length_cons] at h ⊢
    omega
