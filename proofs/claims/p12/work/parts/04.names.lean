abbrev gr_D (k : Nat) : Prop := k = 3 ∨ k = 4 ∨ k = 5 ∨ k = 6 ∨ k = 10
/-- the first of f places from i on that holds -/
def gr_fs (P : Nat → Bool) : Nat → Nat → Option Nat
  | 0, _ => none
  | f + 1, i => if P i = true then some i else gr_fs P f (i + 1)
theorem gr_fs_some {P : Nat → Bool} {d : Nat} : ∀ (f i : Nat), gr_fs P f i = some d → P d = true ∧ i ≤ d ∧ d < i + f ∧ ∀ j, i ≤ j → j < d → ¬ P j = true := by
  intro f
  induction f with
  | zero => intro i h; simp [gr_fs] at h
  | succ f ih =>
    intro i h
    simp only [gr_fs] at h
    by_cases hp : P i = true
    · rw [if_pos hp] at h
      injection h with h
      subst h
      exact ⟨hp, Nat.le_refl _, by omega, fun j h1 h2 => by omega⟩
    · rw [if_neg hp] at h
      obtain ⟨a, b, c, d⟩ := ih (i + 1) h
      refine ⟨a, by omega, by omega, fun j h1 h2 => ?_⟩
      by_cases e : j = i
      · subst e; exact hp
      · exact d j (by omega) h2
theorem gr_fs_none {P : Nat → Bool} : ∀ (f i : Nat), gr_fs P f i = none → ∀ j, i ≤ j → j < i + f → ¬ P j = true := by
  intro f
  induction f with
  | zero => intro i _ j h1 h2; omega
  | succ f ih =>
    intro i h j h1 h2
    simp only [gr_fs] at h
    by_cases hp : P i = true
    · rw [if_pos hp] at h; cases h
    · rw [if_neg hp] at h
      by_cases e : j = i
      · subst e; exact hp
      · exact ih (i + 1) h j (by omega) (by omega)
/-- the first declaration of a name in the body with its BEGIN at b -/
def gr_dc (K V : Nat → Nat) (n b x : Nat) : Option Nat := gr_fs (fun i => decide (gr_bo K n i = b ∧ V i = x ∧ gr_D (K i))) n 0
theorem gr_dc_some {K V : Nat → Nat} {n b x d : Nat} (h : gr_dc K V n b x = some d) : d < n ∧ gr_bo K n d = b ∧ V d = x ∧ gr_D (K d) := by
  obtain ⟨a, _, c, _⟩ := gr_fs_some n 0 h
  have := of_decide_eq_true a
  exact ⟨by omega, this⟩
theorem gr_dc_none {K V : Nat → Nat} {n b x : Nat} (h : gr_dc K V n b x = none) : ∀ d, d < n → gr_bo K n d = b → V d = x → ¬ gr_D (K d) := by
  intro d hd h1 h2 h3
  exact gr_fs_none n 0 h d (Nat.zero_le _) (by omega) (decide_eq_true ⟨h1, h2, h3⟩)
/-- no name is declared twice in one body -/
def gr_ND (K V : Nat → Nat) (n : Nat) : Prop := ∀ i j, i < j → j < n → gr_D (K i) → gr_D (K j) → gr_bo K n j = gr_bo K n i → V j = V i → False
theorem gr_dc_of {K V : Nat → Nat} {n d : Nat} (hN : gr_ND K V n) (hd : d < n) (hk : gr_D (K d)) : gr_dc K V n (gr_bo K n d) (V d) = some d := by
  cases h : gr_dc K V n (gr_bo K n d) (V d) with
  | none => exact absurd hk (gr_dc_none h d hd rfl rfl)
  | some d' =>
    obtain ⟨a, b, c, e⟩ := gr_dc_some h
    by_cases h1 : d < d'
    · exact (hN d d' h1 a hk e b c).elim
    · by_cases h2 : d' < d
      · exact (hN d' d h2 hd e hk b.symm c.symm).elim
      · have : d' = d := by omega
        rw [this]
/-- the nearest declaration from the body at b outward -/
def gr_lf (K V : Nat → Nat) (n x : Nat) : Nat → Nat → Option Nat
  | 0, _ => none
  | h + 1, b => match gr_dc K V n b x with
    | some d => some d
    | none => match gr_pa K b with
      | none => none
      | some b' => gr_lf K V n x h b'
def gr_lk (K V : Nat → Nat) (n b x : Nat) : Option Nat := gr_lf K V n x (b + 1) b
theorem gr_lf_eq {K V : Nat → Nat} {n x : Nat} (hn : gr_cf K n = some ([], 0)) : ∀ (h h' b : Nat), b < n → K b = 1 → b < h → b < h' → gr_lf K V n x h b = gr_lf K V n x h' b := by
  intro h
  induction h with
  | zero => intro h' b _ _ h1; omega
  | succ h ih =>
    intro h' b hb hk h1 h2
    cases h' with
    | zero => omega
    | succ h' =>
      simp only [gr_lf]
      cases gr_dc K V n b x with
      | some d => rfl
      | none =>
        cases hp : gr_pa K b with
        | none => rfl
        | some b' =>
          have := gr_pa_lt hn hb hk hp
          exact ih h' b' (by omega) this.2.1 (by omega) (by omega)
theorem gr_lk_d {K V : Nat → Nat} {n b x d : Nat} (h : gr_dc K V n b x = some d) : gr_lk K V n b x = some d := by
  simp [gr_lk, gr_lf, h]
theorem gr_lk_0 {K V : Nat → Nat} {n b x : Nat} (h : gr_dc K V n b x = none) (hp : gr_pa K b = none) : gr_lk K V n b x = none := by
  simp [gr_lk, gr_lf, h, hp]
theorem gr_lk_p {K V : Nat → Nat} {n b b' x : Nat} (hn : gr_cf K n = some ([], 0)) (hb : b < n) (hk : K b = 1) (h : gr_dc K V n b x = none) (hp : gr_pa K b = some b') : gr_lk K V n b x = gr_lk K V n b' x := by
  have := gr_pa_lt hn hb hk hp
  simp only [gr_lk]
  rw [show gr_lf K V n x (b + 1) b = gr_lf K V n x b b' by simp [gr_lf, h, hp]]
  exact gr_lf_eq hn b (b' + 1) b' (by omega) this.2.1 this.1 (by omega)
/-- uses match their declarations -/
def gr_mk (k dk : Nat) : Prop := ((k = 7 ∨ k = 19) → dk = 3 ∨ dk = 5) ∧ ((k = 11 ∨ k = 13) → dk = 4 ∨ dk = 6) ∧ (k = 9 → dk = 10)
abbrev gr_U (k : Nat) : Prop := k = 7 ∨ k = 19 ∨ k = 11 ∨ k = 13 ∨ k = 9
def gr_us (K V : Nat → Nat) (n i : Nat) : Prop := gr_U (K i) → ∃ d, gr_lk K V n (gr_bo K n i) (V i) = some d ∧ gr_mk (K i) (K d)
def gr_US (K V : Nat → Nat) (n : Nat) : Prop := ∀ i, i < n → gr_us K V n i
/-- counts of declarations and of parameters by the body's number -/
def gr_dn (K : Nat → Nat) (n k : Nat) (i : Nat) : Nat := gr_ct (fun j => decide (gr_D (K j) ∧ gr_np K (gr_bo K n j) = k)) i
def gr_pn (K : Nat → Nat) (n k : Nat) (i : Nat) : Nat := gr_ct (fun j => decide ((K j = 5 ∨ K j = 6) ∧ gr_np K (gr_bo K n j) = k)) i
/-- the program keeps the limits -/
def gr_LM (K : Nat → Nat) (n : Nat) : Prop := gr_np K n ≤ 15 ∧ ∀ b, b < n → K b = 1 → gr_dn K n (gr_np K b) n ≤ 8 ∧ gr_pn K n (gr_np K b) n ≤ 4
/-- a place where a statement, or an end, of the body at b stands -/
def gr_P (K : Nat → Nat) (n p b : Nat) : Prop := 1 ≤ p ∧ p < n ∧ ∃ t r L, gr_cf K p = some ((t, r) :: L, 0) ∧ gr_S (gr_n (K p) t) ∧ gr_cb ((t, r) :: L) = some b
theorem gr_P_mk {K : Nat → Nat} {n p b : Nat} {L : List (Nat × Nat)} (hn : gr_cf K n = some ([], 0)) (h1 : 1 ≤ p) (hp : p ≤ n) (hc : gr_cf K p = some (L, 0)) (hS : ∃ t r L', L = (t, r) :: L' ∧ gr_S t) (hb : gr_cb L = some b) : gr_P K n p b := by
  obtain ⟨t, r, L', rfl, hS⟩ := hS
  have : p ≠ n := by rintro rfl; rw [hc] at hn; simp at hn
  refine ⟨h1, by omega, t, r, L', hc, ?_, hb⟩
  have h := @gr_n_t (K p) t
  simp only [gr_S] at hS ⊢
  omega
/-- what a token at such a place is -/
theorem gr_P_k {K : Nat → Nat} {n p b : Nat} (hn : gr_cf K n = some ([], 0)) (h : gr_P K n p b) : (K p = 2 ∨ K p = 7 ∨ K p = 8 ∨ K p = 9 ∨ K p = 10 ∨ K p = 11 ∨ K p = 15 ∨ K p = 16 ∨ K p = 17) ∧ gr_bo K n p = b := by
  obtain ⟨h1, hp, t, r, L, hc, hS, hb⟩ := h
  obtain ⟨c1, hc1, hs⟩ := gr_step hn hp hc
  have hn2 := @gr_n_or (K p) t
  have hk : K p = 2 ∨ K p = 7 ∨ K p = 8 ∨ K p = 9 ∨ K p = 10 ∨ K p = 11 ∨ K p = 15 ∨ K p = 16 ∨ K p = 17 := by
    simp only [gr_S] at hS
    rcases gr_cases hs with ⟨L2, e2, e3, r1, r2, h3⟩ | ⟨t1, p1, L2, e3, r1, r2, h3⟩ | ⟨t1, p1, L2, u, e3, r1, r2, h3⟩ | ⟨t1, p1, L2, u, r1, r2, h3⟩ | ⟨t1, p1, L2, r1, r2, h3⟩
    · cases r1
    · cases r1; simp only [gr_c2] at h3; omega
    · cases r1; simp only [gr_c3] at h3; omega
    · cases r1; simp only [gr_c4] at h3; omega
    · cases r1; simp only [gr_c5] at h3; omega
  exact ⟨hk, gr_bo_c hp (by omega) (by omega) (by omega) hc hb⟩
