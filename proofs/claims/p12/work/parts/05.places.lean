/-- an operator's answer; none: a division by zero -/
def gr_ap (k : Nat) (l r : Int32) : Option Int32 :=
  if k = 20 then some (l + r) else if k = 21 then some (l - r) else if k = 22 then some (l * r)
  else if k = 25 then some (if l < r then 1 else 0) else if k = 26 then some (if l = r then 1 else 0)
  else if r = 0 then none else if k = 23 then some (l / r) else some (l - l / r * r)
def gr_a2 (k : Nat) : Option Int32 → Option Int32 → Option Int32
  | some x, some y => gr_ap k x y
  | _, _ => none
/-- the expression from j on: where it ends, and its value (none: it traps); lf: the values of its leaves -/
def gr_ev (K : Nat → Nat) (lf : Nat → Int32) : Nat → Nat → Option (Nat × Option Int32)
  | 0, _ => none
  | f + 1, j => if K j = 18 ∨ K j = 19 then some (j + 1, some (lf j)) else
    match gr_ev K lf f (j + 1) with
    | none => none
    | some a => match gr_ev K lf f a.1 with
      | none => none
      | some b => some (b.1, gr_a2 (K j) a.2 b.2)
theorem gr_exp {K : Nat → Nat} {n : Nat} (lf : Nat → Int32) (hn : gr_cf K n = some ([], 0)) : ∀ (d j : Nat) (L : List (Nat × Nat)) (m : Nat), n - j ≤ d → j ≤ n → gr_cf K j = some (L, m + 1) →
    ∃ e v, gr_ev K lf d j = some (e, v) ∧ gr_cf K e = some (L, m) ∧ j < e ∧ e ≤ n ∧ ∀ i, j ≤ i → i < e → 18 ≤ K i ∧ K i ≤ 26 ∧ ∃ m', gr_cf K i = some (L, m' + 1) := by
  intro d
  induction d with
  | zero =>
    intro j L m hd hj hc
    have : j = n := by omega
    subst this; rw [hc] at hn; simp at hn
  | succ d ih =>
    intro j L m hd hj hc
    by_cases hjn : j = n
    · subst hjn; rw [hc] at hn; simp at hn
    have hlt : j < n := by omega
    obtain ⟨c1, h1, hs⟩ := gr_step hn hlt hc
    simp only [gr_st] at hs
    by_cases k1 : K j = 18 ∨ K j = 19
    · rw [if_pos k1] at hs
      injection hs with hs
      subst hs
      refine ⟨j + 1, some (lf j), by simp only [gr_ev]; rw [if_pos k1], h1, by omega, by omega, ?_⟩
      intro i h2 h3
      have : i = j := by omega
      subst this
      exact ⟨by omega, by omega, m, hc⟩
    · rw [if_neg k1] at hs
      by_cases k2 : 20 ≤ K j ∧ K j ≤ 26
      · rw [if_pos k2] at hs
        injection hs with hs
        subst hs
        obtain ⟨e1, v1, a1, a2, a3, a4, a5⟩ := ih (j + 1) L (m + 1) (by omega) (by omega) h1
        obtain ⟨e2, v2, b1, b2, b3, b4, b5⟩ := ih e1 L m (by omega) a4 a2
        refine ⟨e2, gr_a2 (K j) v1 v2, ?_, b2, by omega, b4, ?_⟩
        · simp only [gr_ev]; rw [if_neg k1, a1]; simp only; rw [b1]
        · intro i h2 h3
          by_cases c1 : i = j
          · subst c1; exact ⟨by omega, by omega, m, hc⟩
          · by_cases c2 : i < e1
            · exact a5 i (by omega) c2
            · exact b5 i (by omega) h3
      · rw [if_neg k2] at hs; cases hs
theorem gr_ev_lt {K : Nat → Nat} {lf : Nat → Int32} : ∀ (f j e : Nat) (v : Option Int32), gr_ev K lf f j = some (e, v) → j < e := by
  intro f
  induction f with
  | zero => intro j e v h; simp [gr_ev] at h
  | succ f ih =>
    intro j e v h
    simp only [gr_ev] at h
    by_cases k1 : K j = 18 ∨ K j = 19
    · rw [if_pos k1] at h; injection h with h; injection h with h _; omega
    · rw [if_neg k1] at h
      cases h1 : gr_ev K lf f (j + 1) with
      | none => rw [h1] at h; cases h
      | some a =>
        rw [h1] at h
        simp only at h
        cases h2 : gr_ev K lf f a.1 with
        | none => rw [h2] at h; cases h
        | some b =>
          rw [h2] at h
          simp only at h
          injection h with h
          injection h with h _
          have x1 := ih (j + 1) a.1 a.2 h1
          have x2 := ih a.1 b.1 b.2 h2
          omega
/-- an operator's two halves -/
theorem gr_ev_op {K : Nat → Nat} {lf : Nat → Int32} {f j e : Nat} {v : Option Int32} (h : gr_ev K lf (f + 1) j = some (e, v)) (k : ¬ (K j = 18 ∨ K j = 19)) :
    ∃ j1 a b, gr_ev K lf f (j + 1) = some (j1, a) ∧ gr_ev K lf f j1 = some (e, b) ∧ v = gr_a2 (K j) a b := by
  simp only [gr_ev] at h
  rw [if_neg k] at h
  cases h1 : gr_ev K lf f (j + 1) with
  | none => rw [h1] at h; cases h
  | some a =>
    rw [h1] at h
    simp only at h
    cases h2 : gr_ev K lf f a.1 with
    | none => rw [h2] at h; cases h
    | some b =>
      rw [h2] at h
      simp only at h
      injection h with h
      injection h with h3 h4
      subst h3
      exact ⟨a.1, a.2, b.2, rfl, h2, h4.symm⟩
theorem gr_ev_leaf {K : Nat → Nat} {lf : Nat → Int32} {f j e : Nat} {v : Option Int32} (h : gr_ev K lf (f + 1) j = some (e, v)) (k : K j = 18 ∨ K j = 19) : e = j + 1 ∧ v = some (lf j) := by
  simp only [gr_ev] at h
  rw [if_pos k] at h
  injection h with h
  injection h with h1 h2
  exact ⟨h1.symm, h2.symm⟩
theorem gr_below {f : Nat × Nat} {L : List (Nat × Nat)} (h : gr_sh (f :: L)) (ht : f.1 = 4 ∨ f.1 = 5 ∨ f.1 = 6) : ∃ t r L', L = (t, r) :: L' ∧ gr_S t := by
  cases L with
  | nil => have := h.1; omega
  | cons g L =>
    refine ⟨g.1, g.2, L, rfl, ?_⟩
    rcases h.1 with h1 | h1
    · omega
    · exact h1.2
theorem gr_P_17 {K : Nat → Nat} {n p b : Nat} (hn : gr_cf K n = some ([], 0)) (h : gr_P K n p b) (hk : K p = 17) : gr_P K n (p + 1) b := by
  obtain ⟨h1, hp, t, r, L, hc, hS, hb⟩ := h
  obtain ⟨c1, hc1, hs⟩ := gr_step hn hp hc
  have hsh := gr_shape p _ _ h1 hc
  simp only [gr_st, hk] at hs
  simp at hs
  obtain ⟨ht, rfl⟩ := hs
  refine gr_P_mk hn (by omega) hp hc1 (gr_below hsh (by simp only; omega)) ?_
  rw [gr_cb_456 (by omega)] at hb; exact hb
theorem gr_P_10 {K : Nat → Nat} {n p b : Nat} (hn : gr_cf K n = some ([], 0)) (h : gr_P K n p b) (hk : K p = 10) : gr_P K n (p + 1) b := by
  obtain ⟨h1, hp, t, r, L, hc, hS, hb⟩ := h
  obtain ⟨c1, hc1, hs⟩ := gr_step hn hp hc
  simp only [gr_st, hk] at hs
  simp at hs
  obtain ⟨ht, rfl⟩ := hs
  refine gr_P_mk hn (by omega) hp hc1 ⟨_, r, L, rfl, .inl ht⟩ ?_
  rw [gr_cb_t gr_n_t]; exact hb
theorem gr_P_16 {K : Nat → Nat} {n p b : Nat} (hn : gr_cf K n = some ([], 0)) (h : gr_P K n p b) (hk : K p = 16) : ∃ q L, p < q ∧ q < n ∧ K q = 17 ∧ gr_cf K q = some ((5, p) :: L, 0) ∧ gr_P K n (q + 1) b := by
  obtain ⟨h1, hp, t, r, L, hc, hS, hb⟩ := h
  obtain ⟨c1, hc1, hs⟩ := gr_step hn hp hc
  have hsh := gr_shape p _ _ h1 hc
  simp only [gr_st, hk] at hs
  simp at hs
  obtain ⟨ht, rfl⟩ := hs
  obtain ⟨q, t', a1, a2, a3, a4, a5⟩ := gr_match hn hp (by decide) hc1
  have ht' : t' = 5 := by omega
  subst ht'
  have hkq : K q = 17 := by
    simp only [gr_cl, gr_c5, gr_n] at a5
    simp at a5
    exact a5
  refine ⟨q, L, a1, a2, hkq, a3, ?_⟩
  have hq1 : gr_cf K (q + 1) = some (L, 0) := by rw [gr_next a3]; simp [gr_st, hkq]
  refine gr_P_mk hn (by omega) a2 hq1 (gr_below hsh (by simp only; omega)) ?_
  rw [gr_cb_456 (by omega)] at hb; exact hb
/-- SET, PRINT: the expression behind it -/
theorem gr_P_78 {K : Nat → Nat} {n p b : Nat} (hn : gr_cf K n = some ([], 0)) (h : gr_P K n p b) (hk : K p = 7 ∨ K p = 8) : ∃ L, gr_cf K (p + 1) = some (L, 1) ∧ gr_cb L = some b ∧ ∀ e, p < e → e ≤ n → gr_cf K e = some (L, 0) → gr_P K n e b := by
  obtain ⟨h1, hp, t, r, L, hc, hS, hb⟩ := h
  obtain ⟨c1, hc1, hs⟩ := gr_step hn hp hc
  have h2 : c1 = ((gr_n (K p) t, r) :: L, 1) := by
    simp only [gr_st] at hs
    rw [if_neg (by omega), if_neg (by omega), if_neg (by omega), if_neg (by omega), if_neg (by omega), if_pos hk, if_pos hS] at hs
    injection hs with hs; exact hs.symm
  subst h2
  have hb' : gr_cb ((gr_n (K p) t, r) :: L) = some b := by rw [gr_cb_t gr_n_t]; exact hb
  exact ⟨_, hc1, hb', fun e he hen hce => gr_P_mk hn (by omega) hen hce ⟨_, r, L, rfl, hS⟩ hb'⟩
/-- IF: the expression behind it, and where it goes if that is zero -/
theorem gr_P_15 {K : Nat → Nat} {n p b : Nat} (hn : gr_cf K n = some ([], 0)) (h : gr_P K n p b) (hk : K p = 15) :
    (∃ L, gr_cf K (p + 1) = some (L, 1) ∧ gr_cb L = some b ∧ ∀ e, p < e → e ≤ n → gr_cf K e = some (L, 0) → gr_P K n e b) ∧
    ∃ q L, p < q ∧ q < n ∧ gr_cf K q = some ((4, p) :: L, 0) ∧ (K q = 16 ∨ K q = 17) ∧ gr_P K n (q + 1) b := by
  obtain ⟨h1, hp, t, r, L, hc, hS, hb⟩ := h
  obtain ⟨c1, hc1, hs⟩ := gr_step hn hp hc
  have h2 : c1 = ((4, p) :: (gr_n (K p) t, r) :: L, 1) := by
    simp only [gr_st] at hs
    rw [if_neg (by omega), if_neg (by omega), if_neg (by omega), if_neg (by omega), if_neg (by omega), if_neg (by omega), if_neg (by omega), if_neg (by omega), if_neg (by omega), if_neg (by omega), if_neg (by omega), if_neg (by omega), if_pos hk, if_pos hS] at hs
    injection hs with hs; exact hs.symm
  subst h2
  have hb' : gr_cb ((gr_n (K p) t, r) :: L) = some b := by rw [gr_cb_t gr_n_t]; exact hb
  have hb4 : gr_cb ((4, p) :: (gr_n (K p) t, r) :: L) = some b := by rw [gr_cb_456 (by omega)]; exact hb'
  refine ⟨⟨_, hc1, hb4, fun e he hen hce => gr_P_mk hn (by omega) hen hce ⟨4, p, _, rfl, .inr (.inl rfl)⟩ hb4⟩, ?_⟩
  obtain ⟨q, t', a1, a2, a3, a4, a5⟩ := gr_match hn hp (by decide) hc1
  have ht' : t' = 4 := by omega
  subst ht'
  have hkq : K q = 16 ∨ K q = 17 := by
    simp only [gr_cl, gr_c5, gr_n] at a5
    simp at a5
    exact a5
  refine ⟨q, _, a1, a2, a3, hkq, ?_⟩
  rcases hkq with hkq | hkq
  · have hq1 : gr_cf K (q + 1) = some ((5, q) :: (gr_n (K p) t, r) :: L, 0) := by rw [gr_next a3]; simp [gr_st, hkq]
    exact gr_P_mk hn (by omega) a2 hq1 ⟨5, q, _, rfl, .inr (.inr rfl)⟩ (by rw [gr_cb_456 (by omega)]; exact hb')
  · have hq1 : gr_cf K (q + 1) = some ((gr_n (K p) t, r) :: L, 0) := by rw [gr_next a3]; simp [gr_st, hkq]
    exact gr_P_mk hn (by omega) a2 hq1 ⟨_, r, L, rfl, hS⟩ hb'
/-- CALL: its arguments and its DONE -/
theorem gr_P_11 {K : Nat → Nat} {n p b : Nat} (hn : gr_cf K n = some ([], 0)) (h : gr_P K n p b) (hk : K p = 11) :
    ∃ q L, p < q ∧ q < n ∧ gr_cf K (p + 1) = some ((6, p) :: L, 0) ∧ gr_cf K q = some ((6, p) :: L, 0) ∧ K q = 14 ∧ gr_cb ((6, p) :: L) = some b ∧ gr_P K n (q + 1) b := by
  obtain ⟨h1, hp, t, r, L, hc, hS, hb⟩ := h
  obtain ⟨c1, hc1, hs⟩ := gr_step hn hp hc
  have h2 : c1 = ((6, p) :: (gr_n (K p) t, r) :: L, 0) := by
    simp only [gr_st] at hs
    rw [if_neg (by omega), if_neg (by omega), if_neg (by omega), if_neg (by omega), if_neg (by omega), if_neg (by omega), if_neg (by omega), if_neg (by omega), if_pos hk, if_pos hS] at hs
    injection hs with hs; exact hs.symm
  subst h2
  have hb' : gr_cb ((gr_n (K p) t, r) :: L) = some b := by rw [gr_cb_t gr_n_t]; exact hb
  obtain ⟨q, t', a1, a2, a3, a4, a5⟩ := gr_match hn hp (by decide) hc1
  have ht' : t' = 6 := by omega
  subst ht'
  have hkq : K q = 14 := by
    simp only [gr_cl, gr_c5, gr_n] at a5
    simp at a5
    exact a5
  refine ⟨q, _, a1, a2, hc1, a3, hkq, by rw [gr_cb_456 (by omega)]; exact hb', ?_⟩
  have hq1 : gr_cf K (q + 1) = some ((gr_n (K p) t, r) :: L, 0) := by rw [gr_next a3]; simp [gr_st, hkq]
  exact gr_P_mk hn (by omega) a2 hq1 ⟨_, r, L, rfl, hS⟩ hb'
/-- one argument -/
theorem gr_arg {K : Nat → Nat} {n j p : Nat} {L : List (Nat × Nat)} (hn : gr_cf K n = some ([], 0)) (hj : j < n) (hc : gr_cf K j = some ((6, p) :: L, 0)) :
    (K j = 14) ∨ (K j = 13 ∧ gr_cf K (j + 1) = some ((6, p) :: L, 0)) ∨ (K j = 12 ∧ gr_cf K (j + 1) = some ((6, p) :: L, 1)) := by
  obtain ⟨c1, hc1, hs⟩ := gr_step hn hj hc
  have hnn : gr_n (K j) 6 = 6 := by simp [gr_n]
  rcases gr_cases hs with ⟨L2, e2, e3, r1, r2, h3⟩ | ⟨t1, p1, L2, e3, r1, r2, h3⟩ | ⟨t1, p1, L2, u, e3, r1, r2, h3⟩ | ⟨t1, p1, L2, u, r1, r2, h3⟩ | ⟨t1, p1, L2, r1, r2, h3⟩
  · cases r1
  · cases r1
    rw [hnn] at r2
    simp only [gr_c2, hnn, gr_S] at h3
    subst r2
    have : (K j = 12 ∧ e3 = 1) ∨ (K j = 13 ∧ e3 = 0) := by omega
    rcases this with ⟨a, rfl⟩ | ⟨a, rfl⟩
    · exact .inr (.inr ⟨a, hc1⟩)
    · exact .inr (.inl ⟨a, hc1⟩)
  · cases r1; simp only [gr_c3, hnn, gr_S] at h3; omega
  · cases r1; simp only [gr_c4] at h3; omega
  · cases r1; simp only [gr_c5, hnn] at h3; exact .inl (by omega)
/-- the declarations of a body: one step of them -/
theorem gr_decl {K : Nat → Nat} {n i b : Nat} {L : List (Nat × Nat)} (hn : gr_cf K n = some ([], 0)) (h1 : 1 ≤ i) (hi : i < n) (hc : gr_cf K i = some ((1, b) :: L, 0)) :
    (K i = 3 ∧ gr_cf K (i + 1) = some ((1, b) :: L, 0)) ∨
    (K i = 4 ∧ ∃ c q, i < c ∧ c < q ∧ q < n ∧ K c = 1 ∧ gr_cf K c = some ((3, i) :: (1, b) :: L, 0) ∧ (∃ t', (t' = 1 ∨ t' = 2) ∧ gr_cf K q = some ((t', c) :: (1, b) :: L, 0)) ∧ K q = 2 ∧ gr_cf K (q + 1) = some ((1, b) :: L, 0)) ∨
    (K i ≠ 3 ∧ K i ≠ 4 ∧ gr_P K n i b) := by
  by_cases k3 : K i = 3
  · left
    obtain ⟨c1, hc1, hs⟩ := gr_step hn hi hc
    simp [gr_st, gr_n, k3] at hs
    subst hs
    exact ⟨k3, hc1⟩
  right
  by_cases k4 : K i = 4
  · left
    refine ⟨k4, ?_⟩
    obtain ⟨c, L', a1, a2, a3, a4, a5, a6, a7, a8, a9⟩ := gr_proc hn hi k4
    rw [hc] at a4
    injection a4 with a4
    injection a4 with a4 _
    injection a4 with a4 a4'
    injection a4 with _ a4
    rw [← a4] at a5 a9
    subst a4'
    obtain ⟨q, t', b1, b2, b3, b4, b5⟩ := gr_match hn a2 (by decide) a9
    have hkq : K q = 2 ∧ gr_n (K q) t' = 2 := by
      simp only [gr_cl, gr_c5] at b5
      omega
    refine ⟨c, q, a1, by omega, b2, a3, (a5 c a1 (Nat.le_refl _)).1, ⟨t', by omega, b3⟩, hkq.1, ?_⟩
    rw [gr_next b3]
    have := hkq.2
    rw [hkq.1] at this ⊢
    simp [gr_st, this]
  · right
    refine ⟨k3, k4, h1, hi, 1, b, L, hc, ?_, gr_cb_12 (.inl rfl)⟩
    simp [gr_n, gr_S, k3, k4]
/-- a label's place, and the place behind it -/
theorem gr_label {K : Nat → Nat} {n d : Nat} (hn : gr_cf K n = some ([], 0)) (hd : d < n) (hk : K d = 10) : gr_P K n (d + 1) (gr_bo K n d) := by
  have h0 : d ≠ 0 := by rintro rfl; have := (gr_k01 hn).2; omega
  obtain ⟨L0, e0, hc⟩ := gr_exle hn (Nat.le_of_lt hd)
  obtain ⟨c1, hc1, hs⟩ := gr_step hn hd hc
  rcases gr_cases hs with ⟨L2, e2, e3, r1, r2, h3⟩ | ⟨t1, p1, L2, e3, r1, r2, h3⟩ | ⟨t1, p1, L2, u, e3, r1, r2, h3⟩ | ⟨t1, p1, L2, u, r1, r2, h3⟩ | ⟨t1, p1, L2, r1, r2, h3⟩
  · simp only [gr_c1] at h3; omega
  · cases r1
    have hn2 := @gr_n_t (K d) t1
    have h4 : gr_n (K d) t1 = 2 ∧ e3 = 0 := by simp only [gr_c2] at h3; omega
    obtain ⟨h4, rfl⟩ := h4
    subst r2
    have hcb : gr_cb ((t1, p1) :: L2) = some p1 := gr_cb_12 (by omega)
    rw [gr_bo_c hd (by omega) (by omega) (by omega) hc hcb]
    refine gr_P_mk hn (by omega) hd hc1 ⟨_, p1, L2, rfl, .inl h4⟩ ?_
    rw [gr_cb_t gr_n_t]; exact hcb
  · simp only [gr_c3] at h3; omega
  · simp only [gr_c4] at h3; omega
  · simp only [gr_c5] at h3; omega
