/-- the unclosed IFs and ELSEs -/
def lo_br : List (Nat × Nat) → List Nat
  | [] => []
  | f :: L => if f.1 = 4 ∨ f.1 = 5 then f.2 :: lo_br L else lo_br L
/-- an array holds a list as a stack -/
def lo_as (a : Nat → Int32) : List Nat → Prop
  | [] => True
  | p :: M => a M.length = nI p ∧ lo_as a M
theorem lo_as_u {a : Nat → Int32} {j : Nat} {v : Int32} : ∀ {M : List Nat}, lo_as a M → M.length ≤ j → lo_as (upd a j v) M := by
  intro M
  induction M with
  | nil => intro _ _; trivial
  | cons p M ih =>
    intro h hj
    simp only [List.length_cons] at hj
    exact ⟨by rw [lo_un (by omega)]; exact h.1, ih h.2 (by omega)⟩
theorem lo_br_t {t t' p : Nat} {L : List (Nat × Nat)} (h : t' = t ∨ t = 1 ∧ t' = 2) : lo_br ((t', p) :: L) = lo_br ((t, p) :: L) := by
  rcases h with rfl | ⟨rfl, rfl⟩
  · rfl
  · simp [lo_br]
theorem lo_br_45 {t p : Nat} {L : List (Nat × Nat)} (h : t = 4 ∨ t = 5) : lo_br ((t, p) :: L) = p :: lo_br L := by
  simp only [lo_br]; rw [if_pos h]
theorem lo_br_n {t p : Nat} {L : List (Nat × Nat)} (h : t ≠ 4) (h' : t ≠ 5) : lo_br ((t, p) :: L) = lo_br L := by
  simp only [lo_br]; rw [if_neg (by omega)]
theorem lo_br_le {L : List (Nat × Nat)} : (lo_br L).length ≤ L.length := by
  induction L with
  | nil => exact Nat.le_refl _
  | cons f L ih =>
    simp only [lo_br]
    split
    · simp only [List.length_cons]; omega
    · simp only [List.length_cons]; omega
/-- how one token moves them -/
theorem lo_brmv {K : Nat → Nat} {n i e e' : Nat} {L L' : List (Nat × Nat)} (hn : gr_cf K n = some ([], 0)) (h1 : 1 ≤ i) (hi : i < n) (hc : gr_cf K i = some (L, e)) (hc' : gr_cf K (i + 1) = some (L', e')) :
    (K i = 15 ∧ lo_br L' = i :: lo_br L) ∨
    (K i = 16 ∧ ∃ p L2, L = (4, p) :: L2 ∧ e = 0 ∧ lo_br L = p :: lo_br L2 ∧ lo_br L' = i :: lo_br L2) ∨
    (K i = 17 ∧ ∃ t p L2, (t = 4 ∨ t = 5) ∧ L = (t, p) :: L2 ∧ e = 0 ∧ lo_br L = p :: lo_br L2 ∧ lo_br L' = lo_br L2) ∨
    (K i ≠ 15 ∧ K i ≠ 16 ∧ K i ≠ 17 ∧ lo_br L' = lo_br L) := by
  have hs : gr_st (K i) i (L, e) = some (L', e') := by rw [← gr_next hc]; exact hc'
  have hsh := gr_shape i _ _ h1 hc
  rcases gr_cases hs with ⟨L2, e2, e3, r1, r2, h3⟩ | ⟨t1, p1, L2, e3, r1, r2, h3⟩ | ⟨t1, p1, L2, u, e3, r1, r2, h3⟩ | ⟨t1, p1, L2, u, r1, r2, h3⟩ | ⟨t1, p1, L2, r1, r2, h3⟩
  · cases r1; cases r2
    refine .inr (.inr (.inr ⟨?_, ?_, ?_, rfl⟩)) <;> (simp only [gr_c1] at h3; omega)
  · cases r1; cases r2
    refine .inr (.inr (.inr ⟨?_, ?_, ?_, lo_br_t gr_n_t⟩)) <;> (simp only [gr_c2] at h3; omega)
  · cases r1; cases r2
    rcases h3 with ⟨hk, ht, hu, _⟩ | ⟨hk, hS, hu, _⟩ | ⟨hk, hS, hu, _⟩
    · subst hu
      refine .inr (.inr (.inr ⟨by omega, by omega, by omega, ?_⟩))
      rw [lo_br_n (by omega) (by omega), lo_br_t gr_n_t]
    · subst hu
      refine .inr (.inr (.inr ⟨by omega, by omega, by omega, ?_⟩))
      rw [lo_br_n (by omega) (by omega), lo_br_t gr_n_t]
    · subst hu
      refine .inl ⟨hk, ?_⟩
      rw [lo_br_45 (.inl rfl), lo_br_t gr_n_t]
  · cases r1; cases r2
    rcases h3 with ⟨hk, ht, hu⟩ | ⟨hk, ht, hu⟩
    · subst hu
      refine .inr (.inr (.inr ⟨by omega, by omega, by omega, ?_⟩))
      rw [lo_br_n (by omega) (by omega), lo_br_n (by omega) (by omega)]
    · subst hu; subst ht
      refine .inr (.inl ⟨hk, p1, L2, rfl, rfl, lo_br_45 (.inl rfl), lo_br_45 (.inr rfl)⟩)
  · cases r1; cases r2
    rcases h3 with ⟨hk, ht⟩ | ⟨hk, ht⟩ | ⟨hk, ht⟩
    · have h2 := @gr_n_t (K i) t1
      refine .inr (.inr (.inr ⟨by omega, by omega, by omega, ?_⟩))
      rw [lo_br_n (by omega) (by omega)]
    · refine .inr (.inr (.inr ⟨by omega, by omega, by omega, ?_⟩))
      rw [lo_br_n (by omega) (by omega)]
    · exact .inr (.inr (.inl ⟨hk, t1, p1, _, ht, rfl, rfl, lo_br_45 ht, rfl⟩))
/-- the branches of the first i tokens -/
def lo_B (K : Nat → Nat) (i : Nat) (bt : Nat → Int32) : Prop := ∀ q t p L, 1 ≤ q → q < i → gr_cf K q = some ((t, p) :: L, 0) → (t = 4 ∨ t = 5) → (K q = 16 ∨ K q = 17) → bt p = nI (q + 1)
/-- the links of the first i tokens -/
def lo_L (K : Nat → Nat) (i : Nat) (lk : Nat → Int32) : Prop := ∀ q t p L, 1 ≤ q → q < i → gr_cf K q = some ((t, p) :: L, 0) → gr_cl (K q) t → lk p = nI q
theorem lo_clo {K : Nat → Nat} {n q t p : Nat} {L : List (Nat × Nat)} (hn : gr_cf K n = some ([], 0)) (hq : q < n) (hc : gr_cf K q = some ((t, p) :: L, 0)) (ht : t = 4 ∨ t = 5) (hk : K q = 16 ∨ K q = 17) : gr_cl (K q) t := by
  obtain ⟨c1, hc1, hs⟩ := gr_step hn hq hc
  have h2 := @gr_n_t (K q) t
  rcases gr_cases hs with ⟨L2, e2, e3, r1, r2, h3⟩ | ⟨t1, p1, L2, e3, r1, r2, h3⟩ | ⟨t1, p1, L2, u, e3, r1, r2, h3⟩ | ⟨t1, p1, L2, u, r1, r2, h3⟩ | ⟨t1, p1, L2, r1, r2, h3⟩
  · cases r1
  · cases r1; simp only [gr_c2] at h3; omega
  · cases r1; simp only [gr_c3] at h3; omega
  · cases r1; simp only [gr_c4] at h3; exact .inr (.inl (by omega))
  · cases r1; exact .inr (.inr h3)
theorem lo_B_w {K : Nat → Nat} {n i t p : Nat} {L : List (Nat × Nat)} {bt : Nat → Int32} (hn : gr_cf K n = some ([], 0)) (h : lo_B K i bt) (hi : i < n) (hc : gr_cf K i = some ((t, p) :: L, 0)) : lo_B K (i + 1) (upd bt p (nI (i + 1))) := by
  intro q t' p' L' h1 hq hcq ht hk
  by_cases e : q = i
  · subst e
    rw [hc] at hcq
    injection hcq with hcq
    injection hcq with hcq _
    injection hcq with hcq _
    injection hcq with _ hcq
    subst hcq
    exact lo_us
  · have hg := gr_gone h1 hcq (lo_clo hn (by omega) hcq ht hk) (show q < i by omega) hc (t, p) (by simp)
    rw [lo_un (Ne.symm hg)]
    exact h q t' p' L' h1 (by omega) hcq ht hk
theorem lo_B_n {K : Nat → Nat} {i : Nat} {bt : Nat → Int32} (h : lo_B K i bt) (hk : K i ≠ 16 ∧ K i ≠ 17) : lo_B K (i + 1) bt := by
  intro q t' p' L' h1 hq hcq ht hk'
  by_cases e : q = i
  · subst e; omega
  · exact h q t' p' L' h1 (by omega) hcq ht hk'
theorem lo_L_w {K : Nat → Nat} {i t p : Nat} {L : List (Nat × Nat)} {lk : Nat → Int32} (h : lo_L K i lk) (hc : gr_cf K i = some ((t, p) :: L, 0)) : lo_L K (i + 1) (upd lk p (nI i)) := by
  intro q t' p' L' h1 hq hcq hk
  by_cases e : q = i
  · subst e
    rw [hc] at hcq
    injection hcq with hcq
    injection hcq with hcq _
    injection hcq with hcq _
    injection hcq with _ hcq
    subst hcq
    exact lo_us
  · have hg := gr_gone h1 hcq hk (show q < i by omega) hc (t, p) (by simp)
    rw [lo_un (Ne.symm hg)]
    exact h q t' p' L' h1 (by omega) hcq hk
theorem lo_L_n {K : Nat → Nat} {i : Nat} {lk : Nat → Int32} (h : lo_L K i lk) (hk : ∀ t p L, gr_cf K i = some ((t, p) :: L, 0) → ¬ gr_cl (K i) t) : lo_L K (i + 1) lk := by
  intro q t' p' L' h1 hq hcq hk'
  by_cases e : q = i
  · subst e; exact absurd hk' (hk t' p' L' hcq)
  · exact h q t' p' L' h1 (by omega) hcq hk'
theorem lo_L_x {K : Nat → Nat} {i j : Nat} {lk : Nat → Int32} (h : lo_L K i lk) (hx : ∀ q, i ≤ q → q < j → ∃ L m, gr_cf K q = some (L, m + 1)) : lo_L K j lk := by
  intro q t' p' L' h1 hq hcq hk'
  by_cases e : q < i
  · exact h q t' p' L' h1 e hcq hk'
  · obtain ⟨L, m, hm⟩ := hx q (by omega) hq
    rw [hm] at hcq
    injection hcq with hcq
    injection hcq with _ hcq
    omega
/-- what the parse itself writes of the bodies -/
def yb_v (K : Nat → Nat) (j : Nat) : Int32 := if K j = 1 then nI j else match gr_cf K j with
  | some (L, 0) => nI ((gr_cb L).getD 0)
  | _ => -1
/-- with the expressions' tokens filled in -/
def yb_w (K : Nat → Nat) (j : Nat) : Nat := if K j = 1 then j else match gr_cf K j with
  | some c => (gr_cb c.1).getD 0
  | none => 0
/-- a parent as the reference keeps it -/
def yb_p : Option Nat → Int32
  | some b => nI b
  | none => -1
theorem yb_x {K : Nat → Nat} {n j m : Nat} {L : List (Nat × Nat)} (hn : gr_cf K n = some ([], 0)) (hj : j + 1 < n) (hc : gr_cf K (j + 1) = some (L, m + 1)) : yb_w K (j + 1) = yb_w K j ∧ yb_v K (j + 1) = -1 := by
  obtain ⟨c2, hc2, hs2⟩ := gr_step hn hj hc
  have hk2 : K (j + 1) ≠ 1 := by
    rcases gr_cases hs2 with ⟨L2, e2, e3, r1, r2, h3⟩ | ⟨t1, p1, L2, e3, r1, r2, h3⟩ | ⟨t1, p1, L2, u, e3, r1, r2, h3⟩ | ⟨t1, p1, L2, u, r1, r2, h3⟩ | ⟨t1, p1, L2, r1, r2, h3⟩
    · simp only [gr_c1] at h3; omega
    · cases r1
    · cases r1
    · cases r1
    · cases r1
  have hv : yb_v K (j + 1) = -1 := by
    unfold yb_v
    rw [if_neg hk2, hc]
    rfl
  refine ⟨?_, hv⟩
  have hw : yb_w K (j + 1) = (gr_cb L).getD 0 := by
    unfold yb_w
    rw [if_neg hk2, hc]
  rw [hw]
  obtain ⟨c, hc0, hs⟩ := gr_prev hc
  unfold yb_w
  rcases gr_cases hs with ⟨L2, e2, e3, r1, r2, h3⟩ | ⟨t1, p1, L2, e3, r1, r2, h3⟩ | ⟨t1, p1, L2, u, e3, r1, r2, h3⟩ | ⟨t1, p1, L2, u, r1, r2, h3⟩ | ⟨t1, p1, L2, r1, r2, h3⟩
  · subst r1; cases r2
    rw [if_neg (by simp only [gr_c1] at h3; omega), hc0]
  · subst r1; cases r2
    rw [if_neg (by simp only [gr_c2] at h3; omega), hc0]
    simp only
    rw [gr_cb_t gr_n_t]
  · subst r1; cases r2
    have hu : u = 4 ∧ K j = 15 := by simp only [gr_c3] at h3; omega
    obtain ⟨rfl, hk⟩ := hu
    rw [if_neg (by omega), hc0]
    simp only
    rw [gr_cb_456 (by omega), gr_cb_t gr_n_t]
  · cases r2
  · cases r2
theorem yb_h {K : Nat → Nat} {j : Nat} {L : List (Nat × Nat)} (hc : gr_cf K j = some (L, 0)) : yb_v K j = nI (yb_w K j) := by
  unfold yb_v yb_w
  by_cases h : K j = 1
  · rw [if_pos h, if_pos h]
  · rw [if_neg h, if_neg h, hc]
    rfl
theorem yb_bo {K : Nat → Nat} {n j : Nat} (hj : j < n) (h5 : K j ≠ 5) (h6 : K j ≠ 6) : gr_bo K n j = yb_w K j := by
  unfold gr_bo yb_w
  rw [show n - j = (n - j - 1) + 1 by omega]
  simp only [gr_bf]
  rw [if_neg (by omega)]
  all_goals
    by_cases h : K j = 1
    · rw [if_pos h, if_pos h]
    · rw [if_neg h, if_neg h]
      cases gr_cf K j <;> rfl
theorem yb_w_lt {K : Nat → Nat} {n j : Nat} (hn : gr_cf K n = some ([], 0)) (hj : j < n) : yb_w K j < n := by
  by_cases hk : K j = 5 ∨ K j = 6
  · obtain ⟨L, e, hc⟩ := gr_exle hn (Nat.le_of_lt hj)
    have h1 : 1 ≤ j := by
      have := (gr_k01 hn).2
      by_cases e : j = 0
      · subst e; omega
      · omega
    have hso := gr_sorted j _ _ h1 hc
    unfold yb_w
    rw [if_neg (by omega), hc]
    simp only
    have key : ∀ (L : List (Nat × Nat)) (i : Nat), gr_so i L → i < n → (gr_cb L).getD 0 < n := by
      intro L
      induction L with
      | nil => intro i _ hi; simp [gr_cb]; omega
      | cons f L ih =>
        intro i h hi
        simp only [gr_cb]
        split
        · have := h.1
          simp only [Option.getD_some]
          omega
        · exact ih f.2 h.2 (Nat.lt_trans h.1 hi)
    exact key L j hso hj
  · rw [← yb_bo hj (by omega) (by omega)]
    obtain ⟨L, e, hc⟩ := gr_exle hn (Nat.le_of_lt hj)
    exact (gr_xbo hn hj hc).2.2
/-- the end of an expression by counting -/
def ye_e (K : Nat → Nat) : Nat → Nat → Nat → Option Nat
  | _, j, 0 => some j
  | 0, _, _ + 1 => none
  | f + 1, j, m + 1 => if K j = 18 ∨ K j = 19 then ye_e K f (j + 1) m else if 20 ≤ K j ∧ K j ≤ 26 then ye_e K f (j + 1) (m + 2) else none
theorem ye_0 {K : Nat → Nat} {f j : Nat} : ye_e K f j 0 = some j := by
  cases f <;> rfl
theorem ye_s {K : Nat → Nat} : ∀ (f j m : Nat) (L : List (Nat × Nat)) (e : Nat), gr_cf K j = some (L, m) → ye_e K f j m = some e →
    j ≤ e ∧ e ≤ j + f ∧ gr_cf K e = some (L, 0) ∧ ∀ q, j ≤ q → q < e → 18 ≤ K q ∧ ∃ m', gr_cf K q = some (L, m' + 1) := by
  intro f
  induction f with
  | zero =>
    intro j m L e hc h
    cases m with
    | zero => rw [ye_0] at h; injection h with h; subst h; exact ⟨Nat.le_refl _, Nat.le_refl _, hc, fun q h1 h2 => by omega⟩
    | succ m => simp [ye_e] at h
  | succ f ih =>
    intro j m L e hc h
    cases m with
    | zero => rw [ye_0] at h; injection h with h; subst h; exact ⟨Nat.le_refl _, by omega, hc, fun q h1 h2 => by omega⟩
    | succ m =>
      simp only [ye_e] at h
      have hs := gr_next hc
      simp only [gr_st] at hs
      by_cases k1 : K j = 18 ∨ K j = 19
      · rw [if_pos k1] at h hs
        obtain ⟨a, b, c, d⟩ := ih (j + 1) m L e hs h
        refine ⟨by omega, by omega, c, fun q h1 h2 => ?_⟩
        by_cases eq : q = j
        · subst eq; exact ⟨by omega, m, hc⟩
        · exact d q (by omega) h2
      · rw [if_neg k1] at h hs
        by_cases k2 : 20 ≤ K j ∧ K j ≤ 26
        · rw [if_pos k2] at h hs
          obtain ⟨a, b, c, d⟩ := ih (j + 1) (m + 2) L e hs h
          refine ⟨by omega, by omega, c, fun q h1 h2 => ?_⟩
          by_cases eq : q = j
          · subst eq; exact ⟨by omega, m, hc⟩
          · exact d q (by omega) h2
        · rw [if_neg k2] at h; cases h
theorem ye_n {K : Nat → Nat} {n : Nat} : ∀ (f j m : Nat) (L : List (Nat × Nat)), j + f = n → gr_cf K j = some (L, m) → ye_e K f j m = none → gr_cf K n ≠ some ([], 0) := by
  intro f
  induction f with
  | zero =>
    intro j m L hj hc h hn
    cases m with
    | zero => rw [ye_0] at h; cases h
    | succ m =>
      have : j = n := by omega
      subst this; rw [hc] at hn; simp at hn
  | succ f ih =>
    intro j m L hj hc h hn
    cases m with
    | zero => rw [ye_0] at h; cases h
    | succ m =>
      simp only [ye_e] at h
      have hs := gr_next hc
      simp only [gr_st] at hs
      by_cases k1 : K j = 18 ∨ K j = 19
      · rw [if_pos k1] at h hs
        exact ih (j + 1) m L (by omega) hs h hn
      · rw [if_neg k1] at h hs
        by_cases k2 : 20 ≤ K j ∧ K j ≤ 26
        · rw [if_pos k2] at h hs
          exact ih (j + 1) (m + 2) L (by omega) hs h hn
        · rw [if_neg k2] at hs
          obtain ⟨L2, e2, h2⟩ := gr_exle hn (show j + 1 ≤ n by omega)
          rw [hs] at h2; cases h2
/-- both ends agree -/
theorem ye_ev {K : Nat → Nat} {n j e : Nat} {L : List (Nat × Nat)} (hn : gr_cf K n = some ([], 0)) (hj : j ≤ n) (hc : gr_cf K j = some (L, 1)) (he : gr_cf K e = some (L, 0)) (hje : j < e) (hen : e ≤ n) (hq : ∀ i, j ≤ i → i < e → ∃ m', gr_cf K i = some (L, m' + 1)) : ye_e K (n - j) j 1 = some e := by
  cases h : ye_e K (n - j) j 1 with
  | none => exact absurd hn (ye_n (n - j) j 1 L (by omega) hc h)
  | some e' =>
    obtain ⟨a, b, c, d⟩ := ye_s (n - j) j 1 L e' hc h
    have : e' = e := by
      by_cases h1 : e < e'
      · obtain ⟨_, m', h2⟩ := d e (by omega) h1
        rw [he] at h2; simp at h2
      · by_cases h2 : e' < e
        · obtain ⟨m', h3⟩ := hq e' a h2
          rw [c] at h3; simp at h3
        · omega
    rw [this]
