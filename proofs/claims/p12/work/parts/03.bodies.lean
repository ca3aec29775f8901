/-- how many of the first i hold -/
def gr_ct (P : Nat → Bool) : Nat → Nat
  | 0 => 0
  | i + 1 => gr_ct P i + (if P i = true then 1 else 0)
theorem gr_ct_t {P : Nat → Bool} {i : Nat} (h : P i = true) : gr_ct P (i + 1) = gr_ct P i + 1 := by
  simp only [gr_ct]; rw [if_pos h]
theorem gr_ct_f {P : Nat → Bool} {i : Nat} (h : ¬ P i = true) : gr_ct P (i + 1) = gr_ct P i := by
  simp only [gr_ct]; rw [if_neg h]; rfl
theorem gr_ct_m {P : Nat → Bool} {i : Nat} : ∀ (d : Nat), gr_ct P i ≤ gr_ct P (i + d) := by
  intro d
  induction d with
  | zero => exact Nat.le_refl _
  | succ d ih =>
    refine Nat.le_trans ih ?_
    show gr_ct P (i + d) ≤ gr_ct P (i + d) + _
    exact Nat.le_add_right _ _
theorem gr_ct_mono {P : Nat → Bool} {i j : Nat} (h : i ≤ j) : gr_ct P i ≤ gr_ct P j := by
  have := @gr_ct_m P i (j - i)
  rwa [show i + (j - i) = j by omega] at this
theorem gr_ct_le {P : Nat → Bool} : ∀ (i : Nat), gr_ct P i ≤ i := by
  intro i
  induction i with
  | zero => exact Nat.le_refl _
  | succ i ih =>
    by_cases h : P i = true
    · rw [gr_ct_t h]; omega
    · rw [gr_ct_f h]; omega
/-- the number of the procedures ahead of i: a body's number, at its BEGIN -/
def gr_np (K : Nat → Nat) (i : Nat) : Nat := gr_ct (fun j => decide (K j = 4)) i
theorem gr_np_4 {K : Nat → Nat} {i : Nat} (h : K i = 4) : gr_np K (i + 1) = gr_np K i + 1 := gr_ct_t (by simp [h])
theorem gr_np_n {K : Nat → Nat} {i : Nat} (h : K i ≠ 4) : gr_np K (i + 1) = gr_np K i := gr_ct_f (by simp [h])
theorem gr_np_mono {K : Nat → Nat} {i j : Nat} (h : i ≤ j) : gr_np K i ≤ gr_np K j := gr_ct_mono h
/-- the body, by its BEGIN, around a stack -/
def gr_cb : List (Nat × Nat) → Option Nat
  | [] => none
  | f :: L => if f.1 = 1 ∨ f.1 = 2 then some f.2 else gr_cb L
/-- the body's number at a stack: parameters belong to the body that is to come -/
def gr_xb (K : Nat → Nat) : List (Nat × Nat) → Nat
  | [] => 0
  | f :: L => if f.1 = 1 ∨ f.1 = 2 then gr_np K f.2 else if f.1 = 3 then gr_np K (f.2 + 1) else gr_xb K L
theorem gr_cb_some {K : Nat → Nat} {L : List (Nat × Nat)} (h : gr_sh L) (h0 : L ≠ []) (h3 : ∀ p L', L ≠ (3, p) :: L') : ∃ b, gr_cb L = some b ∧ gr_xb K L = gr_np K b := by
  induction L with
  | nil => exact absurd rfl h0
  | cons f L ih =>
    obtain ⟨t, p⟩ := f
    by_cases ht : t = 1 ∨ t = 2
    · exact ⟨p, by simp [gr_cb, ht], by simp [gr_xb, ht]⟩
    · have h3' : t ≠ 3 := fun e => h3 p L (by rw [e])
      cases L with
      | nil => have := h.1; simp only at this; omega
      | cons g L =>
        have h1 := h.1
        simp only at h1
        obtain ⟨b, hb, hx⟩ := ih h.2 (by simp) (by intro p' L' e; cases e; simp only at h1; omega)
        exact ⟨b, by simp only [gr_cb]; rw [if_neg ht]; exact hb, by simp only [gr_xb]; rw [if_neg ht, if_neg h3']; exact hx⟩
theorem gr_cb_t {t t' p : Nat} {L : List (Nat × Nat)} (h : t' = t ∨ t = 1 ∧ t' = 2) : gr_cb ((t', p) :: L) = gr_cb ((t, p) :: L) := by
  rcases h with rfl | ⟨rfl, rfl⟩
  · rfl
  · simp [gr_cb]
theorem gr_xb_t {K : Nat → Nat} {t t' p : Nat} {L : List (Nat × Nat)} (h : t' = t ∨ t = 1 ∧ t' = 2) : gr_xb K ((t', p) :: L) = gr_xb K ((t, p) :: L) := by
  rcases h with rfl | ⟨rfl, rfl⟩
  · rfl
  · simp [gr_xb]
theorem gr_cb_456 {t p : Nat} {L : List (Nat × Nat)} (h : 3 ≤ t) : gr_cb ((t, p) :: L) = gr_cb L := by
  simp only [gr_cb]; rw [if_neg (by omega)]
theorem gr_cb_12 {t p : Nat} {L : List (Nat × Nat)} (h : t = 1 ∨ t = 2) : gr_cb ((t, p) :: L) = some p := by
  simp only [gr_cb]; rw [if_pos h]
/-- the numbers around a type 3 frame: no procedure since -/
theorem gr_top3 {K : Nat → Nat} : ∀ i L e, 1 ≤ i → gr_cf K i = some (L, e) → ∀ p L', L = (3, p) :: L' → gr_np K i = gr_np K (p + 1) ∧ e = 0 := by
  refine gr_ind (fun i L e => ∀ p L', L = (3, p) :: L' → gr_np K i = gr_np K (p + 1) ∧ e = 0) ?_ ?_ ?_ ?_ ?_ ?_
  · intro _ p L' h; cases h
  · intro i L e e' _ _ h _ p L' hL
    have := (h p L' hL).2
    omega
  · intro i t p L e' _ _ h hc p' L' hL
    have hn := @gr_n_t (K i) t
    injection hL with h1 h2
    injection h1 with h1 h1'
    have ht : t = 3 := by omega
    subst ht; subst h1'; subst h2
    have h := h p L rfl
    have hk : K i = 5 ∨ K i = 6 := by
      have hS : ¬ gr_S (gr_n (K i) 3) := by simp [h1, gr_S]
      simp only [gr_c2] at hc
      omega
    rw [gr_np_n (by omega)]
    refine ⟨h.1, ?_⟩
    simp only [gr_c2] at hc
    omega
  · intro i t p L u e' _ _ h hc p' L' hL
    injection hL with h1 h2
    injection h1 with h1 h1'
    subst h1'
    refine ⟨rfl, ?_⟩
    simp only [gr_c3] at hc
    omega
  · intro i t p L u _ _ h hc p' L' hL
    injection hL with h1 h2
    injection h1 with h1 h1'
    simp only [gr_c4] at hc
    omega
  · intro i t p L h1 hcf _ hc p' L' hL
    have hsh := gr_shape i _ _ h1 hcf
    subst hL
    have := hsh.1
    simp only [gr_S] at this
    omega
/-- the parameters of a procedure up to its BEGIN -/
theorem gr_params {K : Nat → Nat} {n : Nat} (hn : gr_cf K n = some ([], 0)) : ∀ (d j p : Nat) (L : List (Nat × Nat)), n - j ≤ d → j ≤ n → 1 ≤ j → gr_cf K j = some ((3, p) :: L, 0) →
    ∃ q, j ≤ q ∧ q < n ∧ K q = 1 ∧ (∀ i, j ≤ i → i ≤ q → gr_cf K i = some ((3, p) :: L, 0)) ∧ (∀ i, j ≤ i → i < q → K i = 5 ∨ K i = 6) := by
  intro d
  induction d with
  | zero =>
    intro j p L hd hj _ hc
    have : j = n := by omega
    subst this; rw [hc] at hn; simp at hn
  | succ d ih =>
    intro j p L hd hj h1j hc
    by_cases hjn : j = n
    · subst hjn; rw [hc] at hn; simp at hn
    have hlt : j < n := by omega
    obtain ⟨c1, h1, hs⟩ := gr_step hn hlt hc
    rcases gr_cases hs with ⟨L2, e2, e3, r1, r2, h3⟩ | ⟨t1, p1, L2, e3, r1, r2, h3⟩ | ⟨t1, p1, L2, u, e3, r1, r2, h3⟩ | ⟨t1, p1, L2, u, r1, r2, h3⟩ | ⟨t1, p1, L2, r1, r2, h3⟩
    · cases r1
    · cases r1
      have hnn : gr_n (K j) 3 = 3 := by simp [gr_n]
      rw [hnn] at r2
      have hk : (K j = 5 ∨ K j = 6) ∧ e3 = 0 := by
        simp only [gr_c2, hnn, gr_S] at h3
        omega
      obtain ⟨hk, rfl⟩ := hk
      subst r2
      obtain ⟨q, a1, a2, a3, a4, a5⟩ := ih (j + 1) p L (by omega) (by omega) (by omega) h1
      refine ⟨q, by omega, a2, a3, ?_, ?_⟩
      · intro i hi hiq
        by_cases e : i = j
        · subst e; exact hc
        · exact a4 i (by omega) hiq
      · intro i hi hiq
        by_cases e : i = j
        · subst e; exact hk
        · exact a5 i (by omega) hiq
    · cases r1
      simp [gr_c3, gr_n, gr_S] at h3
    · cases r1
      have hk : K j = 1 := by simp only [gr_c4] at h3; omega
      refine ⟨j, Nat.le_refl _, hlt, hk, ?_, ?_⟩
      · intro i hi hiq
        have : i = j := by omega
        subst this; exact hc
      · intro i hi hiq; omega
    · cases r1
      simp [gr_c5, gr_n] at h3
/-- the body, by its BEGIN, that token i belongs to -/
def gr_bf (K : Nat → Nat) : Nat → Nat → Nat
  | 0, _ => 0
  | f + 1, i => if K i = 5 ∨ K i = 6 then gr_bf K f (i + 1) else if K i = 1 then i else match gr_cf K i with
    | some c => (gr_cb c.1).getD 0
    | none => 0
def gr_bo (K : Nat → Nat) (n i : Nat) : Nat := gr_bf K (n - i) i
theorem gr_bo_1 {K : Nat → Nat} {n i : Nat} (hi : i < n) (h : K i = 1) : gr_bo K n i = i := by
  unfold gr_bo
  rw [show n - i = (n - i - 1) + 1 by omega]
  simp [gr_bf, h]
theorem gr_bo_p {K : Nat → Nat} {n i : Nat} (hi : i < n) (h : K i = 5 ∨ K i = 6) : gr_bo K n i = gr_bo K n (i + 1) := by
  unfold gr_bo
  rw [show n - i = (n - (i + 1)) + 1 by omega]
  simp only [gr_bf]
  rw [if_pos h]
theorem gr_bo_c {K : Nat → Nat} {n i e b : Nat} {L : List (Nat × Nat)} (hi : i < n) (h5 : K i ≠ 5) (h6 : K i ≠ 6) (h1 : K i ≠ 1) (hc : gr_cf K i = some (L, e)) (hb : gr_cb L = some b) : gr_bo K n i = b := by
  unfold gr_bo
  rw [show n - i = (n - i - 1) + 1 by omega]
  simp only [gr_bf]
  rw [if_neg (by omega), if_neg h1, hc]
  simp [hb]
theorem gr_bo_q {K : Nat → Nat} {n : Nat} : ∀ (d j q : Nat), q = j + d → q < n → K q = 1 → (∀ i, j ≤ i → i < q → K i = 5 ∨ K i = 6) → gr_bo K n j = q := by
  intro d
  induction d with
  | zero => intro j q e hq hk _; cases e; exact gr_bo_1 hq hk
  | succ d ih =>
    intro j q e hq hk h
    rw [gr_bo_p (by omega) (h j (Nat.le_refl _) (by omega))]
    exact ih (j + 1) q (by omega) hq hk (fun i hi hiq => h i (by omega) hiq)
theorem gr_k3 {K : Nat → Nat} {n i e : Nat} {L : List (Nat × Nat)} {c : List (Nat × Nat) × Nat} (hn : gr_cf K n = some c) (h1 : 1 ≤ i) (hi : i < n) (hc : gr_cf K i = some (L, e)) : (K i = 1 ∨ K i = 5 ∨ K i = 6) ↔ ∃ p L', L = (3, p) :: L' := by
  obtain ⟨c1, hc1, hs⟩ := gr_step hn hi hc
  have hsh := gr_shape i _ _ h1 hc
  rcases gr_cases hs with ⟨L2, e2, e3, r1, r2, h3⟩ | ⟨t1, p1, L2, e3, r1, r2, h3⟩ | ⟨t1, p1, L2, u, e3, r1, r2, h3⟩ | ⟨t1, p1, L2, u, r1, r2, h3⟩ | ⟨t1, p1, L2, r1, r2, h3⟩
  · cases r1
    constructor
    · intro h; simp only [gr_c1] at h3; omega
    · rintro ⟨p, L', rfl⟩
      have := (gr_top3 i _ _ h1 hc p L' rfl).2
      omega
  · cases r1
    have hnn := @gr_n_t (K i) t1
    constructor
    · intro h
      have : t1 = 3 := by simp only [gr_c2] at h3; omega
      subst this; exact ⟨p1, L2, rfl⟩
    · rintro ⟨p, L', e⟩
      injection e with e1 e2
      injection e1 with e1 e3
      subst e1
      simp only [gr_c2, gr_S] at h3
      omega
  · cases r1
    have hnn := @gr_n_t (K i) t1
    constructor
    · intro h; simp only [gr_c3] at h3; omega
    · rintro ⟨p, L', e⟩
      injection e with e1 e2
      injection e1 with e1 e3
      subst e1
      simp only [gr_c3, gr_S] at h3
      omega
  · cases r1
    constructor
    · intro h
      have h0 : t1 ≠ 0 := by
        cases L2 with
        | nil => have := hsh.1; simp only at this; omega
        | cons g L2 => have := hsh.1; simp only [gr_S] at this; omega
      have : t1 = 3 := by simp only [gr_c4] at h3; omega
      subst this; exact ⟨p1, L2, rfl⟩
    · rintro ⟨p, L', e⟩
      injection e with e1 e2
      injection e1 with e1 e3
      subst e1
      simp only [gr_c4] at h3
      omega
  · cases r1
    have hnn := @gr_n_t (K i) t1
    constructor
    · intro h; simp only [gr_c5] at h3; omega
    · rintro ⟨p, L', e⟩
      injection e with e1 e2
      injection e1 with e1 e3
      subst e1
      simp only [gr_c5] at h3
      omega
theorem gr_nn {K : Nat → Nat} {n i e : Nat} {L : List (Nat × Nat)} (hn : gr_cf K n = some ([], 0)) (hi : i < n) (hc : gr_cf K i = some (L, e)) : L ≠ [] := by
  rintro rfl
  obtain ⟨c1, hc1, hs⟩ := gr_step hn hi hc
  rcases gr_cases hs with ⟨L2, e2, e3, r1, r2, h3⟩ | ⟨t1, p1, L2, e3, r1, r2, h3⟩ | ⟨t1, p1, L2, u, e3, r1, r2, h3⟩ | ⟨t1, p1, L2, u, r1, r2, h3⟩ | ⟨t1, p1, L2, r1, r2, h3⟩
  · cases r1
    -- an expression is wanted under an empty stack: never
    have key : ∀ i L e, 1 ≤ i → gr_cf K i = some (L, e) → L = [] → e = 0 := by
      refine gr_ind (fun i L e => L = [] → e = 0) ?_ ?_ ?_ ?_ ?_ ?_
      · intro _ _; rfl
      · intro i L e e' _ _ h _ hL; have := h hL; omega
      · intro i t p L e' _ _ _ _ hL; cases hL
      · intro i t p L u e' _ _ _ _ hL; cases hL
      · intro i t p L u _ _ _ _ _; rfl
      · intro i t p L _ _ _ _ _; rfl
    by_cases h0 : i = 0
    · subst h0; simp [gr_cf] at hc
    · have := key i _ _ (by omega) hc rfl
      omega
  · cases r1
  · cases r1
  · cases r1
  · cases r1
theorem gr_k01 {K : Nat → Nat} {n : Nat} (hn : gr_cf K n = some ([], 0)) : 1 < n ∧ K 0 = 1 := by
  have h0 : n ≠ 0 := by rintro rfl; simp [gr_cf] at hn
  have h1 : n ≠ 1 := by
    rintro rfl
    have := (gr_one hn).2
    cases this
  refine ⟨by omega, ?_⟩
  obtain ⟨L, e, h⟩ := gr_exle hn (show 1 ≤ n by omega)
  exact (gr_one h).1
/-- where a token's body is: by its BEGIN, and by its number -/
theorem gr_xbo {K : Nat → Nat} {n i e : Nat} {L : List (Nat × Nat)} (hn : gr_cf K n = some ([], 0)) (hi : i < n) (hc : gr_cf K i = some (L, e)) :
    gr_np K (gr_bo K n i) = gr_xb K L ∧ K (gr_bo K n i) = 1 ∧ gr_bo K n i < n := by
  by_cases h0 : i = 0
  · subst h0
    simp only [gr_cf, Option.some.injEq, Prod.mk.injEq] at hc
    obtain ⟨rfl, rfl⟩ := hc
    have hk := gr_k01 hn
    rw [gr_bo_1 hi hk.2]
    exact ⟨rfl, hk.2, hi⟩
  have h1 : 1 ≤ i := by omega
  have h3 := gr_k3 hn h1 hi hc
  by_cases hk : K i = 1 ∨ K i = 5 ∨ K i = 6
  · obtain ⟨p, L', rfl⟩ := h3.mp hk
    have he := (gr_top3 i _ _ h1 hc p L' rfl).2
    subst he
    obtain ⟨q, a1, a2, a3, a4, a5⟩ := gr_params hn (n - i) i p L' (Nat.le_refl _) (by omega) h1 hc
    rw [gr_bo_q (q - i) i q (by omega) a2 a3 a5]
    refine ⟨?_, a3, a2⟩
    have := (gr_top3 q _ _ (by omega) (a4 q a1 (Nat.le_refl _)) p L' rfl).1
    rw [this]
    simp [gr_xb]
  · have hsh := gr_shape i _ _ h1 hc
    obtain ⟨b, hb, hx⟩ := gr_cb_some (K := K) hsh (gr_nn hn hi hc) (fun p L' e => hk (h3.mpr ⟨p, L', e⟩))
    rw [gr_bo_c hi (by omega) (by omega) (by omega) hc hb]
    refine ⟨hx.symm, ?_⟩
    have hkd := gr_kinds i _ _ h1 hc
    have hso := gr_sorted i _ _ h1 hc
    have key : ∀ (L : List (Nat × Nat)) (j : Nat), gr_kd K L → gr_so j L → gr_cb L = some b → K b = 1 ∧ b < j := by
      intro L
      induction L with
      | nil => intro j _ _ h; cases h
      | cons f L ih =>
        intro j h1 h2 h
        by_cases ht : f.1 = 1 ∨ f.1 = 2
        · simp only [gr_cb] at h
          rw [if_pos ht] at h
          injection h with h
          subst h
          have := h1.1
          exact ⟨by omega, h2.1⟩
        · simp only [gr_cb] at h
          rw [if_neg ht] at h
          have := ih f.2 h1.2 h2.2 h
          exact ⟨this.1, Nat.lt_trans this.2 h2.1⟩
    have := key L i hkd hso hb
    exact ⟨this.1, by omega⟩
/-- a body's parent, by BEGINs -/
def gr_pa (K : Nat → Nat) (b : Nat) : Option Nat := match gr_cf K b with
  | some c => gr_cb c.1
  | none => none
/-- a procedure and its BEGIN -/
theorem gr_proc {K : Nat → Nat} {n q : Nat} (hn : gr_cf K n = some ([], 0)) (hq : q < n) (hk : K q = 4) :
    ∃ b L, q < b ∧ b < n ∧ K b = 1 ∧ gr_cf K q = some ((1, gr_bo K n q) :: L, 0) ∧ (∀ i, q < i → i ≤ b → gr_cf K i = some ((3, q) :: (1, gr_bo K n q) :: L, 0) ∧ gr_bo K n i = b) ∧ (∀ i, q < i → i < b → K i = 5 ∨ K i = 6) ∧
      gr_np K b = gr_np K (q + 1) ∧ gr_pa K b = some (gr_bo K n q) ∧ gr_cf K (b + 1) = some ((1, b) :: (1, gr_bo K n q) :: L, 0) := by
  have hq0 : q ≠ 0 := by rintro rfl; have := (gr_k01 hn).2; omega
  obtain ⟨L0, e0, hc⟩ := gr_exle hn (Nat.le_of_lt hq)
  obtain ⟨c1, hc1, hs⟩ := gr_step hn hq hc
  have main : ∃ p L, L0 = (1, p) :: L ∧ e0 = 0 ∧ c1 = ((3, q) :: (1, p) :: L, 0) := by
    rcases gr_cases hs with ⟨L2, e2, e3, r1, r2, h3⟩ | ⟨t1, p1, L2, e3, r1, r2, h3⟩ | ⟨t1, p1, L2, u, e3, r1, r2, h3⟩ | ⟨t1, p1, L2, u, r1, r2, h3⟩ | ⟨t1, p1, L2, r1, r2, h3⟩
    · simp only [gr_c1] at h3; omega
    · simp only [gr_c2] at h3; omega
    · cases r1
      have h4 : t1 = 1 ∧ u = 3 ∧ e3 = 0 := by simp only [gr_c3] at h3; omega
      obtain ⟨rfl, rfl, rfl⟩ := h4
      refine ⟨p1, L2, rfl, rfl, ?_⟩
      rw [r2]; simp [gr_n, hk]
    · simp only [gr_c4] at h3; omega
    · simp only [gr_c5] at h3; omega
  obtain ⟨p, L, rfl, rfl, rfl⟩ := main
  have hbo : gr_bo K n q = p := gr_bo_c hq (by omega) (by omega) (by omega) hc (gr_cb_12 (.inl rfl))
  rw [hbo]
  obtain ⟨b, a1, a2, a3, a4, a5⟩ := gr_params hn (n - (q + 1)) (q + 1) q ((1, p) :: L) (Nat.le_refl _) (by omega) (by omega) hc1
  have hb := a4 b a1 (Nat.le_refl _)
  refine ⟨b, L, by omega, a2, a3, hc, ?_, fun i hi hib => a5 i hi hib, ?_, ?_, ?_⟩
  · intro i hi hib
    exact ⟨a4 i hi hib, gr_bo_q (b - i) i b (by omega) a2 a3 (fun j hj hjb => a5 j (by omega) hjb)⟩
  · exact (gr_top3 b _ _ (by omega) hb q _ rfl).1
  · simp [gr_pa, hb, gr_cb]
  · rw [gr_next hb]; simp [gr_st, a3]
/-- a BEGIN and its procedure -/
theorem gr_beg {K : Nat → Nat} {n b : Nat} (hn : gr_cf K n = some ([], 0)) (hb : b < n) (h0 : b ≠ 0) (hk : K b = 1) :
    ∃ q, q < b ∧ K q = 4 ∧ gr_np K b = gr_np K (q + 1) ∧ (∀ i, q < i → i < b → K i = 5 ∨ K i = 6) ∧ gr_pa K b = some (gr_bo K n q) := by
  obtain ⟨L0, e0, hc⟩ := gr_exle hn (Nat.le_of_lt hb)
  obtain ⟨q, L, rfl⟩ := (gr_k3 hn (by omega) hb hc).mp (.inl hk)
  have hkq : K q = 4 := by
    have := (gr_kinds b _ _ (by omega) hc).1
    simp only at this; omega
  have hqb : q < b := (gr_sorted b _ _ (by omega) hc).1
  obtain ⟨b', L', c1, c2, c3, c4, c5, c6, c7, c8, c9⟩ := gr_proc hn (by omega) hkq
  have : b' = b := by
    by_cases h1 : b < b'
    · have := c6 b hqb h1; omega
    · by_cases h2 : b' < b
      · have := gr_gone (by omega) (c5 b' c1 (Nat.le_refl _)).1 (.inl ⟨c3, rfl⟩) h2 hc (3, q) (by simp)
        exact absurd rfl this
      · omega
  subst this
  exact ⟨q, hqb, hkq, c7, c6, c8⟩
theorem gr_np_lt {K : Nat → Nat} {n b b' : Nat} (hn : gr_cf K n = some ([], 0)) (hb' : b' < n) (hk : K b = 1) (hk' : K b' = 1) (h : b < b') : gr_np K b < gr_np K b' := by
  obtain ⟨q, a1, a2, a3, a4, a5⟩ := gr_beg hn hb' (by omega) hk'
  have : b ≤ q := by
    by_cases h1 : q < b
    · have := a4 b h1 h; omega
    · omega
  have h2 := @gr_np_mono K b q this
  rw [gr_np_4 a2] at a3
  omega
theorem gr_np_inj {K : Nat → Nat} {n b b' : Nat} (hn : gr_cf K n = some ([], 0)) (hb : b < n) (hb' : b' < n) (hk : K b = 1) (hk' : K b' = 1) : gr_np K b = gr_np K b' ↔ b = b' := by
  constructor
  · intro h
    by_cases h1 : b < b'
    · have := gr_np_lt hn hb' hk hk' h1; omega
    · by_cases h2 : b' < b
      · have := gr_np_lt hn hb hk' hk h2; omega
      · omega
  · rintro rfl; rfl
theorem gr_pa_lt {K : Nat → Nat} {n b b' : Nat} (hn : gr_cf K n = some ([], 0)) (hb : b < n) (hk : K b = 1) (h : gr_pa K b = some b') : b' < b ∧ K b' = 1 ∧ gr_np K b' < gr_np K b := by
  have h0 : b ≠ 0 := by rintro rfl; simp [gr_pa, gr_cf, gr_cb] at h
  obtain ⟨q, a1, a2, a3, a4, a5⟩ := gr_beg hn hb h0 hk
  rw [a5] at h
  injection h with h
  obtain ⟨L, e, hc⟩ := gr_exle hn (show q ≤ n by omega)
  have hx := gr_xbo hn (show q < n by omega) hc
  rw [h] at hx
  obtain ⟨b2, L2, c1, c2, c3, c4, c5, c6, c7, c8, c9⟩ := gr_proc hn (show q < n by omega) a2
  have hq1 : 1 ≤ q := by
    have := gr_k01 hn
    by_cases e : q = 0
    · subst e; omega
    · omega
  rw [h] at c4
  have hlt : b' < q := (gr_sorted q _ _ hq1 c4).1
  exact ⟨by omega, hx.2.1, gr_np_lt hn hb hx.2.1 hk (by omega)⟩
theorem gr_pa_no {K : Nat → Nat} {n b : Nat} (hn : gr_cf K n = some ([], 0)) (hb : b < n) (hk : K b = 1) (h : gr_pa K b = none) : b = 0 := by
  by_cases h0 : b = 0
  · exact h0
  · obtain ⟨q, a1, a2, a3, a4, a5⟩ := gr_beg hn hb h0 hk
    rw [a5] at h; cases h
