/-- a parameter's body -/
theorem gr_bo_par {K : Nat → Nat} {n j : Nat} (hn : gr_cf K n = some ([], 0)) (hj : j < n) (hk : K j = 5 ∨ K j = 6) :
    j < gr_bo K n j ∧ ∀ i, j ≤ i → i < gr_bo K n j → K i = 5 ∨ K i = 6 := by
  have h1 : 1 ≤ j := by
    have := (gr_k01 hn).2
    by_cases e : j = 0
    · subst e; omega
    · omega
  obtain ⟨L, e, hc⟩ := gr_exle hn (Nat.le_of_lt hj)
  obtain ⟨p, L', rfl⟩ := (gr_k3 hn h1 hj hc).mp (.inr hk)
  have he := (gr_top3 j _ _ h1 hc p L' rfl).2
  subst he
  obtain ⟨q, a1, a2, a3, a4, a5⟩ := gr_params hn (n - j) j p L' (Nat.le_refl _) (by omega) h1 hc
  rw [gr_bo_q (q - j) j q (by omega) a2 a3 a5]
  refine ⟨?_, a5⟩
  by_cases e : j = q
  · subst e; omega
  · omega
/-- the parameters of the body at b are just those between the procedure and b -/
theorem gr_parOf {K : Nat → Nat} {n q b j : Nat} (hn : gr_cf K n = some ([], 0)) (hq : q < n) (hk : K q = 4) (hqb : q < b) (hb : b < n) (hkb : K b = 1) (hp : ∀ i, q < i → i < b → K i = 5 ∨ K i = 6) (hj : j < n) :
    ((K j = 5 ∨ K j = 6) ∧ gr_np K (gr_bo K n j) = gr_np K b) ↔ q < j ∧ j < b := by
  obtain ⟨L, e, hc⟩ := gr_exle hn (Nat.le_of_lt hj)
  have hx := gr_xbo hn hj hc
  constructor
  · rintro ⟨h1, h2⟩
    have h3 := (gr_np_inj hn hx.2.2 hb hx.2.1 hkb).mp h2
    have h4 := gr_bo_par hn hj h1
    rw [h3] at h4
    refine ⟨?_, h4.1⟩
    by_cases h5 : j ≤ q
    · have := h4.2 q h5 hqb; omega
    · omega
  · rintro ⟨h1, h2⟩
    refine ⟨hp j h1 h2, ?_⟩
    rw [gr_bo_q (b - j) j b (by omega) hb hkb (fun i h3 h4 => hp i (by omega) h4)]
theorem gr_pn_q {K : Nat → Nat} {n q b : Nat} (hn : gr_cf K n = some ([], 0)) (hq : q < n) (hk : K q = 4) (hqb : q < b) (hb : b < n) (hkb : K b = 1) (hp : ∀ i, q < i → i < b → K i = 5 ∨ K i = 6) :
    ∀ j, j ≤ n → gr_pn K n (gr_np K b) j = min j b - (q + 1) := by
  intro j
  induction j with
  | zero => intro _; simp [gr_pn, gr_ct]
  | succ j ih =>
    intro hj
    have ih := ih (by omega)
    have h1 := gr_parOf hn hq hk hqb hb hkb hp (show j < n by omega)
    unfold gr_pn at ih ⊢
    by_cases h2 : q < j ∧ j < b
    · rw [gr_ct_t (decide_eq_true (h1.mpr h2)), ih]; omega
    · rw [gr_ct_f (by rw [decide_eq_true_iff]; exact fun h => h2 (h1.mp h)), ih]; omega
/-- the target of a declaration -/
def lo_tg (K : Nat → Nat) (d : Nat) : Nat := if K d = 4 then gr_np K (d + 1) else if K d = 10 then d + 1 else 0
/-- token j's body by number -/
def lo_x (K : Nat → Nat) (n j : Nat) : Nat := gr_np K (gr_bo K n j)
/-- no name twice among the first i tokens -/
def lo_N (K V : Nat → Nat) (n i : Nat) : Prop := ∀ c d, c < d → d < i → gr_D (K c) → gr_D (K d) → lo_x K n d = lo_x K n c → V d = V c → False
/-- the tables of declarations hold the first i tokens -/
def lo_T (K V : Nat → Nat) (n i : Nat) (dk dt : Nat → Int32) : Prop :=
  (∀ d, d < i → gr_D (K d) → dk (lo_x K n d * 16 + V d) = nI (K d) ∧ dt (lo_x K n d * 16 + V d) = nI (lo_tg K d)) ∧
  (∀ k x, k < 16 → x < 16 → (∀ d, d < i → gr_D (K d) → lo_x K n d = k → V d = x → False) → dk (k * 16 + x) = 0 ∧ dt (k * 16 + x) = 0)
theorem lo_us {f : Nat → Int32} {k : Nat} {x : Int32} : upd f k x k = x := by simp [upd]
theorem lo_un {f : Nat → Int32} {k j : Nat} {x : Int32} (h : j ≠ k) : upd f k x j = f j := by simp [upd, h]
theorem lo_ix {a b x y : Nat} (hx : x < 16) (hy : y < 16) (h : a * 16 + x = b * 16 + y) : a = b ∧ x = y := by omega
theorem lo_N_n {K V : Nat → Nat} {n i : Nat} (h : lo_N K V n i) (hk : ¬ gr_D (K i)) : lo_N K V n (i + 1) := by
  intro c d hcd hd h1 h2
  by_cases e : d = i
  · subst e; exact absurd h2 hk
  · exact h c d hcd (by omega) h1 h2
theorem lo_T_n {K V : Nat → Nat} {n i : Nat} {dk dt : Nat → Int32} (h : lo_T K V n i dk dt) (hk : ¬ gr_D (K i)) : lo_T K V n (i + 1) dk dt := by
  refine ⟨fun d hd h1 => ?_, fun k x hk2 hx h1 => h.2 k x hk2 hx (fun d hd => h1 d (by omega))⟩
  by_cases e : d = i
  · subst e; exact absurd h1 hk
  · exact h.1 d (by omega) h1
/-- a declaration that is new -/
theorem lo_T_d {K V : Nat → Nat} {n i : Nat} {dk dt : Nat → Int32} (h : lo_T K V n i dk dt) (hN : lo_N K V n i) (hV : ∀ d, d ≤ i → gr_D (K d) → V d < 16) (hk : gr_D (K i)) (h0 : dk (lo_x K n i * 16 + V i) = 0) (hK : ∀ d, d ≤ i → K d < 27) :
    lo_N K V n (i + 1) ∧ lo_T K V n (i + 1) (upd dk (lo_x K n i * 16 + V i) (nI (K i))) (upd dt (lo_x K n i * 16 + V i) (nI (lo_tg K i))) := by
  have hno : ∀ d, d < i → gr_D (K d) → lo_x K n d = lo_x K n i → V d = V i → False := by
    intro d hd h1 h2 h3
    have h4 := (h.1 d hd h1).1
    rw [h2, h3, h0] at h4
    have h5 := hK d (by omega)
    have h6 : gr_D (K d) := h1
    have : nI (K d) = nI 0 := by rw [← h4]; rfl
    rw [nI_eq (by omega) (by omega)] at this
    simp only [gr_D] at h6
    omega
  refine ⟨?_, ?_, ?_⟩
  · intro c d hcd hd h1 h2 h3 h4
    by_cases e : d = i
    · subst e; exact hno c hcd h1 h3.symm h4.symm
    · exact hN c d hcd (by omega) h1 h2 h3 h4
  · intro d hd h1
    by_cases e : d = i
    · subst e; exact ⟨lo_us, lo_us⟩
    · have hne : lo_x K n d * 16 + V d ≠ lo_x K n i * 16 + V i := by
        intro e2
        have := lo_ix (hV d (by omega) h1) (hV i (Nat.le_refl _) hk) e2
        exact hno d (by omega) h1 this.1 this.2
      rw [lo_un hne, lo_un hne]
      exact h.1 d (by omega) h1
  · intro k x hk2 hx h1
    have hne : k * 16 + x ≠ lo_x K n i * 16 + V i := by
      intro e2
      have := lo_ix hx (hV i (Nat.le_refl _) hk) e2
      exact h1 i (by omega) hk this.1.symm this.2.symm
    rw [lo_un hne, lo_un hne]
    exact h.2 k x hk2 hx (fun d hd => h1 d (by omega))
/-- a declaration that is there already -/
theorem lo_T_2 {K V : Nat → Nat} {n i : Nat} {dk dt : Nat → Int32} (h : lo_T K V n i dk dt) (hV : V i < 16) (hx : lo_x K n i < 16) (hk : gr_D (K i)) (h0 : ¬ dk (lo_x K n i * 16 + V i) = 0) : ¬ lo_N K V n (i + 1) := by
  intro hN
  refine h0 (h.2 _ _ hx hV ?_).1
  intro d hd h1 h2 h3
  exact hN d i hd (by omega) h1 hk h2.symm h3.symm
theorem lo_N_up {K V : Nat → Nat} {n i j : Nat} (h : ¬ lo_N K V n i) (hij : i ≤ j) : ¬ lo_N K V n j :=
  fun h2 => h (fun c d h3 h4 => h2 c d h3 (by omega))
theorem lo_N_iff {K V : Nat → Nat} {n : Nat} (hn : gr_cf K n = some ([], 0)) : lo_N K V n n ↔ gr_ND K V n := by
  have hx : ∀ c d, c < n → d < n → (lo_x K n d = lo_x K n c ↔ gr_bo K n d = gr_bo K n c) := by
    intro c d hc hd
    obtain ⟨L, e, h1⟩ := gr_exle hn (Nat.le_of_lt hc)
    obtain ⟨L', e', h2⟩ := gr_exle hn (Nat.le_of_lt hd)
    have x1 := gr_xbo hn hc h1
    have x2 := gr_xbo hn hd h2
    exact gr_np_inj hn x2.2.2 x1.2.2 x2.2.1 x1.2.1
  constructor
  · intro h c d h1 h2 h3 h4 h5 h6
    exact h c d h1 h2 h3 h4 ((hx c d (by omega) h2).mpr h5) h6
  · intro h c d h1 h2 h3 h4 h5 h6
    exact h c d h1 h2 h3 h4 ((hx c d (by omega) h2).mp h5) h6
/-- the numbers of the unclosed bodies, the innermost first -/
def lo_ob (K : Nat → Nat) : List (Nat × Nat) → List Nat
  | [] => []
  | f :: L => if f.1 = 1 ∨ f.1 = 2 then gr_np K f.2 :: lo_ob K L else if f.1 = 3 then gr_np K (f.2 + 1) :: lo_ob K L else lo_ob K L
theorem lo_xb_le {K : Nat → Nat} : ∀ (L : List (Nat × Nat)) (i : Nat), gr_so i L → gr_xb K L ≤ gr_np K i ∧ ∀ k, k ∈ lo_ob K L → k ≤ gr_np K i := by
  intro L
  induction L with
  | nil => intro i _; exact ⟨Nat.zero_le _, fun k hk => by simp [lo_ob] at hk⟩
  | cons f L ih =>
    intro i h
    obtain ⟨t, p⟩ := f
    have h1 : p < i := h.1
    have m1 := @gr_np_mono K p i (by omega)
    have m2 := @gr_np_mono K (p + 1) i h1
    have ih := ih p h.2
    simp only [gr_xb, lo_ob]
    by_cases t1 : t = 1 ∨ t = 2
    · rw [if_pos t1, if_pos t1]
      refine ⟨m1, fun k hk => ?_⟩
      rcases List.mem_cons.mp hk with rfl | hk
      · exact m1
      · exact Nat.le_trans (ih.2 k hk) m1
    · rw [if_neg t1, if_neg t1]
      by_cases t3 : t = 3
      · rw [if_pos t3, if_pos t3]
        refine ⟨m2, fun k hk => ?_⟩
        rcases List.mem_cons.mp hk with rfl | hk
        · exact m2
        · exact Nat.le_trans (ih.2 k hk) m1
      · rw [if_neg t3, if_neg t3]
        exact ⟨Nat.le_trans ih.1 m1, fun k hk => Nat.le_trans (ih.2 k hk) m1⟩
theorem lo_hd {K : Nat → Nat} : ∀ (L : List (Nat × Nat)), lo_ob K L = [] ∧ gr_xb K L = 0 ∨ ∃ M, lo_ob K L = gr_xb K L :: M := by
  intro L
  induction L with
  | nil => exact .inl ⟨rfl, rfl⟩
  | cons f L ih =>
    simp only [gr_xb, lo_ob]
    by_cases t1 : f.1 = 1 ∨ f.1 = 2
    · rw [if_pos t1, if_pos t1]; exact .inr ⟨_, rfl⟩
    · rw [if_neg t1, if_neg t1]
      by_cases t3 : f.1 = 3
      · rw [if_pos t3, if_pos t3]; exact .inr ⟨_, rfl⟩
      · rw [if_neg t3, if_neg t3]; exact ih
theorem lo_x_le {K : Nat → Nat} {n j : Nat} (hn : gr_cf K n = some ([], 0)) (hj : j < n) : lo_x K n j ≤ gr_np K j := by
  obtain ⟨L, e, hc⟩ := gr_exle hn (Nat.le_of_lt hj)
  have hx := gr_xbo hn hj hc
  unfold lo_x
  rw [hx.1]
  by_cases h0 : j = 0
  · subst h0
    simp only [gr_cf, Option.some.injEq, Prod.mk.injEq] at hc
    rw [← hc.1]
    exact Nat.zero_le _
  · exact (lo_xb_le L j (gr_sorted j _ _ (by omega) hc)).1
theorem lo_cnt0 {K : Nat → Nat} {n k : Nat} (hn : gr_cf K n = some ([], 0)) : ∀ i, i ≤ n → gr_np K i < k → gr_dn K n k i = 0 ∧ gr_pn K n k i = 0 := by
  intro i
  induction i with
  | zero => intro _ _; exact ⟨rfl, rfl⟩
  | succ i ih =>
    intro hi hk
    have m := @gr_np_mono K i (i + 1) (by omega)
    have ih := ih (by omega) (by omega)
    have hx := lo_x_le hn (show i < n by omega)
    unfold lo_x at hx
    have ne : gr_np K (gr_bo K n i) ≠ k := by omega
    constructor
    · unfold gr_dn at ih ⊢
      rw [gr_ct_f (by simp [ne])]; exact ih.1
    · unfold gr_pn at ih ⊢
      rw [gr_ct_f (by simp [ne])]; exact ih.2
theorem lo_dn_n {K : Nat → Nat} {n k i : Nat} (h : ¬ (gr_D (K i) ∧ lo_x K n i = k)) : gr_dn K n k (i + 1) = gr_dn K n k i := by
  unfold gr_dn
  rw [gr_ct_f]
  rw [decide_eq_true_iff]
  exact h
theorem lo_dn_y {K : Nat → Nat} {n k i : Nat} (h : gr_D (K i) ∧ lo_x K n i = k) : gr_dn K n k (i + 1) = gr_dn K n k i + 1 := by
  unfold gr_dn
  exact gr_ct_t (decide_eq_true h)
theorem lo_pn_n {K : Nat → Nat} {n k i : Nat} (h : ¬ ((K i = 5 ∨ K i = 6) ∧ lo_x K n i = k)) : gr_pn K n k (i + 1) = gr_pn K n k i := by
  unfold gr_pn
  rw [gr_ct_f]
  rw [decide_eq_true_iff]
  exact h
theorem lo_pn_y {K : Nat → Nat} {n k i : Nat} (h : (K i = 5 ∨ K i = 6) ∧ lo_x K n i = k) : gr_pn K n k (i + 1) = gr_pn K n k i + 1 := by
  unfold gr_pn
  exact gr_ct_t (decide_eq_true h)
theorem lo_dn_le {K : Nat → Nat} {n k i : Nat} : gr_dn K n k i ≤ i ∧ gr_pn K n k i ≤ i := ⟨gr_ct_le i, gr_ct_le i⟩
theorem lo_dn_mono {K : Nat → Nat} {n k i j : Nat} (h : i ≤ j) : gr_dn K n k i ≤ gr_dn K n k j ∧ gr_pn K n k i ≤ gr_pn K n k j := ⟨gr_ct_mono h, gr_ct_mono h⟩
/-- what lies below an unclosed body is what lay there at its BEGIN -/
def lo_sf (K : Nat → Nat) : List (Nat × Nat) → Prop
  | [] => True
  | f :: L => ((f.1 = 1 ∨ f.1 = 2) → f.2 ≠ 0 → ∃ q, gr_cf K f.2 = some ((3, q) :: L, 0)) ∧ lo_sf K L
theorem lo_suf {K : Nat → Nat} : ∀ i L e, 1 ≤ i → gr_cf K i = some (L, e) → lo_sf K L := by
  refine gr_ind (fun i L e => lo_sf K L) ?_ ?_ ?_ ?_ ?_ ?_
  · intro _; exact ⟨fun _ h => absurd rfl h, trivial⟩
  · intro i L e e' _ _ h _; exact h
  · intro i t p L e' _ _ h _
    refine ⟨fun h1 h2 => h.1 ?_ h2, h.2⟩
    have := @gr_n_t (K i) t
    simp only at h1 ⊢
    omega
  · intro i t p L u e' _ _ h hc
    refine ⟨fun h1 _ => ?_, fun h1 h2 => h.1 ?_ h2, h.2⟩
    · simp only [gr_c3] at hc
      simp only at h1
      omega
    · have := @gr_n_t (K i) t
      simp only at h1 ⊢
      omega
  · intro i t p L u h1 hcf h hc
    refine ⟨fun h2 _ => ?_, h.2⟩
    have ht : t = 3 := by
      have hsh := gr_shape i _ _ h1 hcf
      have h0 : t ≠ 0 := by
        cases L with
        | nil => have := hsh.1; simp only at this; omega
        | cons g L2 => have := hsh.1; simp only [gr_S] at this; omega
      simp only [gr_c4] at hc
      simp only at h2
      omega
    subst ht
    exact ⟨p, hcf⟩
  · intro i t p L _ _ h _; exact h.2
/-- the body around an END -/
theorem lo_out {K : Nat → Nat} {n i t p : Nat} {L : List (Nat × Nat)} (hn : gr_cf K n = some ([], 0)) (h1 : 1 ≤ i) (hi : i < n) (hc : gr_cf K i = some ((t, p) :: L, 0)) (ht : t = 1 ∨ t = 2) :
    (p = 0 ∧ L = []) ∨ (p ≠ 0 ∧ ∃ q p0 L', q < p ∧ K q = 4 ∧ gr_np K p = gr_np K (q + 1) ∧ L = (1, p0) :: L' ∧ gr_bo K n q = p0 ∧ K p = 1) := by
  have hsh := gr_shape i _ _ h1 hc
  have hso := gr_sorted i _ _ h1 hc
  have hkp : K p = 1 := by have := (gr_kinds i _ _ h1 hc).1; simp only at this; omega
  cases L with
  | nil => exact .inl ⟨hsh.2, rfl⟩
  | cons g L =>
    right
    have hg : g.1 = 1 := by have := hsh.1; simp only [gr_S] at this; omega
    have h0 : p ≠ 0 := by
      have h2 : g.2 < p := hso.2.1
      omega
    refine ⟨h0, ?_⟩
    have hpi : p < i := hso.1
    obtain ⟨q, a1, a2, a3, a4, a5⟩ := gr_beg hn (by omega) h0 hkp
    obtain ⟨q', hq'⟩ := (lo_suf i _ _ h1 hc).1 ht h0
    have h4 : gr_pa K p = some g.2 := by
      unfold gr_pa
      simp only at hq'
      rw [hq']
      simp only
      rw [gr_cb_456 (by omega)]
      exact gr_cb_12 (.inl hg)
    rw [a5] at h4
    injection h4 with h4
    obtain ⟨g1, g2⟩ := g
    simp only at hg h4
    subst hg
    exact ⟨q, g2, L, a1, a2, a3, rfl, h4, hkp⟩
