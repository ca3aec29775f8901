def xl_A (K : Nat → Nat) (n i : Nat) (tb : Nat → Int32) : Prop := ∀ j, j < i → tb j = nI (lo_x K n j)
def xl_B (K : Nat → Nat) (n i : Nat) (bp : Nat → Int32) : Prop := bp 0 = 0 ∧ ∀ q, q < i → K q = 4 → bp (gr_np K (q + 1)) = nI (lo_x K n q)
def xl_C (K : Nat → Nat) (n i : Nat) (dc pc : Nat → Int32) : Prop := ∀ k, k ≤ gr_np K i → dc k = nI (gr_dn K n k i) ∧ pc k = nI (gr_pn K n k i)
def xl_N (K V : Nat → Nat) (n i : Nat) (pm : Nat → Int32) : Prop := ∀ j, j < i → (K j = 5 ∨ K j = 6) → gr_pn K n (lo_x K n j) j < 4 → pm (lo_x K n j * 4 + gr_pn K n (lo_x K n j) j) = nI (V j)
def xl_T (K V : Nat → Nat) (n i : Nat) (tw : Int32) (dk dt : Nat → Int32) : Prop := (tw = 0 ∧ lo_N K V n i ∧ lo_T K V n i dk dt) ∨ (tw = 1 ∧ ¬ lo_N K V n i)
theorem xl_A_s {K : Nat → Nat} {n i : Nat} {tb : Nat → Int32} (h : xl_A K n i tb) : xl_A K n (i + 1) (upd tb i (nI (lo_x K n i))) := by
  intro j hj
  by_cases e : j = i
  · subst e; exact lo_us
  · rw [lo_un e]; exact h j (by omega)
theorem xl_B_n {K : Nat → Nat} {n i : Nat} {bp : Nat → Int32} (h : xl_B K n i bp) (hk : K i ≠ 4) : xl_B K n (i + 1) bp := by
  refine ⟨h.1, fun q hq h4 => ?_⟩
  by_cases e : q = i
  · subst e; exact absurd h4 hk
  · exact h.2 q (by omega) h4
theorem xl_B_4 {K : Nat → Nat} {n i : Nat} {bp : Nat → Int32} (h : xl_B K n i bp) (hk : K i = 4) : xl_B K n (i + 1) (upd bp (gr_np K i + 1) (nI (lo_x K n i))) := by
  refine ⟨by rw [lo_un (by omega)]; exact h.1, fun q hq h4 => ?_⟩
  by_cases e : q = i
  · subst e; rw [gr_np_4 hk]; exact lo_us
  · have := @gr_np_mono K (q + 1) i (by omega)
    rw [lo_un (by omega)]; exact h.2 q (by omega) h4
theorem xl_C_n {K : Nat → Nat} {n i : Nat} {dc pc : Nat → Int32} (h : xl_C K n i dc pc) (hk : ¬ gr_D (K i)) : xl_C K n (i + 1) dc pc := by
  intro k hk2
  simp only [gr_D] at hk
  rw [gr_np_n (by omega)] at hk2
  rw [lo_dn_n (fun h2 => hk h2.1), lo_pn_n (fun h2 => by omega)]
  exact h k hk2
theorem xl_C_d {K : Nat → Nat} {n i : Nat} {dc pc : Nat → Int32} (h : xl_C K n i dc pc) (hx : lo_x K n i ≤ gr_np K i) (hk : K i = 3 ∨ K i = 10) : xl_C K n (i + 1) (upd dc (lo_x K n i) (dc (lo_x K n i) + 1)) pc := by
  intro k hk2
  rw [gr_np_n (by omega)] at hk2
  rw [lo_pn_n (fun h2 => by omega)]
  refine ⟨?_, (h k hk2).2⟩
  by_cases e : k = lo_x K n i
  · subst e
    rw [lo_us, lo_dn_y ⟨by simp only [gr_D]; omega, rfl⟩, (h _ hx).1, nI_1]
  · rw [lo_un e, lo_dn_n (fun h2 => e h2.2.symm)]; exact (h k hk2).1
theorem xl_C_p {K : Nat → Nat} {n i : Nat} {dc pc : Nat → Int32} (h : xl_C K n i dc pc) (hx : lo_x K n i ≤ gr_np K i) (hk : K i = 5 ∨ K i = 6) : xl_C K n (i + 1) (upd dc (lo_x K n i) (dc (lo_x K n i) + 1)) (upd pc (lo_x K n i) (pc (lo_x K n i) + 1)) := by
  intro k hk2
  rw [gr_np_n (by omega)] at hk2
  by_cases e : k = lo_x K n i
  · subst e
    rw [lo_us, lo_us, lo_dn_y ⟨by simp only [gr_D]; omega, rfl⟩, lo_pn_y ⟨hk, rfl⟩, (h _ hx).1, (h _ hx).2, nI_1, nI_1]
    exact ⟨rfl, rfl⟩
  · rw [lo_un e, lo_un e, lo_dn_n (fun h2 => e h2.2.symm), lo_pn_n (fun h2 => e h2.2.symm)]; exact h k hk2
theorem xl_C_4 {K : Nat → Nat} {n i : Nat} {dc pc : Nat → Int32} (hn : gr_cf K n = some ([], 0)) (hi : i < n) (h : xl_C K n i dc pc) (hx : lo_x K n i ≤ gr_np K i) (hk : K i = 4) :
    xl_C K n (i + 1) (upd (upd dc (lo_x K n i) (dc (lo_x K n i) + 1)) (gr_np K i + 1) 0) (upd pc (gr_np K i + 1) 0) := by
  intro k hk2
  rw [gr_np_4 hk] at hk2
  rw [lo_pn_n (fun h2 => by omega)]
  by_cases e : k = gr_np K i + 1
  · subst e
    have c := lo_cnt0 (k := gr_np K i + 1) hn i (by omega) (by omega)
    rw [lo_us, lo_us, lo_dn_n (fun h2 => by omega), c.1, c.2]
    exact ⟨rfl, rfl⟩
  · rw [lo_un e, lo_un e]
    refine ⟨?_, (h k (by omega)).2⟩
    by_cases e2 : k = lo_x K n i
    · subst e2
      rw [lo_us, lo_dn_y ⟨by simp only [gr_D]; omega, rfl⟩, (h _ hx).1, nI_1]
    · rw [lo_un e2, lo_dn_n (fun h2 => e2 h2.2.symm)]; exact (h k (by omega)).1
theorem xl_N_n {K V : Nat → Nat} {n i : Nat} {pm : Nat → Int32} (h : xl_N K V n i pm) (hk : ¬ (K i = 5 ∨ K i = 6)) : xl_N K V n (i + 1) pm := by
  intro j hj h1 h2
  by_cases e : j = i
  · subst e; exact absurd h1 hk
  · exact h j (by omega) h1 h2
theorem xl_N_4 {K V : Nat → Nat} {n i : Nat} {pm : Nat → Int32} (h : xl_N K V n i pm) (hp : ¬ gr_pn K n (lo_x K n i) i < 4) : xl_N K V n (i + 1) pm := by
  intro j hj h1 h2
  by_cases e : j = i
  · subst e; exact absurd h2 hp
  · exact h j (by omega) h1 h2
theorem xl_N_p {K V : Nat → Nat} {n i : Nat} {pm : Nat → Int32} (h : xl_N K V n i pm) (hk : K i = 5 ∨ K i = 6) (hp : gr_pn K n (lo_x K n i) i < 4) : xl_N K V n (i + 1) (upd pm (lo_x K n i * 4 + gr_pn K n (lo_x K n i) i) (nI (V i))) := by
  intro j hj h1 h2
  by_cases e : j = i
  · subst e; exact lo_us
  · rw [lo_un]
    · exact h j (by omega) h1 h2
    · intro e2
      have e3 : lo_x K n j = lo_x K n i := by omega
      rw [e3] at e2 h2
      have m : gr_pn K n (lo_x K n i) (j + 1) ≤ gr_pn K n (lo_x K n i) i := (lo_dn_mono (by omega)).2
      rw [lo_pn_y ⟨h1, e3⟩] at m
      omega
theorem xl_T_n {K V : Nat → Nat} {n i : Nat} {tw : Int32} {dk dt : Nat → Int32} (h : xl_T K V n i tw dk dt) (hk : ¬ gr_D (K i)) : xl_T K V n (i + 1) tw dk dt := by
  rcases h with ⟨a, b, c⟩ | ⟨a, b⟩
  · exact .inl ⟨a, lo_N_n b hk, lo_T_n c hk⟩
  · exact .inr ⟨a, lo_N_up b (by omega)⟩
theorem xl_T_d0 {K V : Nat → Nat} {n i : Nat} {tw : Int32} {dk dt : Nat → Int32} (h : xl_T K V n i tw dk dt) (hV : ∀ d, d ≤ i → gr_D (K d) → V d < 16) (hK : ∀ d, d ≤ i → K d < 27) (hk : gr_D (K i)) (h0 : dk (lo_x K n i * 16 + V i) = 0) :
    xl_T K V n (i + 1) tw (upd dk (lo_x K n i * 16 + V i) (nI (K i))) (upd dt (lo_x K n i * 16 + V i) (nI (lo_tg K i))) := by
  rcases h with ⟨a, b, c⟩ | ⟨a, b⟩
  · have := lo_T_d c b hV hk h0 hK
    exact .inl ⟨a, this.1, this.2⟩
  · exact .inr ⟨a, lo_N_up b (by omega)⟩
theorem xl_T_d1 {K V : Nat → Nat} {n i : Nat} {tw : Int32} {dk dt dk' dt' : Nat → Int32} (h : xl_T K V n i tw dk dt) (hV : V i < 16) (hx : lo_x K n i < 16) (hk : gr_D (K i)) (h0 : ¬ dk (lo_x K n i * 16 + V i) = 0) :
    xl_T K V n (i + 1) 1 dk' dt' := by
  rcases h with ⟨a, b, c⟩ | ⟨a, b⟩
  · exact .inr ⟨rfl, lo_T_2 c hV hx hk h0⟩
  · exact .inr ⟨rfl, lo_N_up b (by omega)⟩
