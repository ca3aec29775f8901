/-- the activations 0 .. top: ab their bodies' BEGINs, ap their static parents -/
def ac_E (K : Nat → Nat) (n : Nat) (ab ap : Nat → Nat) (top : Nat) : Prop :=
  ∀ a, a ≤ top → ab a < n ∧ K (ab a) = 1 ∧ (a = 0 → ab a = 0) ∧ (a ≠ 0 → ap a < a ∧ gr_pa K (ab a) = some (ab (ap a)))
theorem ac_E_le {K : Nat → Nat} {n : Nat} {ab ap : Nat → Nat} {top top' : Nat} (h : ac_E K n ab ap top) (ht : top' ≤ top) : ac_E K n ab ap top' :=
  fun a ha => h a (Nat.le_trans ha ht)
/-- the nearest activation that declares x -/
def ac_al (K V : Nat → Nat) (n : Nat) (ab ap : Nat → Nat) (x : Nat) : Nat → Nat → Nat
  | 0, a => a
  | h + 1, a => match gr_dc K V n (ab a) x with
    | some _ => a
    | none => if a = 0 then 0 else ac_al K V n ab ap x h (ap a)
theorem ac_b0 {K : Nat → Nat} {n : Nat} {ab ap : Nat → Nat} {top a : Nat} (hn : gr_cf K n = some ([], 0)) (hE : ac_E K n ab ap top) (ha : a ≤ top) (h : gr_np K (ab a) = 0) : a = 0 := by
  by_cases h0 : a = 0
  · exact h0
  · obtain ⟨b1, b2, b3, b4⟩ := hE a ha
    have := gr_pa_lt hn b1 b2 (b4 h0).2
    omega
theorem ac_al_le {K V : Nat → Nat} {n x : Nat} {ab ap : Nat → Nat} {top : Nat} (hE : ac_E K n ab ap top) : ∀ (h a : Nat), a ≤ top → ac_al K V n ab ap x h a ≤ a := by
  intro h
  induction h with
  | zero => intro a _; exact Nat.le_refl _
  | succ h ih =>
    intro a ha
    simp only [ac_al]
    cases gr_dc K V n (ab a) x with
    | some d => exact Nat.le_refl _
    | none =>
      by_cases h0 : a = 0
      · simp only; rw [if_pos h0]; omega
      · simp only; rw [if_neg h0]
        have := ((hE a ha).2.2.2 h0).1
        have := ih (ap a) (by omega)
        omega
theorem ac_al_d {K V : Nat → Nat} {n x d : Nat} {ab ap : Nat → Nat} {top : Nat} (hn : gr_cf K n = some ([], 0)) (hE : ac_E K n ab ap top) : ∀ (h a : Nat), a ≤ top → gr_np K (ab a) ≤ h → gr_lk K V n (ab a) x = some d → gr_dc K V n (ab (ac_al K V n ab ap x h a)) x = some d := by
  intro h
  induction h with
  | zero =>
    intro a ha hp hl
    have h0 : a = 0 := ac_b0 hn hE ha (by omega)
    subst h0
    simp only [ac_al]
    have hb := (hE 0 ha).2.2.1 rfl
    cases hd : gr_dc K V n (ab 0) x with
    | some d' => rw [gr_lk_d hd] at hl; exact hl
    | none =>
      have hpa : gr_pa K (ab 0) = none := by rw [hb]; simp [gr_pa, gr_cf, gr_cb]
      rw [gr_lk_0 hd hpa] at hl
      cases hl
  | succ h ih =>
    intro a ha hp hl
    simp only [ac_al]
    cases hd : gr_dc K V n (ab a) x with
    | some d' => simp only; rw [gr_lk_d hd] at hl; rw [hd]; exact hl
    | none =>
      simp only
      obtain ⟨b1, b2, b3, b4⟩ := hE a ha
      by_cases h0 : a = 0
      · have hpa : gr_pa K (ab a) = none := by rw [b3 h0]; simp [gr_pa, gr_cf, gr_cb]
        rw [gr_lk_0 hd hpa] at hl
        cases hl
      · rw [if_neg h0]
        have c := b4 h0
        have := gr_pa_lt hn b1 b2 c.2
        rw [gr_lk_p hn b1 b2 hd c.2] at hl
        exact ih (ap a) (by omega) (by omega) hl
theorem ac_al_s {K V : Nat → Nat} {n x h a : Nat} {ab ap : Nat → Nat} (hd : gr_dc K V n (ab a) x ≠ none) : ac_al K V n ab ap x h a = a := by
  cases h with
  | zero => rfl
  | succ h =>
    simp only [ac_al]
    cases h2 : gr_dc K V n (ab a) x with
    | some d => rfl
    | none => exact absurd h2 hd
theorem ac_al_n {K V : Nat → Nat} {n x h a : Nat} {ab ap : Nat → Nat} (hd : gr_dc K V n (ab a) x = none) (h0 : a ≠ 0) : ac_al K V n ab ap x (h + 1) a = ac_al K V n ab ap x h (ap a) := by
  simp only [ac_al]
  rw [hd]
  simp only
  rw [if_neg h0]
theorem ac_al_0 {K V : Nat → Nat} {n x h : Nat} {ab ap : Nat → Nat} : ac_al K V n ab ap x h 0 = 0 := by
  cases h with
  | zero => rfl
  | succ h =>
    simp only [ac_al]
    cases gr_dc K V n (ab 0) x with
    | some d => rfl
    | none => rfl
