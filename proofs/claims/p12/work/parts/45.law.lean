def la_u0 (lim : Nat) : St2 := (nI lim, 0, 0, 0, 0, 0, 0, 0, 0, 0, 0, fun _ => 0, fun _ => 0, fun _ => 0, fun _ => 0, fun _ => 0, fun _ => 0, fun _ => 0, fun _ => 0, fun _ => 0, fun _ => 0, fun _ => 0, fun _ => 0, fun _ => 0, fun _ => 0, fun _ => 0, fun _ => 0, fun _ => 0, fun _ => 0, fun _ => 0, fun _ => 0, fun _ => 0, fun _ => 0, fun _ => 0, fun _ => 0)
theorem la_u0e (lim : Nat) : pt_edt lim (la_u0 lim) := ⟨fun _ => 0, fun _ => 0, 0, rfl, rfl, rfl, ⟨by omega, fun i hi => by omega, fun i hi => by omega⟩⟩
theorem la_clamp (x : Int32) : ∃ lim, 1 ≤ lim ∧ lim ≤ 16 ∧ ∀ q : Int32 → Prop, q (nI lim) → wpX_clamp q () x 1 16 := by
  by_cases h1 : 1 ≤ x
  · by_cases h2 : x ≤ 16
    · obtain ⟨lim, hl, rfl⟩ := nI_of2 (x := x) (M := 16) (n := 16) (by decide) (Int32.not_lt.mpr (Int32.le_trans (by decide) h1)) h2
      have hl1 : 1 ≤ lim := by
        by_cases e : lim = 0
        · subst e; exact absurd h1 (by decide)
        · omega
      exact ⟨lim, hl1, hl, fun q hq => br_t h1 (br_t h2 hq)⟩
    · exact ⟨16, by omega, by omega, fun q hq => br_t h1 (br_f h2 hq)⟩
  · exact ⟨1, by omega, by omega, fun q hq => br_f h1 hq⟩
theorem la_init (x : Int32) : ∃ lim, 1 ≤ lim ∧ lim ≤ 16 ∧ ∀ post : St2 → Prop, post (la_u0 lim) → wpX_init post 24 3584 (0, 0, 0, 0, 0, 0, 0, 0, 0, 0, 0) x := by
  obtain ⟨lim, l1, l2, hc⟩ := la_clamp x
  refine ⟨lim, l1, l2, fun post hp => ?_⟩
  unfold wpX_init
  exact ⟨by decide, by decide, by decide, by decide, by decide, by decide, by decide, by decide, by decide, by decide, by decide, by decide, by decide, by decide, by decide, by decide, by decide, by decide, by decide, by decide, by decide, by decide, by decide, by decide, by decide, by decide, by decide, by decide, by decide, by decide, by decide, by decide, by decide, by decide, by decide, by decide, by decide, by decide, by decide, by decide, by decide, by decide, by decide, by decide, by decide, by decide, by decide, by decide, hc _ hp⟩
theorem i_vc (xs : Nat → Int32) (L : Nat) (hL : L ≤ 260) : wpL_law (fun r => r = 1) L xs := by
  unfold wpL_law
  refine de_cell hL 0 rfl (by decide) (fun r => ⟨by decide, ?_⟩)
  intro x1 _
  obtain ⟨lim, l1, l2, hi⟩ := la_init x1
  refine ⟨24, 3584, by decide, by decide, hi _ ?_⟩
  refine ⟨by decide, by decide, 24, 3584, by decide, by decide, hi _ ?_⟩
  exact ⟨14, la_34 hL l2 13 0 14 8 (la_u0 lim) (by omega) (by omega) (by omega) (la_u0e lim)⟩
