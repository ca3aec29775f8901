/-- W gives one answer, whatever is asked of it -/
def de_R (W : (Int32 → Prop) → Prop) : Prop := ∃ r, ∀ post : Int32 → Prop, post r → W post
theorem de_p (r : Int32) : de_R (fun post => post r) := ⟨r, fun _ h => h⟩
theorem de_br {c : Prop} {A B : (Int32 → Prop) → Prop} (ha : c → de_R A) (hb : ¬ c → de_R B) : de_R (fun post => (c → A post) ∧ (¬ c → B post)) := by
  by_cases h : c
  · obtain ⟨r, hr⟩ := ha h; exact ⟨r, fun post hp => br_t h (hr post hp)⟩
  · obtain ⟨r, hr⟩ := hb h; exact ⟨r, fun post hp => br_f h (hr post hp)⟩
theorem de_nm {e : Int32} {P : (Int32 → Prop) → Int32 → Prop} (h : de_R (fun post => P post e)) : de_R (fun post => ∀ x, x = e → P post x) := by
  obtain ⟨r, hr⟩ := h
  exact ⟨r, fun post hp => nm_e (hr post hp)⟩
theorem de_call {M : (Int32 → Prop) → Prop} {W : (Int32 → Prop) → Int32 → Prop} (hm : de_R M) (h : ∀ r, de_R (fun post => W post r)) : de_R (fun post => M (fun r => W post r)) := by
  obtain ⟨r, hr⟩ := hm
  obtain ⟨r', hr'⟩ := h r
  exact ⟨r', fun post hp => hr _ (hr' post hp)⟩
theorem de_cell {L : Nat} {xs : Nat → Int32} (hL : L ≤ 260) {p : Nat} (hp : p < 2 ^ 31) : de_R (fun post => wpL_cell post L xs () (nI p)) := by
  by_cases h : L ≤ p
  · exact ⟨0, fun post h2 => br_t (nI_le h hp) h2⟩
  · refine ⟨xs p, fun post h2 => br_f (nI_ge (by omega) (by omega)) ⟨vp_in_nI (by omega) (by omega), ?_⟩⟩
    rw [nI_clamp hp]
    exact h2
theorem de_inner (c : Int32) : de_R (fun post => wpL_inner post () c) := de_br (fun _ => de_p 1) (fun _ => de_br (fun _ => de_p 1) (fun _ => de_p 0))
theorem de_code (a b : Int32) : de_R (fun post => wpL_code post () a b) := de_p _
