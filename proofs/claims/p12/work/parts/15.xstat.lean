/-- what the component's tables say once it has compiled -/
def sx_P (K : Nat → Nat) (n : Nat) (bp : Nat → Int32) : Prop := bp 0 = 0 ∧ ∀ b b', b < n → K b = 1 → gr_pa K b = some b' → bp (gr_np K b) = nI (gr_np K b')
def sx_D (K V : Nat → Nat) (n : Nat) (dk dt : Nat → Int32) : Prop := ∀ b x, b < n → K b = 1 → x < 16 →
  (gr_dc K V n b x = none → dk (gr_np K b * 16 + x) = 0 ∧ dt (gr_np K b * 16 + x) = 0) ∧ (∀ d, gr_dc K V n b x = some d → dk (gr_np K b * 16 + x) = nI (K d) ∧ dt (gr_np K b * 16 + x) = nI (lo_tg K d))
def sx_Q (K V : Nat → Nat) (n : Nat) (pc pm : Nat → Int32) : Prop := ∀ q b, q < n → K q = 4 → q < b → b < n → K b = 1 → (∀ i, q < i → i < b → K i = 5 ∨ K i = 6) →
  b - q - 1 ≤ 4 ∧ pc (gr_np K b) = nI (b - q - 1) ∧ ∀ i, i < b - q - 1 → pm (gr_np K b * 4 + i) = nI (V (q + 1 + i))
def sx_B (K : Nat → Nat) (n : Nat) (bs : Nat → Int32) : Prop := ∀ s b L, 1 ≤ s → s < n → gr_cf K s = some ((1, b) :: L, 0) → K s ≠ 3 → K s ≠ 4 → bs (gr_np K b) = nI s
theorem sx_P_of {K : Nat → Nat} {n : Nat} {bp : Nat → Int32} (hn : gr_cf K n = some ([], 0)) (h : xl_B K n n bp) : sx_P K n bp := by
  refine ⟨h.1, fun b b' hb hk hp => ?_⟩
  have h0 : b ≠ 0 := by rintro rfl; simp [gr_pa, gr_cf, gr_cb] at hp
  obtain ⟨q, a1, a2, a3, a4, a5⟩ := gr_beg hn hb h0 hk
  rw [a5] at hp
  injection hp with hp
  rw [a3, h.2 q (by omega) a2]
  unfold lo_x
  rw [hp]
theorem sx_D_of {K V : Nat → Nat} {n : Nat} {dk dt : Nat → Int32} (hn : gr_cf K n = some ([], 0)) (hL : gr_LM K n) (h : lo_T K V n n dk dt) : sx_D K V n dk dt := by
  intro b x hb hk hx
  have h15 : gr_np K b < 16 := by
    have := @gr_np_mono K b n (by omega)
    have := hL.1
    omega
  constructor
  · intro hd
    refine h.2 _ _ h15 hx (fun d hd2 h1 h2 h3 => ?_)
    obtain ⟨L, e, hc⟩ := gr_exle hn (Nat.le_of_lt hd2)
    have hxb := gr_xbo hn hd2 hc
    have := (gr_np_inj hn hxb.2.2 hb hxb.2.1 hk).mp h2
    exact gr_dc_none hd d hd2 this h3 h1
  · intro d hd
    obtain ⟨a1, a2, a3, a4⟩ := gr_dc_some hd
    have := h.1 d a1 a4
    unfold lo_x at this
    rw [a2, a3] at this
    exact this
theorem sx_Q_of {K V : Nat → Nat} {n : Nat} {dc pc pm : Nat → Int32} (hn : gr_cf K n = some ([], 0)) (hL : gr_LM K n) (hC : xl_C K n n dc pc) (hN : xl_N K V n n pm) : sx_Q K V n pc pm := by
  intro q b hq hk hqb hb hkb hp
  have hpn := gr_pn_q hn hq hk hqb hb hkb hp
  have hn1 := hpn n (Nat.le_refl _)
  have e1 : min n b - (q + 1) = b - q - 1 := by omega
  rw [e1] at hn1
  have hl := (hL.2 b hb hkb).2
  rw [hn1] at hl
  refine ⟨hl, ?_, fun i hi => ?_⟩
  · rw [(hC _ (gr_np_mono (by omega))).2, hn1]
  · have hx : lo_x K n (q + 1 + i) = gr_np K b := ((gr_parOf hn hq hk hqb hb hkb hp (show q + 1 + i < n by omega)).mpr ⟨by omega, by omega⟩).2
    have h2 := hpn (q + 1 + i) (by omega)
    have e2 : min (q + 1 + i) b - (q + 1) = i := by omega
    rw [e2] at h2
    have := hN (q + 1 + i) (by omega) (hp _ (by omega) (by omega)) (by rw [hx, h2]; omega)
    rw [hx, h2] at this
    exact this
/-- a use matches what is declared; 0: nothing -/
def sx_k (K : Nat → Nat) : Option Nat → Nat
  | some d => K d
  | none => 0
theorem sx_us {K V : Nat → Nat} {n i : Nat} : gr_us K V n i ↔ gr_mk (K i) (sx_k K (gr_lk K V n (gr_bo K n i) (V i))) := by
  unfold gr_us
  constructor
  · intro h
    by_cases hU : gr_U (K i)
    · obtain ⟨d, h1, h2⟩ := h hU
      rw [h1]; exact h2
    · simp only [gr_U] at hU
      refine ⟨fun h => by omega, fun h => by omega, fun h => by omega⟩
  · intro h hU
    cases hl : gr_lk K V n (gr_bo K n i) (V i) with
    | some d => rw [hl] at h; exact ⟨d, rfl, h⟩
    | none =>
      rw [hl] at h
      simp only [gr_mk, sx_k, gr_U] at h hU
      omega
