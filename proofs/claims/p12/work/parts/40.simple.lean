theorem de_359 {post : Int32 → Prop} {L : Nat} {xs : Nat → Int32} {x3 : Int32} (h : ∀ r, post r) : wL_simple_359 post L xs x3 := de_and (fun _ => h _) (fun _ => h _)
theorem de_303 {post : Int32 → Prop} {L : Nat} {xs : Nat → Int32} (hL : L ≤ 260) {b j : Nat} (hb : b < 2 ^ 20) (hj : j < 2 ^ 20) (h : ∀ r, post r) {x2 x7 x8 : Int32} : wL_simple_303 post L xs (nI b) x2 (nI j) x7 x8 := by
  refine de_and (fun _ => de_359 h) (fun _ => de_z (h _) (fun i hi => ?_))
  subst hi
  refine de_and (fun _ => ?_) (fun _ => de_expr1 hL hb (by omega) h)
  intro y _
  exact de_and (fun _ => de_and (fun _ => h _) (fun _ => fun z _ => de_359 h)) (fun _ => de_359 h)
theorem de_252 {post : Int32 → Prop} {L : Nat} {xs : Nat → Int32} (hL : L ≤ 260) {b j : Nat} (hb : b < 2 ^ 20) (hj : j < 2 ^ 20) (h : ∀ r, post r) {x2 x5 x6 z0 : Int32} : wL_simple_252 post L xs (nI b) x2 (nI j) x5 x6 z0 := by
  unfold wL_simple_252
  refine de_proc (fun q => de_z (h _) (fun i hi => ?_))
  subst hi
  refine nm_r (pk_m1 i) (de_and (fun _ => de_z (h _) (fun i2 hi2 => ?_)) (fun _ => de_303 hL hb (by omega) h))
  subst hi2
  exact nm_r (pk_m1 i2) (de_303 hL hb (by omega) h)
theorem de_226 {post : Int32 → Prop} {L : Nat} {xs : Nat → Int32} (hL : L ≤ 260) {b j : Nat} (hb : b < 2 ^ 20) (hj : j < 2 ^ 20) (h : ∀ r, post r) {x2 x4 x5 z0 : Int32} : wL_simple_226 post L xs (nI b) x2 (nI j) x4 x5 z0 := de_and (fun _ => de_252 hL hb hj h) (fun _ => de_and (fun _ => de_252 hL hb hj h) (fun _ => de_252 hL hb hj h))
theorem de_62 {post : Int32 → Prop} {L : Nat} {xs : Nat → Int32} (hL : L ≤ 260) {b j : Nat} (hb : b < 2 ^ 20) (hj : j < 2 ^ 20) (h : ∀ r, post r) {x2 x4 x5 : Int32} : wL_simple_62 post L xs (nI b) x2 (nI j) x4 x5 := by
  refine de_and (fun _ => de_z (de_var (fun _ => h _)) (fun i hi => ?_)) (fun _ => de_and (fun _ => de_z (h _) (fun i hi => ?_)) (fun _ => de_and (fun _ => de_and (fun _ => de_label (fun _ => h _)) (fun _ => h _)) (fun _ => de_and (fun _ => de_and (fun _ => h _) (fun _ => de_and (fun _ => h _) (fun _ => h _))) (fun _ => de_and (fun _ => de_226 hL hb hj h) (fun _ => de_and (fun _ => de_226 hL hb hj h) (fun _ => de_226 hL hb hj h))))))
  · subst hi; exact de_and (fun _ => h _) (fun _ => de_expr1 hL hb (by omega) h)
  · subst hi; exact de_and (fun _ => h _) (fun _ => de_expr1 hL hb (by omega) h)
theorem de_45 {post : Int32 → Prop} {L : Nat} {xs : Nat → Int32} (hL : L ≤ 260) {b j : Nat} (hb : b < 2 ^ 20) (hj : j < 2 ^ 20) (h : ∀ r, post r) {x2 x4 x5 : Int32} : wL_simple_45 post L xs (nI b) x2 (nI j) x4 x5 := by
  unfold wL_simple_45
  exact de_inner (fun _ => de_and (fun _ => de_and (fun _ => de_62 hL hb hj h) (fun _ => de_62 hL hb hj h)) (fun _ => de_62 hL hb hj h))
theorem de_29 {post : Int32 → Prop} {L : Nat} {xs : Nat → Int32} (hL : L ≤ 260) {b j : Nat} (hb : b < 2 ^ 20) (hj : j < 2 ^ 20) (h : ∀ r, post r) {x2 x4 x5 : Int32} : wL_simple_29 post L xs (nI b) x2 (nI j) x4 x5 := by
  unfold wL_simple_29
  exact de_inner (fun _ => de_and (fun _ => de_and (fun _ => de_45 hL hb hj h) (fun _ => de_45 hL hb hj h)) (fun _ => de_45 hL hb hj h))
theorem de_simple {post : Int32 → Prop} {L : Nat} {xs : Nat → Int32} (hL : L ≤ 260) {b j : Nat} (hb : b < 2 ^ 20) (hj : j < 2 ^ 20) (h : ∀ r, post r) {x2 : Int32} : wpL_simple post L xs () (nI b) x2 (nI j) := by
  unfold wpL_simple
  exact de_cell0 hL hb (fun _ => fun y _ => de_cell1 hL hb (fun _ => de_and (fun _ => de_29 hL hb hj h) (fun _ => de_29 hL hb hj h)))
theorem de_len2 {post : Int32 → Prop} {L : Nat} {xs : Nat → Int32} (hL : L ≤ 260) {b : Nat} (hb : b < 2 ^ 20) {x2 : Int32} (h : ∀ i, i ≤ 10 → post (nI i)) : ∀ r j fx : Nat, r + j = 10 → r < fx → wL_len_2 post L xs (nI b) x2 fx (nI j) := by
  intro r
  induction r with
  | zero =>
    intro j fx hr hf
    obtain ⟨f1, rfl⟩ : ∃ f1, fx = f1 + 1 := ⟨fx - 1, by omega⟩
    have e : j = 10 := by omega
    subst e
    exact br_t (nI_le (a := 10) (b := 10) (by omega) (by decide)) (h 10 (by omega))
  | succ r ih =>
    intro j fx hr hf
    obtain ⟨f1, rfl⟩ : ∃ f1, fx = f1 + 1 := ⟨fx - 1, by omega⟩
    have hn := ih (j + 1) f1 (by omega) (by omega)
    exact br_f (nI_ge (b := 10) (by omega) (by decide)) (de_simple hL hb (by omega) (fun c => de_and (fun _ => nm_r (nI_1 j) hn) (fun _ => h j (by omega))))
theorem de_len {post : Int32 → Prop} {L : Nat} {xs : Nat → Int32} (hL : L ≤ 260) {b : Nat} (hb : b < 2 ^ 20) {x2 : Int32} (h : ∀ i, i ≤ 10 → post (nI i)) : wpL_len post L xs () (nI b) x2 := by
  unfold wpL_len
  exact ⟨11, de_len2 hL hb h 10 0 11 (by omega) (by omega)⟩
theorem de_151 {post : Int32 → Prop} {L : Nat} {xs : Nat → Int32} {x4 : Int32} (h : ∀ r, post r) : wL_top_151 post L xs x4 := de_and (fun _ => h _) (fun _ => h _)
theorem de_top {post : Int32 → Prop} {L : Nat} {xs : Nat → Int32} (hL : L ≤ 260) {b j : Nat} (hb : b < 2 ^ 19) (hj : j < 2 ^ 19) {x2 : Int32} (h : ∀ r, post r) : wpL_top post L xs () (nI b) x2 (nI j) := by
  unfold wpL_top
  rw [show nI b + 5 = nI (b + 5) from nI_add b 5, show nI b + 10 = nI (b + 10) from nI_add b 10]
  refine de_cell0 hL (by omega) (fun _ => de_and (fun _ => de_z (h _) (fun i hi => ?_)) (fun _ => de_simple hL (by omega) (by omega) h))
  by_cases h4 : 4 ≤ j
  · refine br_t (nI_le (a := 4) h4 (by omega)) (nm_r (pk_sub (b := 4) h4) (de_len hL (by omega) (fun l hl => ?_)))
    by_cases hk : l ≤ j - 4
    · refine br_t (nI_le hk (by omega)) (nm_r (pk_sub hk) (de_cell1 hL (by omega) (fun _ => de_and (fun _ => de_151 h) (fun _ => de_z (h _) (fun i3 hi3 => ?_)))))
      rw [hi3]
      refine nm_r (pk_m1 i3) (de_len hL (by omega) (fun l2 hl2 => ?_))
      by_cases hk2 : l2 ≤ i3
      · exact br_t (nI_le hk2 (by omega)) (fun y _ => de_151 h)
      · exact br_f (nI_ge (by omega) (by omega)) (de_simple hL (by omega) (by omega) h)
    · exact br_f (nI_ge (by omega) (by omega)) (de_simple hL (by omega) (by omega) h)
  · refine br_f (nI_ge (b := 4) (by omega) (by decide)) ?_
    subst hi
    exact de_expr1 hL (by omega) (by omega) h
