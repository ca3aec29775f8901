theorem de_and {c A B : Prop} (a : c → A) (b : ¬ c → B) : (c → A) ∧ (¬ c → B) := ⟨a, b⟩
theorem de_z {A B : Prop} {j : Nat} (a : A) (b : ∀ i, j = i + 1 → B) : (nI j = 0 → A) ∧ (¬ nI j = 0 → B) := by
  cases j with
  | zero => exact ⟨fun _ => a, fun h => absurd rfl h⟩
  | succ i => exact ⟨fun _ => a, fun _ => b i rfl⟩
/-- the script's cell: any answer, where the index isn't negative -/
theorem de_cell {post : Int32 → Prop} {L : Nat} {xs : Nat → Int32} (hL : L ≤ 260) {x : Int32} (p : Nat) (hx : x = nI p) (hp : p < 2 ^ 31) (h : ∀ r, post r) : wpL_cell post L xs () x := by
  subst hx
  by_cases h2 : L ≤ p
  · exact br_t (nI_le h2 hp) (h _)
  · exact br_f (nI_ge (by omega) (by omega)) ⟨vp_in_nI (by omega) (by omega), h _⟩
theorem de_cell0 {post : Int32 → Prop} {L : Nat} {xs : Nat → Int32} (hL : L ≤ 260) {b : Nat} (hb : b < 2 ^ 20) (h : ∀ r, post r) : wpL_cell post L xs () (nI b) := de_cell hL b rfl (by omega) h
theorem de_cell1 {post : Int32 → Prop} {L : Nat} {xs : Nat → Int32} (hL : L ≤ 260) {b : Nat} (hb : b < 2 ^ 20) (h : ∀ r, post r) : wpL_cell post L xs () (nI b + 1) := de_cell hL (b + 1) (nI_add b 1) (by omega) h
theorem de_cell2 {post : Int32 → Prop} {L : Nat} {xs : Nat → Int32} (hL : L ≤ 260) {b : Nat} (hb : b < 2 ^ 20) (h : ∀ r, post r) : wpL_cell post L xs () (nI b + 2) := de_cell hL (b + 2) (nI_add b 2) (by omega) h
theorem de_cell3 {post : Int32 → Prop} {L : Nat} {xs : Nat → Int32} (hL : L ≤ 260) {b j : Nat} (hb : b < 2 ^ 20) (hj : j < 2 ^ 20) (h : ∀ r, post r) : wpL_cell post L xs () (nI b + 2 + nI j) := de_cell hL (b + 2 + j) ((congrArg (· + nI j) (nI_add b 2)).trans (nI_add (b + 2) j)) (by omega) h
theorem de_code {post : Int32 → Prop} {a b : Int32} (h : ∀ r, post r) : wpL_code post () a b := h _
theorem de_inner {post : Int32 → Prop} {c : Int32} (h : ∀ r, post r) : wpL_inner post () c := by
  repeat' (first | exact h _ | refine de_and (fun _ => ?_) (fun _ => ?_) | (intro _ hx; cases hx) | omega)
theorem de_var {post : Int32 → Prop} {a b : Int32} (h : ∀ r, post r) : wpL_var post () a b := by
  repeat' (first | exact h _ | refine de_and (fun _ => ?_) (fun _ => ?_) | (intro _ hx; cases hx) | omega)
theorem de_proc {post : Int32 → Prop} {a b : Int32} (h : ∀ r, post r) : wpL_proc post () a b := by
  repeat' (first | exact h _ | with_reducible refine de_inner (fun _ => ?_) | refine de_and (fun _ => ?_) (fun _ => ?_) | (intro _ hx; cases hx) | omega)
theorem de_label {post : Int32 → Prop} {a b : Int32} (h : ∀ r, post r) : wpL_label post () a b := by
  repeat' (first | exact h _ | with_reducible refine de_inner (fun _ => ?_) | refine de_and (fun _ => ?_) (fun _ => ?_) | (intro _ hx; cases hx) | omega)
theorem de_skel {post : Int32 → Prop} {a b : Int32} (h : ∀ r, post r) : wpL_skel post () a b := by
  repeat' (first | exact h _ | with_reducible refine de_code (fun _ => ?_) | refine de_and (fun _ => ?_) (fun _ => ?_) | (intro _ hx; cases hx) | omega)
theorem de_expr {post : Int32 → Prop} {L : Nat} {xs : Nat → Int32} (hL : L ≤ 260) {b j : Nat} {x2 : Int32} (hb : b < 2 ^ 20) (hj : j < 2 ^ 20) (h : ∀ r, post r) : wpL_expr post L xs () (nI b) x2 (nI j) := by
  repeat' (first | exact h _ | with_reducible refine de_code (fun _ => ?_) | with_reducible refine de_inner (fun _ => ?_) | with_reducible refine de_var (fun _ => ?_) | with_reducible refine de_proc (fun _ => ?_) | with_reducible refine de_label (fun _ => ?_) | with_reducible refine de_cell2 hL hb (fun _ => ?_) | with_reducible refine de_cell3 hL hb hj (fun _ => ?_) | refine de_and (fun _ => ?_) (fun _ => ?_) | (intro _ hx; cases hx) | omega)
theorem de_expr1 {post : Int32 → Prop} {L : Nat} {xs : Nat → Int32} (hL : L ≤ 260) {b j : Nat} {x2 : Int32} (hb : b < 2 ^ 20) (hj : j < 2 ^ 20) (h : ∀ r, post r) : wpL_expr post L xs () (nI b) x2 (nI (j + 1) - 1) := by
  rw [nI_pred]; exact de_expr hL hb hj h
