variable {f_depthLimit f_state f_trapCode f_begun f_tokenTotal f_printedTotal f_stackSize f_bodyCount f_declaredTwice f_liveDepth f_position : Int32} {a_tokenKind a_tokenValue a_printed a_stack a_bodyParent a_bodyStart a_declCount a_paramCount a_paramName a_declKind a_declTarget a_tokenBody a_branchTarget a_liveBody a_liveParent a_returnTo a_slotValue a_slotHome a_waitingOp a_waitingLeft a_leftKnown a_argKind a_argValue a_argHome : Nat → Int32}
def rt_TK (K V : Nat → Nat) (n : Nat) (kd vl : Nat → Int32) : Prop := n ≤ 256 ∧ (∀ i, i < n → kd i = nI (K i) ∧ 1 ≤ K i ∧ K i ≤ 26) ∧ (∀ i, i < n → xn_nm (K i) → vl i = nI (V i) ∧ V i < 16)
def rt_ST (K V : Nat → Nat) (n : Nat) (bp bs pc pm dk dt bt : Nat → Int32) : Prop := gr_cf K n = some ([], 0) ∧ gr_LM K n ∧ gr_ND K V n ∧ gr_US K V n ∧ sx_S K V n bp bs pc pm dk dt bt
/-- the slots of activation a -/
def rt_SL (K V : Nat → Nat) (n : Nat) (ab : Nat → Nat) (a : Nat) (sv sh av aq ae : Nat → Int32) : Prop := ∀ d, d < n → gr_D (K d) → gr_bo K n d = ab a →
  (K d = 3 ∨ K d = 5 → sv (a * 16 + V d) = av (a * 16 + V d)) ∧
  (K d = 4 → sv (a * 16 + V d) = nI (gr_np K (d + 1)) ∧ sh (a * 16 + V d) = nI a) ∧
  (K d = 10 → sv (a * 16 + V d) = nI (d + 1) ∧ sh (a * 16 + V d) = nI a) ∧
  (K d = 6 → ∃ q h, q < n ∧ K q = 4 ∧ h < a ∧ gr_bo K n q = ab h ∧ sv (a * 16 + V d) = nI (gr_np K (q + 1)) ∧ sh (a * 16 + V d) = nI h ∧ aq (a * 16 + V d) = nI q ∧ ae (a * 16 + V d) = nI h)
def rt_R (K V : Nat → Nat) (n : Nat) (ab ap rt : Nat → Nat) (top : Nat) (lb lp rr sv sh yb yp yr av aq ae : Nat → Int32) : Prop :=
  top ≤ 16 ∧ ac_E K n ab ap top ∧ (∀ a, 1 ≤ a → a ≤ top → gr_P K n (rt a) (ab (a - 1)) ∧ rr a = nI (rt a) ∧ yr a = nI (rt a)) ∧
  (∀ a, a ≤ top → lb a = nI (gr_np K (ab a)) ∧ yb a = nI (ab a)) ∧ lp 0 = 0 ∧ (∀ a, 1 ≤ a → a ≤ top → lp a = nI (ap a) ∧ yp a = nI (ap a)) ∧ (∀ a, a ≤ top → rt_SL K V n ab a sv sh av aq ae)
theorem rt_R_le {K V : Nat → Nat} {n : Nat} {ab ap rt : Nat → Nat} {top top' : Nat} {lb lp rr sv sh yb yp yr av aq ae : Nat → Int32} (h : rt_R K V n ab ap rt top lb lp rr sv sh yb yp yr av aq ae) (ht : top' ≤ top) : rt_R K V n ab ap rt top' lb lp rr sv sh yb yp yr av aq ae :=
  ⟨by have := h.1; omega, ac_E_le h.2.1 ht, fun a h1 h2 => h.2.2.1 a h1 (by omega), fun a h1 => h.2.2.2.1 a (by omega), h.2.2.2.2.1, fun a h1 h2 => h.2.2.2.2.2.1 a h1 (by omega), fun a h1 => h.2.2.2.2.2.2 a (by omega)⟩
/-- the main variables agree -/
def rt_MV (K V : Nat → Nat) (n : Nat) (sv av : Nat → Int32) : Prop := ∀ d, d < n → K d = 3 → gr_bo K n d = 0 → sv (V d) = av (V d)
theorem rt_MV_of {K V : Nat → Nat} {n : Nat} {ab ap rt : Nat → Nat} {top : Nat} {lb lp rr sv sh yb yp yr av aq ae : Nat → Int32} (h : rt_R K V n ab ap rt top lb lp rr sv sh yb yp yr av aq ae) : rt_MV K V n sv av := by
  intro d hd hk hb
  have h0 := (h.2.1 0 (Nat.zero_le _)).2.2.1 rfl
  have := (h.2.2.2.2.2.2 0 (Nat.zero_le _) d hd (.inl hk) (by rw [h0]; exact hb)).1 (.inl hk)
  rw [show 0 * 16 + V d = V d by omega] at this
  exact this
/-- the leaves' values -/
def rt_lf (K V : Nat → Nat) (n : Nat) (ab ap : Nat → Nat) (top : Nat) (vl av : Nat → Int32) (j : Nat) : Int32 := if K j = 18 then vl j else av (ac_al K V n ab ap (V j) 15 top * 16 + V j)
theorem rt_name {K V : Nat → Nat} {n i b : Nat} (hU : gr_US K V n) (hi : i < n) (hu : gr_U (K i)) (hb : gr_bo K n i = b) : ∃ d, gr_lk K V n b (V i) = some d ∧ gr_mk (K i) (K d) := by
  obtain ⟨d, h1, h2⟩ := hU i hi hu
  rw [hb] at h1
  exact ⟨d, h1, h2⟩
/-- what the nearest activation that declares a name holds -/
theorem rt_near {K V : Nat → Nat} {n x d : Nat} {ab ap rt : Nat → Nat} {top : Nat} {lb lp rr sv sh yb yp yr av aq ae : Nat → Int32} (hn : gr_cf K n = some ([], 0)) (hL : gr_LM K n) (h : rt_R K V n ab ap rt top lb lp rr sv sh yb yp yr av aq ae) (hl : gr_lk K V n (ab top) x = some d) :
    ∃ a, a = ac_al K V n ab ap x 15 top ∧ a ≤ top ∧ d < n ∧ gr_bo K n d = ab a ∧ V d = x ∧ gr_D (K d) := by
  have hb := (h.2.1 top (Nat.le_refl _)).1
  have hm := @gr_np_mono K (ab top) n (by omega)
  have hd := ac_al_d hn h.2.1 15 top (Nat.le_refl _) (by have := hL.1; omega) hl
  have := gr_dc_some hd
  exact ⟨_, rfl, ac_al_le h.2.1 15 top (Nat.le_refl _), this⟩
/-- an expression of the present body -/
theorem rt_exp {K V : Nat → Nat} {n j b : Nat} {L : List (Nat × Nat)} (lf : Nat → Int32) (hn : gr_cf K n = some ([], 0)) (hj : j ≤ n) (hc : gr_cf K j = some (L, 1)) (hb : gr_cb L = some b) :
    ∃ e v, gr_ev K lf n j = some (e, v) ∧ gr_cf K e = some (L, 0) ∧ j < e ∧ e ≤ n ∧ ∀ i, j ≤ i → i < e → 18 ≤ K i ∧ (∃ m', gr_cf K i = some (L, m' + 1)) ∧ gr_bo K n i = b := by
  obtain ⟨e, v, a1, a2, a3, a4, a5⟩ := gr_exp lf hn n j L 0 (by omega) hj hc
  refine ⟨e, v, a1, a2, a3, a4, fun i h1 h2 => ?_⟩
  obtain ⟨b1, b2, m', b3⟩ := a5 i h1 h2
  exact ⟨b1, ⟨m', b3⟩, gr_bo_c (by omega) (by omega) (by omega) (by omega) b3 hb⟩
/-- the component evaluates an expression of the present body -/
theorem rt_xe {post : Int32 → St2 → Prop} {K V : Nat → Nat} {n j e : Nat} {v : Option Int32} {ab ap rt : Nat → Nat} {top : Nat} {yb yp yr av aq ae : Nat → Int32}
    (hT : rt_TK K V n a_tokenKind a_tokenValue) (hS : rt_ST K V n a_bodyParent a_bodyStart a_paramCount a_paramName a_declKind a_declTarget a_branchTarget)
    (hR : rt_R K V n ab ap rt top a_liveBody a_liveParent a_returnTo a_slotValue a_slotHome yb yp yr av aq ae)
    (hev : gr_ev K (rt_lf K V n ab ap top a_tokenValue av) n j = some (e, v)) (hen : e ≤ n) (hq : ∀ i, j ≤ i → i < e → 18 ≤ K i ∧ gr_bo K n i = ab top)
    (hnone : v = none → ∀ (r ps : Int32) (wo wl lk : Nat → Int32), post r (f_depthLimit, f_state, 1, f_begun, nI n, f_printedTotal, f_stackSize, f_bodyCount, f_declaredTwice, nI top, ps, a_tokenKind, a_tokenValue, a_printed, a_stack, a_bodyParent, a_bodyStart, a_declCount, a_paramCount, a_paramName, a_declKind, a_declTarget, a_tokenBody, a_branchTarget, a_liveBody, a_liveParent, a_returnTo, a_slotValue, a_slotHome, wo, wl, lk, a_argKind, a_argValue, a_argHome))
    (hsome : ∀ x, v = some x → ∀ (wo wl lk : Nat → Int32), post x (f_depthLimit, f_state, 0, f_begun, nI n, f_printedTotal, f_stackSize, f_bodyCount, f_declaredTwice, nI top, nI e, a_tokenKind, a_tokenValue, a_printed, a_stack, a_bodyParent, a_bodyStart, a_declCount, a_paramCount, a_paramName, a_declKind, a_declTarget, a_tokenBody, a_branchTarget, a_liveBody, a_liveParent, a_returnTo, a_slotValue, a_slotHome, wo, wl, lk, a_argKind, a_argValue, a_argHome)) :
    wpX_evaluate post (f_depthLimit, f_state, 0, f_begun, nI n, f_printedTotal, f_stackSize, f_bodyCount, f_declaredTwice, nI top, nI j, a_tokenKind, a_tokenValue, a_printed, a_stack, a_bodyParent, a_bodyStart, a_declCount, a_paramCount, a_paramName, a_declKind, a_declTarget, a_tokenBody, a_branchTarget, a_liveBody, a_liveParent, a_returnTo, a_slotValue, a_slotHome, a_waitingOp, a_waitingLeft, a_leftKnown, a_argKind, a_argValue, a_argHome) := by
  obtain ⟨h256, htk, htv⟩ := hT
  obtain ⟨hn, hL, hN, hU, hX⟩ := hS
  refine rx_eval (V := V) h256 htk (fun j hj hk => by unfold rt_lf; rw [if_pos hk]) (fun j hj hk => (htv j hj (by simp only [xn_nm]; omega)).1) hev hen (fun i a b => (hq i a b).1) (fun i a b hk P ps wo wl lk hP => ?_) hnone hsome
  have hv := htv i (by omega) (by simp only [xn_nm]; omega)
  obtain ⟨d, hl, hm⟩ := rt_name hU (show i < n by omega) (.inr (.inl hk)) (hq i a b).2
  obtain ⟨a', ha', r1, r2, r3, r4, r5⟩ := rt_near hn hL hR hl
  have hkd := hm.1 (.inr hk)
  have hsl := (hR.2.2.2.2.2.2 a' r1 d r2 r5 r3).1 hkd
  have ht := hR.1
  refine rs_slot hn hL (fun d hd => (htk d hd).2) hX.2.2.2.1 hv.2 hR.2.1 ht (fun a h => (hR.2.2.2.1 a h).1) hR.2.2.2.2.1 (fun a h1 h2 => (hR.2.2.2.2.2.1 a h1 h2).1) ?_
  rw [← ha']
  refine hP _ (by omega) ?_
  unfold rt_lf
  rw [if_neg (by omega), ← ha', ← r4]
  exact hsl
