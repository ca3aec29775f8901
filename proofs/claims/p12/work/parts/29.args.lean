variable {f_depthLimit f_state f_trapCode f_begun f_tokenTotal f_printedTotal f_stackSize f_bodyCount f_declaredTwice f_liveDepth f_position : Int32} {a_tokenKind a_tokenValue a_printed a_stack a_bodyParent a_bodyStart a_declCount a_paramCount a_paramName a_declKind a_declTarget a_tokenBody a_branchTarget a_liveBody a_liveParent a_returnTo a_slotValue a_slotHome a_waitingOp a_waitingLeft a_leftKnown a_argKind a_argValue a_argHome : Nat → Int32}
/-- a procedure value that is alive: the procedure q of an activation h -/
def rt_V (K : Nat → Nat) (n : Nat) (ab : Nat → Nat) (top q h : Nat) : Prop := q < n ∧ K q = 4 ∧ h ≤ top ∧ gr_bo K n q = ab h
theorem rk_pv {K V : Nat → Nat} {n x d : Nat} {ab ap rt : Nat → Nat} {top : Nat} {lb lp rr sv sh yb yp yr av aq ae : Nat → Int32} (hn : gr_cf K n = some ([], 0)) (hL : gr_LM K n) (hR : rt_R K V n ab ap rt top lb lp rr sv sh yb yp yr av aq ae) (hl : gr_lk K V n (ab top) x = some d) (hk : K d = 4 ∨ K d = 6) :
    ∃ q h, rt_V K n ab top q h ∧ sv (ac_al K V n ab ap x 15 top * 16 + x) = nI (gr_np K (q + 1)) ∧ sh (ac_al K V n ab ap x 15 top * 16 + x) = nI h ∧
      ((K d = 4 ∧ q = d ∧ h = ac_al K V n ab ap x 15 top) ∨ (K d ≠ 4 ∧ aq (ac_al K V n ab ap x 15 top * 16 + x) = nI q ∧ ae (ac_al K V n ab ap x 15 top * 16 + x) = nI h)) := by
  obtain ⟨a', ha', r1, r2, r3, r4, r5⟩ := rt_near hn hL hR hl
  have hsl := hR.2.2.2.2.2.2 a' r1 d r2 r5 r3
  rw [r4] at hsl
  rw [← ha']
  rcases hk with k4 | k6
  · have := hsl.2.1 k4
    exact ⟨d, a', ⟨r2, k4, r1, r3⟩, this.1, this.2, .inl ⟨k4, rfl, rfl⟩⟩
  · obtain ⟨q, h, q1, q2, q3, q4, q5, q6, q7, q8⟩ := hsl.2.2.2 k6
    exact ⟨q, h, ⟨q1, q2, by omega, q4⟩, q5, q6, .inr ⟨by omega, q7, q8⟩⟩
/-- the first four arguments agree -/
def rk_A (K : Nat → Nat) (n : Nat) (ab : Nat → Nat) (top c : Nat) (ak av ah tk tv tq te : Nat → Int32) : Prop := ∀ i, i < c → i < 4 →
  (ak i = 5 ∧ tk i = 12 ∧ av i = tv i) ∨ (ak i = 6 ∧ tk i = 13 ∧ ∃ q h, rt_V K n ab top q h ∧ av i = nI (gr_np K (q + 1)) ∧ ah i = nI h ∧ tq i = nI q ∧ te i = nI h)
theorem rk_A_4 {K : Nat → Nat} {n : Nat} {ab : Nat → Nat} {top c : Nat} {ak av ah tk tv tq te : Nat → Int32} (h : rk_A K n ab top c ak av ah tk tv tq te) (hc : ¬ c < 4) : rk_A K n ab top (c + 1) ak av ah tk tv tq te :=
  fun i hi hi4 => h i (by omega) hi4
theorem rk_A_v {K : Nat → Nat} {n : Nat} {ab : Nat → Nat} {top c : Nat} {x a b d : Int32} {ak av ah tk tv tq te : Nat → Int32} (h : rk_A K n ab top c ak av ah tk tv tq te) : rk_A K n ab top (c + 1) (upd ak c 5) (upd av c x) (upd ah c a) (upd tk c 12) (upd tv c x) (upd tq c b) (upd te c d) := by
  intro i hi hi4
  by_cases e : i = c
  · subst e; exact .inl ⟨lo_us, lo_us, by rw [lo_us, lo_us]⟩
  · rw [lo_un e, lo_un e, lo_un e, lo_un e, lo_un e, lo_un e, lo_un e]; exact h i (by omega) hi4
theorem rk_A_p {K : Nat → Nat} {n : Nat} {ab : Nat → Nat} {top c q hh : Nat} {z : Int32} {ak av ah tk tv tq te : Nat → Int32} (h : rk_A K n ab top c ak av ah tk tv tq te) (hV : rt_V K n ab top q hh) : rk_A K n ab top (c + 1) (upd ak c 6) (upd av c (nI (gr_np K (q + 1)))) (upd ah c (nI hh)) (upd tk c 13) (upd tv c z) (upd tq c (nI q)) (upd te c (nI hh)) := by
  intro i hi hi4
  by_cases e : i = c
  · subst e; exact .inr ⟨lo_us, lo_us, q, hh, hV, lo_us, lo_us, lo_us, lo_us⟩
  · rw [lo_un e, lo_un e, lo_un e, lo_un e, lo_un e, lo_un e, lo_un e]; exact h i (by omega) hi4
theorem rk_keep {post : St2 → Prop} {c : Nat} {k v h : Int32} (hc : c ≤ 1000) (h0 : c < 4 → post (f_depthLimit, f_state, f_trapCode, f_begun, f_tokenTotal, f_printedTotal, f_stackSize, f_bodyCount, f_declaredTwice, f_liveDepth, f_position, a_tokenKind, a_tokenValue, a_printed, a_stack, a_bodyParent, a_bodyStart, a_declCount, a_paramCount, a_paramName, a_declKind, a_declTarget, a_tokenBody, a_branchTarget, a_liveBody, a_liveParent, a_returnTo, a_slotValue, a_slotHome, a_waitingOp, a_waitingLeft, a_leftKnown, upd a_argKind c k, upd a_argValue c v, upd a_argHome c h)) (h1 : ¬ c < 4 → post (f_depthLimit, f_state, f_trapCode, f_begun, f_tokenTotal, f_printedTotal, f_stackSize, f_bodyCount, f_declaredTwice, f_liveDepth, f_position, a_tokenKind, a_tokenValue, a_printed, a_stack, a_bodyParent, a_bodyStart, a_declCount, a_paramCount, a_paramName, a_declKind, a_declTarget, a_tokenBody, a_branchTarget, a_liveBody, a_liveParent, a_returnTo, a_slotValue, a_slotHome, a_waitingOp, a_waitingLeft, a_leftKnown, a_argKind, a_argValue, a_argHome)) : wpX_keepArgument post (f_depthLimit, f_state, f_trapCode, f_begun, f_tokenTotal, f_printedTotal, f_stackSize, f_bodyCount, f_declaredTwice, f_liveDepth, f_position, a_tokenKind, a_tokenValue, a_printed, a_stack, a_bodyParent, a_bodyStart, a_declCount, a_paramCount, a_paramName, a_declKind, a_declTarget, a_tokenBody, a_branchTarget, a_liveBody, a_liveParent, a_returnTo, a_slotValue, a_slotHome, a_waitingOp, a_waitingLeft, a_leftKnown, a_argKind, a_argValue, a_argHome) (nI c) k v h := by
  unfold wpX_keepArgument
  by_cases e : c < 4
  · have hin : vp_in (nI c) 4 := vp_in_nI e (by decide)
    refine br_f (nI_ge (b := 4) e (by decide)) ?_
    rw [nI_clamp (by omega)]
    exact ⟨hin, nm_e ⟨hin, nm_e ⟨hin, nm_e (h0 e)⟩⟩⟩
  · exact br_t (nI_le (a := 4) (by omega) (by omega)) (h1 e)
/-- a procedure value, the same for every state that stands for these slots -/
theorem pa_pv {K V : Nat → Nat} {n x d : Nat} {ab ap rt : Nat → Nat} {top : Nat} {lb0 lp0 rr0 sv0 sh0 yb0 yp0 yr0 av aq ae : Nat → Int32} (h256 : n ≤ 256) (hn : gr_cf K n = some ([], 0)) (hL : gr_LM K n) (hR0 : rt_R K V n ab ap rt top lb0 lp0 rr0 sv0 sh0 yb0 yp0 yr0 av aq ae) (hl : gr_lk K V n (ab top) x = some d) (hk : K d = 4 ∨ K d = 6) :
    ∃ q h, rt_V K n ab top q h ∧ ∀ (lb lp rr sv sh yb yp yr : Nat → Int32), rt_R K V n ab ap rt top lb lp rr sv sh yb yp yr av aq ae → sv (ac_al K V n ab ap x 15 top * 16 + x) = nI (gr_np K (q + 1)) ∧ sh (ac_al K V n ab ap x 15 top * 16 + x) = nI h := by
  obtain ⟨q, h, hV, _, _, h3⟩ := rk_pv hn hL hR0 hl hk
  have ht := hR0.1
  refine ⟨q, h, hV, fun lb lp rr sv sh yb yp yr hR => ?_⟩
  obtain ⟨q', h', hV', s1, s2, s3⟩ := rk_pv hn hL hR hl hk
  have e : q' = q ∧ h' = h := by
    rcases h3 with ⟨a1, a2, a3⟩ | ⟨a1, a2, a3⟩
    · rcases s3 with ⟨b1, b2, b3⟩ | ⟨b1, b2, b3⟩
      · exact ⟨by rw [b2, a2], by rw [b3, a3]⟩
      · exact absurd a1 b1
    · rcases s3 with ⟨b1, b2, b3⟩ | ⟨b1, b2, b3⟩
      · exact absurd b1 a1
      · have v1 := hV.1
        have v2 := hV'.1
        have v3 := hV.2.2.1
        have v4 := hV'.2.2.1
        rw [a2] at b2
        rw [a3] at b3
        exact ⟨((nI_eq (by omega) (by omega)).mp b2).symm, ((nI_eq (by omega) (by omega)).mp b3).symm⟩
  rw [e.1] at s1
  rw [e.2] at s2
  exact ⟨s1, s2⟩
/-- the arguments: their outcome ahead of any state -/
theorem pa_args {K V : Nat → Nat} {n top pc dn : Nat} {L : List (Nat × Nat)} {ab ap rt : Nat → Nat} {a_tokenKind a_tokenValue av aq ae lb0 lp0 rr0 sv0 sh0 yb0 yp0 yr0 : Nat → Int32} (hT : rt_TK K V n a_tokenKind a_tokenValue) (hn : gr_cf K n = some ([], 0)) (hL : gr_LM K n) (hU : gr_US K V n) (hR0 : rt_R K V n ab ap rt top lb0 lp0 rr0 sv0 sh0 yb0 yp0 yr0 av aq ae)
    (hdn : dn < n) (hcd : gr_cf K dn = some ((6, pc) :: L, 0)) (hkd : K dn = 14) (hcb : gr_cb ((6, pc) :: L) = some (ab top)) :
    ∀ (m j c : Nat) (tk tv tq te : Nat → Int32), n - j ≤ m → 1 ≤ j → j ≤ dn → c + m ≤ 256 → gr_cf K j = some ((6, pc) :: L, 0) →
      ∃ res : Option (Nat × (Nat → Int32) × (Nat → Int32) × (Nat → Int32) × (Nat → Int32)), ∀ (lim on : Nat) (ex f_stackSize f_bodyCount f_declaredTwice : Int32) (a_printed a_stack a_bodyParent a_bodyStart a_declCount a_paramCount a_paramName a_declKind a_declTarget a_tokenBody a_branchTarget a_liveBody a_liveParent a_returnTo a_slotValue a_slotHome yb yp yr : Nat → Int32) (Px : Int32 → St2 → Prop) (g fx : Nat) (ak av_ ah wo wl lk : Nat → Int32),
        rt_ST K V n a_bodyParent a_bodyStart a_paramCount a_paramName a_declKind a_declTarget a_branchTarget → rt_R K V n ab ap rt top a_liveBody a_liveParent a_returnTo a_slotValue a_slotHome yb yp yr av aq ae → rk_A K n ab top c ak av_ ah tk tv tq te → g + m ≤ 255 → m < fx →
        (res = none → ∀ (r ps : Int32) (ak av_ ah wo wl lk : Nat → Int32), Px r (nI lim, 1, 1, ex, nI n, nI on, f_stackSize, f_bodyCount, f_declaredTwice, nI top, ps, a_tokenKind, a_tokenValue, a_printed, a_stack, a_bodyParent, a_bodyStart, a_declCount, a_paramCount, a_paramName, a_declKind, a_declTarget, a_tokenBody, a_branchTarget, a_liveBody, a_liveParent, a_returnTo, a_slotValue, a_slotHome, wo, wl, lk, ak, av_, ah)) →
        (∀ c' tk' tv' tq' te', res = some (c', tk', tv', tq', te') → c' ≤ 256 → ∀ (ak av_ ah wo wl lk : Nat → Int32), rk_A K n ab top c' ak av_ ah tk' tv' tq' te' → Px (nI c') (nI lim, 1, 0, ex, nI n, nI on, f_stackSize, f_bodyCount, f_declaredTwice, nI top, nI (dn + 1), a_tokenKind, a_tokenValue, a_printed, a_stack, a_bodyParent, a_bodyStart, a_declCount, a_paramCount, a_paramName, a_declKind, a_declTarget, a_tokenBody, a_branchTarget, a_liveBody, a_liveParent, a_returnTo, a_slotValue, a_slotHome, wo, wl, lk, ak, av_, ah)) →
        wX_takeArguments_4 Px fx (nI c) (nI g) (nI lim) 1 0 ex (nI n) (nI on) f_stackSize f_bodyCount f_declaredTwice (nI top) (nI j) a_tokenKind a_tokenValue a_printed a_stack a_bodyParent a_bodyStart a_declCount a_paramCount a_paramName a_declKind a_declTarget a_tokenBody a_branchTarget a_liveBody a_liveParent a_returnTo a_slotValue a_slotHome wo wl lk ak av_ ah := by
  obtain ⟨h256, htk, htv⟩ := hT
  have hT : rt_TK K V n a_tokenKind a_tokenValue := ⟨h256, htk, htv⟩
  have ht := hR0.1
  intro m
  induction m with
  | zero => intro j c tk tv tq te hm; omega
  | succ m ih =>
    intro j c tk tv tq te hm h1 hjd hcm hc
    have hjn : j < n := by omega
    obtain ⟨k1, k2, k3⟩ := htk j hjn
    have hin : vp_in (nI j) 256 := vp_in_nI (by omega) (by decide)
    have hcl : (nI j).toNatClampNeg = j := nI_clamp (by omega)
    by_cases q14 : K j = 14
    · have hjdn : j = dn := by
        by_cases e : j = dn
        · exact e
        · exact absurd rfl (gr_gone h1 hc (.inr (.inr (.inr (.inl ⟨q14, rfl⟩)))) (show j < dn by omega) hcd (6, pc) (by simp))
      subst hjdn
      refine ⟨some (c, tk, tv, tq, te), ?_⟩
      intro lim on ex f_stackSize f_bodyCount f_declaredTwice a_printed a_stack a_bodyParent a_bodyStart a_declCount a_paramCount a_paramName a_declKind a_declTarget a_tokenBody a_branchTarget a_liveBody a_liveParent a_returnTo a_slotValue a_slotHome yb yp yr Px g fx ak av_ ah wo wl lk hS hR hA hg hfx h0 hs
      obtain ⟨f1, rfl⟩ : ∃ f1, fx = f1 + 1 := ⟨fx - 1, by omega⟩
      refine br_f (nI_ge (b := 256) (by omega) (by decide)) ⟨hin, ?_⟩
      rw [hcl, k1]
      refine br_t (by rw [q14]; rfl) ?_
      unfold wX_takeArguments_120
      rw [nI_1]
      exact nm_e (hs c tk tv tq te rfl (by omega) ak av_ ah wo wl lk hA)
    · have hlt : j < dn := by
        by_cases e : j = dn
        · subst e; exact absurd hkd q14
        · omega
      have hbo : gr_bo K n j = ab top := by
        rcases gr_arg hn hjn hc with q | q | q
        · exact absurd q q14
        · exact gr_bo_c hjn (by omega) (by omega) (by omega) hc hcb
        · exact gr_bo_c hjn (by omega) (by omega) (by omega) hc hcb
      rcases gr_arg hn hjn hc with q | ⟨q13, hc'⟩ | ⟨q12, hc'⟩
      · exact absurd q q14
      · have hv := htv j hjn (by simp only [xn_nm]; omega)
        obtain ⟨d, hl, hmk⟩ := rt_name hU hjn (.inr (.inr (.inr (.inl q13)))) hbo
        obtain ⟨q2, h2, hV, hpv⟩ := pa_pv h256 hn hL hR0 hl (hmk.2.1 (.inr q13))
        have hle : ac_al K V n ab ap (V j) 15 top ≤ top := ac_al_le hR0.2.1 15 top (Nat.le_refl _)
        by_cases c4 : c < 4
        · obtain ⟨res, hres⟩ := ih (j + 1) (c + 1) (upd tk c 13) (upd tv c 0) (upd tq c (nI q2)) (upd te c (nI h2)) (by omega) (by omega) (by omega) (by omega) hc'
          refine ⟨res, ?_⟩
          intro lim on ex f_stackSize f_bodyCount f_declaredTwice a_printed a_stack a_bodyParent a_bodyStart a_declCount a_paramCount a_paramName a_declKind a_declTarget a_tokenBody a_branchTarget a_liveBody a_liveParent a_returnTo a_slotValue a_slotHome yb yp yr Px g fx ak av_ ah wo wl lk hS hR hA hg hfx h0 hs
          obtain ⟨f1, rfl⟩ : ∃ f1, fx = f1 + 1 := ⟨fx - 1, by omega⟩
          obtain ⟨s1, s2⟩ := hpv _ _ _ _ _ _ _ _ hR
          refine br_f (nI_ge (b := 256) (by omega) (by decide)) ⟨hin, ?_⟩
          rw [hcl, k1]
          refine br_f (fun h => q14 ((nI_eq (b := 14) (by omega) (by decide)).mp h)) ?_
          rw [nI_1]
          refine nm_e ⟨hin, br_t (by rw [q13]; rfl) ⟨hin, ?_⟩⟩
          rw [hv.1]
          refine rs_slot hn hL (fun d hd => (htk d hd).2) hS.2.2.2.2.2.2.2.1 hv.2 hR.2.1 ht (fun a h => (hR.2.2.2.1 a h).1) hR.2.2.2.2.1 (fun a h1 h2 => (hR.2.2.2.2.2.1 a h1 h2).1) ?_
          have ix : vp_in (nI (ac_al K V n ab ap (V j) 15 top * 16 + V j)) 272 := vp_in_nI (by omega) (by decide)
          rw [nI_clamp (by omega), s1, s2]
          refine ⟨ix, ix, rk_keep (by omega) (fun _ => ?_) (fun h => absurd c4 h)⟩
          unfold wX_takeArguments_102
          exact br_t rfl (nm_r (nI_1 c) (nm_r (nI_1 g) (hres lim on ex _ _ _ _ _ _ _ _ _ _ _ _ _ _ _ _ _ _ _ yb yp yr Px (g + 1) f1 _ _ _ _ _ _ hS hR (rk_A_p hA hV) (by omega) (by omega) h0 hs)))
        · obtain ⟨res, hres⟩ := ih (j + 1) (c + 1) tk tv tq te (by omega) (by omega) (by omega) (by omega) hc'
          refine ⟨res, ?_⟩
          intro lim on ex f_stackSize f_bodyCount f_declaredTwice a_printed a_stack a_bodyParent a_bodyStart a_declCount a_paramCount a_paramName a_declKind a_declTarget a_tokenBody a_branchTarget a_liveBody a_liveParent a_returnTo a_slotValue a_slotHome yb yp yr Px g fx ak av_ ah wo wl lk hS hR hA hg hfx h0 hs
          obtain ⟨f1, rfl⟩ : ∃ f1, fx = f1 + 1 := ⟨fx - 1, by omega⟩
          obtain ⟨s1, s2⟩ := hpv _ _ _ _ _ _ _ _ hR
          refine br_f (nI_ge (b := 256) (by omega) (by decide)) ⟨hin, ?_⟩
          rw [hcl, k1]
          refine br_f (fun h => q14 ((nI_eq (b := 14) (by omega) (by decide)).mp h)) ?_
          rw [nI_1]
          refine nm_e ⟨hin, br_t (by rw [q13]; rfl) ⟨hin, ?_⟩⟩
          rw [hv.1]
          refine rs_slot hn hL (fun d hd => (htk d hd).2) hS.2.2.2.2.2.2.2.1 hv.2 hR.2.1 ht (fun a h => (hR.2.2.2.1 a h).1) hR.2.2.2.2.1 (fun a h1 h2 => (hR.2.2.2.2.2.1 a h1 h2).1) ?_
          have ix : vp_in (nI (ac_al K V n ab ap (V j) 15 top * 16 + V j)) 272 := vp_in_nI (by omega) (by decide)
          rw [nI_clamp (by omega), s1, s2]
          refine ⟨ix, ix, rk_keep (by omega) (fun h => absurd h c4) (fun _ => ?_)⟩
          unfold wX_takeArguments_102
          exact br_t rfl (nm_r (nI_1 c) (nm_r (nI_1 g) (hres lim on ex _ _ _ _ _ _ _ _ _ _ _ _ _ _ _ _ _ _ _ yb yp yr Px (g + 1) f1 _ _ _ _ _ _ hS hR (rk_A_4 hA c4) (by omega) (by omega) h0 hs)))
      · obtain ⟨e, v, e1, e2, e3, e4, e5⟩ := rt_exp (V := V) (rt_lf K V n ab ap top a_tokenValue av) hn hjn hc' hcb
        have hed : e ≤ dn := by
          by_cases c1 : e ≤ dn
          · exact c1
          · obtain ⟨_, ⟨m', h7⟩, _⟩ := e5 dn (by omega) (by omega)
            rw [hcd] at h7
            simp at h7
        have e6 : ∀ i, j + 1 ≤ i → i < e → 18 ≤ K i ∧ gr_bo K n i = ab top := fun i a b => ⟨(e5 i a b).1, (e5 i a b).2.2⟩
        cases hv : v with
        | none =>
          refine ⟨none, ?_⟩
          intro lim on ex f_stackSize f_bodyCount f_declaredTwice a_printed a_stack a_bodyParent a_bodyStart a_declCount a_paramCount a_paramName a_declKind a_declTarget a_tokenBody a_branchTarget a_liveBody a_liveParent a_returnTo a_slotValue a_slotHome yb yp yr Px g fx ak av_ ah wo wl lk hS hR hA hg hfx h0 hs
          obtain ⟨f1, rfl⟩ : ∃ f1, fx = f1 + 1 := ⟨fx - 1, by omega⟩
          refine br_f (nI_ge (b := 256) (by omega) (by decide)) ⟨hin, ?_⟩
          rw [hcl, k1]
          refine br_f (fun h => q14 ((nI_eq (b := 14) (by omega) (by decide)).mp h)) ?_
          rw [nI_1]
          refine nm_e ⟨hin, br_f (by rw [q12]; decide) ?_⟩
          refine rt_xe hT hS hR e1 e4 e6 (fun _ r ps wo wl lk => ?_) (fun x hx => by rw [hv] at hx; cases hx)
          have fin : ∀ (ak av_ ah : Nat → Int32), wX_takeArguments_102 Px (wX_takeArguments_4 Px f1) (nI c) (nI g) (nI lim) 1 1 ex (nI n) (nI on) f_stackSize f_bodyCount f_declaredTwice (nI top) ps a_tokenKind a_tokenValue a_printed a_stack a_bodyParent a_bodyStart a_declCount a_paramCount a_paramName a_declKind a_declTarget a_tokenBody a_branchTarget a_liveBody a_liveParent a_returnTo a_slotValue a_slotHome wo wl lk ak av_ ah := by
            intro ak av_ ah
            unfold wX_takeArguments_102
            exact br_f (by decide) (h0 rfl _ _ _ _ _ _ _ _)
          exact rk_keep (by omega) (fun _ => fin _ _ _) (fun _ => fin _ _ _)
        | some x =>
          by_cases c4 : c < 4
          · obtain ⟨res, hres⟩ := ih e (c + 1) (upd tk c 12) (upd tv c x) (upd tq c 0) (upd te c 0) (by omega) (by omega) hed (by omega) e2
            refine ⟨res, ?_⟩
            intro lim on ex f_stackSize f_bodyCount f_declaredTwice a_printed a_stack a_bodyParent a_bodyStart a_declCount a_paramCount a_paramName a_declKind a_declTarget a_tokenBody a_branchTarget a_liveBody a_liveParent a_returnTo a_slotValue a_slotHome yb yp yr Px g fx ak av_ ah wo wl lk hS hR hA hg hfx h0 hs
            obtain ⟨f1, rfl⟩ : ∃ f1, fx = f1 + 1 := ⟨fx - 1, by omega⟩
            refine br_f (nI_ge (b := 256) (by omega) (by decide)) ⟨hin, ?_⟩
            rw [hcl, k1]
            refine br_f (fun h => q14 ((nI_eq (b := 14) (by omega) (by decide)).mp h)) ?_
            rw [nI_1]
            refine nm_e ⟨hin, br_f (by rw [q12]; decide) ?_⟩
            refine rt_xe hT hS hR e1 e4 e6 (fun h => by rw [hv] at h; cases h) (fun y hy wo wl lk => ?_)
            rw [hv] at hy
            injection hy with hy
            subst hy
            refine rk_keep (by omega) (fun _ => ?_) (fun h => absurd c4 h)
            unfold wX_takeArguments_102
            exact br_t rfl (nm_r (nI_1 c) (nm_r (nI_1 g) (hres lim on ex _ _ _ _ _ _ _ _ _ _ _ _ _ _ _ _ _ _ _ yb yp yr Px (g + 1) f1 _ _ _ _ _ _ hS hR (rk_A_v hA) (by omega) (by omega) h0 hs)))
          · obtain ⟨res, hres⟩ := ih e (c + 1) tk tv tq te (by omega) (by omega) hed (by omega) e2
            refine ⟨res, ?_⟩
            intro lim on ex f_stackSize f_bodyCount f_declaredTwice a_printed a_stack a_bodyParent a_bodyStart a_declCount a_paramCount a_paramName a_declKind a_declTarget a_tokenBody a_branchTarget a_liveBody a_liveParent a_returnTo a_slotValue a_slotHome yb yp yr Px g fx ak av_ ah wo wl lk hS hR hA hg hfx h0 hs
            obtain ⟨f1, rfl⟩ : ∃ f1, fx = f1 + 1 := ⟨fx - 1, by omega⟩
            refine br_f (nI_ge (b := 256) (by omega) (by decide)) ⟨hin, ?_⟩
            rw [hcl, k1]
            refine br_f (fun h => q14 ((nI_eq (b := 14) (by omega) (by decide)).mp h)) ?_
            rw [nI_1]
            refine nm_e ⟨hin, br_f (by rw [q12]; decide) ?_⟩
            refine rt_xe hT hS hR e1 e4 e6 (fun h => by rw [hv] at h; cases h) (fun y hy wo wl lk => ?_)
            rw [hv] at hy
            injection hy with hy
            subst hy
            refine rk_keep (by omega) (fun h => absurd h c4) (fun _ => ?_)
            unfold wX_takeArguments_102
            exact br_t rfl (nm_r (nI_1 c) (nm_r (nI_1 g) (hres lim on ex _ _ _ _ _ _ _ _ _ _ _ _ _ _ _ _ _ _ _ yb yp yr Px (g + 1) f1 _ _ _ _ _ _ hS hR (rk_A_4 hA c4) (by omega) (by omega) h0 hs)))
