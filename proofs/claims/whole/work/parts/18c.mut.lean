theorem CP_mk {p : Nat} {P : Pl} {σ : St} (h1 : σ.1 p 3 = iI (P 280)) (h2 : σ.1 p 4 = iI (P 281)) (h3 : σ.1 p 5 = iI (P 285))
  (h4 : ∀ k : Int, 0 ≤ k ∧ k < 3 → σ.1 (p + 3) k.toNat = iI (P (282 + k)))
  (h5 : ∀ h k : Int, (0 ≤ h ∧ h < P 280) ∧ 0 ≤ k ∧ k < 8 → σ.1 (p + 1) (h * 9 + k).toNat = iI (P (8 * h + k)))
  (h6 : ∀ h : Int, 0 ≤ h ∧ h < P 280 → σ.1 (p + 1) (h * 9 + 8).toNat = bm (ahd P h) (P 280))
  (h7 : ∀ w k : Int, (0 ≤ w ∧ w < P 281) ∧ 0 ≤ k ∧ k < 3 → σ.1 (p + 2) (w * 3 + k).toNat = iI (P (160 + 3 * w + k))) : CP p P σ := ⟨⟨h1, h2, h3⟩, h4, h5, h6, h7⟩
theorem ahd_c {P Q : Pl} {g k : Int} (h1 : P (8 * k + 2) = Q (8 * k + 2)) (h2 : P (8 * k) = Q (8 * k)) (h3 : P (8 * g) = Q (8 * g)) (h4 : P (8 * k + 1) = Q (8 * k + 1)) (h5 : P (8 * g + 1) = Q (8 * g + 1)) : ahd P g k = ahd Q g k := by
  unfold ahd; rw [h1, h2, h3, h4, h5]
theorem sv_lo {k : Int} (h : 3 ≤ k ∧ k ≤ 6) : sv 101 k.toNat = iI (if k ≤ 4 then 1 else 0) := by
  rcases (show k = 3 ∨ k = 4 ∨ k = 5 ∨ k = 6 by omega) with e | e | e | e <;> subst e <;> decide
theorem sv_hi {k : Int} (h : 3 ≤ k ∧ k ≤ 6) : sv 102 k.toNat = iI (if k = 3 then 99 else if k = 4 then 20 else if k = 5 then 999 else 1) := by
  rcases (show k = 3 ∨ k = 4 ∨ k = 5 ∨ k = 6 by omega) with e | e | e | e <;> subst e <;> decide
theorem sv_rl {k : Int} (h : 0 ≤ k ∧ k < 3) : sv 104 k.toNat = iI (if k = 2 then 5 else 1) := by
  rcases (show k = 0 ∨ k = 1 ∨ k = 2 by omega) with e | e | e <;> subst e <;> decide
theorem sv_rh {k : Int} (h : 0 ≤ k ∧ k < 3) : sv 105 k.toNat = iI (if k = 1 then 9999 else 99) := by
  rcases (show k = 0 ∨ k = 1 ∨ k = 2 by omega) with e | e | e <;> subst e <;> decide
theorem sl0 : sv 101 (0 : Int).toNat = iI 0 := by decide
theorem sl1 : sv 101 (1 : Int).toNat = iI 0 := by decide
theorem sl2 : sv 101 (2 : Int).toNat = iI 0 := by decide
theorem sl3 : sv 101 (3 : Int).toNat = iI 1 := by decide
theorem sl4 : sv 101 (4 : Int).toNat = iI 1 := by decide
theorem sl5 : sv 101 (5 : Int).toNat = iI 0 := by decide
theorem sh0 : sv 102 (0 : Int).toNat = iI 4 := by decide
theorem sh1 : sv 102 (1 : Int).toNat = iI 9 := by decide
theorem sh2 : sv 102 (2 : Int).toNat = iI 5 := by decide
theorem sh3 : sv 102 (3 : Int).toNat = iI 99 := by decide
theorem sh4 : sv 102 (4 : Int).toNat = iI 20 := by decide
theorem sh5 : sv 102 (5 : Int).toNat = iI 999 := by decide
theorem bm_one {p : Int → Bool} {n : Int} : bm p n ||| iI 0 = bm p n := by rw [← iI_lit]; exact Int32.or_zero
/-- the bit n goes -/
theorem bm_cut {p : Int → Bool} {n : Int} (h : 0 ≤ n ∧ n < 31) : bm p (n + 1) &&& ((iI 1 <<< (iI n &&& iI 31)) ^^^ iI (-1)) = bm p n := by
  refine eq_bm (by omega) (fun k h0 h1 => ?_)
  rw [bs_and, bs_not (by omega), bs_one (by omega), bs_bm (by omega)]
  by_cases c : k < n
  · rw [decide_eq_true (by omega : k < n + 1), decide_eq_true c, decide_eq_false (by omega : ¬ k = n)]; simp
  · rw [decide_eq_false c]
    by_cases c2 : k = n
    · rw [decide_eq_true c2]; simp
    · rw [decide_eq_false (by omega : ¬ k < n + 1)]; simp
section C18c
variable {S : Sp} {σ : St} {Φ : Rs} {P : Pl} {p : Nat}
theorem c_X2_markAhead (hS : Sys S) (h_p : isPat p) {n : Int} (hn : 0 ≤ n ∧ n < 20) (hr : ∀ h, 0 ≤ h → h < n + 1 → (0 ≤ P (8 * h) ∧ P (8 * h) ≤ 4) ∧ (0 ≤ P (8 * h + 1) ∧ P (8 * h + 1) ≤ 9) ∧ (0 ≤ P (8 * h + 2) ∧ P (8 * h + 2) ≤ 5))
    (hm : ∀ {h k : Int}, (0 ≤ h ∧ h < n + 1) ∧ 0 ≤ k ∧ k < 8 → σ.1 (p + 1) (h * 9 + k).toNat = iI (P (8 * h + k))) (ha : ∀ g : Int, 0 ≤ g → g < n → σ.1 (p + 1) (g * 9 + 8).toNat = bm (ahd P g) n) (hz : σ.1 (p + 1) (n * 9 + 8).toNat = iI 0)
    (hk : ∀ σ', Fr (fun k _ => k = p + 1) σ σ' → (∀ {h k : Int}, (0 ≤ h ∧ h < n + 1) ∧ 0 ≤ k ∧ k < 8 → σ'.1 (p + 1) (h * 9 + k).toNat = iI (P (8 * h + k))) → (∀ g : Int, 0 ≤ g → g < n + 1 → σ'.1 (p + 1) (g * 9 + 8).toNat = bm (ahd P g) (n + 1)) → Φ [] σ') : S 30 [aR p, aI (iI n)] σ Φ := by
  refine m_X2_markAhead hS h_p (fun v hv hw => ?_)
  unfold vc_X2_markAhead_0
  have L : ∀ (d : Nat) (h : Int) (σ1 : St), (n - h).toNat = d → 0 ≤ h → h ≤ n → Fr (fun k _ => k = p + 1) σ σ1 → (∀ {h k : Int}, (0 ≤ h ∧ h < n + 1) ∧ 0 ≤ k ∧ k < 8 → σ1.1 (p + 1) (h * 9 + k).toNat = iI (P (8 * h + k))) → (∀ g : Int, 0 ≤ g → g < h → σ1.1 (p + 1) (g * 9 + 8).toNat = bm (ahd P g) (n + 1)) → (∀ g : Int, h ≤ g → g < n → σ1.1 (p + 1) (g * 9 + 8).toNat = bm (ahd P g) n) → σ1.1 (p + 1) (n * 9 + 8).toNat = bm (ahd P n) h → v 2 [some (aR p), some (aI (iI n)), some (aI (iI h))] [] σ1 := by
    intro d
    induction d with
    | zero =>
      intro h σ1 hd h0 h1 hf hm1 b1 b2 b3
      refine w_X2_markAhead_2 hS hv hw p h_p _ _ σ1 ?_
      unfold vc_X2_markAhead_2
      have q : h = n := by omega
      subst q
      try simp (disch := omega) only [iI_lit, iL_lit, iI_add, iI_sub, iI_mul, iI_neg, iI_lt, iI_le, iI_eq, iI_tn, iI_div, iI_l, iL_add, iL_sub, iL_mul, iL_neg, iL_le, iL_lt, iL_eq, iL_ite, vp_T, b2_ne0, b2_eq1, nn_imp, true_and, iI_ite, not_true_eq_false, not_false_eq_true, true_implies, false_implies, and_true, Int.reduceLT, Int.reduceLE, Int.reduceEq, or_false, false_or, true_or, or_true, false_and, and_false]
      refine ⟨fun _ => hk σ1 hf hm1 (fun g g0 g1 => ?_), fun c => by omega⟩
      by_cases c : g < h
      · exact b1 g g0 c
      · have q : g = h := by omega
        subst q
        rw [b3]
        exact bm_sf h0 (by unfold ahd; exact decide_eq_false (by omega))
    | succ d ih =>
      intro h σ1 hd h0 h1 hf hm1 b1 b2 b3
      refine w_X2_markAhead_2 hS hv hw p h_p _ _ σ1 ?_
      unfold vc_X2_markAhead_2
      have N : ∀ σ2 : St, Fr (fun k _ => k = p + 1) σ σ2 → (∀ {h k : Int}, (0 ≤ h ∧ h < n + 1) ∧ 0 ≤ k ∧ k < 8 → σ2.1 (p + 1) (h * 9 + k).toNat = iI (P (8 * h + k))) → (∀ g : Int, 0 ≤ g → g < h → σ2.1 (p + 1) (g * 9 + 8).toNat = bm (ahd P g) (n + 1)) → (∀ g : Int, h ≤ g → g < n → σ2.1 (p + 1) (g * 9 + 8).toNat = bm (ahd P g) n) → σ2.1 (p + 1) (n * 9 + 8).toNat = bm (ahd P n) (h + 1) → vc_X2_markAhead_35 S Φ v p (iI n) (iI h) σ2 := by
        intro σ2 hf2 hm2 d1 d2 d3
        unfold vc_X2_markAhead_35
        refine c_X2_isAhead hS h_p (n := n + 1) (by omega) hm2 hr (g := n) (h := h) (by omega) (by omega) ⟨_, rfl, ?_⟩
        have e := d2 h (Int.le_refl h) (by omega)
        try simp (disch := omega) only [iI_lit, iL_lit, iI_add, iI_sub, iI_mul, iI_neg, iI_lt, iI_le, iI_eq, iI_tn, iI_div, iI_l, iL_add, iL_sub, iL_mul, iL_neg, iL_le, iL_lt, iL_eq, iL_ite, vp_T, b2_ne0, b2_eq1, nn_imp, true_and, iI_ite, not_true_eq_false, not_false_eq_true, true_implies, false_implies, and_true, Int.reduceLT, Int.reduceLE, Int.reduceEq, or_false, false_or, true_or, or_true, false_and, and_false, e, bitO_i]
        refine ⟨fun c => ?_, fun c σ3 e3 => ?_⟩
        · refine ih (h + 1) σ2 (by omega) (by omega) (by omega) hf2 hm2 (fun g g0 g1 => ?_) (fun g g0 g1 => d2 g (by omega) g1) d3
          by_cases q : g < h
          · exact d1 g g0 q
          · rw [show g = h by omega, e]
            exact bm_sf hn.1 (Bool.eq_false_iff.mpr c)
        · rw [bm_st hn.1 c] at e3
          refine ih (h + 1) σ3 (by omega) (by omega) (by omega) (by rw [e3]; exact Fr_up hf2 rfl) (fun {g k} hg => ?_) (fun g g0 g1 => ?_) (fun g g0 g1 => ?_) ?_
          · rw [e3, up_m (by omega)]; exact hm2 hg
          · rw [e3]
            by_cases q : g < h
            · rw [up_m (by omega)]; exact d1 g g0 q
            · rw [show g = h by omega]; exact up_h rfl
          · rw [e3, up_m (by omega)]; exact d2 g (by omega) g1
          · rw [e3, up_m (by omega)]; exact d3
      try simp (disch := omega) only [iI_lit, iL_lit, iI_add, iI_sub, iI_mul, iI_neg, iI_lt, iI_le, iI_eq, iI_tn, iI_div, iI_l, iL_add, iL_sub, iL_mul, iL_neg, iL_le, iL_lt, iL_eq, iL_ite, vp_T, b2_ne0, b2_eq1, nn_imp, true_and, iI_ite, not_true_eq_false, not_false_eq_true, true_implies, false_implies, and_true, Int.reduceLT, Int.reduceLE, Int.reduceEq, or_false, false_or, true_or, or_true, false_and, and_false]
      refine ⟨fun c => by omega, fun _ => ?_⟩
      refine c_X2_isAhead hS h_p (n := n + 1) (by omega) hm1 hr (g := h) (h := n) (by omega) (by omega) ⟨_, rfl, ?_⟩
      try simp (disch := omega) only [iI_lit, iL_lit, iI_add, iI_sub, iI_mul, iI_neg, iI_lt, iI_le, iI_eq, iI_tn, iI_div, iI_l, iL_add, iL_sub, iL_mul, iL_neg, iL_le, iL_lt, iL_eq, iL_ite, vp_T, b2_ne0, b2_eq1, nn_imp, true_and, iI_ite, not_true_eq_false, not_false_eq_true, true_implies, false_implies, and_true, Int.reduceLT, Int.reduceLE, Int.reduceEq, or_false, false_or, true_or, or_true, false_and, and_false, b3, bitO_i]
      refine ⟨fun c => ?_, fun c σ3 e3 => ?_⟩
      · exact N σ1 hf hm1 b1 b2 (by rw [b3]; exact bm_sf h0 (Bool.eq_false_iff.mpr c))
      · rw [bm_st h0 c] at e3
        refine N σ3 (by rw [e3]; exact Fr_up hf rfl) (fun {g k} hg => ?_) (fun g g0 g1 => ?_) (fun g g0 g1 => ?_) ?_
        · rw [e3, up_m (by omega)]; exact hm1 hg
        · rw [e3, up_m (by omega)]; exact b1 g g0 g1
        · rw [e3, up_m (by omega)]; exact b2 g g0 g1
        · rw [e3]; exact up_h rfl
  rw [iI_lit]
  exact L _ 0 σ rfl (by omega) (by omega) Fr_rf hm (fun g g0 g1 => by omega) ha (by rw [hz]; exact (bm_z _).symm)
theorem c_X2_addHole (hS : Sys S) (h_p : isPat p) (hC : CP p P σ) (hW : WF P) {r c k ch b i : Int} (r1 : -2147483648 ≤ r ∧ r < 2147483648) (r2 : -2147483648 ≤ c ∧ c < 2147483648) (r3 : -2147483648 ≤ k ∧ k < 2147483648) (r4 : -2147483648 ≤ ch ∧ ch < 2147483648) (r5 : -2147483648 ≤ b ∧ b < 2147483648) (r6 : -2147483648 ≤ i ∧ i < 2147483648)
    (k1 : ¬ okH r c k ch b i → Φ [aI (iI (-2))] σ) (k2 : okH r c k ch b i → ¬ hat P r c = -1 → Φ [aI (iI (-3))] σ) (k3 : okH r c k ch b i → hat P r c = -1 → P 280 = 20 → Φ [aI (iI (-4))] σ)
    (k4 : okH r c k ch b i → hat P r c = -1 → P 280 < 20 → ∀ σ', Fr (FP p) σ σ' → CP p (addH P r c k ch b i) σ' → Φ [aI (iI (P 280))] σ') : S 29 [aR p, aI (iI r), aI (iI c), aI (iI k), aI (iI ch), aI (iI b), aI (iI i)] σ Φ := by
  refine m_X2_addHole hS h_p (fun v hv hw => ?_)
  have g0 := WF_0 hW
  unfold vc_X2_addHole_0
  have K4 := k4
  unfold okH at k1 k2 k3 k4
  try simp (disch := omega) only [iI_lit, iL_lit, iI_add, iI_sub, iI_mul, iI_neg, iI_lt, iI_le, iI_eq, iI_tn, iI_div, iI_l, iL_add, iL_sub, iL_mul, iL_neg, iL_le, iL_lt, iL_eq, iL_ite, vp_T, b2_ne0, b2_eq1, nn_imp, true_and, iI_ite, not_true_eq_false, not_false_eq_true, true_implies, false_implies, and_true, Int.reduceLT, Int.reduceLE, Int.reduceEq, or_false, false_or, true_or, or_true, false_and, and_false, sl0, sl1, sl2, sl3, sl4, sl5, sh0, sh1, sh2, sh3, sh4, sh5]
  refine ⟨fun a => k1 (by omega), fun a1 => ⟨fun a => k1 (by omega), fun a2 => ⟨fun a3 => ⟨fun a => k1 (by omega), fun a4 => ⟨fun a => k1 (by omega), fun a5 => ⟨fun a6 => ?_, fun a => k1 (by omega)⟩⟩⟩, fun a => k1 (by omega)⟩⟩⟩
  refine c_X2_holeAt hS h_p hC hW (by omega) (by omega) ⟨_, rfl, ?_⟩
  have hh : -1 ≤ hat P r c ∧ hat P r c < 20 := by
    unfold hat
    rcases fd_sp (fun h => decide (P (8 * h) = r ∧ P (8 * h + 1) = c)) (h := 0) (n := P 280) (by omega) g0.1.1 with q | q <;> omega
  try simp (disch := omega) only [iI_lit, iL_lit, iI_add, iI_sub, iI_mul, iI_neg, iI_lt, iI_le, iI_eq, iI_tn, iI_div, iI_l, iL_add, iL_sub, iL_mul, iL_neg, iL_le, iL_lt, iL_eq, iL_ite, vp_T, b2_ne0, b2_eq1, nn_imp, true_and, iI_ite, not_true_eq_false, not_false_eq_true, true_implies, false_implies, and_true, Int.reduceLT, Int.reduceLE, Int.reduceEq, or_false, false_or, true_or, or_true, false_and, and_false, CP_n hC]
  refine ⟨fun t => ⟨fun a => ?_, fun a => k3 (by omega) t (by omega)⟩, fun t => k2 (by omega) t⟩
  have F : ∀ {σ1 : St} {j : Nat} {x : Int32}, Fr (FP p) σ σ1 → Fr (FP p) σ (upI σ1 (p + 1) j x) := fun f => Fr_up f (by unfold FP; omega)
  try simp (disch := omega) only [iI_lit, iL_lit, iI_add, iI_sub, iI_mul, iI_neg, iI_lt, iI_le, iI_eq, iI_tn, iI_div, iI_l, iL_add, iL_sub, iL_mul, iL_neg, iL_le, iL_lt, iL_eq, iL_ite, vp_T, b2_ne0, b2_eq1, nn_imp, true_and, iI_ite, not_true_eq_false, not_false_eq_true, true_implies, false_implies, and_true, Int.reduceLT, Int.reduceLE, Int.reduceEq, or_false, false_or, true_or, or_true, false_and, and_false]
  intro σ1 e1 σ2 e2 σ3 e3 σ4 e4 σ5 e5 σ6 e6 σ7 e7
  refine c_X1_made hS (by omega) (by omega) (by omega) ⟨_, rfl, ?_⟩
  try simp (disch := omega) only [iI_lit, iL_lit, iI_add, iI_sub, iI_mul, iI_neg, iI_lt, iI_le, iI_eq, iI_tn, iI_div, iI_l, iL_add, iL_sub, iL_mul, iL_neg, iL_le, iL_lt, iL_eq, iL_ite, vp_T, b2_ne0, b2_eq1, nn_imp, true_and, iI_ite, not_true_eq_false, not_false_eq_true, true_implies, false_implies, and_true, Int.reduceLT, Int.reduceLE, Int.reduceEq, or_false, false_or, true_or, or_true, false_and, and_false, Int.add_zero]
  intro σ8 e8 σ9 e9
  have f9 : Fr (FP p) σ σ9 := by rw [e9, e8, e7, e6, e5, e4, e3, e2, e1]; exact F (F (F (F (F (F (F (F (F Fr_rf))))))))
  have n9 : σ9.1 p 3 = iI (P 280) := by rw [e9, e8, e7, e6, e5, e4, e3, e2, e1]; simp (disch := omega) only [up_h, up_m, up_n, CP_n hC]
  rw [n9]
  have Q0 : ∀ i, addH P r c k ch b i = addH P r c k ch b i := fun _ => rfl
  have hw' : addH P r c k ch b i 280 = P 280 + 1 := by unfold addH; simp (disch := omega) only [pu_e, pu_n, ]
  refine c_X2_markAhead (P := addH P r c k ch b i) hS h_p (n := P 280) (by omega) (fun h h0 h1 => ?_) (fun {h j} hj => ?_) (fun g g0 g1 => ?_) ?_ (fun σ10 f10 m10 a10 => ⟨rfl, ?_⟩)
  · have := addH_W hW (i := i) (ch := ch) (b := b) (k := k) (by unfold okH; omega) t a
    have := WF_h this h0 (by rw [hw']; exact h1)
    omega
  · rw [e9, e8, e7, e6, e5, e4, e3, e2, e1]
    unfold addH
    by_cases q : h < P 280
    · simp (disch := omega) only [up_h, up_m, up_n, CP_m hC]
      simp (disch := omega) only [pu_e, pu_n, ]
    · have q : h = P 280 := by omega
      subst q
      rcases (show j = 0 ∨ j = 1 ∨ j = 2 ∨ j = 3 ∨ j = 4 ∨ j = 5 ∨ j = 6 ∨ j = 7 by omega) with e | e | e | e | e | e | e | e <;> subst e <;> simp (disch := omega) only [up_h, up_m, up_n, ] <;> simp (disch := omega) only [pu_e, pu_n, ]
  · rw [e9, e8, e7, e6, e5, e4, e3, e2, e1]
    simp (disch := omega) only [up_h, up_m, up_n, CP_a hC]
    refine bm_ext (by omega) (fun k k0 k1 => ?_)
    unfold addH
    refine ahd_c ?_ ?_ ?_ ?_ ?_ <;> simp (disch := omega) only [pu_e, pu_n, ]
  · rw [e9]; exact up_h rfl
  · intro σ11 e11
    have n10 : σ10.1 p 3 = iI (P 280) := by rw [f10.1 p 3 (by omega)]; exact n9
    rw [n10] at e11
    simp only [iI_lit, iI_add] at e11
    have n11 : σ11.1 p 3 = iI (P 280 + 1) := by rw [e11]; exact up_h rfl
    rw [n11]
    simp only [iI_lit, iI_sub]
    rw [show P 280 + 1 - 1 = P 280 by omega]
    have f10' : Fr (FP p) σ9 σ10 := Fr_mo f10 (fun k j q => by unfold FP; omega)
    refine K4 (by unfold okH; omega) t a σ11 (by rw [e11]; exact Fr_up (Fr_tr f9 f10') (by unfold FP; omega)) ?_
    have o2 : ∀ k : Nat, ¬ k = p → ¬ k = p + 1 → σ11.1 k = σ.1 k := fun k h1 h2 => by
      rw [e11, up_n h1, Fr_k f10 (fun _ => h2), e9, e8, e7, e6, e5, e4, e3, e2, e1]
      simp (disch := omega) only [up_h, up_m, up_n, ]
    have o3 : ∀ j : Nat, ¬ j = 3 → σ11.1 p j = σ.1 p j := fun j h1 => by
      rw [e11, up_m h1, Fr_k f10 (fun _ => by omega), e9, e8, e7, e6, e5, e4, e3, e2, e1]
      simp (disch := omega) only [up_h, up_m, up_n, ]
    have o4 : σ11.1 (p + 1) = σ10.1 (p + 1) := by rw [e11, up_n (by omega)]
    refine CP_mk (by rw [hw', n11]) ?_ ?_ (fun k hk => ?_) (fun h k hk => ?_) (fun h hk => ?_) (fun w j hk => ?_)
    · rw [o3 4 (by omega), CP_w hC]; unfold addH; simp (disch := omega) only [pu_e, pu_n, ]
    · rw [o3 5 (by omega), CP_c hC]; unfold addH; simp (disch := omega) only [pu_e, pu_n, ]
    · rw [o2 _ (by omega) (by omega), CP_r hC hk]; unfold addH; simp (disch := omega) only [pu_e, pu_n, ]
    · rw [o4]; rw [hw'] at hk; exact m10 hk
    · rw [o4, hw']; rw [hw'] at hk; exact a10 h hk.1 hk.2
    · have hz : addH P r c k ch b i 281 = P 281 := by unfold addH; simp (disch := omega) only [pu_e, pu_n, ]
      rw [hz] at hk
      rw [o2 _ (by omega) (by omega), CP_v hC hk]; unfold addH; simp (disch := omega) only [pu_e, pu_n, ]
theorem c_X2_changeMark (hS : Sys S) (h_p : isPat p) (hC : CP p P σ) (hW : WF P) {h what x : Int} (r1 : -2147483648 ≤ h ∧ h < 2147483648) (r2 : -2147483648 ≤ what ∧ what < 2147483648) (r3 : -2147483648 ≤ x ∧ x < 2147483648)
    (k1 : ¬ (0 ≤ h ∧ h < P 280) → Φ [aI (iI (-1))] σ) (k2 : (0 ≤ h ∧ h < P 280) → ¬ okB what x → Φ [aI (iI (-2))] σ)
    (k3 : (0 ≤ h ∧ h < P 280) → okB what x → ∀ σ', Fr (FP p) σ σ' → CP p (pu P (8 * h + what) x) σ' → Φ [aI (iI (P (8 * h + what)))] σ') : S 32 [aR p, aI (iI h), aI (iI what), aI (iI x)] σ Φ := by
  refine m_X2_changeMark hS h_p (fun v hv hw => ?_)
  have g0 := WF_0 hW
  unfold vc_X2_changeMark_0
  have K3 := k3
  unfold okB at k2 k3
  try simp (disch := omega) only [iI_lit, iL_lit, iI_add, iI_sub, iI_mul, iI_neg, iI_lt, iI_le, iI_eq, iI_tn, iI_div, iI_l, iL_add, iL_sub, iL_mul, iL_neg, iL_le, iL_lt, iL_eq, iL_ite, vp_T, b2_ne0, b2_eq1, nn_imp, true_and, iI_ite, not_true_eq_false, not_false_eq_true, true_implies, false_implies, and_true, Int.reduceLT, Int.reduceLE, Int.reduceEq, or_false, false_or, true_or, or_true, false_and, and_false, CP_n hC]
  refine ⟨fun a => ⟨fun b => k2 (by omega) (by omega), fun b => ?_⟩, fun a => k1 (by omega)⟩
  by_cases q : what ≤ 6
  · have hlo := sv_lo (k := what) (by omega)
    have hhi := sv_hi (k := what) (by omega)
    try simp (disch := omega) only [iI_lit, iL_lit, iI_add, iI_sub, iI_mul, iI_neg, iI_lt, iI_le, iI_eq, iI_tn, iI_div, iI_l, iL_add, iL_sub, iL_mul, iL_neg, iL_le, iL_lt, iL_eq, iL_ite, vp_T, b2_ne0, b2_eq1, nn_imp, true_and, iI_ite, not_true_eq_false, not_false_eq_true, true_implies, false_implies, and_true, Int.reduceLT, Int.reduceLE, Int.reduceEq, or_false, false_or, true_or, or_true, false_and, and_false, hlo, hhi, CP_m hC]
    refine ⟨fun c => ?_, fun c => k2 (by omega) ?_⟩
    · intro σ1 e1
      have ho : okB what x := by unfold okB; omega
      refine K3 (by omega) ho σ1 (by rw [e1]; exact Fr_up Fr_rf (by unfold FP; omega)) ?_
      have o2 : ∀ k : Nat, ¬ k = p + 1 → σ1.1 k = σ.1 k := fun k h1 => by rw [e1, up_n h1]
      refine CP_mk ?_ ?_ ?_ (fun k hk => ?_) (fun g k hk => ?_) (fun g hk => ?_) (fun w k hk => ?_)
      · rw [o2 _ (by omega), CP_n hC]; simp (disch := omega) only [pu_e, pu_n, ]
      · rw [o2 _ (by omega), CP_w hC]; simp (disch := omega) only [pu_e, pu_n, ]
      · rw [o2 _ (by omega), CP_c hC]; simp (disch := omega) only [pu_e, pu_n, ]
      · rw [o2 _ (by omega), CP_r hC hk]; simp (disch := omega) only [pu_e, pu_n, ]
      · rw [pu_n (by omega)] at hk
        rw [e1]
        by_cases c : g * 9 + k = h * 9 + what
        · rw [up_h (by omega), pu_e (by omega)]
        · rw [up_m (by omega), CP_m hC hk, pu_n (by omega)]
      · rw [pu_n (by omega)] at hk
        rw [e1, up_m (by omega), CP_a hC hk, pu_n (by omega)]
        refine bm_ext (by omega) (fun k k0 k1 => ?_)
        refine ahd_c ?_ ?_ ?_ ?_ ?_ <;> simp (disch := omega) only [pu_e, pu_n, ]
      · rw [pu_n (by omega)] at hk
        rw [o2 _ (by omega), CP_v hC hk]; simp (disch := omega) only [pu_e, pu_n, ]
    · intro ho
      refine c ?_
      refine ⟨by omega, by omega, ?_, ?_⟩
      · split <;> omega
      · (repeat' split) <;> omega
  · have hq : ¬ (¬ iI what < iI 0 ∧ ¬ iI 6 < iI what ∧ ¬ iI x < sv 101 what.toNat ∧ ¬ sv 102 what.toNat < iI x) := by
      intro z
      have := z.2.1
      rw [iI_lt (by omega)] at this
      omega
    have e : b2 (¬ what < 0 ∧ ¬ 6 < what ∧ ¬ iI x < sv 101 what.toNat ∧ ¬ sv 102 what.toNat < iI x) = iI 0 := by
      rw [b2_f (fun z => by omega), iI_lit]
    try simp (disch := omega) only [iI_lit, iL_lit, iI_add, iI_sub, iI_mul, iI_neg, iI_lt, iI_le, iI_eq, iI_tn, iI_div, iI_l, iL_add, iL_sub, iL_mul, iL_neg, iL_le, iL_lt, iL_eq, iL_ite, vp_T, b2_ne0, b2_eq1, nn_imp, true_and, iI_ite, not_true_eq_false, not_false_eq_true, true_implies, false_implies, and_true, Int.reduceLT, Int.reduceLE, Int.reduceEq, or_false, false_or, true_or, or_true, false_and, and_false, e, CP_m hC]
    refine ⟨fun c => ?_, fun _ => k2 (by omega) (by omega)⟩
    omega
theorem c_X2_changeRule (hS : Sys S) (h_p : isPat p) (hC : CP p P σ) (hW : WF P) {what x : Int} (r1 : -2147483648 ≤ what ∧ what < 2147483648) (r2 : -2147483648 ≤ x ∧ x < 2147483648)
    (k1 : ¬ (0 ≤ what ∧ what < 3) → Φ [aI (iI (-1))] σ) (k2 : (0 ≤ what ∧ what < 3) → ¬ okR what x → Φ [aI (iI (-2))] σ)
    (k3 : (0 ≤ what ∧ what < 3) → okR what x → ∀ σ', Fr (FP p) σ σ' → CP p (pu P (282 + what) x) σ' → Φ [aI (iI (P (282 + what)))] σ') : S 36 [aR p, aI (iI what), aI (iI x)] σ Φ := by
  refine m_X2_changeRule hS h_p (fun v hv hw => ?_)
  have g0 := WF_0 hW
  unfold vc_X2_changeRule_0
  have K3 := k3
  unfold okR at k2 k3
  try simp (disch := omega) only [iI_lit, iL_lit, iI_add, iI_sub, iI_mul, iI_neg, iI_lt, iI_le, iI_eq, iI_tn, iI_div, iI_l, iL_add, iL_sub, iL_mul, iL_neg, iL_le, iL_lt, iL_eq, iL_ite, vp_T, b2_ne0, b2_eq1, nn_imp, true_and, iI_ite, not_true_eq_false, not_false_eq_true, true_implies, false_implies, and_true, Int.reduceLT, Int.reduceLE, Int.reduceEq, or_false, false_or, true_or, or_true, false_and, and_false]
  refine ⟨fun a => k1 (by omega), fun a => ⟨fun b => ?_, fun b => k1 (by omega)⟩⟩
  have hlo := sv_rl (k := what) (by omega)
  have hhi := sv_rh (k := what) (by omega)
  try simp (disch := omega) only [iI_lit, iL_lit, iI_add, iI_sub, iI_mul, iI_neg, iI_lt, iI_le, iI_eq, iI_tn, iI_div, iI_l, iL_add, iL_sub, iL_mul, iL_neg, iL_le, iL_lt, iL_eq, iL_ite, vp_T, b2_ne0, b2_eq1, nn_imp, true_and, iI_ite, not_true_eq_false, not_false_eq_true, true_implies, false_implies, and_true, Int.reduceLT, Int.reduceLE, Int.reduceEq, or_false, false_or, true_or, or_true, false_and, and_false, hlo, hhi, CP_r hC]
  refine ⟨fun c => k2 (by omega) ?_, fun c => ⟨fun d => ?_, fun d => k2 (by omega) ?_⟩⟩
  · split at c <;> omega
  · intro σ1 e1
    have ho : okR what x := by unfold okR; split at c <;> split at d <;> omega
    refine K3 (by omega) ho σ1 (by rw [e1]; exact Fr_up Fr_rf (by unfold FP; omega)) ?_
    have o2 : ∀ k : Nat, ¬ k = p + 3 → σ1.1 k = σ.1 k := fun k h1 => by rw [e1, up_n h1]
    refine CP_mk ?_ ?_ ?_ (fun k hk => ?_) (fun g k hk => ?_) (fun g hk => ?_) (fun w k hk => ?_)
    · rw [o2 _ (by omega), CP_n hC]; simp (disch := omega) only [pu_e, pu_n, ]
    · rw [o2 _ (by omega), CP_w hC]; simp (disch := omega) only [pu_e, pu_n, ]
    · rw [o2 _ (by omega), CP_c hC]; simp (disch := omega) only [pu_e, pu_n, ]
    · rw [e1]
      by_cases c : k = what
      · rw [up_h (by omega), pu_e (by omega)]
      · rw [up_m (by omega), CP_r hC hk, pu_n (by omega)]
    · rw [pu_n (by omega)] at hk
      rw [o2 _ (by omega), CP_m hC hk]; simp (disch := omega) only [pu_e, pu_n, ]
    · rw [pu_n (by omega)] at hk
      rw [o2 _ (by omega), CP_a hC hk, pu_n (by omega)]
      refine bm_ext (by omega) (fun k k0 k1 => ?_)
      refine ahd_c ?_ ?_ ?_ ?_ ?_ <;> simp (disch := omega) only [pu_e, pu_n, ]
    · rw [pu_n (by omega)] at hk
      rw [o2 _ (by omega), CP_v hC hk]; simp (disch := omega) only [pu_e, pu_n, ]
  · split at d <;> omega
theorem c_X2_addWire (hS : Sys S) (h_p : isPat p) (hC : CP p P σ) (hW : WF P) {f t d : Int} (r1 : -2147483648 ≤ f ∧ f < 2147483648) (r2 : -2147483648 ≤ t ∧ t < 2147483648) (r3 : -2147483648 ≤ d ∧ d < 2147483648)
    (k1 : ¬ ((f = -1 ∨ (0 ≤ f ∧ f < P 280)) ∧ (0 ≤ t ∧ t < P 280) ∧ ¬ f = t) → Φ [aI (iI (-1))] σ)
    (k2 : ((f = -1 ∨ (0 ≤ f ∧ f < P 280)) ∧ (0 ≤ t ∧ t < P 280) ∧ ¬ f = t) → ¬ (0 ≤ d ∧ d ≤ 500) → Φ [aI (iI (-2))] σ)
    (k3 : ((f = -1 ∨ (0 ≤ f ∧ f < P 280)) ∧ (0 ≤ t ∧ t < P 280) ∧ ¬ f = t) → (0 ≤ d ∧ d ≤ 500) → P 281 = 40 → Φ [aI (iI (-4))] σ)
    (k4 : ((f = -1 ∨ (0 ≤ f ∧ f < P 280)) ∧ (0 ≤ t ∧ t < P 280) ∧ ¬ f = t) → (0 ≤ d ∧ d ≤ 500) → P 281 < 40 → ∀ σ', Fr (FP p) σ σ' → CP p (addW P f t d) σ' → Φ [aI (iI (P 281))] σ') : S 33 [aR p, aI (iI f), aI (iI t), aI (iI d)] σ Φ := by
  refine m_X2_addWire hS h_p (fun v hv hw => ?_)
  have g0 := WF_0 hW
  have A : (f = -1 ∨ (0 ≤ f ∧ f < P 280)) → vc_X2_addWire_15 S Φ v p (iI f) (iI t) (iI d) σ := by
    intro hf
    unfold vc_X2_addWire_15
    try simp (disch := omega) only [iI_lit, iL_lit, iI_add, iI_sub, iI_mul, iI_neg, iI_lt, iI_le, iI_eq, iI_tn, iI_div, iI_l, iL_add, iL_sub, iL_mul, iL_neg, iL_le, iL_lt, iL_eq, iL_ite, vp_T, b2_ne0, b2_eq1, nn_imp, true_and, iI_ite, not_true_eq_false, not_false_eq_true, true_implies, false_implies, and_true, Int.reduceLT, Int.reduceLE, Int.reduceEq, or_false, false_or, true_or, or_true, false_and, and_false, CP_n hC, CP_w hC]
    refine ⟨fun a => k1 (by omega), fun a => ⟨fun b => ⟨fun c => k2 (by omega) (by omega), fun c => ⟨fun e => ⟨fun g => ?_, fun g => k3 (by omega) (by omega) (by omega)⟩, fun e => k2 (by omega) (by omega)⟩⟩, fun b => k1 (by omega)⟩⟩
    try simp (disch := omega) only [iI_lit, iL_lit, iI_add, iI_sub, iI_mul, iI_neg, iI_lt, iI_le, iI_eq, iI_tn, iI_div, iI_l, iL_add, iL_sub, iL_mul, iL_neg, iL_le, iL_lt, iL_eq, iL_ite, vp_T, b2_ne0, b2_eq1, nn_imp, true_and, iI_ite, not_true_eq_false, not_false_eq_true, true_implies, false_implies, and_true, Int.reduceLT, Int.reduceLE, Int.reduceEq, or_false, false_or, true_or, or_true, false_and, and_false]
    intro σ1 e1 σ2 e2 σ3 e3
    have n3 : σ3.1 p 4 = iI (P 281) := by rw [e3, e2, e1]; simp (disch := omega) only [up_h, up_m, up_n, CP_w hC]
    rw [n3]
    try simp (disch := omega) only [iI_lit, iL_lit, iI_add, iI_sub, iI_mul, iI_neg, iI_lt, iI_le, iI_eq, iI_tn, iI_div, iI_l, iL_add, iL_sub, iL_mul, iL_neg, iL_le, iL_lt, iL_eq, iL_ite, vp_T, b2_ne0, b2_eq1, nn_imp, true_and, iI_ite, not_true_eq_false, not_false_eq_true, true_implies, false_implies, and_true, Int.reduceLT, Int.reduceLE, Int.reduceEq, or_false, false_or, true_or, or_true, false_and, and_false]
    intro σ4 e4
    have n4 : σ4.1 p 4 = iI (P 281 + 1) := by rw [e4]; exact up_h rfl
    rw [n4]
    try simp (disch := omega) only [iI_lit, iL_lit, iI_add, iI_sub, iI_mul, iI_neg, iI_lt, iI_le, iI_eq, iI_tn, iI_div, iI_l, iL_add, iL_sub, iL_mul, iL_neg, iL_le, iL_lt, iL_eq, iL_ite, vp_T, b2_ne0, b2_eq1, nn_imp, true_and, iI_ite, not_true_eq_false, not_false_eq_true, true_implies, false_implies, and_true, Int.reduceLT, Int.reduceLE, Int.reduceEq, or_false, false_or, true_or, or_true, false_and, and_false]
    rw [show P 281 + 1 - 1 = P 281 by omega]
    have F : ∀ {σ1 : St} {j : Nat} {x : Int32}, Fr (FP p) σ σ1 → Fr (FP p) σ (upI σ1 (p + 2) j x) := fun f => Fr_up f (by unfold FP; omega)
    refine k4 (by omega) (by omega) (by omega) σ4 (by rw [e4, e3, e2, e1]; exact Fr_up (F (F (F Fr_rf))) (by unfold FP; omega)) ?_
    have o2 : ∀ k : Nat, ¬ k = p → ¬ k = p + 2 → σ4.1 k = σ.1 k := fun k h1 h2 => by rw [e4, e3, e2, e1]; simp (disch := omega) only [up_h, up_m, up_n, ]
    have o3 : ∀ j : Nat, ¬ j = 4 → σ4.1 p j = σ.1 p j := fun j h1 => by rw [e4, e3, e2, e1]; simp (disch := omega) only [up_h, up_m, up_n, ]
    have hz : addW P f t d 281 = P 281 + 1 := by unfold addW; simp (disch := omega) only [pu_e, pu_n, ]
    have hz0 : addW P f t d 280 = P 280 := by unfold addW; simp (disch := omega) only [pu_e, pu_n, ]
    refine CP_mk ?_ ?_ ?_ (fun k hk => ?_) (fun g k hk => ?_) (fun g hk => ?_) (fun w k hk => ?_)
    · rw [o3 _ (by omega), CP_n hC, hz0]
    · rw [n4, hz]
    · rw [o3 _ (by omega), CP_c hC]; unfold addW; simp (disch := omega) only [pu_e, pu_n, ]
    · rw [o2 _ (by omega) (by omega), CP_r hC hk]; unfold addW; simp (disch := omega) only [pu_e, pu_n, ]
    · rw [hz0] at hk
      rw [o2 _ (by omega) (by omega), CP_m hC hk]; unfold addW; simp (disch := omega) only [pu_e, pu_n, ]
    · rw [hz0] at hk
      rw [o2 _ (by omega) (by omega), CP_a hC hk, hz0]
      refine bm_ext (by omega) (fun k k0 k1 => ?_)
      unfold addW
      refine ahd_c ?_ ?_ ?_ ?_ ?_ <;> simp (disch := omega) only [pu_e, pu_n, ]
    · rw [hz] at hk
      rw [e4, e3, e2, e1]
      unfold addW
      by_cases q : w < P 281
      · simp (disch := omega) only [up_h, up_m, up_n, CP_v hC]
        simp (disch := omega) only [pu_e, pu_n, ]
      · have q : w = P 281 := by omega
        subst q
        rcases (show k = 0 ∨ k = 1 ∨ k = 2 by omega) with e | e | e <;> subst e <;> simp (disch := omega) only [up_h, up_m, up_n, ] <;> simp (disch := omega) only [pu_e, pu_n, ]
  unfold vc_X2_addWire_0
  try simp (disch := omega) only [iI_lit, iL_lit, iI_add, iI_sub, iI_mul, iI_neg, iI_lt, iI_le, iI_eq, iI_tn, iI_div, iI_l, iL_add, iL_sub, iL_mul, iL_neg, iL_le, iL_lt, iL_eq, iL_ite, vp_T, b2_ne0, b2_eq1, nn_imp, true_and, iI_ite, not_true_eq_false, not_false_eq_true, true_implies, false_implies, and_true, Int.reduceLT, Int.reduceLE, Int.reduceEq, or_false, false_or, true_or, or_true, false_and, and_false, CP_n hC]
  exact ⟨fun a => A (Or.inl a), fun a => ⟨fun b => A (by omega), fun b => k1 (by omega)⟩⟩
theorem cp_h {σ : St} {a b sp dp n k : Nat} (h : dp ≤ k ∧ k < dp + n) : (cpI σ a b sp dp n).1 b k = σ.1 a (sp + (k - dp)) := by
  show (if b = b then va_cpy (σ.1 a) (σ.1 b) sp dp n else σ.1 b) k = _
  rw [if_pos rfl]; exact if_pos h
theorem cp_m {σ : St} {a b sp dp n k : Nat} (h : ¬ (dp ≤ k ∧ k < dp + n)) : (cpI σ a b sp dp n).1 b k = σ.1 b k := by
  show (if b = b then va_cpy (σ.1 a) (σ.1 b) sp dp n else σ.1 b) k = _
  rw [if_pos rfl]; exact if_neg h
theorem cp_n {σ : St} {a b sp dp n k : Nat} (h : ¬ k = b) : (cpI σ a b sp dp n).1 k = σ.1 k := if_neg h
theorem Fr_cp {c : Nat → Nat → Prop} {σ σ' : St} {a b sp dp n : Nat} (h : Fr c σ σ') (hc : ∀ j, c b j) : Fr c σ (cpI σ' a b sp dp n) := by
  refine ⟨fun k i hn => ?_, h.2⟩
  rw [← h.1 k i hn]
  by_cases q : k = b
  · subst q; exact absurd (hc i) hn
  · rw [cp_n q]
/-- what a cut needs of the wires' cells -/
def CW (p : Nat) (P : Pl) (σ : St) : Prop := σ.1 p 4 = iI (P 281) ∧ (∀ w k : Int, (0 ≤ w ∧ w < P 281) ∧ 0 ≤ k ∧ k < 3 → σ.1 (p + 2) (w * 3 + k).toNat = iI (P (160 + 3 * w + k)))
theorem c_X2_removeWire (hS : Sys S) (h_p : isPat p) (hC : CW p P σ) (hb : P 281 ≤ 40) {w : Int} (r1 : -2147483648 ≤ w ∧ w < 2147483648) (hb0 : 0 ≤ P 281) (k1 : ¬ (0 ≤ w ∧ w < P 281) → Φ [aI (iI (-1))] σ)
    (k2 : (0 ≤ w ∧ w < P 281) → ∀ σ', Fr (fun k j => (k = p ∧ j = 4) ∨ k = p + 2) σ σ' → CW p (cutP P w) σ' → Φ [aI (iI (P 281 - 1))] σ') : S 34 [aR p, aI (iI w)] σ Φ := by
  refine m_X2_removeWire hS h_p (fun v hv hw => ?_)
  unfold vc_X2_removeWire_0
  try simp (disch := omega) only [iI_lit, iL_lit, iI_add, iI_sub, iI_mul, iI_neg, iI_lt, iI_le, iI_eq, iI_tn, iI_div, iI_l, iL_add, iL_sub, iL_mul, iL_neg, iL_le, iL_lt, iL_eq, iL_ite, vp_T, b2_ne0, b2_eq1, nn_imp, true_and, iI_ite, not_true_eq_false, not_false_eq_true, true_implies, false_implies, and_true, Int.reduceLT, Int.reduceLE, Int.reduceEq, or_false, false_or, true_or, or_true, false_and, and_false, hC.1]
  refine ⟨fun a => ?_, fun a => k1 (by omega)⟩
  try simp (disch := omega) only [iI_lit, iL_lit, iI_add, iI_sub, iI_mul, iI_neg, iI_lt, iI_le, iI_eq, iI_tn, iI_div, iI_l, iL_add, iL_sub, iL_mul, iL_neg, iL_le, iL_lt, iL_eq, iL_ite, vp_T, b2_ne0, b2_eq1, nn_imp, true_and, iI_ite, not_true_eq_false, not_false_eq_true, true_implies, false_implies, and_true, Int.reduceLT, Int.reduceLE, Int.reduceEq, or_false, false_or, true_or, or_true, false_and, and_false]
  refine ⟨by omega, ?_⟩
  intro σ1 e1
  have n1 : σ1.1 p 4 = iI (P 281) := by rw [e1, cp_n (by omega)]; exact hC.1
  rw [n1]
  try simp (disch := omega) only [iI_lit, iL_lit, iI_add, iI_sub, iI_mul, iI_neg, iI_lt, iI_le, iI_eq, iI_tn, iI_div, iI_l, iL_add, iL_sub, iL_mul, iL_neg, iL_le, iL_lt, iL_eq, iL_ite, vp_T, b2_ne0, b2_eq1, nn_imp, true_and, iI_ite, not_true_eq_false, not_false_eq_true, true_implies, false_implies, and_true, Int.reduceLT, Int.reduceLE, Int.reduceEq, or_false, false_or, true_or, or_true, false_and, and_false]
  intro σ2 e2
  have n2 : σ2.1 p 4 = iI (P 281 - 1) := by rw [e2]; exact up_h rfl
  rw [n2]
  refine k2 (by omega) σ2 (by rw [e2, e1]; exact Fr_up (Fr_cp Fr_rf (fun j => Or.inr rfl)) (Or.inl ⟨rfl, rfl⟩)) ?_
  have hz : cutP P w 281 = P 281 - 1 := by unfold cutP; rw [if_pos rfl]
  refine ⟨by rw [n2, hz], fun x k hk => ?_⟩
  rw [hz] at hk
  rw [e2, up_n (by omega), e1]
  unfold cutP
  rw [if_neg (by omega)]
  by_cases q : x < w
  · rw [cp_m (by omega), if_neg (by omega)]; exact hC.2 x k (by omega)
  · rw [cp_h (by omega), if_pos (by omega)]
    have := hC.2 (x + 1) k (by omega)
    rw [show 160 + 3 * (x + 1) + k = 160 + 3 * x + k + 3 by omega] at this
    rw [← this]
    refine congrArg (σ.1 (p + 2)) ?_
    omega
theorem CP_CW (hC : CP p P σ) : CW p P σ := ⟨CP_w hC, fun _ _ h => CP_v hC h⟩
/-- a pattern whose wires alone have changed -/
theorem CP_of {Q : Pl} {σ' : St} (hC : CP p P σ) (hf : Fr (fun k j => (k = p ∧ j = 4) ∨ k = p + 2) σ σ') (hw : CW p Q σ') (hq : ∀ i, (0 ≤ i ∧ i < 160) ∨ i = 280 ∨ (282 ≤ i ∧ i < 286) → Q i = P i) (hn : P 280 ≤ 20) : CP p Q σ' := by
  have q280 : Q 280 = P 280 := hq 280 (by omega)
  have o1 : σ'.1 (p + 1) = σ.1 (p + 1) := Fr_k hf (fun j => by omega)
  have o3 : σ'.1 (p + 3) = σ.1 (p + 3) := Fr_k hf (fun j => by omega)
  refine CP_mk ?_ hw.1 ?_ (fun k hk => ?_) (fun g k hk => ?_) (fun g hk => ?_) hw.2
  · rw [hf.1 p 3 (by omega), CP_n hC, q280]
  · rw [hf.1 p 5 (by omega), CP_c hC, hq 285 (by omega)]
  · rw [o3, CP_r hC hk, hq _ (by omega)]
  · rw [q280] at hk
    rw [o1, CP_m hC hk, hq _ (by omega)]
  · rw [q280] at hk ⊢
    rw [o1, CP_a hC hk]
    refine bm_ext (by omega) (fun k k0 k1 => ?_)
    refine ahd_c ?_ ?_ ?_ ?_ ?_ <;> exact (hq _ (by omega)).symm
theorem c_X2_removeWire' (hS : Sys S) (h_p : isPat p) (hC : CP p P σ) (hW : WF P) {w : Int} (r1 : -2147483648 ≤ w ∧ w < 2147483648) (k1 : ¬ (0 ≤ w ∧ w < P 281) → Φ [aI (iI (-1))] σ)
    (k2 : (0 ≤ w ∧ w < P 281) → ∀ σ', Fr (FP p) σ σ' → CP p (cutP P w) σ' → Φ [aI (iI (P 281 - 1))] σ') : S 34 [aR p, aI (iI w)] σ Φ := by
  have g0 := WF_0 hW
  refine c_X2_removeWire hS h_p (CP_CW hC) (by omega) r1 (by omega) k1 (fun a σ' hf hw => k2 a σ' (Fr_mo hf (fun k j q => by unfold FP; omega)) (CP_of hC hf hw (fun i hi => ?_) (by omega)))
  unfold cutP
  rw [if_neg (by omega), if_neg (by omega)]
theorem c_X2_copyFrom (hS : Sys S) {q : Nat} (h_p : isPat p) (h_q : isPat q) (hne : p + 3 < q ∨ q + 3 < p) (hC : CP q P σ) (hW : WF P) (hk : ∀ σ', Fr (FP p) σ σ' → CP p P σ' → Φ [] σ') : S 23 [aR p, aR q] σ Φ := by
  refine m_X2_copyFrom hS h_p h_q (fun v hv hw => ?_)
  have g0 := WF_0 hW
  unfold vc_X2_copyFrom_0
  refine ⟨by decide, fun σ1 e1 => ⟨by decide, fun σ2 e2 => ⟨by decide, fun σ3 e3 σ4 e4 σ5 e5 σ6 e6 => ?_⟩⟩⟩
  have z0 : (0 : Int32).toNatClampNeg = 0 := by decide
  have z180 : (Int32.ofNat 180).toNatClampNeg = 180 := by decide
  have z120 : (Int32.ofNat 120).toNatClampNeg = 120 := by decide
  have z3 : (3 : Int32).toNatClampNeg = 3 := by decide
  rw [z0, z180] at e1
  rw [z0, z120] at e2
  rw [z0, z3] at e3
  have o3 : ∀ k : Nat, ¬ k = p + 1 → ¬ k = p + 2 → ¬ k = p + 3 → σ3.1 k = σ.1 k := fun k a b c => by rw [e3, cp_n c, e2, cp_n b, e1, cp_n a]
  have q4 : σ4.1 q = σ.1 q := by rw [e4, up_n (by omega), o3 _ (by omega) (by omega) (by omega)]
  have q5 : σ5.1 q = σ.1 q := by rw [e5, up_n (by omega), q4]
  rw [o3 q (by omega) (by omega) (by omega), CP_n hC] at e4
  rw [q4, CP_w hC] at e5
  rw [q5, CP_c hC] at e6
  refine hk σ6 ?_ ?_
  · rw [e6, e5, e4, e3, e2, e1]
    refine Fr_up (Fr_up (Fr_up (Fr_cp (Fr_cp (Fr_cp Fr_rf ?_) ?_) ?_) ?_) ?_) ?_
    · intro j; unfold FP; omega
    · intro j; unfold FP; omega
    · intro j; unfold FP; omega
    · unfold FP; omega
    · unfold FP; omega
    · unfold FP; omega
  · refine CP_mk ?_ ?_ ?_ (fun k hk => ?_) (fun g k hk => ?_) (fun g hk => ?_) (fun w k hk => ?_)
    · rw [e6, e5, e4]; simp (disch := omega) only [up_h, up_m, up_n, ]
    · rw [e6, e5, e4]; simp (disch := omega) only [up_h, up_m, up_n, ]
    · rw [e6, e5, e4]; simp (disch := omega) only [up_h, up_m, up_n, ]
    · have := CP_r hC hk
      rw [e6, e5, e4, up_n (by omega), up_n (by omega), up_n (by omega), e3, cp_h (by omega), e2, cp_n (by omega), e1, cp_n (by omega), ← this]
      refine congrArg (σ.1 (q + 3)) ?_; omega
    · have := CP_m hC hk
      rw [e6, e5, e4, up_n (by omega), up_n (by omega), up_n (by omega), e3, cp_n (by omega), e2, cp_n (by omega), e1, cp_h (by omega), ← this]
      refine congrArg (σ.1 (q + 1)) ?_; omega
    · have := CP_a hC hk
      rw [e6, e5, e4, up_n (by omega), up_n (by omega), up_n (by omega), e3, cp_n (by omega), e2, cp_n (by omega), e1, cp_h (by omega), ← this]
      refine congrArg (σ.1 (q + 1)) ?_; omega
    · have := CP_v hC hk
      rw [e6, e5, e4, up_n (by omega), up_n (by omega), up_n (by omega), e3, cp_n (by omega), e2, cp_h (by omega), e1, cp_n (by omega), ← this]
      refine congrArg (σ.1 (q + 2)) ?_; omega
theorem c_X2_removeLastHole (hS : Sys S) (h_p : isPat p) (hC : CP p P σ) (hW : WF P) (k1 : P 280 = 0 → Φ [aI (iI (-3))] σ) (k2 : 0 < P 280 → ∀ σ', Fr (FP p) σ σ' → CP p (dropP P) σ' → Φ [aI (iI (P 280 - 1))] σ') : S 35 [aR p] σ Φ := by
  refine m_X2_removeLastHole hS h_p (fun v hv hw => ?_)
  have g0 := WF_0 hW
  unfold vc_X2_removeLastHole_0
  try simp (disch := omega) only [iI_lit, iL_lit, iI_add, iI_sub, iI_mul, iI_neg, iI_lt, iI_le, iI_eq, iI_tn, iI_div, iI_l, iL_add, iL_sub, iL_mul, iL_neg, iL_le, iL_lt, iL_eq, iL_ite, vp_T, b2_ne0, b2_eq1, nn_imp, true_and, iI_ite, not_true_eq_false, not_false_eq_true, true_implies, false_implies, and_true, Int.reduceLT, Int.reduceLE, Int.reduceEq, or_false, false_or, true_or, or_true, false_and, and_false, CP_n hC]
  refine ⟨fun a σ1 e1 => ?_, k1⟩
  -- the wires, from behind
  have L2 : ∀ (n : Nat) (Q : Pl) (σ1 : St), Fr (FP p) σ σ1 → CP p Q σ1 → (Q 280 = P 280 - 1) → ((n : Int) ≤ Q 281 ∧ Q 281 ≤ 40) → (∀ w, 0 ≤ w → w < Q 281 → (-1 ≤ Q (160 + 3 * w) ∧ Q (160 + 3 * w) ≤ 20) ∧ (0 ≤ Q (160 + 3 * w + 1) ∧ Q (160 + 3 * w + 1) ≤ 20)) → dropN Q n = dropP P → v 67 [some (aR p), some (aI (iI ((n : Int) - 1)))] [] σ1 := by
    intro n
    induction n with
    | zero =>
      intro Q σ1 hf hm hq hw1 hr he
      refine w_X2_removeLastHole_67 hS hv hw p h_p _ σ1 ?_
      unfold vc_X2_removeLastHole_67
      have he : Q = dropP P := he
      subst he
      have e3 := CP_n hm
      rw [hq] at e3
      try simp (disch := omega) only [iI_lit, iL_lit, iI_add, iI_sub, iI_mul, iI_neg, iI_lt, iI_le, iI_eq, iI_tn, iI_div, iI_l, iL_add, iL_sub, iL_mul, iL_neg, iL_le, iL_lt, iL_eq, iL_ite, vp_T, b2_ne0, b2_eq1, nn_imp, true_and, iI_ite, not_true_eq_false, not_false_eq_true, true_implies, false_implies, and_true, Int.reduceLT, Int.reduceLE, Int.reduceEq, or_false, false_or, true_or, or_true, false_and, and_false, e3]
      exact ⟨fun _ => k2 (by omega) σ1 hf hm, fun c => by omega⟩
    | succ n ih =>
      intro Q σ1 hf hm hq hw1 hr he
      refine w_X2_removeLastHole_67 hS hv hw p h_p _ σ1 ?_
      unfold vc_X2_removeLastHole_67
      have hz : ((n + 1 : Nat) : Int) - 1 = (n : Int) := by omega
      rw [hz]
      have rn := hr n (by omega) (by omega)
      have m0 : σ1.1 (p + 2) ((n : Int) * 3 + 0).toNat = iI (Q (160 + 3 * (n : Int))) := by rw [CP_v hm (by omega), Int.add_zero]
      have he' : (if Q (160 + 3 * (n : Int)) = Q 280 ∨ Q (160 + 3 * (n : Int) + 1) = Q 280 then dropN (cutP Q n) n else dropN Q n) = dropP P := he
      have N : (¬ (Q (160 + 3 * (n : Int)) = Q 280 ∨ Q (160 + 3 * (n : Int) + 1) = Q 280)) → v 67 [some (aR p), some (aI (iI ((n : Int) + -1)))] [] σ1 := by
        intro c
        rw [if_neg c] at he'
        exact ih Q σ1 hf hm hq (by omega) hr he'
      have Y : (Q (160 + 3 * (n : Int)) = Q 280 ∨ Q (160 + 3 * (n : Int) + 1) = Q 280) → vc_X2_removeLastHole_97 S Φ v p (iI n) σ1 := by
        intro c
        rw [if_pos c] at he'
        unfold vc_X2_removeLastHole_97
        refine c_X2_removeWire hS h_p (CP_CW hm) (by omega) (by omega) (by omega) (fun z => by omega) (fun _ σ3 f3 m3 => ⟨_, rfl, ?_⟩)
        try simp (disch := omega) only [iI_lit, iL_lit, iI_add, iI_sub, iI_mul, iI_neg, iI_lt, iI_le, iI_eq, iI_tn, iI_div, iI_l, iL_add, iL_sub, iL_mul, iL_neg, iL_le, iL_lt, iL_eq, iL_ite, vp_T, b2_ne0, b2_eq1, nn_imp, true_and, iI_ite, not_true_eq_false, not_false_eq_true, true_implies, false_implies, and_true, Int.reduceLT, Int.reduceLE, Int.reduceEq, or_false, false_or, true_or, or_true, false_and, and_false]
        have d0 : cutP Q n 280 = Q 280 := by unfold cutP; rw [if_neg (by omega), if_neg (by omega)]
        have d1 : cutP Q n 281 = Q 281 - 1 := by unfold cutP; rw [if_pos rfl]
        refine ih (cutP Q n) σ3 (Fr_tr hf (Fr_mo f3 (fun k j q => by unfold FP; omega))) (CP_of hm f3 m3 (fun i hi => by unfold cutP; rw [if_neg (by omega), if_neg (by omega)]) (by omega)) (by omega) (by omega) (fun w h0 h1 => ?_) he'
        rw [d1] at h1
        by_cases q : w < n
        · have := hr w h0 (by omega)
          unfold cutP
          rw [if_neg (by omega), if_neg (by omega), if_neg (by omega), if_neg (by omega)]
          exact this
        · have := hr (w + 1) (by omega) (by omega)
          unfold cutP
          rw [if_neg (by omega), if_pos (by omega), if_neg (by omega), if_pos (by omega)]
          rw [show 160 + 3 * (w + 1) = 160 + 3 * w + 3 by omega] at this
          rw [show 160 + 3 * w + 1 + 3 = 160 + 3 * w + 3 + 1 by omega]
          exact this
      try simp (disch := omega) only [iI_lit, iL_lit, iI_add, iI_sub, iI_mul, iI_neg, iI_lt, iI_le, iI_eq, iI_tn, iI_div, iI_l, iL_add, iL_sub, iL_mul, iL_neg, iL_le, iL_lt, iL_eq, iL_ite, vp_T, b2_ne0, b2_eq1, nn_imp, true_and, iI_ite, not_true_eq_false, not_false_eq_true, true_implies, false_implies, and_true, Int.reduceLT, Int.reduceLE, Int.reduceEq, or_false, false_or, true_or, or_true, false_and, and_false, m0, CP_v hm, CP_n hm]
      refine ⟨fun c => by omega, fun _ => ⟨fun c => Y (Or.inl c), fun c => ⟨fun c2 => N (by omega), fun c2 => Y (Or.inr c2)⟩⟩⟩
  -- the bits of the hole
  have L1 : ∀ (d : Nat) (h : Int) (σ1 : St), (P 280 - 1 - h).toNat = d → 0 ≤ h → h ≤ P 280 - 1 → Fr (FP p) σ σ1 → σ1.1 p 3 = iI (P 280 - 1) → (∀ k j, ¬ (k = p ∧ j = 3) → ¬ k = p + 1 → σ1.1 k j = σ.1 k j) → (∀ g k : Int, (0 ≤ g ∧ g < P 280) ∧ 0 ≤ k ∧ k < 8 → σ1.1 (p + 1) (g * 9 + k).toNat = iI (P (8 * g + k))) → (∀ g, 0 ≤ g → g < h → σ1.1 (p + 1) (g * 9 + 8).toNat = bm (ahd P g) (P 280 - 1)) → (∀ g, h ≤ g → g < P 280 → σ1.1 (p + 1) (g * 9 + 8).toNat = bm (ahd P g) (P 280)) → v 22 [some (aR p), some (aI (iI h))] [] σ1 := by
    intro d
    induction d with
    | zero =>
      intro h σ1 hd h0 h1 hf n1 o1 m1 b1 b2
      refine w_X2_removeLastHole_22 hS hv hw p h_p _ σ1 ?_
      unfold vc_X2_removeLastHole_22
      have w1 : σ1.1 p 4 = iI (P 281) := by rw [o1 _ _ (by omega) (by omega)]; exact CP_w hC
      try simp (disch := omega) only [iI_lit, iL_lit, iI_add, iI_sub, iI_mul, iI_neg, iI_lt, iI_le, iI_eq, iI_tn, iI_div, iI_l, iL_add, iL_sub, iL_mul, iL_neg, iL_le, iL_lt, iL_eq, iL_ite, vp_T, b2_ne0, b2_eq1, nn_imp, true_and, iI_ite, not_true_eq_false, not_false_eq_true, true_implies, false_implies, and_true, Int.reduceLT, Int.reduceLE, Int.reduceEq, or_false, false_or, true_or, or_true, false_and, and_false, n1, w1]
      refine ⟨fun _ => ?_, fun c => by omega⟩
      have e0 : P 281 - 1 = (((P 281).toNat : Nat) : Int) - 1 := by omega
      rw [e0]
      refine L2 _ (pu P 280 (P 280 - 1)) σ1 hf ?_ (pu_e rfl) (by simp (disch := omega) only [pu_e, pu_n, ]; omega) (fun w h0 h1 => ?_) rfl
      · refine CP_mk ?_ ?_ ?_ (fun k hk => ?_) (fun g k hk => ?_) (fun g hk => ?_) (fun w k hk => ?_)
        · rw [n1, pu_e rfl]
        · rw [w1, pu_n (by omega)]
        · rw [o1 _ _ (by omega) (by omega), CP_c hC, pu_n (by omega)]
        · rw [o1 _ _ (by omega) (by omega), CP_r hC hk, pu_n (by omega)]
        · rw [pu_e rfl] at hk
          rw [m1 g k (by omega), pu_n (by omega)]
        · rw [pu_e rfl] at hk ⊢
          rw [b1 g (by omega) (by omega)]
          refine bm_ext (by omega) (fun k k0 k1 => ?_)
          refine ahd_c ?_ ?_ ?_ ?_ ?_ <;> simp (disch := omega) only [pu_e, pu_n, ]
        · rw [pu_n (by omega)] at hk
          rw [o1 _ _ (by omega) (by omega), CP_v hC hk, pu_n (by omega)]
      · rw [pu_n (by omega)] at h1
        have := WF_w hW h0 h1
        simp (disch := omega) only [pu_e, pu_n, ]
        omega
    | succ d ih =>
      intro h σ1 hd h0 h1 hf n1 o1 m1 b1 b2
      refine w_X2_removeLastHole_22 hS hv hw p h_p _ σ1 ?_
      unfold vc_X2_removeLastHole_22
      have e := b2 h (Int.le_refl h) (by omega)
      try simp (disch := omega) only [iI_lit, iL_lit, iI_add, iI_sub, iI_mul, iI_neg, iI_lt, iI_le, iI_eq, iI_tn, iI_div, iI_l, iL_add, iL_sub, iL_mul, iL_neg, iL_le, iL_lt, iL_eq, iL_ite, vp_T, b2_ne0, b2_eq1, nn_imp, true_and, iI_ite, not_true_eq_false, not_false_eq_true, true_implies, false_implies, and_true, Int.reduceLT, Int.reduceLE, Int.reduceEq, or_false, false_or, true_or, or_true, false_and, and_false, n1, e, bitO_i]
      refine ⟨fun c => by omega, fun _ σ2 e2 => ?_⟩
      have hc := bm_cut (p := ahd P h) (n := P 280 - 1) (by omega)
      rw [show P 280 - 1 + 1 = P 280 by omega] at hc
      rw [hc] at e2
      refine ih (h + 1) σ2 (by omega) (by omega) (by omega) (by rw [e2]; exact Fr_up hf (by unfold FP; omega)) (by rw [e2, up_n (by omega)]; exact n1) (fun k j a b => ?_) (fun g k hk => ?_) (fun g g0 g1 => ?_) (fun g g0 g1 => ?_)
      · rw [e2, up_n b]; exact o1 k j a b
      · rw [e2, up_m (by omega)]; exact m1 g k hk
      · rw [e2]
        by_cases q : g = h
        · subst q; exact up_h rfl
        · rw [up_m (by omega)]; exact b1 g g0 (by omega)
      · rw [e2, up_m (by omega)]; exact b2 g (by omega) g1
  refine L1 _ 0 σ1 rfl (by omega) (by omega) (by rw [e1]; exact Fr_up Fr_rf (by unfold FP; omega)) (by rw [e1]; exact up_h rfl) (fun k j a b => ?_) (fun g k hk => ?_) (fun g g0 g1 => by omega) (fun g g0 g1 => ?_)
  · rw [e1]
    by_cases q : k = p
    · subst q; exact up_m (by omega)
    · rw [up_n q]
  · rw [e1, up_n (by omega)]; exact CP_m hC hk
  · rw [e1, up_n (by omega)]; exact CP_a hC ⟨g0, g1⟩
end C18c
