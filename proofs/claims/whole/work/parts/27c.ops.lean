/-! step and stepped -/
section C27c
variable {S : Sp} {σ : St} {Φ : Rs} {P : Pl} {s : Nat}
def FSP : Nat → Nat → Prop := fun k j => (13 ≤ k ∧ k ≤ 19) ∨ (k = 0 ∧ j = 11) ∨ (k = 1 ∧ j = 5)
theorem c_X8_step (hS : Sys S) (hC : CP 1 P σ) (hW : WF P) (hR : RKd P σ) (hD : PDd P σ) (hk : ∀ σ', Fr FSP σ σ' → CP 1 (stP P) σ' → RKd (stP P) σ' → PDd (stP P) σ' → Φ [aI (iI (qStep P))] σ') : S 118 [aR 0] σ Φ := by
  refine m_X8_step hS (fun v hv hw => ?_)
  have g0 := WF_0 hW
  unfold vc_X8_step_0
  refine c_X8_reckoned hS hC hW hR (fun σ1 f1 c1 k1 a1 => ⟨rfl, ?_⟩)
  have D1 : PDd P σ1 := PDd_f hD f1 (fun k j x y => by unfold FRq; omega) (by unfold FRq; omega)
  have F1 : Fr FSP σ σ1 := Fr_mo f1 (fun k j q => by unfold FRq at q; unfold FSP; omega)
  have zz := sh_ok hW (sg_S hW) (P := P) (D := dd P) (g := -1)
  have n1 : σ1.1 16 3 = iI (shL P (fr P (dd P) (-1)) (tm P (dd P) (-1))).2 := k1.2.1.2
  have zn := zz.1
  unfold qStep stP at hk
  try simp (disch := omega) only [iI_lit, iL_lit, iI_add, iI_sub, iI_mul, iI_neg, iI_lt, iI_le, iI_eq, iI_tn, iI_div, iI_l, iL_add, iL_sub, iL_mul, iL_neg, iL_le, iL_lt, iL_eq, iL_ite, vp_T, b2_ne0, b2_eq1, nn_imp, true_and, iI_ite, not_true_eq_false, not_false_eq_true, true_implies, false_implies, and_true, Int.reduceLT, Int.reduceLE, Int.reduceEq, or_false, false_or, true_or, or_true, false_and, and_false, CP_c c1, n1]
  refine ⟨fun c => ?_, fun c => ?_⟩
  · try simp (disch := omega) only [iI_lit, iL_lit, iI_add, iI_sub, iI_mul, iI_neg, iI_lt, iI_le, iI_eq, iI_tn, iI_div, iI_l, iL_add, iL_sub, iL_mul, iL_neg, iL_le, iL_lt, iL_eq, iL_ite, vp_T, b2_ne0, b2_eq1, nn_imp, true_and, iI_ite, not_true_eq_false, not_false_eq_true, true_implies, false_implies, and_true, Int.reduceLT, Int.reduceLE, Int.reduceEq, or_false, false_or, true_or, or_true, false_and, and_false]
    intro σ2 e2
    have hk := hk σ2
    rw [if_pos c, if_pos c] at hk
    have t : σ1.1 19 (P 285).toNat = iI ((shL P (fr P (dd P) (-1)) (tm P (dd P) (-1))).1 (P 285)).2.2 := (k1.2.1.1 (P 285) (by omega) c).2.2
    rw [t]
    have f2 : Fr FSP σ1 σ2 := by rw [e2]; exact Fr_up Fr_rf (Or.inr (Or.inr ⟨rfl, rfl⟩))
    refine hk (Fr_tr F1 f2) (CP_cl c1 e2 (by omega) (by omega)) (Or.inr ⟨?_, k_RK hW (RK_f k1 (c := fun k j => k = 1 ∧ j = 5) (by rw [e2]; exact Fr_up Fr_rf ⟨rfl, rfl⟩) (fun k j x y => by omega))⟩) (k_PDd hW (PDd_f D1 (c := fun k j => k = 1 ∧ j = 5) (by rw [e2]; exact Fr_up Fr_rf ⟨rfl, rfl⟩) (fun k j x y => by omega) (by omega)))
    rw [e2, up_n (by omega)]; exact a1
  · have hk := hk σ1
    rw [if_neg c, if_neg c] at hk
    exact hk F1 c1 (Or.inr ⟨a1, k1⟩) D1
theorem c_X9_step (hS : Sys S) (hM : MP 50 P σ) (hW : WF P) (hk : ∀ σ', Fr (fun k j => FL k j ∨ k = 50) σ σ' → MP 50 (stP P) σ' → Φ [aI (iI (qStep P))] σ') : S 224 [aR 49] σ Φ := by
  refine m_X9_step hS (fun v hv hw => ?_)
  have g0 := WF_0 hW
  unfold vc_X9_step_0
  refine c_X9_lays hS hM hW (fun σ1 f1 s1 m1 => ⟨rfl, ?_⟩)
  have mp := MP_f hM f1 (fun j => by unfold FL FM FSH; omega)
  have zz := sh_ok hW (sg_S hW) (P := P) (D := dd P) (g := -1)
  have zn := zz.1
  unfold qStep stP at hk
  have n1 := m1.2
  try simp (disch := omega) only [iI_lit, iL_lit, iI_add, iI_sub, iI_mul, iI_neg, iI_lt, iI_le, iI_eq, iI_tn, iI_div, iI_l, iL_add, iL_sub, iL_mul, iL_neg, iL_le, iL_lt, iL_eq, iL_ite, vp_T, b2_ne0, b2_eq1, nn_imp, true_and, iI_ite, not_true_eq_false, not_false_eq_true, true_implies, false_implies, and_true, Int.reduceLT, Int.reduceLE, Int.reduceEq, or_false, false_or, true_or, or_true, false_and, and_false, mp _, n1]
  refine ⟨fun c σ2 e2 => ?_, fun c => ?_⟩
  · have hk := hk σ2
    rw [if_pos c, if_pos c] at hk
    have m2 := MP_up e2 mp (by omega)
    have e5 : σ2.1 50 (285 : Int).toNat = iI (P 285 + 1) := by rw [m2 285 (by omega), pu_e rfl]
    have t : σ2.1 57 (P 285).toNat = iI ((shL P (fr P (dd P) (-1)) (tm P (dd P) (-1))).1 (P 285)).2.2 := by rw [e2, up_n (by omega)]; exact (m1.1 (P 285) (by omega) c).2.2
    try simp (disch := omega) only [iI_lit, iL_lit, iI_add, iI_sub, iI_mul, iI_neg, iI_lt, iI_le, iI_eq, iI_tn, iI_div, iI_l, iL_add, iL_sub, iL_mul, iL_neg, iL_le, iL_lt, iL_eq, iL_ite, vp_T, b2_ne0, b2_eq1, nn_imp, true_and, iI_ite, not_true_eq_false, not_false_eq_true, true_implies, false_implies, and_true, Int.reduceLT, Int.reduceLE, Int.reduceEq, or_false, false_or, true_or, or_true, false_and, and_false, e5]
    rw [show P 285 + 1 - 1 = P 285 by omega, t]
    exact hk (Fr_tr (Fr_mo f1 (fun k j q => Or.inl q)) (by rw [e2]; exact Fr_up Fr_rf (Or.inr rfl))) m2
  · have hk := hk σ1
    rw [if_neg c, if_neg c] at hk
    exact hk (Fr_mo f1 (fun k j q => Or.inl q)) mp
theorem wof_r {Z : Int → Z3} {n c : Int} (ho : okZ Z n) (h0 : 0 ≤ c) (h1 : c ≤ n) : 0 ≤ wof Z c ∧ wof Z c ≤ 100 * c := by
  unfold wof
  exact lp_inv (f := fun i a => a + (Z i).2.1) (a := 0) (fun k (a : Int) => 0 ≤ a ∧ a ≤ 100 * k) _ rfl h0 (by omega) (fun k a k0 k1 ha => by have := okZ_r ho k0 (by omega); omega)
theorem c_X7_weightOfFirst (hS : Sys S) (h_s : isSh s) {a : Zr} (hz : CS s a σ) (ho : okZ a.1 a.2) {c : Int} (h0 : 0 ≤ c) (h1 : c ≤ a.2) (hk : Φ [aI (iI (wof a.1 c))] σ) : S 88 [aR s, aI (iI c)] σ Φ := by
  refine m_X7_weightOfFirst hS h_s (fun v hv hw => ?_)
  unfold vc_X7_weightOfFirst_0
  have hn := ho.1
  have L : ∀ (d : Nat) (i : Int), (c - i).toNat = d → 0 ≤ i → i ≤ c → v 4 [some (aR s), some (aI (iI c)), some (aI (iI (wof a.1 i))), some (aI (iI i))] [] σ := by
    intro d
    induction d with
    | zero =>
      intro i hd i0 i1
      refine w_X7_weightOfFirst_4 hS hv hw s h_s _ _ _ σ ?_
      unfold vc_X7_weightOfFirst_4
      have q : i = c := by omega
      subst q
      try simp (disch := omega) only [iI_lit, iL_lit, iI_add, iI_sub, iI_mul, iI_neg, iI_lt, iI_le, iI_eq, iI_tn, iI_div, iI_l, iL_add, iL_sub, iL_mul, iL_neg, iL_le, iL_lt, iL_eq, iL_ite, vp_T, b2_ne0, b2_eq1, nn_imp, true_and, iI_ite, not_true_eq_false, not_false_eq_true, true_implies, false_implies, and_true, Int.reduceLT, Int.reduceLE, Int.reduceEq, or_false, false_or, true_or, or_true, false_and, and_false]
      exact ⟨fun _ => hk, fun c => by omega⟩
    | succ d ih =>
      intro i hd i0 i1
      refine w_X7_weightOfFirst_4 hS hv hw s h_s _ _ _ σ ?_
      unfold vc_X7_weightOfFirst_4
      have i' := ih (i + 1) (by omega) (by omega) (by omega)
      unfold wof at i'
      rw [lp_l _ _ i0] at i'
      have t := (hz.1 i i0 (by omega)).2.1
      try simp (disch := omega) only [iI_lit, iL_lit, iI_add, iI_sub, iI_mul, iI_neg, iI_lt, iI_le, iI_eq, iI_tn, iI_div, iI_l, iL_add, iL_sub, iL_mul, iL_neg, iL_le, iL_lt, iL_eq, iL_ite, vp_T, b2_ne0, b2_eq1, nn_imp, true_and, iI_ite, not_true_eq_false, not_false_eq_true, true_implies, false_implies, and_true, Int.reduceLT, Int.reduceLE, Int.reduceEq, or_false, false_or, true_or, or_true, false_and, and_false, hz.2, t]
      exact ⟨fun c => by omega, fun _ => ⟨fun c => by omega, fun _ => i'⟩⟩
  have := L _ 0 rfl (by omega) h0
  rw [show wof a.1 0 = 0 from lp_z _ _ (Int.le_refl 0)] at this
  rw [iI_lit]
  exact this
theorem c_X7_lastTimeOfFirst (hS : Sys S) (h_s : isSh s) {a : Zr} (hz : CS s a σ) (ho : okZ a.1 a.2) {c : Int} (h0 : 0 ≤ c) (h1 : c ≤ a.2) (hk : Φ [aI (if c = 0 then iI (-1) else iI (a.1 (c - 1)).1)] σ) : S 89 [aR s, aI (iI c)] σ Φ := by
  refine m_X7_lastTimeOfFirst hS h_s (fun v hv hw => ?_)
  unfold vc_X7_lastTimeOfFirst_0
  have hn := ho.1
  try simp (disch := omega) only [iI_lit, iL_lit, iI_add, iI_sub, iI_mul, iI_neg, iI_lt, iI_le, iI_eq, iI_tn, iI_div, iI_l, iL_add, iL_sub, iL_mul, iL_neg, iL_le, iL_lt, iL_eq, iL_ite, vp_T, b2_ne0, b2_eq1, nn_imp, true_and, iI_ite, not_true_eq_false, not_false_eq_true, true_implies, false_implies, and_true, Int.reduceLT, Int.reduceLE, Int.reduceEq, or_false, false_or, true_or, or_true, false_and, and_false, hz.2]
  refine ⟨fun d => ?_, fun d => ⟨fun e => by omega, fun e => ?_⟩⟩
  · rw [if_pos (by omega)] at hk; exact hk
  · rw [if_neg (by omega)] at hk
    try simp (disch := omega) only [iI_lit, iL_lit, iI_add, iI_sub, iI_mul, iI_neg, iI_lt, iI_le, iI_eq, iI_tn, iI_div, iI_l, iL_add, iL_sub, iL_mul, iL_neg, iL_le, iL_lt, iL_eq, iL_ite, vp_T, b2_ne0, b2_eq1, nn_imp, true_and, iI_ite, not_true_eq_false, not_false_eq_true, true_implies, false_implies, and_true, Int.reduceLT, Int.reduceLE, Int.reduceEq, or_false, false_or, true_or, or_true, false_and, and_false, (hz.1 (c - 1) (by omega) (by omega)).1]
    exact hk
theorem c_X7_holesBehind (hS : Sys S) (h_s : isSh s) {a : Zr} (hz : CS s a σ) (ho : okZ a.1 a.2) {c : Int} (h0 : 0 ≤ c) (h1 : c ≤ a.2) (hk : Φ [aI (hbs a.1 c a.2)] σ) : S 90 [aR s, aI (iI c)] σ Φ := by
  refine m_X7_holesBehind hS h_s (fun v hv hw => ?_)
  unfold vc_X7_holesBehind_0
  have hn := ho.1
  have L : ∀ (d : Nat) (i : Int), (a.2 - i).toNat = d → c ≤ i → i ≤ a.2 → v 8 [some (aR s), some (aI (iI c)), some (aI (hbs a.1 c i)), some (aI (iI i))] [] σ := by
    intro d
    induction d with
    | zero =>
      intro i hd i0 i1
      refine w_X7_holesBehind_8 hS hv hw s h_s _ _ _ σ ?_
      unfold vc_X7_holesBehind_8
      have q : i = a.2 := by omega
      subst q
      try simp (disch := omega) only [iI_lit, iL_lit, iI_add, iI_sub, iI_mul, iI_neg, iI_lt, iI_le, iI_eq, iI_tn, iI_div, iI_l, iL_add, iL_sub, iL_mul, iL_neg, iL_le, iL_lt, iL_eq, iL_ite, vp_T, b2_ne0, b2_eq1, nn_imp, true_and, iI_ite, not_true_eq_false, not_false_eq_true, true_implies, false_implies, and_true, Int.reduceLT, Int.reduceLE, Int.reduceEq, or_false, false_or, true_or, or_true, false_and, and_false, hz.2]
      exact ⟨fun _ => hk, fun c => by omega⟩
    | succ d ih =>
      intro i hd i0 i1
      refine w_X7_holesBehind_8 hS hv hw s h_s _ _ _ σ ?_
      unfold vc_X7_holesBehind_8
      have i' := ih (i + 1) (by omega) (by omega) (by omega)
      unfold hbs at i'
      rw [lp_l _ _ i0] at i'
      have zr := okZ_r ho (show 0 ≤ i by omega) (by omega)
      have t := (hz.1 i (by omega) (by omega)).2.2
      try simp (disch := omega) only [iI_lit, iL_lit, iI_add, iI_sub, iI_mul, iI_neg, iI_lt, iI_le, iI_eq, iI_tn, iI_div, iI_l, iL_add, iL_sub, iL_mul, iL_neg, iL_le, iL_lt, iL_eq, iL_ite, vp_T, b2_ne0, b2_eq1, nn_imp, true_and, iI_ite, not_true_eq_false, not_false_eq_true, true_implies, false_implies, and_true, Int.reduceLT, Int.reduceLE, Int.reduceEq, or_false, false_or, true_or, or_true, false_and, and_false, hz.2, t]
      refine ⟨fun c => by omega, fun _ => ?_⟩
      rw [bitO_i (by omega)]
      exact i'
  have := L _ c rfl (Int.le_refl c) h1
  rw [show hbs a.1 c c = iI 0 from lp_z _ _ (Int.le_refl c)] at this
  try simp (disch := omega) only [iI_lit, iL_lit, iI_add, iI_sub, iI_mul, iI_neg, iI_lt, iI_le, iI_eq, iI_tn, iI_div, iI_l, iL_add, iL_sub, iL_mul, iL_neg, iL_le, iL_lt, iL_eq, iL_ite, vp_T, b2_ne0, b2_eq1, nn_imp, true_and, iI_ite, not_true_eq_false, not_false_eq_true, true_implies, false_implies, and_true, Int.reduceLT, Int.reduceLE, Int.reduceEq, or_false, false_or, true_or, or_true, false_and, and_false]
  rw [if_neg (by omega)]
  exact this
theorem c_X8_stepped (hS : Sys S) (hC : CP 1 P σ) (hW : WF P) (hR : RKd P σ) (hc : CLK P) {w : Int} (r1 : -2147483648 ≤ w ∧ w < 2147483648) (hk : ∀ σ', Fr FRq σ σ' → RKd P σ' → Φ [aI (qStepped P w)] σ') : S 119 [aR 0, aI (iI w)] σ Φ := by
  refine m_X8_stepped hS (fun v hv hw => ?_)
  have g0 := WF_0 hW
  unfold vc_X8_stepped_0
  refine c_X8_reckoned hS hC hW hR (fun σ1 f1 c1 k1 a1 => ⟨rfl, ?_⟩)
  have hk := hk σ1 f1 (Or.inr ⟨a1, k1⟩)
  have zz := sh_ok hW (sg_S hW) (P := P) (D := dd P) (g := -1)
  have hz := k1.2.1
  have b4 := k1.1.2.2.1.1
  unfold qStepped at hk
  unfold CLK at hc
  try simp (disch := omega) only [iI_lit, iL_lit, iI_add, iI_sub, iI_mul, iI_neg, iI_lt, iI_le, iI_eq, iI_tn, iI_div, iI_l, iL_add, iL_sub, iL_mul, iL_neg, iL_le, iL_lt, iL_eq, iL_ite, vp_T, b2_ne0, b2_eq1, nn_imp, true_and, iI_ite, not_true_eq_false, not_false_eq_true, true_implies, false_implies, and_true, Int.reduceLT, Int.reduceLE, Int.reduceEq, or_false, false_or, true_or, or_true, false_and, and_false, CP_c c1]
  refine ⟨fun a => (by simp (disch := omega) only [if_pos, if_neg] at hk; exact hk), fun a => ⟨fun b => ?_, fun b => ⟨fun d => ?_, fun d => ⟨fun e => ?_, fun e => (by simp (disch := omega) only [if_pos, if_neg] at hk; exact hk)⟩⟩⟩⟩
  · exact c_X7_weightOfFirst hS isSh_16 hz zz (by omega) hc ⟨_, rfl, (by simp (disch := omega) only [if_pos, if_neg] at hk; exact hk)⟩
  · refine c_X7_lastTimeOfFirst hS isSh_16 hz zz (by omega) hc ⟨_, rfl, ?_⟩
    rw [if_neg a, if_neg b, if_pos d] at hk; exact hk
  · refine c_X7_holesBehind hS isSh_16 hz zz (by omega) hc ⟨_, rfl, ?_⟩
    rw [b4]; exact (by simp (disch := omega) only [if_pos, if_neg] at hk; exact hk)
theorem c_X9_stepped (hS : Sys S) (hM : MP 50 P σ) (hW : WF P) (hc : CLK P) {w : Int} (r1 : -2147483648 ≤ w ∧ w < 2147483648) (hk : ∀ σ', Fr FL σ σ' → Φ [aI (qStepped P w)] σ') : S 225 [aR 49, aI (iI w)] σ Φ := by
  refine m_X9_stepped hS (fun v hv hw => ?_)
  have g0 := WF_0 hW
  have hkr := hk σ Fr_rf
  unfold vc_X9_stepped_0
  unfold qStepped at hk hkr
  try simp (disch := omega) only [iI_lit, iL_lit, iI_add, iI_sub, iI_mul, iI_neg, iI_lt, iI_le, iI_eq, iI_tn, iI_div, iI_l, iL_add, iL_sub, iL_mul, iL_neg, iL_le, iL_lt, iL_eq, iL_ite, vp_T, b2_ne0, b2_eq1, nn_imp, true_and, iI_ite, not_true_eq_false, not_false_eq_true, true_implies, false_implies, and_true, Int.reduceLT, Int.reduceLE, Int.reduceEq, or_false, false_or, true_or, or_true, false_and, and_false]
  refine ⟨fun c => ?_, fun c => by have hk := hkr; exact (by simp (disch := omega) only [if_pos, if_neg] at hk; exact hk)⟩
  refine c_X9_lays hS hM hW (fun σ1 f1 s1 m1 => ⟨rfl, ?_⟩)
  have hk := hk σ1 f1
  have mp := MP_f hM f1 (fun j => by unfold FL FM FSH; omega)
  have ho := sh_ok hW (sg_S hW) (P := P) (D := dd P) (g := -1)
  have hn := ho.1
  have f7 := s1.2.2.1
  unfold CLK at hc
  generalize (shL P (fr P (dd P) (-1)) (tm P (dd P) (-1))) = a at hk m1 ho hn hc
  try simp (disch := omega) only [iI_lit, iL_lit, iI_add, iI_sub, iI_mul, iI_neg, iI_lt, iI_le, iI_eq, iI_tn, iI_div, iI_l, iL_add, iL_sub, iL_mul, iL_neg, iL_le, iL_lt, iL_eq, iL_ite, vp_T, b2_ne0, b2_eq1, nn_imp, true_and, iI_ite, not_true_eq_false, not_false_eq_true, true_implies, false_implies, and_true, Int.reduceLT, Int.reduceLE, Int.reduceEq, or_false, false_or, true_or, or_true, false_and, and_false, mp _, f7]
  have L : ∀ (d : Nat) (i : Int), (a.2 - i).toNat = d → 0 ≤ i → i ≤ a.2 → v 38 [some (aR 49), some (aI (iI w)), some (aI (iI (P 285))), some (aI (iI (wof a.1 (if i ≤ P 285 then i else P 285)))), some (aI (bm (fr P (dd P) (-1)) (P 280) &&& (hbs a.1 (P 285) i ^^^ iI (-1)))), some (aI (iI i))] [] σ1 := by
    intro d
    induction d with
    | zero =>
      intro i hd i0 i1
      refine w_X9_stepped_38 hS hv hw _ _ _ _ _ σ1 ?_
      unfold vc_X9_stepped_38
      have q : i = a.2 := by omega
      subst q
      rw [show (if a.2 ≤ P 285 then a.2 else P 285) = P 285 by omega]
      try simp (disch := omega) only [iI_lit, iL_lit, iI_add, iI_sub, iI_mul, iI_neg, iI_lt, iI_le, iI_eq, iI_tn, iI_div, iI_l, iL_add, iL_sub, iL_mul, iL_neg, iL_le, iL_lt, iL_eq, iL_ite, vp_T, b2_ne0, b2_eq1, nn_imp, true_and, iI_ite, not_true_eq_false, not_false_eq_true, true_implies, false_implies, and_true, Int.reduceLT, Int.reduceLE, Int.reduceEq, or_false, false_or, true_or, or_true, false_and, and_false, m1.2]
      refine ⟨fun _ => ⟨fun x => ⟨fun y => ⟨fun z => ?_, fun z => ?_⟩, fun y => ?_⟩, fun x => ?_⟩, fun c => by omega⟩
      · rw [if_neg (by omega), if_neg (by omega), if_neg (by omega), if_pos (by omega)] at hk; exact hk
      · rw [if_neg (by omega), if_neg (by omega), if_pos (by omega)] at hk
        refine ⟨fun e => ?_, fun e => ?_⟩
        · rw [if_neg (by omega)] at hk
          try simp (disch := omega) only [iI_lit, iL_lit, iI_add, iI_sub, iI_mul, iI_neg, iI_lt, iI_le, iI_eq, iI_tn, iI_div, iI_l, iL_add, iL_sub, iL_mul, iL_neg, iL_le, iL_lt, iL_eq, iL_ite, vp_T, b2_ne0, b2_eq1, nn_imp, true_and, iI_ite, not_true_eq_false, not_false_eq_true, true_implies, false_implies, and_true, Int.reduceLT, Int.reduceLE, Int.reduceEq, or_false, false_or, true_or, or_true, false_and, and_false, (m1.1 (P 285 - 1) (by omega) (by omega)).1]
          exact hk
        · rw [if_pos (by omega)] at hk; exact hk
      · rw [if_neg (by omega), if_pos (by omega)] at hk; exact hk
      · rw [if_pos (by omega)] at hk; exact hk
    | succ d ih =>
      intro i hd i0 i1
      refine w_X9_stepped_38 hS hv hw _ _ _ _ _ σ1 ?_
      unfold vc_X9_stepped_38 vc_X9_stepped_65
      have i' := ih (i + 1) (by omega) (by omega) (by omega)
      have zr := okZ_r ho i0 (by omega)
      have tt := m1.1 i i0 (by omega)
      have t1 := tt.2.1
      have t2 := tt.2.2
      by_cases q : P 285 ≤ i
      · rw [show (if i + 1 ≤ P 285 then i + 1 else P 285) = P 285 by omega] at i'
        rw [show (if i ≤ P 285 then i else P 285) = P 285 by omega]
        unfold hbs at i'
        rw [lp_l _ _ q] at i'
        try simp (disch := omega) only [iI_lit, iL_lit, iI_add, iI_sub, iI_mul, iI_neg, iI_lt, iI_le, iI_eq, iI_tn, iI_div, iI_l, iL_add, iL_sub, iL_mul, iL_neg, iL_le, iL_lt, iL_eq, iL_ite, vp_T, b2_ne0, b2_eq1, nn_imp, true_and, iI_ite, not_true_eq_false, not_false_eq_true, true_implies, false_implies, and_true, Int.reduceLT, Int.reduceLE, Int.reduceEq, or_false, false_or, true_or, or_true, false_and, and_false, m1.2, t1, t2]
        refine ⟨fun c => by omega, fun _ => ⟨fun _ => ⟨fun _ => ?_, fun c => by omega⟩, fun c => by omega⟩⟩
        rw [and_nor, Int.add_zero]
        exact i'
      · rw [show (if i + 1 ≤ P 285 then i + 1 else P 285) = i + 1 by omega] at i'
        rw [show (if i ≤ P 285 then i else P 285) = i by omega]
        unfold wof at i'
        rw [lp_l _ _ i0] at i'
        rw [show hbs a.1 (P 285) (i + 1) = iI 0 from lp_z _ _ (by omega), and_nz] at i'
        rw [show hbs a.1 (P 285) i = iI 0 from lp_z _ _ (by omega), and_nz]
        try simp (disch := omega) only [iI_lit, iL_lit, iI_add, iI_sub, iI_mul, iI_neg, iI_lt, iI_le, iI_eq, iI_tn, iI_div, iI_l, iL_add, iL_sub, iL_mul, iL_neg, iL_le, iL_lt, iL_eq, iL_ite, vp_T, b2_ne0, b2_eq1, nn_imp, true_and, iI_ite, not_true_eq_false, not_false_eq_true, true_implies, false_implies, and_true, Int.reduceLT, Int.reduceLE, Int.reduceEq, or_false, false_or, true_or, or_true, false_and, and_false, m1.2, t1, t2]
        refine ⟨fun c => by omega, fun _ => ⟨fun c => by omega, fun _ => ⟨fun c => by omega, fun _ => ?_⟩⟩⟩
        rw [and_m1]
        exact i'
  have := L _ 0 rfl (by omega) (by omega)
  rw [show (if 0 ≤ P 285 then 0 else P 285) = (0 : Int) by omega, show wof a.1 0 = 0 from lp_z _ _ (Int.le_refl 0), show hbs a.1 (P 285) 0 = iI 0 from lp_z _ _ (by omega), and_nz] at this
  exact this
end C27c
