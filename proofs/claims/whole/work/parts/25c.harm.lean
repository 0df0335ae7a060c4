section C25c
variable {S : Sp} {σ : St} {Φ : Rs} {P : Pl} {D : Int → Bool} {g : Int}
theorem c_X8_think1 (hS : Sys S) (hC : CP 1 P σ) (hW : WF P) {x : Int} (x0 : 0 ≤ x) (x1 : x < P 280) (hk : ∀ σ', Fr (FB 20) σ σ' → BS 20 P (ddx P x) (-1) σ' → Φ [] σ') : S 134 [aR 0, aI (iI x), aI (iI (-1))] σ Φ := by
  refine m_X8_think hS (fun v hv hw => ?_)
  have g0 := WF_0 hW
  unfold vc_X8_think_0
  refine c_X2_deadBits hS isPat_1 hC hW ⟨_, rfl, ?_⟩
  rw [bitO_i (by omega)]
  have e := bm_bit (p := dd P) (n := P 280) (x := x) (by omega)
  unfold bit1 at e
  rw [e]
  exact c_X0_reckon hS isBl_20 hC hW (D := ddx P x) (by omega) (fun σ1 f1 b1 => ⟨rfl, hk σ1 f1 b1⟩)
theorem c_X8_think2 (hS : Sys S) (hC : CP 1 P σ) (hW : WF P) {w : Int} (w0 : 0 ≤ w) (w1 : w < P 281) (hk : ∀ σ', Fr (FB 20) σ σ' → BS 20 P (dd P) w σ' → Φ [] σ') : S 134 [aR 0, aI (iI (-1)), aI (iI w)] σ Φ := by
  refine m_X8_think hS (fun v hv hw => ?_)
  have g0 := WF_0 hW
  unfold vc_X8_think_0
  refine c_X2_deadBits hS isPat_1 hC hW ⟨_, rfl, ?_⟩
  rw [bitO_m, bm_one]
  exact c_X0_reckon hS isBl_20 hC hW (D := dd P) (by omega) (fun σ1 f1 b1 => ⟨rfl, hk σ1 f1 b1⟩)
theorem FB20_RK {σ' : St} (h : RK P σ) (hf : Fr (FB 20) σ σ') : RK P σ' := RK_f h hf (fun k j a b => by unfold FB; omega)
theorem FB20_CP {σ' : St} (h : CP 1 P σ) (hf : Fr (FB 20) σ σ') : CP 1 P σ' := CP_f h hf (fun k j a b => by unfold FB; omega)
theorem FB20_FH {σ' : St} (hf : Fr (FB 20) σ σ') : Fr FH σ σ' := Fr_mo hf (fun k j q => by unfold FB at q; unfold FH; omega)
theorem FRq_FH {σ' : St} (hf : Fr FRq σ σ') : Fr FH σ σ' := Fr_mo hf (fun k j q => by unfold FRq at q; unfold FH; omega)
/-- what harmTold() tells, once it has thought -/
theorem harm_told (hS : Sys S) {σ2 : St} (hC : CP 1 P σ2) (hW : WF P) (hR : RK P σ2) (hB : BS 20 P D g σ2) {a : Int} (ha : 0 ≤ a ∧ a ≤ 3) {but : Int32} (hk : ∀ σ', Fr FH σ2 σ' → RK P σ' → (σ'.1 0 11 = σ2.1 0 11) → Φ [aI (hTo P D g but a)] σ') :
    (¬ iI a = 0 → ((¬ iI a = 1 → (S 1 [aR 20] σ2 (fun r σ3 => r = [] ∧ ((¬ iI a = 2 → (Φ [aI (σ3.1 23 6)] σ3)) ∧ (iI a = 2 → (Φ [aI (σ3.1 23 4)] σ3)))))) ∧ (iI a = 1 → (Φ [aI (σ2.1 20 5 &&& (σ2.1 13 5 ^^^ -1))] σ2)))) ∧ (iI a = 0 → (Φ [aI ((σ2.1 13 4 &&& (σ2.1 20 4 ^^^ -1)) &&& (but ^^^ -1))] σ2)) := by
  have hk0 := hk σ2 Fr_rf hR rfl
  unfold hTo at hk hk0
  unfold hLo hBa at hk hk0
  have n1 : (-1 : Int32) = iI (-1) := by decide
  rw [n1, hB.2.2.1.1, hB.2.2.1.2.1, hR.1.2.2.1.1, hR.1.2.2.1.2.1]
  try simp (disch := omega) only [iI_lit, iL_lit, iI_add, iI_sub, iI_mul, iI_neg, iI_lt, iI_le, iI_eq, iI_tn, iI_div, iI_l, iL_add, iL_sub, iL_mul, iL_neg, iL_le, iL_lt, iL_eq, iL_ite, vp_T, b2_ne0, b2_eq1, nn_imp, true_and, iI_ite, not_true_eq_false, not_false_eq_true, true_implies, false_implies, and_true, Int.reduceLT, Int.reduceLE, Int.reduceEq, or_false, false_or, true_or, or_true, false_and, and_false]
  refine ⟨fun c => ⟨fun d => ?_, fun d => ?_⟩, fun c => ?_⟩
  · refine c_X0_reckonShots hS isBl_20 hC hW hB (fun σ3 f3 c3 => ⟨rfl, ?_⟩)
    have hk := hk σ3 (Fr_mo f3 (fun k j q => by unfold FS3 at q; unfold FH; omega)) (RK_f hR f3 (fun k j a b => by unfold FS3; omega)) (f3.1 0 11 (by unfold FS3; omega))
    have w1 : σ3.1 23 4 = _ := c3.2.1
    have w2 : σ3.1 23 6 = _ := c3.2.2.2
    rw [w1, w2]
    exact ⟨fun e => (by simp (disch := omega) only [if_pos, if_neg] at hk; exact hk), fun e => (by simp (disch := omega) only [if_pos, if_neg] at hk; exact hk)⟩
  · have hk := hk0; exact (by simp (disch := omega) only [if_pos, if_neg] at hk; exact hk)
  · have hk := hk0; exact (by simp (disch := omega) only [if_pos, if_neg] at hk; exact hk)
theorem c_X8_misfire (hS : Sys S) (hC : CP 1 P σ) (hW : WF P) (hR : RKd P σ) {x a : Int} (r1 : -2147483648 ≤ x ∧ x < 2147483648) (r2 : -2147483648 ≤ a ∧ a < 2147483648) (hk : ∀ σ', Fr FH σ σ' → RKd P σ' → Φ [aI (qMis P x a)] σ') : S 108 [aR 0, aI (iI x), aI (iI a)] σ Φ := by
  refine m_X8_misfire hS (fun v hv hw => ?_)
  have g0 := WF_0 hW
  unfold vc_X8_misfire_0
  unfold qMis at hk
  have hkr := hk σ Fr_rf hR
  try simp (disch := omega) only [iI_lit, iL_lit, iI_add, iI_sub, iI_mul, iI_neg, iI_lt, iI_le, iI_eq, iI_tn, iI_div, iI_l, iL_add, iL_sub, iL_mul, iL_neg, iL_le, iL_lt, iL_eq, iL_ite, vp_T, b2_ne0, b2_eq1, nn_imp, true_and, iI_ite, not_true_eq_false, not_false_eq_true, true_implies, false_implies, and_true, Int.reduceLT, Int.reduceLE, Int.reduceEq, or_false, false_or, true_or, or_true, false_and, and_false, CP_n hC]
  refine ⟨fun c => by have hk := hkr; exact (by simp (disch := omega) only [if_pos, if_neg] at hk; exact hk), fun c => ⟨fun d => by have hk := hkr; exact (by simp (disch := omega) only [if_pos, if_neg] at hk; exact hk), fun d => ?_⟩⟩
  refine m_X8_harmTold hS (fun v2 hv2 hw2 => ?_)
  unfold vc_X8_harmTold_0
  refine c_X8_reckoned hS hC hW hR (fun σ1 f1 c1 k1 q1 => ⟨rfl, ?_⟩)
  refine c_X8_think1 hS c1 hW (by omega) (by omega) (fun σ2 f2 b2 => ⟨rfl, ?_⟩)
  have e0 : bitO (iI x) = bit1 x := bitO_i (by omega)
  rw [e0]
  refine harm_told (Φ := fun r σ1 => ∃ x2 : Int32, r = [aI x2] ∧ Φ [aI x2] σ1) (a := a) hS (FB20_CP c1 f2) hW (FB20_RK k1 f2) b2 (by omega) (but := bit1 x) (fun σ3 f3 k3 q3 => ⟨_, rfl, ?_⟩)
  have hk := hk σ3 (Fr_tr (Fr_tr (FRq_FH f1) (FB20_FH f2)) f3) (RKd_of k3 (by rw [q3, f2.1 _ _ (by unfold FB; omega)]; exact q1))
  exact (by simp (disch := omega) only [if_pos, if_neg] at hk; exact hk)
theorem c_X8_broken (hS : Sys S) (hC : CP 1 P σ) (hW : WF P) (hR : RKd P σ) {x a : Int} (r1 : -2147483648 ≤ x ∧ x < 2147483648) (r2 : -2147483648 ≤ a ∧ a < 2147483648) (hk : ∀ σ', Fr FH σ σ' → RKd P σ' → Φ [aI (qBro P x a)] σ') : S 109 [aR 0, aI (iI x), aI (iI a)] σ Φ := by
  refine m_X8_broken hS (fun v hv hw => ?_)
  have g0 := WF_0 hW
  unfold vc_X8_broken_0
  unfold qBro at hk
  have hkr := hk σ Fr_rf hR
  try simp (disch := omega) only [iI_lit, iL_lit, iI_add, iI_sub, iI_mul, iI_neg, iI_lt, iI_le, iI_eq, iI_tn, iI_div, iI_l, iL_add, iL_sub, iL_mul, iL_neg, iL_le, iL_lt, iL_eq, iL_ite, vp_T, b2_ne0, b2_eq1, nn_imp, true_and, iI_ite, not_true_eq_false, not_false_eq_true, true_implies, false_implies, and_true, Int.reduceLT, Int.reduceLE, Int.reduceEq, or_false, false_or, true_or, or_true, false_and, and_false, CP_w hC]
  refine ⟨fun c => by have hk := hkr; exact (by simp (disch := omega) only [if_pos, if_neg] at hk; exact hk), fun c => ⟨fun d => by have hk := hkr; exact (by simp (disch := omega) only [if_pos, if_neg] at hk; exact hk), fun d => ?_⟩⟩
  refine m_X8_harmTold hS (fun v2 hv2 hw2 => ?_)
  unfold vc_X8_harmTold_0
  refine c_X8_reckoned hS hC hW hR (fun σ1 f1 c1 k1 q1 => ⟨rfl, ?_⟩)
  refine c_X8_think2 hS c1 hW (by omega) (by omega) (fun σ2 f2 b2 => ⟨rfl, ?_⟩)
  rw [bitO_m]
  refine harm_told (Φ := fun r σ1 => ∃ x2 : Int32, r = [aI x2] ∧ Φ [aI x2] σ1) (a := a) hS (FB20_CP c1 f2) hW (FB20_RK k1 f2) b2 (by omega) (but := iI 0) (fun σ3 f3 k3 q3 => ⟨_, rfl, ?_⟩)
  have hk := hk σ3 (Fr_tr (Fr_tr (FRq_FH f1) (FB20_FH f2)) f3) (RKd_of k3 (by rw [q3, f2.1 _ _ (by unfold FB; omega)]; exact q1))
  exact (by simp (disch := omega) only [if_pos, if_neg] at hk; exact hk)
theorem pop_r (s : Int32) : 0 ≤ pop s ∧ pop s ≤ 31 := by
  unfold pop
  exact lp_inv (f := fun k a => a + (if bs s k = true then 1 else 0)) (fun i a => 0 ≤ a ∧ a ≤ i) _ rfl (by omega) (by omega) (fun i a i0 i1 ha => by split <;> omega)
theorem hN_r {but : Int32} : 0 ≤ hN P D g but ∧ hN P D g but ≤ 100 := by
  have h1 := pop_r (hLo P D g but)
  have h2 := pop_r (hBa P D g)
  unfold hN; omega
theorem c_X8_critical (hS : Sys S) (hC : CP 1 P σ) (hW : WF P) (hR : RKd P σ) {a : Int} (r1 : -2147483648 ≤ a ∧ a < 2147483648) (hk : ∀ σ', Fr FH σ σ' → RKd P σ' → Φ [aI (iI (qCri P a))] σ') : S 110 [aR 0, aI (iI a)] σ Φ := by
  refine m_X8_critical hS (fun v hv hw => ?_)
  have g0 := WF_0 hW
  unfold vc_X8_critical_0
  unfold qCri at hk
  have hkr := hk σ Fr_rf hR
  try simp (disch := omega) only [iI_lit, iL_lit, iI_add, iI_sub, iI_mul, iI_neg, iI_lt, iI_le, iI_eq, iI_tn, iI_div, iI_l, iL_add, iL_sub, iL_mul, iL_neg, iL_le, iL_lt, iL_eq, iL_ite, vp_T, b2_ne0, b2_eq1, nn_imp, true_and, iI_ite, not_true_eq_false, not_false_eq_true, true_implies, false_implies, and_true, Int.reduceLT, Int.reduceLE, Int.reduceEq, or_false, false_or, true_or, or_true, false_and, and_false, CP_n hC, CP_w hC]
  refine ⟨fun c => ?_, fun c => ⟨fun d => ?_, fun d => by have hk := hkr; exact (by simp (disch := omega) only [if_pos, if_neg] at hk; exact hk)⟩⟩
  · refine m_X8_mostHarmful hS (fun v2 hv2 hw2 => ?_)
    unfold vc_X8_mostHarmful_0
    simp (disch := omega) only [if_pos, if_neg] at hk
    refine c_X8_reckoned hS hC hW hR (fun σ1 f1 c1 k1 q1 => ⟨rfl, ?_⟩)
    have L : ∀ (d : Nat) (k : Int) (σ2 : St), (P 280 - k).toNat = d → 0 ≤ k → k ≤ P 280 → Fr FH σ σ2 → CP 1 P σ2 → RK P σ2 → σ2.1 0 11 = iI 1 → v2 13 [some (aR 0), some (aI (iI (P 280))), some (aI (iI 1)), some (aI (iI (crt (fun k => hN P (ddx P k) (-1) (bit1 k)) k).1)), some (aI (iI (crt (fun k => hN P (ddx P k) (-1) (bit1 k)) k).2)), some (aI (iI k)), none, none] [] σ2 := by
      intro d
      induction d with
      | zero =>
        intro k σ2 hd k0 k1 hf hc hr q
        refine w_X8_mostHarmful_13 hS hv2 hw2 _ _ _ _ _ σ2 ?_
        unfold vc_X8_mostHarmful_13
        have e : k = P 280 := by omega
        subst e
        try simp (disch := omega) only [iI_lit, iL_lit, iI_add, iI_sub, iI_mul, iI_neg, iI_lt, iI_le, iI_eq, iI_tn, iI_div, iI_l, iL_add, iL_sub, iL_mul, iL_neg, iL_le, iL_lt, iL_eq, iL_ite, vp_T, b2_ne0, b2_eq1, nn_imp, true_and, iI_ite, not_true_eq_false, not_false_eq_true, true_implies, false_implies, and_true, Int.reduceLT, Int.reduceLE, Int.reduceEq, or_false, false_or, true_or, or_true, false_and, and_false]
        exact ⟨fun _ => ⟨_, rfl, hk σ2 hf (RKd_of hr q)⟩, fun c => by omega⟩
      | succ d ih =>
        intro k σ2 hd k0 k1 hf hc hr q
        refine w_X8_mostHarmful_13 hS hv2 hw2 _ _ _ _ _ σ2 ?_
        unfold vc_X8_mostHarmful_13 vc_X8_mostHarmful_29 vc_X8_mostHarmful_44
        have cr := crt_r (n := fun k => hN P (ddx P k) (-1) (bit1 k)) (m := k) (fun j _ _ => hN_r) k0 (Int.le_refl k)
        try simp (disch := omega) only [iI_lit, iL_lit, iI_add, iI_sub, iI_mul, iI_neg, iI_lt, iI_le, iI_eq, iI_tn, iI_div, iI_l, iL_add, iL_sub, iL_mul, iL_neg, iL_le, iL_lt, iL_eq, iL_ite, vp_T, b2_ne0, b2_eq1, nn_imp, true_and, iI_ite, not_true_eq_false, not_false_eq_true, true_implies, false_implies, and_true, Int.reduceLT, Int.reduceLE, Int.reduceEq, or_false, false_or, true_or, or_true, false_and, and_false]
        refine ⟨fun c => by omega, fun _ => ?_⟩
        refine c_X8_think1 hS hc hW k0 (by omega) (fun σ3 f3 b3 => ⟨rfl, ?_⟩)
        have k3 := FB20_RK hr f3
        have i := ih (k + 1) σ3 (by omega) (by omega) (by omega) (Fr_tr hf (FB20_FH f3)) (FB20_CP hc f3) k3 (by rw [f3.1 _ _ (by unfold FB; omega)]; exact q)
        rw [crt_s k0] at i
        have e0 : bitO (iI k) = bit1 k := bitO_i (by omega)
        have l1 : ((σ3.1 13 4 &&& (σ3.1 20 4 ^^^ iI (-1))) &&& (bitO (iI k) ^^^ iI (-1))) = hLo P (ddx P k) (-1) (bit1 k) := by rw [e0, b3.2.2.1.1, k3.1.2.2.1.1]; rfl
        have l2 : (σ3.1 20 5 &&& (σ3.1 13 5 ^^^ iI (-1))) = hBa P (ddx P k) (-1) := by rw [b3.2.2.1.2.1, k3.1.2.2.1.2.1]; rfl
        rw [l1]
        refine c_bitCount hS (fun j j0 j1 => hLo_hi hW j0 j1) (fun p1 => ⟨_, rfl, ?_⟩)
        rw [l2]
        refine c_bitCount hS (fun j j0 j1 => hBa_hi hW j0 j1) (fun p2 => ⟨_, rfl, ?_⟩)
        have en : pop (hLo P (ddx P k) (-1) (bit1 k)) + pop (hBa P (ddx P k) (-1)) = hN P (ddx P k) (-1) (bit1 k) := rfl
        have nr := hN_r (P := P) (D := ddx P k) (g := -1) (but := bit1 k)
        try simp (disch := omega) only [iI_lit, iL_lit, iI_add, iI_sub, iI_mul, iI_neg, iI_lt, iI_le, iI_eq, iI_tn, iI_div, iI_l, iL_add, iL_sub, iL_mul, iL_neg, iL_le, iL_lt, iL_eq, iL_ite, vp_T, b2_ne0, b2_eq1, nn_imp, true_and, iI_ite, not_true_eq_false, not_false_eq_true, true_implies, false_implies, and_true, Int.reduceLT, Int.reduceLE, Int.reduceEq, or_false, false_or, true_or, or_true, false_and, and_false, en]
        refine ⟨fun d => ?_, fun d => ?_⟩
        · rw [if_neg (by omega)] at i; exact i
        · rw [if_pos (by omega)] at i; exact i
    have := L _ 0 σ1 rfl (by omega) (by omega) (FRq_FH f1) c1 k1 q1
    rw [crt_0] at this
    rw [iI_lit, iI_lit, iI_neg]
    exact this
  · refine m_X8_mostHarmful hS (fun v2 hv2 hw2 => ?_)
    unfold vc_X8_mostHarmful_0
    simp (disch := omega) only [if_pos, if_neg] at hk
    refine c_X8_reckoned hS hC hW hR (fun σ1 f1 c1 k1 q1 => ⟨rfl, ?_⟩)
    have L : ∀ (d : Nat) (k : Int) (σ2 : St), (P 281 - k).toNat = d → 0 ≤ k → k ≤ P 281 → Fr FH σ σ2 → CP 1 P σ2 → RK P σ2 → σ2.1 0 11 = iI 1 → v2 13 [some (aR 0), some (aI (iI (P 281))), some (aI (iI 0)), some (aI (iI (crt (fun k => hN P (dd P) k (iI 0)) k).1)), some (aI (iI (crt (fun k => hN P (dd P) k (iI 0)) k).2)), some (aI (iI k)), none, none] [] σ2 := by
      intro d
      induction d with
      | zero =>
        intro k σ2 hd k0 k1 hf hc hr q
        refine w_X8_mostHarmful_13 hS hv2 hw2 _ _ _ _ _ σ2 ?_
        unfold vc_X8_mostHarmful_13
        have e : k = P 281 := by omega
        subst e
        try simp (disch := omega) only [iI_lit, iL_lit, iI_add, iI_sub, iI_mul, iI_neg, iI_lt, iI_le, iI_eq, iI_tn, iI_div, iI_l, iL_add, iL_sub, iL_mul, iL_neg, iL_le, iL_lt, iL_eq, iL_ite, vp_T, b2_ne0, b2_eq1, nn_imp, true_and, iI_ite, not_true_eq_false, not_false_eq_true, true_implies, false_implies, and_true, Int.reduceLT, Int.reduceLE, Int.reduceEq, or_false, false_or, true_or, or_true, false_and, and_false]
        exact ⟨fun _ => ⟨_, rfl, hk σ2 hf (RKd_of hr q)⟩, fun c => by omega⟩
      | succ d ih =>
        intro k σ2 hd k0 k1 hf hc hr q
        refine w_X8_mostHarmful_13 hS hv2 hw2 _ _ _ _ _ σ2 ?_
        unfold vc_X8_mostHarmful_13 vc_X8_mostHarmful_29 vc_X8_mostHarmful_44
        have cr := crt_r (n := fun k => hN P (dd P) k (iI 0)) (m := k) (fun j _ _ => hN_r) k0 (Int.le_refl k)
        try simp (disch := omega) only [iI_lit, iL_lit, iI_add, iI_sub, iI_mul, iI_neg, iI_lt, iI_le, iI_eq, iI_tn, iI_div, iI_l, iL_add, iL_sub, iL_mul, iL_neg, iL_le, iL_lt, iL_eq, iL_ite, vp_T, b2_ne0, b2_eq1, nn_imp, true_and, iI_ite, not_true_eq_false, not_false_eq_true, true_implies, false_implies, and_true, Int.reduceLT, Int.reduceLE, Int.reduceEq, or_false, false_or, true_or, or_true, false_and, and_false]
        refine ⟨fun c => by omega, fun _ => ?_⟩
        refine c_X8_think2 hS hc hW k0 (by omega) (fun σ3 f3 b3 => ⟨rfl, ?_⟩)
        have k3 := FB20_RK hr f3
        have i := ih (k + 1) σ3 (by omega) (by omega) (by omega) (Fr_tr hf (FB20_FH f3)) (FB20_CP hc f3) k3 (by rw [f3.1 _ _ (by unfold FB; omega)]; exact q)
        rw [crt_s k0] at i
        have l1 : ((σ3.1 13 4 &&& (σ3.1 20 4 ^^^ iI (-1))) &&& (bitO (iI (-1)) ^^^ iI (-1))) = hLo P (dd P) k (iI 0) := by rw [bitO_m, b3.2.2.1.1, k3.1.2.2.1.1]; rfl
        have l2 : (σ3.1 20 5 &&& (σ3.1 13 5 ^^^ iI (-1))) = hBa P (dd P) k := by rw [b3.2.2.1.2.1, k3.1.2.2.1.2.1]; rfl
        rw [l1]
        refine c_bitCount hS (fun j j0 j1 => hLo_hi hW j0 j1) (fun p1 => ⟨_, rfl, ?_⟩)
        rw [l2]
        refine c_bitCount hS (fun j j0 j1 => hBa_hi hW j0 j1) (fun p2 => ⟨_, rfl, ?_⟩)
        have en : pop (hLo P (dd P) k (iI 0)) + pop (hBa P (dd P) k) = hN P (dd P) k (iI 0) := rfl
        have nr := hN_r (P := P) (D := dd P) (g := k) (but := iI 0)
        try simp (disch := omega) only [iI_lit, iL_lit, iI_add, iI_sub, iI_mul, iI_neg, iI_lt, iI_le, iI_eq, iI_tn, iI_div, iI_l, iL_add, iL_sub, iL_mul, iL_neg, iL_le, iL_lt, iL_eq, iL_ite, vp_T, b2_ne0, b2_eq1, nn_imp, true_and, iI_ite, not_true_eq_false, not_false_eq_true, true_implies, false_implies, and_true, Int.reduceLT, Int.reduceLE, Int.reduceEq, or_false, false_or, true_or, or_true, false_and, and_false, en]
        refine ⟨fun d => ?_, fun d => ?_⟩
        · rw [if_neg (by omega)] at i; exact i
        · rw [if_pos (by omega)] at i; exact i
    have := L _ 0 σ1 rfl (by omega) (by omega) (FRq_FH f1) c1 k1 q1
    rw [crt_0] at this
    rw [iI_lit, iI_lit, iI_neg]
    exact this
end C25c
