section C23c
variable {S : Sp} {σ : St} {Φ : Rs} {P : Pl} {b : Nat} {D : Int → Bool} {g : Int}
theorem c_X9_ring (hS : Sys S) (hM : MP 50 P σ) (hW : WF P) {k : Int} (r1 : -2147483648 ≤ k ∧ k < 2147483648) (hk : ∀ σ', Fr FL σ σ' → Φ [aL (qRing P k)] σ') : S 191 [aR 49, aI (iI k)] σ Φ := by
  refine m_X9_ring hS (fun v hv hw => ?_)
  have g0 := WF_0 hW
  unfold vc_X9_ring_0
  unfold qRing at hk
  have hkr := hk σ Fr_rf
  try simp (disch := omega) only [iI_lit, iL_lit, iI_add, iI_sub, iI_mul, iI_neg, iI_lt, iI_le, iI_eq, iI_tn, iI_div, iI_l, iL_add, iL_sub, iL_mul, iL_neg, iL_le, iL_lt, iL_eq, iL_ite, vp_T, b2_ne0, b2_eq1, nn_imp, true_and, iI_ite, not_true_eq_false, not_false_eq_true, true_implies, false_implies, and_true, Int.reduceLT, Int.reduceLE, Int.reduceEq, or_false, false_or, true_or, or_true, false_and, and_false]
  refine ⟨fun c => ?_, fun c => by have hk := hkr; exact (by simp (disch := omega) only [if_pos, if_neg] at hk; exact hk)⟩
  refine c_X9_fires hS hM hW (fun σ1 f1 s1 => ⟨rfl, ?_⟩)
  have hk := hk σ1 (Fr_mo f1 (fun _ _ => Or.inl))
  have mp := MP_f hM f1 (fun j => by unfold FM; omega)
  have f7 := s1.2.2.1
  have f8 := s1.2.2.2.1
  rw [if_neg (by omega)] at hk
  have L : ∀ (d : Nat) (h : Int), (P 280 - h).toNat = d → 0 ≤ h → h ≤ P 280 → v 27 [some (aR 49), some (aI (iI k)), some (aL (iL (if k < 0 then rall P (fr P (dd P) (-1)) (bur P (dd P) (-1)) h else rsum P (fr P (dd P) (-1)) (bur P (dd P) (-1)) k h))), none, some (aI (iI h)), none, none] [] σ1 := by
    intro d
    induction d with
    | zero =>
      intro h hd h0 h1
      refine w_X9_ring_27 hS hv hw _ _ _ σ1 ?_
      unfold vc_X9_ring_27
      have q : h = P 280 := by omega
      subst q
      try simp (disch := omega) only [iI_lit, iL_lit, iI_add, iI_sub, iI_mul, iI_neg, iI_lt, iI_le, iI_eq, iI_tn, iI_div, iI_l, iL_add, iL_sub, iL_mul, iL_neg, iL_le, iL_lt, iL_eq, iL_ite, vp_T, b2_ne0, b2_eq1, nn_imp, true_and, iI_ite, not_true_eq_false, not_false_eq_true, true_implies, false_implies, and_true, Int.reduceLT, Int.reduceLE, Int.reduceEq, or_false, false_or, true_or, or_true, false_and, and_false, mp _]
      refine ⟨fun _ => ?_, fun c => by omega⟩
      by_cases c : k < 0
      · rw [if_pos c] at hk ⊢; exact hk
      · rw [if_neg c] at hk ⊢; exact hk
    | succ d ih =>
      intro h hd h0 h1
      refine w_X9_ring_27 hS hv hw _ _ _ σ1 ?_
      unfold vc_X9_ring_27
      have hz : h < P 280 := by omega
      have i := ih (h + 1) (by omega) (by omega) (by omega)
      rw [rall_s h0, rsum_s h0] at i
      have r1 := rk_r hW h0 hz
      have r2 := rg_r hW (B := (bur P (dd P) (-1))) h0 hz
      have r3 := eac_r hW (B := (bur P (dd P) (-1))) h0 hz
      try simp (disch := omega) only [iI_lit, iL_lit, iI_add, iI_sub, iI_mul, iI_neg, iI_lt, iI_le, iI_eq, iI_tn, iI_div, iI_l, iL_add, iL_sub, iL_mul, iL_neg, iL_le, iL_lt, iL_eq, iL_ite, vp_T, b2_ne0, b2_eq1, nn_imp, true_and, iI_ite, not_true_eq_false, not_false_eq_true, true_implies, false_implies, and_true, Int.reduceLT, Int.reduceLE, Int.reduceEq, or_false, false_or, true_or, or_true, false_and, and_false, mp _, f7, bs_0, bs_1, bs_bm, Bool.and_eq_true, decide_eq_true_eq, Bool.not_eq_false, Bool.not_eq_true]
      refine ⟨fun c => by omega, fun _ => ⟨fun c => ?_, fun c => ?_⟩⟩
      · rw [if_pos c.2, if_pos c.2] at i
        refine c_X9_ringOf hS mp hW f8 h0 hz ⟨_, rfl, ?_⟩
        refine c_X9_rockOf hS mp hW h0 hz ⟨_, rfl, ?_⟩
        try simp (disch := omega) only [iI_lit, iL_lit, iI_add, iI_sub, iI_mul, iI_neg, iI_lt, iI_le, iI_eq, iI_tn, iI_div, iI_l, iL_add, iL_sub, iL_mul, iL_neg, iL_le, iL_lt, iL_eq, iL_ite, vp_T, b2_ne0, b2_eq1, nn_imp, true_and, iI_ite, not_true_eq_false, not_false_eq_true, true_implies, false_implies, and_true, Int.reduceLT, Int.reduceLE, Int.reduceEq, or_false, false_or, true_or, or_true, false_and, and_false]
        rw [show rk P h / (rg P (bur P (dd P) (-1)) h + 1) = eac P (bur P (dd P) (-1)) h from rfl]
        refine ⟨by omega, fun e => ⟨fun f => ?_, fun f => ⟨fun j => ?_, fun j => ?_⟩⟩, fun e => ?_⟩
        · rw [if_neg (by omega)] at i ⊢
          unfold rkin at i
          rw [if_neg (by omega), Int.add_zero] at i
          exact i
        · rw [if_neg (by omega)] at i ⊢
          unfold rkin at i
          rw [if_pos (by omega), if_neg j] at i
          try simp (disch := omega) only [iI_lit, iL_lit, iI_add, iI_sub, iI_mul, iI_neg, iI_lt, iI_le, iI_eq, iI_tn, iI_div, iI_l, iL_add, iL_sub, iL_mul, iL_neg, iL_le, iL_lt, iL_eq, iL_ite, vp_T, b2_ne0, b2_eq1, nn_imp, true_and, iI_ite, not_true_eq_false, not_false_eq_true, true_implies, false_implies, and_true, Int.reduceLT, Int.reduceLE, Int.reduceEq, or_false, false_or, true_or, or_true, false_and, and_false]
          exact i
        · rw [if_neg (by omega)] at i ⊢
          unfold rkin at i
          rw [if_pos (by omega), if_pos j] at i
          refine c_X9_rockOf hS mp hW h0 hz ⟨_, rfl, ?_⟩
          have r4 : 0 ≤ eac P (bur P (dd P) (-1)) h * rg P (bur P (dd P) (-1)) h := Int.mul_nonneg r3.1 r2.1
          have r5 : eac P (bur P (dd P) (-1)) h * (rg P (bur P (dd P) (-1)) h + 1) = eac P (bur P (dd P) (-1)) h * rg P (bur P (dd P) (-1)) h + eac P (bur P (dd P) (-1)) h := by rw [Int.mul_add, Int.mul_one]
          try simp (disch := omega) only [iI_lit, iL_lit, iI_add, iI_sub, iI_mul, iI_neg, iI_lt, iI_le, iI_eq, iI_tn, iI_div, iI_l, iL_add, iL_sub, iL_mul, iL_neg, iL_le, iL_lt, iL_eq, iL_ite, vp_T, b2_ne0, b2_eq1, nn_imp, true_and, iI_ite, not_true_eq_false, not_false_eq_true, true_implies, false_implies, and_true, Int.reduceLT, Int.reduceLE, Int.reduceEq, or_false, false_or, true_or, or_true, false_and, and_false]
          exact i
        · rw [if_pos (by omega)] at i ⊢
          have r4 : 0 ≤ eac P (bur P (dd P) (-1)) h * rg P (bur P (dd P) (-1)) h := Int.mul_nonneg r3.1 r2.1
          have r5 : eac P (bur P (dd P) (-1)) h * (rg P (bur P (dd P) (-1)) h + 1) = eac P (bur P (dd P) (-1)) h * rg P (bur P (dd P) (-1)) h + eac P (bur P (dd P) (-1)) h := by rw [Int.mul_add, Int.mul_one]
          have r6 : 0 ≤ eac P (bur P (dd P) (-1)) h * rg P (bur P (dd P) (-1)) h * (rg P (bur P (dd P) (-1)) h + 1) := Int.mul_nonneg r4 (by omega)
          have r7 : eac P (bur P (dd P) (-1)) h * rg P (bur P (dd P) (-1)) h * (rg P (bur P (dd P) (-1)) h + 1) ≤ 200 * 10 := Int.mul_le_mul (by omega) (by omega) (by omega) (by omega)
          try simp (disch := omega) only [iI_lit, iL_lit, iI_add, iI_sub, iI_mul, iI_neg, iI_lt, iI_le, iI_eq, iI_tn, iI_div, iI_l, iL_add, iL_sub, iL_mul, iL_neg, iL_le, iL_lt, iL_eq, iL_ite, vp_T, b2_ne0, b2_eq1, nn_imp, true_and, iI_ite, not_true_eq_false, not_false_eq_true, true_implies, false_implies, and_true, Int.reduceLT, Int.reduceLE, Int.reduceEq, or_false, false_or, true_or, or_true, false_and, and_false]
          exact i
      · rw [if_neg (fun z => c ⟨hz, z⟩), if_neg (fun z => c ⟨hz, z⟩), Int.add_zero, Int.add_zero] at i
        exact i
  have := L _ 0 rfl (by omega) (by omega)
  rw [rall_0, rsum_0] at this
  rw [show (if k < 0 then (0 : Int) else 0) = 0 by split <;> rfl] at this
  exact this
theorem c_X0_rockOfIn (hS : Sys S) (h_b : isBl b) (hC : CP 1 P σ) (hW : WF P) {B : Int → Bool} (hB : σ.1 b 5 = bm B (P 280)) {h k : Int} (h0 : 0 ≤ h) (h1 : h < P 280) (hk0 : 0 ≤ k ∧ k ≤ 9) (hk : Φ [aI (iI (rkin P B h k))] σ) : S 13 [aR b, aI (iI h), aI (iI k)] σ Φ := by
  refine m_X0_rockOfIn hS h_b (fun v hv hw => ?_)
  unfold vc_X0_rockOfIn_0
  have r1 := rk_r hW h0 h1
  have r2 := rg_r hW (B := B) h0 h1
  have r3 := eac_r hW (B := B) h0 h1
  have r5 : eac P B h * (rg P B h + 1) = eac P B h * rg P B h + eac P B h := by rw [Int.mul_add, Int.mul_one]
  have r4 : 0 ≤ eac P B h * rg P B h := Int.mul_nonneg r3.1 r2.1
  refine c_X2_rockOf hS isPat_1 hC hW h0 h1 ⟨_, rfl, ?_⟩
  refine c_X0_ringOf hS h_b hC hW hB h0 h1 ⟨_, rfl, ?_⟩
  have mx : (if rg P B h < 0 then 0 else rg P B h) = rg P B h := by rw [if_neg (by omega)]
  unfold rkin at hk
  have e2 : rk P h / (rg P B h + 1) = eac P B h := rfl
  try simp (disch := omega) only [iI_lit, iL_lit, iI_add, iI_sub, iI_mul, iI_neg, iI_lt, iI_le, iI_eq, iI_tn, iI_div, iI_l, iL_add, iL_sub, iL_mul, iL_neg, iL_le, iL_lt, iL_eq, iL_ite, vp_T, b2_ne0, b2_eq1, nn_imp, true_and, iI_ite, not_true_eq_false, not_false_eq_true, true_implies, false_implies, and_true, Int.reduceLT, Int.reduceLE, Int.reduceEq, or_false, false_or, true_or, or_true, false_and, and_false, mx, e2]
  refine ⟨fun c => ⟨fun d => ⟨by omega, ?_⟩, fun d => ⟨by omega, by omega, ?_⟩⟩, fun c => ?_⟩
  · rw [if_pos (by omega), if_neg d] at hk; exact hk
  · rw [if_pos (by omega), if_pos d] at hk
    rw [show eac P B h + (rk P h - eac P B h * (rg P B h + 1)) = rk P h - eac P B h * rg P B h by omega]
    exact hk
  · rw [if_neg (by omega)] at hk; exact hk
theorem c_X0_rockInRing (hS : Sys S) (h_b : isBl b) (hC : CP 1 P σ) (hW : WF P) {F B : Int → Bool} (hF : σ.1 b 4 = bm F (P 280)) (hB : σ.1 b 5 = bm B (P 280)) {k : Int} (hk0 : 0 ≤ k ∧ k ≤ 9) (hk : Φ [aI (iI (rsum P F B k (P 280)))] σ) : S 12 [aR b, aI (iI k)] σ Φ := by
  refine m_X0_rockInRing hS h_b (fun v hv hw => ?_)
  have g0 := WF_0 hW
  unfold vc_X0_rockInRing_0
  have L : ∀ (d : Nat) (h : Int), (P 280 - h).toNat = d → 0 ≤ h → h ≤ P 280 → v 4 [some (aR b), some (aI (iI k)), some (aI (iI (rsum P F B k h))), some (aI (iI h))] [] σ := by
    intro d
    induction d with
    | zero =>
      intro h hd h0 h1
      refine w_X0_rockInRing_4 hS hv hw b h_b _ _ _ σ ?_
      unfold vc_X0_rockInRing_4
      have q : h = P 280 := by omega
      subst q
      try simp (disch := omega) only [iI_lit, iL_lit, iI_add, iI_sub, iI_mul, iI_neg, iI_lt, iI_le, iI_eq, iI_tn, iI_div, iI_l, iL_add, iL_sub, iL_mul, iL_neg, iL_le, iL_lt, iL_eq, iL_ite, vp_T, b2_ne0, b2_eq1, nn_imp, true_and, iI_ite, not_true_eq_false, not_false_eq_true, true_implies, false_implies, and_true, Int.reduceLT, Int.reduceLE, Int.reduceEq, or_false, false_or, true_or, or_true, false_and, and_false, CP_n hC]
      exact ⟨fun _ => hk, fun c => by omega⟩
    | succ d ih =>
      intro h hd h0 h1
      refine w_X0_rockInRing_4 hS hv hw b h_b _ _ _ σ ?_
      unfold vc_X0_rockInRing_4
      have hz : h < P 280 := by omega
      have i := ih (h + 1) (by omega) (by omega) (by omega)
      rw [rsum_s h0] at i
      try simp (disch := omega) only [iI_lit, iL_lit, iI_add, iI_sub, iI_mul, iI_neg, iI_lt, iI_le, iI_eq, iI_tn, iI_div, iI_l, iL_add, iL_sub, iL_mul, iL_neg, iL_le, iL_lt, iL_eq, iL_ite, vp_T, b2_ne0, b2_eq1, nn_imp, true_and, iI_ite, not_true_eq_false, not_false_eq_true, true_implies, false_implies, and_true, Int.reduceLT, Int.reduceLE, Int.reduceEq, or_false, false_or, true_or, or_true, false_and, and_false, CP_n hC, hF, bs_0, bs_1, bs_bm, Bool.and_eq_true, decide_eq_true_eq, Bool.not_eq_false, Bool.not_eq_true]
      refine ⟨fun c => by omega, fun _ => ⟨fun c => ?_, fun c => ?_⟩⟩
      · rw [if_neg (fun z => c ⟨by omega, by omega, hz, z⟩), Int.add_zero] at i; exact i
      · rw [if_pos c.2.2.2] at i
        refine c_X0_rockOfIn hS h_b hC hW hB h0 hz hk0 ⟨_, rfl, ?_⟩
        try simp (disch := omega) only [iI_lit, iL_lit, iI_add, iI_sub, iI_mul, iI_neg, iI_lt, iI_le, iI_eq, iI_tn, iI_div, iI_l, iL_add, iL_sub, iL_mul, iL_neg, iL_le, iL_lt, iL_eq, iL_ite, vp_T, b2_ne0, b2_eq1, nn_imp, true_and, iI_ite, not_true_eq_false, not_false_eq_true, true_implies, false_implies, and_true, Int.reduceLT, Int.reduceLE, Int.reduceEq, or_false, false_or, true_or, or_true, false_and, and_false]
        exact i
  have := L _ 0 rfl (by omega) (by omega)
  rw [rsum_0] at this
  rw [iI_lit]; exact this
theorem c_X8_ring (hS : Sys S) (hC : CP 1 P σ) (hW : WF P) (hR : RKd P σ) {k : Int} (r1 : -2147483648 ≤ k ∧ k < 2147483648) (hk : ∀ σ', Fr FRq σ σ' → RKd P σ' → Φ [aL (qRing P k)] σ') : S 105 [aR 0, aI (iI k)] σ Φ := by
  refine m_X8_ring hS (fun v hv hw => ?_)
  have g0 := WF_0 hW
  unfold vc_X8_ring_0
  unfold qRing at hk
  have hkr := hk σ Fr_rf hR
  try simp (disch := omega) only [iI_lit, iL_lit, iI_add, iI_sub, iI_mul, iI_neg, iI_lt, iI_le, iI_eq, iI_tn, iI_div, iI_l, iL_add, iL_sub, iL_mul, iL_neg, iL_le, iL_lt, iL_eq, iL_ite, vp_T, b2_ne0, b2_eq1, nn_imp, true_and, iI_ite, not_true_eq_false, not_false_eq_true, true_implies, false_implies, and_true, Int.reduceLT, Int.reduceLE, Int.reduceEq, or_false, false_or, true_or, or_true, false_and, and_false]
  refine ⟨fun c => by have hk := hkr; exact (by simp (disch := omega) only [if_pos, if_neg] at hk; exact hk), fun c => ⟨fun d => ⟨fun e => ?_, fun e => ?_⟩, fun d => by have hk := hkr; exact (by simp (disch := omega) only [if_pos, if_neg] at hk; exact hk)⟩⟩
  · have sr : ∀ j, 0 ≤ rsum P (fr P (dd P) (-1)) (bur P (dd P) (-1)) j (P 280) ∧ rsum P (fr P (dd P) (-1)) (bur P (dd P) (-1)) j (P 280) ≤ 2000 := fun j => by have := rsum_r hW (F := (fr P (dd P) (-1))) (B := (bur P (dd P) (-1))) (k := j) (n := P 280) (by omega) (by omega); omega
    have L : ∀ (d : Nat) (r a : Int) (σ1 : St), (10 - r).toNat = d → 1 ≤ r → r ≤ 10 → Fr FRq σ σ1 → CP 1 P σ1 → RKd P σ1 → (0 ≤ a ∧ a ≤ 100000 * r) → a + lp (fun r a => a + r * rsum P (fr P (dd P) (-1)) (bur P (dd P) (-1)) r (P 280)) r 10 0 = rall P (fr P (dd P) (-1)) (bur P (dd P) (-1)) (P 280) → v 34 [some (aR 0), some (aI (iI k)), some (aL (iL a)), none, some (aI (iI r))] [] σ1 := by
      intro d
      induction d with
      | zero =>
        intro r a σ1 hd h0 h1 hf c1 k1 ha hs
        refine w_X8_ring_34 hS hv hw _ _ _ σ1 ?_
        unfold vc_X8_ring_34
        have hk := hk σ1 hf k1
        rw [if_neg (by omega), if_pos (by omega)] at hk
        rw [lp_z _ _ (by omega)] at hs
        try simp (disch := omega) only [iI_lit, iL_lit, iI_add, iI_sub, iI_mul, iI_neg, iI_lt, iI_le, iI_eq, iI_tn, iI_div, iI_l, iL_add, iL_sub, iL_mul, iL_neg, iL_le, iL_lt, iL_eq, iL_ite, vp_T, b2_ne0, b2_eq1, nn_imp, true_and, iI_ite, not_true_eq_false, not_false_eq_true, true_implies, false_implies, and_true, Int.reduceLT, Int.reduceLE, Int.reduceEq, or_false, false_or, true_or, or_true, false_and, and_false]
        refine ⟨fun _ => ?_, fun c => by omega⟩
        rw [show a = rall P (fr P (dd P) (-1)) (bur P (dd P) (-1)) (P 280) by omega]; exact hk
      | succ d ih =>
        intro r a σ1 hd h0 h1 hf c1 k1 ha hs
        refine w_X8_ring_34 hS hv hw _ _ _ σ1 ?_
        unfold vc_X8_ring_34
        try simp (disch := omega) only [iI_lit, iL_lit, iI_add, iI_sub, iI_mul, iI_neg, iI_lt, iI_le, iI_eq, iI_tn, iI_div, iI_l, iL_add, iL_sub, iL_mul, iL_neg, iL_le, iL_lt, iL_eq, iL_ite, vp_T, b2_ne0, b2_eq1, nn_imp, true_and, iI_ite, not_true_eq_false, not_false_eq_true, true_implies, false_implies, and_true, Int.reduceLT, Int.reduceLE, Int.reduceEq, or_false, false_or, true_or, or_true, false_and, and_false]
        refine ⟨fun c => by omega, fun _ => ?_⟩
        refine c_X8_reckoned hS c1 hW k1 (fun σ2 f2 c2 k2 q2 => ⟨rfl, ?_⟩)
        refine c_X0_rockInRing hS isBl_13 c2 hW k2.1.2.2.1.1 k2.1.2.2.1.2.1 (by omega) ⟨_, rfl, ?_⟩
        have := sr r
        have m1 : 0 ≤ r * rsum P (fr P (dd P) (-1)) (bur P (dd P) (-1)) r (P 280) := Int.mul_nonneg (by omega) this.1
        have m2 : r * rsum P (fr P (dd P) (-1)) (bur P (dd P) (-1)) r (P 280) ≤ 10 * 2000 := Int.mul_le_mul (by omega) this.2 this.1 (by omega)
        try simp (disch := omega) only [iI_lit, iL_lit, iI_add, iI_sub, iI_mul, iI_neg, iI_lt, iI_le, iI_eq, iI_tn, iI_div, iI_l, iL_add, iL_sub, iL_mul, iL_neg, iL_le, iL_lt, iL_eq, iL_ite, vp_T, b2_ne0, b2_eq1, nn_imp, true_and, iI_ite, not_true_eq_false, not_false_eq_true, true_implies, false_implies, and_true, Int.reduceLT, Int.reduceLE, Int.reduceEq, or_false, false_or, true_or, or_true, false_and, and_false]
        refine ih (r + 1) _ σ2 (by omega) (by omega) (by omega) (Fr_tr hf f2) c2 (RKd_of k2 q2) (by omega) ?_
        rw [lp_s _ _ (by omega)] at hs
        have sh : ∀ (x : Int), lp (fun r a => a + r * rsum P (fr P (dd P) (-1)) (bur P (dd P) (-1)) r (P 280)) (r + 1) 10 (0 + x) = x + lp (fun r a => a + r * rsum P (fr P (dd P) (-1)) (bur P (dd P) (-1)) r (P 280)) (r + 1) 10 0 := by
          intro x
          have key : ∀ (n : Nat) (q y : Int), (10 - q).toNat = n → lp (fun r a => a + r * rsum P (fr P (dd P) (-1)) (bur P (dd P) (-1)) r (P 280)) q 10 (y + x) = x + lp (fun r a => a + r * rsum P (fr P (dd P) (-1)) (bur P (dd P) (-1)) r (P 280)) q 10 y := by
            intro n
            induction n with
            | zero => intro q y hq; rw [lp_z _ _ (by omega), lp_z _ _ (by omega)]; omega
            | succ n ihn =>
              intro q y hq
              rw [lp_s _ (y + x) (by omega), lp_s _ y (by omega), ← ihn (q + 1) _ (by omega)]
              rw [show y + x + q * rsum P (fr P (dd P) (-1)) (bur P (dd P) (-1)) q (P 280) = y + q * rsum P (fr P (dd P) (-1)) (bur P (dd P) (-1)) q (P 280) + x by omega]
          exact key _ _ 0 rfl
        rw [sh] at hs
        omega
    have e0 : lp (fun r a => a + r * rsum P (fr P (dd P) (-1)) (bur P (dd P) (-1)) r (P 280)) 1 10 0 = rall P (fr P (dd P) (-1)) (bur P (dd P) (-1)) (P 280) := by
      rw [rall_eq hW _ (P 280) rfl (by omega) (by omega)]
      rw [lp_s _ _ (by omega), lp_s _ _ (by omega), lp_s _ _ (by omega), lp_s _ _ (by omega), lp_s _ _ (by omega), lp_s _ _ (by omega), lp_s _ _ (by omega), lp_s _ _ (by omega), lp_s _ _ (by omega), lp_z _ _ (by omega)]
      simp only [Int.reduceAdd, Int.zero_add]
    exact L _ 1 0 σ rfl (by omega) (by omega) Fr_rf hC hR (by omega) (by omega)
  · refine c_X8_reckoned hS hC hW hR (fun σ2 f2 c2 k2 q2 => ⟨rfl, ?_⟩)
    have hk := hk σ2 f2 (RKd_of k2 q2)
    rw [if_neg (by omega), if_neg (by omega)] at hk
    have sr := rsum_r hW (F := (fr P (dd P) (-1))) (B := (bur P (dd P) (-1))) (k := k) (n := P 280) (by omega) (by omega)
    refine c_X0_rockInRing hS isBl_13 c2 hW k2.1.2.2.1.1 k2.1.2.2.1.2.1 (by omega) ⟨_, rfl, ?_⟩
    try simp (disch := omega) only [iI_lit, iL_lit, iI_add, iI_sub, iI_mul, iI_neg, iI_lt, iI_le, iI_eq, iI_tn, iI_div, iI_l, iL_add, iL_sub, iL_mul, iL_neg, iL_le, iL_lt, iL_eq, iL_ite, vp_T, b2_ne0, b2_eq1, nn_imp, true_and, iI_ite, not_true_eq_false, not_false_eq_true, true_implies, false_implies, and_true, Int.reduceLT, Int.reduceLE, Int.reduceEq, or_false, false_or, true_or, or_true, false_and, and_false]
    exact hk
theorem c_X9_sets (hS : Sys S) (hM : MP 50 P σ) (hW : WF P) {a : Int} (r1 : -2147483648 ≤ a ∧ a < 2147483648) (hk : ∀ σ', Fr FL σ σ' → Φ [aI (qSets P a)] σ') : S 192 [aR 49, aI (iI a)] σ Φ := by
  refine m_X9_sets hS (fun v hv hw => ?_)
  have g0 := WF_0 hW
  unfold vc_X9_sets_0
  have hkr := hk σ Fr_rf
  try simp (disch := omega) only [iI_lit, iL_lit, iI_add, iI_sub, iI_mul, iI_neg, iI_lt, iI_le, iI_eq, iI_tn, iI_div, iI_l, iL_add, iL_sub, iL_mul, iL_neg, iL_le, iL_lt, iL_eq, iL_ite, vp_T, b2_ne0, b2_eq1, nn_imp, true_and, iI_ite, not_true_eq_false, not_false_eq_true, true_implies, false_implies, and_true, Int.reduceLT, Int.reduceLE, Int.reduceEq, or_false, false_or, true_or, or_true, false_and, and_false]
  refine ⟨fun c => ?_, fun c => by have hk := hkr; unfold qSets at hk; exact (by simp (disch := omega) only [if_pos, if_neg] at hk; exact hk)⟩
  refine c_X9_fires hS hM hW (fun σ1 f1 s1 => ⟨rfl, ?_⟩)
  have hk := hk σ1 (Fr_mo f1 (fun _ _ => Or.inl))
  have mp := MP_f hM f1 (fun j => by unfold FM; omega)
  have f7 := s1.2.2.1
  have f8 := s1.2.2.2.1
  have G : ∀ p : Int → Bool, (∀ k, 0 ≤ k → k < 31 → v 22 [some (aR 49), some (aI (iI a)), some (aI (bm p (k + 1))), some (aI (iI (k + 1))), none] [] σ1 → (p k = true → vc_X9_sets_140 S Φ v (iI a) (bm p k) (iI k) (iI 1) σ1) ∧ (p k = false → vc_X9_sets_140 S Φ v (iI a) (bm p k) (iI k) (iI 0) σ1)) := by
    intro p k k0 k1 i
    unfold vc_X9_sets_140
    try simp (disch := omega) only [iI_lit, iL_lit, iI_add, iI_sub, iI_mul, iI_neg, iI_lt, iI_le, iI_eq, iI_tn, iI_div, iI_l, iL_add, iL_sub, iL_mul, iL_neg, iL_le, iL_lt, iL_eq, iL_ite, vp_T, b2_ne0, b2_eq1, nn_imp, true_and, iI_ite, not_true_eq_false, not_false_eq_true, true_implies, false_implies, and_true, Int.reduceLT, Int.reduceLE, Int.reduceEq, or_false, false_or, true_or, or_true, false_and, and_false]
    refine ⟨fun q => ?_, fun q => ?_⟩
    · rw [bm_st k0 q]; exact i
    · rw [bm_one, bm_sf k0 q]; exact i
  have L : ∀ p : Int → Bool, (Φ [aI (bm p 31)] σ1) → (∀ k, 0 ≤ k → k < 31 → (p k = true → vc_X9_sets_140 S Φ v (iI a) (bm p k) (iI k) (iI 1) σ1) ∧ (p k = false → vc_X9_sets_140 S Φ v (iI a) (bm p k) (iI k) (iI 0) σ1) → vc_X9_sets_22 S Φ v (iI a) (bm p k) (iI k) σ1) → v 22 [some (aR 49), some (aI (iI a)), some (aI (bm p 0)), some (aI (iI 0)), none] [] σ1 := by
    intro p hp hstep
    have A : ∀ (d : Nat) (k : Int), (31 - k).toNat = d → 0 ≤ k → k ≤ 31 → v 22 [some (aR 49), some (aI (iI a)), some (aI (bm p k)), some (aI (iI k)), none] [] σ1 := by
      intro d
      induction d with
      | zero =>
        intro k hd k0 k1
        refine w_X9_sets_22 hS hv hw _ _ _ σ1 ?_
        unfold vc_X9_sets_22
        have q : k = 31 := by omega
        subst q
        rw [iI_lit]
        exact ⟨fun _ => hp, fun c => absurd (by rw [iI_le (by omega)]; omega) c⟩
      | succ d ih =>
        intro k hd k0 k1
        refine w_X9_sets_22 hS hv hw _ _ _ σ1 ?_
        exact hstep k k0 (by omega) (G p k k0 (by omega) (ih (k + 1) (by omega) (by omega) (by omega)))
    exact A _ 0 rfl (by omega) (by omega)
  unfold qSets at hk
  rcases (show a = 0 ∨ a = 1 ∨ a = 2 ∨ a = 3 ∨ a = 4 by omega) with e | e | e | e | e
  · subst e
    simp (disch := omega) only [if_pos, if_neg] at hk
    refine L (fun k => decide (k < P 280) && (fr P (dd P) (-1)) k) (by rw [bm_lim (by omega)]; exact hk) (fun k k0 k1 hG => ?_)
    unfold vc_X9_sets_22 vc_X9_sets_137 vc_X9_sets_133 vc_X9_sets_138
    try simp (disch := omega) only [iI_lit, iL_lit, iI_add, iI_sub, iI_mul, iI_neg, iI_lt, iI_le, iI_eq, iI_tn, iI_div, iI_l, iL_add, iL_sub, iL_mul, iL_neg, iL_le, iL_lt, iL_eq, iL_ite, vp_T, b2_ne0, b2_eq1, nn_imp, true_and, iI_ite, not_true_eq_false, not_false_eq_true, true_implies, false_implies, and_true, Int.reduceLT, Int.reduceLE, Int.reduceEq, or_false, false_or, true_or, or_true, false_and, and_false, mp _, f7, bs_0, bs_1, bs_bm, Bool.and_eq_true, decide_eq_true_eq, Bool.not_eq_false, Bool.not_eq_true]
    refine ⟨fun c => by omega, fun _ => ⟨fun c => hG.2 ?_, fun c => ⟨fun d => hG.2 ?_, fun d => hG.1 ?_⟩⟩⟩
    · rw [decide_eq_false (by omega)]; rfl
    · exact Bool.eq_false_iff.mpr (fun z => d (by simpa using z))
    · simpa using d
  · subst e
    simp (disch := omega) only [if_pos, if_neg] at hk
    refine L (fun k => decide (k < P 280) && (bur P (dd P) (-1)) k) (by rw [bm_lim (by omega)]; exact hk) (fun k k0 k1 hG => ?_)
    unfold vc_X9_sets_22 vc_X9_sets_137 vc_X9_sets_133 vc_X9_sets_138
    try simp (disch := omega) only [iI_lit, iL_lit, iI_add, iI_sub, iI_mul, iI_neg, iI_lt, iI_le, iI_eq, iI_tn, iI_div, iI_l, iL_add, iL_sub, iL_mul, iL_neg, iL_le, iL_lt, iL_eq, iL_ite, vp_T, b2_ne0, b2_eq1, nn_imp, true_and, iI_ite, not_true_eq_false, not_false_eq_true, true_implies, false_implies, and_true, Int.reduceLT, Int.reduceLE, Int.reduceEq, or_false, false_or, true_or, or_true, false_and, and_false, mp _, f8, bs_0, bs_1, bs_bm, Bool.and_eq_true, decide_eq_true_eq, Bool.not_eq_false, Bool.not_eq_true]
    refine ⟨fun c => by omega, fun _ => ⟨fun c => hG.2 ?_, fun c => ⟨fun d => hG.2 ?_, fun d => hG.1 ?_⟩⟩⟩
    · rw [decide_eq_false (by omega)]; rfl
    · exact Bool.eq_false_iff.mpr (fun z => d (by simpa using z))
    · simpa using d
  · subst e
    simp (disch := omega) only [if_pos, if_neg] at hk
    refine L (fun k => decide (k < P 280) && dd P k) (by rw [bm_lim (by omega)]; exact hk) (fun k k0 k1 hG => ?_)
    unfold vc_X9_sets_22 vc_X9_sets_137 vc_X9_sets_133 vc_X9_sets_138
    try simp (disch := omega) only [iI_lit, iL_lit, iI_add, iI_sub, iI_mul, iI_neg, iI_lt, iI_le, iI_eq, iI_tn, iI_div, iI_l, iL_add, iL_sub, iL_mul, iL_neg, iL_le, iL_lt, iL_eq, iL_ite, vp_T, b2_ne0, b2_eq1, nn_imp, true_and, iI_ite, not_true_eq_false, not_false_eq_true, true_implies, false_implies, and_true, Int.reduceLT, Int.reduceLE, Int.reduceEq, or_false, false_or, true_or, or_true, false_and, and_false, mp _]
    refine ⟨fun c => by omega, fun _ => ⟨fun c => hG.2 ?_, fun c => ?_⟩⟩
    · rw [decide_eq_false (by omega)]; rfl
    · have gh := WF_h hW k0 (by omega)
      have dE : dd P k = true ↔ P (8 * k + 6) = 1 := by unfold dd; exact decide_eq_true_iff
      try simp (disch := omega) only [iI_lit, iL_lit, iI_add, iI_sub, iI_mul, iI_neg, iI_lt, iI_le, iI_eq, iI_tn, iI_div, iI_l, iL_add, iL_sub, iL_mul, iL_neg, iL_le, iL_lt, iL_eq, iL_ite, vp_T, b2_ne0, b2_eq1, nn_imp, true_and, iI_ite, not_true_eq_false, not_false_eq_true, true_implies, false_implies, and_true, Int.reduceLT, Int.reduceLE, Int.reduceEq, or_false, false_or, true_or, or_true, false_and, and_false, mp _]
      refine ⟨fun d => hG.2 ?_, fun d => hG.1 ?_⟩
      · rw [Bool.eq_false_iff.mpr (fun z => d (dE.mp z)), Bool.and_false]
      · rw [dE.mpr d, decide_eq_true (by omega)]; rfl
  · subst e
    simp (disch := omega) only [if_pos, if_neg] at hk
    refine L (fun k => decide (k < P 280) && decide (sgA P (dd P) (-1) k = 1000000)) (by rw [bm_lim (p := fun k => decide (sgA P (dd P) (-1) k = 1000000)) (by omega)]; exact hk) (fun k k0 k1 hG => ?_)
    unfold vc_X9_sets_22 vc_X9_sets_137 vc_X9_sets_133 vc_X9_sets_138
    try simp (disch := omega) only [iI_lit, iL_lit, iI_add, iI_sub, iI_mul, iI_neg, iI_lt, iI_le, iI_eq, iI_tn, iI_div, iI_l, iL_add, iL_sub, iL_mul, iL_neg, iL_le, iL_lt, iL_eq, iL_ite, vp_T, b2_ne0, b2_eq1, nn_imp, true_and, iI_ite, not_true_eq_false, not_false_eq_true, true_implies, false_implies, and_true, Int.reduceLT, Int.reduceLE, Int.reduceEq, or_false, false_or, true_or, or_true, false_and, and_false, mp _]
    refine ⟨fun c => by omega, fun _ => ⟨fun c => hG.2 ?_, fun c => ?_⟩⟩
    · rw [decide_eq_false (by omega)]; rfl
    · have sr := sgA_r hW s1.2.2.2.2 k0 (by omega)
      have f53 := s1.1 k (by omega)
      try simp (disch := omega) only [iI_lit, iL_lit, iI_add, iI_sub, iI_mul, iI_neg, iI_lt, iI_le, iI_eq, iI_tn, iI_div, iI_l, iL_add, iL_sub, iL_mul, iL_neg, iL_le, iL_lt, iL_eq, iL_ite, vp_T, b2_ne0, b2_eq1, nn_imp, true_and, iI_ite, not_true_eq_false, not_false_eq_true, true_implies, false_implies, and_true, Int.reduceLT, Int.reduceLE, Int.reduceEq, or_false, false_or, true_or, or_true, false_and, and_false, f53]
      refine ⟨fun d => hG.2 ?_, fun d => hG.1 ?_⟩
      · rw [decide_eq_false d, Bool.and_false]
      · rw [decide_eq_true d, decide_eq_true (by omega)]; rfl
  · subst e
    simp (disch := omega) only [if_pos, if_neg] at hk
    have e31 : bm (fun k => decide (k < P 281) && tor P (dd P) (-1) k) 31 = bm (tor P (dd P) (-1)) (if P 281 ≤ 31 then P 281 else 31) := by
      by_cases c : P 281 ≤ 31
      · rw [if_pos c, bm_lim (by omega)]
      · rw [if_neg c]
        exact bm_ext (by omega) (fun k k0 k1 => by rw [decide_eq_true (by omega), Bool.true_and])
    refine L (fun k => decide (k < P 281) && tor P (dd P) (-1) k) (by rw [e31]; exact hk) (fun k k0 k1 hG => ?_)
    unfold vc_X9_sets_22 vc_X9_sets_53 vc_X9_sets_54
    try simp (disch := omega) only [iI_lit, iL_lit, iI_add, iI_sub, iI_mul, iI_neg, iI_lt, iI_le, iI_eq, iI_tn, iI_div, iI_l, iL_add, iL_sub, iL_mul, iL_neg, iL_le, iL_lt, iL_eq, iL_ite, vp_T, b2_ne0, b2_eq1, nn_imp, true_and, iI_ite, not_true_eq_false, not_false_eq_true, true_implies, false_implies, and_true, Int.reduceLT, Int.reduceLE, Int.reduceEq, or_false, false_or, true_or, or_true, false_and, and_false, mp _]
    refine ⟨fun c => by omega, fun _ => ⟨fun c => hG.2 ?_, fun c => ?_⟩⟩
    · rw [decide_eq_false (by omega)]; rfl
    · refine c_X9_isTorn hS mp hW s1 k0 (by omega) ⟨_, rfl, ?_⟩
      try simp (disch := omega) only [iI_lit, iL_lit, iI_add, iI_sub, iI_mul, iI_neg, iI_lt, iI_le, iI_eq, iI_tn, iI_div, iI_l, iL_add, iL_sub, iL_mul, iL_neg, iL_le, iL_lt, iL_eq, iL_ite, vp_T, b2_ne0, b2_eq1, nn_imp, true_and, iI_ite, not_true_eq_false, not_false_eq_true, true_implies, false_implies, and_true, Int.reduceLT, Int.reduceLE, Int.reduceEq, or_false, false_or, true_or, or_true, false_and, and_false]
      refine ⟨fun d => hG.2 ?_, fun d => hG.1 ?_⟩
      · rw [Bool.eq_false_iff.mpr d, Bool.and_false]
      · rw [d, decide_eq_true (by omega)]; rfl
theorem c_X8_sets (hS : Sys S) (hC : CP 1 P σ) (hW : WF P) (hR : RKd P σ) {a : Int} (r1 : -2147483648 ≤ a ∧ a < 2147483648) (hk : ∀ σ', Fr FRq σ σ' → RKd P σ' → Φ [aI (qSets P a)] σ') : S 106 [aR 0, aI (iI a)] σ Φ := by
  refine m_X8_sets hS (fun v hv hw => ?_)
  unfold vc_X8_sets_0
  unfold qSets at hk
  refine c_X8_reckoned hS hC hW hR (fun σ1 f1 c1 k1 q1 => ⟨rfl, ?_⟩)
  have hk := hk σ1 f1 (RKd_of k1 q1)
  try simp (disch := omega) only [iI_lit, iL_lit, iI_add, iI_sub, iI_mul, iI_neg, iI_lt, iI_le, iI_eq, iI_tn, iI_div, iI_l, iL_add, iL_sub, iL_mul, iL_neg, iL_le, iL_lt, iL_eq, iL_ite, vp_T, b2_ne0, b2_eq1, nn_imp, true_and, iI_ite, not_true_eq_false, not_false_eq_true, true_implies, false_implies, and_true, Int.reduceLT, Int.reduceLE, Int.reduceEq, or_false, false_or, true_or, or_true, false_and, and_false, k1.1.2.2.1.1, k1.1.2.2.1.2.1]
  refine ⟨fun d => (by simp (disch := omega) only [if_pos, if_neg] at hk; exact hk), fun d => ⟨fun e => (by simp (disch := omega) only [if_pos, if_neg] at hk; exact hk), fun e => ⟨fun f => ?_, fun f => ⟨fun g => ?_, fun g => ⟨fun h => ?_, fun h => (by simp (disch := omega) only [if_pos, if_neg] at hk; exact hk)⟩⟩⟩⟩⟩
  · exact c_X2_deadBits hS isPat_1 c1 hW ⟨_, rfl, (by simp (disch := omega) only [if_pos, if_neg] at hk; exact hk)⟩
  · exact c_X0_unsignalled hS isBl_13 c1 hW k1.1 ⟨_, rfl, (by simp (disch := omega) only [if_pos, if_neg] at hk; exact hk)⟩
  · exact c_X0_tornBits hS isBl_13 c1 hW k1.1 ⟨_, rfl, (by simp (disch := omega) only [if_pos, if_neg] at hk; exact hk)⟩
theorem ldsN_s {P : Pl} {a b c d : Int} {n : Nat} {k s : Int} : ldsN P a b c d (n + 1) k s = if 0 ≤ argN a b c d k ∧ argN a b c d k < P 280 then ldsN P a b c d n (k + 1) (s + (fl P (argN a b c d k) + sl P (argN a b c d k))) else -1 := rfl
theorem c_X9_loads (hS : Sys S) (hM : MP 50 P σ) (hW : WF P) {n a b c d : Int} (r1 : -2147483648 ≤ n ∧ n < 2147483648) (r2 : -2147483648 ≤ a ∧ a < 2147483648) (r3 : -2147483648 ≤ b ∧ b < 2147483648) (r4 : -2147483648 ≤ c ∧ c < 2147483648) (r5 : -2147483648 ≤ d ∧ d < 2147483648) (hk : Φ [aI (iI (qLoads P n a b c d))] σ) : S 193 [aR 49, aI (iI n), aI (iI a), aI (iI b), aI (iI c), aI (iI d)] σ Φ := by
  refine m_X9_loads hS (fun v hv hw => ?_)
  have g0 := WF_0 hW
  unfold vc_X9_loads_0
  unfold qLoads at hk
  try simp (disch := omega) only [iI_lit, iL_lit, iI_add, iI_sub, iI_mul, iI_neg, iI_lt, iI_le, iI_eq, iI_tn, iI_div, iI_l, iL_add, iL_sub, iL_mul, iL_neg, iL_le, iL_lt, iL_eq, iL_ite, vp_T, b2_ne0, b2_eq1, nn_imp, true_and, iI_ite, not_true_eq_false, not_false_eq_true, true_implies, false_implies, and_true, Int.reduceLT, Int.reduceLE, Int.reduceEq, or_false, false_or, true_or, or_true, false_and, and_false]
  refine ⟨fun e => ?_, fun e => (by simp (disch := omega) only [if_pos, if_neg] at hk; exact hk)⟩
  rw [if_neg (by omega)] at hk
  have L : ∀ (q : Nat) (k s : Int), (n - k).toNat = q → 0 ≤ k → k ≤ n → (0 ≤ s ∧ s ≤ 200 * k) → Φ [aI (iI (ldsN P a b c d q k s))] σ → v 21 [some (aR 49), some (aI (iI n)), some (aI (iI a)), some (aI (iI b)), some (aI (iI c)), some (aI (iI d)), some (aI (iI s)), some (aI (iI k)), none] [] σ := by
    intro q
    induction q with
    | zero =>
      intro k s hd k0 k1 hs hk
      refine w_X9_loads_21 hS hv hw _ _ _ _ _ _ _ σ ?_
      unfold vc_X9_loads_21
      try simp (disch := omega) only [iI_lit, iL_lit, iI_add, iI_sub, iI_mul, iI_neg, iI_lt, iI_le, iI_eq, iI_tn, iI_div, iI_l, iL_add, iL_sub, iL_mul, iL_neg, iL_le, iL_lt, iL_eq, iL_ite, vp_T, b2_ne0, b2_eq1, nn_imp, true_and, iI_ite, not_true_eq_false, not_false_eq_true, true_implies, false_implies, and_true, Int.reduceLT, Int.reduceLE, Int.reduceEq, or_false, false_or, true_or, or_true, false_and, and_false]
      exact ⟨fun _ => hk, fun z => by omega⟩
    | succ q ih =>
      intro k s hd k0 k1 hs hk
      refine w_X9_loads_21 hS hv hw _ _ _ _ _ _ _ σ ?_
      unfold vc_X9_loads_21
      rw [ldsN_s] at hk
      have X : ∀ h : Int, (-2147483648 ≤ h ∧ h < 2147483648) → h = argN a b c d k → vc_X9_loads_59 S Φ v (iI n) (iI a) (iI b) (iI c) (iI d) (iI s) (iI k) (iI h) σ := by
        intro h hr he
        unfold vc_X9_loads_59
        rw [← he] at hk
        try simp (disch := omega) only [iI_lit, iL_lit, iI_add, iI_sub, iI_mul, iI_neg, iI_lt, iI_le, iI_eq, iI_tn, iI_div, iI_l, iL_add, iL_sub, iL_mul, iL_neg, iL_le, iL_lt, iL_eq, iL_ite, vp_T, b2_ne0, b2_eq1, nn_imp, true_and, iI_ite, not_true_eq_false, not_false_eq_true, true_implies, false_implies, and_true, Int.reduceLT, Int.reduceLE, Int.reduceEq, or_false, false_or, true_or, or_true, false_and, and_false, hM _]
        refine ⟨fun z => ?_, fun z => ?_⟩
        · rw [if_pos (by omega)] at hk
          have q1 := fl_r hW (h := h) (by omega) (by omega)
          have q2 := sl_r hW (h := h) (by omega) (by omega)
          refine c_X9_loadsOf hS hM hW (by omega) (by omega) ⟨_, rfl, ?_⟩
          try simp (disch := omega) only [iI_lit, iL_lit, iI_add, iI_sub, iI_mul, iI_neg, iI_lt, iI_le, iI_eq, iI_tn, iI_div, iI_l, iL_add, iL_sub, iL_mul, iL_neg, iL_le, iL_lt, iL_eq, iL_ite, vp_T, b2_ne0, b2_eq1, nn_imp, true_and, iI_ite, not_true_eq_false, not_false_eq_true, true_implies, false_implies, and_true, Int.reduceLT, Int.reduceLE, Int.reduceEq, or_false, false_or, true_or, or_true, false_and, and_false]
          exact ih (k + 1) _ (by omega) (by omega) (by omega) (by omega) hk
        · rw [if_neg (by omega)] at hk; exact hk
      unfold argN at X
      try simp (disch := omega) only [iI_lit, iL_lit, iI_add, iI_sub, iI_mul, iI_neg, iI_lt, iI_le, iI_eq, iI_tn, iI_div, iI_l, iL_add, iL_sub, iL_mul, iL_neg, iL_le, iL_lt, iL_eq, iL_ite, vp_T, b2_ne0, b2_eq1, nn_imp, true_and, iI_ite, not_true_eq_false, not_false_eq_true, true_implies, false_implies, and_true, Int.reduceLT, Int.reduceLE, Int.reduceEq, or_false, false_or, true_or, or_true, false_and, and_false]
      refine ⟨fun z => by omega, fun _ => ⟨fun z => ⟨fun z1 => ⟨fun z2 => X _ r5 (by rw [if_neg z, if_neg z1, if_neg z2]), fun z2 => X _ r4 (by rw [if_neg z, if_neg z1, if_pos z2])⟩, fun z1 => X _ r3 (by rw [if_neg z, if_pos z1])⟩, fun z => X _ r2 (by rw [if_pos z])⟩⟩
  have := L _ 0 0 rfl (by omega) (by omega) (by omega) (by rw [Int.sub_zero]; exact hk)
  exact this
theorem c_X8_loads (hS : Sys S) (hC : CP 1 P σ) (hW : WF P) {n a b c d : Int} (r1 : -2147483648 ≤ n ∧ n < 2147483648) (r2 : -2147483648 ≤ a ∧ a < 2147483648) (r3 : -2147483648 ≤ b ∧ b < 2147483648) (r4 : -2147483648 ≤ c ∧ c < 2147483648) (r5 : -2147483648 ≤ d ∧ d < 2147483648) (hk : Φ [aI (iI (qLoads P n a b c d))] σ) : S 107 [aR 0, aI (iI n), aI (iI a), aI (iI b), aI (iI c), aI (iI d)] σ Φ := by
  refine m_X8_loads hS (fun v hv hw => ?_)
  have g0 := WF_0 hW
  unfold vc_X8_loads_0
  unfold qLoads at hk
  try simp (disch := omega) only [iI_lit, iL_lit, iI_add, iI_sub, iI_mul, iI_neg, iI_lt, iI_le, iI_eq, iI_tn, iI_div, iI_l, iL_add, iL_sub, iL_mul, iL_neg, iL_le, iL_lt, iL_eq, iL_ite, vp_T, b2_ne0, b2_eq1, nn_imp, true_and, iI_ite, not_true_eq_false, not_false_eq_true, true_implies, false_implies, and_true, Int.reduceLT, Int.reduceLE, Int.reduceEq, or_false, false_or, true_or, or_true, false_and, and_false]
  refine ⟨fun e => (by simp (disch := omega) only [if_pos, if_neg] at hk; exact hk), fun e => ⟨fun e2 => ?_, fun e2 => (by simp (disch := omega) only [if_pos, if_neg] at hk; exact hk)⟩⟩
  rw [if_neg (by omega)] at hk
  have L : ∀ (q : Nat) (k s : Int), (n - k).toNat = q → 0 ≤ k → k ≤ n → (0 ≤ s ∧ s ≤ 200 * k) → Φ [aI (iI (ldsN P a b c d q k s))] σ → v 18 [some (aR 0), some (aI (iI n)), some (aI (iI a)), some (aI (iI b)), some (aI (iI c)), some (aI (iI d)), some (aI (iI s)), some (aI (iI k)), none] [] σ := by
    intro q
    induction q with
    | zero =>
      intro k s hd k0 k1 hs hk
      refine w_X8_loads_18 hS hv hw _ _ _ _ _ _ _ σ ?_
      unfold vc_X8_loads_18
      try simp (disch := omega) only [iI_lit, iL_lit, iI_add, iI_sub, iI_mul, iI_neg, iI_lt, iI_le, iI_eq, iI_tn, iI_div, iI_l, iL_add, iL_sub, iL_mul, iL_neg, iL_le, iL_lt, iL_eq, iL_ite, vp_T, b2_ne0, b2_eq1, nn_imp, true_and, iI_ite, not_true_eq_false, not_false_eq_true, true_implies, false_implies, and_true, Int.reduceLT, Int.reduceLE, Int.reduceEq, or_false, false_or, true_or, or_true, false_and, and_false]
      exact ⟨fun _ => hk, fun z => by omega⟩
    | succ q ih =>
      intro k s hd k0 k1 hs hk
      refine w_X8_loads_18 hS hv hw _ _ _ _ _ _ _ σ ?_
      unfold vc_X8_loads_18
      rw [ldsN_s] at hk
      have X : ∀ h : Int, (-2147483648 ≤ h ∧ h < 2147483648) → h = argN a b c d k → vc_X8_loads_56 S Φ v (iI n) (iI a) (iI b) (iI c) (iI d) (iI s) (iI k) (iI h) σ := by
        intro h hr he
        unfold vc_X8_loads_56
        rw [← he] at hk
        try simp (disch := omega) only [iI_lit, iL_lit, iI_add, iI_sub, iI_mul, iI_neg, iI_lt, iI_le, iI_eq, iI_tn, iI_div, iI_l, iL_add, iL_sub, iL_mul, iL_neg, iL_le, iL_lt, iL_eq, iL_ite, vp_T, b2_ne0, b2_eq1, nn_imp, true_and, iI_ite, not_true_eq_false, not_false_eq_true, true_implies, false_implies, and_true, Int.reduceLT, Int.reduceLE, Int.reduceEq, or_false, false_or, true_or, or_true, false_and, and_false, CP_n hC]
        refine ⟨fun z => ?_, fun z => ?_⟩
        · rw [if_pos (by omega)] at hk
          have q1 := fl_r hW (h := h) (by omega) (by omega)
          have q2 := sl_r hW (h := h) (by omega) (by omega)
          refine c_X2_loadsOf hS isPat_1 hC hW (by omega) (by omega) ⟨_, rfl, ?_⟩
          try simp (disch := omega) only [iI_lit, iL_lit, iI_add, iI_sub, iI_mul, iI_neg, iI_lt, iI_le, iI_eq, iI_tn, iI_div, iI_l, iL_add, iL_sub, iL_mul, iL_neg, iL_le, iL_lt, iL_eq, iL_ite, vp_T, b2_ne0, b2_eq1, nn_imp, true_and, iI_ite, not_true_eq_false, not_false_eq_true, true_implies, false_implies, and_true, Int.reduceLT, Int.reduceLE, Int.reduceEq, or_false, false_or, true_or, or_true, false_and, and_false]
          exact ih (k + 1) _ (by omega) (by omega) (by omega) (by omega) hk
        · rw [if_neg (by omega)] at hk; exact hk
      unfold argN at X
      try simp (disch := omega) only [iI_lit, iL_lit, iI_add, iI_sub, iI_mul, iI_neg, iI_lt, iI_le, iI_eq, iI_tn, iI_div, iI_l, iL_add, iL_sub, iL_mul, iL_neg, iL_le, iL_lt, iL_eq, iL_ite, vp_T, b2_ne0, b2_eq1, nn_imp, true_and, iI_ite, not_true_eq_false, not_false_eq_true, true_implies, false_implies, and_true, Int.reduceLT, Int.reduceLE, Int.reduceEq, or_false, false_or, true_or, or_true, false_and, and_false]
      refine ⟨fun z => by omega, fun _ => ⟨fun z => ⟨fun z1 => ⟨fun z2 => X _ r5 (by rw [if_neg z, if_neg z1, if_neg z2]), fun z2 => X _ r4 (by rw [if_neg z, if_neg z1, if_pos z2])⟩, fun z1 => X _ r3 (by rw [if_neg z, if_pos z1])⟩, fun z => X _ r2 (by rw [if_pos z])⟩⟩
  have := L _ 0 0 rfl (by omega) (by omega) (by omega) (by rw [Int.sub_zero]; exact hk)
  exact this
end C23c
