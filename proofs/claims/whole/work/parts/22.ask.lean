def near (P : Pl) (a b : Int) : Prop := (-2 < P (8 * a) - P (8 * b) ∧ P (8 * a) - P (8 * b) < 2) ∧ -2 < P (8 * a + 1) - P (8 * b + 1) ∧ P (8 * a + 1) - P (8 * b + 1) < 2
noncomputable def ens (P : Pl) (D : Int → Bool) (g w : Int) : Int := en P D (sgA P D g) w
def tnP (P : Pl) (F : Int → Bool) (T : Int → Int) (e to h : Int) : Prop := ¬ h = to ∧ near P h to ∧ F h = true ∧ T h < e
def exT (P : Pl) (F : Int → Bool) (T : Int → Int) (e to : Int) : Prop := ∃ h, (0 ≤ h ∧ h < P 280) ∧ tnP P F T e to h
/-- a wire is torn -/
noncomputable def tor (P : Pl) (D : Int → Bool) (g w : Int) : Bool := dec (ens P D g w < 1000000 ∧ exT P (fr P D g) (tm P D g) (ens P D g w) (P (160 + 3 * w + 1)))
def rg1 (P : Pl) (h : Int) : Int := (fl P h + sl P h) / P (8 * h + 4)
def rg (P : Pl) (B : Int → Bool) (h : Int) : Int := if B h = true then (if 2 * rg1 P h ≤ 9 then 2 * rg1 P h else 9) else (if rg1 P h ≤ 9 then rg1 P h else 9)
theorem rg1_r {P : Pl} (hW : WF P) {h : Int} (h0 : 0 ≤ h) (h1 : h < P 280) : 0 ≤ rg1 P h ∧ rg1 P h ≤ 198 := by
  have r1 := fl_r hW h0 h1
  have r2 := sl_r hW h0 h1
  have r3 := (WF_h hW h0 h1).2.2.2.2.1
  unfold rg1
  constructor
  · exact Int.ediv_nonneg (by omega) (by omega)
  · have := Int.ediv_le_self (P (8 * h + 4)) (show 0 ≤ fl P h + sl P h by omega)
    omega
theorem rg_r {P : Pl} (hW : WF P) {B : Int → Bool} {h : Int} (h0 : 0 ≤ h) (h1 : h < P 280) : 0 ≤ rg P B h ∧ rg P B h ≤ 9 := by
  have := rg1_r hW h0 h1
  unfold rg
  (repeat' split) <;> omega
theorem sgA_r {P : Pl} {D : Int → Bool} {g h : Int} (hW : WF P) (hG : Sg P D g (sg P D g)) (h0 : 0 ≤ h) (h1 : h < 20) : sgA P D g h = 1000000 ∨ (0 ≤ sgA P D g h ∧ sgA P D g h ≤ 10000) := by
  unfold sgA
  by_cases c : h < P 280
  · rw [if_pos c]; exact sg_r hW hG h0 c
  · rw [if_neg c]; exact Or.inl rfl
theorem ens_r {P : Pl} {D : Int → Bool} {g w : Int} (hW : WF P) (hG : Sg P D g (sg P D g)) (h0 : 0 ≤ w) (h1 : w < P 281) : ens P D g w = 1000000 ∨ (0 ≤ ens P D g w ∧ ens P D g w ≤ 10500) := by
  have r := WF_w hW h0 h1
  have g0 := WF_0 hW
  unfold ens en
  by_cases c : P (160 + 3 * w) = -1
  · rw [if_pos c]; omega
  · rw [if_neg c]
    by_cases d : sgA P D g (P (160 + 3 * w)) = 1000000 ∨ D (P (160 + 3 * w)) = true
    · rw [if_pos d]; exact Or.inl rfl
    · rw [if_neg d]
      rcases sgA_r hW hG (h := P (160 + 3 * w)) (by omega) (by omega) with q | q
      · exact absurd (Or.inl q) d
      · omega
section C22
variable {S : Sp} {σ : St} {Φ : Rs} {P : Pl} {D : Int → Bool} {g : Int} {b : Nat}
theorem c_X9_endOf' (hS : Sys S) (hM : MP 50 P σ) (hW : WF P) (hF : FS P (dd P) (-1) σ) {w : Int} (h0 : 0 ≤ w) (h1 : w < P 281) (hk : Φ [aI (iI (ens P (dd P) (-1) w))] σ) : S 171 [aR 49, aI (iI w)] σ Φ :=
  c_X9_endOf hS hM hW hF.1 (fun h a b => sgA_r hW hF.2.2.2.2 a b) h0 h1 hk
theorem c_X9_isTorn (hS : Sys S) (hM : MP 50 P σ) (hW : WF P) (hF : FS P (dd P) (-1) σ) {w : Int} (h0 : 0 ≤ w) (h1 : w < P 281) (hk : Φ [aI (b2 (tor P (dd P) (-1) w = true))] σ) : S 176 [aR 49, aI (iI w)] σ Φ := by
  refine m_X9_isTorn hS (fun v hv hw => ?_)
  have g0 := WF_0 hW
  have rw0 := WF_w hW h0 h1
  have er := ens_r hW hF.2.2.2.2 h0 h1
  unfold vc_X9_isTorn_0
  have hY : tor P (dd P) (-1) w = true → Φ [aI (iI 1)] σ := fun q => by rw [b2_t q, iI_lit] at hk; exact hk
  have hN : ¬ tor P (dd P) (-1) w = true → Φ [aI (iI 0)] σ := fun q => by rw [b2_f q, iI_lit] at hk; exact hk
  unfold tor at hY hN
  rw [dec_t] at hY hN
  refine c_X9_endOf' hS hM hW hF h0 h1 ⟨_, rfl, ?_⟩
  generalize ens P (dd P) (-1) w = e at er hY hN
  have hto : 0 ≤ P (160 + 3 * w + 1) ∧ P (160 + 3 * w + 1) < P 280 := rw0.2.1
  try simp (disch := omega) only [iI_lit, iL_lit, iI_add, iI_sub, iI_mul, iI_neg, iI_lt, iI_le, iI_eq, iI_tn, iI_div, iI_l, iL_add, iL_sub, iL_mul, iL_neg, iL_le, iL_lt, iL_eq, iL_ite, vp_T, b2_ne0, b2_eq1, nn_imp, true_and, iI_ite, not_true_eq_false, not_false_eq_true, true_implies, false_implies, and_true, Int.reduceLT, Int.reduceLE, Int.reduceEq, or_false, false_or, true_or, or_true, false_and, and_false, hM _]
  generalize P (160 + 3 * w + 1) = to at hto hY hN
  have gt := WF_h hW hto.1 hto.2
  have L : ∀ (d : Nat) (h : Int), (P 280 - h).toNat = d → 0 ≤ h → h ≤ P 280 → (∀ j, (0 ≤ j ∧ j < h) → ¬ tnP P (fr P (dd P) (-1)) (tm P (dd P) (-1)) e to j) → v 16 [some (aR 49), some (aI (iI w)), some (aI (iI e)), some (aI (iI to)), some (aI (iI h)), none] [] σ := by
    intro d
    induction d with
    | zero =>
      intro h hd a0 a1 hn
      refine w_X9_isTorn_16 hS hv hw _ _ _ _ σ ?_
      unfold vc_X9_isTorn_16
      try simp (disch := omega) only [iI_lit, iL_lit, iI_add, iI_sub, iI_mul, iI_neg, iI_lt, iI_le, iI_eq, iI_tn, iI_div, iI_l, iL_add, iL_sub, iL_mul, iL_neg, iL_le, iL_lt, iL_eq, iL_ite, vp_T, b2_ne0, b2_eq1, nn_imp, true_and, iI_ite, not_true_eq_false, not_false_eq_true, true_implies, false_implies, and_true, Int.reduceLT, Int.reduceLE, Int.reduceEq, or_false, false_or, true_or, or_true, false_and, and_false, hM _]
      refine ⟨fun _ => hN (fun z => ?_), fun c => by omega⟩
      obtain ⟨_, j, hj, q⟩ := z
      exact hn j (by omega) q
    | succ d ih =>
      intro h hd a0 a1 hn
      refine w_X9_isTorn_16 hS hv hw _ _ _ _ σ ?_
      unfold vc_X9_isTorn_16
      have hz : h < P 280 := by omega
      have gh := WF_h hW a0 hz
      have i := ih (h + 1) (by omega) (by omega) (by omega)
      have X : ¬ tnP P (fr P (dd P) (-1)) (tm P (dd P) (-1)) e to h → v 16 [some (aR 49), some (aI (iI w)), some (aI (iI e)), some (aI (iI to)), some (aI (iI (h + 1))), none] [] σ := fun q => i (fun j hj => by
        by_cases c : j < h
        · exact hn j (by omega)
        · rw [show j = h by omega]; exact q)
      have N0 : ¬ tnP P (fr P (dd P) (-1)) (tm P (dd P) (-1)) e to h → vc_X9_isTorn_87 S Φ v (iI w) (iI e) (iI to) (iI h) σ := by
        intro q
        unfold vc_X9_isTorn_87 vc_X9_isTorn_88
        try simp (disch := omega) only [iI_lit, iL_lit, iI_add, iI_sub, iI_mul, iI_neg, iI_lt, iI_le, iI_eq, iI_tn, iI_div, iI_l, iL_add, iL_sub, iL_mul, iL_neg, iL_le, iL_lt, iL_eq, iL_ite, vp_T, b2_ne0, b2_eq1, nn_imp, true_and, iI_ite, not_true_eq_false, not_false_eq_true, true_implies, false_implies, and_true, Int.reduceLT, Int.reduceLE, Int.reduceEq, or_false, false_or, true_or, or_true, false_and, and_false]
        exact X q
      have m0 : ∀ x : Int, (0 ≤ x ∧ x < P 280) → σ.1 50 (8 * x + 0).toNat = iI (P (8 * x)) := fun x hx => by rw [hM _ (by omega), Int.add_zero]
      try simp (disch := omega) only [iI_lit, iL_lit, iI_add, iI_sub, iI_mul, iI_neg, iI_lt, iI_le, iI_eq, iI_tn, iI_div, iI_l, iL_add, iL_sub, iL_mul, iL_neg, iL_le, iL_lt, iL_eq, iL_ite, vp_T, b2_ne0, b2_eq1, nn_imp, true_and, iI_ite, not_true_eq_false, not_false_eq_true, true_implies, false_implies, and_true, Int.reduceLT, Int.reduceLE, Int.reduceEq, or_false, false_or, true_or, or_true, false_and, and_false, m0, hM _]
      refine ⟨fun c => by omega, fun _ => ⟨fun c => hN (fun z => by have := z.1; omega), fun c => ⟨fun c1 => N0 (fun z => z.1 c1), fun c1 => ?_⟩⟩⟩
      refine c_X9_abs hS (by omega) ⟨_, rfl, ?_⟩
      try simp (disch := omega) only [iI_lit, iL_lit, iI_add, iI_sub, iI_mul, iI_neg, iI_lt, iI_le, iI_eq, iI_tn, iI_div, iI_l, iL_add, iL_sub, iL_mul, iL_neg, iL_le, iL_lt, iL_eq, iL_ite, vp_T, b2_ne0, b2_eq1, nn_imp, true_and, iI_ite, not_true_eq_false, not_false_eq_true, true_implies, false_implies, and_true, Int.reduceLT, Int.reduceLE, Int.reduceEq, or_false, false_or, true_or, or_true, false_and, and_false, m0, hM _]
      refine ⟨fun c2 => N0 (fun z => ?_), fun c2 => ?_⟩
      · have := z.2.1.1; split at c2 <;> omega
      refine c_X9_abs hS (by omega) ⟨_, rfl, ?_⟩
      try simp (disch := omega) only [iI_lit, iL_lit, iI_add, iI_sub, iI_mul, iI_neg, iI_lt, iI_le, iI_eq, iI_tn, iI_div, iI_l, iL_add, iL_sub, iL_mul, iL_neg, iL_le, iL_lt, iL_eq, iL_ite, vp_T, b2_ne0, b2_eq1, nn_imp, true_and, iI_ite, not_true_eq_false, not_false_eq_true, true_implies, false_implies, and_true, Int.reduceLT, Int.reduceLE, Int.reduceEq, or_false, false_or, true_or, or_true, false_and, and_false]
      refine ⟨fun c3 => N0 (fun z => ?_), fun c3 => ?_⟩
      · have := z.2.1.2; split at c3 <;> omega
      have hnear : near P h to := by unfold near; refine ⟨?_, ?_⟩ <;> split at c2 <;> split at c3 <;> omega
      unfold vc_X9_isTorn_88
      have f7 := hF.2.2.1
      try simp (disch := omega) only [iI_lit, iL_lit, iI_add, iI_sub, iI_mul, iI_neg, iI_lt, iI_le, iI_eq, iI_tn, iI_div, iI_l, iL_add, iL_sub, iL_mul, iL_neg, iL_le, iL_lt, iL_eq, iL_ite, vp_T, b2_ne0, b2_eq1, nn_imp, true_and, iI_ite, not_true_eq_false, not_false_eq_true, true_implies, false_implies, and_true, Int.reduceLT, Int.reduceLE, Int.reduceEq, or_false, false_or, true_or, or_true, false_and, and_false, f7, bs_0, bs_1, bs_bm, Bool.and_eq_true, decide_eq_true_eq, Bool.not_eq_false, Bool.not_eq_true]
      refine ⟨fun c4 => X (fun z => c4 ⟨hz, z.2.2.1⟩), fun c4 => ?_⟩
      have tr := tm_r hW hF.2.2.2.2 a0 hz c4.2
      have t54 := hF.2.1 h a0 hz c4.2
      try simp (disch := omega) only [iI_lit, iL_lit, iI_add, iI_sub, iI_mul, iI_neg, iI_lt, iI_le, iI_eq, iI_tn, iI_div, iI_l, iL_add, iL_sub, iL_mul, iL_neg, iL_le, iL_lt, iL_eq, iL_ite, vp_T, b2_ne0, b2_eq1, nn_imp, true_and, iI_ite, not_true_eq_false, not_false_eq_true, true_implies, false_implies, and_true, Int.reduceLT, Int.reduceLE, Int.reduceEq, or_false, false_or, true_or, or_true, false_and, and_false, t54]
      exact ⟨fun c5 => X (fun z => by have z1 := z.2.2.2; clear hY hN; omega), fun c5 => hY ⟨by omega, h, ⟨a0, hz⟩, c1, hnear, c4.2, by omega⟩⟩
  exact L _ 0 rfl (by omega) (by omega) (fun j hj => by omega)
theorem c_X9_ringOf (hS : Sys S) (hM : MP 50 P σ) (hW : WF P) {B : Int → Bool} (hB : σ.1 49 8 = bm B (P 280)) {h : Int} (h0 : 0 ≤ h) (h1 : h < P 280) (hk : Φ [aI (iI (rg P B h))] σ) : S 178 [aR 49, aI (iI h)] σ Φ := by
  refine m_X9_ringOf hS (fun v hv hw => ?_)
  have g0 := WF_0 hW
  have gh := WF_h hW h0 h1
  have r1 := fl_r hW h0 h1
  have r2 := sl_r hW h0 h1
  have r3 := rg1_r hW h0 h1
  unfold vc_X9_ringOf_0
  unfold rg at hk
  refine c_X9_loadsOf hS hM hW h0 h1 ⟨_, rfl, ?_⟩
  have e : ∀ x, (fl P h + sl P h) / P (8 * h + 4) = x ↔ rg1 P h = x := fun x => Iff.rfl
  try simp (disch := omega) only [iI_lit, iL_lit, iI_add, iI_sub, iI_mul, iI_neg, iI_lt, iI_le, iI_eq, iI_tn, iI_div, iI_l, iL_add, iL_sub, iL_mul, iL_neg, iL_le, iL_lt, iL_eq, iL_ite, vp_T, b2_ne0, b2_eq1, nn_imp, true_and, iI_ite, not_true_eq_false, not_false_eq_true, true_implies, false_implies, and_true, Int.reduceLT, Int.reduceLE, Int.reduceEq, or_false, false_or, true_or, or_true, false_and, and_false, hM _, hB, bs_0, bs_1, bs_bm, Bool.and_eq_true, decide_eq_true_eq, Bool.not_eq_false, Bool.not_eq_true]
  rw [show (fl P h + sl P h) / P (8 * h + 4) = rg1 P h from rfl]
  try simp (disch := omega) only [iI_lit, iL_lit, iI_add, iI_sub, iI_mul, iI_neg, iI_lt, iI_le, iI_eq, iI_tn, iI_div, iI_l, iL_add, iL_sub, iL_mul, iL_neg, iL_le, iL_lt, iL_eq, iL_ite, vp_T, b2_ne0, b2_eq1, nn_imp, true_and, iI_ite, not_true_eq_false, not_false_eq_true, true_implies, false_implies, and_true, Int.reduceLT, Int.reduceLE, Int.reduceEq, or_false, false_or, true_or, or_true, false_and, and_false]
  refine ⟨by omega, fun c => ?_, fun c => ?_⟩
  · rw [if_neg (fun z => c ⟨h1, z⟩)] at hk; exact hk
  · rw [if_pos c.2] at hk; exact hk
theorem c_X0_endOf' (hS : Sys S) (h_b : isBl b) (hC : CP 1 P σ) (hW : WF P) (hB : BS b P D g σ) {w : Int} (h0 : 0 ≤ w) (h1 : w < P 281) (hk : Φ [aI (iI (rp (ens P D g w)))] σ) : S 3 [aR b, aI (iI w)] σ Φ :=
  c_X0_endOf hS h_b hC hW hB.2.2.1.2.2 hB.1 (fun h a b => sgA_r hW hB.2.2.2 a b) h0 h1 hk
theorem c_X0_isTorn (hS : Sys S) (h_b : isBl b) (hC : CP 1 P σ) (hW : WF P) (hB : BS b P D g σ) {w : Int} (h0 : 0 ≤ w) (h1 : w < P 281) (hk : Φ [aI (b2 (tor P D g w = true))] σ) : S 9 [aR b, aI (iI w)] σ Φ := by
  refine m_X0_isTorn hS h_b (fun v hv hw => ?_)
  have g0 := WF_0 hW
  have rw0 := WF_w hW h0 h1
  have er := ens_r hW hB.2.2.2 h0 h1
  unfold vc_X0_isTorn_0
  have hY : tor P D g w = true → Φ [aI (iI 1)] σ := fun q => by rw [b2_t q, iI_lit] at hk; exact hk
  have hN : ¬ tor P D g w = true → Φ [aI (iI 0)] σ := fun q => by rw [b2_f q, iI_lit] at hk; exact hk
  unfold tor at hY hN
  rw [dec_t] at hY hN
  refine c_X0_endOf' hS h_b hC hW hB h0 h1 ⟨_, rfl, ?_⟩
  have m1 : σ.1 3 (w * 3 + 1).toNat = iI (P (160 + 3 * w + 1)) := CP_v hC (by omega)
  have er' : -1 ≤ rp (ens P D g w) ∧ rp (ens P D g w) ≤ 10500 ∧ (rp (ens P D g w) = -1 ↔ ens P D g w = 1000000) ∧ (¬ ens P D g w = 1000000 → rp (ens P D g w) = ens P D g w) := by
    unfold rp; split <;> omega
  try simp (disch := omega) only [iI_lit, iL_lit, iI_add, iI_sub, iI_mul, iI_neg, iI_lt, iI_le, iI_eq, iI_tn, iI_div, iI_l, iL_add, iL_sub, iL_mul, iL_neg, iL_le, iL_lt, iL_eq, iL_ite, vp_T, b2_ne0, b2_eq1, nn_imp, true_and, iI_ite, not_true_eq_false, not_false_eq_true, true_implies, false_implies, and_true, Int.reduceLT, Int.reduceLE, Int.reduceEq, or_false, false_or, true_or, or_true, false_and, and_false, m1]
  have hto : 0 ≤ P (160 + 3 * w + 1) ∧ P (160 + 3 * w + 1) < P 280 := rw0.2.1
  generalize ens P D g w = e at er er' hY hN
  generalize rp e = e' at er'
  generalize P (160 + 3 * w + 1) = to at hto hY hN
  have L : ∀ (d : Nat) (h : Int), (P 280 - h).toNat = d → 0 ≤ h → h ≤ P 280 → (∀ j, (0 ≤ j ∧ j < h) → ¬ tnP P (fr P D g) (tm P D g) e to j) → v 19 [some (aR b), some (aI (iI w)), some (aI (iI e')), some (aI (iI to)), some (aI (iI h))] [] σ := by
    intro d
    induction d with
    | zero =>
      intro h hd a0 a1 hn
      refine w_X0_isTorn_19 hS hv hw b h_b _ _ _ _ σ ?_
      unfold vc_X0_isTorn_19
      try simp (disch := omega) only [iI_lit, iL_lit, iI_add, iI_sub, iI_mul, iI_neg, iI_lt, iI_le, iI_eq, iI_tn, iI_div, iI_l, iL_add, iL_sub, iL_mul, iL_neg, iL_le, iL_lt, iL_eq, iL_ite, vp_T, b2_ne0, b2_eq1, nn_imp, true_and, iI_ite, not_true_eq_false, not_false_eq_true, true_implies, false_implies, and_true, Int.reduceLT, Int.reduceLE, Int.reduceEq, or_false, false_or, true_or, or_true, false_and, and_false, CP_n hC]
      refine ⟨fun _ => hN (fun z => ?_), fun c => by omega⟩
      obtain ⟨_, j, hj, q⟩ := z
      exact hn j (by omega) q
    | succ d ih =>
      intro h hd a0 a1 hn
      refine w_X0_isTorn_19 hS hv hw b h_b _ _ _ _ σ ?_
      unfold vc_X0_isTorn_19
      have hz : h < P 280 := by omega
      have i := ih (h + 1) (by omega) (by omega) (by omega)
      have X : ¬ tnP P (fr P D g) (tm P D g) e to h → v 19 [some (aR b), some (aI (iI w)), some (aI (iI e')), some (aI (iI to)), some (aI (iI (h + 1)))] [] σ := fun q => i (fun j hj => by
        by_cases c : j < h
        · exact hn j (by omega)
        · rw [show j = h by omega]; exact q)
      have f4 := hB.2.2.1.1
      try simp (disch := omega) only [iI_lit, iL_lit, iI_add, iI_sub, iI_mul, iI_neg, iI_lt, iI_le, iI_eq, iI_tn, iI_div, iI_l, iL_add, iL_sub, iL_mul, iL_neg, iL_le, iL_lt, iL_eq, iL_ite, vp_T, b2_ne0, b2_eq1, nn_imp, true_and, iI_ite, not_true_eq_false, not_false_eq_true, true_implies, false_implies, and_true, Int.reduceLT, Int.reduceLE, Int.reduceEq, or_false, false_or, true_or, or_true, false_and, and_false, CP_n hC, f4, bs_0, bs_1, bs_bm, Bool.and_eq_true, decide_eq_true_eq, Bool.not_eq_false, Bool.not_eq_true]
      refine ⟨fun c => by omega, fun _ => ⟨fun c => hN (fun z => by have := z.1; omega), fun c => ⟨fun c1 => X (fun z => z.1 c1), fun c1 => ⟨fun c2 => X (fun z => c2 ⟨by omega, by omega, hz, z.2.2.1⟩), fun c2 => ?_⟩⟩⟩⟩
      have c2 := c2.2.2.2
      have tr := tm_r hW hB.2.2.2 a0 hz c2
      have t2 := hB.2.1 h a0 hz
      rw [if_pos c2] at t2
      try simp (disch := omega) only [iI_lit, iL_lit, iI_add, iI_sub, iI_mul, iI_neg, iI_lt, iI_le, iI_eq, iI_tn, iI_div, iI_l, iL_add, iL_sub, iL_mul, iL_neg, iL_le, iL_lt, iL_eq, iL_ite, vp_T, b2_ne0, b2_eq1, nn_imp, true_and, iI_ite, not_true_eq_false, not_false_eq_true, true_implies, false_implies, and_true, Int.reduceLT, Int.reduceLE, Int.reduceEq, or_false, false_or, true_or, or_true, false_and, and_false, t2]
      refine ⟨fun c3 => X (fun z => by have := z.2.2.2; omega), fun c3 => ?_⟩
      refine c_X2_areNear hS isPat_1 hC hW ⟨a0, hz⟩ hto ⟨_, rfl, ?_⟩
      try simp (disch := omega) only [iI_lit, iL_lit, iI_add, iI_sub, iI_mul, iI_neg, iI_lt, iI_le, iI_eq, iI_tn, iI_div, iI_l, iL_add, iL_sub, iL_mul, iL_neg, iL_le, iL_lt, iL_eq, iL_ite, vp_T, b2_ne0, b2_eq1, nn_imp, true_and, iI_ite, not_true_eq_false, not_false_eq_true, true_implies, false_implies, and_true, Int.reduceLT, Int.reduceLE, Int.reduceEq, or_false, false_or, true_or, or_true, false_and, and_false]
      exact ⟨fun c4 => X (fun z => c4 z.2.1), fun c4 => hY ⟨by omega, h, ⟨a0, hz⟩, c1, c4, c2, by omega⟩⟩
  exact L _ 0 rfl (by omega) (by omega) (fun j hj => by omega)
theorem c_X0_unsignalled (hS : Sys S) (h_b : isBl b) (hC : CP 1 P σ) (hW : WF P) (hB : BS b P D g σ) (hk : Φ [aI (bm (fun h => decide (sgA P D g h = 1000000)) (P 280))] σ) : S 8 [aR b] σ Φ := by
  refine m_X0_unsignalled hS h_b (fun v hv hw => ?_)
  have g0 := WF_0 hW
  unfold vc_X0_unsignalled_0
  have L : ∀ (d : Nat) (h : Int), (P 280 - h).toNat = d → 0 ≤ h → h ≤ P 280 → v 4 [some (aR b), some (aI (bm (fun h => decide (sgA P D g h = 1000000)) h)), some (aI (iI h))] [] σ := by
    intro d
    induction d with
    | zero =>
      intro h hd h0 h1
      refine w_X0_unsignalled_4 hS hv hw b h_b _ _ σ ?_
      unfold vc_X0_unsignalled_4
      try simp (disch := omega) only [iI_lit, iL_lit, iI_add, iI_sub, iI_mul, iI_neg, iI_lt, iI_le, iI_eq, iI_tn, iI_div, iI_l, iL_add, iL_sub, iL_mul, iL_neg, iL_le, iL_lt, iL_eq, iL_ite, vp_T, b2_ne0, b2_eq1, nn_imp, true_and, iI_ite, not_true_eq_false, not_false_eq_true, true_implies, false_implies, and_true, Int.reduceLT, Int.reduceLE, Int.reduceEq, or_false, false_or, true_or, or_true, false_and, and_false, CP_n hC]
      rw [show h = P 280 by omega]
      exact ⟨fun _ => hk, fun a => by omega⟩
    | succ d ih =>
      intro h hd h0 h1
      refine w_X0_unsignalled_4 hS hv hw b h_b _ _ σ ?_
      unfold vc_X0_unsignalled_4
      have i := ih (h + 1) (by omega) (by omega) (by omega)
      have s1 := hB.1 h (by omega)
      have sr := sgA_r hW hB.2.2.2 h0 (by omega)
      have rp1 : -1 ≤ rp (sgA P D g h) ∧ rp (sgA P D g h) ≤ 10000 ∧ (rp (sgA P D g h) = -1 ↔ sgA P D g h = 1000000) := by
        unfold rp; split <;> omega
      try simp (disch := omega) only [iI_lit, iL_lit, iI_add, iI_sub, iI_mul, iI_neg, iI_lt, iI_le, iI_eq, iI_tn, iI_div, iI_l, iL_add, iL_sub, iL_mul, iL_neg, iL_le, iL_lt, iL_eq, iL_ite, vp_T, b2_ne0, b2_eq1, nn_imp, true_and, iI_ite, not_true_eq_false, not_false_eq_true, true_implies, false_implies, and_true, Int.reduceLT, Int.reduceLE, Int.reduceEq, or_false, false_or, true_or, or_true, false_and, and_false, CP_n hC, s1, bitO_i]
      refine ⟨fun a => by omega, fun _ => ⟨fun c => ?_, fun c => ?_⟩⟩
      · rw [bm_sf h0 (decide_eq_false (by omega))]; exact i
      · rw [bm_st h0 (decide_eq_true (by omega))]; exact i
  have := L _ 0 rfl (by omega) (by omega)
  rw [iI_lit]; exact this
theorem c_X0_tornBits (hS : Sys S) (h_b : isBl b) (hC : CP 1 P σ) (hW : WF P) (hB : BS b P D g σ) (hk : Φ [aI (bm (tor P D g) (if P 281 ≤ 31 then P 281 else 31))] σ) : S 10 [aR b] σ Φ := by
  refine m_X0_tornBits hS h_b (fun v hv hw => ?_)
  have g0 := WF_0 hW
  unfold vc_X0_tornBits_0
  have hm : 0 ≤ (if P 281 ≤ 31 then P 281 else 31) ∧ (if P 281 ≤ 31 then P 281 else 31) ≤ 31 ∧ (if P 281 ≤ 31 then P 281 else 31) ≤ P 281 ∧ ((if P 281 ≤ 31 then P 281 else 31) = 31 ∨ (if P 281 ≤ 31 then P 281 else 31) = P 281) := by split <;> omega
  generalize (if P 281 ≤ 31 then P 281 else 31) = m at hm hk
  have L : ∀ (d : Nat) (h : Int), (m - h).toNat = d → 0 ≤ h → h ≤ m → v 4 [some (aR b), some (aI (bm (tor P D g) h)), some (aI (iI h))] [] σ := by
    intro d
    induction d with
    | zero =>
      intro h hd h0 h1
      refine w_X0_tornBits_4 hS hv hw b h_b _ _ σ ?_
      unfold vc_X0_tornBits_4
      try simp (disch := omega) only [iI_lit, iL_lit, iI_add, iI_sub, iI_mul, iI_neg, iI_lt, iI_le, iI_eq, iI_tn, iI_div, iI_l, iL_add, iL_sub, iL_mul, iL_neg, iL_le, iL_lt, iL_eq, iL_ite, vp_T, b2_ne0, b2_eq1, nn_imp, true_and, iI_ite, not_true_eq_false, not_false_eq_true, true_implies, false_implies, and_true, Int.reduceLT, Int.reduceLE, Int.reduceEq, or_false, false_or, true_or, or_true, false_and, and_false, CP_w hC]
      have q : h = m := by omega
      subst q
      exact ⟨fun _ => hk, fun a => ⟨fun _ => hk, fun a => by omega⟩⟩
    | succ d ih =>
      intro h hd h0 h1
      refine w_X0_tornBits_4 hS hv hw b h_b _ _ σ ?_
      unfold vc_X0_tornBits_4
      have i := ih (h + 1) (by omega) (by omega) (by omega)
      try simp (disch := omega) only [iI_lit, iL_lit, iI_add, iI_sub, iI_mul, iI_neg, iI_lt, iI_le, iI_eq, iI_tn, iI_div, iI_l, iL_add, iL_sub, iL_mul, iL_neg, iL_le, iL_lt, iL_eq, iL_ite, vp_T, b2_ne0, b2_eq1, nn_imp, true_and, iI_ite, not_true_eq_false, not_false_eq_true, true_implies, false_implies, and_true, Int.reduceLT, Int.reduceLE, Int.reduceEq, or_false, false_or, true_or, or_true, false_and, and_false, CP_w hC]
      refine ⟨fun a => by omega, fun _ => ⟨fun a => by omega, fun _ => ?_⟩⟩
      refine c_X0_isTorn hS h_b hC hW hB h0 (by omega) ⟨_, rfl, ?_⟩
      try simp (disch := omega) only [iI_lit, iL_lit, iI_add, iI_sub, iI_mul, iI_neg, iI_lt, iI_le, iI_eq, iI_tn, iI_div, iI_l, iL_add, iL_sub, iL_mul, iL_neg, iL_le, iL_lt, iL_eq, iL_ite, vp_T, b2_ne0, b2_eq1, nn_imp, true_and, iI_ite, not_true_eq_false, not_false_eq_true, true_implies, false_implies, and_true, Int.reduceLT, Int.reduceLE, Int.reduceEq, or_false, false_or, true_or, or_true, false_and, and_false]
      refine ⟨fun c => ?_, fun c => ?_⟩
      · rw [bm_sf h0 (Bool.eq_false_iff.mpr c)]; exact i
      · rw [bm_st h0 c]; exact i
  have := L _ 0 rfl (by omega) (by omega)
  rw [iI_lit]; exact this
theorem c_X0_ringOf (hS : Sys S) (h_b : isBl b) (hC : CP 1 P σ) (hW : WF P) {B : Int → Bool} (hB : σ.1 b 5 = bm B (P 280)) {h : Int} (h0 : 0 ≤ h) (h1 : h < P 280) (hk : Φ [aI (iI (rg P B h))] σ) : S 11 [aR b, aI (iI h)] σ Φ := by
  refine m_X0_ringOf hS h_b (fun v hv hw => ?_)
  have g0 := WF_0 hW
  have gh := WF_h hW h0 h1
  have r1 := fl_r hW h0 h1
  have r2 := sl_r hW h0 h1
  have r3 := rg1_r hW h0 h1
  unfold vc_X0_ringOf_0
  unfold rg at hk
  refine c_X2_loadsOf hS isPat_1 hC hW h0 h1 ⟨_, rfl, ?_⟩
  have m4 : σ.1 2 (h * 9 + 4).toNat = iI (P (8 * h + 4)) := CP_m hC (by omega)
  have mx : (if P (8 * h + 4) < 1 then 1 else P (8 * h + 4)) = P (8 * h + 4) := by rw [if_neg (by omega)]
  try simp (disch := omega) only [iI_lit, iL_lit, iI_add, iI_sub, iI_mul, iI_neg, iI_lt, iI_le, iI_eq, iI_tn, iI_div, iI_l, iL_add, iL_sub, iL_mul, iL_neg, iL_le, iL_lt, iL_eq, iL_ite, vp_T, b2_ne0, b2_eq1, nn_imp, true_and, iI_ite, not_true_eq_false, not_false_eq_true, true_implies, false_implies, and_true, Int.reduceLT, Int.reduceLE, Int.reduceEq, or_false, false_or, true_or, or_true, false_and, and_false, m4, mx]
  refine ⟨by omega, fun y e => ?_⟩
  have e : y = iI (rg1 P h) := e
  subst e
  try simp (disch := omega) only [iI_lit, iL_lit, iI_add, iI_sub, iI_mul, iI_neg, iI_lt, iI_le, iI_eq, iI_tn, iI_div, iI_l, iL_add, iL_sub, iL_mul, iL_neg, iL_le, iL_lt, iL_eq, iL_ite, vp_T, b2_ne0, b2_eq1, nn_imp, true_and, iI_ite, not_true_eq_false, not_false_eq_true, true_implies, false_implies, and_true, Int.reduceLT, Int.reduceLE, Int.reduceEq, or_false, false_or, true_or, or_true, false_and, and_false, hB, bs_0, bs_1, bs_bm, Bool.and_eq_true, decide_eq_true_eq, Bool.not_eq_false, Bool.not_eq_true]
  refine ⟨fun c => ?_, fun c => ?_⟩
  · rw [if_neg (fun z => c ⟨by omega, by omega, h1, z⟩)] at hk
    rw [show (if 9 < rg1 P h then (9 : Int) else rg1 P h) = if rg1 P h ≤ 9 then rg1 P h else 9 by (repeat' split) <;> omega]; exact hk
  · rw [if_pos c.2.2.2] at hk
    rw [show (if 9 < 2 * rg1 P h then (9 : Int) else 2 * rg1 P h) = if 2 * rg1 P h ≤ 9 then 2 * rg1 P h else 9 by (repeat' split) <;> omega]; exact hk
end C22
