def okB (what v : Int) : Prop := (what = 3 ∧ 1 ≤ v ∧ v ≤ 99) ∨ (what = 4 ∧ 1 ≤ v ∧ v ≤ 20) ∨ (what = 5 ∧ 0 ≤ v ∧ v ≤ 999) ∨ (what = 6 ∧ 0 ≤ v ∧ v ≤ 1)
def addW (P : Pl) (f t d : Int) : Pl := pu (pu (pu (pu P (160 + 3 * P 281) f) (160 + 3 * P 281 + 1) t) (160 + 3 * P 281 + 2) d) 281 (P 281 + 1)
def cutP (P : Pl) (w : Int) : Pl := fun i => if i = 281 then P 281 - 1 else if 160 + 3 * w ≤ i ∧ i < 160 + 3 * (P 281 - 1) then P (i + 3) else P i
def okR (what v : Int) : Prop := (what = 0 ∧ 1 ≤ v ∧ v ≤ 99) ∨ (what = 1 ∧ 1 ≤ v ∧ v ≤ 9999) ∨ (what = 2 ∧ 5 ≤ v ∧ v ≤ 99)
theorem pu_W {P : Pl} (hW : WF P) {h what v : Int} (h0 : 0 ≤ h) (h1 : h < P 280) (ho : okB what v) : WF (pu P (8 * h + what) v) := by
  have g0 := WF_0 hW
  unfold okB at ho
  have e : pu P (8 * h + what) v 280 = P 280 := by simp (disch := omega) only [pu_e, pu_n, ]
  have e1 : pu P (8 * h + what) v 281 = P 281 := by simp (disch := omega) only [pu_e, pu_n, ]
  refine ⟨?_, ?_, ?_, ?_⟩
  · simp (disch := omega) only [pu_e, pu_n, ]; exact g0
  · intro g a0 a1
    rw [e] at a1
    have := WF_h hW a0 a1
    unfold pu
    refine ⟨?_, ?_, ?_, ?_, ?_, ?_, ?_, ?_⟩ <;> split <;> omega
  · intro w a0 a1
    rw [e1] at a1
    have := WF_w hW a0 a1
    simp (disch := omega) only [pu_e, pu_n, ]
    exact this
  · intro a b a0 ab b1
    rw [e] at b1
    simp (disch := omega) only [pu_e, pu_n, ]
    exact hW.2.2.2 a b a0 ab b1
theorem pu_C {P : Pl} (hW : WF P) {c : Int} (hc : 0 ≤ c ∧ c ≤ 40) : WF (pu P 285 c) := by
  have g0 := WF_0 hW
  refine ⟨?_, ?_, ?_, ?_⟩
  · simp (disch := omega) only [pu_e, pu_n, ]; omega
  · intro g a0 a1
    rw [pu_n (by omega)] at a1
    simp (disch := omega) only [pu_e, pu_n, ]
    exact WF_h hW a0 a1
  · intro w a0 a1
    rw [pu_n (by omega)] at a1
    have := WF_w hW a0 a1
    simp (disch := omega) only [pu_e, pu_n, ]
    exact this
  · intro a b a0 ab b1
    rw [pu_n (by omega)] at b1
    simp (disch := omega) only [pu_e, pu_n, ]
    exact hW.2.2.2 a b a0 ab b1
theorem pu_R {P : Pl} (hW : WF P) {what v : Int} (ho : okR what v) : WF (pu P (282 + what) v) := by
  have g0 := WF_0 hW
  unfold okR at ho
  have e : pu P (282 + what) v 280 = P 280 := by simp (disch := omega) only [pu_e, pu_n, ]
  have e1 : pu P (282 + what) v 281 = P 281 := by simp (disch := omega) only [pu_e, pu_n, ]
  refine ⟨?_, ?_, ?_, ?_⟩
  · rw [e, e1]; unfold pu; refine ⟨?_, ?_, ?_, ?_, ?_, ?_⟩ <;> (repeat' split) <;> omega
  · intro g a0 a1
    rw [e] at a1
    simp (disch := omega) only [pu_e, pu_n, ]
    exact WF_h hW a0 a1
  · intro w a0 a1
    rw [e1] at a1
    have := WF_w hW a0 a1
    simp (disch := omega) only [pu_e, pu_n, ]
    exact this
  · intro a b a0 ab b1
    rw [e] at b1
    simp (disch := omega) only [pu_e, pu_n, ]
    exact hW.2.2.2 a b a0 ab b1
theorem addW_W {P : Pl} (hW : WF P) {f t d : Int} (h1 : -1 ≤ f ∧ f < P 280) (h2 : 0 ≤ t ∧ t < P 280) (h3 : 0 ≤ d ∧ d ≤ 500) (hn : P 281 < 40) : WF (addW P f t d) := by
  have g0 := WF_0 hW
  unfold addW
  have e : pu (pu (pu (pu P (160 + 3 * P 281) f) (160 + 3 * P 281 + 1) t) (160 + 3 * P 281 + 2) d) 281 (P 281 + 1) 280 = P 280 := by simp (disch := omega) only [pu_e, pu_n, ]
  have e1 : pu (pu (pu (pu P (160 + 3 * P 281) f) (160 + 3 * P 281 + 1) t) (160 + 3 * P 281 + 2) d) 281 (P 281 + 1) 281 = P 281 + 1 := by simp (disch := omega) only [pu_e, pu_n, ]
  refine ⟨?_, ?_, ?_, ?_⟩
  · simp (disch := omega) only [pu_e, pu_n, ]; omega
  · intro g a0 a1
    rw [e] at a1
    simp (disch := omega) only [pu_e, pu_n, ]
    exact WF_h hW a0 a1
  · intro w a0 a1
    rw [e1] at a1
    by_cases q : w < P 281
    · have := WF_w hW a0 q
      simp (disch := omega) only [pu_e, pu_n, ]
      exact this
    · have q : w = P 281 := by omega
      subst q
      simp (disch := omega) only [pu_e, pu_n, ]
      omega
  · intro a b a0 ab b1
    rw [e] at b1
    simp (disch := omega) only [pu_e, pu_n, ]
    exact hW.2.2.2 a b a0 ab b1
theorem cutP_W {P : Pl} (hW : WF P) {w : Int} (h0 : 0 ≤ w) (h1 : w < P 281) : WF (cutP P w) := by
  have g0 := WF_0 hW
  have e : cutP P w 280 = P 280 := by unfold cutP; rw [if_neg (by omega), if_neg (by omega)]
  have e1 : cutP P w 281 = P 281 - 1 := by unfold cutP; rw [if_pos rfl]
  have eo : ∀ i, (i < 160 ∨ 281 < i ∨ i = 280) → cutP P w i = P i := fun i hi => by unfold cutP; rw [if_neg (by omega), if_neg (by omega)]
  refine ⟨?_, ?_, ?_, ?_⟩
  · rw [e, e1, eo 282 (by omega), eo 283 (by omega), eo 284 (by omega), eo 285 (by omega)]; omega
  · intro g a0 a1
    rw [e] at a1
    rw [eo _ (by omega), eo _ (by omega), eo _ (by omega), eo _ (by omega), eo _ (by omega), eo _ (by omega), eo _ (by omega), eo _ (by omega)]
    exact WF_h hW a0 a1
  · intro x a0 a1
    rw [e1] at a1
    rw [e]
    by_cases q : x < w
    · have := WF_w hW a0 (by omega : x < P 281)
      unfold cutP
      rw [if_neg (by omega), if_neg (by omega), if_neg (by omega), if_neg (by omega), if_neg (by omega), if_neg (by omega)]
      exact this
    · have := WF_w hW (by omega : 0 ≤ x + 1) (by omega)
      unfold cutP
      rw [if_neg (by omega), if_pos (by omega), if_neg (by omega), if_pos (by omega), if_neg (by omega), if_pos (by omega)]
      rw [show 160 + 3 * (x + 1) = 160 + 3 * x + 3 by omega] at this
      rw [show 160 + 3 * x + 1 + 3 = 160 + 3 * x + 3 + 1 by omega, show 160 + 3 * x + 2 + 3 = 160 + 3 * x + 3 + 2 by omega]
      exact this
  · intro a b a0 ab b1
    rw [e] at b1
    rw [eo _ (by omega), eo _ (by omega), eo _ (by omega), eo _ (by omega)]
    exact hW.2.2.2 a b a0 ab b1
/-- the wires of the last hole go, from behind -/
def dropN (P : Pl) : Nat → Pl
  | 0 => P
  | n + 1 => if P (160 + 3 * (n : Int)) = P 280 ∨ P (160 + 3 * (n : Int) + 1) = P 280 then dropN (cutP P n) n else dropN P n
def dropP (P : Pl) : Pl := dropN (pu P 280 (P 280 - 1)) (P 281).toNat
section C18b
variable {S : Sp} {σ : St} {Φ : Rs} {P : Pl} {p : Nat}
theorem c_X9_becomes (hS : Sys S) (hM : MP 50 P σ) (hW : WF P) {h what x : Int} (r1 : -2147483648 ≤ h ∧ h < 2147483648) (r2 : -2147483648 ≤ what ∧ what < 2147483648) (r3 : -2147483648 ≤ x ∧ x < 2147483648)
    (k1 : ¬ (0 ≤ h ∧ h < P 280) → Φ [aI (iI (-1))] σ) (k2 : (0 ≤ h ∧ h < P 280) → ¬ okB what x → Φ [aI (iI (-2))] σ)
    (k3 : (0 ≤ h ∧ h < P 280) → okB what x → ∀ σ', Fr F50 σ σ' → MP 50 (pu (pu P (8 * h + what) x) 285 0) σ' → Φ [aI (iI (P (8 * h + what)))] σ') : S 164 [aR 49, aI (iI h), aI (iI what), aI (iI x)] σ Φ := by
  refine m_X9_becomes hS (fun v hv hw => ?_)
  have g0 := WF_0 hW
  have B : (0 ≤ h ∧ h < P 280) → ¬ okB what x → vc_X9_becomes_81 S Φ v (iI h) (iI what) (iI x) σ := by
    intro hh hb
    unfold vc_X9_becomes_81 vc_X9_becomes_82
    try simp (disch := omega) only [iI_lit, iL_lit, iI_add, iI_sub, iI_mul, iI_neg, iI_lt, iI_le, iI_eq, iI_tn, iI_div, iI_l, iL_add, iL_sub, iL_mul, iL_neg, iL_le, iL_lt, iL_eq, iL_ite, vp_T, b2_ne0, b2_eq1, nn_imp, true_and, iI_ite, not_true_eq_false, not_false_eq_true, true_implies, false_implies, and_true, Int.reduceLT, Int.reduceLE, Int.reduceEq, or_false, false_or, true_or, or_true, false_and, and_false]
    exact k2 hh hb
  have G : (0 ≤ h ∧ h < P 280) → okB what x → vc_X9_becomes_82 S Φ v (iI h) (iI what) (iI x) (iI 1) σ := by
    intro hh hb
    have hb' := hb
    unfold okB at hb'
    unfold vc_X9_becomes_82
    try simp (disch := omega) only [iI_lit, iL_lit, iI_add, iI_sub, iI_mul, iI_neg, iI_lt, iI_le, iI_eq, iI_tn, iI_div, iI_l, iL_add, iL_sub, iL_mul, iL_neg, iL_le, iL_lt, iL_eq, iL_ite, vp_T, b2_ne0, b2_eq1, nn_imp, true_and, iI_ite, not_true_eq_false, not_false_eq_true, true_implies, false_implies, and_true, Int.reduceLT, Int.reduceLE, Int.reduceEq, or_false, false_or, true_or, or_true, false_and, and_false, hM _]
    intro σ1 e1 σ2 e2
    have m1 := MP_up e1 hM (by omega)
    have m2 := MP_up e2 m1 (by omega)
    exact k3 hh hb σ2 (by rw [e2, e1]; exact Fr_up (Fr_up Fr_rf rfl) rfl) m2
  unfold vc_X9_becomes_0
  unfold okB at B G
  have C : ∀ q : Prop, ∀ [Decidable q], (0 ≤ h ∧ h < P 280) → (q → okB what x) → (¬ q → ¬ okB what x) → vc_X9_becomes_82 S Φ v (iI h) (iI what) (iI x) (b2 q) σ := by
    intro q _ hh h1 h2
    by_cases c : q
    · rw [b2_t c, iI_lit]; exact G hh (h1 c)
    · have := B hh (h2 c); unfold vc_X9_becomes_81 at this; rw [b2_f c]; exact this
  unfold okB at C
  try simp (disch := omega) only [iI_lit, iL_lit, iI_add, iI_sub, iI_mul, iI_neg, iI_lt, iI_le, iI_eq, iI_tn, iI_div, iI_l, iL_add, iL_sub, iL_mul, iL_neg, iL_le, iL_lt, iL_eq, iL_ite, vp_T, b2_ne0, b2_eq1, nn_imp, true_and, iI_ite, not_true_eq_false, not_false_eq_true, true_implies, false_implies, and_true, Int.reduceLT, Int.reduceLE, Int.reduceEq, or_false, false_or, true_or, or_true, false_and, and_false, hM _]
  refine ⟨fun a => ⟨fun b => ⟨fun c => ⟨fun d => ⟨fun e => B (by omega) (by omega), fun e => ⟨fun f => B (by omega) (by omega), fun f => G (by omega) (by omega)⟩⟩, fun d => ?_⟩, fun c => ?_⟩, fun b => ?_⟩, fun a => k1 (by omega)⟩
  · exact C _ (by omega) (by omega) (by omega)
  · exact C _ (by omega) (by omega) (by omega)
  · exact C _ (by omega) (by omega) (by omega)
theorem c_X9_wire (hS : Sys S) (hM : MP 50 P σ) (hW : WF P) {f t d : Int} (r1 : -2147483648 ≤ f ∧ f < 2147483648) (r2 : -2147483648 ≤ t ∧ t < 2147483648) (r3 : -2147483648 ≤ d ∧ d < 2147483648)
    (k1 : ¬ ((f = -1 ∨ (0 ≤ f ∧ f < P 280)) ∧ (0 ≤ t ∧ t < P 280) ∧ ¬ f = t) → Φ [aI (iI (-1))] σ)
    (k2 : ((f = -1 ∨ (0 ≤ f ∧ f < P 280)) ∧ (0 ≤ t ∧ t < P 280) ∧ ¬ f = t) → ¬ (0 ≤ d ∧ d ≤ 500) → Φ [aI (iI (-2))] σ)
    (k3 : ((f = -1 ∨ (0 ≤ f ∧ f < P 280)) ∧ (0 ≤ t ∧ t < P 280) ∧ ¬ f = t) → (0 ≤ d ∧ d ≤ 500) → P 281 = 40 → Φ [aI (iI (-4))] σ)
    (k4 : ((f = -1 ∨ (0 ≤ f ∧ f < P 280)) ∧ (0 ≤ t ∧ t < P 280) ∧ ¬ f = t) → (0 ≤ d ∧ d ≤ 500) → P 281 < 40 → ∀ σ', Fr F50 σ σ' → MP 50 (pu (addW P f t d) 285 0) σ' → Φ [aI (iI (P 281))] σ') : S 166 [aR 49, aI (iI f), aI (iI t), aI (iI d)] σ Φ := by
  refine m_X9_wire hS (fun v hv hw => ?_)
  have g0 := WF_0 hW
  have A : (f = -1 ∨ (0 ≤ f ∧ f < P 280)) → vc_X9_wire_13 S Φ v (iI f) (iI t) (iI d) σ := by
    intro hf
    unfold vc_X9_wire_13
    try simp (disch := omega) only [iI_lit, iL_lit, iI_add, iI_sub, iI_mul, iI_neg, iI_lt, iI_le, iI_eq, iI_tn, iI_div, iI_l, iL_add, iL_sub, iL_mul, iL_neg, iL_le, iL_lt, iL_eq, iL_ite, vp_T, b2_ne0, b2_eq1, nn_imp, true_and, iI_ite, not_true_eq_false, not_false_eq_true, true_implies, false_implies, and_true, Int.reduceLT, Int.reduceLE, Int.reduceEq, or_false, false_or, true_or, or_true, false_and, and_false, hM _]
    refine ⟨fun a => k1 (by omega), fun a => ⟨fun b => ⟨fun c => ⟨fun e => ?_, fun e => k3 (by omega) (by omega) e⟩, fun c => k2 (by omega) (by omega)⟩, fun b => k1 (by omega)⟩⟩
    intro σ1 e1
    have m1 := MP_up e1 hM (by omega)
    have f1 : Fr F50 σ σ1 := by rw [e1]; exact Fr_up Fr_rf rfl
    intro σ2 e2
    have m2 := MP_up e2 m1 (by omega)
    have f2 : Fr F50 σ σ2 := by rw [e2]; exact Fr_up f1 rfl
    intro σ3 e3
    have m3 := MP_up e3 m2 (by omega)
    have f3 : Fr F50 σ σ3 := by rw [e3]; exact Fr_up f2 rfl
    try simp (disch := omega) only [iI_lit, iL_lit, iI_add, iI_sub, iI_mul, iI_neg, iI_lt, iI_le, iI_eq, iI_tn, iI_div, iI_l, iL_add, iL_sub, iL_mul, iL_neg, iL_le, iL_lt, iL_eq, iL_ite, vp_T, b2_ne0, b2_eq1, nn_imp, true_and, iI_ite, not_true_eq_false, not_false_eq_true, true_implies, false_implies, and_true, Int.reduceLT, Int.reduceLE, Int.reduceEq, or_false, false_or, true_or, or_true, false_and, and_false, m3 _, pu_n]
    intro σ4 e4
    have m4 := MP_up e4 m3 (by omega)
    have f4 : Fr F50 σ σ4 := by rw [e4]; exact Fr_up f3 rfl
    intro σ5 e5
    have m5 := MP_up e5 m4 (by omega)
    have f5 : Fr F50 σ σ5 := by rw [e5]; exact Fr_up f4 rfl
    try simp (disch := omega) only [iI_lit, iL_lit, iI_add, iI_sub, iI_mul, iI_neg, iI_lt, iI_le, iI_eq, iI_tn, iI_div, iI_l, iL_add, iL_sub, iL_mul, iL_neg, iL_le, iL_lt, iL_eq, iL_ite, vp_T, b2_ne0, b2_eq1, nn_imp, true_and, iI_ite, not_true_eq_false, not_false_eq_true, true_implies, false_implies, and_true, Int.reduceLT, Int.reduceLE, Int.reduceEq, or_false, false_or, true_or, or_true, false_and, and_false, m5 _, pu_n, pu_e]
    rw [show P 281 + 1 - 1 = P 281 by omega]
    exact k4 (by omega) (by omega) (by omega) σ5 f5 m5
  unfold vc_X9_wire_0
  try simp (disch := omega) only [iI_lit, iL_lit, iI_add, iI_sub, iI_mul, iI_neg, iI_lt, iI_le, iI_eq, iI_tn, iI_div, iI_l, iL_add, iL_sub, iL_mul, iL_neg, iL_le, iL_lt, iL_eq, iL_ite, vp_T, b2_ne0, b2_eq1, nn_imp, true_and, iI_ite, not_true_eq_false, not_false_eq_true, true_implies, false_implies, and_true, Int.reduceLT, Int.reduceLE, Int.reduceEq, or_false, false_or, true_or, or_true, false_and, and_false, hM _]
  exact ⟨fun a => A (Or.inl a), fun a => ⟨fun b => k1 (by omega), fun b => A (by omega)⟩⟩
theorem c_X9_cuts (hS : Sys S) (hM : MP 50 P σ) (g0 : P 281 ≤ 40) {w : Int} (h0 : 0 ≤ w) (h1 : w < P 281) (hk : ∀ σ', Fr F50 σ σ' → MP 50 (cutP P w) σ' → Φ [] σ') : S 167 [aR 49, aI (iI w)] σ Φ := by
  refine m_X9_cuts hS (fun v hv hw => ?_)
  unfold vc_X9_cuts_0
  try simp (disch := omega) only [iI_lit, iL_lit, iI_add, iI_sub, iI_mul, iI_neg, iI_lt, iI_le, iI_eq, iI_tn, iI_div, iI_l, iL_add, iL_sub, iL_mul, iL_neg, iL_le, iL_lt, iL_eq, iL_ite, vp_T, b2_ne0, b2_eq1, nn_imp, true_and, iI_ite, not_true_eq_false, not_false_eq_true, true_implies, false_implies, and_true, Int.reduceLT, Int.reduceLE, Int.reduceEq, or_false, false_or, true_or, or_true, false_and, and_false, hM _]
  intro σ1 e1
  have m1 := MP_up e1 hM (by omega)
  have f1 : Fr F50 σ σ1 := by rw [e1]; exact Fr_up Fr_rf rfl
  have L : ∀ (d : Nat) (k : Int) (σ1 : St), (160 + 3 * (P 281 - 1) - k).toNat = d → 160 + 3 * w ≤ k → k ≤ 160 + 3 * (P 281 - 1) → Fr F50 σ σ1 → MP 50 (fun i => if i = 281 then P 281 - 1 else if 160 + 3 * w ≤ i ∧ i < k then P (i + 3) else P i) σ1 → v 20 [some (aR 49), some (aI (iI w)), some (aI (iI k))] [] σ1 := by
    intro d
    induction d with
    | zero =>
      intro k σ1 hd k0 k1 hf hm
      refine w_X9_cuts_20 hS hv hw _ _ σ1 ?_
      unfold vc_X9_cuts_20
      rw [show k = 160 + 3 * (P 281 - 1) by omega] at hm ⊢
      have e : σ1.1 50 (281 : Int).toNat = iI (P 281 - 1) := (hm 281 (by omega)).trans (congrArg iI (if_pos rfl))
      try simp (disch := omega) only [iI_lit, iL_lit, iI_add, iI_sub, iI_mul, iI_neg, iI_lt, iI_le, iI_eq, iI_tn, iI_div, iI_l, iL_add, iL_sub, iL_mul, iL_neg, iL_le, iL_lt, iL_eq, iL_ite, vp_T, b2_ne0, b2_eq1, nn_imp, true_and, iI_ite, not_true_eq_false, not_false_eq_true, true_implies, false_implies, and_true, Int.reduceLT, Int.reduceLE, Int.reduceEq, or_false, false_or, true_or, or_true, false_and, and_false, e]
      refine ⟨fun _ => hk σ1 hf hm, fun a => by omega⟩
    | succ d ih =>
      intro k σ1 hd k0 k1 hf hm
      refine w_X9_cuts_20 hS hv hw _ _ σ1 ?_
      unfold vc_X9_cuts_20
      have e : σ1.1 50 (281 : Int).toNat = iI (P 281 - 1) := (hm 281 (by omega)).trans (congrArg iI (if_pos rfl))
      have e2 : σ1.1 50 (k + 3).toNat = iI (P (k + 3)) := (hm (k + 3) (by omega)).trans (congrArg iI ((if_neg (by omega)).trans (if_neg (by omega))))
      try simp (disch := omega) only [iI_lit, iL_lit, iI_add, iI_sub, iI_mul, iI_neg, iI_lt, iI_le, iI_eq, iI_tn, iI_div, iI_l, iL_add, iL_sub, iL_mul, iL_neg, iL_le, iL_lt, iL_eq, iL_ite, vp_T, b2_ne0, b2_eq1, nn_imp, true_and, iI_ite, not_true_eq_false, not_false_eq_true, true_implies, false_implies, and_true, Int.reduceLT, Int.reduceLE, Int.reduceEq, or_false, false_or, true_or, or_true, false_and, and_false, e, e2]
      refine ⟨fun _ => by omega, fun _ => ?_⟩
      intro σ2 e2
      have m2 := MP_up e2 hm (by omega)
      refine ih (k + 1) σ2 (by omega) (by omega) (by omega) (by rw [e2]; exact Fr_up hf rfl) ?_
      refine cast (congrArg (fun q => MP 50 q σ2) (funext fun i => ?_)) m2
      unfold pu
      dsimp only
      by_cases c : i = k
      · subst c
        rw [if_pos rfl, if_neg (by omega), if_pos (by omega)]
      · rw [if_neg c]
        by_cases c2 : i = 281
        · rw [if_pos c2, if_pos c2]
        · rw [if_neg c2, if_neg c2]
          by_cases c3 : 160 + 3 * w ≤ i ∧ i < k
          · rw [if_pos c3, if_pos (by omega)]
          · rw [if_neg c3, if_neg (by omega)]
  refine L _ _ σ1 rfl (by omega) (by omega) f1 ?_
  refine cast (congrArg (fun q => MP 50 q σ1) (funext fun i => ?_)) m1
  unfold pu
  by_cases c2 : i = 281
  · rw [if_pos c2, if_pos c2]
  · rw [if_neg c2, if_neg c2, if_neg (by omega)]
theorem c_X9_cut (hS : Sys S) (hM : MP 50 P σ) (hW : WF P) {w : Int} (r1 : -2147483648 ≤ w ∧ w < 2147483648) (k1 : ¬ (0 ≤ w ∧ w < P 281) → Φ [aI (iI (-1))] σ) (k2 : (0 ≤ w ∧ w < P 281) → ∀ σ', Fr F50 σ σ' → MP 50 (pu (cutP P w) 285 0) σ' → Φ [aI (iI (P 281 - 1))] σ') : S 168 [aR 49, aI (iI w)] σ Φ := by
  refine m_X9_cut hS (fun v hv hw => ?_)
  have g0 := WF_0 hW
  unfold vc_X9_cut_0
  try simp (disch := omega) only [iI_lit, iL_lit, iI_add, iI_sub, iI_mul, iI_neg, iI_lt, iI_le, iI_eq, iI_tn, iI_div, iI_l, iL_add, iL_sub, iL_mul, iL_neg, iL_le, iL_lt, iL_eq, iL_ite, vp_T, b2_ne0, b2_eq1, nn_imp, true_and, iI_ite, not_true_eq_false, not_false_eq_true, true_implies, false_implies, and_true, Int.reduceLT, Int.reduceLE, Int.reduceEq, or_false, false_or, true_or, or_true, false_and, and_false, hM _]
  refine ⟨fun a => ?_, fun a => k1 (by omega)⟩
  refine c_X9_cuts hS hM (by omega) (by omega) (by omega) (fun σ1 f1 m1 => ⟨rfl, ?_⟩)
  try simp (disch := omega) only [iI_lit, iL_lit, iI_add, iI_sub, iI_mul, iI_neg, iI_lt, iI_le, iI_eq, iI_tn, iI_div, iI_l, iL_add, iL_sub, iL_mul, iL_neg, iL_le, iL_lt, iL_eq, iL_ite, vp_T, b2_ne0, b2_eq1, nn_imp, true_and, iI_ite, not_true_eq_false, not_false_eq_true, true_implies, false_implies, and_true, Int.reduceLT, Int.reduceLE, Int.reduceEq, or_false, false_or, true_or, or_true, false_and, and_false]
  intro σ2 e2
  have m2 := MP_up e2 m1 (by omega)
  have e3 := m2 281 (by omega)
  rw [pu_n (by omega)] at e3
  unfold cutP at e3
  rw [if_pos rfl] at e3
  try simp (disch := omega) only [iI_lit, iL_lit, iI_add, iI_sub, iI_mul, iI_neg, iI_lt, iI_le, iI_eq, iI_tn, iI_div, iI_l, iL_add, iL_sub, iL_mul, iL_neg, iL_le, iL_lt, iL_eq, iL_ite, vp_T, b2_ne0, b2_eq1, nn_imp, true_and, iI_ite, not_true_eq_false, not_false_eq_true, true_implies, false_implies, and_true, Int.reduceLT, Int.reduceLE, Int.reduceEq, or_false, false_or, true_or, or_true, false_and, and_false, e3]
  exact k2 (by omega) σ2 (by rw [e2]; exact Fr_up f1 rfl) m2
theorem c_X9_rule (hS : Sys S) (hM : MP 50 P σ) (hW : WF P) {what x : Int} (r1 : -2147483648 ≤ what ∧ what < 2147483648) (r2 : -2147483648 ≤ x ∧ x < 2147483648)
    (k1 : ¬ (0 ≤ what ∧ what < 3) → Φ [aI (iI (-1))] σ) (k2 : (0 ≤ what ∧ what < 3) → ¬ okR what x → Φ [aI (iI (-2))] σ)
    (k3 : (0 ≤ what ∧ what < 3) → okR what x → ∀ σ', Fr F50 σ σ' → MP 50 (pu (pu P (282 + what) x) 285 0) σ' → Φ [aI (iI (P (282 + what)))] σ') : S 169 [aR 49, aI (iI what), aI (iI x)] σ Φ := by
  refine m_X9_rule hS (fun v hv hw => ?_)
  have g0 := WF_0 hW
  have G : ∀ lo hi : Int, (0 ≤ what ∧ what < 3) → (-100000 ≤ lo ∧ lo ≤ 100000) → (-100000 ≤ hi ∧ hi ≤ 100000) → (okR what x ↔ lo ≤ x ∧ x ≤ hi) → vc_X9_rule_42 S Φ v (iI what) (iI x) (iL hi) (iL lo) (iL x) σ := by
    intro lo hi hh q1 q2 hb
    unfold vc_X9_rule_42
    try simp (disch := omega) only [iI_lit, iL_lit, iI_add, iI_sub, iI_mul, iI_neg, iI_lt, iI_le, iI_eq, iI_tn, iI_div, iI_l, iL_add, iL_sub, iL_mul, iL_neg, iL_le, iL_lt, iL_eq, iL_ite, vp_T, b2_ne0, b2_eq1, nn_imp, true_and, iI_ite, not_true_eq_false, not_false_eq_true, true_implies, false_implies, and_true, Int.reduceLT, Int.reduceLE, Int.reduceEq, or_false, false_or, true_or, or_true, false_and, and_false, hM _]
    refine ⟨fun a => ?_, fun a => k2 hh (fun q => a (hb.mp q))⟩
    intro σ1 e1 σ2 e2
    have m1 := MP_up e1 hM (by omega)
    have m2 := MP_up e2 m1 (by omega)
    exact k3 hh (hb.mpr a) σ2 (by rw [e2, e1]; exact Fr_up (Fr_up Fr_rf rfl) rfl) m2
  unfold vc_X9_rule_0 vc_X9_rule_28
  unfold okR at G
  try simp (disch := omega) only [iI_lit, iL_lit, iI_add, iI_sub, iI_mul, iI_neg, iI_lt, iI_le, iI_eq, iI_tn, iI_div, iI_l, iL_add, iL_sub, iL_mul, iL_neg, iL_le, iL_lt, iL_eq, iL_ite, vp_T, b2_ne0, b2_eq1, nn_imp, true_and, iI_ite, not_true_eq_false, not_false_eq_true, true_implies, false_implies, and_true, Int.reduceLT, Int.reduceLE, Int.reduceEq, or_false, false_or, true_or, or_true, false_and, and_false, hM _]
  exact ⟨fun a => ⟨fun b => ⟨fun c => G _ _ (by omega) (by omega) (by omega) (by omega), fun c => G _ _ (by omega) (by omega) (by omega) (by omega)⟩, fun b => ⟨fun c => G _ _ (by omega) (by omega) (by omega) (by omega), fun c => G _ _ (by omega) (by omega) (by omega) (by omega)⟩⟩, fun a => k1 (by omega)⟩
theorem c_X9_copies (hS : Sys S) {a d : Nat} (h_a : isArr 1 a 286) (h_d : isArr 1 d 286) (hn : ¬ a = d) (hM : MP a P σ) (hk : ∀ σ', Fr (fun k _ => k = d) σ σ' → MP d P σ' → Φ [] σ') : S 146 [aR a, aR d] σ Φ := by
  refine m_X9_copies hS h_a h_d (fun v hv hw => ?_)
  unfold vc_X9_copies_0
  have L : ∀ (n : Nat) (k : Int) (σ1 : St), (286 - k).toNat = n → 0 ≤ k → k ≤ 286 → Fr (fun k _ => k = d) σ σ1 → (∀ i : Int, 0 ≤ i ∧ i < k → σ1.1 d i.toNat = iI (P i)) → v 2 [some (aR a), some (aR d), some (aI (iI k))] [] σ1 := by
    intro n
    induction n with
    | zero =>
      intro k σ1 hd k0 k1 hf hm
      refine w_X9_copies_2 hS hv hw a d h_a h_d _ σ1 ?_
      unfold vc_X9_copies_2
      try simp (disch := omega) only [iI_lit, iL_lit, iI_add, iI_sub, iI_mul, iI_neg, iI_lt, iI_le, iI_eq, iI_tn, iI_div, iI_l, iL_add, iL_sub, iL_mul, iL_neg, iL_le, iL_lt, iL_eq, iL_ite, vp_T, b2_ne0, b2_eq1, nn_imp, true_and, iI_ite, not_true_eq_false, not_false_eq_true, true_implies, false_implies, and_true, Int.reduceLT, Int.reduceLE, Int.reduceEq, or_false, false_or, true_or, or_true, false_and, and_false]
      refine ⟨fun _ => hk σ1 hf (fun i hi => hm i (by omega)), fun c => by omega⟩
    | succ n ih =>
      intro k σ1 hd k0 k1 hf hm
      refine w_X9_copies_2 hS hv hw a d h_a h_d _ σ1 ?_
      unfold vc_X9_copies_2
      have e : σ1.1 a k.toNat = iI (P k) := by rw [hf.1 a _ hn]; exact hM k (by omega)
      try simp (disch := omega) only [iI_lit, iL_lit, iI_add, iI_sub, iI_mul, iI_neg, iI_lt, iI_le, iI_eq, iI_tn, iI_div, iI_l, iL_add, iL_sub, iL_mul, iL_neg, iL_le, iL_lt, iL_eq, iL_ite, vp_T, b2_ne0, b2_eq1, nn_imp, true_and, iI_ite, not_true_eq_false, not_false_eq_true, true_implies, false_implies, and_true, Int.reduceLT, Int.reduceLE, Int.reduceEq, or_false, false_or, true_or, or_true, false_and, and_false, e]
      refine ⟨fun c => by omega, fun _ σ2 e2 => ih (k + 1) σ2 (by omega) (by omega) (by omega) (by rw [e2]; exact Fr_up hf rfl) (fun i hi => ?_)⟩
      rw [e2]
      by_cases c : i = k
      · subst c; exact up_h rfl
      · rw [up_m (by omega)]; exact hm i (by omega)
  rw [iI_lit]
  exact L _ 0 σ rfl (by omega) (by omega) Fr_rf (fun i hi => by omega)
theorem c_X9_drop (hS : Sys S) (hM : MP 50 P σ) (hW : WF P) (k1 : P 280 = 0 → Φ [aI (iI (-3))] σ) (k2 : 0 < P 280 → ∀ σ', Fr F50 σ σ' → MP 50 (pu (dropP P) 285 0) σ' → Φ [aI (iI (P 280 - 1))] σ') : S 170 [aR 49] σ Φ := by
  refine m_X9_drop hS (fun v hv hw => ?_)
  have g0 := WF_0 hW
  unfold vc_X9_drop_0
  try simp (disch := omega) only [iI_lit, iL_lit, iI_add, iI_sub, iI_mul, iI_neg, iI_lt, iI_le, iI_eq, iI_tn, iI_div, iI_l, iL_add, iL_sub, iL_mul, iL_neg, iL_le, iL_lt, iL_eq, iL_ite, vp_T, b2_ne0, b2_eq1, nn_imp, true_and, iI_ite, not_true_eq_false, not_false_eq_true, true_implies, false_implies, and_true, Int.reduceLT, Int.reduceLE, Int.reduceEq, or_false, false_or, true_or, or_true, false_and, and_false, hM _]
  refine ⟨fun a σ1 e1 => ?_, fun a => k1 a⟩
  have m1 := MP_up e1 hM (by omega)
  have f1 : Fr F50 σ σ1 := by rw [e1]; exact Fr_up Fr_rf rfl
  try simp (disch := omega) only [iI_lit, iL_lit, iI_add, iI_sub, iI_mul, iI_neg, iI_lt, iI_le, iI_eq, iI_tn, iI_div, iI_l, iL_add, iL_sub, iL_mul, iL_neg, iL_le, iL_lt, iL_eq, iL_ite, vp_T, b2_ne0, b2_eq1, nn_imp, true_and, iI_ite, not_true_eq_false, not_false_eq_true, true_implies, false_implies, and_true, Int.reduceLT, Int.reduceLE, Int.reduceEq, or_false, false_or, true_or, or_true, false_and, and_false, m1 _, pu_n]
  have L : ∀ (n : Nat) (Q : Pl) (σ1 : St), Fr F50 σ σ1 → MP 50 Q σ1 → (Q 280 = P 280 - 1) → ((n : Int) ≤ Q 281 ∧ Q 281 ≤ 40) → (∀ w, 0 ≤ w → w < Q 281 → (-1 ≤ Q (160 + 3 * w) ∧ Q (160 + 3 * w) ≤ 20) ∧ (0 ≤ Q (160 + 3 * w + 1) ∧ Q (160 + 3 * w + 1) ≤ 20)) → dropN Q n = dropP P → v 37 [some (aR 49), some (aI (iI ((n : Int) - 1)))] [] σ1 := by
    intro n
    induction n with
    | zero =>
      intro Q σ1 hf hm hq hw1 hr he
      refine w_X9_drop_37 hS hv hw _ σ1 ?_
      unfold vc_X9_drop_37
      have he : Q = dropP P := he
      subst he
      try simp (disch := omega) only [iI_lit, iL_lit, iI_add, iI_sub, iI_mul, iI_neg, iI_lt, iI_le, iI_eq, iI_tn, iI_div, iI_l, iL_add, iL_sub, iL_mul, iL_neg, iL_le, iL_lt, iL_eq, iL_ite, vp_T, b2_ne0, b2_eq1, nn_imp, true_and, iI_ite, not_true_eq_false, not_false_eq_true, true_implies, false_implies, and_true, Int.reduceLT, Int.reduceLE, Int.reduceEq, or_false, false_or, true_or, or_true, false_and, and_false, hm _]
      refine ⟨fun _ σ2 e2 => ?_, fun c => by omega⟩
      have m2 := MP_up e2 hm (by omega)
      have e3 := m2 280 (by omega)
      rw [pu_n (by omega), hq] at e3
      try simp (disch := omega) only [iI_lit, iL_lit, iI_add, iI_sub, iI_mul, iI_neg, iI_lt, iI_le, iI_eq, iI_tn, iI_div, iI_l, iL_add, iL_sub, iL_mul, iL_neg, iL_le, iL_lt, iL_eq, iL_ite, vp_T, b2_ne0, b2_eq1, nn_imp, true_and, iI_ite, not_true_eq_false, not_false_eq_true, true_implies, false_implies, and_true, Int.reduceLT, Int.reduceLE, Int.reduceEq, or_false, false_or, true_or, or_true, false_and, and_false, e3]
      exact k2 (by omega) σ2 (by rw [e2]; exact Fr_up hf rfl) m2
    | succ n ih =>
      intro Q σ1 hf hm hq hw1 hr he
      refine w_X9_drop_37 hS hv hw _ σ1 ?_
      unfold vc_X9_drop_37
      have hz : ((n + 1 : Nat) : Int) - 1 = (n : Int) := by omega
      rw [hz]
      have rn := hr n (by omega) (by omega)
      have m0 : σ1.1 50 (160 + 3 * (n : Int) + 0).toNat = iI (Q (160 + 3 * (n : Int))) := by rw [hm _ (by omega), Int.add_zero]
      have he' : (if Q (160 + 3 * (n : Int)) = Q 280 ∨ Q (160 + 3 * (n : Int) + 1) = Q 280 then dropN (cutP Q n) n else dropN Q n) = dropP P := he
      have N : (¬ (Q (160 + 3 * (n : Int)) = Q 280 ∨ Q (160 + 3 * (n : Int) + 1) = Q 280)) → v 37 [some (aR 49), some (aI (iI ((n : Int) + -1)))] [] σ1 := by
        intro c
        rw [if_neg c] at he'
        exact ih Q σ1 hf hm hq (by omega) hr he'
      have Y : (Q (160 + 3 * (n : Int)) = Q 280 ∨ Q (160 + 3 * (n : Int) + 1) = Q 280) → S 167 [aR 49, aI (iI n)] σ1 (fun r σ3 => r = [] ∧ (v 37 [some (aR 49), some (aI (iI ((n : Int) + -1)))] [] σ3)) := by
        intro c
        rw [if_pos c] at he'
        refine c_X9_cuts hS hm (by omega) (by omega) (by omega) (fun σ3 f3 m3 => ⟨rfl, ?_⟩)
        have d0 : cutP Q n 280 = Q 280 := by unfold cutP; rw [if_neg (by omega), if_neg (by omega)]
        have d1 : cutP Q n 281 = Q 281 - 1 := by unfold cutP; rw [if_pos rfl]
        refine ih (cutP Q n) σ3 (Fr_tr hf f3) m3 (by omega) (by omega) (fun w h0 h1 => ?_) he'
        rw [d1] at h1
        by_cases q : w < n
        · have := hr w h0 (by omega)
          unfold cutP
          rw [if_neg (by omega), if_neg (by omega), if_neg (by omega), if_neg (by omega)]
          exact this
        · have := hr (w + 1) (by omega) (by omega)
          unfold cutP
          rw [if_neg (by omega), if_pos (by omega), if_neg (by omega), if_pos (by omega)]
          rw [show 160 + 3 * (w + 1) = 160 + 3 * w + 3 by omega] at this
          rw [show 160 + 3 * w + 1 + 3 = 160 + 3 * w + 3 + 1 by omega]
          exact this
      try simp (disch := omega) only [iI_lit, iL_lit, iI_add, iI_sub, iI_mul, iI_neg, iI_lt, iI_le, iI_eq, iI_tn, iI_div, iI_l, iL_add, iL_sub, iL_mul, iL_neg, iL_le, iL_lt, iL_eq, iL_ite, vp_T, b2_ne0, b2_eq1, nn_imp, true_and, iI_ite, not_true_eq_false, not_false_eq_true, true_implies, false_implies, and_true, Int.reduceLT, Int.reduceLE, Int.reduceEq, or_false, false_or, true_or, or_true, false_and, and_false, m0, hm _]
      refine ⟨fun c => by omega, fun _ => ⟨fun c => Y (Or.inl c), fun c => ⟨fun c2 => N (by omega), fun c2 => Y (Or.inr c2)⟩⟩⟩
  have e0 : P 281 - 1 = (((P 281).toNat : Nat) : Int) - 1 := by omega
  rw [e0]
  refine L _ _ σ1 f1 m1 (pu_e rfl) (by simp (disch := omega) only [pu_e, pu_n, ]; omega) (fun w h0 h1 => ?_) rfl
  rw [pu_n (by omega)] at h1
  have := WF_w hW h0 h1
  simp (disch := omega) only [pu_e, pu_n, ]
  omega
end C18b
