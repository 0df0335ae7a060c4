theorem vp_T {z : Int} {N : Nat} (h : (0 ≤ z ∧ z < (N : Int)) ∧ z < 2147483648) : vp_in (iI z) N = True := by
  exact eq_true ((vp_iI (by omega)).mpr h.1)
/-- a pattern, as the reference holds it: 8 numbers a hole, from 160 on 3 a wire, 280 holes, 281 wires, 282 the rules, 285 the clock -/
abbrev Pl : Type := Int → Int
def MP (m : Nat) (P : Pl) (σ : St) : Prop := ∀ i : Int, 0 ≤ i ∧ i < 286 → σ.1 m i.toNat = iI (P i)
def WF (P : Pl) : Prop := ((0 ≤ P 280 ∧ P 280 ≤ 20) ∧ (0 ≤ P 281 ∧ P 281 ≤ 40) ∧ (1 ≤ P 282 ∧ P 282 ≤ 99) ∧ (1 ≤ P 283 ∧ P 283 ≤ 9999) ∧ (5 ≤ P 284 ∧ P 284 ≤ 99) ∧ (0 ≤ P 285 ∧ P 285 ≤ 40))
  ∧ (∀ h, 0 ≤ h → h < P 280 → (0 ≤ P (8 * h) ∧ P (8 * h) ≤ 4) ∧ (0 ≤ P (8 * h + 1) ∧ P (8 * h + 1) ≤ 9) ∧ (0 ≤ P (8 * h + 2) ∧ P (8 * h + 2) ≤ 5) ∧ (1 ≤ P (8 * h + 3) ∧ P (8 * h + 3) ≤ 99) ∧ (1 ≤ P (8 * h + 4) ∧ P (8 * h + 4) ≤ 20) ∧ (0 ≤ P (8 * h + 5) ∧ P (8 * h + 5) ≤ 999) ∧ (0 ≤ P (8 * h + 6) ∧ P (8 * h + 6) ≤ 1) ∧ (0 ≤ P (8 * h + 7) ∧ P (8 * h + 7) ≤ 999999999))
  ∧ (∀ w, 0 ≤ w → w < P 281 → (-1 ≤ P (160 + 3 * w) ∧ P (160 + 3 * w) < P 280) ∧ (0 ≤ P (160 + 3 * w + 1) ∧ P (160 + 3 * w + 1) < P 280) ∧ (0 ≤ P (160 + 3 * w + 2) ∧ P (160 + 3 * w + 2) ≤ 500))
  ∧ (∀ g h, 0 ≤ g → g < h → h < P 280 → P (8 * g) = P (8 * h) → ¬ P (8 * g + 1) = P (8 * h + 1))
theorem WF_0 {P : Pl} (h : WF P) : (0 ≤ P 280 ∧ P 280 ≤ 20) ∧ (0 ≤ P 281 ∧ P 281 ≤ 40) ∧ (1 ≤ P 282 ∧ P 282 ≤ 99) ∧ (1 ≤ P 283 ∧ P 283 ≤ 9999) ∧ (5 ≤ P 284 ∧ P 284 ≤ 99) ∧ (0 ≤ P 285 ∧ P 285 ≤ 40) := h.1
theorem WF_h {P : Pl} (hW : WF P) {h : Int} (h0 : 0 ≤ h) (h1 : h < P 280) : (0 ≤ P (8 * h) ∧ P (8 * h) ≤ 4) ∧ (0 ≤ P (8 * h + 1) ∧ P (8 * h + 1) ≤ 9) ∧ (0 ≤ P (8 * h + 2) ∧ P (8 * h + 2) ≤ 5) ∧ (1 ≤ P (8 * h + 3) ∧ P (8 * h + 3) ≤ 99) ∧ (1 ≤ P (8 * h + 4) ∧ P (8 * h + 4) ≤ 20) ∧ (0 ≤ P (8 * h + 5) ∧ P (8 * h + 5) ≤ 999) ∧ (0 ≤ P (8 * h + 6) ∧ P (8 * h + 6) ≤ 1) ∧ (0 ≤ P (8 * h + 7) ∧ P (8 * h + 7) ≤ 999999999) := hW.2.1 h h0 h1
theorem WF_w {P : Pl} (hW : WF P) {w : Int} (h0 : 0 ≤ w) (h1 : w < P 281) : (-1 ≤ P (160 + 3 * w) ∧ P (160 + 3 * w) < P 280) ∧ (0 ≤ P (160 + 3 * w + 1) ∧ P (160 + 3 * w + 1) < P 280) ∧ (0 ≤ P (160 + 3 * w + 2) ∧ P (160 + 3 * w + 2) ≤ 500) := hW.2.2.1 w h0 h1
theorem WF_d {P : Pl} (hW : WF P) {g h : Int} (h0 : 0 ≤ g) (h1 : 0 ≤ h) (h2 : g < P 280) (h3 : h < P 280) (e : P (8 * g) = P (8 * h)) (e2 : P (8 * g + 1) = P (8 * h + 1)) : g = h := by
  rcases Int.lt_trichotomy g h with q | q | q
  · exact absurd e2 (hW.2.2.2 g h h0 q h3 e)
  · exact q
  · exact absurd e2.symm (hW.2.2.2 h g h1 q h2 e.symm)
/-- k is ahead of h -/
def ahd (P : Pl) (h k : Int) : Bool := decide (¬ P (8 * k + 2) = 5 ∧ P (8 * k) = P (8 * h) - 1 ∧ -2 < P (8 * k + 1) - P (8 * h + 1) ∧ P (8 * k + 1) - P (8 * h + 1) < 2)
/-- the class's pattern at a place -/
def CP (p : Nat) (P : Pl) (σ : St) : Prop := (σ.1 p 3 = iI (P 280) ∧ σ.1 p 4 = iI (P 281) ∧ σ.1 p 5 = iI (P 285))
  ∧ (∀ k : Int, 0 ≤ k ∧ k < 3 → σ.1 (p + 3) k.toNat = iI (P (282 + k)))
  ∧ (∀ h k : Int, (0 ≤ h ∧ h < P 280) ∧ 0 ≤ k ∧ k < 8 → σ.1 (p + 1) (h * 9 + k).toNat = iI (P (8 * h + k)))
  ∧ (∀ h : Int, 0 ≤ h ∧ h < P 280 → σ.1 (p + 1) (h * 9 + 8).toNat = bm (ahd P h) (P 280))
  ∧ (∀ w k : Int, (0 ≤ w ∧ w < P 281) ∧ 0 ≤ k ∧ k < 3 → σ.1 (p + 2) (w * 3 + k).toNat = iI (P (160 + 3 * w + k)))
theorem CP_n {p : Nat} {P : Pl} {σ : St} (h : CP p P σ) : σ.1 p 3 = iI (P 280) := h.1.1
theorem CP_w {p : Nat} {P : Pl} {σ : St} (h : CP p P σ) : σ.1 p 4 = iI (P 281) := h.1.2.1
theorem CP_c {p : Nat} {P : Pl} {σ : St} (h : CP p P σ) : σ.1 p 5 = iI (P 285) := h.1.2.2
theorem CP_r {p : Nat} {P : Pl} {σ : St} (h : CP p P σ) : ∀ {k : Int}, 0 ≤ k ∧ k < 3 → σ.1 (p + 3) k.toNat = iI (P (282 + k)) := fun {k} => h.2.1 k
theorem CP_m {p : Nat} {P : Pl} {σ : St} (h : CP p P σ) : ∀ {h k : Int}, (0 ≤ h ∧ h < P 280) ∧ 0 ≤ k ∧ k < 8 → σ.1 (p + 1) (h * 9 + k).toNat = iI (P (8 * h + k)) := fun {a k} => h.2.2.1 a k
theorem CP_a {p : Nat} {P : Pl} {σ : St} (h : CP p P σ) : ∀ {h : Int}, 0 ≤ h ∧ h < P 280 → σ.1 (p + 1) (h * 9 + 8).toNat = bm (ahd P h) (P 280) := fun {a} => h.2.2.2.1 a
theorem CP_v {p : Nat} {P : Pl} {σ : St} (h : CP p P σ) : ∀ {w k : Int}, (0 ≤ w ∧ w < P 281) ∧ 0 ≤ k ∧ k < 3 → σ.1 (p + 2) (w * 3 + k).toNat = iI (P (160 + 3 * w + k)) := fun {a k} => h.2.2.2.2 a k
/-! what the kinds say -/
def kfl (k c : Int) : Int := if k = 0 then c else if k = 1 then c / 2 + 1 else if k = 2 then (c + 1) / 2 else if k = 3 then 2 * ((c + 1) / 2) else if k = 4 then (if c / 2 + 1 ≤ 9 then c / 2 + 1 else 9) else 0
def ksl (k c : Int) : Int := if k = 2 then c / 2 else if k = 3 then 2 * (c / 2) else 0
def knd (k b : Int) : Int := if k = 1 then 2 * b - 1 else if k = 3 then 3 * b else if k = 4 then 3 * b else if k = 5 then 0 else 2 * b
def krk (k b : Int) : Int := if k = 5 then 0 else if k = 2 then 5 * b else if k = 3 then 5 * b else 4 * b
def und (k o : Int) : Bool := decide (o = 0 ∨ k = o ∨ (o = 1 ∧ 3 < k) ∨ (o = 2 ∧ k = 3) ∨ (o = 4 ∧ k = 5))
def m1d (row : Int) : Int := if row = 0 then 123 else 13
def m2d (kind d : Int) : Int := if 0 < kind then 100 * d + 45 else d
def m3d (kind d : Int) : Int := if kind = 3 then 10 * d + 6 else if kind = 4 ∨ kind = 5 then 10 * d + 7 else d
def m4d (kind d : Int) : Int := if kind = 5 then 10 * d + 8 else d
def m5d (kind b d : Int) : Int := if kind = 5 ∧ b = 1 then 10 * d + 9 else d
def made (row kind b : Int) : Int := m5d kind b (m4d kind (m3d kind (m2d kind (m1d row))))
def fl (P : Pl) (h : Int) : Int := kfl (P (8 * h + 2)) (P (8 * h + 3))
def sl (P : Pl) (h : Int) : Int := ksl (P (8 * h + 2)) (P (8 * h + 3))
def nd (P : Pl) (h : Int) : Int := knd (P (8 * h + 2)) (P (8 * h + 4))
def rk (P : Pl) (h : Int) : Int := krk (P (8 * h + 2)) (P (8 * h + 4))
theorem kfl_r {k c : Int} (h : 1 ≤ c ∧ c ≤ 99) : 0 ≤ kfl k c ∧ kfl k c ≤ 100 := by unfold kfl; (repeat' split) <;> omega
theorem ksl_r {k c : Int} (h : 1 ≤ c ∧ c ≤ 99) : 0 ≤ ksl k c ∧ ksl k c ≤ 98 := by unfold ksl; (repeat' split) <;> omega
theorem knd_r {k b : Int} (h : 1 ≤ b ∧ b ≤ 20) : 0 ≤ knd k b ∧ knd k b ≤ 60 := by unfold knd; (repeat' split) <;> omega
theorem krk_r {k b : Int} (h : 1 ≤ b ∧ b ≤ 20) : 0 ≤ krk k b ∧ krk k b ≤ 100 := by unfold krk; (repeat' split) <;> omega
theorem fl_r {P : Pl} (hW : WF P) {h : Int} (h0 : 0 ≤ h) (h1 : h < P 280) : 0 ≤ fl P h ∧ fl P h ≤ 100 := kfl_r (WF_h hW h0 h1).2.2.2.1
theorem sl_r {P : Pl} (hW : WF P) {h : Int} (h0 : 0 ≤ h) (h1 : h < P 280) : 0 ≤ sl P h ∧ sl P h ≤ 98 := ksl_r (WF_h hW h0 h1).2.2.2.1
theorem nd_r {P : Pl} (hW : WF P) {h : Int} (h0 : 0 ≤ h) (h1 : h < P 280) : 0 ≤ nd P h ∧ nd P h ≤ 60 := knd_r (WF_h hW h0 h1).2.2.2.2.1
theorem rk_r {P : Pl} (hW : WF P) {h : Int} (h0 : 0 ≤ h) (h1 : h < P 280) : 0 ≤ rk P h ∧ rk P h ≤ 100 := krk_r (WF_h hW h0 h1).2.2.2.2.1
theorem kFirst_i {k c : Int} (hk : 0 ≤ k ∧ k ≤ 5) (h : 1 ≤ c ∧ c ≤ 99) : kFirst (iI k) (iI c) = iI (kfl k c) := by
  unfold kFirst kfl
  try simp (disch := omega) only [iI_lit, iL_lit, iI_add, iI_sub, iI_mul, iI_neg, iI_lt, iI_le, iI_eq, iI_tn, iI_div, iI_l, iL_add, iL_sub, iL_mul, iL_neg, iL_le, iL_lt, iL_eq, iL_ite, vp_T, b2_ne0, b2_eq1, nn_imp, true_and, iI_ite, not_true_eq_false, not_false_eq_true, true_implies, false_implies, and_true, Int.reduceLT, Int.reduceLE, Int.reduceEq, or_false, false_or, true_or, or_true, false_and, and_false]
  congr 1
  (repeat' split) <;> omega
theorem kSecond_i {k c : Int} (hk : 0 ≤ k ∧ k ≤ 5) (h : 1 ≤ c ∧ c ≤ 99) : kSecond (iI k) (iI c) = iI (ksl k c) := by
  unfold kSecond ksl
  try simp (disch := omega) only [iI_lit, iL_lit, iI_add, iI_sub, iI_mul, iI_neg, iI_lt, iI_le, iI_eq, iI_tn, iI_div, iI_l, iL_add, iL_sub, iL_mul, iL_neg, iL_le, iL_lt, iL_eq, iL_ite, vp_T, b2_ne0, b2_eq1, nn_imp, true_and, iI_ite, not_true_eq_false, not_false_eq_true, true_implies, false_implies, and_true, Int.reduceLT, Int.reduceLE, Int.reduceEq, or_false, false_or, true_or, or_true, false_and, and_false]
  congr 1
  (repeat' split) <;> omega
theorem kNeeds_i {k b : Int} (hk : 0 ≤ k ∧ k ≤ 5) (h : 1 ≤ b ∧ b ≤ 20) : kNeeds (iI k) (iI b) = iI (knd k b) := by
  unfold kNeeds knd
  try simp (disch := omega) only [iI_lit, iL_lit, iI_add, iI_sub, iI_mul, iI_neg, iI_lt, iI_le, iI_eq, iI_tn, iI_div, iI_l, iL_add, iL_sub, iL_mul, iL_neg, iL_le, iL_lt, iL_eq, iL_ite, vp_T, b2_ne0, b2_eq1, nn_imp, true_and, iI_ite, not_true_eq_false, not_false_eq_true, true_implies, false_implies, and_true, Int.reduceLT, Int.reduceLE, Int.reduceEq, or_false, false_or, true_or, or_true, false_and, and_false]
  (repeat' split) <;> omega
theorem bitO_i {h : Int} (hh : 0 ≤ h ∧ h < 20) : bitO (iI h) = iI 1 <<< (iI h &&& iI 31) := by
  unfold bitO
  try simp (disch := omega) only [iI_lit, iL_lit, iI_add, iI_sub, iI_mul, iI_neg, iI_lt, iI_le, iI_eq, iI_tn, iI_div, iI_l, iL_add, iL_sub, iL_mul, iL_neg, iL_le, iL_lt, iL_eq, iL_ite, vp_T, b2_ne0, b2_eq1, nn_imp, true_and, iI_ite, not_true_eq_false, not_false_eq_true, true_implies, false_implies, and_true, Int.reduceLT, Int.reduceLE, Int.reduceEq, or_false, false_or, true_or, or_true, false_and, and_false]
  rw [if_neg (by omega), if_neg (by omega)]
theorem hb_i {s : Int32} {h : Int} (hh : 0 ≤ h ∧ h < 20) : (¬ iI h < iI 0 ∧ ¬ iI 20 ≤ iI h ∧ ¬ (s >>> (iI h &&& iI 31)) &&& iI 1 = iI 0) ↔ bs s h = true := by
  rw [bs_0 (by omega), iI_lt (by omega), iI_le (by omega)]
  constructor
  · intro q; exact Bool.of_not_eq_false q.2.2
  · intro q; exact ⟨by omega, by omega, by rw [q]; decide⟩
section C16
variable {S : Sp} {σ : St} {Φ : Rs} {P : Pl}
theorem c_X9_firstLoad (hS : Sys S) (hM : MP 50 P σ) (hW : WF P) {h : Int} (h0 : 0 ≤ h) (h1 : h < P 280) (hk : Φ [aI (iI (fl P h))] σ) : S 154 [aR 49, aI (iI h)] σ Φ := by
  refine m_X9_firstLoad hS (fun v _ _ => ?_)
  unfold vc_X9_firstLoad_0
  have g := WF_h hW h0 h1
  have g0 := WF_0 hW
  unfold fl kfl at hk
  try simp (disch := omega) only [iI_lit, iL_lit, iI_add, iI_sub, iI_mul, iI_neg, iI_lt, iI_le, iI_eq, iI_tn, iI_div, iI_l, iL_add, iL_sub, iL_mul, iL_neg, iL_le, iL_lt, iL_eq, iL_ite, vp_T, b2_ne0, b2_eq1, nn_imp, true_and, iI_ite, not_true_eq_false, not_false_eq_true, true_implies, false_implies, and_true, Int.reduceLT, Int.reduceLE, Int.reduceEq, or_false, false_or, true_or, or_true, false_and, and_false, hM _]
  refine ⟨fun a => ?_, fun a => ⟨fun b => ?_, fun b => ⟨fun d => ?_, fun d => ⟨fun e => ?_, fun e => ⟨fun f => ?_, fun f => ?_⟩⟩⟩⟩⟩
  · rw [if_pos a] at hk; exact hk
  · rw [if_neg a, if_pos b] at hk; exact hk
  · rw [if_neg a, if_neg b, if_pos d] at hk; exact hk
  · rw [if_neg a, if_neg b, if_neg d, if_pos e] at hk; exact hk
  · rw [if_neg a, if_neg b, if_neg d, if_neg e, if_pos f] at hk; exact hk
  · rw [if_neg a, if_neg b, if_neg d, if_neg e, if_neg f] at hk; exact hk
theorem c_X9_secondLoad (hS : Sys S) (hM : MP 50 P σ) (hW : WF P) {h : Int} (h0 : 0 ≤ h) (h1 : h < P 280) (hk : Φ [aI (iI (sl P h))] σ) : S 155 [aR 49, aI (iI h)] σ Φ := by
  refine m_X9_secondLoad hS (fun v _ _ => ?_)
  unfold vc_X9_secondLoad_0
  have g := WF_h hW h0 h1
  have g0 := WF_0 hW
  unfold sl ksl at hk
  try simp (disch := omega) only [iI_lit, iL_lit, iI_add, iI_sub, iI_mul, iI_neg, iI_lt, iI_le, iI_eq, iI_tn, iI_div, iI_l, iL_add, iL_sub, iL_mul, iL_neg, iL_le, iL_lt, iL_eq, iL_ite, vp_T, b2_ne0, b2_eq1, nn_imp, true_and, iI_ite, not_true_eq_false, not_false_eq_true, true_implies, false_implies, and_true, Int.reduceLT, Int.reduceLE, Int.reduceEq, or_false, false_or, true_or, or_true, false_and, and_false, hM _]
  refine ⟨fun a => ⟨fun b => ?_, fun b => ?_⟩, fun a => ?_⟩
  · rw [if_neg a, if_neg b] at hk; exact hk
  · rw [if_neg a, if_pos b] at hk; exact hk
  · rw [if_pos a] at hk; exact hk
theorem c_X9_loadsOf (hS : Sys S) (hM : MP 50 P σ) (hW : WF P) {h : Int} (h0 : 0 ≤ h) (h1 : h < P 280) (hk : Φ [aI (iI (fl P h + sl P h))] σ) : S 156 [aR 49, aI (iI h)] σ Φ := by
  refine m_X9_loadsOf hS (fun v _ _ => ?_)
  refine c_X9_firstLoad hS hM hW h0 h1 ⟨_, rfl, c_X9_secondLoad hS hM hW h0 h1 ⟨_, rfl, ?_⟩⟩
  rw [iI_add]; exact hk
theorem c_X9_rockOf (hS : Sys S) (hM : MP 50 P σ) (hW : WF P) {h : Int} (h0 : 0 ≤ h) (h1 : h < P 280) (hk : Φ [aI (iI (rk P h))] σ) : S 157 [aR 49, aI (iI h)] σ Φ := by
  refine m_X9_rockOf hS (fun v _ _ => ?_)
  unfold vc_X9_rockOf_0 vc_X9_rockOf_26 vc_X9_rockOf_31
  have g := WF_h hW h0 h1
  have g0 := WF_0 hW
  unfold rk krk at hk
  try simp (disch := omega) only [iI_lit, iL_lit, iI_add, iI_sub, iI_mul, iI_neg, iI_lt, iI_le, iI_eq, iI_tn, iI_div, iI_l, iL_add, iL_sub, iL_mul, iL_neg, iL_le, iL_lt, iL_eq, iL_ite, vp_T, b2_ne0, b2_eq1, nn_imp, true_and, iI_ite, not_true_eq_false, not_false_eq_true, true_implies, false_implies, and_true, Int.reduceLT, Int.reduceLE, Int.reduceEq, or_false, false_or, true_or, or_true, false_and, and_false, hM _]
  refine ⟨fun a => ⟨fun b => ?_, fun b => ⟨fun d => ?_, fun d => ?_⟩⟩, fun a => ?_⟩
  · rw [if_neg a, if_pos b] at hk; exact hk
  · rw [if_neg a, if_neg b, if_neg d] at hk; exact hk
  · rw [if_neg a, if_neg b, if_pos d] at hk; exact hk
  · rw [if_pos a] at hk; exact hk
theorem c_X9_needsOf (hS : Sys S) (hM : MP 50 P σ) (hW : WF P) {h : Int} (h0 : 0 ≤ h) (h1 : h < P 280) (hk : Φ [aI (iI (nd P h))] σ) : S 158 [aR 49, aI (iI h)] σ Φ := by
  refine m_X9_needsOf hS (fun v _ _ => ?_)
  unfold vc_X9_needsOf_0
  have g := WF_h hW h0 h1
  have g0 := WF_0 hW
  unfold nd knd at hk
  try simp (disch := omega) only [iI_lit, iL_lit, iI_add, iI_sub, iI_mul, iI_neg, iI_lt, iI_le, iI_eq, iI_tn, iI_div, iI_l, iL_add, iL_sub, iL_mul, iL_neg, iL_le, iL_lt, iL_eq, iL_ite, vp_T, b2_ne0, b2_eq1, nn_imp, true_and, iI_ite, not_true_eq_false, not_false_eq_true, true_implies, false_implies, and_true, Int.reduceLT, Int.reduceLE, Int.reduceEq, or_false, false_or, true_or, or_true, false_and, and_false, hM _]
  refine ⟨fun a => ?_, fun a => ⟨fun b => ?_, fun b => ⟨fun d => ?_, fun d => ⟨fun e => ?_, fun e => ⟨fun f => ?_, fun f => ?_⟩⟩⟩⟩⟩
  · rw [if_pos a] at hk; exact hk
  · rw [if_neg a, if_neg (by omega), if_neg (by omega), if_neg (by omega)] at hk; exact hk
  · rw [if_neg a, if_pos d] at hk; exact hk
  · rw [if_neg a, if_neg d, if_pos e] at hk; exact hk
  · rw [if_neg a, if_neg d, if_neg e, if_pos f] at hk; exact hk
  · rw [if_neg a, if_neg d, if_neg e, if_neg f] at hk; exact hk
theorem c_X9_isUnder (hS : Sys S) {k o : Int} (h0 : 0 ≤ k ∧ k ≤ 5) (h1 : 0 ≤ o ∧ o ≤ 5) (hk : Φ [aI (b2 (und k o = true))] σ) : S 153 [aI (iI k), aI (iI o)] σ Φ := by
  refine m_X9_isUnder hS (fun v _ _ => ?_)
  unfold vc_X9_isUnder_0 vc_X9_isUnder_19 vc_X9_isUnder_29
  unfold und at hk
  simp only [decide_eq_true_eq] at hk
  have T : (o = 0 ∨ k = o ∨ (o = 1 ∧ 3 < k) ∨ (o = 2 ∧ k = 3) ∨ (o = 4 ∧ k = 5)) → Φ [aI 1] σ := fun q => by rw [b2_t q] at hk; exact hk
  have F : ¬ (o = 0 ∨ k = o ∨ (o = 1 ∧ 3 < k) ∨ (o = 2 ∧ k = 3) ∨ (o = 4 ∧ k = 5)) → Φ [aI 0] σ := fun q => by rw [b2_f q] at hk; exact hk
  try simp (disch := omega) only [iI_lit, iL_lit, iI_add, iI_sub, iI_mul, iI_neg, iI_lt, iI_le, iI_eq, iI_tn, iI_div, iI_l, iL_add, iL_sub, iL_mul, iL_neg, iL_le, iL_lt, iL_eq, iL_ite, vp_T, b2_ne0, b2_eq1, nn_imp, true_and, iI_ite, not_true_eq_false, not_false_eq_true, true_implies, false_implies, and_true, Int.reduceLT, Int.reduceLE, Int.reduceEq, or_false, false_or, true_or, or_true, false_and, and_false] at T F ⊢
  (repeat' (first | apply And.intro | intro _)) <;> first | (apply T; omega) | (apply F; omega)
theorem c_X9_madeBy (hS : Sys S) {r k b : Int} (h0 : 0 ≤ r ∧ r ≤ 4) (h1 : 0 ≤ k ∧ k ≤ 5) (h2 : 1 ≤ b ∧ b ≤ 20) (hk : Φ [aI (iI (made r k b))] σ) : S 159 [aI (iI r), aI (iI k), aI (iI b)] σ Φ := by
  refine m_X9_madeBy hS (fun v _ _ => ?_)
  have D : ∀ d : Int, Φ [aI (iI (m5d k b d))] σ → ∀ x, vc_X9_madeBy_79 S Φ v (iI r) (iI k) (iI b) x (iI d) σ := by
    intro d hd x
    unfold vc_X9_madeBy_79
    unfold m5d at hd
    try simp (disch := omega) only [iI_lit, iL_lit, iI_add, iI_sub, iI_mul, iI_neg, iI_lt, iI_le, iI_eq, iI_tn, iI_div, iI_l, iL_add, iL_sub, iL_mul, iL_neg, iL_le, iL_lt, iL_eq, iL_ite, vp_T, b2_ne0, b2_eq1, nn_imp, true_and, iI_ite, not_true_eq_false, not_false_eq_true, true_implies, false_implies, and_true, Int.reduceLT, Int.reduceLE, Int.reduceEq, or_false, false_or, true_or, or_true, false_and, and_false]
    refine ⟨fun a => ?_, fun a => ⟨fun c => ?_, fun c => ?_⟩⟩
    · rw [if_neg (by omega)] at hd; exact hd
    · rw [if_neg (by omega)] at hd; exact hd
    · rw [if_pos (by omega)] at hd; exact hd
  have C : ∀ d : Int, Φ [aI (iI (m5d k b (m4d k d)))] σ → ∀ x, vc_X9_madeBy_62 S Φ v (iI r) (iI k) (iI b) x (iI d) σ := by
    intro d hd x
    unfold vc_X9_madeBy_62
    unfold m4d at hd
    try simp (disch := omega) only [iI_lit, iL_lit, iI_add, iI_sub, iI_mul, iI_neg, iI_lt, iI_le, iI_eq, iI_tn, iI_div, iI_l, iL_add, iL_sub, iL_mul, iL_neg, iL_le, iL_lt, iL_eq, iL_ite, vp_T, b2_ne0, b2_eq1, nn_imp, true_and, iI_ite, not_true_eq_false, not_false_eq_true, true_implies, false_implies, and_true, Int.reduceLT, Int.reduceLE, Int.reduceEq, or_false, false_or, true_or, or_true, false_and, and_false]
    refine ⟨fun a => ?_, fun a => ?_⟩
    · rw [if_neg a] at hd; exact D _ hd _
    · rw [if_pos a] at hd; exact D _ hd _
  have B : ∀ d : Int, Φ [aI (iI (m5d k b (m4d k (m3d k d))))] σ → ∀ x, vc_X9_madeBy_27 S Φ v (iI r) (iI k) (iI b) x (iI d) σ := by
    intro d hd x
    unfold vc_X9_madeBy_27
    unfold m3d at hd
    try simp (disch := omega) only [iI_lit, iL_lit, iI_add, iI_sub, iI_mul, iI_neg, iI_lt, iI_le, iI_eq, iI_tn, iI_div, iI_l, iL_add, iL_sub, iL_mul, iL_neg, iL_le, iL_lt, iL_eq, iL_ite, vp_T, b2_ne0, b2_eq1, nn_imp, true_and, iI_ite, not_true_eq_false, not_false_eq_true, true_implies, false_implies, and_true, Int.reduceLT, Int.reduceLE, Int.reduceEq, or_false, false_or, true_or, or_true, false_and, and_false]
    refine ⟨fun a => ?_, fun a => ?_⟩
    · rw [if_neg a] at hd
      refine c_X9_isUnder hS h1 (by omega) ⟨_, rfl, ?_⟩
      unfold und
      try simp (disch := omega) only [iI_lit, iL_lit, iI_add, iI_sub, iI_mul, iI_neg, iI_lt, iI_le, iI_eq, iI_tn, iI_div, iI_l, iL_add, iL_sub, iL_mul, iL_neg, iL_le, iL_lt, iL_eq, iL_ite, vp_T, b2_ne0, b2_eq1, nn_imp, true_and, iI_ite, not_true_eq_false, not_false_eq_true, true_implies, false_implies, and_true, Int.reduceLT, Int.reduceLE, Int.reduceEq, or_false, false_or, true_or, or_true, false_and, and_false, decide_eq_true_eq]
      refine ⟨fun q => ?_, fun q => ?_⟩
      · rw [if_neg (by omega)] at hd; exact C _ hd _
      · rw [if_pos (by omega)] at hd; exact C _ hd _
    · rw [if_pos a] at hd; exact C _ hd _
  have A : ∀ d : Int, Φ [aI (iI (m5d k b (m4d k (m3d k (m2d k d)))))] σ → vc_X9_madeBy_11 S Φ v (iI r) (iI k) (iI b) (iI d) σ := by
    intro d hd
    unfold vc_X9_madeBy_11
    unfold m2d at hd
    try simp (disch := omega) only [iI_lit, iL_lit, iI_add, iI_sub, iI_mul, iI_neg, iI_lt, iI_le, iI_eq, iI_tn, iI_div, iI_l, iL_add, iL_sub, iL_mul, iL_neg, iL_le, iL_lt, iL_eq, iL_ite, vp_T, b2_ne0, b2_eq1, nn_imp, true_and, iI_ite, not_true_eq_false, not_false_eq_true, true_implies, false_implies, and_true, Int.reduceLT, Int.reduceLE, Int.reduceEq, or_false, false_or, true_or, or_true, false_and, and_false]
    refine ⟨fun a => ?_, fun a => ?_⟩
    · rw [if_neg (by omega)] at hd; exact B _ hd _
    · rw [if_pos (by omega)] at hd; exact B _ hd _
  unfold vc_X9_madeBy_0
  unfold made m1d at hk
  try simp (disch := omega) only [iI_lit, iL_lit, iI_add, iI_sub, iI_mul, iI_neg, iI_lt, iI_le, iI_eq, iI_tn, iI_div, iI_l, iL_add, iL_sub, iL_mul, iL_neg, iL_le, iL_lt, iL_eq, iL_ite, vp_T, b2_ne0, b2_eq1, nn_imp, true_and, iI_ite, not_true_eq_false, not_false_eq_true, true_implies, false_implies, and_true, Int.reduceLT, Int.reduceLE, Int.reduceEq, or_false, false_or, true_or, or_true, false_and, and_false]
  refine ⟨fun a => ?_, fun a => ?_⟩
  · rw [if_neg a] at hk; exact A _ hk
  · rw [if_pos a] at hk; exact A _ hk
end C16
