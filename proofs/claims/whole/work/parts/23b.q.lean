/-! the least number whose square is not below v -/
def isRt (v d : Int) : Prop := 0 ≤ d ∧ v ≤ d * d ∧ ∀ e, 0 ≤ e → e < d → e * e < v
theorem isRt_u {v d e : Int} (h : isRt v d) (h2 : isRt v e) : d = e := by
  rcases Int.lt_trichotomy d e with q | q | q
  · have := h2.2.2 d h.1 q; have := h.2.1; omega
  · exact q
  · have := h.2.2 e h2.1 q; have := h2.2.1; omega
def pw2 : Nat → Int
  | 0 => 1
  | n + 1 => 2 * pw2 n
theorem sq_le {a b : Int} (h0 : 0 ≤ a) (h : a ≤ b) : a * a ≤ b * b := Int.mul_le_mul h h h0 (by omega)
noncomputable def qRt (v : Int) : Int := @dite _ (∃ d, isRt v d) (Classical.propDecidable _) (fun q => Classical.choose q) (fun _ => 0)
theorem qRt_eq {v d : Int} (h : isRt v d) : qRt v = d := by
  unfold qRt
  rw [dif_pos ⟨d, h⟩]
  exact isRt_u (Classical.choose_spec (p := fun d => isRt v d) ⟨d, h⟩) h
noncomputable def qSafe (P : Pl) (f : Int) : Int := if ¬ (1 ≤ f ∧ f ≤ 1000) then -2 else qRt (f * wS (shL P (fr P (dd P) (-1)) (tm P (dd P) (-1))).1 (shL P (fr P (dd P) (-1)) (tm P (dd P) (-1))).2 (P 282))
/-- rock in rings -/
def eac (P : Pl) (B : Int → Bool) (h : Int) : Int := rk P h / (rg P B h + 1)
def rkin (P : Pl) (B : Int → Bool) (h k : Int) : Int := if k ≤ rg P B h then (if k = 0 then rk P h - eac P B h * rg P B h else eac P B h) else 0
def rsum (P : Pl) (F B : Int → Bool) (k n : Int) : Int := lp (fun h a => a + (if F h = true then rkin P B h k else 0)) 0 n 0
def rall (P : Pl) (F B : Int → Bool) (n : Int) : Int := lp (fun h a => a + (if F h = true then eac P B h * rg P B h * (rg P B h + 1) / 2 else 0)) 0 n 0
noncomputable def qRing (P : Pl) (k : Int) : Int64 := if ¬ (-1 ≤ k ∧ k ≤ 9) then iL (-9223372036854775808) else if k < 0 then iL (rall P (fr P (dd P) (-1)) (bur P (dd P) (-1)) (P 280)) else iL (rsum P (fr P (dd P) (-1)) (bur P (dd P) (-1)) k (P 280))
theorem eac_r {P : Pl} (hW : WF P) {B : Int → Bool} {h : Int} (h0 : 0 ≤ h) (h1 : h < P 280) : 0 ≤ eac P B h ∧ eac P B h ≤ 100 ∧ eac P B h * (rg P B h + 1) ≤ rk P h := by
  have r1 := rk_r hW h0 h1
  have r2 := rg_r hW (B := B) h0 h1
  unfold eac
  refine ⟨Int.ediv_nonneg (by omega) (by omega), ?_, Int.ediv_mul_le _ (by omega)⟩
  have := Int.ediv_le_self (rg P B h + 1) r1.1
  omega
theorem rsum_s {P : Pl} {F B : Int → Bool} {k n : Int} (h : 0 ≤ n) : rsum P F B k (n + 1) = rsum P F B k n + (if F n = true then rkin P B n k else 0) := lp_l _ _ h
theorem rall_s {P : Pl} {F B : Int → Bool} {n : Int} (h : 0 ≤ n) : rall P F B (n + 1) = rall P F B n + (if F n = true then eac P B n * rg P B n * (rg P B n + 1) / 2 else 0) := lp_l _ _ h
theorem rsum_0 {P : Pl} {F B : Int → Bool} {k : Int} : rsum P F B k 0 = 0 := lp_z _ _ (Int.le_refl 0)
theorem rall_0 {P : Pl} {F B : Int → Bool} : rall P F B 0 = 0 := lp_z _ _ (Int.le_refl 0)
theorem rkin_r {P : Pl} (hW : WF P) {B : Int → Bool} {h k : Int} (h0 : 0 ≤ h) (h1 : h < P 280) : 0 ≤ rkin P B h k ∧ rkin P B h k ≤ 100 := by
  have r1 := rk_r hW h0 h1
  have r2 := rg_r hW (B := B) h0 h1
  have r3 := eac_r hW (B := B) h0 h1
  have r4 : 0 ≤ eac P B h * rg P B h := Int.mul_nonneg r3.1 r2.1
  have r5 : eac P B h * (rg P B h + 1) = eac P B h * rg P B h + eac P B h := by rw [Int.mul_add, Int.mul_one]
  unfold rkin
  (repeat' split) <;> omega
/-- a hole's rock over all rings -/
theorem rock_all {P : Pl} (hW : WF P) {B : Int → Bool} {h : Int} (h0 : 0 ≤ h) (h1 : h < P 280) : eac P B h * rg P B h * (rg P B h + 1) / 2 = 1 * rkin P B h 1 + 2 * rkin P B h 2 + 3 * rkin P B h 3 + 4 * rkin P B h 4 + 5 * rkin P B h 5 + 6 * rkin P B h 6 + 7 * rkin P B h 7 + 8 * rkin P B h 8 + 9 * rkin P B h 9 := by
  have r2 := rg_r hW (B := B) h0 h1
  unfold rkin
  generalize eac P B h = e
  generalize rg P B h = r at r2 ⊢
  rcases (show r = 0 ∨ r = 1 ∨ r = 2 ∨ r = 3 ∨ r = 4 ∨ r = 5 ∨ r = 6 ∨ r = 7 ∨ r = 8 ∨ r = 9 by omega) with q | q | q | q | q | q | q | q | q | q <;> subst q <;> simp (disch := omega) only [if_pos, if_neg] <;> omega
theorem rall_eq {P : Pl} (hW : WF P) {F B : Int → Bool} : ∀ (d : Nat) (n : Int), n.toNat = d → 0 ≤ n → n ≤ P 280 → rall P F B n = 1 * rsum P F B 1 n + 2 * rsum P F B 2 n + 3 * rsum P F B 3 n + 4 * rsum P F B 4 n + 5 * rsum P F B 5 n + 6 * rsum P F B 6 n + 7 * rsum P F B 7 n + 8 * rsum P F B 8 n + 9 * rsum P F B 9 n
  | 0, n, hd, h0, h1 => by
    rw [show n = 0 by omega]
    simp only [rsum_0, rall_0]; rfl
  | d + 1, n, hd, h0, h1 => by
    have ih := rall_eq hW (F := F) (B := B) d (n - 1) (by omega) (by omega) (by omega)
    have e : n = (n - 1) + 1 := by omega
    have ra := rock_all hW (B := B) (h := n - 1) (by omega) (by omega)
    rw [e, rall_s (by omega), rsum_s (by omega), rsum_s (by omega), rsum_s (by omega), rsum_s (by omega), rsum_s (by omega), rsum_s (by omega), rsum_s (by omega), rsum_s (by omega), rsum_s (by omega), ih]
    by_cases c : F (n - 1) = true
    · simp only [if_pos c]; omega
    · simp only [if_neg c]; omega
theorem rsum_r {P : Pl} (hW : WF P) {F B : Int → Bool} {k n : Int} (h0 : 0 ≤ n) (h1 : n ≤ P 280) : 0 ≤ rsum P F B k n ∧ rsum P F B k n ≤ 100 * n := by
  unfold rsum
  refine lp_inv (f := fun h a => a + (if F h = true then rkin P B h k else 0)) (fun i a => 0 ≤ a ∧ a ≤ 100 * i) _ rfl h0 (by omega) (fun i a i0 i1 ha => ?_)
  have := rkin_r hW (B := B) (k := k) i0 (by omega : i < P 280)
  split <;> omega
noncomputable def qSets (P : Pl) (a : Int) : Int32 := if a = 0 then bm (fr P (dd P) (-1)) (P 280) else if a = 1 then bm (bur P (dd P) (-1)) (P 280) else if a = 2 then bm (dd P) (P 280) else if a = 3 then bm (fun h => decide (sgA P (dd P) (-1) h = 1000000)) (P 280) else if a = 4 then bm (tor P (dd P) (-1)) (if P 281 ≤ 31 then P 281 else 31) else iI (-1)
theorem bm_lim {p : Int → Bool} {n m : Int} (h : 0 ≤ n ∧ n ≤ m ∧ m ≤ 31) : bm (fun k => decide (k < n) && p k) m = bm p n := by
  refine eq_bm (by omega) (fun k k0 k1 => ?_)
  rw [bs_bm (by omega)]
  by_cases c : k < n
  · rw [decide_eq_true c, decide_eq_true (by omega : k < m)]; rfl
  · rw [decide_eq_false c, Bool.false_and, Bool.and_false]
def argN (a b c d k : Int) : Int := if k = 0 then a else if k = 1 then b else if k = 2 then c else d
def ldsN (P : Pl) (a b c d : Int) : Nat → Int → Int → Int
  | 0, _, s => s
  | n + 1, k, s => if 0 ≤ argN a b c d k ∧ argN a b c d k < P 280 then ldsN P a b c d n (k + 1) (s + (fl P (argN a b c d k) + sl P (argN a b c d k))) else -1
def qLoads (P : Pl) (n a b c d : Int) : Int := if ¬ (0 ≤ n ∧ n ≤ 4) then -2 else ldsN P a b c d n.toNat 0 0
section C23b
variable {S : Sp} {σ : St} {Φ : Rs} {P : Pl}
theorem c_X9_shot (hS : Sys S) (hM : MP 50 P σ) (hW : WF P) {w a : Int} (r1 : -2147483648 ≤ w ∧ w < 2147483648) (r2 : -2147483648 ≤ a ∧ a < 2147483648) (hk : ∀ σ', Fr FL σ σ' → Φ [aI (iI (qShot P w a))] σ') : S 187 [aR 49, aI (iI w), aI (iI a)] σ Φ := by
  refine m_X9_shot hS (fun v hv hw => ?_)
  unfold vc_X9_shot_0
  unfold qShot at hk
  refine c_X9_lays hS hM hW (fun σ1 f1 s1 m1 => ⟨rfl, ?_⟩)
  have hk := hk σ1 f1
  have ok := sh_ok hW s1.2.2.2.2
  have n0 := ok.1
  try simp (disch := omega) only [iI_lit, iL_lit, iI_add, iI_sub, iI_mul, iI_neg, iI_lt, iI_le, iI_eq, iI_tn, iI_div, iI_l, iL_add, iL_sub, iL_mul, iL_neg, iL_le, iL_lt, iL_eq, iL_ite, vp_T, b2_ne0, b2_eq1, nn_imp, true_and, iI_ite, not_true_eq_false, not_false_eq_true, true_implies, false_implies, and_true, Int.reduceLT, Int.reduceLE, Int.reduceEq, or_false, false_or, true_or, or_true, false_and, and_false, m1.2]
  refine ⟨fun c => (by simp (disch := omega) only [if_pos, if_neg] at hk; exact hk), fun c => ⟨fun d => ?_, fun d => (by simp (disch := omega) only [if_pos, if_neg] at hk; exact hk)⟩⟩
  have q := m1.1 w (by omega) (by omega)
  try simp (disch := omega) only [iI_lit, iL_lit, iI_add, iI_sub, iI_mul, iI_neg, iI_lt, iI_le, iI_eq, iI_tn, iI_div, iI_l, iL_add, iL_sub, iL_mul, iL_neg, iL_le, iL_lt, iL_eq, iL_ite, vp_T, b2_ne0, b2_eq1, nn_imp, true_and, iI_ite, not_true_eq_false, not_false_eq_true, true_implies, false_implies, and_true, Int.reduceLT, Int.reduceLE, Int.reduceEq, or_false, false_or, true_or, or_true, false_and, and_false, q.1, q.2.1, q.2.2]
  exact ⟨fun e => ⟨fun f => (by simp (disch := omega) only [if_pos, if_neg] at hk; exact hk), fun f => (by simp (disch := omega) only [if_pos, if_neg] at hk; exact hk)⟩, fun e => (by simp (disch := omega) only [if_pos, if_neg] at hk; exact hk)⟩
theorem c_X8_shot (hS : Sys S) (hC : CP 1 P σ) (hW : WF P) (hR : RKd P σ) {w a : Int} (r1 : -2147483648 ≤ w ∧ w < 2147483648) (r2 : -2147483648 ≤ a ∧ a < 2147483648) (hk : ∀ σ', Fr FRq σ σ' → RKd P σ' → Φ [aI (iI (qShot P w a))] σ') : S 101 [aR 0, aI (iI w), aI (iI a)] σ Φ := by
  refine m_X8_shot hS (fun v hv hw => ?_)
  unfold vc_X8_shot_0
  unfold qShot at hk
  refine c_X8_reckoned hS hC hW hR (fun σ1 f1 c1 k1 q1 => ⟨rfl, ?_⟩)
  have hk := hk σ1 f1 (RKd_of k1 q1)
  have ok := sh_ok hW k1.1.2.2.2
  have n0 := ok.1
  have m1 := k1.2.1
  try simp (disch := omega) only [iI_lit, iL_lit, iI_add, iI_sub, iI_mul, iI_neg, iI_lt, iI_le, iI_eq, iI_tn, iI_div, iI_l, iL_add, iL_sub, iL_mul, iL_neg, iL_le, iL_lt, iL_eq, iL_ite, vp_T, b2_ne0, b2_eq1, nn_imp, true_and, iI_ite, not_true_eq_false, not_false_eq_true, true_implies, false_implies, and_true, Int.reduceLT, Int.reduceLE, Int.reduceEq, or_false, false_or, true_or, or_true, false_and, and_false, m1.2]
  refine ⟨fun c => (by simp (disch := omega) only [if_pos, if_neg] at hk; exact hk), fun c => ⟨fun d => ?_, fun d => (by simp (disch := omega) only [if_pos, if_neg] at hk; exact hk)⟩⟩
  have q := m1.1 w (by omega) (by omega)
  have q1 : σ1.1 17 w.toNat = _ := q.1
  have q2 : σ1.1 18 w.toNat = _ := q.2.1
  have q3 : σ1.1 19 w.toNat = _ := q.2.2
  try simp (disch := omega) only [iI_lit, iL_lit, iI_add, iI_sub, iI_mul, iI_neg, iI_lt, iI_le, iI_eq, iI_tn, iI_div, iI_l, iL_add, iL_sub, iL_mul, iL_neg, iL_le, iL_lt, iL_eq, iL_ite, vp_T, b2_ne0, b2_eq1, nn_imp, true_and, iI_ite, not_true_eq_false, not_false_eq_true, true_implies, false_implies, and_true, Int.reduceLT, Int.reduceLE, Int.reduceEq, or_false, false_or, true_or, or_true, false_and, and_false, q1, q2, q3]
  exact ⟨fun e => (by simp (disch := omega) only [if_pos, if_neg] at hk; exact hk), fun e => ⟨fun f => (by simp (disch := omega) only [if_pos, if_neg] at hk; exact hk), fun f => ⟨fun g => (by simp (disch := omega) only [if_pos, if_neg] at hk; exact hk), fun g => (by simp (disch := omega) only [if_pos, if_neg] at hk; exact hk)⟩⟩⟩
theorem c_X9_shake (hS : Sys S) (hM : MP 50 P σ) (hW : WF P) {t : Int} (r1 : -2147483648 ≤ t ∧ t < 2147483648) (hk : ∀ σ', Fr FL σ σ' → Φ [aI (iI (qShake P t))] σ') : S 188 [aR 49, aI (iI t)] σ Φ := by
  refine m_X9_shake hS (fun v hv hw => ?_)
  unfold vc_X9_shake_0
  unfold qShake at hk
  have hkr := hk σ Fr_rf
  try simp (disch := omega) only [iI_lit, iL_lit, iI_add, iI_sub, iI_mul, iI_neg, iI_lt, iI_le, iI_eq, iI_tn, iI_div, iI_l, iL_add, iL_sub, iL_mul, iL_neg, iL_le, iL_lt, iL_eq, iL_ite, vp_T, b2_ne0, b2_eq1, nn_imp, true_and, iI_ite, not_true_eq_false, not_false_eq_true, true_implies, false_implies, and_true, Int.reduceLT, Int.reduceLE, Int.reduceEq, or_false, false_or, true_or, or_true, false_and, and_false]
  refine ⟨fun c => ?_, fun c => by have hk := hkr; exact (by simp (disch := omega) only [if_pos, if_neg] at hk; exact hk)⟩
  refine c_X9_lays hS hM hW (fun σ1 f1 s1 m1 => ⟨rfl, ?_⟩)
  have hk := hk σ1 f1
  exact c_X9_shakeAt hS (MP_f hM f1 (fun j => by unfold FL FM FSH; omega)) hW m1 (sh_ok hW s1.2.2.2.2) (by omega) ⟨_, rfl, (by simp (disch := omega) only [if_pos, if_neg] at hk; exact hk)⟩
theorem c_X8_shake (hS : Sys S) (hC : CP 1 P σ) (hW : WF P) (hR : RKd P σ) {t : Int} (r1 : -2147483648 ≤ t ∧ t < 2147483648) (hk : ∀ σ', Fr FRq σ σ' → RKd P σ' → Φ [aI (iI (qShake P t))] σ') : S 102 [aR 0, aI (iI t)] σ Φ := by
  refine m_X8_shake hS (fun v hv hw => ?_)
  have g0 := WF_0 hW
  unfold vc_X8_shake_0
  unfold qShake at hk
  have hkr := hk σ Fr_rf hR
  try simp (disch := omega) only [iI_lit, iL_lit, iI_add, iI_sub, iI_mul, iI_neg, iI_lt, iI_le, iI_eq, iI_tn, iI_div, iI_l, iL_add, iL_sub, iL_mul, iL_neg, iL_le, iL_lt, iL_eq, iL_ite, vp_T, b2_ne0, b2_eq1, nn_imp, true_and, iI_ite, not_true_eq_false, not_false_eq_true, true_implies, false_implies, and_true, Int.reduceLT, Int.reduceLE, Int.reduceEq, or_false, false_or, true_or, or_true, false_and, and_false]
  refine ⟨fun c => by have hk := hkr; exact (by simp (disch := omega) only [if_pos, if_neg] at hk; exact hk), fun c => ⟨fun d => ?_, fun d => by have hk := hkr; exact (by simp (disch := omega) only [if_pos, if_neg] at hk; exact hk)⟩⟩
  refine c_X8_reckoned hS hC hW hR (fun σ1 f1 c1 k1 q1 => ⟨rfl, ?_⟩)
  have hk := hk σ1 f1 (RKd_of k1 q1)
  have w4 : σ1.1 4 (0 : Int).toNat = iI (P 282) := CP_r c1 (by omega)
  try simp (disch := omega) only [iI_lit, iL_lit, iI_add, iI_sub, iI_mul, iI_neg, iI_lt, iI_le, iI_eq, iI_tn, iI_div, iI_l, iL_add, iL_sub, iL_mul, iL_neg, iL_le, iL_lt, iL_eq, iL_ite, vp_T, b2_ne0, b2_eq1, nn_imp, true_and, iI_ite, not_true_eq_false, not_false_eq_true, true_implies, false_implies, and_true, Int.reduceLT, Int.reduceLE, Int.reduceEq, or_false, false_or, true_or, or_true, false_and, and_false, w4]
  exact c_X7_shakeAt hS isSh_16 k1.2.1 (sh_ok hW k1.1.2.2.2) (by omega) (by omega) ⟨_, rfl, (by simp (disch := omega) only [if_pos, if_neg] at hk; exact hk)⟩
theorem c_X9_worst (hS : Sys S) (hM : MP 50 P σ) (hW : WF P) {a : Int} (r1 : -2147483648 ≤ a ∧ a < 2147483648) (hk : ∀ σ', Fr FL σ σ' → Φ [aI (iI (qWorst P a))] σ') : S 189 [aR 49, aI (iI a)] σ Φ := by
  refine m_X9_worst hS (fun v hv hw => ?_)
  unfold vc_X9_worst_0
  unfold qWorst at hk
  have hkr := hk σ Fr_rf
  try simp (disch := omega) only [iI_lit, iL_lit, iI_add, iI_sub, iI_mul, iI_neg, iI_lt, iI_le, iI_eq, iI_tn, iI_div, iI_l, iL_add, iL_sub, iL_mul, iL_neg, iL_le, iL_lt, iL_eq, iL_ite, vp_T, b2_ne0, b2_eq1, nn_imp, true_and, iI_ite, not_true_eq_false, not_false_eq_true, true_implies, false_implies, and_true, Int.reduceLT, Int.reduceLE, Int.reduceEq, or_false, false_or, true_or, or_true, false_and, and_false]
  refine ⟨fun c => ?_, fun c => by have hk := hkr; exact (by simp (disch := omega) only [if_pos, if_neg] at hk; exact hk)⟩
  refine c_X9_lays hS hM hW (fun σ1 f1 s1 m1 => ⟨rfl, ?_⟩)
  have hk := hk σ1 f1
  have mp := MP_f hM f1 (fun j => by unfold FL FM FSH; omega)
  have ok := sh_ok hW s1.2.2.2.2
  try simp (disch := omega) only [iI_lit, iL_lit, iI_add, iI_sub, iI_mul, iI_neg, iI_lt, iI_le, iI_eq, iI_tn, iI_div, iI_l, iL_add, iL_sub, iL_mul, iL_neg, iL_le, iL_lt, iL_eq, iL_ite, vp_T, b2_ne0, b2_eq1, nn_imp, true_and, iI_ite, not_true_eq_false, not_false_eq_true, true_implies, false_implies, and_true, Int.reduceLT, Int.reduceLE, Int.reduceEq, or_false, false_or, true_or, or_true, false_and, and_false, m1.2]
  refine ⟨fun d => ⟨fun e => ⟨fun f => (by simp (disch := omega) only [if_pos, if_neg] at hk; exact hk), fun f => ?_⟩, fun e => ?_⟩, fun d => ?_⟩
  · exact c_X9_over hS mp hW m1 ok ⟨_, rfl, (by simp (disch := omega) only [if_pos, if_neg] at hk; exact hk)⟩
  · exact c_X9_worstTime hS mp hW m1 ok ⟨_, rfl, (by simp (disch := omega) only [if_pos, if_neg] at hk; exact hk)⟩
  · exact c_X9_worstShake hS mp hW m1 ok ⟨_, rfl, (by simp (disch := omega) only [if_pos, if_neg] at hk; exact hk)⟩
theorem c_X8_worst (hS : Sys S) (hC : CP 1 P σ) (hW : WF P) (hR : RKd P σ) {a : Int} (r1 : -2147483648 ≤ a ∧ a < 2147483648) (hk : ∀ σ', Fr FRq σ σ' → RKd P σ' → Φ [aI (iI (qWorst P a))] σ') : S 103 [aR 0, aI (iI a)] σ Φ := by
  refine m_X8_worst hS (fun v hv hw => ?_)
  unfold vc_X8_worst_0
  unfold qWorst at hk
  refine c_X8_reckoned hS hC hW hR (fun σ1 f1 c1 k1 q1 => ⟨rfl, ?_⟩)
  have hk := hk σ1 f1 (RKd_of k1 q1)
  try simp (disch := omega) only [iI_lit, iL_lit, iI_add, iI_sub, iI_mul, iI_neg, iI_lt, iI_le, iI_eq, iI_tn, iI_div, iI_l, iL_add, iL_sub, iL_mul, iL_neg, iL_le, iL_lt, iL_eq, iL_ite, vp_T, b2_ne0, b2_eq1, nn_imp, true_and, iI_ite, not_true_eq_false, not_false_eq_true, true_implies, false_implies, and_true, Int.reduceLT, Int.reduceLE, Int.reduceEq, or_false, false_or, true_or, or_true, false_and, and_false, k1.2.1.2, k1.2.2.1, k1.2.2.2.1, k1.2.2.2.2]
  exact ⟨fun d => (by simp (disch := omega) only [if_pos, if_neg] at hk; exact hk), fun d => ⟨fun e => (by simp (disch := omega) only [if_pos, if_neg] at hk; exact hk), fun e => ⟨fun f => (by simp (disch := omega) only [if_pos, if_neg] at hk; exact hk), fun f => ⟨fun g => (by simp (disch := omega) only [if_pos, if_neg] at hk; exact hk), fun g => (by simp (disch := omega) only [if_pos, if_neg] at hk; exact hk)⟩⟩⟩⟩
theorem c_X9_safe (hS : Sys S) (hM : MP 50 P σ) (hW : WF P) {f : Int} (r1 : -2147483648 ≤ f ∧ f < 2147483648) (hk : ∀ σ', Fr FL σ σ' → Φ [aI (iI (qSafe P f))] σ') : S 190 [aR 49, aI (iI f)] σ Φ := by
  refine m_X9_safe hS (fun v hv hw => ?_)
  unfold vc_X9_safe_0
  unfold qSafe at hk
  have hkr := hk σ Fr_rf
  try simp (disch := omega) only [iI_lit, iL_lit, iI_add, iI_sub, iI_mul, iI_neg, iI_lt, iI_le, iI_eq, iI_tn, iI_div, iI_l, iL_add, iL_sub, iL_mul, iL_neg, iL_le, iL_lt, iL_eq, iL_ite, vp_T, b2_ne0, b2_eq1, nn_imp, true_and, iI_ite, not_true_eq_false, not_false_eq_true, true_implies, false_implies, and_true, Int.reduceLT, Int.reduceLE, Int.reduceEq, or_false, false_or, true_or, or_true, false_and, and_false]
  refine ⟨fun c => ?_, fun c => by have hk := hkr; exact (by simp (disch := omega) only [if_pos, if_neg] at hk; exact hk)⟩
  refine c_X9_lays hS hM hW (fun σ1 f1 s1 m1 => ⟨rfl, ?_⟩)
  have hk := hk σ1 f1
  rw [if_neg (by omega)] at hk
  have mp := MP_f hM f1 (fun j => by unfold FL FM FSH; omega)
  have ok := sh_ok hW s1.2.2.2.2
  have wr := wS_r ok (P 282)
  have hfw : 0 ≤ f * wS (shL P (fr P (dd P) (-1)) (tm P (dd P) (-1))).1 (shL P (fr P (dd P) (-1)) (tm P (dd P) (-1))).2 (P 282) ∧ f * wS (shL P (fr P (dd P) (-1)) (tm P (dd P) (-1))).1 (shL P (fr P (dd P) (-1)) (tm P (dd P) (-1))).2 (P 282) ≤ 4000000 := by
    refine ⟨Int.mul_nonneg (by omega) wr.1, ?_⟩
    have := Int.mul_le_mul (show f ≤ 1000 by omega) wr.2 wr.1 (by omega : (0 : Int) ≤ 1000)
    omega
  have L : ∀ (n : Nat) (d : Int), (2000 - d).toNat = n → 0 ≤ d → d ≤ 2000 → (∀ e, 0 ≤ e → e < d → e * e < f * wS (shL P (fr P (dd P) (-1)) (tm P (dd P) (-1))).1 (shL P (fr P (dd P) (-1)) (tm P (dd P) (-1))).2 (P 282)) → v 21 [some (aR 49), some (aI (iI f)), some (aI (iI d))] [] σ1 := by
    intro n
    induction n with
    | zero =>
      intro d hd d0 d1 he
      refine w_X9_safe_21 hS hv hw _ _ σ1 ?_
      unfold vc_X9_safe_21
      have q : d = 2000 := by omega
      subst q
      refine c_X9_worstShake hS mp hW m1 ok ⟨_, rfl, ?_⟩
      generalize hx : f * wS (shL P (fr P (dd P) (-1)) (tm P (dd P) (-1))).1 (shL P (fr P (dd P) (-1)) (tm P (dd P) (-1))).2 (P 282) = x at hk hfw he
      try simp (disch := omega) only [iI_lit, iL_lit, iI_add, iI_sub, iI_mul, iI_neg, iI_lt, iI_le, iI_eq, iI_tn, iI_div, iI_l, iL_add, iL_sub, iL_mul, iL_neg, iL_le, iL_lt, iL_eq, iL_ite, vp_T, b2_ne0, b2_eq1, nn_imp, true_and, iI_ite, not_true_eq_false, not_false_eq_true, true_implies, false_implies, and_true, Int.reduceLT, Int.reduceLE, Int.reduceEq, or_false, false_or, true_or, or_true, false_and, and_false, hx]
      refine ⟨fun _ => ?_, fun c => by omega⟩
      rw [qRt_eq (d := 2000) ⟨by omega, by omega, he⟩] at hk
      exact hk
    | succ n ih =>
      intro d hd d0 d1 he
      refine w_X9_safe_21 hS hv hw _ _ σ1 ?_
      unfold vc_X9_safe_21
      refine c_X9_worstShake hS mp hW m1 ok ⟨_, rfl, ?_⟩
      have sq := sq_le d0 d1
      have sq0 := sq_le (Int.le_refl 0) d0
      generalize hx : f * wS (shL P (fr P (dd P) (-1)) (tm P (dd P) (-1))).1 (shL P (fr P (dd P) (-1)) (tm P (dd P) (-1))).2 (P 282) = x at hk hfw he
      try simp (disch := omega) only [iI_lit, iL_lit, iI_add, iI_sub, iI_mul, iI_neg, iI_lt, iI_le, iI_eq, iI_tn, iI_div, iI_l, iL_add, iL_sub, iL_mul, iL_neg, iL_le, iL_lt, iL_eq, iL_ite, vp_T, b2_ne0, b2_eq1, nn_imp, true_and, iI_ite, not_true_eq_false, not_false_eq_true, true_implies, false_implies, and_true, Int.reduceLT, Int.reduceLE, Int.reduceEq, or_false, false_or, true_or, or_true, false_and, and_false, hx]
      refine ⟨fun c => ?_, fun c => ih (d + 1) (by omega) (by omega) (by omega) (fun e e0 e1 => ?_)⟩
      · rw [qRt_eq (d := d) ⟨d0, c, he⟩] at hk; exact hk
      · by_cases q : e < d
        · rw [hx]; exact he e e0 q
        · rw [show e = d by omega, hx]; omega
  exact L _ 0 rfl (by omega) (by omega) (fun e e0 e1 => by omega)
theorem c_X8_rootAbove (hS : Sys S) {x : Int} (hx : 0 ≤ x ∧ x ≤ 4000000) (hk : Φ [aI (iI (qRt x))] σ) : S 142 [aI (iI x)] σ Φ := by
  refine m_X8_rootAbove hS (fun v hv hw => ?_)
  unfold vc_X8_rootAbove_0
  have L : ∀ (n : Nat) (lo hi i : Int), i + n = 12 → 0 ≤ i → 0 ≤ lo → lo ≤ hi → hi ≤ 2000 → hi - lo < pw2 n → (∀ e, 0 ≤ e → e < lo → e * e < x) → x ≤ hi * hi → v 8 [some (aI (iI x)), some (aI (iI lo)), some (aI (iI hi)), some (aI (iI i)), none] [] σ := by
    intro n
    induction n with
    | zero =>
      intro lo hi i hi12 i0 l0 l1 h1 hp he hh
      refine w_X8_rootAbove_8 hS hv hw _ _ _ _ σ ?_
      unfold vc_X8_rootAbove_8
      try simp (disch := omega) only [iI_lit, iL_lit, iI_add, iI_sub, iI_mul, iI_neg, iI_lt, iI_le, iI_eq, iI_tn, iI_div, iI_l, iL_add, iL_sub, iL_mul, iL_neg, iL_le, iL_lt, iL_eq, iL_ite, vp_T, b2_ne0, b2_eq1, nn_imp, true_and, iI_ite, not_true_eq_false, not_false_eq_true, true_implies, false_implies, and_true, Int.reduceLT, Int.reduceLE, Int.reduceEq, or_false, false_or, true_or, or_true, false_and, and_false]
      have e : hi = lo := by unfold pw2 at hp; omega
      subst e
      rw [qRt_eq (d := hi) ⟨by omega, hh, he⟩] at hk
      exact ⟨fun _ => hk, fun c => by omega⟩
    | succ n ih =>
      intro lo hi i hi12 i0 l0 l1 h1 hp he hh
      refine w_X8_rootAbove_8 hS hv hw _ _ _ _ σ ?_
      unfold vc_X8_rootAbove_8
      have m0 : 0 ≤ (lo + hi) / 2 := by omega
      have m1 : (lo + hi) / 2 ≤ 2000 := by omega
      have sq := sq_le m0 m1
      have sq0 := sq_le (Int.le_refl 0) m0
      unfold pw2 at hp
      try simp (disch := omega) only [iI_lit, iL_lit, iI_add, iI_sub, iI_mul, iI_neg, iI_lt, iI_le, iI_eq, iI_tn, iI_div, iI_l, iL_add, iL_sub, iL_mul, iL_neg, iL_le, iL_lt, iL_eq, iL_ite, vp_T, b2_ne0, b2_eq1, nn_imp, true_and, iI_ite, not_true_eq_false, not_false_eq_true, true_implies, false_implies, and_true, Int.reduceLT, Int.reduceLE, Int.reduceEq, or_false, false_or, true_or, or_true, false_and, and_false]
      refine ⟨fun c => by omega, fun _ => ⟨fun c => ?_, fun c => ⟨fun d => ?_, fun d => ?_⟩⟩⟩
      · have e : hi = lo := by omega
        subst e
        rw [qRt_eq (d := hi) ⟨by omega, hh, he⟩] at hk
        exact hk
      · refine ih _ _ _ (by omega) (by omega) (by omega) (by omega) h1 (by omega) (fun e e0 e1 => ?_) hh
        have := sq_le e0 (show e ≤ (lo + hi) / 2 by omega)
        omega
      · exact ih _ _ _ (by omega) (by omega) (by omega) (by omega) (by omega) (by omega) he (by omega)
  have := L 12 0 2000 0 (by omega) (by omega) (by omega) (by omega) (by omega) (by decide) (fun e e0 e1 => by omega) (by omega)
  rw [iI_lit, iI_lit]
  exact this
theorem c_X8_safe (hS : Sys S) (hC : CP 1 P σ) (hW : WF P) (hR : RKd P σ) {f : Int} (r1 : -2147483648 ≤ f ∧ f < 2147483648) (hk : ∀ σ', Fr FRq σ σ' → RKd P σ' → Φ [aI (iI (qSafe P f))] σ') : S 104 [aR 0, aI (iI f)] σ Φ := by
  refine m_X8_safe hS (fun v hv hw => ?_)
  unfold vc_X8_safe_0
  unfold qSafe at hk
  have hkr := hk σ Fr_rf hR
  try simp (disch := omega) only [iI_lit, iL_lit, iI_add, iI_sub, iI_mul, iI_neg, iI_lt, iI_le, iI_eq, iI_tn, iI_div, iI_l, iL_add, iL_sub, iL_mul, iL_neg, iL_le, iL_lt, iL_eq, iL_ite, vp_T, b2_ne0, b2_eq1, nn_imp, true_and, iI_ite, not_true_eq_false, not_false_eq_true, true_implies, false_implies, and_true, Int.reduceLT, Int.reduceLE, Int.reduceEq, or_false, false_or, true_or, or_true, false_and, and_false]
  refine ⟨fun c => by have hk := hkr; exact (by simp (disch := omega) only [if_pos, if_neg] at hk; exact hk), fun c => ⟨fun d => ?_, fun d => by have hk := hkr; exact (by simp (disch := omega) only [if_pos, if_neg] at hk; exact hk)⟩⟩
  refine c_X8_reckoned hS hC hW hR (fun σ1 f1 c1 k1 q1 => ⟨rfl, ?_⟩)
  have hk := hk σ1 f1 (RKd_of k1 q1)
  rw [if_neg (by omega)] at hk
  have ok := sh_ok hW k1.1.2.2.2
  have wr := wS_r ok (P 282)
  have hfw : 0 ≤ f * wS (shL P (fr P (dd P) (-1)) (tm P (dd P) (-1))).1 (shL P (fr P (dd P) (-1)) (tm P (dd P) (-1))).2 (P 282) ∧ f * wS (shL P (fr P (dd P) (-1)) (tm P (dd P) (-1))).1 (shL P (fr P (dd P) (-1)) (tm P (dd P) (-1))).2 (P 282) ≤ 4000000 := by
    refine ⟨Int.mul_nonneg (by omega) wr.1, ?_⟩
    have := Int.mul_le_mul (show f ≤ 1000 by omega) wr.2 wr.1 (by omega : (0 : Int) ≤ 1000)
    omega
  try simp (disch := omega) only [iI_lit, iL_lit, iI_add, iI_sub, iI_mul, iI_neg, iI_lt, iI_le, iI_eq, iI_tn, iI_div, iI_l, iL_add, iL_sub, iL_mul, iL_neg, iL_le, iL_lt, iL_eq, iL_ite, vp_T, b2_ne0, b2_eq1, nn_imp, true_and, iI_ite, not_true_eq_false, not_false_eq_true, true_implies, false_implies, and_true, Int.reduceLT, Int.reduceLE, Int.reduceEq, or_false, false_or, true_or, or_true, false_and, and_false, k1.2.2.1]
  exact c_X8_rootAbove hS hfw ⟨_, rfl, hk⟩
end C23b
