/-! the tape -/
def WT (T : List Int) : Prop := T.length ≤ 80 ∧ ∀ i : Nat, i < T.length → 0 ≤ T[i]?.getD 0 ∧ T[i]?.getD 0 ≤ 127
def aFeed (b : Int) (T : List Int) : Int := if ¬ (0 ≤ b ∧ b ≤ 127) then -2 else if (T.length : Nat) = 80 then -4 else (T.length : Nat) + 1
def nFeed (b : Int) (T : List Int) : List Int := if (0 ≤ b ∧ b ≤ 127) ∧ ¬ T.length = 80 then T ++ [b] else T
theorem nFeed_W {b : Int} {T : List Int} (h : WT T) : WT (nFeed b T) := by
  unfold nFeed
  split
  · next c =>
    refine ⟨by rw [List.length_append]; have := h.1; show T.length + 1 ≤ 80; omega, fun i hi => ?_⟩
    rw [List.length_append] at hi
    have hi : i < T.length + 1 := hi
    by_cases q : i = T.length
    · subst q; rw [gd_b]; exact c.1
    · rw [gd_a (by omega)]; exact h.2 i (by omega)
  · exact h
abbrev TRc (T : List Int) (σ : St) : Prop := TX 37 36 1 T σ
abbrev TRm (T : List Int) (σ : St) : Prop := TX 59 49 20 T σ
/-- the byte at a place, -1 behind the last -/
def hr (T : List Int) (i : Int) : Int := if 0 ≤ i ∧ i < (T.length : Nat) then T[i.toNat]?.getD 0 else -1
theorem hr_i {T : List Int} {i : Int} (h0 : 0 ≤ i) (h : i < (T.length : Nat)) : hr T i = T[i.toNat]?.getD 0 := if_pos ⟨h0, h⟩
theorem hr_o {T : List Int} {i : Int} (h : (T.length : Nat) ≤ i) : hr T i = -1 := if_neg (by omega)
theorem hr_r {T : List Int} (hT : WT T) (i : Int) : -1 ≤ hr T i ∧ hr T i ≤ 127 := by
  unfold hr
  split
  · have := hT.2 i.toNat (by omega); omega
  · omega
theorem hr_n {T : List Int} (hT : WT T) {i : Int} (h0 : 0 ≤ i) : hr T i = -1 ↔ (T.length : Nat) ≤ i := by
  constructor
  · intro e
    refine Classical.byContradiction (fun c => ?_)
    rw [hr_i h0 (by omega)] at e
    have := hT.2 i.toNat (by omega); omega
  · exact hr_o
/-- as long as it holds -/
def rnN (T : List Int) (f : Int → Bool) : Nat → Int → Int
  | 0, p => p
  | n + 1, p => if f (hr T p) = true then rnN T f n (p + 1) else p
def rn (T : List Int) (f : Int → Bool) (p : Int) : Int := rnN T f ((T.length : Nat) - p).toNat p
theorem rn_f {T : List Int} {f : Int → Bool} {p : Int} (h : ¬ f (hr T p) = true) : rn T f p = p := by
  unfold rn
  cases ((T.length : Nat) - p).toNat with
  | zero => rfl
  | succ n => exact if_neg h
theorem rn_t {T : List Int} {f : Int → Bool} (hf : f (-1) = false) {p : Int} (h : f (hr T p) = true) : p < (T.length : Nat) ∧ rn T f p = rn T f (p + 1) := by
  have hp : p < (T.length : Nat) := by
    refine Classical.byContradiction (fun c => ?_)
    rw [hr_o (by omega), hf] at h
    exact absurd h (by decide)
  refine ⟨hp, ?_⟩
  unfold rn
  rw [show ((T.length : Nat) - p).toNat = ((T.length : Nat) - (p + 1)).toNat + 1 by omega]
  exact if_pos h
theorem rn_r {T : List Int} {f : Int → Bool} (hf : f (-1) = false) : ∀ (d : Nat) (p : Int), ((T.length : Nat) - p).toNat = d → p ≤ rn T f p ∧ (rn T f p ≤ (T.length : Nat) ∨ rn T f p = p) ∧ (∀ q, p ≤ q → q < rn T f p → f (hr T q) = true) ∧ ¬ f (hr T (rn T f p)) = true
  | 0, p, hd => by
    have : ¬ f (hr T p) = true := by rw [hr_o (by omega), hf]; decide
    rw [rn_f this]
    exact ⟨Int.le_refl _, Or.inr rfl, fun q a b => by omega, this⟩
  | d + 1, p, hd => by
    by_cases c : f (hr T p) = true
    · have r := rn_t hf c
      rw [r.2]
      have i := rn_r (T := T) hf d (p + 1) (by omega)
      refine ⟨by omega, by omega, fun q a b => ?_, i.2.2.2⟩
      by_cases e : q = p
      · subst e; exact c
      · exact i.2.2.1 q (by omega) b
    · rw [rn_f c]
      exact ⟨Int.le_refl _, Or.inr rfl, fun q a b => by omega, c⟩
def fSp (b : Int) : Bool := decide (b = 32)
def fLe (b : Int) : Bool := decide (97 ≤ b ∧ b ≤ 122)
def fDi (b : Int) : Bool := decide (48 ≤ b ∧ b ≤ 57)
/-- a token: where it begins, its sort, where it ends -/
def tS (T : List Int) (p : Int) : Int := rn T fSp p
def tE (T : List Int) (p : Int) : Int := if fLe (hr T (tS T p)) = true then rn T fLe (tS T p) else if fDi (hr T (tS T p)) = true then rn T fDi (tS T p) else if hr T (tS T p) = -1 then tS T p else tS T p + 1
def tK (T : List Int) (p : Int) : Int := if fLe (hr T (tS T p)) = true then 1 else if fDi (hr T (tS T p)) = true then (if tE T p - tS T p ≤ 4 then 2 else 4) else if hr T (tS T p) = 59 then 3 else if hr T (tS T p) = -1 then 0 else 4
def tV (T : List Int) (p : Int) : Int := lp (fun i a => a * 10 + hr T i - 48) (tS T p) (tE T p) 0
def wm (T : List Int) (l : List Int) (s e : Int) : Prop := e - s = (l.length : Nat) ∧ ∀ i : Nat, i < l.length → hr T (s + i) = l[i]?.getD 0
/-- the code of a token: a word's number, 20 a number, 21 a semicolon, 22 the end, 23 none of these -/
noncomputable def tC (T : List Int) (p : Int) : Int := if tK T p = 1 then (if fd (fun k => dec (wm T (wrd k) (tS T p) (tE T p))) 0 12 = -1 then 23 else fd (fun k => dec (wm T (wrd k) (tS T p) (tE T p))) 0 12) else if tK T p = 2 then 20 else if tK T p = 3 then 21 else if tK T p = 0 then 22 else 23
theorem tS_r {T : List Int} {p : Int} (h0 : 0 ≤ p) (h1 : p ≤ (T.length : Nat)) : p ≤ tS T p ∧ tS T p ≤ (T.length : Nat) ∧ ¬ hr T (tS T p) = 32 := by
  have r := rn_r (T := T) (f := fSp) (by decide) _ p rfl
  refine ⟨r.1, ?_, fun e => r.2.2.2 (by unfold tS at e; rw [e]; decide)⟩
  unfold tS; omega
theorem tE_r {T : List Int} (hT : WT T) {p : Int} (h0 : 0 ≤ p) (h1 : p ≤ (T.length : Nat)) : tS T p ≤ tE T p ∧ tE T p ≤ (T.length : Nat) ∧ (¬ hr T (tS T p) = -1 → tS T p < tE T p) := by
  have s := tS_r h0 h1
  have n := hr_n hT (i := tS T p) (by omega)
  unfold tE
  by_cases a : fLe (hr T (tS T p)) = true
  · rw [if_pos a]
    have r := rn_r (T := T) (f := fLe) (by decide) _ (tS T p) rfl
    have t := rn_t (T := T) (f := fLe) (by decide) a
    have r2 := rn_r (T := T) (f := fLe) (by decide) _ (tS T p + 1) rfl
    exact ⟨r.1, by omega, fun _ => by omega⟩
  · rw [if_neg a]
    by_cases b : fDi (hr T (tS T p)) = true
    · rw [if_pos b]
      have r := rn_r (T := T) (f := fDi) (by decide) _ (tS T p) rfl
      have t := rn_t (T := T) (f := fDi) (by decide) b
      have r2 := rn_r (T := T) (f := fDi) (by decide) _ (tS T p + 1) rfl
      exact ⟨r.1, by omega, fun _ => by omega⟩
    · rw [if_neg b]
      by_cases c : hr T (tS T p) = -1
      · rw [if_pos c]; exact ⟨Int.le_refl _, s.2.1, fun e => absurd c e⟩
      · rw [if_neg c]; exact ⟨by omega, by have := (not_congr n).mp c; omega, fun _ => by omega⟩
section C30
variable {S : Sp} {σ : St} {Φ : Rs} {T : List Int}
theorem c_X4_takeByte (hS : Sys S) (hT : TRc T σ) (hW : WT T) {b : Int} (r1 : -2147483648 ≤ b ∧ b < 2147483648) (hk : ∀ σ', Fr (fun k j => k = 37 ∨ (k = 36 ∧ j = 1)) σ σ' → TRc (nFeed b T) σ' → Φ [aI (iI (aFeed b T))] σ') : S 53 [aR 36, aI (iI b)] σ Φ := by
  refine m_X4_takeByte hS (fun v hv hw => ?_)
  unfold vc_X4_takeByte_0
  have hkr := hk σ Fr_rf
  have h0 := hT.1
  have l := hW.1
  unfold aFeed nFeed at hk hkr
  try simp (disch := omega) only [iI_lit, iL_lit, iI_add, iI_sub, iI_mul, iI_neg, iI_lt, iI_le, iI_eq, iI_tn, iI_div, iI_l, iL_add, iL_sub, iL_mul, iL_neg, iL_le, iL_lt, iL_eq, iL_ite, vp_T, b2_ne0, b2_eq1, nn_imp, true_and, iI_ite, not_true_eq_false, not_false_eq_true, true_implies, false_implies, and_true, Int.reduceLT, Int.reduceLE, Int.reduceEq, or_false, false_or, true_or, or_true, false_and, and_false]
  refine ⟨fun c => ?_, fun c => ⟨fun d => ?_, fun d => ?_⟩⟩
  · rw [if_neg (by omega), if_pos (by omega)] at hkr; exact hkr hT
  · rw [iI_byte (by omega), iI_byte (by omega)]
    try simp (disch := omega) only [iI_lit, iL_lit, iI_add, iI_sub, iI_mul, iI_neg, iI_lt, iI_le, iI_eq, iI_tn, iI_div, iI_l, iL_add, iL_sub, iL_mul, iL_neg, iL_le, iL_lt, iL_eq, iL_ite, vp_T, b2_ne0, b2_eq1, nn_imp, true_and, iI_ite, not_true_eq_false, not_false_eq_true, true_implies, false_implies, and_true, Int.reduceLT, Int.reduceLE, Int.reduceEq, or_false, false_or, true_or, or_true, false_and, and_false, h0]
    refine ⟨fun e => ?_, fun e => ?_⟩
    · try simp (disch := omega) only [iI_lit, iL_lit, iI_add, iI_sub, iI_mul, iI_neg, iI_lt, iI_le, iI_eq, iI_tn, iI_div, iI_l, iL_add, iL_sub, iL_mul, iL_neg, iL_le, iL_lt, iL_eq, iL_ite, vp_T, b2_ne0, b2_eq1, nn_imp, true_and, iI_ite, not_true_eq_false, not_false_eq_true, true_implies, false_implies, and_true, Int.reduceLT, Int.reduceLE, Int.reduceEq, or_false, false_or, true_or, or_true, false_and, and_false]
      intro σ1 e1
      have h1 : σ1.1 36 1 = iI (T.length : Nat) := by rw [e1, up_n (by omega)]; exact h0
      try simp (disch := omega) only [iI_lit, iL_lit, iI_add, iI_sub, iI_mul, iI_neg, iI_lt, iI_le, iI_eq, iI_tn, iI_div, iI_l, iL_add, iL_sub, iL_mul, iL_neg, iL_le, iL_lt, iL_eq, iL_ite, vp_T, b2_ne0, b2_eq1, nn_imp, true_and, iI_ite, not_true_eq_false, not_false_eq_true, true_implies, false_implies, and_true, Int.reduceLT, Int.reduceLE, Int.reduceEq, or_false, false_or, true_or, or_true, false_and, and_false, h1]
      intro σ2 e2
      have h2 : σ2.1 36 1 = iI ((T.length : Nat) + 1) := by rw [e2]; exact up_h rfl
      rw [h2]
      have hk := hk σ2
      rw [if_pos (by omega), if_neg (by omega), if_neg (by omega)] at hk
      exact hk (by rw [e2, e1]; exact Fr_up (Fr_up Fr_rf (Or.inl rfl)) (Or.inr ⟨rfl, rfl⟩)) (TX_up hT (by omega) e1 e2)
    · rw [if_neg (by omega), if_neg (by omega), if_pos (by omega)] at hkr; exact hkr hT
  · rw [if_neg (by omega), if_pos (by omega)] at hkr; exact hkr hT
theorem c_X8_feed (hS : Sys S) (hT : TRc T σ) (hW : WT T) {b : Int} (r1 : -2147483648 ≤ b ∧ b < 2147483648) (hk : ∀ σ', Fr (fun k j => k = 37 ∨ (k = 36 ∧ j = 1)) σ σ' → TRc (nFeed b T) σ' → Φ [aI (iI (aFeed b T))] σ') : S 114 [aR 0, aI (iI b)] σ Φ := by
  refine m_X8_feed hS (fun v hv hw => ?_)
  unfold vc_X8_feed_0
  exact c_X4_takeByte hS hT hW r1 (fun σ1 f1 t1 => ⟨_, rfl, hk σ1 f1 t1⟩)
theorem c_X9_feed (hS : Sys S) (hT : TRm T σ) (hW : WT T) {b : Int} (r1 : -2147483648 ≤ b ∧ b < 2147483648) (hk : ∀ σ', Fr (fun k j => k = 59 ∨ (k = 49 ∧ j = 20)) σ σ' → TRm (nFeed b T) σ' → Φ [aI (iI (aFeed b T))] σ') : S 207 [aR 49, aI (iI b)] σ Φ := by
  refine m_X9_feed hS (fun v hv hw => ?_)
  unfold vc_X9_feed_0
  have hkr := hk σ Fr_rf
  have h0 := hT.1
  have l := hW.1
  unfold aFeed nFeed at hk hkr
  try simp (disch := omega) only [iI_lit, iL_lit, iI_add, iI_sub, iI_mul, iI_neg, iI_lt, iI_le, iI_eq, iI_tn, iI_div, iI_l, iL_add, iL_sub, iL_mul, iL_neg, iL_le, iL_lt, iL_eq, iL_ite, vp_T, b2_ne0, b2_eq1, nn_imp, true_and, iI_ite, not_true_eq_false, not_false_eq_true, true_implies, false_implies, and_true, Int.reduceLT, Int.reduceLE, Int.reduceEq, or_false, false_or, true_or, or_true, false_and, and_false, h0]
  refine ⟨fun c => ⟨fun d => ?_, fun d => ?_⟩, fun c => ?_⟩
  · have d2 : T.length < 80 := by omega
    try simp (disch := omega) only [iI_lit, iL_lit, iI_add, iI_sub, iI_mul, iI_neg, iI_lt, iI_le, iI_eq, iI_tn, iI_div, iI_l, iL_add, iL_sub, iL_mul, iL_neg, iL_le, iL_lt, iL_eq, iL_ite, vp_T, b2_ne0, b2_eq1, nn_imp, true_and, iI_ite, not_true_eq_false, not_false_eq_true, true_implies, false_implies, and_true, Int.reduceLT, Int.reduceLE, Int.reduceEq, or_false, false_or, true_or, or_true, false_and, and_false]
    intro σ1 e1
    have h1 : σ1.1 49 20 = iI (T.length : Nat) := by rw [e1, up_n (by omega)]; exact h0
    try simp (disch := omega) only [iI_lit, iL_lit, iI_add, iI_sub, iI_mul, iI_neg, iI_lt, iI_le, iI_eq, iI_tn, iI_div, iI_l, iL_add, iL_sub, iL_mul, iL_neg, iL_le, iL_lt, iL_eq, iL_ite, vp_T, b2_ne0, b2_eq1, nn_imp, true_and, iI_ite, not_true_eq_false, not_false_eq_true, true_implies, false_implies, and_true, Int.reduceLT, Int.reduceLE, Int.reduceEq, or_false, false_or, true_or, or_true, false_and, and_false, h1]
    intro σ2 e2
    have h2 : σ2.1 49 20 = iI ((T.length : Nat) + 1) := by rw [e2]; exact up_h rfl
    rw [h2]
    have hk := hk σ2
    rw [if_pos (by omega), if_neg (by omega), if_neg (by omega)] at hk
    exact hk (by rw [e2, e1]; exact Fr_up (Fr_up Fr_rf (Or.inl rfl)) (Or.inr ⟨rfl, rfl⟩)) (TX_up hT (by omega) e1 e2)
  · rw [if_neg (by omega), if_neg (by omega), if_pos (by omega)] at hkr; exact hkr hT
  · rw [if_neg (by omega), if_pos (by omega)] at hkr; exact hkr hT
end C30
