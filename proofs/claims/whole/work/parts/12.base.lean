/-- a truth as an int -/
def b2 (c : Prop) [Decidable c] : Int32 := if c then 1 else 0
theorem b2_0 (c : Prop) [Decidable c] : (b2 c = 0) = ¬ c := by
  unfold b2; split <;> simp_all
theorem b2_1 (c : Prop) [Decidable c] : (b2 c = 1) = c := by
  unfold b2; split <;> simp_all
theorem b2_01 (c : Prop) [Decidable c] : b2 c = 0 ∨ b2 c = 1 := by
  unfold b2; split <;> simp
theorem b2_t {c : Prop} [Decidable c] (h : c) : b2 c = 1 := if_pos h
theorem b2_f {c : Prop} [Decidable c] (h : ¬ c) : b2 c = 0 := if_neg h
theorem b2_congr {c d : Prop} [Decidable c] [Decidable d] (h : c ↔ d) : b2 c = b2 d := by
  unfold b2; by_cases hc : c
  · rw [if_pos hc, if_pos (h.mp hc)]
  · rw [if_neg hc, if_neg (fun q => hc (h.mpr q))]
theorem z10 : ((1 : Int32) = 0) = False := by decide
theorem z01 : ((0 : Int32) = 1) = False := by decide
theorem nlt (x y : Int32) : (¬ x < y) = (y ≤ x) := by rw [Int32.not_lt]
theorem nle (x y : Int32) : (¬ x ≤ y) = (y < x) := by rw [Int32.not_le]
theorem toI_lt {x y : Int32} : x < y ↔ x.toInt < y.toInt := Int32.lt_iff_toInt_lt
theorem toI_le {x y : Int32} : x ≤ y ↔ x.toInt ≤ y.toInt := Int32.le_iff_toInt_le
/-- an int between 0 and a small number is that number's -/
theorem ex_nI {x : Int32} (h0 : 0 ≤ x) : ∃ k : Nat, k < 2 ^ 31 ∧ x = nI k := by
  have h : (0 : Int) ≤ x.toInt := by simpa using toI_le.mp h0
  refine ⟨x.toInt.toNat, ?_, ?_⟩
  · have := Int32.toInt_lt x; omega
  · apply Int32.toInt_inj.mp
    rw [nI_toInt (by have := Int32.toInt_lt x; omega)]
    omega
theorem ex_nI_lt {x : Int32} {n : Nat} (h0 : 0 ≤ x) (hn : n < 2 ^ 31) (h : x < nI n) : ∃ k : Nat, k < n ∧ x = nI k := by
  obtain ⟨k, hk, rfl⟩ := ex_nI h0
  exact ⟨k, (nI_ltI hk hn).mp h, rfl⟩
theorem ex_nI_le {x : Int32} {n : Nat} (h0 : 0 ≤ x) (hn : n < 2 ^ 31) (h : x ≤ nI n) : ∃ k : Nat, k ≤ n ∧ x = nI k := by
  obtain ⟨k, hk, rfl⟩ := ex_nI h0
  exact ⟨k, (nI_leI hk hn).mp h, rfl⟩
theorem vp_inN {n N : Nat} (hn : n < 2 ^ 31) : vp_in (nI n) N ↔ n < N := by
  unfold vp_in
  rw [nI_clamp hn]
  have := nI_pos' hn
  constructor
  · intro h; exact Nat.not_le.mp (fun q => h (Or.inr q))
  · intro h q
    rcases q with q | q
    · exact absurd q (Int32.not_lt.mpr this)
    · omega
theorem nI_mul (a b : Nat) : nI a * nI b = nI (a * b) := by
  unfold nI
  exact (Int32.ofNat_mul a b).symm
theorem nI_sub {a b : Nat} (h : b ≤ a) : nI a - nI b = nI (a - b) := by
  have : nI a = nI (a - b) + nI b := by rw [nI_add]; congr 1; omega
  rw [this]
  exact Int32.add_sub_cancel _ _
theorem nI_div {a b : Nat} (ha : a < 2 ^ 31) (hb : b < 2 ^ 31) : nI a / nI b = nI (a / b) := by
  apply Int32.toInt_inj.mp
  have hd : a / b < 2 ^ 31 := Nat.lt_of_le_of_lt (Nat.div_le_self a b) ha
  rw [Int32.toInt_div, nI_toInt ha, nI_toInt hb, nI_toInt hd]
  rw [show ((a : Int).tdiv (b : Int)) = ((a / b : Nat) : Int) from rfl]
  generalize a / b = q at hd ⊢
  rw [Int.bmod_eq_of_le] <;> omega
theorem i32_l0 : (0 : Int64) = (0 : Int32).toInt64 := by decide
