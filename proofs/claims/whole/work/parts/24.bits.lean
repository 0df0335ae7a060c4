def popR : Nat → Nat → Nat
  | 0, _ => 0
  | d + 1, k => popR d (k / 2) + k % 2
theorem popR_top : ∀ (d h r : Nat), h < 2 → r < 2 ^ d → popR (d + 1) (h * 2 ^ d + r) = h + popR d r
  | 0, h, r, hh, hr => by
    have : r = 0 := by simpa using hr
    subst this
    show popR 0 _ + (h * 2 ^ 0 + 0) % 2 = h + 0
    unfold popR
    simp; omega
  | d + 1, h, r, hh, hr => by
    have e : 2 ^ (d + 1) = 2 * 2 ^ d := by rw [Nat.pow_succ]; omega
    have ih := popR_top d h (r / 2) hh (by omega)
    have e1 : (h * 2 ^ (d + 1) + r) / 2 = h * 2 ^ d + r / 2 := by
      rw [e]
      rcases (show h = 0 ∨ h = 1 by omega) with q | q <;> subst q <;> omega
    have e2 : (h * 2 ^ (d + 1) + r) % 2 = r % 2 := by
      rw [e]
      rcases (show h = 0 ∨ h = 1 by omega) with q | q <;> subst q <;> omega
    show popR (d + 1) ((h * 2 ^ (d + 1) + r) / 2) + (h * 2 ^ (d + 1) + r) % 2 = h + (popR d (r / 2) + r % 2)
    rw [e1, e2, ih]; omega
theorem allB_sp : ∀ (d b c : Nat), allB d b c = true → ∀ r, r < 2 ^ d → bcN (b * 2 ^ d + r) = c + popR d r
  | 0, b, c, h, r, hr => by
    have : r = 0 := by simpa using hr
    subst this
    have h2 := Nat.eq_of_beq_eq_true (show Nat.beq (bcN b) c = true from h)
    rw [show b * 2 ^ 0 + 0 = b by simp, h2]; rfl
  | d + 1, b, c, h, r, hr => by
    have h : ((allB d (2 * b) c) && (allB d (2 * b + 1) (c + 1))) = true := h
    rw [Bool.and_eq_true] at h
    have e : 2 ^ (d + 1) = 2 * 2 ^ d := by rw [Nat.pow_succ]; omega
    by_cases q : r < 2 ^ d
    · have := allB_sp d (2 * b) c h.1 r q
      have t := popR_top d 0 r (by omega) q
      rw [Nat.zero_mul, Nat.zero_add] at t
      rw [show b * 2 ^ (d + 1) + r = 2 * b * 2 ^ d + r by rw [e, Nat.mul_left_comm, Nat.mul_assoc], this, t]; omega
    · have := allB_sp d (2 * b + 1) (c + 1) h.2 (r - 2 ^ d) (by omega)
      have t := popR_top d 1 (r - 2 ^ d) (by omega) (by omega)
      rw [Nat.one_mul, show 2 ^ d + (r - 2 ^ d) = r by omega] at t
      rw [show b * 2 ^ (d + 1) + r = (2 * b + 1) * 2 ^ d + (r - 2 ^ d) by rw [e, Nat.add_mul, Nat.mul_left_comm, Nat.mul_assoc]; omega, this, t]; omega
theorem bcN_pop {n : Nat} (h : n < 2 ^ 20) : bcN n = popR 20 n := by
  have := allB_sp 20 0 0 allB_ok n h
  rw [Nat.zero_mul, Nat.zero_add, Nat.zero_add] at this
  exact this
theorem popR_ext : ∀ (d e k : Nat), k < 2 ^ d → popR (d + e) k = popR d k
  | 0, e, k, h => by
    have : k = 0 := by simpa using h
    subst this
    rw [Nat.zero_add]
    show popR e 0 = 0
    induction e with
    | zero => rfl
    | succ e ih => show popR e (0 / 2) + 0 % 2 = 0; rw [show 0 / 2 = 0 from rfl, ih]
  | d + 1, e, k, h => by
    rw [show d + 1 + e = (d + e) + 1 by omega]
    show popR (d + e) (k / 2) + k % 2 = popR d (k / 2) + k % 2
    rw [popR_ext d e (k / 2) (by rw [Nat.pow_succ] at h; omega)]
/-- how many bits a set has -/
def pop (s : Int32) : Int := lp (fun k a => a + (if bs s k = true then 1 else 0)) 0 31 0
theorem pop_lp {s : Int32} : ∀ (d k : Nat) (j a : Int), 0 ≤ j → (∀ i : Nat, i < d → bs s (j + i) = k.testBit i) → lp (fun k a => a + (if bs s k = true then 1 else 0)) j (j + d) a = a + (popR d k : Nat)
  | 0, k, j, a, hj, h => by rw [lp_z _ _ (by omega)]; show a = a + 0; omega
  | d + 1, k, j, a, hj, h => by
    rw [lp_s _ _ (by omega), show j + ((d + 1 : Nat) : Int) = j + 1 + (d : Int) by omega]
    rw [pop_lp d (k / 2) (j + 1) _ (by omega) (fun i hi => by
      have := h (i + 1) (by omega)
      rw [show j + ((i + 1 : Nat) : Int) = j + 1 + (i : Int) by omega] at this
      rw [this, Nat.testBit_add_one])]
    have h0 := h 0 (by omega)
    rw [show j + ((0 : Nat) : Int) = j by omega, Nat.testBit_zero] at h0
    rw [h0]
    show a + _ + _ = a + ((popR d (k / 2) + k % 2 : Nat) : Int)
    by_cases q : k % 2 = 1
    · rw [if_pos (by rw [decide_eq_true_eq]; exact q)]; omega
    · rw [if_neg (by rw [decide_eq_true_eq]; exact q)]; omega
theorem nI_ex (x : Int32) : ∃ n, n < 2 ^ 32 ∧ x = nI n ∧ ∀ i, bt x i = n.testBit i := ⟨x.toBitVec.toNat, x.toBitVec.isLt, Int32.toBitVec_inj.mp (by show _ = BitVec.ofNat 32 _; simp), fun i => rfl⟩
/-- a set of holes as a number -/
theorem set_ex {x : Int32} (h : ∀ k, 20 ≤ k → k < 32 → bs x k = false) : ∃ n, n < 2 ^ 20 ∧ x = nI n ∧ pop x = (popR 20 n : Nat) := by
  obtain ⟨n, h1, h2, h3⟩ := nI_ex x
  have hn : n < 2 ^ 20 := Nat.lt_pow_two_of_testBit n (fun i hi => by
    rw [← h3]
    by_cases c : i < 32
    · have := h i (by omega) (by omega)
      unfold bs at this
      rwa [show ((i : Int)).toNat = i by omega] at this
    · exact b_big (by omega))
  refine ⟨n, hn, h2, ?_⟩
  have := pop_lp (s := x) 31 n 0 0 (by omega) (fun i hi => by
    unfold bs
    rw [show ((0 : Int) + (i : Int)).toNat = i by omega]; exact h3 i)
  unfold pop
  rw [show (31 : Int) = 0 + ((31 : Nat) : Int) by omega, this, popR_ext 20 11 n hn]
  omega
theorem ush {k j : Nat} (hk : k < 2 ^ 32) (hj : j < 32) : ((nI k).toUInt32 >>> ((nI j).toUInt32 &&& Int32.toUInt32 31)).toInt32 = nI (k >>> j) := by
  have hs : k >>> j ≤ k := by
    rw [Nat.shiftRight_eq_div_pow]
    exact Nat.div_le_self _ _
  have hc : ∀ j : Fin 32, (UInt32.ofNat j.val &&& Int32.toUInt32 31).toNat % 32 = j.val := by decide +kernel
  have e2 : UInt32.ofNat k >>> (UInt32.ofNat j &&& Int32.toUInt32 31) = UInt32.ofNat (k >>> j) := by
    apply UInt32.toNat_inj.1
    have h1 : (UInt32.ofNat k).toNat = k := Nat.mod_eq_of_lt (by omega)
    have h2 : (UInt32.ofNat (k >>> j)).toNat = k >>> j := Nat.mod_eq_of_lt (by omega)
    rw [UInt32.toNat_shiftRight, hc ⟨j, hj⟩, h1, h2]
  show (UInt32.ofNat k >>> (UInt32.ofNat j &&& Int32.toUInt32 31)).toInt32 = _
  rw [e2]
  rfl
theorem nI_and (a b : Nat) : nI a &&& nI b = nI (a &&& b) := by
  apply Int32.toBitVec_inj.1
  show BitVec.ofNat 32 a &&& BitVec.ofNat 32 b = BitVec.ofNat 32 (a &&& b)
  apply BitVec.eq_of_getLsbD_eq
  intro i hi
  simp [hi]
theorem popR_le : ∀ (d k : Nat), popR d k ≤ d
  | 0, _ => Nat.le_refl 0
  | d + 1, k => by have := popR_le d (k / 2); show popR d (k / 2) + k % 2 ≤ d + 1; omega
section C24
variable {S : Sp} {σ : St} {Φ : Rs}
theorem c_bitCount (hS : Sys S) {x : Int32} (h : ∀ k, 20 ≤ k → k < 32 → bs x k = false) (hk : 0 ≤ pop x ∧ pop x ≤ 20 → Φ [aI (iI (pop x))] σ) : S 237 [aI x] σ Φ := by
  refine m_J6_bitCount_0f7a4 hS (fun v hv hw => ?_)
  obtain ⟨n, h1, h2, h3⟩ := set_ex h
  have hp := popR_le 20 n
  have hk2 := hk (by omega)
  rw [h3, ← bcN_pop h1] at hk2
  clear hk
  subst h2
  unfold vc_J6_bitCount_0f7a4_0
  have hle : (n >>> 1) &&& 1431655765 ≤ n := Nat.le_trans Nat.and_le_left (by rw [Nat.shiftRight_eq_div_pow]; exact Nat.div_le_self _ _)
  have c1 : nI n - ((((nI n).toUInt32 >>> ((1 : Int32).toUInt32 &&& Int32.toUInt32 31)).toInt32) &&& (1431655765 : Int32)) = nI (n - ((n >>> 1) &&& 1431655765)) := by
    have e := ush (k := n) (j := 1) (by omega) (by omega)
    have e' : ((nI n).toUInt32 >>> ((1 : Int32).toUInt32 &&& Int32.toUInt32 31)).toInt32 = nI (n >>> 1) := e
    rw [e', show (1431655765 : Int32) = nI 1431655765 from rfl, nI_and, nI_sub hle]
  have bnd : n - ((n >>> 1) &&& 1431655765) < 2 ^ 20 := by omega
  generalize hA : n - ((n >>> 1) &&& 1431655765) = A at c1 bnd
  intro y1 e1
  rw [c1] at e1
  have e2' : ((nI A).toUInt32 >>> ((2 : Int32).toUInt32 &&& Int32.toUInt32 31)).toInt32 = nI (A >>> 2) := ush (k := A) (j := 2) (by omega) (by omega)
  rw [e2', show (858993459 : Int32) = nI 858993459 from rfl, nI_and, nI_and, nI_add] at e1
  have b1 : A &&& 858993459 ≤ A := Nat.and_le_left
  have b2 : A >>> 2 &&& 858993459 ≤ A := Nat.le_trans Nat.and_le_left (by rw [Nat.shiftRight_eq_div_pow]; exact Nat.div_le_self _ _)
  generalize hB : (A &&& 858993459) + (A >>> 2 &&& 858993459) = B at e1
  have bndB : B < 2 ^ 21 := by omega
  subst e1
  intro y2 e2
  have e4' : ((nI B).toUInt32 >>> ((4 : Int32).toUInt32 &&& Int32.toUInt32 31)).toInt32 = nI (B >>> 4) := ush (k := B) (j := 4) (by omega) (by omega)
  rw [e4', nI_add, show (252645135 : Int32) = nI 252645135 from rfl, nI_and] at e2
  have b3 : B >>> 4 ≤ B := by rw [Nat.shiftRight_eq_div_pow]; exact Nat.div_le_self _ _
  have b4 : (B + B >>> 4) &&& 252645135 ≤ B + B >>> 4 := Nat.and_le_left
  generalize hC : (B + B >>> 4) &&& 252645135 = C at e2
  have bndC : C < 2 ^ 22 := by omega
  have e8' : ((nI C).toUInt32 >>> ((8 : Int32).toUInt32 &&& Int32.toUInt32 31)).toInt32 = nI (C >>> 8) := ush (k := C) (j := 8) (by omega) (by omega)
  rw [e8', nI_add] at e2
  have b5 : C >>> 8 ≤ C := by rw [Nat.shiftRight_eq_div_pow]; exact Nat.div_le_self _ _
  generalize hD : C + C >>> 8 = E at e2
  subst e2
  have e16' : ((nI E).toUInt32 >>> ((16 : Int32).toUInt32 &&& Int32.toUInt32 31)).toInt32 = nI (E >>> 16) := ush (k := E) (j := 16) (by omega) (by omega)
  rw [e16', nI_add, show (63 : Int32) = nI 63 from rfl, nI_and]
  have fin : bcN n = (E + E >>> 16) &&& 63 := by
    rw [← hD, ← hC, ← hB, ← hA]; rfl
  rw [fin, ← nI_iI] at hk2
  exact hk2
theorem c_X9_countOf (hS : Sys S) {x : Int32} (hk : 0 ≤ pop x ∧ pop x ≤ 31 → Φ [aI (iI (pop x))] σ) : S 147 [aI x] σ Φ := by
  refine m_X9_countOf hS (fun v hv hw => ?_)
  unfold vc_X9_countOf_0
  have L : ∀ (d : Nat) (k a : Int), (31 - k).toNat = d → 0 ≤ k → k ≤ 31 → (0 ≤ a ∧ a ≤ k) → lp (fun k a => a + (if bs x k = true then 1 else 0)) k 31 a = pop x → v 4 [some (aI x), some (aI (iI a)), some (aI (iI k))] [] σ := by
    intro d
    induction d with
    | zero =>
      intro k a hd k0 k1 ha he
      refine w_X9_countOf_4 hS hv hw _ _ _ σ ?_
      unfold vc_X9_countOf_4
      rw [lp_z _ _ (by omega)] at he
      try simp (disch := omega) only [iI_lit, iL_lit, iI_add, iI_sub, iI_mul, iI_neg, iI_lt, iI_le, iI_eq, iI_tn, iI_div, iI_l, iL_add, iL_sub, iL_mul, iL_neg, iL_le, iL_lt, iL_eq, iL_ite, vp_T, b2_ne0, b2_eq1, nn_imp, true_and, iI_ite, not_true_eq_false, not_false_eq_true, true_implies, false_implies, and_true, Int.reduceLT, Int.reduceLE, Int.reduceEq, or_false, false_or, true_or, or_true, false_and, and_false]
      refine ⟨fun _ => ?_, fun c => by omega⟩
      rw [← he] at hk
      exact hk (by omega)
    | succ d ih =>
      intro k a hd k0 k1 ha he
      refine w_X9_countOf_4 hS hv hw _ _ _ σ ?_
      unfold vc_X9_countOf_4
      rw [lp_s _ _ (by omega)] at he
      have bv := bs_v (s := x) (k := k) (by omega)
      have i := ih (k + 1) _ (by omega) (by omega) (by omega) (by split <;> omega) he
      try simp (disch := omega) only [iI_lit, iL_lit, iI_add, iI_sub, iI_mul, iI_neg, iI_lt, iI_le, iI_eq, iI_tn, iI_div, iI_l, iL_add, iL_sub, iL_mul, iL_neg, iL_le, iL_lt, iL_eq, iL_ite, vp_T, b2_ne0, b2_eq1, nn_imp, true_and, iI_ite, not_true_eq_false, not_false_eq_true, true_implies, false_implies, and_true, Int.reduceLT, Int.reduceLE, Int.reduceEq, or_false, false_or, true_or, or_true, false_and, and_false, bv]
      exact ⟨fun c => by omega, fun _ => i⟩
  have := L _ 0 0 rfl (by omega) (by omega) (by omega) rfl
  rw [iI_lit]; exact this
end C24
