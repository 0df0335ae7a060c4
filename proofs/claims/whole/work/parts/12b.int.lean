/-! ints as whole numbers -/
def iI (z : Int) : Int32 := Int32.ofInt z
def iL (z : Int) : Int64 := Int64.ofInt z
theorem iI_lit (n : Nat) : (OfNat.ofNat n : Int32) = iI (OfNat.ofNat n) := (Int32.ofInt_eq_ofNat (n := n)).symm
theorem iL_lit (n : Nat) : (OfNat.ofNat n : Int64) = iL (OfNat.ofNat n) := (Int64.ofInt_eq_ofNat (n := n)).symm
theorem iI_toInt {z : Int} (h : -2147483648 ≤ z ∧ z < 2147483648) : (iI z).toInt = z := Int32.toInt_ofInt_of_le (by omega) (by omega)
theorem iL_toInt {z : Int} (h : -9223372036854775808 ≤ z ∧ z < 9223372036854775808) : (iL z).toInt = z := Int64.toInt_ofInt_of_le (by omega) (by omega)
theorem iI_of (x : Int32) : ∃ z : Int, (-2147483648 ≤ z ∧ z < 2147483648) ∧ x = iI z := ⟨x.toInt, ⟨by have := Int32.le_toInt x; omega, by have := Int32.toInt_lt x; omega⟩, (Int32.ofInt_toInt x).symm⟩
theorem iI_add (a b : Int) : iI a + iI b = iI (a + b) := (Int32.ofInt_add a b).symm
theorem iI_sub (a b : Int) : iI a - iI b = iI (a - b) := (Int32.ofInt_sub a b).symm
theorem iI_mul (a b : Int) : iI a * iI b = iI (a * b) := (Int32.ofInt_mul a b).symm
theorem iI_neg (a : Int) : -iI a = iI (-a) := (Int32.ofInt_neg a).symm
theorem iI_lt {a b : Int} (h : (-2147483648 ≤ a ∧ a < 2147483648) ∧ (-2147483648 ≤ b ∧ b < 2147483648)) : (iI a < iI b) ↔ a < b := by rw [toI_lt, iI_toInt h.1, iI_toInt h.2]
theorem iI_le {a b : Int} (h : (-2147483648 ≤ a ∧ a < 2147483648) ∧ (-2147483648 ≤ b ∧ b < 2147483648)) : (iI a ≤ iI b) ↔ a ≤ b := by rw [toI_le, iI_toInt h.1, iI_toInt h.2]
theorem iI_eq {a b : Int} (h : (-2147483648 ≤ a ∧ a < 2147483648) ∧ (-2147483648 ≤ b ∧ b < 2147483648)) : (iI a = iI b) ↔ a = b := by rw [← Int32.toInt_inj, iI_toInt h.1, iI_toInt h.2]
theorem iI_tn {z : Int} (h : 0 ≤ z ∧ z < 2147483648) : (iI z).toNatClampNeg = z.toNat := Int32.toNatClampNeg_ofInt_of_le (by omega) (by omega)
theorem vp_iI {z : Int} {N : Nat} (h : -2147483648 ≤ z ∧ z < 2147483648) : vp_in (iI z) N ↔ 0 ≤ z ∧ z < (N : Int) := by rw [vp_in_iff, iI_toInt h]
theorem iI_div {a b : Int} (h : (0 ≤ a ∧ a < 2147483648) ∧ (0 < b ∧ b < 2147483648)) : iI a / iI b = iI (a / b) := by
  obtain ⟨⟨h1, h2⟩, h3, h4⟩ := h
  have e := Int32.ofInt_tdiv (a := a) (b := b) (by show (-2147483648 : Int) ≤ a; omega) (by show a ≤ (2147483647 : Int); omega) (by show (-2147483648 : Int) ≤ b; omega) (by show b ≤ (2147483647 : Int); omega)
  rw [Int.tdiv_eq_ediv_of_nonneg h1] at e
  exact e.symm
theorem iI_l {z : Int} (h : -2147483648 ≤ z ∧ z < 2147483648) : (iI z).toInt64 = iL z := Int32.toInt64_ofInt (by show (-2147483648 : Int) ≤ z; omega) (by show z ≤ (2147483647 : Int); omega)
theorem iL_add (a b : Int) : iL a + iL b = iL (a + b) := (Int64.ofInt_add a b).symm
theorem iL_sub (a b : Int) : iL a - iL b = iL (a - b) := (Int64.ofInt_sub a b).symm
theorem iL_mul (a b : Int) : iL a * iL b = iL (a * b) := (Int64.ofInt_mul a b).symm
theorem iL_neg (a : Int) : -iL a = iL (-a) := (Int64.ofInt_neg a).symm
theorem iL_le {a b : Int} (h : (-9223372036854775808 ≤ a ∧ a < 9223372036854775808) ∧ (-9223372036854775808 ≤ b ∧ b < 9223372036854775808)) : (iL a ≤ iL b) ↔ a ≤ b := by rw [Int64.le_iff_toInt_le, iL_toInt h.1, iL_toInt h.2]
theorem iL_lt {a b : Int} (h : (-9223372036854775808 ≤ a ∧ a < 9223372036854775808) ∧ (-9223372036854775808 ≤ b ∧ b < 9223372036854775808)) : (iL a < iL b) ↔ a < b := by rw [Int64.lt_iff_toInt_lt, iL_toInt h.1, iL_toInt h.2]
theorem iL_eq {a b : Int} (h : (-9223372036854775808 ≤ a ∧ a < 9223372036854775808) ∧ (-9223372036854775808 ≤ b ∧ b < 9223372036854775808)) : (iL a = iL b) ↔ a = b := by rw [← Int64.toInt_inj, iL_toInt h.1, iL_toInt h.2]
theorem iI_ite (c : Prop) [Decidable c] (a b : Int) : (if c then iI a else iI b) = iI (if c then a else b) := by split <;> rfl
theorem iL_ite (c : Prop) [Decidable c] (a b : Int) : (if c then iL a else iL b) = iL (if c then a else b) := by split <;> rfl
theorem iI_byte {z : Int} (h : -128 ≤ z ∧ z < 128) : (iI z).toInt8.toInt32 = iI z := by
  have e : (iI z).toInt8 = Int8.ofInt z := Int32.toInt8_ofInt
  rw [e]
  apply Int32.toInt_inj.mp
  rw [Int8.toInt_toInt32, iI_toInt (by omega), Int8.toInt_ofInt_of_le (by omega) (by omega)]
theorem nI_iI (n : Nat) : nI n = iI (n : Int) := Int32.ofInt_eq_ofNat.symm
theorem ofNat_iI (n : Nat) : Int32.ofNat n = iI (n : Int) := Int32.ofInt_eq_ofNat.symm
theorem nn_imp (p : Prop) : (¬ ¬ p) = p := by simp
theorem b2_ne0 (c : Prop) [Decidable c] : (b2 c = iI 0) = ¬ c := by rw [← iI_lit]; exact b2_0 c
theorem b2_eq1 (c : Prop) [Decidable c] : (b2 c = iI 1) = c := by rw [← iI_lit]; exact b2_1 c
theorem b2_tt {c : Prop} [Decidable c] (h : c) : iI 1 = b2 c := (iI_lit 1).symm.trans (b2_t h).symm
theorem b2_ff {c : Prop} [Decidable c] (h : ¬ c) : iI 0 = b2 c := (iI_lit 0).symm.trans (b2_f h).symm
/-! loops -/
def lpN {α : Type} (f : Int → α → α) : Int → Nat → α → α
  | _, 0, a => a
  | h, d + 1, a => lpN f (h + 1) d (f h a)
def lp {α : Type} (f : Int → α → α) (h n : Int) (a : α) : α := lpN f h (n - h).toNat a
theorem lp_z {α : Type} (f : Int → α → α) {h n : Int} (a : α) (hh : n ≤ h) : lp f h n a = a := by
  unfold lp; rw [show (n - h).toNat = 0 by omega]; rfl
theorem lp_s {α : Type} (f : Int → α → α) {h n : Int} (a : α) (hh : h < n) : lp f h n a = lp f (h + 1) n (f h a) := by
  unfold lp; rw [show (n - h).toNat = (n - (h + 1)).toNat + 1 by omega]; rfl
theorem lpN_l {α : Type} (f : Int → α → α) : ∀ (d : Nat) (h : Int) (a : α), lpN f h (d + 1) a = f (h + d) (lpN f h d a)
  | 0, h, a => by show f h a = f (h + ((0 : Nat) : Int)) a; rw [show h + ((0 : Nat) : Int) = h by omega]
  | d + 1, h, a => by
    show lpN f (h + 1) (d + 1) (f h a) = _
    rw [lpN_l f d (h + 1) (f h a)]
    show f (h + 1 + (d : Int)) _ = f (h + ((d + 1 : Nat) : Int)) _
    rw [show h + 1 + (d : Int) = h + ((d + 1 : Nat) : Int) by omega]
    rfl
/-- the last round -/
theorem lp_l {α : Type} (f : Int → α → α) {h n : Int} (a : α) (hh : h ≤ n) : lp f h (n + 1) a = f n (lp f h n a) := by
  unfold lp
  rw [show (n + 1 - h).toNat = (n - h).toNat + 1 by omega, lpN_l, show h + (((n - h).toNat : Nat) : Int) = n by omega]
theorem lpN_c {α : Type} {f g : Int → α → α} : ∀ (d : Nat) (h : Int) (a : α), (∀ k a, h ≤ k → k < h + d → f k a = g k a) → lpN f h d a = lpN g h d a
  | 0, _, _, _ => rfl
  | d + 1, h, a, hfg => by
    show lpN f (h + 1) d (f h a) = lpN g (h + 1) d (g h a)
    rw [hfg h a (by omega) (by omega)]
    exact lpN_c d (h + 1) _ (fun k a h1 h2 => hfg k a (by omega) (by omega))
theorem lp_c {α : Type} {f g : Int → α → α} {h n : Int} {a : α} (hfg : ∀ k a, h ≤ k → k < n → f k a = g k a) : lp f h n a = lp g h n a := by
  unfold lp
  by_cases q : h ≤ n
  · exact lpN_c _ h a (fun k a h1 h2 => hfg k a h1 (by omega))
  · rw [show (n - h).toNat = 0 by omega]; rfl
/-- what holds at the start and is kept, holds at the end -/
theorem lp_inv {α : Type} {f : Int → α → α} (I : Int → α → Prop) : ∀ (d : Nat) {h n : Int} {a : α}, (n - h).toNat = d → h ≤ n → I h a → (∀ k a, h ≤ k → k < n → I k a → I (k + 1) (f k a)) → I n (lp f h n a)
  | 0, h, n, a, hd, hn, h0, hs => by rw [lp_z f a (by omega)]; rw [show n = h by omega]; exact h0
  | d + 1, h, n, a, hd, hn, h0, hs => by
    rw [lp_s f a (by omega)]
    exact lp_inv I d (by omega) (by omega) (hs h a (by omega) (by omega) h0) (fun k a h1 h2 h3 => hs k a (by omega) h2 h3)
/-! bits -/
def bt (x : Int32) (i : Nat) : Bool := x.toBitVec.getLsbD i
theorem b_ext {x y : Int32} (h : ∀ i, i < 32 → bt x i = bt y i) : x = y := Int32.toBitVec_inj.mp (BitVec.eq_of_getLsbD_eq (fun i hi => h i hi))
theorem b_or (x y : Int32) (i : Nat) : bt (x ||| y) i = (bt x i || bt y i) := by unfold bt; rw [Int32.toBitVec_or, BitVec.getLsbD_or]
theorem b_and (x y : Int32) (i : Nat) : bt (x &&& y) i = (bt x i && bt y i) := by unfold bt; rw [Int32.toBitVec_and, BitVec.getLsbD_and]
theorem b_xor (x y : Int32) (i : Nat) : bt (x ^^^ y) i = (bt x i ^^ bt y i) := by unfold bt; rw [Int32.toBitVec_xor, BitVec.getLsbD_xor]
theorem b_big {x : Int32} {i : Nat} (h : 32 ≤ i) : bt x i = false := BitVec.getLsbD_of_ge _ _ h
theorem b_m1 : ∀ i, i < 32 → bt (-1) i = true := by decide +kernel
theorem b_0 (i : Nat) : bt 0 i = false := BitVec.getLsbD_zero
theorem b_1 : ∀ i, i < 32 → bt 1 i = decide (i = 0) := by decide +kernel
theorem s_l : ∀ n, n < 32 → ((nI n &&& 31).toBitVec.smod 32).toNat = n := by decide +kernel
theorem b_shl (n : Nat) (hn : n < 32) (x : Int32) {i : Nat} (hi : i < 32) : bt (x <<< (nI n &&& 31)) i = (decide (n ≤ i) && bt x (i - n)) := by
  unfold bt
  rw [Int32.toBitVec_shiftLeft, BitVec.shiftLeft_eq', s_l n hn, BitVec.getLsbD_shiftLeft]
  by_cases h : n ≤ i
  · simp [h, hi]
  · simp [h]
theorem b_sshr (n : Nat) (hn : n < 32) (x : Int32) {i : Nat} (hi : i < 32) : bt (x >>> (nI n &&& 31)) i = if n + i < 32 then bt x (n + i) else bt x 31 := by
  unfold bt
  rw [Int32.toBitVec_shiftRight, BitVec.sshiftRight_eq', s_l n hn, BitVec.getLsbD_sshiftRight]
  by_cases h : n + i < 32
  · simp [h, hi]
  · simp [h, hi, BitVec.msb_eq_getLsbD_last]
/-- the bit k of a set -/
def bs (x : Int32) (k : Int) : Bool := bt x k.toNat
theorem nI_of' {k : Int} (h : 0 ≤ k) : iI k = nI k.toNat := by
  rw [nI_iI]; congr 1; omega
theorem bs_v {s : Int32} {k : Int} (h : 0 ≤ k ∧ k < 31) : (s >>> (iI k &&& iI 31)) &&& iI 1 = if bs s k then 1 else 0 := by
  rw [nI_of' h.1, ← iI_lit, ← iI_lit]
  apply b_ext
  intro i hi
  rw [b_and, b_1 i hi, b_sshr _ (by omega) _ hi]
  unfold bs
  by_cases h0 : i = 0
  · subst h0
    rw [if_pos (by omega)]
    cases hb : bt s (k.toNat + 0)
    · rw [Nat.add_zero] at hb; rfl
    · rw [Nat.add_zero] at hb; rw [if_pos rfl, b_1 0 (by omega)]; rfl
  · rw [decide_eq_false h0, Bool.and_false]
    split
    · rw [b_1 i hi, decide_eq_false h0]
    · rw [b_0]
theorem bs_0 {s : Int32} {k : Int} (h : 0 ≤ k ∧ k < 31) : ((s >>> (iI k &&& iI 31)) &&& iI 1 = iI 0) ↔ bs s k = false := by
  rw [bs_v h, ← iI_lit]
  cases bs s k <;> decide
theorem bs_1 {s : Int32} {k : Int} (h : 0 ≤ k ∧ k < 31) : ((s >>> (iI k &&& iI 31)) &&& iI 1 = iI 1) ↔ bs s k = true := by
  rw [bs_v h, ← iI_lit]
  cases bs s k <;> decide
/-- the set of those below n of a kind -/
def bmN (p : Int → Bool) : Nat → Int32
  | 0 => 0
  | n + 1 => if p n then bmN p n ||| (1 <<< (nI n &&& 31)) else bmN p n
def bm (p : Int → Bool) (n : Int) : Int32 := bmN p n.toNat
theorem bt_one (n : Nat) (hn : n < 32) {i : Nat} (hi : i < 32) : bt ((1 : Int32) <<< (nI n &&& 31)) i = decide (i = n) := by
  rw [b_shl n hn 1 hi, b_1 (i - n) (by omega)]
  by_cases h : i = n
  · subst h; simp
  · rw [decide_eq_false h]
    by_cases h2 : n ≤ i
    · rw [decide_eq_false (show ¬ i - n = 0 by omega), Bool.and_false]
    · rw [decide_eq_false h2, Bool.false_and]
theorem bt_bmN (p : Int → Bool) : ∀ (n : Nat), n ≤ 32 → ∀ i, i < 32 → bt (bmN p n) i = (decide (i < n) && p i)
  | 0, _, i, _ => by show bt 0 i = _; rw [b_0]; simp
  | n + 1, hn, i, hi => by
    have e := bt_bmN p n (by omega) i hi
    unfold bmN
    by_cases hp : p n
    · rw [if_pos hp, b_or, e, bt_one n (by omega) hi]
      by_cases h : i = n
      · subst h; simp [hp]
      · rw [decide_eq_false h, Bool.or_false]; congr 1; exact decide_eq_decide.mpr (by omega)
    · rw [if_neg hp, e]
      by_cases h : i = n
      · subst h; simp only [Bool.not_eq_true] at hp; rw [hp]; simp
      · congr 1; exact decide_eq_decide.mpr (by omega)
theorem bs_bm {p : Int → Bool} {n k : Int} (h : 0 ≤ k ∧ k < 32 ∧ n ≤ 32) : bs (bm p n) k = (decide (k < n) && p k) := by
  unfold bs bm
  rw [bt_bmN p _ (by omega) _ (by omega), show ((k.toNat : Nat) : Int) = k by omega]
  congr 1; exact decide_eq_decide.mpr (by omega)
theorem bm_ext {p q : Int → Bool} {n : Int} (hn : n ≤ 32) (h : ∀ k, 0 ≤ k → k < n → p k = q k) : bm p n = bm q n := by
  unfold bm
  apply b_ext
  intro i hi
  rw [bt_bmN p _ (by omega) _ hi, bt_bmN q _ (by omega) _ hi]
  by_cases c : i < n.toNat
  · rw [h i (by omega) (by omega)]
  · rw [decide_eq_false c]; rfl
theorem bm_z (p : Int → Bool) : bm p 0 = iI 0 := rfl
theorem bm_s {p : Int → Bool} {n : Int} (h : 0 ≤ n) : bm p (n + 1) = if p n then bm p n ||| (iI 1 <<< (iI n &&& iI 31)) else bm p n := by
  unfold bm
  rw [show (n + 1).toNat = n.toNat + 1 by omega, nI_of' h, ← iI_lit, ← iI_lit]
  show (if p ((n.toNat : Nat) : Int) then _ else _) = _
  rw [show ((n.toNat : Nat) : Int) = n by omega]
theorem bm_st {p : Int → Bool} {n : Int} (h : 0 ≤ n) (hp : p n = true) : bm p n ||| (iI 1 <<< (iI n &&& iI 31)) = bm p (n + 1) := by rw [bm_s h, if_pos hp]
theorem bm_sf {p : Int → Bool} {n : Int} (h : 0 ≤ n) (hp : p n = false) : bm p n = bm p (n + 1) := by rw [bm_s h, if_neg (by rw [hp]; decide)]
/-- a set is what its bits say, if no bit of it is beyond -/
theorem eq_bm {x : Int32} {p : Int → Bool} {n : Int} (hn : 0 ≤ n ∧ n ≤ 32) (h : ∀ k, 0 ≤ k → k < 32 → bs x k = (decide (k < n) && p k)) : x = bm p n := by
  apply b_ext
  intro i hi
  have e := h i (by omega) (by omega)
  have e2 := bs_bm (p := p) (n := n) (k := i) (by omega)
  unfold bs at e e2
  rw [show ((i : Int)).toNat = i by omega] at e e2
  rw [e, e2]
theorem bs_and (x y : Int32) (k : Int) : bs (x &&& y) k = (bs x k && bs y k) := b_and _ _ _
theorem bs_or (x y : Int32) (k : Int) : bs (x ||| y) k = (bs x k || bs y k) := b_or _ _ _
theorem bs_not {x : Int32} {k : Int} (h : 0 ≤ k ∧ k < 32) : bs (x ^^^ iI (-1)) k = !bs x k := by
  unfold bs
  rw [b_xor, show iI (-1) = -1 from by decide, b_m1 _ (by omega), Bool.xor_true]
theorem bs_one {n k : Int} (h : (0 ≤ n ∧ n < 32) ∧ 0 ≤ k ∧ k < 32) : bs (iI 1 <<< (iI n &&& iI 31)) k = decide (k = n) := by
  unfold bs
  rw [nI_of' h.1.1, ← iI_lit, ← iI_lit, bt_one _ (by omega) (by omega)]
  exact decide_eq_decide.mpr (by omega)
theorem bs_zero (k : Int) : bs (iI 0) k = false := b_0 _
theorem bm_eq0 {p : Int → Bool} {n : Int} (hn : 0 ≤ n ∧ n ≤ 32) : (bm p n = iI 0) ↔ ∀ k, 0 ≤ k → k < n → p k = false := by
  constructor
  · intro e k h0 h1
    have := bs_bm (p := p) (n := n) (k := k) (by omega)
    rw [e, bs_zero, decide_eq_true h1, Bool.true_and] at this
    exact this.symm
  · intro h
    refine Eq.symm (eq_bm hn fun k h0 h1 => ?_)
    rw [bs_zero]
    by_cases c : k < n
    · rw [h k h0 c, Bool.and_false]
    · rw [decide_eq_false c]; rfl
