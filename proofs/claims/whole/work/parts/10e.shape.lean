/-! the kinds of places that methods are called on -/
def isPat (p : Nat) : Prop := oc p = some 1 ∧ (ch p 0 = p + 1 ∧ ch p 1 = p + 2 ∧ ch p 2 = p + 3) ∧ (tag (p + 1) = 1 ∧ ln (p + 1) = 180) ∧ (tag (p + 2) = 1 ∧ ln (p + 2) = 120) ∧ (tag (p + 3) = 1 ∧ ln (p + 3) = 3) ∧ p < 12
theorem isPat_oc {p : Nat} (h : isPat p) : oc p = some 1 := h.1
theorem isPat_c0 {p : Nat} (h : isPat p) : ch p 0 = p + 1 := h.2.1.1
theorem isPat_c1 {p : Nat} (h : isPat p) : ch p 1 = p + 2 := h.2.1.2.1
theorem isPat_c2 {p : Nat} (h : isPat p) : ch p 2 = p + 3 := h.2.1.2.2
theorem isPat_t1 {p : Nat} (h : isPat p) : tag (p + 1) = 1 := h.2.2.1.1
theorem isPat_t2 {p : Nat} (h : isPat p) : tag (p + 2) = 1 := h.2.2.2.1.1
theorem isPat_t3 {p : Nat} (h : isPat p) : tag (p + 3) = 1 := h.2.2.2.2.1.1
theorem isPat_l1 {p : Nat} (h : isPat p) : ln (p + 1) = 180 := h.2.2.1.2
theorem isPat_l2 {p : Nat} (h : isPat p) : ln (p + 2) = 120 := h.2.2.2.1.2
theorem isPat_l3 {p : Nat} (h : isPat p) : ln (p + 3) = 3 := h.2.2.2.2.1.2
theorem isPat_lt1 {p : Nat} (h : isPat p) : p + 1 < 100 := by have := h.2.2.2.2.2; omega
theorem isPat_lt2 {p : Nat} (h : isPat p) : p + 2 < 100 := by have := h.2.2.2.2.2; omega
theorem isPat_lt3 {p : Nat} (h : isPat p) : p + 3 < 100 := by have := h.2.2.2.2.2; omega
theorem isPat_1 : isPat 1 := by unfold isPat; decide
theorem isPat_5 : isPat 5 := by unfold isPat; decide
theorem isPat_9 : isPat 9 := by unfold isPat; decide
def isSh (s : Nat) : Prop := oc s = some 6 ∧ (ch s 0 = s + 1 ∧ ch s 1 = s + 2 ∧ ch s 2 = s + 3) ∧ (tag (s + 1) = 1 ∧ ln (s + 1) = 40) ∧ (tag (s + 2) = 1 ∧ ln (s + 2) = 40) ∧ (tag (s + 3) = 1 ∧ ln (s + 3) = 40) ∧ (13 ≤ s ∧ s < 40)
theorem isSh_oc {s : Nat} (h : isSh s) : oc s = some 6 := h.1
theorem isSh_c0 {s : Nat} (h : isSh s) : ch s 0 = s + 1 := h.2.1.1
theorem isSh_c1 {s : Nat} (h : isSh s) : ch s 1 = s + 2 := h.2.1.2.1
theorem isSh_c2 {s : Nat} (h : isSh s) : ch s 2 = s + 3 := h.2.1.2.2
theorem isSh_t1 {s : Nat} (h : isSh s) : tag (s + 1) = 1 := h.2.2.1.1
theorem isSh_t2 {s : Nat} (h : isSh s) : tag (s + 2) = 1 := h.2.2.2.1.1
theorem isSh_t3 {s : Nat} (h : isSh s) : tag (s + 3) = 1 := h.2.2.2.2.1.1
theorem isSh_l1 {s : Nat} (h : isSh s) : ln (s + 1) = 40 := h.2.2.1.2
theorem isSh_l2 {s : Nat} (h : isSh s) : ln (s + 2) = 40 := h.2.2.2.1.2
theorem isSh_l3 {s : Nat} (h : isSh s) : ln (s + 3) = 40 := h.2.2.2.2.1.2
theorem isSh_lt1 {s : Nat} (h : isSh s) : s + 1 < 100 := by have := h.2.2.2.2.2; omega
theorem isSh_lt2 {s : Nat} (h : isSh s) : s + 2 < 100 := by have := h.2.2.2.2.2; omega
theorem isSh_lt3 {s : Nat} (h : isSh s) : s + 3 < 100 := by have := h.2.2.2.2.2; omega
theorem isSh_16 : isSh 16 := by unfold isSh; decide
theorem isSh_23 : isSh 23 := by unfold isSh; decide
theorem isSh_30 : isSh 30 := by unfold isSh; decide
def isBl (b : Nat) : Prop := oc b = some 0 ∧ (ch b 0 = 1 ∧ ch b 1 = b + 1 ∧ ch b 2 = b + 2 ∧ ch b 3 = b + 3) ∧ (tag (b + 1) = 1 ∧ ln (b + 1) = 20) ∧ (tag (b + 2) = 1 ∧ ln (b + 2) = 20) ∧ (13 ≤ b ∧ b < 27) ∧ isSh (b + 3)
theorem isBl_oc {b : Nat} (h : isBl b) : oc b = some 0 := h.1
theorem isBl_c0 {b : Nat} (h : isBl b) : ch b 0 = 1 := h.2.1.1
theorem isBl_c1 {b : Nat} (h : isBl b) : ch b 1 = b + 1 := h.2.1.2.1
theorem isBl_c2 {b : Nat} (h : isBl b) : ch b 2 = b + 2 := h.2.1.2.2.1
theorem isBl_c3 {b : Nat} (h : isBl b) : ch b 3 = b + 3 := h.2.1.2.2.2
theorem isBl_t1 {b : Nat} (h : isBl b) : tag (b + 1) = 1 := h.2.2.1.1
theorem isBl_t2 {b : Nat} (h : isBl b) : tag (b + 2) = 1 := h.2.2.2.1.1
theorem isBl_l1 {b : Nat} (h : isBl b) : ln (b + 1) = 20 := h.2.2.1.2
theorem isBl_l2 {b : Nat} (h : isBl b) : ln (b + 2) = 20 := h.2.2.2.1.2
theorem isBl_lt1 {b : Nat} (h : isBl b) : b + 1 < 100 := by have := h.2.2.2.2.1; omega
theorem isBl_lt2 {b : Nat} (h : isBl b) : b + 2 < 100 := by have := h.2.2.2.2.1; omega
theorem isBl_sh {b : Nat} (h : isBl b) : isSh (b + 3) := h.2.2.2.2.2
theorem isBl_s0 {b : Nat} (h : isBl b) : ch (b + 3) 0 = b + 4 := isSh_c0 (isBl_sh h)
theorem isBl_s1 {b : Nat} (h : isBl b) : ch (b + 3) 1 = b + 5 := isSh_c1 (isBl_sh h)
theorem isBl_s2 {b : Nat} (h : isBl b) : ch (b + 3) 2 = b + 6 := isSh_c2 (isBl_sh h)
theorem isBl_t4 {b : Nat} (h : isBl b) : tag (b + 4) = 1 := isSh_t1 (isBl_sh h)
theorem isBl_t5 {b : Nat} (h : isBl b) : tag (b + 5) = 1 := isSh_t2 (isBl_sh h)
theorem isBl_t6 {b : Nat} (h : isBl b) : tag (b + 6) = 1 := isSh_t3 (isBl_sh h)
theorem isBl_l4 {b : Nat} (h : isBl b) : ln (b + 4) = 40 := isSh_l1 (isBl_sh h)
theorem isBl_l5 {b : Nat} (h : isBl b) : ln (b + 5) = 40 := isSh_l2 (isBl_sh h)
theorem isBl_l6 {b : Nat} (h : isBl b) : ln (b + 6) = 40 := isSh_l3 (isBl_sh h)
theorem isBl_lt4 {b : Nat} (h : isBl b) : b + 4 < 100 := by have := h.2.2.2.2.1; omega
theorem isBl_lt5 {b : Nat} (h : isBl b) : b + 5 < 100 := by have := h.2.2.2.2.1; omega
theorem isBl_lt6 {b : Nat} (h : isBl b) : b + 6 < 100 := by have := h.2.2.2.2.1; omega
theorem isBl_13 : isBl 13 := by unfold isBl isSh; decide
theorem isBl_20 : isBl 20 := by unfold isBl isSh; decide
def isArr (t a n : Nat) : Prop := tag a = t ∧ ln a = n ∧ a < 100
def isStr (w : Nat) : Prop := 200 ≤ w ∧ w < 200 + strN
theorem rcv_o {a x : Nat} (h9 : x ≠ 99) (h : oc a = some x) : rcv a x := by unfold rcv; rw [if_neg h9]; exact h
theorem rcv_s {a : Nat} (h : isStr a) : rcv a 99 := by unfold rcv; rw [if_pos rfl]; exact h
theorem row_t {i : Int32} (h : vp_in i 4) : tag (43 + i.toNatClampNeg) = 4 := by
  have hlt : i.toNatClampNeg < 4 := Nat.not_le.mp fun q => h (Or.inr q)
  generalize i.toNatClampNeg = n at hlt ⊢
  match n, hlt with
  | 0, _ => rfl
  | 1, _ => rfl
  | 2, _ => rfl
  | 3, _ => rfl
theorem row_l {i : Int32} (h : vp_in i 4) : ln (43 + i.toNatClampNeg) = 40 := by
  have hlt : i.toNatClampNeg < 4 := Nat.not_le.mp fun q => h (Or.inr q)
  generalize i.toNatClampNeg = n at hlt ⊢
  match n, hlt with
  | 0, _ => rfl
  | 1, _ => rfl
  | 2, _ => rfl
  | 3, _ => rfl
