/-! the paper -/
def sb (w : Nat) : List Int := (([[104, 111, 108, 101], [119, 105, 114, 101], [119, 105, 110, 100, 111, 119], [108, 105, 109, 105, 116], [112, 97, 99, 101], [100, 101, 97, 100], [110, 110, 107, 110, 110, 110], [102, 110, 110], [110], [115, 108, 105, 109], [100, 101, 99, 107], [104, 101, 97, 118, 121], [98, 117, 102, 102, 101, 114], [100, 117, 109, 109, 121], [115, 116, 97, 114, 116]] : List (List Int))[w - 200]?).getD []
/-- the strings answer their length and letters -/
def SysT (S : Sp) : Prop := (∀ (w : Nat) (σ : St) (Φ : Rs), isStr w → Φ [aI (iI (((sb w).length : Nat) : Int))] σ → S 242 [aR w] σ Φ) ∧ (∀ (w : Nat) (i : Int) (σ : St) (Φ : Rs), isStr w → 0 ≤ i → i < (((sb w).length : Nat) : Int) → Φ [aI (iI ((sb w)[i.toNat]?.getD 0))] σ → S 243 [aR w, aI (iI i)] σ Φ)
/-- words by the reference's numbers -/
def wrd (k : Int) : List Int := (([[104, 111, 108, 101], [115, 108, 105, 109], [100, 101, 99, 107], [104, 101, 97, 118, 121], [98, 117, 102, 102, 101, 114], [100, 117, 109, 109, 121], [119, 105, 114, 101], [115, 116, 97, 114, 116], [119, 105, 110, 100, 111, 119], [108, 105, 109, 105, 116], [112, 97, 99, 101], [100, 101, 97, 100]] : List (List Int))[k.toNat]?).getD []
def lets : List Int := [104, 111, 108, 101, 115, 108, 105, 109, 100, 101, 99, 107, 104, 101, 97, 118, 121, 98, 117, 102, 102, 101, 114, 100, 117, 109, 109, 121, 119, 105, 114, 101, 115, 116, 97, 114, 116, 119, 105, 110, 100, 111, 119, 108, 105, 109, 105, 116, 112, 97, 99, 101, 100, 101, 97, 100]
def begs : List Int := [0, 4, 8, 12, 17, 23, 28, 32, 37, 43, 48, 52, 56]
/-- the reference's words as they lie -/
def WLM (σ : St) : Prop := (∀ i : Nat, i < 56 → σ.1 60 i = iI (lets[i]?.getD 0)) ∧ ∀ i : Nat, i < 13 → σ.1 61 i = iI (begs[i]?.getD 0)
theorem wrd_l : ∀ k : Nat, k < 12 → (((wrd k).length : Nat) : Int) = begs[k + 1]?.getD 0 - begs[k]?.getD 0 ∧ 0 ≤ begs[k]?.getD 0 ∧ begs[k + 1]?.getD 0 ≤ 56 ∧ 4 ≤ (wrd k).length ∧ (wrd k).length ≤ 6 ∧ ∀ i : Nat, i < (wrd k).length → lets[(begs[k]?.getD 0).toNat + i]?.getD 0 = (wrd k)[i]?.getD 0 := by decide
theorem wrd_b : ∀ k : Nat, k < 12 → ∀ i : Nat, i < (wrd k).length → 0 ≤ (wrd k)[i]?.getD 0 ∧ (wrd k)[i]?.getD 0 ≤ 127 := by decide
theorem sbw_b : ∀ k : Nat, k < 15 → (sb (200 + k)).length ≤ 6 ∧ ∀ i : Nat, i < (sb (200 + k)).length → 0 ≤ (sb (200 + k))[i]?.getD 0 ∧ (sb (200 + k))[i]?.getD 0 ≤ 127 := by decide
def TX (k s j : Nat) (t : List Int) (σ : St) : Prop := σ.1 s j = iI (t.length : Nat) ∧ ∀ i : Nat, i < t.length → σ.1 k i = iI (t[i]?.getD 0)
abbrev TC (t : List Int) (σ : St) : Prop := TX 35 34 1 t σ
abbrev TM (t : List Int) (σ : St) : Prop := TX 63 49 30 t σ
theorem gd_a {t u : List Int} {i : Nat} (h : i < t.length) : (t ++ u)[i]?.getD 0 = t[i]?.getD 0 := by rw [List.getElem?_append_left h]
theorem gd_b {t : List Int} {b : Int} : (t ++ [b])[t.length]?.getD 0 = b := by simp
theorem tk_1 {t l : List Int} {i : Nat} (h : i < l.length) : (t ++ l.take i) ++ [l[i]?.getD 0] = t ++ l.take (i + 1) := by
  rw [List.append_assoc, List.take_add_one, List.getElem?_eq_getElem h]; rfl
def FTX : Nat → Nat → Prop := fun k j => k = 35 ∨ (k = 34 ∧ j = 1)
def FTM : Nat → Nat → Prop := fun k j => k = 63 ∨ (k = 49 ∧ j = 30)
/-- appends a number -/
def nmb (v : Int) : List Int := [32] ++ ((if 100 ≤ v then [48 + v / 100 % 10] else []) ++ ((if 10 ≤ v then [48 + v / 10 % 10] else []) ++ [48 + v % 10]))
theorem nmb_l {v : Int} : (nmb v).length ≤ 4 ∧ (v ≤ 99 → (nmb v).length ≤ 3) ∧ (v ≤ 9 → (nmb v).length ≤ 2) := by
  unfold nmb
  by_cases a : 100 ≤ v <;> by_cases b : 10 ≤ v <;> simp [a, b] <;> omega
section C29
variable {S : Sp} {σ : St} {Φ : Rs} {P : Pl} {t : List Int}
theorem TX_up {k s j : Nat} {b : Int} {σ1 σ2 : St} (h : TX k s j t σ) (hne : ¬ k = s) (e1 : σ1 = upI σ k t.length (iI b)) (e2 : σ2 = upI σ1 s j (iI ((t.length : Nat) + 1))) : TX k s j (t ++ [b]) σ2 := by
  refine ⟨?_, fun i hi => ?_⟩
  · rw [e2, up_h rfl, List.length_append]; rfl
  · rw [List.length_append] at hi
    have hi : i < t.length + 1 := hi
    rw [e2, up_n hne, e1]
    by_cases q : i = t.length
    · subst q; rw [up_h rfl, gd_b]
    · rw [up_m q, gd_a (by omega)]; exact h.2 i (by omega)
theorem c_X5_writeByte (hS : Sys S) (hT : TC t σ) (hl : t.length < 1239) {b : Int} (hb : 0 ≤ b ∧ b ≤ 127) (hk : ∀ σ', Fr FTX σ σ' → TC (t ++ [b]) σ' → Φ [] σ') : S 74 [aR 34, aI (iI b)] σ Φ := by
  refine m_X5_writeByte hS (fun v hv hw => ?_)
  unfold vc_X5_writeByte_0
  have h0 := hT.1
  rw [iI_byte (by omega), iI_byte (by omega)]
  try simp (disch := omega) only [iI_lit, iL_lit, iI_add, iI_sub, iI_mul, iI_neg, iI_lt, iI_le, iI_eq, iI_tn, iI_div, iI_l, iL_add, iL_sub, iL_mul, iL_neg, iL_le, iL_lt, iL_eq, iL_ite, vp_T, b2_ne0, b2_eq1, nn_imp, true_and, iI_ite, not_true_eq_false, not_false_eq_true, true_implies, false_implies, and_true, Int.reduceLT, Int.reduceLE, Int.reduceEq, or_false, false_or, true_or, or_true, false_and, and_false, h0]
  refine ⟨fun _ σ1 e1 => ?_, fun c => by omega⟩
  have h1 : σ1.1 34 1 = iI (t.length : Nat) := by rw [e1, up_n (by omega)]; exact h0
  try simp (disch := omega) only [iI_lit, iL_lit, iI_add, iI_sub, iI_mul, iI_neg, iI_lt, iI_le, iI_eq, iI_tn, iI_div, iI_l, iL_add, iL_sub, iL_mul, iL_neg, iL_le, iL_lt, iL_eq, iL_ite, vp_T, b2_ne0, b2_eq1, nn_imp, true_and, iI_ite, not_true_eq_false, not_false_eq_true, true_implies, false_implies, and_true, Int.reduceLT, Int.reduceLE, Int.reduceEq, or_false, false_or, true_or, or_true, false_and, and_false, h1]
  intro σ2 e2
  exact hk σ2 (by rw [e2, e1]; exact Fr_up (Fr_up Fr_rf (Or.inl rfl)) (Or.inr ⟨rfl, rfl⟩)) (TX_up hT (by omega) e1 e2)
theorem c_X9_sign (hS : Sys S) (hT : TM t σ) (hl : t.length < 2000) {b : Int} (hk : ∀ σ', Fr FTM σ σ' → TM (t ++ [b]) σ' → Φ [] σ') : S 219 [aR 49, aI (iI b)] σ Φ := by
  refine m_X9_sign hS (fun v hv hw => ?_)
  unfold vc_X9_sign_0
  have h0 := hT.1
  try simp (disch := omega) only [iI_lit, iL_lit, iI_add, iI_sub, iI_mul, iI_neg, iI_lt, iI_le, iI_eq, iI_tn, iI_div, iI_l, iL_add, iL_sub, iL_mul, iL_neg, iL_le, iL_lt, iL_eq, iL_ite, vp_T, b2_ne0, b2_eq1, nn_imp, true_and, iI_ite, not_true_eq_false, not_false_eq_true, true_implies, false_implies, and_true, Int.reduceLT, Int.reduceLE, Int.reduceEq, or_false, false_or, true_or, or_true, false_and, and_false, h0]
  intro σ1 e1
  have h1 : σ1.1 49 30 = iI (t.length : Nat) := by rw [e1, up_n (by omega)]; exact h0
  try simp (disch := omega) only [iI_lit, iL_lit, iI_add, iI_sub, iI_mul, iI_neg, iI_lt, iI_le, iI_eq, iI_tn, iI_div, iI_l, iL_add, iL_sub, iL_mul, iL_neg, iL_le, iL_lt, iL_eq, iL_ite, vp_T, b2_ne0, b2_eq1, nn_imp, true_and, iI_ite, not_true_eq_false, not_false_eq_true, true_implies, false_implies, and_true, Int.reduceLT, Int.reduceLE, Int.reduceEq, or_false, false_or, true_or, or_true, false_and, and_false, h1]
  intro σ2 e2
  exact hk σ2 (by rw [e2, e1]; exact Fr_up (Fr_up Fr_rf (Or.inl rfl)) (Or.inr ⟨rfl, rfl⟩)) (TX_up hT (by omega) e1 e2)
theorem c_X5_writeLetters (hS : Sys S) (hT0 : SysT S) (hT : TC t σ) {w : Nat} (hw' : isStr w) (hl : t.length + (sb w).length ≤ 1239) (hk : ∀ σ', Fr FTX σ σ' → TC (t ++ sb w) σ' → Φ [] σ') : S 72 [aR 34, aR w] σ Φ := by
  refine m_X5_writeLetters hS hw' (fun v hv hw => ?_)
  unfold vc_X5_writeLetters_0
  have sbl := sbw_b (w - 200) (by have : strN = 15 := rfl; unfold isStr at hw'; omega)
  rw [show 200 + (w - 200) = w by unfold isStr at hw'; omega] at sbl
  have A : ∀ (d i : Nat) (σ1 : St), (sb w).length - i = d → i ≤ (sb w).length → Fr FTX σ σ1 → TC (t ++ (sb w).take i) σ1 → v 2 [some (aR 34), some (aR w), some (aI (iI i))] [] σ1 := by
    intro d
    induction d with
    | zero =>
      intro i σ1 hd hi hf h1
      refine w_X5_writeLetters_2 hS hv hw w hw' _ σ1 ?_
      unfold vc_X5_writeLetters_2
      refine hT0.1 w σ1 _ hw' ⟨_, rfl, ?_⟩
      rw [List.take_of_length_le (by omega)] at h1
      try simp (disch := omega) only [iI_lit, iL_lit, iI_add, iI_sub, iI_mul, iI_neg, iI_lt, iI_le, iI_eq, iI_tn, iI_div, iI_l, iL_add, iL_sub, iL_mul, iL_neg, iL_le, iL_lt, iL_eq, iL_ite, vp_T, b2_ne0, b2_eq1, nn_imp, true_and, iI_ite, not_true_eq_false, not_false_eq_true, true_implies, false_implies, and_true, Int.reduceLT, Int.reduceLE, Int.reduceEq, or_false, false_or, true_or, or_true, false_and, and_false]
      exact ⟨fun _ => hk σ1 hf h1, fun c => by omega⟩
    | succ d ih =>
      intro i σ1 hd hi hf h1
      refine w_X5_writeLetters_2 hS hv hw w hw' _ σ1 ?_
      unfold vc_X5_writeLetters_2
      refine hT0.1 w σ1 _ hw' ⟨_, rfl, ?_⟩
      try simp (disch := omega) only [iI_lit, iL_lit, iI_add, iI_sub, iI_mul, iI_neg, iI_lt, iI_le, iI_eq, iI_tn, iI_div, iI_l, iL_add, iL_sub, iL_mul, iL_neg, iL_le, iL_lt, iL_eq, iL_ite, vp_T, b2_ne0, b2_eq1, nn_imp, true_and, iI_ite, not_true_eq_false, not_false_eq_true, true_implies, false_implies, and_true, Int.reduceLT, Int.reduceLE, Int.reduceEq, or_false, false_or, true_or, or_true, false_and, and_false]
      refine ⟨fun c => by omega, fun _ => ?_⟩
      refine hT0.2 w i σ1 _ hw' (by omega) (by omega) ⟨_, rfl, ?_⟩
      rw [show ((i : Nat) : Int).toNat = i by omega]
      have ht : (t ++ (sb w).take i).length = t.length + i := by rw [List.length_append, List.length_take]; omega
      refine c_X5_writeByte hS h1 (by omega) (sbl.2 i (by omega)) (fun σ2 f2 h2 => ⟨rfl, ?_⟩)
      have e : (t ++ (sb w).take i) ++ [(sb w)[i]?.getD 0] = t ++ (sb w).take (i + 1) := tk_1 (by omega)
      rw [e] at h2
      exact ih (i + 1) σ2 (by omega) (by omega) (Fr_tr hf f2) h2
  have := A _ 0 σ rfl (by omega) Fr_rf (by rw [List.take_zero, List.append_nil]; exact hT)
  exact this
theorem c_X9_spells (hS : Sys S) (hT : TM t σ) (hW : WLM σ) {k : Nat} (h12 : k < 12) (hl : t.length + 6 < 2000) (hk : ∀ σ', Fr FTM σ σ' → TM (t ++ wrd k) σ' → Φ [] σ') : S 220 [aR 49, aI (iI k)] σ Φ := by
  refine m_X9_spells hS (fun v hv hw => ?_)
  unfold vc_X9_spells_0
  obtain ⟨w1, w2, w3, w4, w5, w6⟩ := wrd_l k h12
  have b0 := hW.2 k (by omega)
  have A : ∀ (d i : Nat) (σ1 : St), (wrd k).length - i = d → i ≤ (wrd k).length → Fr FTM σ σ1 → TM (t ++ (wrd k).take i) σ1 → v 7 [some (aR 49), some (aI (iI k)), some (aI (iI (begs[k]?.getD 0 + (i : Nat))))] [] σ1 := by
    intro d
    induction d with
    | zero =>
      intro i σ1 hd hi hf h1
      refine w_X9_spells_7 hS hv hw _ _ σ1 ?_
      unfold vc_X9_spells_7
      have b1 : σ1.1 61 ((k : Int) + 1).toNat = iI (begs[k + 1]?.getD 0) := by
        rw [hf.1 _ _ (by unfold FTM; omega), show ((k : Int) + 1).toNat = k + 1 by omega]; exact hW.2 (k + 1) (by omega)
      rw [List.take_of_length_le (by omega)] at h1
      try simp (disch := omega) only [iI_lit, iL_lit, iI_add, iI_sub, iI_mul, iI_neg, iI_lt, iI_le, iI_eq, iI_tn, iI_div, iI_l, iL_add, iL_sub, iL_mul, iL_neg, iL_le, iL_lt, iL_eq, iL_ite, vp_T, b2_ne0, b2_eq1, nn_imp, true_and, iI_ite, not_true_eq_false, not_false_eq_true, true_implies, false_implies, and_true, Int.reduceLT, Int.reduceLE, Int.reduceEq, or_false, false_or, true_or, or_true, false_and, and_false, b1]
      exact ⟨fun _ => hk σ1 hf h1, fun c => by omega⟩
    | succ d ih =>
      intro i σ1 hd hi hf h1
      refine w_X9_spells_7 hS hv hw _ _ σ1 ?_
      unfold vc_X9_spells_7
      have b1 : σ1.1 61 ((k : Int) + 1).toNat = iI (begs[k + 1]?.getD 0) := by
        rw [hf.1 _ _ (by unfold FTM; omega), show ((k : Int) + 1).toNat = k + 1 by omega]; exact hW.2 (k + 1) (by omega)
      have l1 : σ1.1 60 (begs[k]?.getD 0 + (i : Nat)).toNat = iI ((wrd k)[i]?.getD 0) := by
        rw [hf.1 _ _ (by unfold FTM; omega), show (begs[k]?.getD 0 + (i : Nat)).toNat = (begs[k]?.getD 0).toNat + i by omega, hW.1 _ (by omega), w6 i (by omega)]
      try simp (disch := omega) only [iI_lit, iL_lit, iI_add, iI_sub, iI_mul, iI_neg, iI_lt, iI_le, iI_eq, iI_tn, iI_div, iI_l, iL_add, iL_sub, iL_mul, iL_neg, iL_le, iL_lt, iL_eq, iL_ite, vp_T, b2_ne0, b2_eq1, nn_imp, true_and, iI_ite, not_true_eq_false, not_false_eq_true, true_implies, false_implies, and_true, Int.reduceLT, Int.reduceLE, Int.reduceEq, or_false, false_or, true_or, or_true, false_and, and_false, b1, l1]
      refine ⟨fun c => by omega, fun _ => ?_⟩
      have ht : (t ++ (wrd k).take i).length = t.length + i := by rw [List.length_append, List.length_take]; omega
      refine c_X9_sign hS h1 (by omega) (fun σ2 f2 h2 => ⟨rfl, ?_⟩)
      have e : (t ++ (wrd k).take i) ++ [(wrd k)[i]?.getD 0] = t ++ (wrd k).take (i + 1) := tk_1 (by omega)
      rw [e] at h2
      have := ih (i + 1) σ2 (by omega) (by omega) (Fr_tr hf f2) h2
      rw [show begs[k]?.getD 0 + ((i + 1 : Nat) : Int) = begs[k]?.getD 0 + (i : Nat) + 1 by omega] at this
      exact this
  have := A _ 0 σ rfl (by omega) Fr_rf (by rw [List.take_zero, List.append_nil]; exact hT)
  rw [show begs[k]?.getD 0 + ((0 : Nat) : Int) = begs[k]?.getD 0 by omega] at this
  try simp (disch := omega) only [iI_lit, iL_lit, iI_add, iI_sub, iI_mul, iI_neg, iI_lt, iI_le, iI_eq, iI_tn, iI_div, iI_l, iL_add, iL_sub, iL_mul, iL_neg, iL_le, iL_lt, iL_eq, iL_ite, vp_T, b2_ne0, b2_eq1, nn_imp, true_and, iI_ite, not_true_eq_false, not_false_eq_true, true_implies, false_implies, and_true, Int.reduceLT, Int.reduceLE, Int.reduceEq, or_false, false_or, true_or, or_true, false_and, and_false]
  rw [show ((k : Int)).toNat = k by omega, b0]
  exact this
end C29
