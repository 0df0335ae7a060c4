def FSH : Nat → Nat → Prop := fun k j => k = 55 ∨ k = 56 ∨ k = 57 ∨ (k = 49 ∧ j = 12)
def FS3 (s : Nat) : Nat → Nat → Prop := fun k j => k = s + 1 ∨ k = s + 2 ∨ k = s + 3 ∨ (k = s ∧ 3 ≤ j)
/-- shots in some arrays, with a number of them -/
def MS (a : Zr) (σ : St) : Prop := SR 55 56 57 a.1 a.2 σ ∧ σ.1 49 12 = iI a.2
def CS (s : Nat) (a : Zr) (σ : St) : Prop := SR (s + 1) (s + 2) (s + 3) a.1 a.2 σ ∧ σ.1 s 3 = iI a.2
theorem SR_f {a1 a2 a3 : Nat} {Z : Int → Z3} {n : Int} {σ σ' : St} {c : Nat → Nat → Prop} (h : SR a1 a2 a3 Z n σ) (hf : Fr c σ σ') (h1 : ∀ j, ¬ c a1 j) (h2 : ∀ j, ¬ c a2 j) (h3 : ∀ j, ¬ c a3 j) : SR a1 a2 a3 Z n σ' := by
  intro i i0 i1
  rw [Fr_k hf h1, Fr_k hf h2, Fr_k hf h3]; exact h i i0 i1
theorem MS_f {a : Zr} {σ σ' : St} {c : Nat → Nat → Prop} (h : MS a σ) (hf : Fr c σ σ') (h1 : ∀ k j, k = 55 ∨ k = 56 ∨ k = 57 ∨ (k = 49 ∧ j = 12) → ¬ c k j) : MS a σ' :=
  ⟨SR_f h.1 hf (fun j => h1 _ _ (by omega)) (fun j => h1 _ _ (by omega)) (fun j => h1 _ _ (by omega)), by rw [hf.1 _ _ (h1 _ _ (by omega))]; exact h.2⟩
theorem CS_f {s : Nat} {a : Zr} {σ σ' : St} {c : Nat → Nat → Prop} (h : CS s a σ) (hf : Fr c σ σ') (h1 : ∀ k j, k = s + 1 ∨ k = s + 2 ∨ k = s + 3 ∨ (k = s ∧ j = 3) → ¬ c k j) : CS s a σ' :=
  ⟨SR_f h.1 hf (fun j => h1 _ _ (by omega)) (fun j => h1 _ _ (by omega)) (fun j => h1 _ _ (by omega)), by rw [hf.1 _ _ (h1 _ _ (by omega))]; exact h.2⟩
theorem layF_t {P : Pl} {F : Int → Bool} {T : Int → Int} {h : Int} {a : Zr} (c : F h = true) : layF P F T h a = addA P h (T h) a := if_pos c
theorem layF_f {P : Pl} {F : Int → Bool} {T : Int → Int} {h : Int} {a : Zr} (c : ¬ F h = true) : layF P F T h a = a := if_neg c
section C21
variable {S : Sp} {σ : St} {Φ : Rs} {P : Pl} {s : Nat} {F : Int → Bool} {T : Int → Int}
theorem c_X9_shoots (hS : Sys S) {a : Zr} (hz : MS a σ) (ho : okZ a.1 a.2) (hn : a.2 < 40) {h t l : Int} (ht : 0 ≤ t ∧ t ≤ 20000) (hk : ∀ σ', Fr FSH σ σ' → MS (ins a.1 a.2 (t, l, h), a.2 + 1) σ' → Φ [] σ') : S 180 [aR 49, aI (iI h), aI (iI t), aI (iI l)] σ Φ := by
  refine m_X9_shoots hS (fun v hv hw => ?_)
  unfold vc_X9_shoots_0
  obtain ⟨Z, n⟩ := a
  obtain ⟨hz, hz2⟩ := hz
  dsimp only at hz hz2 ho hn hk ⊢
  have hn0 := ho.1
  have L : ∀ (d : Nat) (k : Int) (σ1 : St), k.toNat = d → 0 ≤ k → k ≤ n → Fr FSH σ σ1 → σ1.1 49 12 = iI n → (∀ i : Int, 0 ≤ i → i < k → σ1.1 55 i.toNat = iI (Z i).1 ∧ σ1.1 56 i.toNat = iI (Z i).2.1 ∧ σ1.1 57 i.toNat = iI (Z i).2.2) → (∀ i : Int, k < i → i ≤ n → σ1.1 55 i.toNat = iI (Z (i - 1)).1 ∧ σ1.1 56 i.toNat = iI (Z (i - 1)).2.1 ∧ σ1.1 57 i.toNat = iI (Z (i - 1)).2.2) → (∀ j, k ≤ j → j < n → t < (Z j).1) → v 6 [some (aR 49), some (aI (iI h)), some (aI (iI t)), some (aI (iI l)), some (aI (iI k))] [] σ1 := by
    -- the place is found
    have E : ∀ (k : Int) (σ1 : St), 0 ≤ k → k ≤ n → (k = 0 ∨ (Z (k - 1)).1 ≤ t) → Fr FSH σ σ1 → σ1.1 49 12 = iI n → (∀ i : Int, 0 ≤ i → i < k → σ1.1 55 i.toNat = iI (Z i).1 ∧ σ1.1 56 i.toNat = iI (Z i).2.1 ∧ σ1.1 57 i.toNat = iI (Z i).2.2) → (∀ i : Int, k < i → i ≤ n → σ1.1 55 i.toNat = iI (Z (i - 1)).1 ∧ σ1.1 56 i.toNat = iI (Z (i - 1)).2.1 ∧ σ1.1 57 i.toNat = iI (Z (i - 1)).2.2) → (∀ j, k ≤ j → j < n → t < (Z j).1) → vc_X9_shoots_78 S Φ v (iI h) (iI t) (iI l) (iI k) σ1 := by
      intro k σ1 k0 k1 hst hf hc b1 b2 b3
      unfold vc_X9_shoots_78
      try simp (disch := omega) only [iI_lit, iL_lit, iI_add, iI_sub, iI_mul, iI_neg, iI_lt, iI_le, iI_eq, iI_tn, iI_div, iI_l, iL_add, iL_sub, iL_mul, iL_neg, iL_le, iL_lt, iL_eq, iL_ite, vp_T, b2_ne0, b2_eq1, nn_imp, true_and, iI_ite, not_true_eq_false, not_false_eq_true, true_implies, false_implies, and_true, Int.reduceLT, Int.reduceLE, Int.reduceEq, or_false, false_or, true_or, or_true, false_and, and_false]
      intro σ2 e2 σ3 e3 σ4 e4
      have c4 : σ4.1 49 12 = iI n := by rw [e4, up_n (by omega), e3, up_n (by omega), e2, up_n (by omega)]; exact hc
      try simp (disch := omega) only [iI_lit, iL_lit, iI_add, iI_sub, iI_mul, iI_neg, iI_lt, iI_le, iI_eq, iI_tn, iI_div, iI_l, iL_add, iL_sub, iL_mul, iL_neg, iL_le, iL_lt, iL_eq, iL_ite, vp_T, b2_ne0, b2_eq1, nn_imp, true_and, iI_ite, not_true_eq_false, not_false_eq_true, true_implies, false_implies, and_true, Int.reduceLT, Int.reduceLE, Int.reduceEq, or_false, false_or, true_or, or_true, false_and, and_false, c4]
      intro σ5 e5
      have hp : ps Z n t = k := ps_eq k0 k1 b3 hst
      refine hk σ5 (by rw [e5, e4, e3, e2]; exact Fr_up (Fr_up (Fr_up (Fr_up hf (Or.inl rfl)) (Or.inr (Or.inl rfl))) (Or.inr (Or.inr (Or.inl rfl)))) (Or.inr (Or.inr (Or.inr ⟨rfl, rfl⟩)))) ⟨fun i i0 i1 => ?_, by rw [e5]; exact up_h rfl⟩
      dsimp only at i1 ⊢
      rw [e5, e4, e3, e2]
      by_cases c1 : i < k
      · rw [ins_lt (by show i < ps Z n t; omega)]; simp (disch := omega) only [up_h, up_m, up_n, ]; exact b1 i i0 c1
      · by_cases c2 : i = k
        · rw [ins_eq (by show i = ps Z n t; omega)]; simp (disch := omega) only [up_h, up_m, up_n, ]; exact ⟨trivial, trivial, trivial⟩
        · rw [ins_gt (by show ps Z n t < i; omega)]; simp (disch := omega) only [up_h, up_m, up_n, ]; exact b2 i (by omega) (by omega)
    intro d
    induction d with
    | zero =>
      intro k σ1 hd k0 k1 hf hc b1 b2 b3
      refine w_X9_shoots_6 hS hv hw _ _ _ _ σ1 ?_
      unfold vc_X9_shoots_6
      try simp (disch := omega) only [iI_lit, iL_lit, iI_add, iI_sub, iI_mul, iI_neg, iI_lt, iI_le, iI_eq, iI_tn, iI_div, iI_l, iL_add, iL_sub, iL_mul, iL_neg, iL_le, iL_lt, iL_eq, iL_ite, vp_T, b2_ne0, b2_eq1, nn_imp, true_and, iI_ite, not_true_eq_false, not_false_eq_true, true_implies, false_implies, and_true, Int.reduceLT, Int.reduceLE, Int.reduceEq, or_false, false_or, true_or, or_true, false_and, and_false]
      exact ⟨fun _ => E k σ1 k0 k1 (Or.inl (by omega)) hf hc b1 b2 b3, fun c => by omega⟩
    | succ d ih =>
      intro k σ1 hd k0 k1 hf hc b1 b2 b3
      refine w_X9_shoots_6 hS hv hw _ _ _ _ σ1 ?_
      unfold vc_X9_shoots_6
      have q := b1 (k - 1) (by omega) (by omega)
      have r := okZ_r ho (i := k - 1) (by omega) (by omega)
      try simp (disch := omega) only [iI_lit, iL_lit, iI_add, iI_sub, iI_mul, iI_neg, iI_lt, iI_le, iI_eq, iI_tn, iI_div, iI_l, iL_add, iL_sub, iL_mul, iL_neg, iL_le, iL_lt, iL_eq, iL_ite, vp_T, b2_ne0, b2_eq1, nn_imp, true_and, iI_ite, not_true_eq_false, not_false_eq_true, true_implies, false_implies, and_true, Int.reduceLT, Int.reduceLE, Int.reduceEq, or_false, false_or, true_or, or_true, false_and, and_false, q.1]
      refine ⟨fun c => by omega, fun _ => ⟨fun c => E k σ1 k0 k1 (Or.inr c) hf hc b1 b2 b3, fun c => ?_⟩⟩
      intro σ2 e2
      have q2 : σ2.1 56 (k - 1).toNat = iI (Z (k - 1)).2.1 := by rw [e2, up_n (by omega)]; exact q.2.1
      rw [q2]
      intro σ3 e3
      have q3 : σ3.1 57 (k - 1).toNat = iI (Z (k - 1)).2.2 := by rw [e3, up_n (by omega), e2, up_n (by omega)]; exact q.2.2
      rw [q3]
      intro σ4 e4
      refine ih (k + -1) σ4 (by omega) (by omega) (by omega) (by rw [e4, e3, e2]; exact Fr_up (Fr_up (Fr_up hf (Or.inl rfl)) (Or.inr (Or.inl rfl))) (Or.inr (Or.inr (Or.inl rfl)))) ?_ (fun i i0 i1 => ?_) (fun i i0 i1 => ?_) (fun j j0 j1 => ?_)
      · rw [e4, up_n (by omega), e3, up_n (by omega), e2, up_n (by omega)]; exact hc
      · rw [e4, e3, e2]; simp (disch := omega) only [up_h, up_m, up_n, ]; exact b1 i i0 (by omega)
      · rw [e4, e3, e2]
        by_cases c2 : i = k
        · subst c2; simp (disch := omega) only [up_h, up_m, up_n, ]; exact ⟨trivial, trivial, trivial⟩
        · simp (disch := omega) only [up_h, up_m, up_n, ]; exact b2 i (by omega) i1
      · by_cases c2 : j = k - 1
        · subst c2; omega
        · exact b3 j (by omega) j1
  rw [hz2]
  exact L _ n σ rfl hn0.1 (Int.le_refl _) Fr_rf hz2 (fun i i0 i1 => hz i i0 i1) (fun i i0 i1 => by omega) (fun j j0 j1 => by omega)
theorem c_X7_insert (hS : Sys S) (h_s : isSh s) {a : Zr} (hz : CS s a σ) (ho : okZ a.1 a.2) (hn : a.2 < 40) {h t l : Int} (ht : 0 ≤ t ∧ t ≤ 20000) (hl : 0 ≤ l ∧ l ≤ 100) (hk : ∀ σ', Fr (FS3 s) σ σ' → CS s (addS (t, l, h) a) σ' → Φ [] σ') : S 84 [aR s, aI (iI t), aI (iI l), aI (iI h)] σ Φ := by
  refine m_X7_insert hS h_s (fun v hv hw => ?_)
  unfold vc_X7_insert_0
  obtain ⟨Z, n⟩ := a
  have hz0 := hz
  obtain ⟨hz, hz2⟩ := hz
  unfold addS at hk
  dsimp only at hz hz2 ho hn hk ⊢
  have hn0 := ho.1
  have L : ∀ (d : Nat) (k : Int) (σ1 : St), ¬ l = 0 → k.toNat = d → 0 ≤ k → k ≤ n → Fr (FS3 s) σ σ1 → σ1.1 s 3 = iI n → (∀ i : Int, 0 ≤ i → i < k → σ1.1 (s + 1) i.toNat = iI (Z i).1 ∧ σ1.1 (s + 2) i.toNat = iI (Z i).2.1 ∧ σ1.1 (s + 3) i.toNat = iI (Z i).2.2) → (∀ i : Int, k < i → i ≤ n → σ1.1 (s + 1) i.toNat = iI (Z (i - 1)).1 ∧ σ1.1 (s + 2) i.toNat = iI (Z (i - 1)).2.1 ∧ σ1.1 (s + 3) i.toNat = iI (Z (i - 1)).2.2) → (∀ j, k ≤ j → j < n → t < (Z j).1) → v 20 [some (aR s), some (aI (iI t)), some (aI (iI l)), some (aI (iI h)), some (aI (iI k))] [] σ1 := by
    have E : ∀ (k : Int) (σ1 : St), ¬ l = 0 → 0 ≤ k → k ≤ n → (k = 0 ∨ (Z (k - 1)).1 ≤ t) → Fr (FS3 s) σ σ1 → σ1.1 s 3 = iI n → (∀ i : Int, 0 ≤ i → i < k → σ1.1 (s + 1) i.toNat = iI (Z i).1 ∧ σ1.1 (s + 2) i.toNat = iI (Z i).2.1 ∧ σ1.1 (s + 3) i.toNat = iI (Z i).2.2) → (∀ i : Int, k < i → i ≤ n → σ1.1 (s + 1) i.toNat = iI (Z (i - 1)).1 ∧ σ1.1 (s + 2) i.toNat = iI (Z (i - 1)).2.1 ∧ σ1.1 (s + 3) i.toNat = iI (Z (i - 1)).2.2) → (∀ j, k ≤ j → j < n → t < (Z j).1) → vc_X7_insert_92 S Φ v s (iI t) (iI l) (iI h) (iI k) σ1 := by
      intro k σ1 hl0 k0 k1 hst hf hc b1 b2 b3
      unfold vc_X7_insert_92
      try simp (disch := omega) only [iI_lit, iL_lit, iI_add, iI_sub, iI_mul, iI_neg, iI_lt, iI_le, iI_eq, iI_tn, iI_div, iI_l, iL_add, iL_sub, iL_mul, iL_neg, iL_le, iL_lt, iL_eq, iL_ite, vp_T, b2_ne0, b2_eq1, nn_imp, true_and, iI_ite, not_true_eq_false, not_false_eq_true, true_implies, false_implies, and_true, Int.reduceLT, Int.reduceLE, Int.reduceEq, or_false, false_or, true_or, or_true, false_and, and_false]
      intro σ2 e2 σ3 e3 σ4 e4
      have c4 : σ4.1 s 3 = iI n := by rw [e4, up_n (by omega), e3, up_n (by omega), e2, up_n (by omega)]; exact hc
      try simp (disch := omega) only [iI_lit, iL_lit, iI_add, iI_sub, iI_mul, iI_neg, iI_lt, iI_le, iI_eq, iI_tn, iI_div, iI_l, iL_add, iL_sub, iL_mul, iL_neg, iL_le, iL_lt, iL_eq, iL_ite, vp_T, b2_ne0, b2_eq1, nn_imp, true_and, iI_ite, not_true_eq_false, not_false_eq_true, true_implies, false_implies, and_true, Int.reduceLT, Int.reduceLE, Int.reduceEq, or_false, false_or, true_or, or_true, false_and, and_false, c4]
      intro σ5 e5
      have hp : ps Z n t = k := ps_eq k0 k1 b3 hst
      rw [if_neg hl0] at hk
      refine hk σ5 (by rw [e5, e4, e3, e2]; exact Fr_up (Fr_up (Fr_up (Fr_up hf (by unfold FS3; omega)) (by unfold FS3; omega)) (by unfold FS3; omega)) (by unfold FS3; omega)) ⟨fun i i0 i1 => ?_, by rw [e5]; exact up_h rfl⟩
      dsimp only at i1 ⊢
      rw [e5, e4, e3, e2]
      by_cases c1 : i < k
      · rw [ins_lt (by show i < ps Z n t; omega)]; simp (disch := omega) only [up_h, up_m, up_n, ]; exact b1 i i0 c1
      · by_cases c2 : i = k
        · rw [ins_eq (by show i = ps Z n t; omega)]; simp (disch := omega) only [up_h, up_m, up_n, ]; exact ⟨trivial, trivial, trivial⟩
        · rw [ins_gt (by show ps Z n t < i; omega)]; simp (disch := omega) only [up_h, up_m, up_n, ]; exact b2 i (by omega) (by omega)
    intro d
    induction d with
    | zero =>
      intro k σ1 hl0 hd k0 k1 hf hc b1 b2 b3
      refine w_X7_insert_20 hS hv hw s h_s _ _ _ _ σ1 ?_
      unfold vc_X7_insert_20
      try simp (disch := omega) only [iI_lit, iL_lit, iI_add, iI_sub, iI_mul, iI_neg, iI_lt, iI_le, iI_eq, iI_tn, iI_div, iI_l, iL_add, iL_sub, iL_mul, iL_neg, iL_le, iL_lt, iL_eq, iL_ite, vp_T, b2_ne0, b2_eq1, nn_imp, true_and, iI_ite, not_true_eq_false, not_false_eq_true, true_implies, false_implies, and_true, Int.reduceLT, Int.reduceLE, Int.reduceEq, or_false, false_or, true_or, or_true, false_and, and_false]
      exact ⟨fun _ => E k σ1 hl0 k0 k1 (Or.inl (by omega)) hf hc b1 b2 b3, fun c => by omega⟩
    | succ d ih =>
      intro k σ1 hl0 hd k0 k1 hf hc b1 b2 b3
      refine w_X7_insert_20 hS hv hw s h_s _ _ _ _ σ1 ?_
      unfold vc_X7_insert_20
      have q := b1 (k - 1) (by omega) (by omega)
      have r := okZ_r ho (i := k - 1) (by omega) (by omega)
      try simp (disch := omega) only [iI_lit, iL_lit, iI_add, iI_sub, iI_mul, iI_neg, iI_lt, iI_le, iI_eq, iI_tn, iI_div, iI_l, iL_add, iL_sub, iL_mul, iL_neg, iL_le, iL_lt, iL_eq, iL_ite, vp_T, b2_ne0, b2_eq1, nn_imp, true_and, iI_ite, not_true_eq_false, not_false_eq_true, true_implies, false_implies, and_true, Int.reduceLT, Int.reduceLE, Int.reduceEq, or_false, false_or, true_or, or_true, false_and, and_false, q.1]
      refine ⟨fun c => by omega, fun _ => ⟨fun c => E k σ1 hl0 k0 k1 (Or.inr c) hf hc b1 b2 b3, fun c => ?_⟩⟩
      intro σ2 e2
      have q2 : σ2.1 (s + 2) (k - 1).toNat = iI (Z (k - 1)).2.1 := by rw [e2, up_n (by omega)]; exact q.2.1
      rw [q2]
      intro σ3 e3
      have q3 : σ3.1 (s + 3) (k - 1).toNat = iI (Z (k - 1)).2.2 := by rw [e3, up_n (by omega), e2, up_n (by omega)]; exact q.2.2
      rw [q3]
      intro σ4 e4
      refine ih (k + -1) σ4 hl0 (by omega) (by omega) (by omega) (by rw [e4, e3, e2]; exact Fr_up (Fr_up (Fr_up hf (by unfold FS3; omega)) (by unfold FS3; omega)) (by unfold FS3; omega)) ?_ (fun i i0 i1 => ?_) (fun i i0 i1 => ?_) (fun j j0 j1 => ?_)
      · rw [e4, up_n (by omega), e3, up_n (by omega), e2, up_n (by omega)]; exact hc
      · rw [e4, e3, e2]; simp (disch := omega) only [up_h, up_m, up_n, ]; exact b1 i i0 (by omega)
      · rw [e4, e3, e2]
        by_cases c2 : i = k
        · subst c2; simp (disch := omega) only [up_h, up_m, up_n, ]; exact ⟨trivial, trivial, trivial⟩
        · simp (disch := omega) only [up_h, up_m, up_n, ]; exact b2 i (by omega) i1
      · by_cases c2 : j = k - 1
        · subst c2; omega
        · exact b3 j (by omega) j1
  try simp (disch := omega) only [iI_lit, iL_lit, iI_add, iI_sub, iI_mul, iI_neg, iI_lt, iI_le, iI_eq, iI_tn, iI_div, iI_l, iL_add, iL_sub, iL_mul, iL_neg, iL_le, iL_lt, iL_eq, iL_ite, vp_T, b2_ne0, b2_eq1, nn_imp, true_and, iI_ite, not_true_eq_false, not_false_eq_true, true_implies, false_implies, and_true, Int.reduceLT, Int.reduceLE, Int.reduceEq, or_false, false_or, true_or, or_true, false_and, and_false, hz2]
  refine ⟨fun c => ?_, fun c => ⟨fun _ => L _ n σ c rfl hn0.1 (Int.le_refl _) Fr_rf hz2 (fun i i0 i1 => hz i i0 i1) (fun i i0 i1 => by omega) (fun j j0 j1 => by omega), fun q => by omega⟩⟩
  rw [if_pos c] at hk
  exact hk σ Fr_rf hz0
theorem c_X7_addAll (hS : Sys S) (h_s : isSh s) (hC : CP 1 P σ) (hW : WF P) {a : Zr} (hz : CS s a σ) (ho : okZ a.1 a.2) (hn : a.2 ≤ 38) {h t : Int} (h0 : 0 ≤ h) (h1 : h < P 280) (ht : 0 ≤ t ∧ t ≤ 15000) (hk : ∀ σ', Fr (FS3 s) σ σ' → CS s (addA P h t a) σ' → Φ [] σ') : S 83 [aR s, aR 1, aI (iI h), aI (iI t)] σ Φ := by
  refine m_X7_addAll hS h_s (fun v hv hw => ?_)
  unfold vc_X7_addAll_0
  have hs : 13 ≤ s ∧ s < 40 := h_s.2.2.2.2.2
  have r1 := fl_r hW h0 h1
  have r2 := sl_r hW h0 h1
  have g0 := WF_0 hW
  refine c_X2_firstLoadOf hS isPat_1 hC hW h0 h1 ⟨_, rfl, ?_⟩
  refine c_X7_insert hS h_s hz ho (by omega) (by omega) r1 (fun σ1 f1 z1 => ⟨rfl, ?_⟩)
  have C1 := CP_f hC f1 (fun k j a b => by unfold FS3; omega)
  refine c_X2_secondLoadOf hS isPat_1 C1 hW h0 h1 ⟨_, rfl, ?_⟩
  have q1 := okZ_addS (x := (t, fl P h, h)) ho (by omega) (by
    by_cases c : fl P h = 0
    · exact Or.inl c
    · exact Or.inr ⟨by show 0 ≤ t ∧ t ≤ 20000; omega, by show 1 ≤ fl P h ∧ fl P h ≤ 100; omega, by show 0 ≤ h ∧ h < 20; omega⟩)
  try simp (disch := omega) only [iI_lit, iL_lit, iI_add, iI_sub, iI_mul, iI_neg, iI_lt, iI_le, iI_eq, iI_tn, iI_div, iI_l, iL_add, iL_sub, iL_mul, iL_neg, iL_le, iL_lt, iL_eq, iL_ite, vp_T, b2_ne0, b2_eq1, nn_imp, true_and, iI_ite, not_true_eq_false, not_false_eq_true, true_implies, false_implies, and_true, Int.reduceLT, Int.reduceLE, Int.reduceEq, or_false, false_or, true_or, or_true, false_and, and_false]
  exact c_X7_insert hS h_s z1 q1.1 (by omega) (by omega) (by omega) (fun σ2 f2 z2 => ⟨rfl, hk σ2 (Fr_tr f1 f2) z2⟩)
theorem c_X9_laysShots (hS : Sys S) (hM : MP 50 P σ) (hW : WF P) (hT : ∀ h, 0 ≤ h → h < P 280 → F h = true → σ.1 54 h.toNat = iI (T h) ∧ 0 ≤ T h ∧ T h ≤ 15000) (hk5 : ∀ h, 0 ≤ h → h < P 280 → F h = true → ¬ P (8 * h + 2) = 5) (hk : ∀ σ', Fr FSH σ σ' → MS (shL P F T) σ' → Φ [] σ') : S 181 [aR 49, aI (bm F (P 280))] σ Φ := by
  refine m_X9_laysShots hS (fun v hv hw => ?_)
  unfold vc_X9_laysShots_0
  have g0 := WF_0 hW
  intro σ1 e1
  have L : ∀ (d : Nat) (h : Int) (σ1 : St), (P 280 - h).toNat = d → 0 ≤ h → h ≤ P 280 → Fr FSH σ σ1 → MS (lp (layF P F T) 0 h z0) σ1 → v 7 [some (aR 49), some (aI (bm F (P 280))), some (aI (iI h))] [] σ1 := by
    intro d
    induction d with
    | zero =>
      intro h σ1 hd h0 h1 hf hm
      refine w_X9_laysShots_7 hS hv hw _ _ σ1 ?_
      unfold vc_X9_laysShots_7
      have mp := MP_f hM hf (fun j => by unfold FSH; omega)
      rw [show h = P 280 by omega] at hm ⊢
      try simp (disch := omega) only [iI_lit, iL_lit, iI_add, iI_sub, iI_mul, iI_neg, iI_lt, iI_le, iI_eq, iI_tn, iI_div, iI_l, iL_add, iL_sub, iL_mul, iL_neg, iL_le, iL_lt, iL_eq, iL_ite, vp_T, b2_ne0, b2_eq1, nn_imp, true_and, iI_ite, not_true_eq_false, not_false_eq_true, true_implies, false_implies, and_true, Int.reduceLT, Int.reduceLE, Int.reduceEq, or_false, false_or, true_or, or_true, false_and, and_false, mp _]
      exact ⟨fun _ => hk σ1 hf hm, fun c => by omega⟩
    | succ d ih =>
      intro h σ1 hd h0 h1 hf hm
      refine w_X9_laysShots_7 hS hv hw _ _ σ1 ?_
      unfold vc_X9_laysShots_7
      have mp := MP_f hM hf (fun j => by unfold FSH; omega)
      have hz : h < P 280 := by omega
      have i := ih (h + 1)
      rw [lp_l _ _ h0] at i
      have ok := shL_ok hW (fun k a b c => (hT k a b c).2) h h0 (by omega)
      have gh := WF_h hW h0 hz
      try simp (disch := omega) only [iI_lit, iL_lit, iI_add, iI_sub, iI_mul, iI_neg, iI_lt, iI_le, iI_eq, iI_tn, iI_div, iI_l, iL_add, iL_sub, iL_mul, iL_neg, iL_le, iL_lt, iL_eq, iL_ite, vp_T, b2_ne0, b2_eq1, nn_imp, true_and, iI_ite, not_true_eq_false, not_false_eq_true, true_implies, false_implies, and_true, Int.reduceLT, Int.reduceLE, Int.reduceEq, or_false, false_or, true_or, or_true, false_and, and_false, mp _, bs_0, bs_1, bs_bm, Bool.and_eq_true, decide_eq_true_eq, Bool.not_eq_false, Bool.not_eq_true]
      refine ⟨fun c => by omega, fun _ => ⟨fun c => ?_, fun c => ?_⟩⟩
      · rw [layF_f (fun q => c ⟨hz, q⟩)] at i
        exact i σ1 (by omega) (by omega) (by omega) hf hm
      · have c := c.2
        rw [layF_t c] at i
        have t1 := hT h h0 hz c
        have t54 : σ1.1 54 h.toNat = iI (T h) := by rw [hf.1 _ _ (by unfold FSH; omega)]; exact t1.1
        have r1 := fl_r hW h0 hz
        have r2 := sl_r hW h0 hz
        have f0 : ¬ fl P h = 0 := fun q => hk5 h h0 hz c ((kfl_0 (k := P (8 * h + 2)) (c := P (8 * h + 3)) (by omega) (by omega)).mp (by unfold fl at q; omega))
        refine c_X9_firstLoad hS mp hW h0 hz ⟨_, rfl, ?_⟩
        rw [t54]
        refine c_X9_shoots hS hm ok.1 (by omega) (by omega) (fun σ2 f2 m2 => ⟨rfl, ?_⟩)
        have hf2 := Fr_tr hf f2
        have mp2 := MP_f hM hf2 (fun j => by unfold FSH; omega)
        have q1 : addS (T h, fl P h, h) (lp (layF P F T) 0 h z0) = (ins (lp (layF P F T) 0 h z0).1 (lp (layF P F T) 0 h z0).2 (T h, fl P h, h), (lp (layF P F T) 0 h z0).2 + 1) := if_neg f0
        refine c_X9_secondLoad hS mp2 hW h0 hz ⟨_, rfl, ?_⟩
        try simp (disch := omega) only [iI_lit, iL_lit, iI_add, iI_sub, iI_mul, iI_neg, iI_lt, iI_le, iI_eq, iI_tn, iI_div, iI_l, iL_add, iL_sub, iL_mul, iL_neg, iL_le, iL_lt, iL_eq, iL_ite, vp_T, b2_ne0, b2_eq1, nn_imp, true_and, iI_ite, not_true_eq_false, not_false_eq_true, true_implies, false_implies, and_true, Int.reduceLT, Int.reduceLE, Int.reduceEq, or_false, false_or, true_or, or_true, false_and, and_false]
        refine ⟨fun q => ?_, fun q => ?_⟩
        · refine i σ2 (by omega) (by omega) (by omega) hf2 ?_
          have : addA P h (T h) (lp (layF P F T) 0 h z0) = addS (T h, fl P h, h) (lp (layF P F T) 0 h z0) := if_pos (by show sl P h = 0; omega)
          rw [this, q1]; exact m2
        · have t54 : σ2.1 54 h.toNat = iI (T h) := by rw [hf2.1 _ _ (by unfold FSH; omega)]; exact t1.1
          refine c_X9_secondLoad hS mp2 hW h0 hz ⟨_, rfl, ?_⟩
          try simp (disch := omega) only [iI_lit, iL_lit, iI_add, iI_sub, iI_mul, iI_neg, iI_lt, iI_le, iI_eq, iI_tn, iI_div, iI_l, iL_add, iL_sub, iL_mul, iL_neg, iL_le, iL_lt, iL_eq, iL_ite, vp_T, b2_ne0, b2_eq1, nn_imp, true_and, iI_ite, not_true_eq_false, not_false_eq_true, true_implies, false_implies, and_true, Int.reduceLT, Int.reduceLE, Int.reduceEq, or_false, false_or, true_or, or_true, false_and, and_false, t54]
          have ok2 := okZ_addS (x := (T h, fl P h, h)) ok.1 (by omega) (Or.inr ⟨by show 0 ≤ T h ∧ T h ≤ 20000; omega, by show 1 ≤ fl P h ∧ fl P h ≤ 100; omega, by show 0 ≤ h ∧ h < 20; omega⟩)
          rw [q1] at ok2
          refine c_X9_shoots hS m2 ok2.1 (by show (lp (layF P F T) 0 h z0).2 + 1 < 40; omega) (by omega) (fun σ3 f3 m3 => ⟨rfl, ?_⟩)
          refine i σ3 (by omega) (by omega) (by omega) (Fr_tr hf2 f3) ?_
          have : addA P h (T h) (lp (layF P F T) 0 h z0) = (ins (addS (T h, fl P h, h) (lp (layF P F T) 0 h z0)).1 (addS (T h, fl P h, h) (lp (layF P F T) 0 h z0)).2 (T h + 17, sl P h, h), (addS (T h, fl P h, h) (lp (layF P F T) 0 h z0)).2 + 1) := if_neg (by show ¬ sl P h = 0; omega)
          rw [this, q1]; exact m3
  rw [iI_lit]
  refine L _ 0 σ1 rfl (by omega) (by omega) (by rw [e1]; exact Fr_up Fr_rf (Or.inr (Or.inr (Or.inr ⟨rfl, rfl⟩)))) ⟨fun i i0 i1 => ?_, ?_⟩
  · rw [lp_z _ _ (by omega)] at i1; exact absurd i1 (by show ¬ i < 0; omega)
  · rw [lp_z _ _ (by omega), e1, up_h rfl, iI_lit]; rfl
end C21
