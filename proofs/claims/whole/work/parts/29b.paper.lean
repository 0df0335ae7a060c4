def sm (t : List Int) : List Int := if t.length = 0 then t else t ++ [59]
def hoT (P : Pl) (h : Int) : List Int := wrd 0 ++ (nmb (P (8 * h)) ++ (nmb (P (8 * h + 1)) ++ ([32] ++ (wrd (P (8 * h + 2)) ++ (nmb (P (8 * h + 3)) ++ (nmb (P (8 * h + 4)) ++ nmb (P (8 * h + 5))))))))
def wiT (P : Pl) (w : Int) : List Int := wrd 6 ++ ((if P (160 + 3 * w) = -1 then [32] ++ wrd 7 else nmb (P (160 + 3 * w))) ++ (nmb (P (160 + 3 * w + 1)) ++ nmb (P (160 + 3 * w + 2))))
def paH (P : Pl) (n : Int) : List Int := lp (fun h t => sm t ++ hoT P h) 0 n []
def paW (P : Pl) (n : Int) : List Int := lp (fun w t => sm t ++ wiT P w) 0 n (paH P (P 280))
def pap (P : Pl) : List Int := paW P (P 281)
theorem paH_s {P : Pl} {n : Int} (h : 0 ≤ n) : paH P (n + 1) = sm (paH P n) ++ hoT P n := lp_l _ _ h
theorem paW_s {P : Pl} {n : Int} (h : 0 ≤ n) : paW P (n + 1) = sm (paW P n) ++ wiT P n := lp_l _ _ h
theorem sm_l {t : List Int} : (sm t).length ≤ t.length + 1 ∧ (t.length = 0 → (sm t).length = 0) := by
  unfold sm
  by_cases c : t.length = 0
  · rw [if_pos c]; omega
  · rw [if_neg c, List.length_append]; exact ⟨Nat.le_refl _, fun e => absurd e c⟩
theorem wrd_n {k : Int} (h : 0 ≤ k ∧ k < 12) : 4 ≤ (wrd k).length ∧ (wrd k).length ≤ 6 := by
  have r := wrd_l k.toNat (by omega)
  rw [show ((k.toNat : Nat) : Int) = k by omega] at r
  exact ⟨r.2.2.2.1, r.2.2.2.2.1⟩
theorem hoT_l {P : Pl} (hW : WF P) {h : Int} (h0 : 0 ≤ h) (h1 : h < P 280) : (hoT P h).length ≤ 25 := by
  have g := WF_h hW h0 h1
  have a := nmb_l (v := P (8 * h))
  have b := nmb_l (v := P (8 * h + 1))
  have c := nmb_l (v := P (8 * h + 3))
  have d := nmb_l (v := P (8 * h + 4))
  have e := nmb_l (v := P (8 * h + 5))
  have w := wrd_n (k := P (8 * h + 2)) (by omega)
  have z : (wrd 0).length = 4 := by decide
  have o : ([32] : List Int).length = 1 := rfl
  unfold hoT
  simp only [List.length_append]
  omega
theorem wiT_l {P : Pl} (hW : WF P) {w : Int} (h0 : 0 ≤ w) (h1 : w < P 281) : (wiT P w).length ≤ 17 := by
  have g := WF_w hW h0 h1
  have g0 := WF_0 hW
  have a := nmb_l (v := P (160 + 3 * w))
  have b := nmb_l (v := P (160 + 3 * w + 1))
  have c := nmb_l (v := P (160 + 3 * w + 2))
  have z : (wrd 6).length = 4 := by decide
  have z7 : (wrd 7).length = 5 := by decide
  have o : ([32] : List Int).length = 1 := rfl
  unfold wiT
  by_cases q : P (160 + 3 * w) = -1
  · rw [if_pos q]; simp only [List.length_append]; omega
  · rw [if_neg q]; simp only [List.length_append]; omega
theorem paH_l {P : Pl} (hW : WF P) {n : Int} (h0 : 0 ≤ n) (h1 : n ≤ P 280) : (paH P n).length = 0 ∨ (((paH P n).length : Nat) : Int) + 1 ≤ 26 * n := by
  unfold paH
  exact lp_inv (f := fun h t => sm t ++ hoT P h) (a := []) (fun k (t : List Int) => t.length = 0 ∨ ((t.length : Nat) : Int) + 1 ≤ 26 * k) _ rfl h0 (Or.inl rfl) (fun k t k0 k1 ht => by
    have a := sm_l (t := t)
    have b := hoT_l hW k0 (by omega)
    rw [List.length_append]; omega)
theorem paW_l {P : Pl} (hW : WF P) {n : Int} (h0 : 0 ≤ n) (h1 : n ≤ P 281) : (paW P n).length = 0 ∨ (((paW P n).length : Nat) : Int) + 1 ≤ 520 + 18 * n := by
  have g0 := WF_0 hW
  have z := paH_l hW g0.1.1 (Int.le_refl _)
  unfold paW
  exact lp_inv (f := fun w t => sm t ++ wiT P w) (a := paH P (P 280)) (fun k (t : List Int) => t.length = 0 ∨ ((t.length : Nat) : Int) + 1 ≤ 520 + 18 * k) _ rfl h0 (by omega) (fun k t k0 k1 ht => by
    have a := sm_l (t := t)
    have b := wiT_l hW k0 (by omega)
    rw [List.length_append]; omega)
def kwd (k : Int) : Nat := if k = 0 then 200 else 208 + k.toNat
theorem kwd_s {k : Int} (h : 0 ≤ k ∧ k ≤ 5) : isStr (kwd k) ∧ sb (kwd k) = wrd k := by
  rcases (show k = 0 ∨ k = 1 ∨ k = 2 ∨ k = 3 ∨ k = 4 ∨ k = 5 by omega) with e | e | e | e | e | e <;> subst e <;> exact ⟨by unfold isStr; decide, rfl⟩
section C29b
variable {S : Sp} {σ : St} {Φ : Rs} {P : Pl} {t : List Int}
theorem c_X5_writeNumber (hS : Sys S) (hT : TC t σ) {x : Int} (hx : 0 ≤ x ∧ x ≤ 999) (hl : t.length + (nmb x).length ≤ 1239) (hk : ∀ σ', Fr FTX σ σ' → TC (t ++ nmb x) σ' → Φ [] σ') : S 73 [aR 34, aI (iI x)] σ Φ := by
  refine m_X5_writeNumber hS (fun v hv hw => ?_)
  unfold vc_X5_writeNumber_0
  have T46 : ∀ (u : List Int) (σ1 : St), TC u σ1 → u.length < 1239 → (∀ σ', Fr FTX σ1 σ' → TC (u ++ [48 + x % 10]) σ' → Φ [] σ') → vc_X5_writeNumber_46 S Φ v (iI x) σ1 := by
    intro u σ1 h1 hl1 hk1
    unfold vc_X5_writeNumber_46
    try simp (disch := omega) only [iI_lit, iL_lit, iI_add, iI_sub, iI_mul, iI_neg, iI_lt, iI_le, iI_eq, iI_tn, iI_div, iI_l, iL_add, iL_sub, iL_mul, iL_neg, iL_le, iL_lt, iL_eq, iL_ite, vp_T, b2_ne0, b2_eq1, nn_imp, true_and, iI_ite, not_true_eq_false, not_false_eq_true, true_implies, false_implies, and_true, Int.reduceLT, Int.reduceLE, Int.reduceEq, or_false, false_or, true_or, or_true, false_and, and_false]
    rw [show 48 + (x - x / 10 * 10) = 48 + x % 10 by omega]
    exact c_X5_writeByte hS h1 hl1 (by omega) (fun σ2 f2 h2 => ⟨rfl, hk1 σ2 f2 h2⟩)
  have T26 : ∀ (u : List Int) (σ1 : St), TC u σ1 → u.length + ((if 10 ≤ x then [48 + x / 10 % 10] else []) ++ [48 + x % 10]).length ≤ 1239 → (∀ σ', Fr FTX σ1 σ' → TC (u ++ ((if 10 ≤ x then [48 + x / 10 % 10] else []) ++ [48 + x % 10])) σ' → Φ [] σ') → vc_X5_writeNumber_26 S Φ v (iI x) σ1 := by
    intro u σ1 h1 hl1 hk1
    unfold vc_X5_writeNumber_26
    try simp (disch := omega) only [iI_lit, iL_lit, iI_add, iI_sub, iI_mul, iI_neg, iI_lt, iI_le, iI_eq, iI_tn, iI_div, iI_l, iL_add, iL_sub, iL_mul, iL_neg, iL_le, iL_lt, iL_eq, iL_ite, vp_T, b2_ne0, b2_eq1, nn_imp, true_and, iI_ite, not_true_eq_false, not_false_eq_true, true_implies, false_implies, and_true, Int.reduceLT, Int.reduceLE, Int.reduceEq, or_false, false_or, true_or, or_true, false_and, and_false]
    refine ⟨fun c => ?_, fun c => ?_⟩
    · rw [if_neg (by omega)] at hl1 hk1
      exact T46 u σ1 h1 (by simp at hl1; omega) (fun σ2 f2 h2 => hk1 σ2 f2 h2)
    · rw [if_pos (by omega)] at hl1 hk1
      rw [show 48 + (x / 10 - x / 10 / 10 * 10) = 48 + x / 10 % 10 by omega]
      simp only [List.length_append, List.length_cons, List.length_nil] at hl1
      refine c_X5_writeByte hS h1 (by omega) (by omega) (fun σ2 f2 h2 => ⟨rfl, ?_⟩)
      refine T46 _ σ2 h2 (by simp only [List.length_append, List.length_cons, List.length_nil]; omega) (fun σ3 f3 h3 => ?_)
      rw [List.append_assoc] at h3
      exact hk1 σ3 (Fr_tr f2 f3) h3
  unfold nmb at hl hk
  have hl0 : t.length + 1 ≤ 1239 := by simp only [List.length_append, List.length_cons, List.length_nil] at hl; omega
  rw [show (32 : Int32) = iI 32 from rfl]
  refine c_X5_writeByte hS hT (by omega) (by omega) (fun σ1 f1 h1 => ⟨rfl, ?_⟩)
  try simp (disch := omega) only [iI_lit, iL_lit, iI_add, iI_sub, iI_mul, iI_neg, iI_lt, iI_le, iI_eq, iI_tn, iI_div, iI_l, iL_add, iL_sub, iL_mul, iL_neg, iL_le, iL_lt, iL_eq, iL_ite, vp_T, b2_ne0, b2_eq1, nn_imp, true_and, iI_ite, not_true_eq_false, not_false_eq_true, true_implies, false_implies, and_true, Int.reduceLT, Int.reduceLE, Int.reduceEq, or_false, false_or, true_or, or_true, false_and, and_false]
  refine ⟨fun c => ?_, fun c => ?_⟩
  · rw [if_neg (by omega), List.nil_append] at hl hk
    refine T26 _ σ1 h1 (by rw [List.length_append] at hl ⊢; simp only [List.length_cons, List.length_nil] at hl ⊢; omega) (fun σ2 f2 h2 => ?_)
    rw [List.append_assoc] at h2
    exact hk σ2 (Fr_tr f1 f2) h2
  · rw [if_pos (by omega)] at hl hk
    rw [show 48 + (x / 100 - x / 100 / 10 * 10) = 48 + x / 100 % 10 by omega]
    simp only [List.length_append, List.length_cons, List.length_nil] at hl
    refine c_X5_writeByte hS h1 (by simp only [List.length_append, List.length_cons, List.length_nil]; omega) (by omega) (fun σ2 f2 h2 => ⟨rfl, ?_⟩)
    refine T26 _ σ2 h2 (by simp only [List.length_append, List.length_cons, List.length_nil]; omega) (fun σ3 f3 h3 => ?_)
    simp only [List.append_assoc] at h3 hk
    exact hk σ3 (Fr_tr f1 (Fr_tr f2 f3)) h3
theorem c_X9_number (hS : Sys S) (hT : TM t σ) {x : Int} (hx : 0 ≤ x ∧ x ≤ 999) (hl : t.length + 4 < 2000) (hk : ∀ σ', Fr FTM σ σ' → TM (t ++ nmb x) σ' → Φ [] σ') : S 221 [aR 49, aI (iI x)] σ Φ := by
  refine m_X9_number hS (fun v hv hw => ?_)
  unfold vc_X9_number_0
  have N0 : ∀ (σ1 : St), Φ [] σ1 → v 24 [some (aR 49), some (aI (iI x)), some (aI (iI 0))] [] σ1 := by
    intro σ1 h
    refine w_X9_number_24 hS hv hw _ _ σ1 ?_
    unfold vc_X9_number_24
    try simp (disch := omega) only [iI_lit, iL_lit, iI_add, iI_sub, iI_mul, iI_neg, iI_lt, iI_le, iI_eq, iI_tn, iI_div, iI_l, iL_add, iL_sub, iL_mul, iL_neg, iL_le, iL_lt, iL_eq, iL_ite, vp_T, b2_ne0, b2_eq1, nn_imp, true_and, iI_ite, not_true_eq_false, not_false_eq_true, true_implies, false_implies, and_true, Int.reduceLT, Int.reduceLE, Int.reduceEq, or_false, false_or, true_or, or_true, false_and, and_false]
    exact h
  have N1 : ∀ (u : List Int) (σ1 : St), TM u σ1 → u.length < 2000 → (∀ σ', Fr FTM σ1 σ' → TM (u ++ [48 + x % 10]) σ' → Φ [] σ') → v 24 [some (aR 49), some (aI (iI x)), some (aI (iI 1))] [] σ1 := by
    intro u σ1 h1 hl1 hk1
    refine w_X9_number_24 hS hv hw _ _ σ1 ?_
    unfold vc_X9_number_24
    try simp (disch := omega) only [iI_lit, iL_lit, iI_add, iI_sub, iI_mul, iI_neg, iI_lt, iI_le, iI_eq, iI_tn, iI_div, iI_l, iL_add, iL_sub, iL_mul, iL_neg, iL_le, iL_lt, iL_eq, iL_ite, vp_T, b2_ne0, b2_eq1, nn_imp, true_and, iI_ite, not_true_eq_false, not_false_eq_true, true_implies, false_implies, and_true, Int.reduceLT, Int.reduceLE, Int.reduceEq, or_false, false_or, true_or, or_true, false_and, and_false]
    rw [show (1 : Int) / 10 = 0 by decide]
    rw [show 48 + (x / 1 - x / 1 / 10 * 10) = 48 + x % 10 by omega]
    exact c_X9_sign hS h1 hl1 (fun σ2 f2 h2 => ⟨rfl, N0 σ2 (hk1 σ2 f2 h2)⟩)
  have N2 : ∀ (u : List Int) (σ1 : St), TM u σ1 → u.length + 1 < 2000 → (∀ σ', Fr FTM σ1 σ' → TM (u ++ ([48 + x / 10 % 10] ++ [48 + x % 10])) σ' → Φ [] σ') → v 24 [some (aR 49), some (aI (iI x)), some (aI (iI 10))] [] σ1 := by
    intro u σ1 h1 hl1 hk1
    refine w_X9_number_24 hS hv hw _ _ σ1 ?_
    unfold vc_X9_number_24
    try simp (disch := omega) only [iI_lit, iL_lit, iI_add, iI_sub, iI_mul, iI_neg, iI_lt, iI_le, iI_eq, iI_tn, iI_div, iI_l, iL_add, iL_sub, iL_mul, iL_neg, iL_le, iL_lt, iL_eq, iL_ite, vp_T, b2_ne0, b2_eq1, nn_imp, true_and, iI_ite, not_true_eq_false, not_false_eq_true, true_implies, false_implies, and_true, Int.reduceLT, Int.reduceLE, Int.reduceEq, or_false, false_or, true_or, or_true, false_and, and_false]
    rw [show (10 : Int) / 10 = 1 by decide]
    rw [show 48 + (x / 10 - x / 10 / 10 * 10) = 48 + x / 10 % 10 by omega]
    refine c_X9_sign hS h1 (by omega) (fun σ2 f2 h2 => ⟨rfl, N1 _ σ2 h2 (by simp only [List.length_append, List.length_cons, List.length_nil]; omega) (fun σ3 f3 h3 => ?_)⟩)
    rw [List.append_assoc] at h3
    exact hk1 σ3 (Fr_tr f2 f3) h3
  have N3 : ∀ (u : List Int) (σ1 : St), TM u σ1 → u.length + 2 < 2000 → (∀ σ', Fr FTM σ1 σ' → TM (u ++ ([48 + x / 100 % 10] ++ ([48 + x / 10 % 10] ++ [48 + x % 10]))) σ' → Φ [] σ') → v 24 [some (aR 49), some (aI (iI x)), some (aI (iI 100))] [] σ1 := by
    intro u σ1 h1 hl1 hk1
    refine w_X9_number_24 hS hv hw _ _ σ1 ?_
    unfold vc_X9_number_24
    try simp (disch := omega) only [iI_lit, iL_lit, iI_add, iI_sub, iI_mul, iI_neg, iI_lt, iI_le, iI_eq, iI_tn, iI_div, iI_l, iL_add, iL_sub, iL_mul, iL_neg, iL_le, iL_lt, iL_eq, iL_ite, vp_T, b2_ne0, b2_eq1, nn_imp, true_and, iI_ite, not_true_eq_false, not_false_eq_true, true_implies, false_implies, and_true, Int.reduceLT, Int.reduceLE, Int.reduceEq, or_false, false_or, true_or, or_true, false_and, and_false]
    rw [show (100 : Int) / 10 = 10 by decide]
    rw [show 48 + (x / 100 - x / 100 / 10 * 10) = 48 + x / 100 % 10 by omega]
    refine c_X9_sign hS h1 (by omega) (fun σ2 f2 h2 => ⟨rfl, N2 _ σ2 h2 (by simp only [List.length_append, List.length_cons, List.length_nil]; omega) (fun σ3 f3 h3 => ?_)⟩)
    rw [List.append_assoc] at h3
    exact hk1 σ3 (Fr_tr f2 f3) h3
  unfold nmb at hk
  rw [show (32 : Int32) = iI 32 from rfl, show (1 : Int32) = iI 1 from rfl]
  refine c_X9_sign hS hT (by omega) (fun σ1 f1 h1 => ⟨rfl, ?_⟩)
  have l1 : (t ++ [32]).length = t.length + 1 := by rw [List.length_append]; rfl
  refine w_X9_number_8 hS hv hw _ _ σ1 ?_
  unfold vc_X9_number_8
  try simp (disch := omega) only [iI_lit, iL_lit, iI_add, iI_sub, iI_mul, iI_neg, iI_lt, iI_le, iI_eq, iI_tn, iI_div, iI_l, iL_add, iL_sub, iL_mul, iL_neg, iL_le, iL_lt, iL_eq, iL_ite, vp_T, b2_ne0, b2_eq1, nn_imp, true_and, iI_ite, not_true_eq_false, not_false_eq_true, true_implies, false_implies, and_true, Int.reduceLT, Int.reduceLE, Int.reduceEq, or_false, false_or, true_or, or_true, false_and, and_false]
  refine ⟨fun c => ?_, fun c => ?_⟩
  · rw [if_neg (by omega), if_neg (by omega), List.nil_append, List.nil_append] at hk
    refine N1 _ σ1 h1 (by omega) (fun σ2 f2 h2 => ?_)
    rw [List.append_assoc] at h2
    exact hk σ2 (Fr_tr f1 f2) h2
  · refine w_X9_number_8 hS hv hw _ _ σ1 ?_
    unfold vc_X9_number_8
    try simp (disch := omega) only [iI_lit, iL_lit, iI_add, iI_sub, iI_mul, iI_neg, iI_lt, iI_le, iI_eq, iI_tn, iI_div, iI_l, iL_add, iL_sub, iL_mul, iL_neg, iL_le, iL_lt, iL_eq, iL_ite, vp_T, b2_ne0, b2_eq1, nn_imp, true_and, iI_ite, not_true_eq_false, not_false_eq_true, true_implies, false_implies, and_true, Int.reduceLT, Int.reduceLE, Int.reduceEq, or_false, false_or, true_or, or_true, false_and, and_false]
    refine ⟨fun d => ?_, fun d => ?_⟩
    · rw [if_neg (by omega), if_pos (by omega), List.nil_append] at hk
      refine N2 _ σ1 h1 (by omega) (fun σ2 f2 h2 => ?_)
      rw [List.append_assoc] at h2
      exact hk σ2 (Fr_tr f1 f2) h2
    · refine w_X9_number_8 hS hv hw _ _ σ1 ?_
      unfold vc_X9_number_8
      try simp (disch := omega) only [iI_lit, iL_lit, iI_add, iI_sub, iI_mul, iI_neg, iI_lt, iI_le, iI_eq, iI_tn, iI_div, iI_l, iL_add, iL_sub, iL_mul, iL_neg, iL_le, iL_lt, iL_eq, iL_ite, vp_T, b2_ne0, b2_eq1, nn_imp, true_and, iI_ite, not_true_eq_false, not_false_eq_true, true_implies, false_implies, and_true, Int.reduceLT, Int.reduceLE, Int.reduceEq, or_false, false_or, true_or, or_true, false_and, and_false]
      refine ⟨fun e => ?_, fun e => by omega⟩
      rw [if_pos (by omega), if_pos (by omega)] at hk
      refine N3 _ σ1 h1 (by omega) (fun σ2 f2 h2 => ?_)
      rw [List.append_assoc] at h2
      exact hk σ2 (Fr_tr f1 f2) h2
end C29b
