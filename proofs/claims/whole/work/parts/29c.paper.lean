def FWR : Nat → Nat → Prop := fun k j => k = 35 ∨ (k = 34 ∧ j = 1) ∨ (k = 0 ∧ j = 13)
/-- the class has written -/
def WRd (P : Pl) (σ : St) : Prop := σ.1 0 13 = iI 0 ∨ (σ.1 0 13 = iI 1 ∧ TC (pap P) σ)
theorem k_pap {P : Pl} (hW : WF P) {c : Int} : pap (pu P 285 c) = pap P := by
  have g0 := WF_0 hW
  have e : ∀ n, n ≤ P 280 → paH (pu P 285 c) n = paH P n := fun n hn => lp_c (fun k a k0 k1 => by unfold hoT; simp (disch := omega) only [pu_e, pu_n, ])
  unfold pap paW
  rw [k_281, k_280, e _ (Int.le_refl _)]
  exact lp_c (fun k a k0 k1 => by unfold wiT; simp (disch := omega) only [pu_e, pu_n, ])
def qPaper (P : Pl) (i : Int) : Int := if 0 ≤ i ∧ i < ((pap P).length : Nat) then (pap P)[i.toNat]?.getD 0 else -1
section C29c
variable {S : Sp} {σ : St} {Φ : Rs} {P : Pl} {t : List Int}
theorem TX_f {k s j : Nat} {c : Nat → Nat → Prop} {σ' : St} (h : TX k s j t σ) (hf : Fr c σ σ') (h1 : ∀ i, ¬ c k i) (h2 : ¬ c s j) : TX k s j t σ' :=
  ⟨by rw [hf.1 _ _ h2]; exact h.1, fun i hi => by rw [hf.1 _ _ (h1 _)]; exact h.2 i hi⟩
theorem WRd_f {c : Nat → Nat → Prop} {σ' : St} (h : WRd P σ) (hf : Fr c σ σ') (h1 : ∀ k j, k = 35 ∨ (k = 34 ∧ j = 1) ∨ (k = 0 ∧ j = 13) → ¬ c k j) : WRd P σ' := by
  unfold WRd
  rw [hf.1 0 13 (h1 _ _ (by omega))]
  rcases h with h | ⟨h, q⟩
  · exact Or.inl h
  · exact Or.inr ⟨h, TX_f q hf (fun i => h1 _ _ (by omega)) (h1 _ _ (by omega))⟩
theorem k_WRd (hW : WF P) {c : Int} (h : WRd P σ) : WRd (pu P 285 c) σ := by unfold WRd; rw [k_pap hW]; exact h
theorem CLR_W (h : CLR σ) : WRd P σ := Or.inl h.2.2
theorem c_X5_writeWord (hS : Sys S) (hT0 : SysT S) (hT : TC t σ) {w : Nat} (hw' : isStr w) (hl : t.length + 1 + (sb w).length ≤ 1239) (hk : ∀ σ', Fr FTX σ σ' → TC (t ++ ([32] ++ sb w)) σ' → Φ [] σ') : S 71 [aR 34, aR w] σ Φ := by
  refine m_X5_writeWord hS hw' (fun v hv hw => ?_)
  unfold vc_X5_writeWord_0
  rw [show (32 : Int32) = iI 32 from rfl]
  refine c_X5_writeByte hS hT (by omega) (by omega) (fun σ1 f1 h1 => ⟨rfl, ?_⟩)
  have l1 : (t ++ [32]).length = t.length + 1 := by rw [List.length_append]; rfl
  refine c_X5_writeLetters hS hT0 h1 hw' (by omega) (fun σ2 f2 h2 => ⟨rfl, ?_⟩)
  rw [List.append_assoc] at h2
  exact hk σ2 (Fr_tr f1 f2) h2
theorem c_X5_begin (hS : Sys S) (hT0 : SysT S) (hT : TC t σ) {w : Nat} (hw' : isStr w) (hl : (sm t).length + (sb w).length ≤ 1239) (hk : ∀ σ', Fr FTX σ σ' → TC (sm t ++ sb w) σ' → Φ [] σ') : S 70 [aR 34, aR w] σ Φ := by
  refine m_X5_begin hS hw' (fun v hv hw => ?_)
  unfold vc_X5_begin_0
  have h0 := hT.1
  have hl2 : t.length ≤ 1239 := by unfold sm at hl; split at hl <;> (try rw [List.length_append] at hl) <;> omega
  unfold sm at hl hk
  rw [show (59 : Int32) = iI 59 from rfl]
  try simp (disch := omega) only [iI_lit, iL_lit, iI_add, iI_sub, iI_mul, iI_neg, iI_lt, iI_le, iI_eq, iI_tn, iI_div, iI_l, iL_add, iL_sub, iL_mul, iL_neg, iL_le, iL_lt, iL_eq, iL_ite, vp_T, b2_ne0, b2_eq1, nn_imp, true_and, iI_ite, not_true_eq_false, not_false_eq_true, true_implies, false_implies, and_true, Int.reduceLT, Int.reduceLE, Int.reduceEq, or_false, false_or, true_or, or_true, false_and, and_false, h0]
  refine ⟨fun c => ?_, fun c => ?_⟩
  · rw [if_pos (by omega)] at hl hk
    exact c_X5_writeLetters hS hT0 hT hw' hl (fun σ2 f2 h2 => ⟨rfl, hk σ2 f2 h2⟩)
  · rw [if_neg (by omega)] at hl hk
    have l1 : (t ++ [59]).length = t.length + 1 := by rw [List.length_append]; rfl
    refine c_X5_writeByte hS hT (by omega) (by omega) (fun σ1 f1 h1 => ⟨rfl, ?_⟩)
    exact c_X5_writeLetters hS hT0 h1 hw' hl (fun σ2 f2 h2 => ⟨rfl, hk σ2 (Fr_tr f1 f2) h2⟩)
theorem CP_T {σ' : St} (h : CP 1 P σ) (hf : Fr FTX σ σ') : CP 1 P σ' := CP_f h hf (fun k j x y => by unfold FTX; omega)
theorem c_X1_word (hS : Sys S) {k : Int} (hk0 : 0 ≤ k ∧ k ≤ 5) (hk : Φ [aR (kwd k)] σ) : S 22 [aI (iI k)] σ Φ := by
  refine m_X1_word hS (fun v hv hw => ?_)
  unfold vc_X1_word_0
  unfold kwd at hk
  rcases (show k = 0 ∨ k = 1 ∨ k = 2 ∨ k = 3 ∨ k = 4 ∨ k = 5 by omega) with e | e | e | e | e | e <;> subst e <;> try simp (disch := omega) only [iI_lit, iL_lit, iI_add, iI_sub, iI_mul, iI_neg, iI_lt, iI_le, iI_eq, iI_tn, iI_div, iI_l, iL_add, iL_sub, iL_mul, iL_neg, iL_le, iL_lt, iL_eq, iL_ite, vp_T, b2_ne0, b2_eq1, nn_imp, true_and, iI_ite, not_true_eq_false, not_false_eq_true, true_implies, false_implies, and_true, Int.reduceLT, Int.reduceLE, Int.reduceEq, or_false, false_or, true_or, or_true, false_and, and_false] <;> exact hk
theorem c_X5_writeHole (hS : Sys S) (hT0 : SysT S) (hC : CP 1 P σ) (hW : WF P) (hT : TC t σ) {h : Int} (h0 : 0 ≤ h) (h1 : h < P 280) (hl : (sm t).length + 25 ≤ 1239) (hk : ∀ σ', Fr FTX σ σ' → TC (sm t ++ hoT P h) σ' → Φ [] σ') : S 68 [aR 34, aR 1, aI (iI h)] σ Φ := by
  refine m_X5_writeHole hS isPat_1 (fun v hv hw => ?_)
  have g0 := WF_0 hW
  have g := WF_h hW h0 h1
  have z : (wrd 0).length = 4 := by decide
  have sb0 : sb 200 = wrd 0 := rfl
  have o : ([32] : List Int).length = 1 := rfl
  have na := nmb_l (v := P (8 * h))
  have nb := nmb_l (v := P (8 * h + 1))
  have nc := nmb_l (v := P (8 * h + 3))
  have nd := nmb_l (v := P (8 * h + 4))
  have ne := nmb_l (v := P (8 * h + 5))
  have nw := wrd_n (k := P (8 * h + 2)) (by omega)
  have ks := kwd_s (k := P (8 * h + 2)) (by omega)
  unfold vc_X5_writeHole_0
  refine c_X5_begin hS hT0 hT (by unfold isStr; decide) (by rw [sb0]; omega) (fun σ1 f1 t1 => ⟨rfl, ?_⟩)
  rw [sb0] at t1
  have C1 := CP_T hC f1
  have a1 : σ1.1 2 (h * 9 + 0).toNat = iI (P (8 * h + 0)) := CP_m C1 (by omega)
  rw [Int.add_zero (8 * h)] at a1
  try simp (disch := omega) only [iI_lit, iL_lit, iI_add, iI_sub, iI_mul, iI_neg, iI_lt, iI_le, iI_eq, iI_tn, iI_div, iI_l, iL_add, iL_sub, iL_mul, iL_neg, iL_le, iL_lt, iL_eq, iL_ite, vp_T, b2_ne0, b2_eq1, nn_imp, true_and, iI_ite, not_true_eq_false, not_false_eq_true, true_implies, false_implies, and_true, Int.reduceLT, Int.reduceLE, Int.reduceEq, or_false, false_or, true_or, or_true, false_and, and_false, a1]
  refine c_X5_writeNumber hS t1 (by omega) (by simp only [List.length_append]; omega) (fun σ2 f2 t2 => ⟨rfl, ?_⟩)
  have C2 := CP_T C1 f2
  have a2 : σ2.1 2 (h * 9 + 1).toNat = iI (P (8 * h + 1)) := CP_m C2 (by omega)
  try simp (disch := omega) only [iI_lit, iL_lit, iI_add, iI_sub, iI_mul, iI_neg, iI_lt, iI_le, iI_eq, iI_tn, iI_div, iI_l, iL_add, iL_sub, iL_mul, iL_neg, iL_le, iL_lt, iL_eq, iL_ite, vp_T, b2_ne0, b2_eq1, nn_imp, true_and, iI_ite, not_true_eq_false, not_false_eq_true, true_implies, false_implies, and_true, Int.reduceLT, Int.reduceLE, Int.reduceEq, or_false, false_or, true_or, or_true, false_and, and_false, a2]
  refine c_X5_writeNumber hS t2 (by omega) (by simp only [List.length_append]; omega) (fun σ3 f3 t3 => ⟨rfl, ?_⟩)
  have C3 := CP_T C2 f3
  have a3 : σ3.1 2 (h * 9 + 2).toNat = iI (P (8 * h + 2)) := CP_m C3 (by omega)
  try simp (disch := omega) only [iI_lit, iL_lit, iI_add, iI_sub, iI_mul, iI_neg, iI_lt, iI_le, iI_eq, iI_tn, iI_div, iI_l, iL_add, iL_sub, iL_mul, iL_neg, iL_le, iL_lt, iL_eq, iL_ite, vp_T, b2_ne0, b2_eq1, nn_imp, true_and, iI_ite, not_true_eq_false, not_false_eq_true, true_implies, false_implies, and_true, Int.reduceLT, Int.reduceLE, Int.reduceEq, or_false, false_or, true_or, or_true, false_and, and_false, a3]
  refine c_X1_word hS (by omega) ⟨_, rfl, ks.1, ?_⟩
  refine c_X5_writeWord hS hT0 t3 ks.1 (by rw [ks.2]; simp only [List.length_append]; omega) (fun σ4 f4 t4 => ⟨rfl, ?_⟩)
  rw [ks.2] at t4
  have C4 := CP_T C3 f4
  have a4 : σ4.1 2 (h * 9 + 3).toNat = iI (P (8 * h + 3)) := CP_m C4 (by omega)
  try simp (disch := omega) only [iI_lit, iL_lit, iI_add, iI_sub, iI_mul, iI_neg, iI_lt, iI_le, iI_eq, iI_tn, iI_div, iI_l, iL_add, iL_sub, iL_mul, iL_neg, iL_le, iL_lt, iL_eq, iL_ite, vp_T, b2_ne0, b2_eq1, nn_imp, true_and, iI_ite, not_true_eq_false, not_false_eq_true, true_implies, false_implies, and_true, Int.reduceLT, Int.reduceLE, Int.reduceEq, or_false, false_or, true_or, or_true, false_and, and_false, a4]
  refine c_X5_writeNumber hS t4 (by omega) (by simp only [List.length_append]; omega) (fun σ5 f5 t5 => ⟨rfl, ?_⟩)
  have C5 := CP_T C4 f5
  have a5 : σ5.1 2 (h * 9 + 4).toNat = iI (P (8 * h + 4)) := CP_m C5 (by omega)
  try simp (disch := omega) only [iI_lit, iL_lit, iI_add, iI_sub, iI_mul, iI_neg, iI_lt, iI_le, iI_eq, iI_tn, iI_div, iI_l, iL_add, iL_sub, iL_mul, iL_neg, iL_le, iL_lt, iL_eq, iL_ite, vp_T, b2_ne0, b2_eq1, nn_imp, true_and, iI_ite, not_true_eq_false, not_false_eq_true, true_implies, false_implies, and_true, Int.reduceLT, Int.reduceLE, Int.reduceEq, or_false, false_or, true_or, or_true, false_and, and_false, a5]
  refine c_X5_writeNumber hS t5 (by omega) (by simp only [List.length_append]; omega) (fun σ6 f6 t6 => ⟨rfl, ?_⟩)
  have C6 := CP_T C5 f6
  have a6 : σ6.1 2 (h * 9 + 5).toNat = iI (P (8 * h + 5)) := CP_m C6 (by omega)
  try simp (disch := omega) only [iI_lit, iL_lit, iI_add, iI_sub, iI_mul, iI_neg, iI_lt, iI_le, iI_eq, iI_tn, iI_div, iI_l, iL_add, iL_sub, iL_mul, iL_neg, iL_le, iL_lt, iL_eq, iL_ite, vp_T, b2_ne0, b2_eq1, nn_imp, true_and, iI_ite, not_true_eq_false, not_false_eq_true, true_implies, false_implies, and_true, Int.reduceLT, Int.reduceLE, Int.reduceEq, or_false, false_or, true_or, or_true, false_and, and_false, a6]
  refine c_X5_writeNumber hS t6 (by omega) (by simp only [List.length_append]; omega) (fun σ7 f7 t7 => ⟨rfl, ?_⟩)
  unfold hoT at hk
  simp only [List.append_assoc] at t7 hk
  exact hk σ7 (Fr_tr f1 (Fr_tr f2 (Fr_tr f3 (Fr_tr f4 (Fr_tr f5 (Fr_tr f6 f7)))))) t7
theorem c_X5_writeWire (hS : Sys S) (hT0 : SysT S) (hC : CP 1 P σ) (hW : WF P) (hT : TC t σ) {w : Int} (h0 : 0 ≤ w) (h1 : w < P 281) (hl : (sm t).length + 17 ≤ 1239) (hk : ∀ σ', Fr FTX σ σ' → TC (sm t ++ wiT P w) σ' → Φ [] σ') : S 69 [aR 34, aR 1, aI (iI w)] σ Φ := by
  refine m_X5_writeWire hS isPat_1 (fun v hv hw => ?_)
  have g0 := WF_0 hW
  have g := WF_w hW h0 h1
  have z : (wrd 6).length = 4 := by decide
  have z7 : (wrd 7).length = 5 := by decide
  have sb0 : sb 201 = wrd 6 := rfl
  have sb1 : sb 214 = wrd 7 := rfl
  have o : ([32] : List Int).length = 1 := rfl
  have na := nmb_l (v := P (160 + 3 * w))
  have nb := nmb_l (v := P (160 + 3 * w + 1))
  have nc := nmb_l (v := P (160 + 3 * w + 2))
  have T : ∀ (u : List Int) (σ1 : St), CP 1 P σ1 → TC u σ1 → u.length + 7 ≤ 1239 → (∀ σ', Fr FTX σ1 σ' → TC (u ++ (nmb (P (160 + 3 * w + 1)) ++ nmb (P (160 + 3 * w + 2)))) σ' → Φ [] σ') → vc_X5_writeWire_35 S Φ v 1 (iI w) σ1 := by
    intro u σ1 C1 t1 hl1 hk1
    unfold vc_X5_writeWire_35
    have a1 : σ1.1 3 (w * 3 + 1).toNat = iI (P (160 + 3 * w + 1)) := CP_v C1 (by omega)
    try simp (disch := omega) only [iI_lit, iL_lit, iI_add, iI_sub, iI_mul, iI_neg, iI_lt, iI_le, iI_eq, iI_tn, iI_div, iI_l, iL_add, iL_sub, iL_mul, iL_neg, iL_le, iL_lt, iL_eq, iL_ite, vp_T, b2_ne0, b2_eq1, nn_imp, true_and, iI_ite, not_true_eq_false, not_false_eq_true, true_implies, false_implies, and_true, Int.reduceLT, Int.reduceLE, Int.reduceEq, or_false, false_or, true_or, or_true, false_and, and_false, a1]
    refine c_X5_writeNumber hS t1 (by omega) (by omega) (fun σ2 f2 t2 => ⟨rfl, ?_⟩)
    have a2 : σ2.1 3 (w * 3 + 2).toNat = iI (P (160 + 3 * w + 2)) := CP_v (CP_T C1 f2) (by omega)
    try simp (disch := omega) only [iI_lit, iL_lit, iI_add, iI_sub, iI_mul, iI_neg, iI_lt, iI_le, iI_eq, iI_tn, iI_div, iI_l, iL_add, iL_sub, iL_mul, iL_neg, iL_le, iL_lt, iL_eq, iL_ite, vp_T, b2_ne0, b2_eq1, nn_imp, true_and, iI_ite, not_true_eq_false, not_false_eq_true, true_implies, false_implies, and_true, Int.reduceLT, Int.reduceLE, Int.reduceEq, or_false, false_or, true_or, or_true, false_and, and_false, a2]
    refine c_X5_writeNumber hS t2 (by omega) (by simp only [List.length_append]; omega) (fun σ3 f3 t3 => ⟨rfl, ?_⟩)
    simp only [List.append_assoc] at t3
    exact hk1 σ3 (Fr_tr f2 f3) t3
  unfold vc_X5_writeWire_0
  refine c_X5_begin hS hT0 hT (by unfold isStr; decide) (by rw [sb0]; omega) (fun σ1 f1 t1 => ⟨rfl, ?_⟩)
  rw [sb0] at t1
  have C1 := CP_T hC f1
  have a1 : σ1.1 3 (w * 3 + 0).toNat = iI (P (160 + 3 * w + 0)) := CP_v C1 (by omega)
  rw [Int.add_zero (160 + 3 * w)] at a1
  unfold wiT at hk
  try simp (disch := omega) only [iI_lit, iL_lit, iI_add, iI_sub, iI_mul, iI_neg, iI_lt, iI_le, iI_eq, iI_tn, iI_div, iI_l, iL_add, iL_sub, iL_mul, iL_neg, iL_le, iL_lt, iL_eq, iL_ite, vp_T, b2_ne0, b2_eq1, nn_imp, true_and, iI_ite, not_true_eq_false, not_false_eq_true, true_implies, false_implies, and_true, Int.reduceLT, Int.reduceLE, Int.reduceEq, or_false, false_or, true_or, or_true, false_and, and_false, a1]
  refine ⟨fun c => ?_, fun c => ?_⟩
  · rw [if_neg c] at hk
    refine c_X5_writeNumber hS t1 (by omega) (by simp only [List.length_append]; omega) (fun σ2 f2 t2 => ⟨rfl, ?_⟩)
    refine T _ σ2 (CP_T C1 f2) t2 (by simp only [List.length_append]; omega) (fun σ3 f3 t3 => ?_)
    simp only [List.append_assoc] at t3 hk
    exact hk σ3 (Fr_tr f1 (Fr_tr f2 f3)) t3
  · rw [if_pos c] at hk
    refine c_X5_writeWord hS hT0 t1 (by unfold isStr; decide) (by rw [sb1]; simp only [List.length_append]; omega) (fun σ2 f2 t2 => ⟨rfl, ?_⟩)
    rw [sb1] at t2
    refine T _ σ2 (CP_T C1 f2) t2 (by simp only [List.length_append]; omega) (fun σ3 f3 t3 => ?_)
    simp only [List.append_assoc] at t3 hk
    exact hk σ3 (Fr_tr f1 (Fr_tr f2 f3)) t3
theorem c_X5_write (hS : Sys S) (hT0 : SysT S) (hC : CP 1 P σ) (hW : WF P) (hk : ∀ σ', Fr FTX σ σ' → TC (pap P) σ' → Φ [] σ') : S 67 [aR 34, aR 1] σ Φ := by
  refine m_X5_write hS isPat_1 (fun v hv hw => ?_)
  have g0 := WF_0 hW
  unfold vc_X5_write_0
  intro σ1 e1
  have F1 : Fr FTX σ σ1 := by rw [e1]; exact Fr_up Fr_rf (Or.inr ⟨rfl, rfl⟩)
  have B : ∀ (d : Nat) (w : Int) (σ2 : St), (P 281 - w).toNat = d → 0 ≤ w → w ≤ P 281 → Fr FTX σ σ2 → TC (paW P w) σ2 → v 29 [some (aR 34), some (aR 1), some (aI (iI w))] [] σ2 := by
    intro d
    induction d with
    | zero =>
      intro w σ2 hd w0 w1 hf ht
      refine w_X5_write_29 hS hv hw 1 isPat_1 _ σ2 ?_
      unfold vc_X5_write_29
      have q : w = P 281 := by omega
      subst q
      try simp (disch := omega) only [iI_lit, iL_lit, iI_add, iI_sub, iI_mul, iI_neg, iI_lt, iI_le, iI_eq, iI_tn, iI_div, iI_l, iL_add, iL_sub, iL_mul, iL_neg, iL_le, iL_lt, iL_eq, iL_ite, vp_T, b2_ne0, b2_eq1, nn_imp, true_and, iI_ite, not_true_eq_false, not_false_eq_true, true_implies, false_implies, and_true, Int.reduceLT, Int.reduceLE, Int.reduceEq, or_false, false_or, true_or, or_true, false_and, and_false, CP_w (CP_T hC hf)]
      exact ⟨fun _ => hk σ2 hf ht, fun c => by omega⟩
    | succ d ih =>
      intro w σ2 hd w0 w1 hf ht
      refine w_X5_write_29 hS hv hw 1 isPat_1 _ σ2 ?_
      unfold vc_X5_write_29
      have l := paW_l hW w0 w1
      have sl := sm_l (t := paW P w)
      try simp (disch := omega) only [iI_lit, iL_lit, iI_add, iI_sub, iI_mul, iI_neg, iI_lt, iI_le, iI_eq, iI_tn, iI_div, iI_l, iL_add, iL_sub, iL_mul, iL_neg, iL_le, iL_lt, iL_eq, iL_ite, vp_T, b2_ne0, b2_eq1, nn_imp, true_and, iI_ite, not_true_eq_false, not_false_eq_true, true_implies, false_implies, and_true, Int.reduceLT, Int.reduceLE, Int.reduceEq, or_false, false_or, true_or, or_true, false_and, and_false, CP_w (CP_T hC hf)]
      refine ⟨fun c => by omega, fun _ => ?_⟩
      refine c_X5_writeWire hS hT0 (CP_T hC hf) hW ht w0 (by omega) (by omega) (fun σ3 f3 t3 => ⟨rfl, ih (w + 1) σ3 (by omega) (by omega) (by omega) (Fr_tr hf f3) ?_⟩)
      rw [paW_s w0]; exact t3
  have A : ∀ (d : Nat) (h : Int) (σ2 : St), (P 280 - h).toNat = d → 0 ≤ h → h ≤ P 280 → Fr FTX σ σ2 → TC (paH P h) σ2 → v 7 [some (aR 34), some (aR 1), some (aI (iI h))] [] σ2 := by
    intro d
    induction d with
    | zero =>
      intro h σ2 hd h0 h1 hf ht
      refine w_X5_write_7 hS hv hw 1 isPat_1 _ σ2 ?_
      unfold vc_X5_write_7
      have q : h = P 280 := by omega
      subst q
      try simp (disch := omega) only [iI_lit, iL_lit, iI_add, iI_sub, iI_mul, iI_neg, iI_lt, iI_le, iI_eq, iI_tn, iI_div, iI_l, iL_add, iL_sub, iL_mul, iL_neg, iL_le, iL_lt, iL_eq, iL_ite, vp_T, b2_ne0, b2_eq1, nn_imp, true_and, iI_ite, not_true_eq_false, not_false_eq_true, true_implies, false_implies, and_true, Int.reduceLT, Int.reduceLE, Int.reduceEq, or_false, false_or, true_or, or_true, false_and, and_false, CP_n (CP_T hC hf)]
      exact ⟨fun _ => B _ 0 σ2 rfl (Int.le_refl 0) g0.2.1.1 hf (by unfold paW; rw [lp_z _ _ (Int.le_refl 0)]; exact ht), fun c => by omega⟩
    | succ d ih =>
      intro h σ2 hd h0 h1 hf ht
      refine w_X5_write_7 hS hv hw 1 isPat_1 _ σ2 ?_
      unfold vc_X5_write_7
      have l := paH_l hW h0 h1
      have sl := sm_l (t := paH P h)
      try simp (disch := omega) only [iI_lit, iL_lit, iI_add, iI_sub, iI_mul, iI_neg, iI_lt, iI_le, iI_eq, iI_tn, iI_div, iI_l, iL_add, iL_sub, iL_mul, iL_neg, iL_le, iL_lt, iL_eq, iL_ite, vp_T, b2_ne0, b2_eq1, nn_imp, true_and, iI_ite, not_true_eq_false, not_false_eq_true, true_implies, false_implies, and_true, Int.reduceLT, Int.reduceLE, Int.reduceEq, or_false, false_or, true_or, or_true, false_and, and_false, CP_n (CP_T hC hf)]
      refine ⟨fun c => by omega, fun _ => ?_⟩
      refine c_X5_writeHole hS hT0 (CP_T hC hf) hW ht h0 (by omega) (by omega) (fun σ3 f3 t3 => ⟨rfl, ih (h + 1) σ3 (by omega) (by omega) (by omega) (Fr_tr hf f3) ?_⟩)
      rw [paH_s h0]; exact t3
  rw [iI_lit]
  refine A _ 0 σ1 rfl (Int.le_refl 0) g0.1.1 F1 ?_
  unfold paH; rw [lp_z _ _ (Int.le_refl 0)]
  exact ⟨by rw [e1, up_h rfl]; rfl, fun i hi => absurd hi (Nat.not_lt_zero i)⟩
theorem c_X8_written (hS : Sys S) (hT0 : SysT S) (hC : CP 1 P σ) (hW : WF P) (hR : WRd P σ) (hk : ∀ σ', Fr FWR σ σ' → TC (pap P) σ' → σ'.1 0 13 = iI 1 → Φ [aR 34] σ') : S 133 [aR 0] σ Φ := by
  refine m_X8_written hS (fun v hv hw => ?_)
  unfold vc_X8_written_0
  rcases hR with h | ⟨h, q⟩
  · try simp (disch := omega) only [iI_lit, iL_lit, iI_add, iI_sub, iI_mul, iI_neg, iI_lt, iI_le, iI_eq, iI_tn, iI_div, iI_l, iL_add, iL_sub, iL_mul, iL_neg, iL_le, iL_lt, iL_eq, iL_ite, vp_T, b2_ne0, b2_eq1, nn_imp, true_and, iI_ite, not_true_eq_false, not_false_eq_true, true_implies, false_implies, and_true, Int.reduceLT, Int.reduceLE, Int.reduceEq, or_false, false_or, true_or, or_true, false_and, and_false, h]
    refine c_X5_write hS hT0 hC hW (fun σ1 f1 t1 => ⟨rfl, fun σ2 e2 => ?_⟩)
    have f2 : Fr (fun k j => k = 0 ∧ j = 13) σ1 σ2 := by rw [e2]; exact Fr_up Fr_rf ⟨rfl, rfl⟩
    exact hk σ2 (Fr_tr (Fr_mo f1 (fun k j q => by unfold FTX at q; unfold FWR; omega)) (Fr_mo f2 (fun k j q => Or.inr (Or.inr q)))) (TX_f t1 f2 (fun i => by omega) (by omega)) (by rw [e2]; exact up_h rfl)
  · try simp (disch := omega) only [iI_lit, iL_lit, iI_add, iI_sub, iI_mul, iI_neg, iI_lt, iI_le, iI_eq, iI_tn, iI_div, iI_l, iL_add, iL_sub, iL_mul, iL_neg, iL_le, iL_lt, iL_eq, iL_ite, vp_T, b2_ne0, b2_eq1, nn_imp, true_and, iI_ite, not_true_eq_false, not_false_eq_true, true_implies, false_implies, and_true, Int.reduceLT, Int.reduceLE, Int.reduceEq, or_false, false_or, true_or, or_true, false_and, and_false, h]
    exact hk σ Fr_rf q h
theorem c_X8_spell (hS : Sys S) (hT0 : SysT S) (hC : CP 1 P σ) (hW : WF P) (hR : WRd P σ) (hk : ∀ σ', Fr FWR σ σ' → WRd P σ' → Φ [aI (iI ((pap P).length : Nat))] σ') : S 116 [aR 0] σ Φ := by
  refine m_X8_spell hS (fun v hv hw => ?_)
  unfold vc_X8_spell_0
  refine c_X8_written hS hT0 hC hW hR (fun σ1 f1 t1 a1 => ⟨rfl, ?_⟩)
  rw [t1.1]
  exact hk σ1 f1 (Or.inr ⟨a1, t1⟩)
theorem pap_l (hW : WF P) : (((pap P).length : Nat) : Int) ≤ 1239 := by
  have g0 := WF_0 hW
  have := paW_l hW g0.2.1.1 (Int.le_refl _)
  unfold pap
  omega
theorem c_X8_paper (hS : Sys S) (hT0 : SysT S) (hC : CP 1 P σ) (hW : WF P) (hR : WRd P σ) {i : Int} (r1 : -2147483648 ≤ i ∧ i < 2147483648) (hk : ∀ σ', Fr FWR σ σ' → WRd P σ' → Φ [aI (iI (qPaper P i))] σ') : S 117 [aR 0, aI (iI i)] σ Φ := by
  refine m_X8_paper hS (fun v hv hw => ?_)
  unfold vc_X8_paper_0
  refine c_X8_written hS hT0 hC hW hR (fun σ1 f1 t1 a1 => ⟨rfl, ?_⟩)
  have hk := hk σ1 f1 (Or.inr ⟨a1, t1⟩)
  have l := pap_l hW
  have t0 := t1.1
  unfold qPaper at hk
  try simp (disch := omega) only [iI_lit, iL_lit, iI_add, iI_sub, iI_mul, iI_neg, iI_lt, iI_le, iI_eq, iI_tn, iI_div, iI_l, iL_add, iL_sub, iL_mul, iL_neg, iL_le, iL_lt, iL_eq, iL_ite, vp_T, b2_ne0, b2_eq1, nn_imp, true_and, iI_ite, not_true_eq_false, not_false_eq_true, true_implies, false_implies, and_true, Int.reduceLT, Int.reduceLE, Int.reduceEq, or_false, false_or, true_or, or_true, false_and, and_false, t0]
  refine ⟨fun c => ?_, fun c => ⟨fun d => ?_, fun d => ?_⟩⟩
  · rw [if_neg (by omega)] at hk; exact hk
  · rw [if_pos (by omega)] at hk
    try simp (disch := omega) only [iI_lit, iL_lit, iI_add, iI_sub, iI_mul, iI_neg, iI_lt, iI_le, iI_eq, iI_tn, iI_div, iI_l, iL_add, iL_sub, iL_mul, iL_neg, iL_le, iL_lt, iL_eq, iL_ite, vp_T, b2_ne0, b2_eq1, nn_imp, true_and, iI_ite, not_true_eq_false, not_false_eq_true, true_implies, false_implies, and_true, Int.reduceLT, Int.reduceLE, Int.reduceEq, or_false, false_or, true_or, or_true, false_and, and_false]
    rw [t1.2 i.toNat (by omega)]; exact hk
  · rw [if_neg (by omega)] at hk; exact hk
end C29c
