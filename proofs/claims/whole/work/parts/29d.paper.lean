section C29d
variable {S : Sp} {σ : St} {Φ : Rs} {P : Pl} {t : List Int}
theorem MP_T {σ' : St} (h : MP 50 P σ) (hf : Fr FTM σ σ') : MP 50 P σ' := MP_f h hf (fun j => by unfold FTM; omega)
theorem WLM_f {c : Nat → Nat → Prop} {σ' : St} (h : WLM σ) (hf : Fr c σ σ') (h1 : ∀ j, ¬ c 60 j ∧ ¬ c 61 j) : WLM σ' :=
  ⟨fun i hi => by rw [hf.1 _ _ (h1 _).1]; exact h.1 i hi, fun i hi => by rw [hf.1 _ _ (h1 _).2]; exact h.2 i hi⟩
theorem WLM_T {σ' : St} (h : WLM σ) (hf : Fr FTM σ σ') : WLM σ' := WLM_f h hf (fun j => by unfold FTM; omega)
theorem c_X9_spell (hS : Sys S) (hM : MP 50 P σ) (hW : WF P) (hL : WLM σ) (hk : ∀ σ', Fr FTM σ σ' → TM (pap P) σ' → Φ [aI (iI ((pap P).length : Nat))] σ') : S 222 [aR 49] σ Φ := by
  refine m_X9_spell hS (fun v hv hw => ?_)
  have g0 := WF_0 hW
  have z0 : (wrd 0).length = 4 := by decide
  have z : (wrd 6).length = 4 := by decide
  have z7 : (wrd 7).length = 5 := by decide
  have o : ([32] : List Int).length = 1 := rfl
  unfold vc_X9_spell_0
  intro σ1 e1
  have F1 : Fr FTM σ σ1 := by rw [e1]; exact Fr_up Fr_rf (Or.inr ⟨rfl, rfl⟩)
  -- a wire's end
  have W3 : ∀ (w : Int) (u : List Int) (σ2 : St), 0 ≤ w → w < P 281 → Fr FTM σ σ2 → TM u σ2 → u.length + 8 < 2000 → (∀ σ', Fr FTM σ σ' → TM (u ++ (nmb (P (160 + 3 * w + 1)) ++ nmb (P (160 + 3 * w + 2)))) σ' → v 108 [some (aR 49), some (aI (iI (w + 1)))] [] σ') → vc_X9_spell_173 S Φ v (iI w) σ2 := by
    intro w u σ2 w0 w1 hf ht hl hk2
    have g := WF_w hW w0 w1
    have nb := nmb_l (v := P (160 + 3 * w + 1))
    have nc := nmb_l (v := P (160 + 3 * w + 2))
    unfold vc_X9_spell_173
    try simp (disch := omega) only [iI_lit, iL_lit, iI_add, iI_sub, iI_mul, iI_neg, iI_lt, iI_le, iI_eq, iI_tn, iI_div, iI_l, iL_add, iL_sub, iL_mul, iL_neg, iL_le, iL_lt, iL_eq, iL_ite, vp_T, b2_ne0, b2_eq1, nn_imp, true_and, iI_ite, not_true_eq_false, not_false_eq_true, true_implies, false_implies, and_true, Int.reduceLT, Int.reduceLE, Int.reduceEq, or_false, false_or, true_or, or_true, false_and, and_false, MP_T hM hf _]
    refine c_X9_number hS ht (by omega) (by omega) (fun σ3 f3 t3 => ⟨rfl, ?_⟩)
    try simp (disch := omega) only [iI_lit, iL_lit, iI_add, iI_sub, iI_mul, iI_neg, iI_lt, iI_le, iI_eq, iI_tn, iI_div, iI_l, iL_add, iL_sub, iL_mul, iL_neg, iL_le, iL_lt, iL_eq, iL_ite, vp_T, b2_ne0, b2_eq1, nn_imp, true_and, iI_ite, not_true_eq_false, not_false_eq_true, true_implies, false_implies, and_true, Int.reduceLT, Int.reduceLE, Int.reduceEq, or_false, false_or, true_or, or_true, false_and, and_false, MP_T hM (Fr_tr hf f3) _]
    refine c_X9_number hS t3 (by omega) (by simp only [List.length_append]; omega) (fun σ4 f4 t4 => ⟨rfl, ?_⟩)
    simp only [List.append_assoc] at t4
    exact hk2 σ4 (Fr_tr hf (Fr_tr f3 f4)) t4
  have W2 : ∀ (w : Int) (u : List Int) (σ2 : St), 0 ≤ w → w < P 281 → Fr FTM σ σ2 → TM u σ2 → u.length + 30 < 2000 → (∀ σ', Fr FTM σ σ' → TM (u ++ wiT P w) σ' → v 108 [some (aR 49), some (aI (iI (w + 1)))] [] σ') → vc_X9_spell_133 S Φ v (iI w) σ2 := by
    intro w u σ2 w0 w1 hf ht hl hk2
    have g := WF_w hW w0 w1
    have na := nmb_l (v := P (160 + 3 * w))
    unfold vc_X9_spell_133
    refine c_X9_spells hS ht (WLM_T hL hf) (k := 6) (by omega) (by omega) (fun σ3 f3 t3 => ⟨rfl, ?_⟩)
    have m3 := MP_T hM (Fr_tr hf f3)
    have m0 : σ3.1 50 (160 + 3 * w + 0).toNat = iI (P (160 + 3 * w)) := by rw [m3 _ (by omega), Int.add_zero]
    unfold wiT at hk2
    rw [show (32 : Int32) = iI 32 from rfl]
    have t3 : TM (u ++ wrd 6) σ3 := t3
    try simp (disch := omega) only [iI_lit, iL_lit, iI_add, iI_sub, iI_mul, iI_neg, iI_lt, iI_le, iI_eq, iI_tn, iI_div, iI_l, iL_add, iL_sub, iL_mul, iL_neg, iL_le, iL_lt, iL_eq, iL_ite, vp_T, b2_ne0, b2_eq1, nn_imp, true_and, iI_ite, not_true_eq_false, not_false_eq_true, true_implies, false_implies, and_true, Int.reduceLT, Int.reduceLE, Int.reduceEq, or_false, false_or, true_or, or_true, false_and, and_false, m0]
    refine ⟨fun c => ?_, fun c => ?_⟩
    · rw [if_neg (by omega)] at hk2
      refine c_X9_number hS t3 (by omega) (by simp only [List.length_append]; omega) (fun σ4 f4 t4 => ⟨rfl, ?_⟩)
      refine W3 w _ σ4 w0 w1 (Fr_tr hf (Fr_tr f3 f4)) t4 (by simp only [List.length_append]; omega) (fun σ5 f5 t5 => ?_)
      simp only [List.append_assoc] at t5 hk2
      exact hk2 σ5 f5 t5
    · rw [if_pos (by omega)] at hk2
      refine c_X9_sign hS t3 (by simp only [List.length_append]; omega) (fun σ4 f4 t4 => ⟨rfl, ?_⟩)
      refine c_X9_spells hS t4 (WLM_T hL (Fr_tr hf (Fr_tr f3 f4))) (k := 7) (by omega) (by simp only [List.length_append]; omega) (fun σ5 f5 t5 => ⟨rfl, ?_⟩)
      have t5 : TM (u ++ wrd 6 ++ [32] ++ wrd 7) σ5 := t5
      refine W3 w _ σ5 w0 w1 (Fr_tr hf (Fr_tr f3 (Fr_tr f4 f5))) t5 (by simp only [List.length_append]; omega) (fun σ6 f6 t6 => ?_)
      simp only [List.append_assoc] at t6 hk2
      exact hk2 σ6 f6 t6
  have B : ∀ (d : Nat) (w : Int) (σ2 : St), (P 281 - w).toNat = d → 0 ≤ w → w ≤ P 281 → Fr FTM σ σ2 → TM (paW P w) σ2 → v 108 [some (aR 49), some (aI (iI w))] [] σ2 := by
    intro d
    induction d with
    | zero =>
      intro w σ2 hd w0 w1 hf ht
      refine w_X9_spell_108 hS hv hw _ σ2 ?_
      unfold vc_X9_spell_108
      have q : w = P 281 := by omega
      subst q
      try simp (disch := omega) only [iI_lit, iL_lit, iI_add, iI_sub, iI_mul, iI_neg, iI_lt, iI_le, iI_eq, iI_tn, iI_div, iI_l, iL_add, iL_sub, iL_mul, iL_neg, iL_le, iL_lt, iL_eq, iL_ite, vp_T, b2_ne0, b2_eq1, nn_imp, true_and, iI_ite, not_true_eq_false, not_false_eq_true, true_implies, false_implies, and_true, Int.reduceLT, Int.reduceLE, Int.reduceEq, or_false, false_or, true_or, or_true, false_and, and_false, MP_T hM hf _]
      refine ⟨fun _ => ?_, fun c => by omega⟩
      rw [ht.1]
      exact hk σ2 hf ht
    | succ d ih =>
      intro w σ2 hd w0 w1 hf ht
      refine w_X9_spell_108 hS hv hw _ σ2 ?_
      unfold vc_X9_spell_108
      have l := paW_l hW w0 w1
      have h0 := ht.1
      have i := fun σ3 => ih (w + 1) σ3 (by omega) (by omega) (by omega)
      rw [paW_s w0] at i
      rw [show (59 : Int32) = iI 59 from rfl]
      try simp (disch := omega) only [iI_lit, iL_lit, iI_add, iI_sub, iI_mul, iI_neg, iI_lt, iI_le, iI_eq, iI_tn, iI_div, iI_l, iL_add, iL_sub, iL_mul, iL_neg, iL_le, iL_lt, iL_eq, iL_ite, vp_T, b2_ne0, b2_eq1, nn_imp, true_and, iI_ite, not_true_eq_false, not_false_eq_true, true_implies, false_implies, and_true, Int.reduceLT, Int.reduceLE, Int.reduceEq, or_false, false_or, true_or, or_true, false_and, and_false, MP_T hM hf _, h0]
      refine ⟨fun c => by omega, fun _ => ⟨fun c => ?_, fun c => ?_⟩⟩
      · unfold sm at i
        rw [if_pos (by omega)] at i
        exact W2 w _ σ2 w0 (by omega) hf ht (by omega) (fun σ3 f3 t3 => i σ3 f3 t3)
      · unfold sm at i
        rw [if_neg (by omega)] at i
        refine c_X9_sign hS ht (by omega) (fun σ3 f3 t3 => ⟨rfl, ?_⟩)
        have l1 : (paW P w ++ [59]).length = (paW P w).length + 1 := by rw [List.length_append]; rfl
        exact W2 w _ σ3 w0 (by omega) (Fr_tr hf f3) t3 (by omega) (fun σ4 f4 t4 => i σ4 f4 t4)
  have H2 : ∀ (h : Int) (u : List Int) (σ2 : St), 0 ≤ h → h < P 280 → Fr FTM σ σ2 → TM u σ2 → u.length + 40 < 2000 → (∀ σ', Fr FTM σ σ' → TM (u ++ hoT P h) σ' → v 7 [some (aR 49), some (aI (iI (h + 1)))] [] σ') → vc_X9_spell_29 S Φ v (iI h) σ2 := by
    intro h u σ2 h0 h1 hf ht hl hk2
    have g := WF_h hW h0 h1
    have na := nmb_l (v := P (8 * h))
    have nb := nmb_l (v := P (8 * h + 1))
    have nc := nmb_l (v := P (8 * h + 3))
    have nd := nmb_l (v := P (8 * h + 4))
    have ne := nmb_l (v := P (8 * h + 5))
    have nw := wrd_n (k := P (8 * h + 2)) (by omega)
    unfold vc_X9_spell_29
    refine c_X9_spells hS ht (WLM_T hL hf) (k := 0) (by omega) (by omega) (fun σ3 f3 t3 => ⟨rfl, ?_⟩)
    have t3 : TM (u ++ wrd 0) σ3 := t3
    have F3 := Fr_tr hf f3
    have m0 : σ3.1 50 (8 * h + 0).toNat = iI (P (8 * h)) := by rw [MP_T hM F3 _ (by omega), Int.add_zero]
    try simp (disch := omega) only [iI_lit, iL_lit, iI_add, iI_sub, iI_mul, iI_neg, iI_lt, iI_le, iI_eq, iI_tn, iI_div, iI_l, iL_add, iL_sub, iL_mul, iL_neg, iL_le, iL_lt, iL_eq, iL_ite, vp_T, b2_ne0, b2_eq1, nn_imp, true_and, iI_ite, not_true_eq_false, not_false_eq_true, true_implies, false_implies, and_true, Int.reduceLT, Int.reduceLE, Int.reduceEq, or_false, false_or, true_or, or_true, false_and, and_false, m0]
    refine c_X9_number hS t3 (by omega) (by simp only [List.length_append]; omega) (fun σ4 f4 t4 => ⟨rfl, ?_⟩)
    have F4 := Fr_tr F3 f4
    try simp (disch := omega) only [iI_lit, iL_lit, iI_add, iI_sub, iI_mul, iI_neg, iI_lt, iI_le, iI_eq, iI_tn, iI_div, iI_l, iL_add, iL_sub, iL_mul, iL_neg, iL_le, iL_lt, iL_eq, iL_ite, vp_T, b2_ne0, b2_eq1, nn_imp, true_and, iI_ite, not_true_eq_false, not_false_eq_true, true_implies, false_implies, and_true, Int.reduceLT, Int.reduceLE, Int.reduceEq, or_false, false_or, true_or, or_true, false_and, and_false, MP_T hM F4 _]
    refine c_X9_number hS t4 (by omega) (by simp only [List.length_append]; omega) (fun σ5 f5 t5 => ⟨rfl, ?_⟩)
    have F5 := Fr_tr F4 f5
    refine c_X9_sign hS t5 (by simp only [List.length_append]; omega) (fun σ6 f6 t6 => ⟨rfl, ?_⟩)
    have F6 := Fr_tr F5 f6
    try simp (disch := omega) only [iI_lit, iL_lit, iI_add, iI_sub, iI_mul, iI_neg, iI_lt, iI_le, iI_eq, iI_tn, iI_div, iI_l, iL_add, iL_sub, iL_mul, iL_neg, iL_le, iL_lt, iL_eq, iL_ite, vp_T, b2_ne0, b2_eq1, nn_imp, true_and, iI_ite, not_true_eq_false, not_false_eq_true, true_implies, false_implies, and_true, Int.reduceLT, Int.reduceLE, Int.reduceEq, or_false, false_or, true_or, or_true, false_and, and_false, MP_T hM F6 _]
    have ek : P (8 * h + 2) = (((P (8 * h + 2)).toNat : Nat) : Int) := by omega
    rw [ek]
    refine c_X9_spells hS t6 (WLM_T hL F6) (k := (P (8 * h + 2)).toNat) (by omega) (by simp only [List.length_append]; omega) (fun σ7 f7 t7 => ⟨rfl, ?_⟩)
    rw [← ek] at t7
    have F7 := Fr_tr F6 f7
    try simp (disch := omega) only [iI_lit, iL_lit, iI_add, iI_sub, iI_mul, iI_neg, iI_lt, iI_le, iI_eq, iI_tn, iI_div, iI_l, iL_add, iL_sub, iL_mul, iL_neg, iL_le, iL_lt, iL_eq, iL_ite, vp_T, b2_ne0, b2_eq1, nn_imp, true_and, iI_ite, not_true_eq_false, not_false_eq_true, true_implies, false_implies, and_true, Int.reduceLT, Int.reduceLE, Int.reduceEq, or_false, false_or, true_or, or_true, false_and, and_false, MP_T hM F7 _]
    refine c_X9_number hS t7 (by omega) (by simp only [List.length_append]; omega) (fun σ8 f8 t8 => ⟨rfl, ?_⟩)
    have F8 := Fr_tr F7 f8
    try simp (disch := omega) only [iI_lit, iL_lit, iI_add, iI_sub, iI_mul, iI_neg, iI_lt, iI_le, iI_eq, iI_tn, iI_div, iI_l, iL_add, iL_sub, iL_mul, iL_neg, iL_le, iL_lt, iL_eq, iL_ite, vp_T, b2_ne0, b2_eq1, nn_imp, true_and, iI_ite, not_true_eq_false, not_false_eq_true, true_implies, false_implies, and_true, Int.reduceLT, Int.reduceLE, Int.reduceEq, or_false, false_or, true_or, or_true, false_and, and_false, MP_T hM F8 _]
    refine c_X9_number hS t8 (by omega) (by simp only [List.length_append]; omega) (fun σ9 f9 t9 => ⟨rfl, ?_⟩)
    have F9 := Fr_tr F8 f9
    try simp (disch := omega) only [iI_lit, iL_lit, iI_add, iI_sub, iI_mul, iI_neg, iI_lt, iI_le, iI_eq, iI_tn, iI_div, iI_l, iL_add, iL_sub, iL_mul, iL_neg, iL_le, iL_lt, iL_eq, iL_ite, vp_T, b2_ne0, b2_eq1, nn_imp, true_and, iI_ite, not_true_eq_false, not_false_eq_true, true_implies, false_implies, and_true, Int.reduceLT, Int.reduceLE, Int.reduceEq, or_false, false_or, true_or, or_true, false_and, and_false, MP_T hM F9 _]
    refine c_X9_number hS t9 (by omega) (by simp only [List.length_append]; omega) (fun σ10 f10 t10 => ⟨rfl, ?_⟩)
    unfold hoT at hk2
    simp only [List.append_assoc] at t10 hk2
    exact hk2 σ10 (Fr_tr F9 f10) t10
  have A : ∀ (d : Nat) (h : Int) (σ2 : St), (P 280 - h).toNat = d → 0 ≤ h → h ≤ P 280 → Fr FTM σ σ2 → TM (paH P h) σ2 → v 7 [some (aR 49), some (aI (iI h))] [] σ2 := by
    intro d
    induction d with
    | zero =>
      intro h σ2 hd h0 h1 hf ht
      refine w_X9_spell_7 hS hv hw _ σ2 ?_
      unfold vc_X9_spell_7
      have q : h = P 280 := by omega
      subst q
      try simp (disch := omega) only [iI_lit, iL_lit, iI_add, iI_sub, iI_mul, iI_neg, iI_lt, iI_le, iI_eq, iI_tn, iI_div, iI_l, iL_add, iL_sub, iL_mul, iL_neg, iL_le, iL_lt, iL_eq, iL_ite, vp_T, b2_ne0, b2_eq1, nn_imp, true_and, iI_ite, not_true_eq_false, not_false_eq_true, true_implies, false_implies, and_true, Int.reduceLT, Int.reduceLE, Int.reduceEq, or_false, false_or, true_or, or_true, false_and, and_false, MP_T hM hf _]
      exact ⟨fun _ => B _ 0 σ2 rfl (Int.le_refl 0) g0.2.1.1 hf (by unfold paW; rw [lp_z _ _ (Int.le_refl 0)]; exact ht), fun c => by omega⟩
    | succ d ih =>
      intro h σ2 hd h0 h1 hf ht
      refine w_X9_spell_7 hS hv hw _ σ2 ?_
      unfold vc_X9_spell_7
      have l := paH_l hW h0 h1
      have i := fun σ3 => ih (h + 1) σ3 (by omega) (by omega) (by omega)
      rw [paH_s h0] at i
      rw [show (59 : Int32) = iI 59 from rfl]
      have P0 : h = 0 → (paH P h).length = 0 := fun e => by subst e; unfold paH; rw [lp_z _ _ (Int.le_refl 0)]; rfl
      have P1 : 0 < h → ¬ (paH P h).length = 0 := fun e q => by
        rw [show h = (h - 1) + 1 by omega, paH_s (by omega), List.length_append] at q
        unfold hoT at q
        rw [List.length_append] at q
        omega
      try simp (disch := omega) only [iI_lit, iL_lit, iI_add, iI_sub, iI_mul, iI_neg, iI_lt, iI_le, iI_eq, iI_tn, iI_div, iI_l, iL_add, iL_sub, iL_mul, iL_neg, iL_le, iL_lt, iL_eq, iL_ite, vp_T, b2_ne0, b2_eq1, nn_imp, true_and, iI_ite, not_true_eq_false, not_false_eq_true, true_implies, false_implies, and_true, Int.reduceLT, Int.reduceLE, Int.reduceEq, or_false, false_or, true_or, or_true, false_and, and_false, MP_T hM hf _]
      refine ⟨fun c => by omega, fun _ => ⟨fun c => ?_, fun c => ?_⟩⟩
      · unfold sm at i
        rw [if_pos (P0 (by omega))] at i
        exact H2 h _ σ2 h0 (by omega) hf ht (by omega) (fun σ3 f3 t3 => i σ3 f3 t3)
      · unfold sm at i
        rw [if_neg (P1 (by omega))] at i
        refine c_X9_sign hS ht (by omega) (fun σ3 f3 t3 => ⟨rfl, ?_⟩)
        have l1 : (paH P h ++ [59]).length = (paH P h).length + 1 := by rw [List.length_append]; rfl
        exact H2 h _ σ3 h0 (by omega) (Fr_tr hf f3) t3 (by omega) (fun σ4 f4 t4 => i σ4 f4 t4)
  rw [iI_lit]
  refine A _ 0 σ1 rfl (Int.le_refl 0) g0.1.1 F1 ?_
  unfold paH; rw [lp_z _ _ (Int.le_refl 0)]
  exact ⟨by rw [e1, up_h rfl]; rfl, fun i hi => absurd hi (Nat.not_lt_zero i)⟩
theorem c_X9_paper (hS : Sys S) (hM : MP 50 P σ) (hW : WF P) (hL : WLM σ) {i : Int} (r1 : -2147483648 ≤ i ∧ i < 2147483648) (hk : ∀ σ', Fr FTM σ σ' → Φ [aI (iI (qPaper P i))] σ') : S 223 [aR 49, aI (iI i)] σ Φ := by
  refine m_X9_paper hS (fun v hv hw => ?_)
  unfold vc_X9_paper_0
  have l := pap_l hW
  have hkr := hk σ Fr_rf
  unfold qPaper at hk hkr
  try simp (disch := omega) only [iI_lit, iL_lit, iI_add, iI_sub, iI_mul, iI_neg, iI_lt, iI_le, iI_eq, iI_tn, iI_div, iI_l, iL_add, iL_sub, iL_mul, iL_neg, iL_le, iL_lt, iL_eq, iL_ite, vp_T, b2_ne0, b2_eq1, nn_imp, true_and, iI_ite, not_true_eq_false, not_false_eq_true, true_implies, false_implies, and_true, Int.reduceLT, Int.reduceLE, Int.reduceEq, or_false, false_or, true_or, or_true, false_and, and_false]
  refine ⟨fun c => ?_, fun c => ?_⟩
  · rw [if_neg (by omega)] at hkr; exact hkr
  · refine c_X9_spell hS hM hW hL (fun σ1 f1 t1 => ⟨_, rfl, ?_⟩)
    have hk := hk σ1 f1
    try simp (disch := omega) only [iI_lit, iL_lit, iI_add, iI_sub, iI_mul, iI_neg, iI_lt, iI_le, iI_eq, iI_tn, iI_div, iI_l, iL_add, iL_sub, iL_mul, iL_neg, iL_le, iL_lt, iL_eq, iL_ite, vp_T, b2_ne0, b2_eq1, nn_imp, true_and, iI_ite, not_true_eq_false, not_false_eq_true, true_implies, false_implies, and_true, Int.reduceLT, Int.reduceLE, Int.reduceEq, or_false, false_or, true_or, or_true, false_and, and_false]
    refine ⟨fun d => ?_, fun d => ?_⟩
    · rw [if_neg (by omega)] at hk; exact hk
    · rw [if_pos (by omega)] at hk
      try simp (disch := omega) only [iI_lit, iL_lit, iI_add, iI_sub, iI_mul, iI_neg, iI_lt, iI_le, iI_eq, iI_tn, iI_div, iI_l, iL_add, iL_sub, iL_mul, iL_neg, iL_le, iL_lt, iL_eq, iL_ite, vp_T, b2_ne0, b2_eq1, nn_imp, true_and, iI_ite, not_true_eq_false, not_false_eq_true, true_implies, false_implies, and_true, Int.reduceLT, Int.reduceLE, Int.reduceEq, or_false, false_or, true_or, or_true, false_and, and_false]
      rw [t1.2 i.toNat (by omega)]; exact hk
end C29d
