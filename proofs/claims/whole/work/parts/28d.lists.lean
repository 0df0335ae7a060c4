section C28d
variable {S : Sp} {σ : St} {Φ : Rs} {P : Pl} {L : Ls} {r : (Int → Int) × Int}
theorem c_X9_fill (hS : Sys S) (hM : MP 50 P σ) (hW : WF P) (hL : LM L σ) (ho : okL L) {l w : Int} (r1 : -2147483648 ≤ l ∧ l < 2147483648) (r2 : -2147483648 ≤ w ∧ w < 2147483648) (hk : ∀ σ', Gr FLY DM σ σ' → LM (nFill P l w L) σ' → Φ [aI (iI (aFill P l w L))] σ') : S 231 [aR 49, aI (iI l), aI (iI w)] σ Φ := by
  refine m_X9_fill hS (fun v hv hw => ?_)
  unfold vc_X9_fill_0
  have hkr := hk σ Gr_rf
  unfold aFill nFill isL at hk hkr
  try simp (disch := omega) only [iI_lit, iL_lit, iI_add, iI_sub, iI_mul, iI_neg, iI_lt, iI_le, iI_eq, iI_tn, iI_div, iI_l, iL_add, iL_sub, iL_mul, iL_neg, iL_le, iL_lt, iL_eq, iL_ite, vp_T, b2_ne0, b2_eq1, nn_imp, true_and, iI_ite, not_true_eq_false, not_false_eq_true, true_implies, false_implies, and_true, Int.reduceLT, Int.reduceLE, Int.reduceEq, or_false, false_or, true_or, or_true, false_and, and_false]
  refine ⟨fun c => ?_, fun c => ⟨fun d => ?_, fun d => ?_⟩⟩
  · simp (disch := omega) only [if_pos, if_neg] at hkr; exact hkr hL
  · have c0 : 0 ≤ l := by omega
    have c1 : l < 4 := by omega
    have o := ho l c0 c1
    have z := (hL l c0 c1).1
    try simp (disch := omega) only [iI_lit, iL_lit, iI_add, iI_sub, iI_mul, iI_neg, iI_lt, iI_le, iI_eq, iI_tn, iI_div, iI_l, iL_add, iL_sub, iL_mul, iL_neg, iL_le, iL_lt, iL_eq, iL_ite, vp_T, b2_ne0, b2_eq1, nn_imp, true_and, iI_ite, not_true_eq_false, not_false_eq_true, true_implies, false_implies, and_true, Int.reduceLT, Int.reduceLE, Int.reduceEq, or_false, false_or, true_or, or_true, false_and, and_false, z]
    refine ⟨fun e => ?_, fun e => ?_⟩
    · refine c_X9_layable hS hM hW (w := w) (by omega) (fun σ1 f1 q1 => ⟨_, rfl, ?_⟩)
      have hL1 : LM L σ1 := LM_f (d := fun _ => False) hL (Fr_Gr f1) (fun j => by unfold FLY FL FM FSH; omega) (fun q => q)
      have z1 := (hL1 l c0 c1).1
      have hb := layR_B hW (w := w)
      unfold RB at hb
      have hk := fun σ2 (g : Gr (fun _ _ => False) DM σ1 σ2) => hk σ2 (Gr_tr (Fr_Gr f1) (Gr_mo g (fun _ _ q => q.elim) (fun _ q => q)))
      simp (disch := omega) only [if_pos, if_neg] at hk
      generalize layR P w = r at hk hb q1 ⊢
      try simp (disch := omega) only [iI_lit, iL_lit, iI_add, iI_sub, iI_mul, iI_neg, iI_lt, iI_le, iI_eq, iI_tn, iI_div, iI_l, iL_add, iL_sub, iL_mul, iL_neg, iL_le, iL_lt, iL_eq, iL_ite, vp_T, b2_ne0, b2_eq1, nn_imp, true_and, iI_ite, not_true_eq_false, not_false_eq_true, true_implies, false_implies, and_true, Int.reduceLT, Int.reduceLE, Int.reduceEq, or_false, false_or, true_or, or_true, false_and, and_false, z1]
      rw [show (if L.1 l ≤ r.2 then L.1 l else r.2) = mnL L l r by unfold mnL; omega]
      have mr : 0 ≤ mnL L l r ∧ mnL L l r ≤ 40 ∧ mnL L l r ≤ r.2 := by unfold mnL; split <;> omega
      have A : ∀ (d : Nat) (i : Int) (σ2 : St), (mnL L l r - i).toNat = d → 0 ≤ i → i ≤ mnL L l r → Gr (fun _ _ => False) (fun k => k = 64) σ1 σ2 → (∀ j : Int, 0 ≤ j → j < 160 → σ2.2 64 j.toNat = if 40 * l ≤ j ∧ j < 40 * l + i then iL (r.1 (j - 40 * l)) else σ1.2 64 j.toNat) → v 51 [some (aR 49), some (aI (iI l)), some (aI (iI w)), some (aI (iI (mnL L l r))), some (aI (iI i))] [] σ2 := by
        intro d
        induction d with
        | zero =>
          intro i σ2 hd h0 h1 hf hc
          refine w_X9_fill_51 hS hv hw _ _ _ _ σ2 ?_
          unfold vc_X9_fill_51
          try simp (disch := omega) only [iI_lit, iL_lit, iI_add, iI_sub, iI_mul, iI_neg, iI_lt, iI_le, iI_eq, iI_tn, iI_div, iI_l, iL_add, iL_sub, iL_mul, iL_neg, iL_le, iL_lt, iL_eq, iL_ite, vp_T, b2_ne0, b2_eq1, nn_imp, true_and, iI_ite, not_true_eq_false, not_false_eq_true, true_implies, false_implies, and_true, Int.reduceLT, Int.reduceLE, Int.reduceEq, or_false, false_or, true_or, or_true, false_and, and_false]
          refine ⟨fun _ => hk σ2 (Gr_mo hf (fun _ _ q => q) (fun k q => Or.inl q)) (fun k k0 k1 => ?_), fun c => by omega⟩
          have rr := hL1 k k0 k1
          refine ⟨by rw [hf.1 _ _ (fun q => q)]; exact rr.1, fun j j0 j1 => ?_⟩
          unfold filL setL; dsimp only
          rw [hc _ (by omega) (by omega)]
          by_cases q : k = l
          · subst q
            rw [if_pos rfl]
            by_cases q2 : j < mnL L k r
            · rw [if_pos q2, if_pos (by omega), show 40 * k + j - 40 * k = j by omega]
            · rw [if_neg q2, if_neg (by omega)]; exact rr.2 j j0 j1
          · rw [if_neg q, if_neg (by omega)]; exact rr.2 j j0 j1
        | succ d ih =>
          intro i σ2 hd h0 h1 hf hc
          refine w_X9_fill_51 hS hv hw _ _ _ _ σ2 ?_
          unfold vc_X9_fill_51
          have rb := hb.2.2 i h0 (by omega)
          have t : σ2.1 66 i.toNat = iI (r.1 i) := by rw [hf.1 _ _ (fun q => q)]; exact q1 i h0 (by omega)
          try simp (disch := omega) only [iI_lit, iL_lit, iI_add, iI_sub, iI_mul, iI_neg, iI_lt, iI_le, iI_eq, iI_tn, iI_div, iI_l, iL_add, iL_sub, iL_mul, iL_neg, iL_le, iL_lt, iL_eq, iL_ite, vp_T, b2_ne0, b2_eq1, nn_imp, true_and, iI_ite, not_true_eq_false, not_false_eq_true, true_implies, false_implies, and_true, Int.reduceLT, Int.reduceLE, Int.reduceEq, or_false, false_or, true_or, or_true, false_and, and_false, t]
          refine ⟨fun c => by omega, fun _ σ3 e3 => ih (i + 1) σ3 (by omega) (by omega) (by omega) (by rw [e3]; exact Gr_upJ hf rfl) (fun j j0 j1 => ?_)⟩
          rw [e3]
          by_cases q : j = 40 * l + i
          · subst q; rw [uj_h rfl, if_pos (by omega), show 40 * l + i - 40 * l = i by omega]
          · rw [uj_m (by omega), hc j j0 j1]
            by_cases q2 : 40 * l ≤ j ∧ j < 40 * l + i
            · rw [if_pos q2, if_pos (by omega)]
            · rw [if_neg q2, if_neg (by omega)]
      exact A _ 0 σ1 rfl (by omega) mr.1 Gr_rf (fun j j0 j1 => by rw [if_neg (by omega)])
    · simp (disch := omega) only [if_pos, if_neg] at hkr; exact hkr hL
  · simp (disch := omega) only [if_pos, if_neg] at hkr; exact hkr hL
theorem c_X9_judge (hS : Sys S) (hM : MP 50 P σ) (hW : WF P) (hL : LM L σ) (ho : okL L) {l w : Int} (r1 : -2147483648 ≤ l ∧ l < 2147483648) (r2 : -2147483648 ≤ w ∧ w < 2147483648) (hk : ∀ σ', Fr FLY σ σ' → Φ [aI (iI (aJudge P l w L))] σ') : S 232 [aR 49, aI (iI l), aI (iI w)] σ Φ := by
  refine m_X9_judge hS (fun v hv hw => ?_)
  unfold vc_X9_judge_0
  have hkr := hk σ Fr_rf
  unfold aJudge isL at hk hkr
  try simp (disch := omega) only [iI_lit, iL_lit, iI_add, iI_sub, iI_mul, iI_neg, iI_lt, iI_le, iI_eq, iI_tn, iI_div, iI_l, iL_add, iL_sub, iL_mul, iL_neg, iL_le, iL_lt, iL_eq, iL_ite, vp_T, b2_ne0, b2_eq1, nn_imp, true_and, iI_ite, not_true_eq_false, not_false_eq_true, true_implies, false_implies, and_true, Int.reduceLT, Int.reduceLE, Int.reduceEq, or_false, false_or, true_or, or_true, false_and, and_false]
  refine ⟨fun c => ?_, fun c => ⟨fun d => ?_, fun d => ?_⟩⟩
  · simp (disch := omega) only [if_pos, if_neg] at hkr; exact hkr
  · have c0 : 0 ≤ l := by omega
    have c1 : l < 4 := by omega
    have o := ho l c0 c1
    have z := (hL l c0 c1).1
    try simp (disch := omega) only [iI_lit, iL_lit, iI_add, iI_sub, iI_mul, iI_neg, iI_lt, iI_le, iI_eq, iI_tn, iI_div, iI_l, iL_add, iL_sub, iL_mul, iL_neg, iL_le, iL_lt, iL_eq, iL_ite, vp_T, b2_ne0, b2_eq1, nn_imp, true_and, iI_ite, not_true_eq_false, not_false_eq_true, true_implies, false_implies, and_true, Int.reduceLT, Int.reduceLE, Int.reduceEq, or_false, false_or, true_or, or_true, false_and, and_false, z]
    refine ⟨fun e => ?_, fun e => ?_⟩
    · refine c_X9_layable hS hM hW (w := w) (by omega) (fun σ1 f1 q1 => ⟨_, rfl, ?_⟩)
      have hL1 : LM L σ1 := LM_f (d := fun _ => False) hL (Fr_Gr f1) (fun j => by unfold FLY FL FM FSH; omega) (fun q => q)
      have z1 := (hL1 l c0 c1).1
      have hb := layR_B hW (w := w)
      unfold RB at hb
      have hk := hk σ1 f1
      simp (disch := omega) only [if_pos, if_neg] at hk
      generalize layR P w = r at hk hb q1 ⊢
      have A : ∀ (d : Nat) (i : Int), (L.1 l - i).toNat = d → 0 ≤ i → i ≤ 40 → othL L l r = fd (fun i => decide (r.2 ≤ i ∨ ¬ L.2 l i = iL (r.1 i))) i (L.1 l) → v 42 [some (aR 49), some (aI (iI l)), some (aI (iI w)), some (aI (iI r.2)), some (aI (iI i))] [] σ1 := by
        intro d
        induction d with
        | zero =>
          intro i hd h0 h1 he
          refine w_X9_judge_42 hS hv hw _ _ _ _ σ1 ?_
          unfold vc_X9_judge_42
          rw [fd_z _ (by omega)] at he
          try simp (disch := omega) only [iI_lit, iL_lit, iI_add, iI_sub, iI_mul, iI_neg, iI_lt, iI_le, iI_eq, iI_tn, iI_div, iI_l, iL_add, iL_sub, iL_mul, iL_neg, iL_le, iL_lt, iL_eq, iL_ite, vp_T, b2_ne0, b2_eq1, nn_imp, true_and, iI_ite, not_true_eq_false, not_false_eq_true, true_implies, false_implies, and_true, Int.reduceLT, Int.reduceLE, Int.reduceEq, or_false, false_or, true_or, or_true, false_and, and_false, z1]
          refine ⟨fun _ => ?_, fun c => by omega⟩
          rw [he] at hk; exact hk
        | succ d ih =>
          intro i hd h0 h1 he
          refine w_X9_judge_42 hS hv hw _ _ _ _ σ1 ?_
          unfold vc_X9_judge_42
          have T : (r.2 ≤ i ∨ ¬ L.2 l i = iL (r.1 i)) → othL L l r = i := fun q => by rw [he]; exact fd_t _ (by omega) (decide_eq_true q)
          try simp (disch := omega) only [iI_lit, iL_lit, iI_add, iI_sub, iI_mul, iI_neg, iI_lt, iI_le, iI_eq, iI_tn, iI_div, iI_l, iL_add, iL_sub, iL_mul, iL_neg, iL_le, iL_lt, iL_eq, iL_ite, vp_T, b2_ne0, b2_eq1, nn_imp, true_and, iI_ite, not_true_eq_false, not_false_eq_true, true_implies, false_implies, and_true, Int.reduceLT, Int.reduceLE, Int.reduceEq, or_false, false_or, true_or, or_true, false_and, and_false, z1]
          refine ⟨fun c => by omega, fun _ => ⟨fun c => ?_, fun c => ?_⟩⟩
          · rw [T (Or.inl c)] at hk; exact hk
          · have rb := hb.2.2 i h0 (by omega)
            have t := q1 i h0 (by omega)
            have u := (hL1 l c0 c1).2 i h0 (by omega)
            try simp (disch := omega) only [iI_lit, iL_lit, iI_add, iI_sub, iI_mul, iI_neg, iI_lt, iI_le, iI_eq, iI_tn, iI_div, iI_l, iL_add, iL_sub, iL_mul, iL_neg, iL_le, iL_lt, iL_eq, iL_ite, vp_T, b2_ne0, b2_eq1, nn_imp, true_and, iI_ite, not_true_eq_false, not_false_eq_true, true_implies, false_implies, and_true, Int.reduceLT, Int.reduceLE, Int.reduceEq, or_false, false_or, true_or, or_true, false_and, and_false, t, u, lg_eq0]
            refine ⟨fun q => ih (i + 1) (by omega) (by omega) (by omega) (by rw [he, fd_s _ (by omega) (decide_eq_false (fun w => w.elim (fun x => by omega) (fun x => x q)))]), fun q => ?_⟩
            rw [T (Or.inr q)] at hk; exact hk
      exact A _ 0 rfl (Int.le_refl 0) (by omega) rfl
    · simp (disch := omega) only [if_pos, if_neg] at hkr; exact hkr
  · simp (disch := omega) only [if_pos, if_neg] at hkr; exact hkr
theorem lg_gt_i {a b : Int} (h : (-9000000000 ≤ a ∧ a ≤ 9000000000) ∧ (-9000000000 ≤ b ∧ b ≤ 9000000000)) : (iI 0 < lg_cmp (iL a) (iL b)) ↔ b < a := by
  rw [show iI 0 = 0 from rfl, lg_gt, iL_lt (by omega)]
theorem lg_le_i {a b : Int} (h : (-9000000000 ≤ a ∧ a ≤ 9000000000) ∧ (-9000000000 ≤ b ∧ b ≤ 9000000000)) : (lg_cmp (iL a) (iL b) ≤ iI 0) ↔ a ≤ b := by
  rw [show iI 0 = 0 from rfl, ← Int32.not_lt, lg_gt, iL_lt (by omega)]; omega
theorem c_X9_move (hS : Sys S) (hL : LM L σ) (ho : okL L) {l i o j n : Int} (r1 : -2147483648 ≤ l ∧ l < 2147483648) (r2 : -2147483648 ≤ i ∧ i < 2147483648) (r3 : -2147483648 ≤ o ∧ o < 2147483648) (r4 : -2147483648 ≤ j ∧ j < 2147483648) (r5 : -2147483648 ≤ n ∧ n < 2147483648) (hk : ∀ σ', Gr (fun _ _ => False) DM σ σ' → LM (nMove l i o j n L) σ' → Φ [aI (iI (aMove l i o j n L))] σ') : S 233 [aR 49, aI (iI l), aI (iI i), aI (iI o), aI (iI j), aI (iI n)] σ Φ := by
  refine m_X9_move hS (fun v hv hw => ?_)
  unfold vc_X9_move_0
  have hkr := hk σ Gr_rf
  unfold aMove nMove isL at hk hkr
  try simp (disch := omega) only [iI_lit, iL_lit, iI_add, iI_sub, iI_mul, iI_neg, iI_lt, iI_le, iI_eq, iI_tn, iI_div, iI_l, iL_add, iL_sub, iL_mul, iL_neg, iL_le, iL_lt, iL_eq, iL_ite, vp_T, b2_ne0, b2_eq1, nn_imp, true_and, iI_ite, not_true_eq_false, not_false_eq_true, true_implies, false_implies, and_true, Int.reduceLT, Int.reduceLE, Int.reduceEq, or_false, false_or, true_or, or_true, false_and, and_false]
  refine ⟨fun c => ?_, fun c => ⟨fun d => ?_, fun d => ?_⟩⟩
  · simp (disch := omega) only [if_pos, if_neg] at hkr; exact hkr hL
  · have c0 : 0 ≤ l := by omega
    have c1 : l < 4 := by omega
    have d0 : 0 ≤ o := by omega
    have d1 : o < 4 := by omega
    have ol := ho l c0 c1
    have oo := ho o d0 d1
    have zl := (hL l c0 c1).1
    have zo := (hL o d0 d1).1
    try simp (disch := omega) only [iI_lit, iL_lit, iI_add, iI_sub, iI_mul, iI_neg, iI_lt, iI_le, iI_eq, iI_tn, iI_div, iI_l, iL_add, iL_sub, iL_mul, iL_neg, iL_le, iL_lt, iL_eq, iL_ite, vp_T, b2_ne0, b2_eq1, nn_imp, true_and, iI_ite, not_true_eq_false, not_false_eq_true, true_implies, false_implies, and_true, Int.reduceLT, Int.reduceLE, Int.reduceEq, or_false, false_or, true_or, or_true, false_and, and_false, zl, zo, lg_gt_i, lg_le_i]
    refine ⟨fun e => ?_, fun e => ⟨fun f => ⟨fun g => ?_, fun g => ⟨fun a => ?_, fun a => ⟨fun b => ?_, fun b => ⟨fun x => ?_, fun x => ⟨fun y => ?_, fun y => ?_⟩⟩⟩⟩⟩, fun f => ?_⟩⟩
    · simp (disch := omega) only [if_pos, if_neg] at hkr; exact hkr hL
    · simp (disch := omega) only [if_pos, if_neg] at hkr; exact hkr hL
    · simp (disch := omega) only [if_pos, if_neg] at hkr; exact hkr hL
    · simp (disch := omega) only [if_pos, if_neg] at hkr; exact hkr hL
    · simp (disch := omega) only [if_pos, if_neg] at hkr; exact hkr hL
    · -- carried away, then laid down
      have B : ∀ (m : Nat) (k : Int) (σ1 : St), (n - k).toNat = m → 0 ≤ k → k ≤ n → Gr (fun _ _ => False) DM σ σ1 → (∀ q : Int, 0 ≤ q → q < n → σ1.2 67 q.toNat = L.2 l (i + q)) → (∀ q : Int, 0 ≤ q → q < 160 → σ1.2 64 q.toNat = if 40 * o + j ≤ q ∧ q < 40 * o + j + k then L.2 l (i + (q - (40 * o + j))) else σ.2 64 q.toNat) → v 129 [some (aR 49), some (aI (iI l)), some (aI (iI i)), some (aI (iI o)), some (aI (iI j)), some (aI (iI n)), some (aI (iI k))] [] σ1 := by
        intro m
        induction m with
        | zero =>
          intro k σ1 hd k0 k1 hf h67 hc
          refine w_X9_move_129 hS hv hw _ _ _ _ _ _ σ1 ?_
          unfold vc_X9_move_129
          have q : k = n := by omega
          subst q
          try simp (disch := omega) only [iI_lit, iL_lit, iI_add, iI_sub, iI_mul, iI_neg, iI_lt, iI_le, iI_eq, iI_tn, iI_div, iI_l, iL_add, iL_sub, iL_mul, iL_neg, iL_le, iL_lt, iL_eq, iL_ite, vp_T, b2_ne0, b2_eq1, nn_imp, true_and, iI_ite, not_true_eq_false, not_false_eq_true, true_implies, false_implies, and_true, Int.reduceLT, Int.reduceLE, Int.reduceEq, or_false, false_or, true_or, or_true, false_and, and_false]
          refine ⟨fun _ => ?_, fun c => by omega⟩
          have hk := hk σ1 hf
          simp (disch := omega) only [if_pos, if_neg] at hk
          refine hk (fun p p0 p1 => ?_)
          have rr := hL p p0 p1
          refine ⟨by rw [hf.1 _ _ (fun q => q)]; exact rr.1, fun t t0 t1 => ?_⟩
          unfold setL; dsimp only
          rw [hc _ (by omega) (by omega)]
          by_cases q : p = o
          · subst q
            rw [if_pos rfl]
            by_cases q2 : j ≤ t ∧ t < j + k
            · rw [if_pos q2, if_pos (by omega), show 40 * p + t - (40 * p + j) = t - j by omega]
            · rw [if_neg q2, if_neg (by omega)]; exact rr.2 t t0 t1
          · rw [if_neg q, if_neg (by omega)]; exact rr.2 t t0 t1
        | succ m ih =>
          intro k σ1 hd k0 k1 hf h67 hc
          refine w_X9_move_129 hS hv hw _ _ _ _ _ _ σ1 ?_
          unfold vc_X9_move_129
          try simp (disch := omega) only [iI_lit, iL_lit, iI_add, iI_sub, iI_mul, iI_neg, iI_lt, iI_le, iI_eq, iI_tn, iI_div, iI_l, iL_add, iL_sub, iL_mul, iL_neg, iL_le, iL_lt, iL_eq, iL_ite, vp_T, b2_ne0, b2_eq1, nn_imp, true_and, iI_ite, not_true_eq_false, not_false_eq_true, true_implies, false_implies, and_true, Int.reduceLT, Int.reduceLE, Int.reduceEq, or_false, false_or, true_or, or_true, false_and, and_false, h67 k k0 (by omega)]
          refine ⟨fun c => by omega, fun _ σ2 e2 => ih (k + 1) σ2 (by omega) (by omega) (by omega) (by rw [e2]; exact Gr_upJ hf (Or.inl rfl)) (fun q q0 q1 => by rw [e2, uj_n (by omega)]; exact h67 q q0 q1) (fun q q0 q1 => ?_)⟩
          rw [e2]
          by_cases u : q = 40 * o + j + k
          · subst u; rw [uj_h rfl, if_pos (by omega), show i + (40 * o + j + k - (40 * o + j)) = i + k by omega]
          · rw [uj_m (by omega), hc q q0 q1]
            by_cases u2 : 40 * o + j ≤ q ∧ q < 40 * o + j + k
            · rw [if_pos u2, if_pos (by omega)]
            · rw [if_neg u2, if_neg (by omega)]
      have A : ∀ (m : Nat) (k : Int) (σ1 : St), (n - k).toNat = m → 0 ≤ k → k ≤ n → Gr (fun _ _ => False) DM σ σ1 → σ1.2 64 = σ.2 64 → (∀ q : Int, 0 ≤ q → q < k → σ1.2 67 q.toNat = L.2 l (i + q)) → v 92 [some (aR 49), some (aI (iI l)), some (aI (iI i)), some (aI (iI o)), some (aI (iI j)), some (aI (iI n)), some (aI (iI k))] [] σ1 := by
        intro m
        induction m with
        | zero =>
          intro k σ1 hd k0 k1 hf h64 hc
          refine w_X9_move_92 hS hv hw _ _ _ _ _ _ σ1 ?_
          unfold vc_X9_move_92
          have q : k = n := by omega
          subst q
          try simp (disch := omega) only [iI_lit, iL_lit, iI_add, iI_sub, iI_mul, iI_neg, iI_lt, iI_le, iI_eq, iI_tn, iI_div, iI_l, iL_add, iL_sub, iL_mul, iL_neg, iL_le, iL_lt, iL_eq, iL_ite, vp_T, b2_ne0, b2_eq1, nn_imp, true_and, iI_ite, not_true_eq_false, not_false_eq_true, true_implies, false_implies, and_true, Int.reduceLT, Int.reduceLE, Int.reduceEq, or_false, false_or, true_or, or_true, false_and, and_false]
          refine ⟨fun _ => ?_, fun c => by omega⟩
          exact B _ 0 σ1 rfl (by omega) (by omega) hf hc (fun q q0 q1 => by rw [if_neg (by omega), h64])
        | succ m ih =>
          intro k σ1 hd k0 k1 hf h64 hc
          refine w_X9_move_92 hS hv hw _ _ _ _ _ _ σ1 ?_
          unfold vc_X9_move_92
          have t : σ1.2 64 (40 * l + i + k).toNat = L.2 l (i + k) := by
            rw [h64, show 40 * l + i + k = 40 * l + (i + k) by omega]
            exact (hL l c0 c1).2 (i + k) (by omega) (by omega)
          try simp (disch := omega) only [iI_lit, iL_lit, iI_add, iI_sub, iI_mul, iI_neg, iI_lt, iI_le, iI_eq, iI_tn, iI_div, iI_l, iL_add, iL_sub, iL_mul, iL_neg, iL_le, iL_lt, iL_eq, iL_ite, vp_T, b2_ne0, b2_eq1, nn_imp, true_and, iI_ite, not_true_eq_false, not_false_eq_true, true_implies, false_implies, and_true, Int.reduceLT, Int.reduceLE, Int.reduceEq, or_false, false_or, true_or, or_true, false_and, and_false, t]
          refine ⟨fun c => by omega, fun _ σ2 e2 => ih (k + 1) σ2 (by omega) (by omega) (by omega) (by rw [e2]; exact Gr_upJ hf (Or.inr rfl)) (by rw [e2, uj_n (by omega)]; exact h64) (fun q q0 q1 => ?_)⟩
          rw [e2]
          by_cases u : q = k
          · subst u; rw [uj_h rfl]
          · rw [uj_m (by omega)]; exact hc q q0 (by omega)
      exact A _ 0 σ rfl (by omega) (by omega) Gr_rf rfl (fun q q0 q1 => by omega)
    · simp (disch := omega) only [if_pos, if_neg] at hkr; exact hkr hL
    · simp (disch := omega) only [if_pos, if_neg] at hkr; exact hkr hL
  · simp (disch := omega) only [if_pos, if_neg] at hkr; exact hkr hL
end C28d
