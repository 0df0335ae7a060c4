/-! fill, judge and move on both sides -/
theorem span_i {z i n : Int} (h : (-1 ≤ z ∧ z ≤ 40) ∧ (-2147483648 ≤ i ∧ i < 2147483648) ∧ (-2147483648 ≤ n ∧ n < 2147483648)) : (¬ i < 0 ∧ ¬ n < 0 ∧ ¬ iI z < iI i ∧ ¬ iI z - iI i < iI n) ↔ (0 ≤ i ∧ 0 ≤ n ∧ i + n ≤ z) := by
  rw [iI_lt (by omega)]
  by_cases c : 0 ≤ i ∧ i ≤ z
  · rw [iI_sub, iI_lt (by omega)]; omega
  · constructor
    · rintro ⟨a, b, d, _⟩; omega
    · rintro ⟨a, b, d⟩; omega
def F66 : Nat → Nat → Prop := fun k _ => k = 66
section C28c
variable {S : Sp} {σ : St} {Φ : Rs} {P : Pl} {L : Ls} {r : (Int → Int) × Int}
def FFI : Nat → Nat → Prop := fun k j => (13 ≤ k ∧ k ≤ 19) ∨ (k = 0 ∧ j = 11) ∨ k = 48
theorem c_X8_fill (hS : Sys S) (hC : CP 1 P σ) (hW : WF P) (hR : RKd P σ) (hL : LC L σ) (ho : okL L) {l w : Int} (r1 : -2147483648 ≤ l ∧ l < 2147483648) (r2 : -2147483648 ≤ w ∧ w < 2147483648) (hk : ∀ σ', Gr FFI DC σ σ' → RKd P σ' → LC (nFill P l w L) σ' → Φ [aI (iI (aFill P l w L))] σ') : S 123 [aR 0, aI (iI l), aI (iI w)] σ Φ := by
  refine m_X8_fill hS (fun v hv hw => ?_)
  unfold vc_X8_fill_0
  have hkr := hk σ Gr_rf hR
  unfold aFill nFill isL at hk hkr
  try simp (disch := omega) only [iI_lit, iL_lit, iI_add, iI_sub, iI_mul, iI_neg, iI_lt, iI_le, iI_eq, iI_tn, iI_div, iI_l, iL_add, iL_sub, iL_mul, iL_neg, iL_le, iL_lt, iL_eq, iL_ite, vp_T, b2_ne0, b2_eq1, nn_imp, true_and, iI_ite, not_true_eq_false, not_false_eq_true, true_implies, false_implies, and_true, Int.reduceLT, Int.reduceLE, Int.reduceEq, or_false, false_or, true_or, or_true, false_and, and_false]
  refine ⟨fun c => ?_, fun c => ⟨fun d => ?_, fun d => ?_⟩⟩
  · simp (disch := omega) only [if_pos, if_neg] at hkr; exact hkr hL
  · have c0 : 0 ≤ l := by omega
    have c1 : l < 4 := by omega
    have o := ho l c0 c1
    have z := (hL l c0 c1).1
    try simp (disch := omega) only [iI_lit, iL_lit, iI_add, iI_sub, iI_mul, iI_neg, iI_lt, iI_le, iI_eq, iI_tn, iI_div, iI_l, iL_add, iL_sub, iL_mul, iL_neg, iL_le, iL_lt, iL_eq, iL_ite, vp_T, b2_ne0, b2_eq1, nn_imp, true_and, iI_ite, not_true_eq_false, not_false_eq_true, true_implies, false_implies, and_true, Int.reduceLT, Int.reduceLE, Int.reduceEq, or_false, false_or, true_or, or_true, false_and, and_false, z]
    refine ⟨fun e => ?_, fun e => ?_⟩
    · refine c_X8_reckoned hS hC hW hR (fun σ1 f1 C1 k1 a1 => ⟨rfl, ?_⟩)
      refine c_X0_layOut hS C1 hW k1 (w := w) (by omega) (fun σ2 f2 q2 => ⟨_, rfl, ?_⟩)
      have G2 : Gr FFI (fun _ => False) σ σ2 := Gr_tr (Fr_Gr (Fr_mo f1 (fun k j q => by unfold FRq at q; unfold FFI; omega))) (Fr_Gr (Fr_mo f2 (fun k j q => by unfold F48 at q; unfold FFI; omega)))
      have hL2 : LC L σ2 := LC_f hL G2 (fun j => by unfold FFI; omega) (fun k _ _ q => q)
      have k2 := RK_f k1 f2 (fun k j x y => by unfold F48; omega)
      have a2 : σ2.1 0 11 = iI 1 := by rw [f2.1 _ _ (by unfold F48; omega)]; exact a1
      refine c_X6_copyIn hS hL2 ho q2 (layR_B hW) ⟨c0, c1⟩ e (fun σ3 f3 L3 => ⟨_, rfl, ?_⟩)
      have hk := hk σ3 (Gr_tr (Gr_mo G2 (fun _ _ q => q) (fun _ q => q.elim)) (Gr_mo f3 (fun _ _ q => q.elim) (fun _ q => q)))
      simp (disch := omega) only [if_pos, if_neg] at hk
      exact hk (show RKd P σ3 from RKd_f (σ := σ2) (σ' := (σ3.1, σ2.2)) (Or.inr ⟨a2, k2⟩) (Gr_Fr f3) (fun _ _ _ _ q => q) (fun q => q)) L3
    · simp (disch := omega) only [if_pos, if_neg] at hkr; exact hkr hL
  · simp (disch := omega) only [if_pos, if_neg] at hkr; exact hkr hL
theorem c_X8_judge (hS : Sys S) (hC : CP 1 P σ) (hW : WF P) (hR : RKd P σ) (hL : LC L σ) (ho : okL L) {l w : Int} (r1 : -2147483648 ≤ l ∧ l < 2147483648) (r2 : -2147483648 ≤ w ∧ w < 2147483648) (hk : ∀ σ', Fr FFI σ σ' → RKd P σ' → Φ [aI (iI (aJudge P l w L))] σ') : S 124 [aR 0, aI (iI l), aI (iI w)] σ Φ := by
  refine m_X8_judge hS (fun v hv hw => ?_)
  unfold vc_X8_judge_0
  have hkr := hk σ Fr_rf hR
  unfold aJudge isL at hk hkr
  try simp (disch := omega) only [iI_lit, iL_lit, iI_add, iI_sub, iI_mul, iI_neg, iI_lt, iI_le, iI_eq, iI_tn, iI_div, iI_l, iL_add, iL_sub, iL_mul, iL_neg, iL_le, iL_lt, iL_eq, iL_ite, vp_T, b2_ne0, b2_eq1, nn_imp, true_and, iI_ite, not_true_eq_false, not_false_eq_true, true_implies, false_implies, and_true, Int.reduceLT, Int.reduceLE, Int.reduceEq, or_false, false_or, true_or, or_true, false_and, and_false]
  refine ⟨fun c => ?_, fun c => ⟨fun d => ?_, fun d => ?_⟩⟩
  · simp (disch := omega) only [if_pos, if_neg] at hkr; exact hkr
  · have c0 : 0 ≤ l := by omega
    have c1 : l < 4 := by omega
    have o := ho l c0 c1
    have z := (hL l c0 c1).1
    try simp (disch := omega) only [iI_lit, iL_lit, iI_add, iI_sub, iI_mul, iI_neg, iI_lt, iI_le, iI_eq, iI_tn, iI_div, iI_l, iL_add, iL_sub, iL_mul, iL_neg, iL_le, iL_lt, iL_eq, iL_ite, vp_T, b2_ne0, b2_eq1, nn_imp, true_and, iI_ite, not_true_eq_false, not_false_eq_true, true_implies, false_implies, and_true, Int.reduceLT, Int.reduceLE, Int.reduceEq, or_false, false_or, true_or, or_true, false_and, and_false, z]
    refine ⟨fun e => ?_, fun e => ?_⟩
    · refine c_X8_reckoned hS hC hW hR (fun σ1 f1 C1 k1 a1 => ⟨rfl, ?_⟩)
      refine c_X0_layOut hS C1 hW k1 (w := w) (by omega) (fun σ2 f2 q2 => ⟨_, rfl, ?_⟩)
      have G2 : Fr FFI σ σ2 := Fr_tr (Fr_mo f1 (fun k j q => by unfold FRq at q; unfold FFI; omega)) (Fr_mo f2 (fun k j q => by unfold F48 at q; unfold FFI; omega))
      have hL2 : LC L σ2 := LC_f (d := fun _ => False) hL (Fr_Gr G2) (fun j => by unfold FFI; omega) (fun k _ _ q => q)
      have k2 := RK_f k1 f2 (fun k j x y => by unfold F48; omega)
      have a2 : σ2.1 0 11 = iI 1 := by rw [f2.1 _ _ (by unfold F48; omega)]; exact a1
      refine c_X6_firstOther hS hL2 ho q2 (layR_B hW) ⟨c0, c1⟩ ⟨_, rfl, ?_⟩
      have hk := hk σ2 G2 (Or.inr ⟨a2, k2⟩)
      simp (disch := omega) only [if_pos, if_neg] at hk
      exact hk
    · simp (disch := omega) only [if_pos, if_neg] at hkr; exact hkr
  · simp (disch := omega) only [if_pos, if_neg] at hkr; exact hkr
theorem c_X8_move (hS : Sys S) (hL : LC L σ) (ho : okL L) {l i o j n : Int} (r1 : -2147483648 ≤ l ∧ l < 2147483648) (r2 : -2147483648 ≤ i ∧ i < 2147483648) (r3 : -2147483648 ≤ o ∧ o < 2147483648) (r4 : -2147483648 ≤ j ∧ j < 2147483648) (r5 : -2147483648 ≤ n ∧ n < 2147483648) (hk : ∀ σ', Gr (fun _ _ => False) DC σ σ' → LC (nMove l i o j n L) σ' → Φ [aI (iI (aMove l i o j n L))] σ') : S 125 [aR 0, aI (iI l), aI (iI i), aI (iI o), aI (iI j), aI (iI n)] σ Φ := by
  refine m_X8_move hS (fun v hv hw => ?_)
  unfold vc_X8_move_0
  have hkr := hk σ Gr_rf
  unfold aMove nMove isL at hk hkr
  try simp (disch := omega) only [iI_lit, iL_lit, iI_add, iI_sub, iI_mul, iI_neg, iI_lt, iI_le, iI_eq, iI_tn, iI_div, iI_l, iL_add, iL_sub, iL_mul, iL_neg, iL_le, iL_lt, iL_eq, iL_ite, vp_T, b2_ne0, b2_eq1, nn_imp, true_and, iI_ite, not_true_eq_false, not_false_eq_true, true_implies, false_implies, and_true, Int.reduceLT, Int.reduceLE, Int.reduceEq, or_false, false_or, true_or, or_true, false_and, and_false]
  refine ⟨fun c => ?_, fun c => ⟨fun d => ?_, fun d => ?_⟩⟩
  · simp (disch := omega) only [if_pos, if_neg] at hkr; exact hkr hL
  · have c0 : 0 ≤ l := by omega
    have c1 : l < 4 := by omega
    have d0 : 0 ≤ o := by omega
    have d1 : o < 4 := by omega
    have ol := ho l c0 c1
    have oo := ho o d0 d1
    have zl := (hL l c0 c1).1
    have zo := (hL o d0 d1).1
    try simp (disch := omega) only [iI_lit, iI_tn, zl, zo, span_i]
    try simp (disch := omega) only [iI_lit, iL_lit, iI_add, iI_sub, iI_mul, iI_neg, iI_lt, iI_le, iI_eq, iI_tn, iI_div, iI_l, iL_add, iL_sub, iL_mul, iL_neg, iL_le, iL_lt, iL_eq, iL_ite, vp_T, b2_ne0, b2_eq1, nn_imp, true_and, iI_ite, not_true_eq_false, not_false_eq_true, true_implies, false_implies, and_true, Int.reduceLT, Int.reduceLE, Int.reduceEq, or_false, false_or, true_or, or_true, false_and, and_false, zl, zo]
    refine ⟨fun e => ?_, fun e => ⟨fun f => ⟨fun g => ?_, fun g => ?_⟩, fun f => ?_⟩⟩
    · simp (disch := omega) only [if_pos, if_neg] at hkr; exact hkr hL
    · simp (disch := omega) only [if_pos, if_neg] at hkr; exact hkr hL
    · have g0 : 0 ≤ i := by omega
      have g1 : 0 ≤ n := by omega
      have g3 : i + n ≤ L.1 l := by omega
      try simp (disch := omega) only [iI_lit, iL_lit, iI_add, iI_sub, iI_mul, iI_neg, iI_lt, iI_le, iI_eq, iI_tn, iI_div, iI_l, iL_add, iL_sub, iL_mul, iL_neg, iL_le, iL_lt, iL_eq, iL_ite, vp_T, b2_ne0, b2_eq1, nn_imp, true_and, iI_ite, not_true_eq_false, not_false_eq_true, true_implies, false_implies, and_true, Int.reduceLT, Int.reduceLE, Int.reduceEq, or_false, false_or, true_or, or_true, false_and, and_false]
      refine ⟨fun h => ?_, fun h => ?_⟩
      · have h0 : 0 ≤ j := by omega
        have h3 : j + n ≤ L.1 o := by omega
        try simp (disch := omega) only [iI_lit, iL_lit, iI_add, iI_sub, iI_mul, iI_neg, iI_lt, iI_le, iI_eq, iI_tn, iI_div, iI_l, iL_add, iL_sub, iL_mul, iL_neg, iL_le, iL_lt, iL_eq, iL_ite, vp_T, b2_ne0, b2_eq1, nn_imp, true_and, iI_ite, not_true_eq_false, not_false_eq_true, true_implies, false_implies, and_true, Int.reduceLT, Int.reduceLE, Int.reduceEq, or_false, false_or, true_or, or_true, false_and, and_false]
        refine ⟨by omega, fun σ1 e1 => ?_⟩
        have hk := hk σ1
        simp (disch := omega) only [if_pos, if_neg] at hk
        refine hk ⟨fun _ _ _ => by rw [e1]; rfl, fun k q => by rw [e1, cj_n (by intro x; unfold DC at q; omega)]⟩ (fun k k0 k1 => ?_)
        have rr := hL k k0 k1
        refine ⟨by rw [e1]; exact rr.1, fun a a0 a1 => ?_⟩
        unfold setL; dsimp only
        rw [e1]
        by_cases q : k = o
        · subst q
          rw [if_pos rfl]
          by_cases q2 : j ≤ a ∧ a < j + n
          · rw [if_pos q2, cj_h (by omega), ← (hL l c0 c1).2 (i + (a - j)) (by omega) (by omega)]
            exact congrArg (σ.2 (43 + l.toNat)) (by omega)
          · rw [if_neg q2, cj_m (by omega)]; exact rr.2 a a0 a1
        · rw [if_neg q, cj_n (by omega)]; exact rr.2 a a0 a1
      · simp (disch := omega) only [if_pos, if_neg] at hkr; exact hkr hL
    · simp (disch := omega) only [if_pos, if_neg] at hkr; exact hkr hL
  · simp (disch := omega) only [if_pos, if_neg] at hkr; exact hkr hL
def FLY : Nat → Nat → Prop := fun k j => FL k j ∨ k = 66
theorem c_X9_layable (hS : Sys S) (hM : MP 50 P σ) (hW : WF P) {w : Int} (w0 : 0 ≤ w ∧ w ≤ 2) (hk : ∀ σ', Fr FLY σ σ' → RO 66 (layR P w) σ' → Φ [aI (iI (layR P w).2)] σ') : S 230 [aR 49, aI (iI w)] σ Φ := by
  refine m_X9_layable hS (fun v hv hw => ?_)
  have g0 := WF_0 hW
  unfold vc_X9_layable_0
  refine c_X9_lays hS hM hW (fun σ1 f1 s1 m1 => ⟨rfl, ?_⟩)
  have ho := sh_ok hW (sg_S hW) (P := P) (D := dd P) (g := -1)
  have hn := ho.1
  have F1 : Fr FLY σ σ1 := Fr_mo f1 (fun _ _ q => Or.inl q)
  have MPf : ∀ {σ2}, Fr F66 σ1 σ2 → MP 50 P σ2 := fun f => MP_f (MP_f hM f1 (fun j => by unfold FL FM FSH; omega)) f (fun j => by unfold F66; omega)
  unfold layR at hk
  by_cases c : w = 2
  · subst c
    rw [if_pos rfl] at hk
    have A : ∀ (d : Nat) (i : Int) (σ2 : St), ((shL P (fr P (dd P) (-1)) (tm P (dd P) (-1))).2 - i).toNat = d → 0 ≤ i → i ≤ (shL P (fr P (dd P) (-1)) (tm P (dd P) (-1))).2 → Fr F66 σ1 σ2 → RO 66 (fun i => ((shL P (fr P (dd P) (-1)) (tm P (dd P) (-1))).1 i).1, i) σ2 → v 8 [some (aR 49), some (aI (iI 2)), some (aI (iI i)), some (aI (iI i))] [] σ2 := by
      intro d
      induction d with
      | zero =>
        intro i σ2 hd h0 h1 hf hr
        refine w_X9_layable_8 hS hv hw _ _ _ σ2 ?_
        unfold vc_X9_layable_8 vc_X9_layable_29
        have q : i = (shL P (fr P (dd P) (-1)) (tm P (dd P) (-1))).2 := by omega
        subst q
        have n2 : σ2.1 49 12 = iI (shL P (fr P (dd P) (-1)) (tm P (dd P) (-1))).2 := by rw [hf.1 _ _ (by unfold F66; omega)]; exact m1.2
        try simp (disch := omega) only [iI_lit, iL_lit, iI_add, iI_sub, iI_mul, iI_neg, iI_lt, iI_le, iI_eq, iI_tn, iI_div, iI_l, iL_add, iL_sub, iL_mul, iL_neg, iL_le, iL_lt, iL_eq, iL_ite, vp_T, b2_ne0, b2_eq1, nn_imp, true_and, iI_ite, not_true_eq_false, not_false_eq_true, true_implies, false_implies, and_true, Int.reduceLT, Int.reduceLE, Int.reduceEq, or_false, false_or, true_or, or_true, false_and, and_false, n2]
        exact ⟨fun _ => hk σ2 (Fr_tr F1 (Fr_mo hf (fun _ _ q => Or.inr q))) hr, fun c => by omega⟩
      | succ d ih =>
        intro i σ2 hd h0 h1 hf hr
        refine w_X9_layable_8 hS hv hw _ _ _ σ2 ?_
        unfold vc_X9_layable_8 vc_X9_layable_29 vc_X9_layable_49
        have n2 : σ2.1 49 12 = iI (shL P (fr P (dd P) (-1)) (tm P (dd P) (-1))).2 := by rw [hf.1 _ _ (by unfold F66; omega)]; exact m1.2
        have t : σ2.1 55 i.toNat = iI ((shL P (fr P (dd P) (-1)) (tm P (dd P) (-1))).1 i).1 := by rw [hf.1 _ _ (by unfold F66; omega)]; exact (m1.1 i h0 (by omega)).1
        try simp (disch := omega) only [iI_lit, iL_lit, iI_add, iI_sub, iI_mul, iI_neg, iI_lt, iI_le, iI_eq, iI_tn, iI_div, iI_l, iL_add, iL_sub, iL_mul, iL_neg, iL_le, iL_lt, iL_eq, iL_ite, vp_T, b2_ne0, b2_eq1, nn_imp, true_and, iI_ite, not_true_eq_false, not_false_eq_true, true_implies, false_implies, and_true, Int.reduceLT, Int.reduceLE, Int.reduceEq, or_false, false_or, true_or, or_true, false_and, and_false, n2, t]
        refine ⟨fun c => by omega, fun _ σ3 e3 => ih (i + 1) σ3 (by omega) (by omega) (by omega) (by rw [e3]; exact Fr_up hf rfl) (fun j j0 j1 => ?_)⟩
        have j1 : j < i + 1 := j1
        rw [e3]
        by_cases q : j = i
        · subst q; rw [up_h rfl]
        · rw [up_m (by omega)]; exact hr j j0 (show j < i by omega)
    rw [iI_lit]
    exact A _ 0 σ1 rfl (by omega) (by omega) Fr_rf (fun i i0 i1 => absurd i1 (by show ¬ i < 0; omega))
  · rw [if_neg c] at hk
    have A : ∀ (d : Nat) (h : Int) (σ2 : St), (P 280 - h).toNat = d → 0 ≤ h → h ≤ P 280 → Fr F66 σ1 σ2 → RO 66 (layN P w h) σ2 → v 8 [some (aR 49), some (aI (iI w)), some (aI (iI (layN P w h).2)), some (aI (iI h))] [] σ2 := by
      intro d
      induction d with
      | zero =>
        intro h σ2 hd h0 h1 hf hr
        refine w_X9_layable_8 hS hv hw _ _ _ σ2 ?_
        unfold vc_X9_layable_8 vc_X9_layable_29
        have q : h = P 280 := by omega
        subst q
        have mp := MPf hf
        try simp (disch := omega) only [iI_lit, iL_lit, iI_add, iI_sub, iI_mul, iI_neg, iI_lt, iI_le, iI_eq, iI_tn, iI_div, iI_l, iL_add, iL_sub, iL_mul, iL_neg, iL_le, iL_lt, iL_eq, iL_ite, vp_T, b2_ne0, b2_eq1, nn_imp, true_and, iI_ite, not_true_eq_false, not_false_eq_true, true_implies, false_implies, and_true, Int.reduceLT, Int.reduceLE, Int.reduceEq, or_false, false_or, true_or, or_true, false_and, and_false, mp _]
        exact ⟨fun _ => ⟨fun _ => hk σ2 (Fr_tr F1 (Fr_mo hf (fun _ _ q => Or.inr q))) hr, fun c => by omega⟩, fun e => absurd e c⟩
      | succ d ih =>
        intro h σ2 hd h0 h1 hf hr
        refine w_X9_layable_8 hS hv hw _ _ _ σ2 ?_
        unfold vc_X9_layable_8 vc_X9_layable_29 vc_X9_layable_49
        have mp := MPf hf
        have lr := layN_r hW (w := w) _ h rfl h0 h1
        have f7 : σ2.1 49 7 = bm (fr P (dd P) (-1)) (P 280) := by rw [hf.1 _ _ (by unfold F66; omega)]; exact s1.2.2.1
        have i := fun σ3 => ih (h + 1) σ3 (by omega) (by omega) (by omega)
        rw [layN_s h0] at i
        try simp (disch := omega) only [iI_lit, iL_lit, iI_add, iI_sub, iI_mul, iI_neg, iI_lt, iI_le, iI_eq, iI_tn, iI_div, iI_l, iL_add, iL_sub, iL_mul, iL_neg, iL_le, iL_lt, iL_eq, iL_ite, vp_T, b2_ne0, b2_eq1, nn_imp, true_and, iI_ite, not_true_eq_false, not_false_eq_true, true_implies, false_implies, and_true, Int.reduceLT, Int.reduceLE, Int.reduceEq, or_false, false_or, true_or, or_true, false_and, and_false, mp _, f7, bs_0, bs_1, bs_bm, Bool.and_eq_true, decide_eq_true_eq, Bool.not_eq_false, Bool.not_eq_true]
        refine ⟨fun _ => ⟨fun c => by omega, fun _ => ⟨fun e => absurd e c, fun _ => ⟨fun e => ?_, fun e => ?_⟩⟩⟩, fun e => absurd e c⟩
        · rw [if_neg (fun z => e ⟨by omega, z⟩)] at i
          exact i σ2 hf hr
        · have e2 : (fr P (dd P) (-1)) h = true := e.2
          rw [if_pos e2] at i
          have t54 : σ2.1 54 h.toNat = iI ((tm P (dd P) (-1)) h) := by rw [hf.1 _ _ (by unfold F66; omega)]; exact s1.2.1 h h0 (by omega) e2
          have st : ∀ σ3, σ3 = upI σ2 66 (layN P w h).2.toNat (iI (vl P w h)) → v 8 [some (aR 49), some (aI (iI w)), some (aI (iI ((layN P w h).2 + 1))), some (aI (iI (h + 1)))] [] σ3 := fun σ3 e3 => by
            refine i σ3 (by rw [e3]; exact Fr_up hf rfl) (fun j j0 j1 => ?_)
            have j1 : j < (layN P w h).2 + 1 := j1
            show _ = iI (pu (layN P w h).1 (layN P w h).2 (vl P w h) j)
            rw [e3]
            by_cases q : j = (layN P w h).2
            · rw [pu_e q, q, up_h rfl]
            · rw [pu_n q, up_m (by omega)]; exact hr j j0 (by omega)
          by_cases f : w = 0
          · unfold vl at st
            rw [if_pos f] at st
            subst f
            try simp (disch := omega) only [iI_lit, iL_lit, iI_add, iI_sub, iI_mul, iI_neg, iI_lt, iI_le, iI_eq, iI_tn, iI_div, iI_l, iL_add, iL_sub, iL_mul, iL_neg, iL_le, iL_lt, iL_eq, iL_ite, vp_T, b2_ne0, b2_eq1, nn_imp, true_and, iI_ite, not_true_eq_false, not_false_eq_true, true_implies, false_implies, and_true, Int.reduceLT, Int.reduceLE, Int.reduceEq, or_false, false_or, true_or, or_true, false_and, and_false, t54]
            exact st
          · have f1 : w = 1 := by omega
            unfold vl at st
            rw [if_neg f] at st
            subst f1
            try simp (disch := omega) only [iI_lit, iL_lit, iI_add, iI_sub, iI_mul, iI_neg, iI_lt, iI_le, iI_eq, iI_tn, iI_div, iI_l, iL_add, iL_sub, iL_mul, iL_neg, iL_le, iL_lt, iL_eq, iL_ite, vp_T, b2_ne0, b2_eq1, nn_imp, true_and, iI_ite, not_true_eq_false, not_false_eq_true, true_implies, false_implies, and_true, Int.reduceLT, Int.reduceLE, Int.reduceEq, or_false, false_or, true_or, or_true, false_and, and_false]
            refine c_X9_loadsOf hS mp hW h0 (by omega) ⟨_, rfl, ?_⟩
            try simp (disch := omega) only [iI_lit, iL_lit, iI_add, iI_sub, iI_mul, iI_neg, iI_lt, iI_le, iI_eq, iI_tn, iI_div, iI_l, iL_add, iL_sub, iL_mul, iL_neg, iL_le, iL_lt, iL_eq, iL_ite, vp_T, b2_ne0, b2_eq1, nn_imp, true_and, iI_ite, not_true_eq_false, not_false_eq_true, true_implies, false_implies, and_true, Int.reduceLT, Int.reduceLE, Int.reduceEq, or_false, false_or, true_or, or_true, false_and, and_false]
            exact st
    have := A _ 0 σ1 rfl (Int.le_refl 0) g0.1.1 Fr_rf (by rw [layN_0]; exact fun i i0 i1 => absurd i1 (by show ¬ i < 0; omega))
    rw [layN_0] at this
    exact this
end C28c
