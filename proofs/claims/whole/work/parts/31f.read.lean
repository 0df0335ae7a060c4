theorem pu_pu {P : Pl} {i a b : Int} : pu (pu P i a) i b = pu P i b := funext fun k => by
  by_cases c : k = i
  · rw [pu_e c, pu_e c]
  · rw [pu_n c, pu_n c, pu_n c]
theorem pu_sw {P : Pl} {i j a b : Int} (h : ¬ i = j) : pu (pu P i a) j b = pu (pu P j b) i a := funext fun k => by
  by_cases c : k = i
  · rw [pu_e c, pu_n (fun e => h (c.symm.trans e)), pu_e c]
  · rw [pu_n c]
    by_cases d : k = j
    · rw [pu_e d, pu_e d]
    · rw [pu_n d, pu_n d, pu_n c]
theorem pu_id {P : Pl} {i : Int} : pu P i (P i) = P := funext fun k => by
  by_cases c : k = i
  · rw [pu_e c, c]
  · rw [pu_n c]
theorem addH_cl {P : Pl} (hW : WF P) {c r k1 k2 ch b i : Int} : addH (pu P 285 c) r k1 k2 ch b i = pu (addH P r k1 k2 ch b i) 285 c := by
  have g0 := WF_0 hW
  unfold addH
  rw [k_280]
  rw [pu_sw (i := 285) (by omega), pu_sw (i := 285) (by omega), pu_sw (i := 285) (by omega), pu_sw (i := 285) (by omega), pu_sw (i := 285) (by omega), pu_sw (i := 285) (by omega), pu_sw (i := 285) (by omega), pu_sw (i := 285) (by omega), pu_sw (i := 285) (by omega)]
theorem addW_cl {P : Pl} (h40 : P 281 < 40) (h0 : 0 ≤ P 281) {c f t d : Int} : addW (pu P 285 c) f t d = pu (addW P f t d) 285 c := by
  unfold addW
  rw [k_281]
  rw [pu_sw (i := 285) (by omega), pu_sw (i := 285) (by omega), pu_sw (i := 285) (by omega), pu_sw (i := 285) (by omega)]
theorem doS_cl {P : Pl} (hW : WF P) {c : Int} {s : Stm} : doS (pu P 285 c) s = (doS P s).map (fun Q => pu Q 285 c) := by
  have g0 := WF_0 hW
  unfold doS okWi
  rw [k_hat, k_280, k_281, show pu P 285 c (8 * ar s 0 + 6) = P (8 * ar s 0 + 6) from pu_n (by omega)]
  split
  · split
    · rw [addH_cl hW]; rfl
    · rfl
  · split
    · split
      · next w => have w := dec_t.mp w; rw [addW_cl w.2.2 (by omega)]; rfl
      · rfl
    · split
      · split
        · next w => have w := dec_t.mp w; rw [pu_sw (by omega)]; rfl
        · rfl
      · split
        · next w =>
          have w := dec_t.mp w
          unfold okR at w
          rw [pu_sw (by omega)]; rfl
        · rfl
def FTS : Nat → Nat → Prop := fun k j => FNA 0 6 k j ∨ k = 50 ∨ (k = 49 ∧ j = 27)
theorem mv_v {c : Int} (h : ¬ vOf c = -2) : mv (vOf c) = c := by
  unfold vOf at h ⊢
  unfold mv
  by_cases c0 : c = 0
  · rw [if_pos c0]; omega
  · rw [if_neg c0] at h ⊢
    by_cases c1 : c = 6
    · rw [if_pos c1]; omega
    · rw [if_neg c1] at h ⊢
      by_cases c2 : c = 8
      · rw [if_pos c2]; omega
      · rw [if_neg c2] at h ⊢
        by_cases c3 : c = 9
        · rw [if_pos c3]; omega
        · rw [if_neg c3] at h ⊢
          by_cases c4 : c = 10
          · rw [if_pos c4]; omega
          · rw [if_neg c4] at h ⊢
            by_cases c5 : c = 11
            · rw [if_pos c5]; omega
            · rw [if_neg c5] at h; exact absurd rfl h
section C31f
variable {S : Sp} {σ : St} {Φ : Rs} {T : List Int} {Q : Pl}
theorem c_X9_does (hS : Sys S) (hM : MP 50 Q σ) (hW : WF Q) {s : Stm} (hs : vS s) (ha : ∀ j : Nat, j < (shp s.1).length → σ.1 62 j = iI (ar s j)) (hY : ∀ R, doS Q s = some R → ∀ σ', Fr F50 σ σ' → MP 50 (pu R 285 0) σ' → Φ [aI (iI 1)] σ') (hN : doS Q s = none → Φ [aI (iI 0)] σ) : S 216 [aR 49, aI (iI (mv s.1))] σ Φ := by
  refine m_X9_does hS (fun v hv hw => ?_)
  have g0 := WF_0 hW
  have vb := hs.1
  have b0 := ar_r hs 0
  have b1 := ar_r hs 1
  have b2 := ar_r hs 2
  have b3 := ar_r hs 3
  have b4 := ar_r hs 4
  have b5 := ar_r hs 5
  unfold vc_X9_does_0
  unfold doS at hY hN
  have q0 : σ.1 62 (0 : Int).toNat = iI (ar s 0) := ha 0 (by have := shp_l s.1; omega)
  by_cases c : s.1 = 0
  · rw [if_pos c] at hY hN
    rw [show mv s.1 = 0 by rw [c]; rfl]
    have ln : (shp s.1).length = 6 := by rw [c]; rfl
    have q1 : σ.1 62 (1 : Int).toNat = iI (ar s 1) := ha 1 (by omega)
    have q2 : σ.1 62 (2 : Int).toNat = iI (ar s 2) := ha 2 (by omega)
    have q3 : σ.1 62 (3 : Int).toNat = iI (ar s 3) := ha 3 (by omega)
    have q4 : σ.1 62 (4 : Int).toNat = iI (ar s 4) := ha 4 (by omega)
    have q5 : σ.1 62 (5 : Int).toNat = iI (ar s 5) := ha 5 (by omega)
    try simp (disch := omega) only [iI_lit, iL_lit, iI_add, iI_sub, iI_mul, iI_neg, iI_lt, iI_le, iI_eq, iI_tn, iI_div, iI_l, iL_add, iL_sub, iL_mul, iL_neg, iL_le, iL_lt, iL_eq, iL_ite, vp_T, b2_ne0, b2_eq1, nn_imp, true_and, iI_ite, not_true_eq_false, not_false_eq_true, true_implies, false_implies, and_true, Int.reduceLT, Int.reduceLE, Int.reduceEq, or_false, false_or, true_or, or_true, false_and, and_false, q0, q1, q2, q3, q4, q5]
    have N : ¬ (okH (ar s 0) (ar s 1) (ar s 2) (ar s 3) (ar s 4) (ar s 5) ∧ hat Q (ar s 0) (ar s 1) = -1 ∧ Q 280 < 20) → Φ [aI (iI 0)] σ := fun w => by
      rw [if_neg (fun z => w (dec_t.mp z))] at hN
      exact hN rfl
    refine c_X9_hole hS hM hW (by omega) (by omega) (by omega) (by omega) (by omega) (by omega) (fun w => ⟨_, rfl, ?_⟩) (fun w w2 => ⟨_, rfl, ?_⟩) (fun w w2 w3 => ⟨_, rfl, ?_⟩) (fun w w2 w3 σ1 f1 c1 => ⟨_, rfl, ?_⟩)
    · try simp (disch := omega) only [iI_lit, iL_lit, iI_add, iI_sub, iI_mul, iI_neg, iI_lt, iI_le, iI_eq, iI_tn, iI_div, iI_l, iL_add, iL_sub, iL_mul, iL_neg, iL_le, iL_lt, iL_eq, iL_ite, vp_T, b2_ne0, b2_eq1, nn_imp, true_and, iI_ite, not_true_eq_false, not_false_eq_true, true_implies, false_implies, and_true, Int.reduceLT, Int.reduceLE, Int.reduceEq, or_false, false_or, true_or, or_true, false_and, and_false]; exact N (fun z => w z.1)
    · try simp (disch := omega) only [iI_lit, iL_lit, iI_add, iI_sub, iI_mul, iI_neg, iI_lt, iI_le, iI_eq, iI_tn, iI_div, iI_l, iL_add, iL_sub, iL_mul, iL_neg, iL_le, iL_lt, iL_eq, iL_ite, vp_T, b2_ne0, b2_eq1, nn_imp, true_and, iI_ite, not_true_eq_false, not_false_eq_true, true_implies, false_implies, and_true, Int.reduceLT, Int.reduceLE, Int.reduceEq, or_false, false_or, true_or, or_true, false_and, and_false]; exact N (fun z => w2 z.2.1)
    · try simp (disch := omega) only [iI_lit, iL_lit, iI_add, iI_sub, iI_mul, iI_neg, iI_lt, iI_le, iI_eq, iI_tn, iI_div, iI_l, iL_add, iL_sub, iL_mul, iL_neg, iL_le, iL_lt, iL_eq, iL_ite, vp_T, b2_ne0, b2_eq1, nn_imp, true_and, iI_ite, not_true_eq_false, not_false_eq_true, true_implies, false_implies, and_true, Int.reduceLT, Int.reduceLE, Int.reduceEq, or_false, false_or, true_or, or_true, false_and, and_false]; exact N (fun z => by have := z.2.2; omega)
    · rw [if_pos (dec_t.mpr ⟨w, w2, w3⟩)] at hY
      try simp (disch := omega) only [iI_lit, iL_lit, iI_add, iI_sub, iI_mul, iI_neg, iI_lt, iI_le, iI_eq, iI_tn, iI_div, iI_l, iL_add, iL_sub, iL_mul, iL_neg, iL_le, iL_lt, iL_eq, iL_ite, vp_T, b2_ne0, b2_eq1, nn_imp, true_and, iI_ite, not_true_eq_false, not_false_eq_true, true_implies, false_implies, and_true, Int.reduceLT, Int.reduceLE, Int.reduceEq, or_false, false_or, true_or, or_true, false_and, and_false]
      exact ⟨fun z => by omega, fun _ => hY _ rfl σ1 f1 c1⟩
  · rw [if_neg c] at hY hN
    by_cases d : s.1 = 1
    · rw [if_pos d] at hY hN
      rw [show mv s.1 = 6 by rw [d]; rfl]
      have ln : (shp s.1).length = 3 := by rw [d]; rfl
      have q1 : σ.1 62 (1 : Int).toNat = iI (ar s 1) := ha 1 (by omega)
      have q2 : σ.1 62 (2 : Int).toNat = iI (ar s 2) := ha 2 (by omega)
      try simp (disch := omega) only [iI_lit, iL_lit, iI_add, iI_sub, iI_mul, iI_neg, iI_lt, iI_le, iI_eq, iI_tn, iI_div, iI_l, iL_add, iL_sub, iL_mul, iL_neg, iL_le, iL_lt, iL_eq, iL_ite, vp_T, b2_ne0, b2_eq1, nn_imp, true_and, iI_ite, not_true_eq_false, not_false_eq_true, true_implies, false_implies, and_true, Int.reduceLT, Int.reduceLE, Int.reduceEq, or_false, false_or, true_or, or_true, false_and, and_false, q0, q1, q2]
      have N : ¬ okWi Q (ar s 0) (ar s 1) (ar s 2) → Φ [aI (iI 0)] σ := fun w => by
        rw [if_neg (fun z => w (dec_t.mp z))] at hN
        exact hN rfl
      refine c_X9_wire hS hM hW (by omega) (by omega) (by omega) (fun w => ⟨_, rfl, ?_⟩) (fun w w2 => ⟨_, rfl, ?_⟩) (fun w w2 w3 => ⟨_, rfl, ?_⟩) (fun w w2 w3 σ1 f1 c1 => ⟨_, rfl, ?_⟩)
      · try simp (disch := omega) only [iI_lit, iL_lit, iI_add, iI_sub, iI_mul, iI_neg, iI_lt, iI_le, iI_eq, iI_tn, iI_div, iI_l, iL_add, iL_sub, iL_mul, iL_neg, iL_le, iL_lt, iL_eq, iL_ite, vp_T, b2_ne0, b2_eq1, nn_imp, true_and, iI_ite, not_true_eq_false, not_false_eq_true, true_implies, false_implies, and_true, Int.reduceLT, Int.reduceLE, Int.reduceEq, or_false, false_or, true_or, or_true, false_and, and_false]; exact N (fun z => w z.1)
      · try simp (disch := omega) only [iI_lit, iL_lit, iI_add, iI_sub, iI_mul, iI_neg, iI_lt, iI_le, iI_eq, iI_tn, iI_div, iI_l, iL_add, iL_sub, iL_mul, iL_neg, iL_le, iL_lt, iL_eq, iL_ite, vp_T, b2_ne0, b2_eq1, nn_imp, true_and, iI_ite, not_true_eq_false, not_false_eq_true, true_implies, false_implies, and_true, Int.reduceLT, Int.reduceLE, Int.reduceEq, or_false, false_or, true_or, or_true, false_and, and_false]; exact N (fun z => w2 z.2.1)
      · try simp (disch := omega) only [iI_lit, iL_lit, iI_add, iI_sub, iI_mul, iI_neg, iI_lt, iI_le, iI_eq, iI_tn, iI_div, iI_l, iL_add, iL_sub, iL_mul, iL_neg, iL_le, iL_lt, iL_eq, iL_ite, vp_T, b2_ne0, b2_eq1, nn_imp, true_and, iI_ite, not_true_eq_false, not_false_eq_true, true_implies, false_implies, and_true, Int.reduceLT, Int.reduceLE, Int.reduceEq, or_false, false_or, true_or, or_true, false_and, and_false]; exact N (fun z => by have := z.2.2; omega)
      · rw [if_pos (dec_t.mpr (show okWi Q (ar s 0) (ar s 1) (ar s 2) from ⟨w, w2, w3⟩))] at hY
        try simp (disch := omega) only [iI_lit, iL_lit, iI_add, iI_sub, iI_mul, iI_neg, iI_lt, iI_le, iI_eq, iI_tn, iI_div, iI_l, iL_add, iL_sub, iL_mul, iL_neg, iL_le, iL_lt, iL_eq, iL_ite, vp_T, b2_ne0, b2_eq1, nn_imp, true_and, iI_ite, not_true_eq_false, not_false_eq_true, true_implies, false_implies, and_true, Int.reduceLT, Int.reduceLE, Int.reduceEq, or_false, false_or, true_or, or_true, false_and, and_false]
        exact ⟨fun z => by omega, fun _ => hY _ rfl σ1 f1 c1⟩
    · rw [if_neg d] at hY hN
      by_cases e : s.1 = 5
      · rw [if_pos e] at hY hN
        rw [show mv s.1 = 11 by rw [e]; rfl]
        try simp (disch := omega) only [iI_lit, iL_lit, iI_add, iI_sub, iI_mul, iI_neg, iI_lt, iI_le, iI_eq, iI_tn, iI_div, iI_l, iL_add, iL_sub, iL_mul, iL_neg, iL_le, iL_lt, iL_eq, iL_ite, vp_T, b2_ne0, b2_eq1, nn_imp, true_and, iI_ite, not_true_eq_false, not_false_eq_true, true_implies, false_implies, and_true, Int.reduceLT, Int.reduceLE, Int.reduceEq, or_false, false_or, true_or, or_true, false_and, and_false, q0, hM _]
        refine ⟨fun w => ?_, fun w => ?_⟩
        · rw [if_neg (fun z => w (by have := (dec_t.mp z).1; omega))] at hN; exact hN rfl
        · have w0 : 0 ≤ ar s 0 := by omega
          have w1 : ar s 0 < Q 280 := by omega
          have gh := WF_h hW w0 w1
          try simp (disch := omega) only [iI_lit, iL_lit, iI_add, iI_sub, iI_mul, iI_neg, iI_lt, iI_le, iI_eq, iI_tn, iI_div, iI_l, iL_add, iL_sub, iL_mul, iL_neg, iL_le, iL_lt, iL_eq, iL_ite, vp_T, b2_ne0, b2_eq1, nn_imp, true_and, iI_ite, not_true_eq_false, not_false_eq_true, true_implies, false_implies, and_true, Int.reduceLT, Int.reduceLE, Int.reduceEq, or_false, false_or, true_or, or_true, false_and, and_false, hM _]
          refine ⟨fun z => ?_, fun z => ?_⟩
          · rw [if_neg (fun z2 => by have := (dec_t.mp z2).2; omega)] at hN; exact hN rfl
          · refine c_X9_becomes hS hM hW (by omega) (by omega) (by omega) (fun x => absurd ⟨w0, w1⟩ x) (fun _ x => absurd (by unfold okB; omega) x) (fun _ _ σ1 f1 c1 => ⟨_, rfl, ?_⟩)
            rw [if_pos (dec_t.mpr ⟨⟨w0, w1⟩, by omega⟩)] at hY
            try simp (disch := omega) only [iI_lit, iL_lit, iI_add, iI_sub, iI_mul, iI_neg, iI_lt, iI_le, iI_eq, iI_tn, iI_div, iI_l, iL_add, iL_sub, iL_mul, iL_neg, iL_le, iL_lt, iL_eq, iL_ite, vp_T, b2_ne0, b2_eq1, nn_imp, true_and, iI_ite, not_true_eq_false, not_false_eq_true, true_implies, false_implies, and_true, Int.reduceLT, Int.reduceLE, Int.reduceEq, or_false, false_or, true_or, or_true, false_and, and_false]
            exact ⟨fun z => by omega, fun _ => hY _ rfl σ1 f1 c1⟩
      · rw [if_neg e] at hY hN
        have m8 : mv s.1 = s.1 + 6 := by unfold mv; rw [if_neg c, if_neg d]
        rw [m8]
        try simp (disch := omega) only [iI_lit, iL_lit, iI_add, iI_sub, iI_mul, iI_neg, iI_lt, iI_le, iI_eq, iI_tn, iI_div, iI_l, iL_add, iL_sub, iL_mul, iL_neg, iL_le, iL_lt, iL_eq, iL_ite, vp_T, b2_ne0, b2_eq1, nn_imp, true_and, iI_ite, not_true_eq_false, not_false_eq_true, true_implies, false_implies, and_true, Int.reduceLT, Int.reduceLE, Int.reduceEq, or_false, false_or, true_or, or_true, false_and, and_false, q0]
        refine ⟨fun z => by omega, fun _ => ⟨fun z => by omega, fun _ => ⟨fun z => by omega, fun _ => ?_⟩⟩⟩
        rw [show s.1 + 6 - 8 = s.1 - 2 by omega]
        refine c_X9_rule hS hM hW (by omega) (by omega) (fun w => absurd (by omega) w) (fun w w2 => ⟨_, rfl, ?_⟩) (fun w w2 σ1 f1 c1 => ⟨_, rfl, ?_⟩)
        · rw [if_neg (fun z => w2 (dec_t.mp z))] at hN
          try simp (disch := omega) only [iI_lit, iL_lit, iI_add, iI_sub, iI_mul, iI_neg, iI_lt, iI_le, iI_eq, iI_tn, iI_div, iI_l, iL_add, iL_sub, iL_mul, iL_neg, iL_le, iL_lt, iL_eq, iL_ite, vp_T, b2_ne0, b2_eq1, nn_imp, true_and, iI_ite, not_true_eq_false, not_false_eq_true, true_implies, false_implies, and_true, Int.reduceLT, Int.reduceLE, Int.reduceEq, or_false, false_or, true_or, or_true, false_and, and_false]; exact hN rfl
        · rw [if_pos (dec_t.mpr w2)] at hY
          have rr : 0 ≤ Q (282 + (s.1 - 2)) ∧ Q (282 + (s.1 - 2)) ≤ 9999 := by
            rcases (show s.1 = 2 ∨ s.1 = 3 ∨ s.1 = 4 by omega) with q | q | q <;> rw [q] <;> simp only [Int.reduceAdd, Int.reduceSub] <;> omega
          try simp (disch := omega) only [iI_lit, iL_lit, iI_add, iI_sub, iI_mul, iI_neg, iI_lt, iI_le, iI_eq, iI_tn, iI_div, iI_l, iL_add, iL_sub, iL_mul, iL_neg, iL_le, iL_lt, iL_eq, iL_ite, vp_T, b2_ne0, b2_eq1, nn_imp, true_and, iI_ite, not_true_eq_false, not_false_eq_true, true_implies, false_implies, and_true, Int.reduceLT, Int.reduceLE, Int.reduceEq, or_false, false_or, true_or, or_true, false_and, and_false]
          exact ⟨fun z => by omega, fun _ => hY _ rfl σ1 f1 c1⟩
end C31f
