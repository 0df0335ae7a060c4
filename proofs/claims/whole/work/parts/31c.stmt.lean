def ar (s : Stm) (i : Nat) : Int := s.2.2[i]?.getD 0
def okWi (P : Pl) (f t d : Int) : Prop := ((f = -1 ∨ (0 ≤ f ∧ f < P 280)) ∧ (0 ≤ t ∧ t < P 280) ∧ ¬ f = t) ∧ (0 ≤ d ∧ d ≤ 500) ∧ P 281 < 40
noncomputable def doS (P : Pl) (s : Stm) : Option Pl :=
  if s.1 = 0 then (if dec (okH (ar s 0) (ar s 1) (ar s 2) (ar s 3) (ar s 4) (ar s 5) ∧ hat P (ar s 0) (ar s 1) = -1 ∧ P 280 < 20) = true then some (addH P (ar s 0) (ar s 1) (ar s 2) (ar s 3) (ar s 4) (ar s 5)) else none)
  else if s.1 = 1 then (if dec (okWi P (ar s 0) (ar s 1) (ar s 2)) = true then some (addW P (ar s 0) (ar s 1) (ar s 2)) else none)
  else if s.1 = 5 then (if dec ((0 ≤ ar s 0 ∧ ar s 0 < P 280) ∧ P (8 * ar s 0 + 6) = 0) = true then some (pu P (8 * ar s 0 + 6) 1) else none)
  else (if dec (okR (s.1 - 2) (ar s 0)) = true then some (pu P (282 + (s.1 - 2)) (ar s 0)) else none)
noncomputable def exS : List Stm → Pl → Pl × Int
  | [], P => (P, -1)
  | s :: L, P => match doS P s with
    | none => (P, s.2.1)
    | some Q => exS L Q
def vS (s : Stm) : Prop := (0 ≤ s.1 ∧ s.1 ≤ 5) ∧ s.2.2.length = (shp s.1).length ∧ (∀ j, j < s.2.2.length → -2 ≤ ar s j ∧ ar s j ≤ 9999) ∧ 0 ≤ s.2.1 ∧ s.2.1 ≤ 80
theorem ar_r {s : Stm} (h : vS s) (j : Nat) : -2 ≤ ar s j ∧ ar s j ≤ 9999 := by
  by_cases c : j < s.2.2.length
  · exact h.2.2.1 j c
  · unfold ar; rw [List.getElem?_eq_none (by omega)]; decide
theorem doS_W {P Q : Pl} (hW : WF P) {s : Stm} (h : doS P s = some Q) : WF Q ∧ Q 285 = P 285 := by
  have g0 := WF_0 hW
  unfold doS at h
  split at h
  · split at h
    · next c =>
      have c := dec_t.mp c
      have := Option.some.inj h
      subst this
      exact ⟨addH_W hW c.1 c.2.1 c.2.2, by unfold addH; simp (disch := omega) only [pu_e, pu_n, ]⟩
    · exact absurd h (by simp)
  · split at h
    · split at h
      · next c =>
        have c := dec_t.mp c
        have := Option.some.inj h
        subst this
        unfold okWi at c
        exact ⟨addW_W hW (by omega) c.1.2.1 c.2.1 c.2.2, by unfold addW; simp (disch := omega) only [pu_e, pu_n, ]⟩
      · exact absurd h (by simp)
    · split at h
      · split at h
        · next c =>
          have c := dec_t.mp c
          have := Option.some.inj h
          subst this
          exact ⟨pu_W hW c.1.1 c.1.2 (by unfold okB; omega), by simp (disch := omega) only [pu_e, pu_n, ]⟩
        · exact absurd h (by simp)
      · split at h
        · next c =>
          have c := dec_t.mp c
          have := Option.some.inj h
          subst this
          refine ⟨pu_R hW c, ?_⟩
          unfold okR at c
          simp (disch := omega) only [pu_e, pu_n, ]
        · exact absurd h (by simp)
section C31c
variable {S : Sp} {σ : St} {Φ : Rs} {P : Pl}
theorem c_X4_isDone (hS : Sys S) (hC : CP 9 P σ) (hW : WF P) {L : List Stm} (hL : SS L σ) {i : Nat} (hi : i < L.length) (h13 : i < 13) (hs : vS (L[i]?.getD (0, 0, [])))
    (hY : ∀ Q, doS P (L[i]?.getD (0, 0, [])) = some Q → ∀ σ', Fr (FP 9) σ σ' → CP 9 Q σ' → Φ [aI (iI 1)] σ') (hN : doS P (L[i]?.getD (0, 0, [])) = none → ∀ σ', Fr (FP 9) σ σ' → Φ [aI (iI 0)] σ') : S 66 [aR 36, aR 9, aI (iI i)] σ Φ := by
  refine m_X4_isDone hS isPat_9 (fun v hv hw => ?_)
  have g0 := WF_0 hW
  have r := hL i hi
  generalize L[i]?.getD (0, 0, []) = s at r hs hY hN
  have vb := hs.1
  have A : ∀ j : Nat, j < s.2.2.length → σ.1 40 ((i : Int) * 6 + (j : Nat)).toNat = iI (ar s j) := fun j hj => by
    have sl := shp_l s.1
    have := r.2.2 j (by have := hs.2.1; omega) hj
    rw [show ((i : Int) * 6 + (j : Nat)).toNat = 6 * i + j by omega]; exact this
  have A0 : 0 < s.2.2.length → σ.1 40 ((i : Int) * 6).toNat = iI (ar s 0) := fun h => by have := A 0 h; rw [show ((i : Int) * 6 + ((0 : Nat) : Int)) = (i : Int) * 6 by omega] at this; exact this
  have a38 : σ.1 38 (i : Int).toNat = iI s.1 := by rw [show (i : Int).toNat = i by omega]; exact r.1
  have b0 := ar_r hs 0
  have b1 := ar_r hs 1
  have b2 := ar_r hs 2
  have b3 := ar_r hs 3
  have b4 := ar_r hs 4
  have b5 := ar_r hs 5
  unfold vc_X4_isDone_0
  unfold doS at hY hN
  try simp (disch := omega) only [iI_lit, iL_lit, iI_add, iI_sub, iI_mul, iI_neg, iI_lt, iI_le, iI_eq, iI_tn, iI_div, iI_l, iL_add, iL_sub, iL_mul, iL_neg, iL_le, iL_lt, iL_eq, iL_ite, vp_T, b2_ne0, b2_eq1, nn_imp, true_and, iI_ite, not_true_eq_false, not_false_eq_true, true_implies, false_implies, and_true, Int.reduceLT, Int.reduceLE, Int.reduceEq, or_false, false_or, true_or, or_true, false_and, and_false, a38]
  refine ⟨fun c => ?_, fun c => ⟨fun d => ?_, fun d => ⟨fun e => ?_, fun e => ?_⟩⟩⟩
  · rw [if_pos c] at hY hN
    have ln : s.2.2.length = 6 := by rw [hs.2.1, c]; rfl
    have q0 := A0 (by omega)
    have q1 : σ.1 40 ((i : Int) * 6 + 1).toNat = iI (ar s 1) := A 1 (by omega)
    have q2 : σ.1 40 ((i : Int) * 6 + 2).toNat = iI (ar s 2) := A 2 (by omega)
    have q3 : σ.1 40 ((i : Int) * 6 + 3).toNat = iI (ar s 3) := A 3 (by omega)
    have q4 : σ.1 40 ((i : Int) * 6 + 4).toNat = iI (ar s 4) := A 4 (by omega)
    have q5 : σ.1 40 ((i : Int) * 6 + 5).toNat = iI (ar s 5) := A 5 (by omega)
    try simp (disch := omega) only [iI_lit, iL_lit, iI_add, iI_sub, iI_mul, iI_neg, iI_lt, iI_le, iI_eq, iI_tn, iI_div, iI_l, iL_add, iL_sub, iL_mul, iL_neg, iL_le, iL_lt, iL_eq, iL_ite, vp_T, b2_ne0, b2_eq1, nn_imp, true_and, iI_ite, not_true_eq_false, not_false_eq_true, true_implies, false_implies, and_true, Int.reduceLT, Int.reduceLE, Int.reduceEq, or_false, false_or, true_or, or_true, false_and, and_false, q0, q1, q2, q3, q4, q5]
    have N : ¬ (okH (ar s 0) (ar s 1) (ar s 2) (ar s 3) (ar s 4) (ar s 5) ∧ hat P (ar s 0) (ar s 1) = -1 ∧ P 280 < 20) → Φ [aI (iI 0)] σ := fun w => by
      rw [if_neg (fun z => w (dec_t.mp z))] at hN
      exact hN rfl σ Fr_rf
    refine c_X2_addHole hS isPat_9 hC hW (by omega) (by omega) (by omega) (by omega) (by omega) (by omega) (fun w => ⟨_, rfl, ?_⟩) (fun w w2 => ⟨_, rfl, ?_⟩) (fun w w2 w3 => ⟨_, rfl, ?_⟩) (fun w w2 w3 σ1 f1 c1 => ⟨_, rfl, ?_⟩)
    · try simp (disch := omega) only [iI_lit, iL_lit, iI_add, iI_sub, iI_mul, iI_neg, iI_lt, iI_le, iI_eq, iI_tn, iI_div, iI_l, iL_add, iL_sub, iL_mul, iL_neg, iL_le, iL_lt, iL_eq, iL_ite, vp_T, b2_ne0, b2_eq1, nn_imp, true_and, iI_ite, not_true_eq_false, not_false_eq_true, true_implies, false_implies, and_true, Int.reduceLT, Int.reduceLE, Int.reduceEq, or_false, false_or, true_or, or_true, false_and, and_false]; exact N (fun z => w z.1)
    · try simp (disch := omega) only [iI_lit, iL_lit, iI_add, iI_sub, iI_mul, iI_neg, iI_lt, iI_le, iI_eq, iI_tn, iI_div, iI_l, iL_add, iL_sub, iL_mul, iL_neg, iL_le, iL_lt, iL_eq, iL_ite, vp_T, b2_ne0, b2_eq1, nn_imp, true_and, iI_ite, not_true_eq_false, not_false_eq_true, true_implies, false_implies, and_true, Int.reduceLT, Int.reduceLE, Int.reduceEq, or_false, false_or, true_or, or_true, false_and, and_false]; exact N (fun z => w2 z.2.1)
    · try simp (disch := omega) only [iI_lit, iL_lit, iI_add, iI_sub, iI_mul, iI_neg, iI_lt, iI_le, iI_eq, iI_tn, iI_div, iI_l, iL_add, iL_sub, iL_mul, iL_neg, iL_le, iL_lt, iL_eq, iL_ite, vp_T, b2_ne0, b2_eq1, nn_imp, true_and, iI_ite, not_true_eq_false, not_false_eq_true, true_implies, false_implies, and_true, Int.reduceLT, Int.reduceLE, Int.reduceEq, or_false, false_or, true_or, or_true, false_and, and_false]; exact N (fun z => by have := z.2.2; omega)
    · rw [if_pos (dec_t.mpr ⟨w, w2, w3⟩)] at hY
      try simp (disch := omega) only [iI_lit, iL_lit, iI_add, iI_sub, iI_mul, iI_neg, iI_lt, iI_le, iI_eq, iI_tn, iI_div, iI_l, iL_add, iL_sub, iL_mul, iL_neg, iL_le, iL_lt, iL_eq, iL_ite, vp_T, b2_ne0, b2_eq1, nn_imp, true_and, iI_ite, not_true_eq_false, not_false_eq_true, true_implies, false_implies, and_true, Int.reduceLT, Int.reduceLE, Int.reduceEq, or_false, false_or, true_or, or_true, false_and, and_false]
      exact ⟨fun z => by omega, fun _ => hY _ rfl σ1 f1 c1⟩
  · rw [if_neg c, if_pos d] at hY hN
    have ln : s.2.2.length = 3 := by rw [hs.2.1, d]; rfl
    have q0 := A0 (by omega)
    have q1 : σ.1 40 ((i : Int) * 6 + 1).toNat = iI (ar s 1) := A 1 (by omega)
    have q2 : σ.1 40 ((i : Int) * 6 + 2).toNat = iI (ar s 2) := A 2 (by omega)
    try simp (disch := omega) only [iI_lit, iL_lit, iI_add, iI_sub, iI_mul, iI_neg, iI_lt, iI_le, iI_eq, iI_tn, iI_div, iI_l, iL_add, iL_sub, iL_mul, iL_neg, iL_le, iL_lt, iL_eq, iL_ite, vp_T, b2_ne0, b2_eq1, nn_imp, true_and, iI_ite, not_true_eq_false, not_false_eq_true, true_implies, false_implies, and_true, Int.reduceLT, Int.reduceLE, Int.reduceEq, or_false, false_or, true_or, or_true, false_and, and_false, q0, q1, q2]
    have N : ¬ okWi P (ar s 0) (ar s 1) (ar s 2) → Φ [aI (iI 0)] σ := fun w => by
      rw [if_neg (fun z => w (dec_t.mp z))] at hN
      exact hN rfl σ Fr_rf
    refine c_X2_addWire hS isPat_9 hC hW (by omega) (by omega) (by omega) (fun w => ⟨_, rfl, ?_⟩) (fun w w2 => ⟨_, rfl, ?_⟩) (fun w w2 w3 => ⟨_, rfl, ?_⟩) (fun w w2 w3 σ1 f1 c1 => ⟨_, rfl, ?_⟩)
    · try simp (disch := omega) only [iI_lit, iL_lit, iI_add, iI_sub, iI_mul, iI_neg, iI_lt, iI_le, iI_eq, iI_tn, iI_div, iI_l, iL_add, iL_sub, iL_mul, iL_neg, iL_le, iL_lt, iL_eq, iL_ite, vp_T, b2_ne0, b2_eq1, nn_imp, true_and, iI_ite, not_true_eq_false, not_false_eq_true, true_implies, false_implies, and_true, Int.reduceLT, Int.reduceLE, Int.reduceEq, or_false, false_or, true_or, or_true, false_and, and_false]; exact N (fun z => w z.1)
    · try simp (disch := omega) only [iI_lit, iL_lit, iI_add, iI_sub, iI_mul, iI_neg, iI_lt, iI_le, iI_eq, iI_tn, iI_div, iI_l, iL_add, iL_sub, iL_mul, iL_neg, iL_le, iL_lt, iL_eq, iL_ite, vp_T, b2_ne0, b2_eq1, nn_imp, true_and, iI_ite, not_true_eq_false, not_false_eq_true, true_implies, false_implies, and_true, Int.reduceLT, Int.reduceLE, Int.reduceEq, or_false, false_or, true_or, or_true, false_and, and_false]; exact N (fun z => w2 z.2.1)
    · try simp (disch := omega) only [iI_lit, iL_lit, iI_add, iI_sub, iI_mul, iI_neg, iI_lt, iI_le, iI_eq, iI_tn, iI_div, iI_l, iL_add, iL_sub, iL_mul, iL_neg, iL_le, iL_lt, iL_eq, iL_ite, vp_T, b2_ne0, b2_eq1, nn_imp, true_and, iI_ite, not_true_eq_false, not_false_eq_true, true_implies, false_implies, and_true, Int.reduceLT, Int.reduceLE, Int.reduceEq, or_false, false_or, true_or, or_true, false_and, and_false]; exact N (fun z => by have := z.2.2; omega)
    · rw [if_pos (dec_t.mpr (show okWi P (ar s 0) (ar s 1) (ar s 2) from ⟨w, w2, w3⟩))] at hY
      try simp (disch := omega) only [iI_lit, iL_lit, iI_add, iI_sub, iI_mul, iI_neg, iI_lt, iI_le, iI_eq, iI_tn, iI_div, iI_l, iL_add, iL_sub, iL_mul, iL_neg, iL_le, iL_lt, iL_eq, iL_ite, vp_T, b2_ne0, b2_eq1, nn_imp, true_and, iI_ite, not_true_eq_false, not_false_eq_true, true_implies, false_implies, and_true, Int.reduceLT, Int.reduceLE, Int.reduceEq, or_false, false_or, true_or, or_true, false_and, and_false]
      exact ⟨fun z => by omega, fun _ => hY _ rfl σ1 f1 c1⟩
  · rw [if_neg c, if_neg d, if_pos e] at hY hN
    have ln : s.2.2.length = 1 := by rw [hs.2.1, e]; rfl
    have q0 := A0 (by omega)
    try simp (disch := omega) only [iI_lit, iL_lit, iI_add, iI_sub, iI_mul, iI_neg, iI_lt, iI_le, iI_eq, iI_tn, iI_div, iI_l, iL_add, iL_sub, iL_mul, iL_neg, iL_le, iL_lt, iL_eq, iL_ite, vp_T, b2_ne0, b2_eq1, nn_imp, true_and, iI_ite, not_true_eq_false, not_false_eq_true, true_implies, false_implies, and_true, Int.reduceLT, Int.reduceLE, Int.reduceEq, or_false, false_or, true_or, or_true, false_and, and_false, q0]
    refine c_X2_changeMark hS isPat_9 hC hW (by omega) (by omega) (by omega) (fun w => ⟨_, rfl, ?_⟩) (fun w w2 => absurd (by unfold okB; omega) w2) (fun w w2 σ1 f1 c1 => ⟨_, rfl, ?_⟩)
    · rw [if_neg (fun z => w (dec_t.mp z).1)] at hN
      try simp (disch := omega) only [iI_lit, iL_lit, iI_add, iI_sub, iI_mul, iI_neg, iI_lt, iI_le, iI_eq, iI_tn, iI_div, iI_l, iL_add, iL_sub, iL_mul, iL_neg, iL_le, iL_lt, iL_eq, iL_ite, vp_T, b2_ne0, b2_eq1, nn_imp, true_and, iI_ite, not_true_eq_false, not_false_eq_true, true_implies, false_implies, and_true, Int.reduceLT, Int.reduceLE, Int.reduceEq, or_false, false_or, true_or, or_true, false_and, and_false]; exact hN rfl σ Fr_rf
    · have gh := WF_h hW w.1 w.2
      try simp (disch := omega) only [iI_lit, iL_lit, iI_add, iI_sub, iI_mul, iI_neg, iI_lt, iI_le, iI_eq, iI_tn, iI_div, iI_l, iL_add, iL_sub, iL_mul, iL_neg, iL_le, iL_lt, iL_eq, iL_ite, vp_T, b2_ne0, b2_eq1, nn_imp, true_and, iI_ite, not_true_eq_false, not_false_eq_true, true_implies, false_implies, and_true, Int.reduceLT, Int.reduceLE, Int.reduceEq, or_false, false_or, true_or, or_true, false_and, and_false]
      refine ⟨fun z => ?_, fun z => ?_⟩
      · rw [if_neg (fun z2 => z (dec_t.mp z2).2)] at hN
        exact hN rfl σ1 f1
      · rw [if_pos (dec_t.mpr ⟨w, z⟩)] at hY
        exact hY _ rfl σ1 f1 c1
  · rw [if_neg c, if_neg d, if_neg e] at hY hN
    have ln : s.2.2.length = 1 := by rw [hs.2.1]; unfold shp; rw [if_neg c, if_neg d]; rfl
    have q0 := A0 (by omega)
    try simp (disch := omega) only [iI_lit, iL_lit, iI_add, iI_sub, iI_mul, iI_neg, iI_lt, iI_le, iI_eq, iI_tn, iI_div, iI_l, iL_add, iL_sub, iL_mul, iL_neg, iL_le, iL_lt, iL_eq, iL_ite, vp_T, b2_ne0, b2_eq1, nn_imp, true_and, iI_ite, not_true_eq_false, not_false_eq_true, true_implies, false_implies, and_true, Int.reduceLT, Int.reduceLE, Int.reduceEq, or_false, false_or, true_or, or_true, false_and, and_false, q0]
    refine c_X2_changeRule hS isPat_9 hC hW (by omega) (by omega) (fun w => ⟨_, rfl, ?_⟩) (fun w w2 => ⟨_, rfl, ?_⟩) (fun w w2 σ1 f1 c1 => ⟨_, rfl, ?_⟩)
    · omega
    · rw [if_neg (fun z => w2 (dec_t.mp z))] at hN
      try simp (disch := omega) only [iI_lit, iL_lit, iI_add, iI_sub, iI_mul, iI_neg, iI_lt, iI_le, iI_eq, iI_tn, iI_div, iI_l, iL_add, iL_sub, iL_mul, iL_neg, iL_le, iL_lt, iL_eq, iL_ite, vp_T, b2_ne0, b2_eq1, nn_imp, true_and, iI_ite, not_true_eq_false, not_false_eq_true, true_implies, false_implies, and_true, Int.reduceLT, Int.reduceLE, Int.reduceEq, or_false, false_or, true_or, or_true, false_and, and_false]; exact hN rfl σ Fr_rf
    · rw [if_pos (dec_t.mpr w2)] at hY
      have rr : 0 ≤ P (282 + (s.1 - 2)) ∧ P (282 + (s.1 - 2)) ≤ 9999 := by
        rcases (show s.1 = 2 ∨ s.1 = 3 ∨ s.1 = 4 by omega) with q | q | q <;> rw [q] <;> simp only [Int.reduceAdd, Int.reduceSub] <;> omega
      try simp (disch := omega) only [iI_lit, iL_lit, iI_add, iI_sub, iI_mul, iI_neg, iI_lt, iI_le, iI_eq, iI_tn, iI_div, iI_l, iL_add, iL_sub, iL_mul, iL_neg, iL_le, iL_lt, iL_eq, iL_ite, vp_T, b2_ne0, b2_eq1, nn_imp, true_and, iI_ite, not_true_eq_false, not_false_eq_true, true_implies, false_implies, and_true, Int.reduceLT, Int.reduceLE, Int.reduceEq, or_false, false_or, true_or, or_true, false_and, and_false]
      exact ⟨fun z => by omega, fun _ => hY _ rfl σ1 f1 c1⟩
theorem c_X4_carryOut (hS : Sys S) {L : List Stm} (hL : ∀ i : Nat, i < L.length → vS (L[i]?.getD (0, 0, []))) (h13 : L.length ≤ 13) : ∀ {σ : St} {P : Pl} {Φ : Rs}, CP 9 P σ → WF P → SS L σ → σ.1 36 2 = iI (L.length : Nat) → (∀ σ', Fr (FP 9) σ σ' → ((exS L P).2 = -1 → CP 9 (exS L P).1 σ') → Φ [aI (iI (exS L P).2)] σ') → S 65 [aR 36, aR 9] σ Φ := by
  intro σ P Φ hC hW hs h2 hk
  refine m_X4_carryOut hS isPat_9 (fun v hv hw => ?_)
  unfold vc_X4_carryOut_0
  have A : ∀ (R : List Stm) (i : Nat) (Q : Pl) (σ1 : St), L.drop i = R → i ≤ L.length → CP 9 Q σ1 → WF Q → Fr (FP 9) σ σ1 → exS L P = exS R Q → v 2 [some (aR 36), some (aR 9), some (aI (iI i))] [] σ1 := by
    intro R
    induction R with
    | nil =>
      intro i Q σ1 hd hi c1 w1 hf he
      refine w_X4_carryOut_2 hS hv hw 9 isPat_9 _ σ1 ?_
      unfold vc_X4_carryOut_2
      have hi2 : L.length ≤ i := by have := congrArg List.length hd; rw [List.length_drop] at this; have h2 : L.length - i = 0 := this; omega
      have n2 : σ1.1 36 2 = iI (L.length : Nat) := by rw [hf.1 _ _ (by unfold FP; omega)]; exact h2
      have he2 : exS L P = (Q, -1) := he
      rw [he2] at hk
      try simp (disch := omega) only [iI_lit, iL_lit, iI_add, iI_sub, iI_mul, iI_neg, iI_lt, iI_le, iI_eq, iI_tn, iI_div, iI_l, iL_add, iL_sub, iL_mul, iL_neg, iL_le, iL_lt, iL_eq, iL_ite, vp_T, b2_ne0, b2_eq1, nn_imp, true_and, iI_ite, not_true_eq_false, not_false_eq_true, true_implies, false_implies, and_true, Int.reduceLT, Int.reduceLE, Int.reduceEq, or_false, false_or, true_or, or_true, false_and, and_false, n2]
      exact ⟨fun _ => hk σ1 hf (fun _ => c1), fun c => by omega⟩
    | cons s R ih =>
      intro i Q σ1 hd hi c1 w1 hf he
      refine w_X4_carryOut_2 hS hv hw 9 isPat_9 _ σ1 ?_
      unfold vc_X4_carryOut_2
      have hi2 : i < L.length := by
        have := congrArg List.length hd
        rw [List.length_drop] at this
        have h2 : L.length - i = R.length + 1 := this
        omega
      have hsi : L[i]?.getD (0, 0, []) = s := by
        rw [List.drop_eq_getElem_cons hi2] at hd
        rw [List.getElem?_eq_getElem hi2]
        exact (List.cons.inj hd).1
      have hrest : L.drop (i + 1) = R := by
        rw [List.drop_eq_getElem_cons hi2] at hd
        exact (List.cons.inj hd).2
      have n2 : σ1.1 36 2 = iI (L.length : Nat) := by rw [hf.1 _ _ (by unfold FP; omega)]; exact h2
      have s1 := SS_k hs hf (fun i hi => ⟨by unfold FP; omega, by unfold FP; omega, fun j hj => by unfold FP; omega⟩)
      have vs := hL i hi2
      try simp (disch := omega) only [iI_lit, iL_lit, iI_add, iI_sub, iI_mul, iI_neg, iI_lt, iI_le, iI_eq, iI_tn, iI_div, iI_l, iL_add, iL_sub, iL_mul, iL_neg, iL_le, iL_lt, iL_eq, iL_ite, vp_T, b2_ne0, b2_eq1, nn_imp, true_and, iI_ite, not_true_eq_false, not_false_eq_true, true_implies, false_implies, and_true, Int.reduceLT, Int.reduceLE, Int.reduceEq, or_false, false_or, true_or, or_true, false_and, and_false, n2]
      refine ⟨fun c => by omega, fun _ => ⟨fun c => by omega, fun _ => ?_⟩⟩
      refine c_X4_isDone hS c1 w1 s1 hi2 (by omega) vs (fun Q2 hq σ2 f2 c2 => ⟨_, rfl, ?_⟩) (fun hq σ2 f2 => ⟨_, rfl, ?_⟩)
      · rw [hsi] at hq
        have he2 : exS L P = exS R Q2 := by rw [he]; show (match doS Q s with | none => (Q, s.2.1) | some Q => exS R Q) = _; rw [hq]
        try simp (disch := omega) only [iI_lit, iL_lit, iI_add, iI_sub, iI_mul, iI_neg, iI_lt, iI_le, iI_eq, iI_tn, iI_div, iI_l, iL_add, iL_sub, iL_mul, iL_neg, iL_le, iL_lt, iL_eq, iL_ite, vp_T, b2_ne0, b2_eq1, nn_imp, true_and, iI_ite, not_true_eq_false, not_false_eq_true, true_implies, false_implies, and_true, Int.reduceLT, Int.reduceLE, Int.reduceEq, or_false, false_or, true_or, or_true, false_and, and_false]
        have := ih (i + 1) Q2 σ2 hrest (by omega) c2 (doS_W w1 hq).1 (Fr_tr hf f2) he2
        exact this
      · rw [hsi] at hq vs
        have he2 : exS L P = (Q, s.2.1) := by rw [he]; show (match doS Q s with | none => (Q, s.2.1) | some Q => exS R Q) = _; rw [hq]
        rw [he2] at hk
        have vp := vs.2.2.2
        try simp (disch := omega) only [iI_lit, iL_lit, iI_add, iI_sub, iI_mul, iI_neg, iI_lt, iI_le, iI_eq, iI_tn, iI_div, iI_l, iL_add, iL_sub, iL_mul, iL_neg, iL_le, iL_lt, iL_eq, iL_ite, vp_T, b2_ne0, b2_eq1, nn_imp, true_and, iI_ite, not_true_eq_false, not_false_eq_true, true_implies, false_implies, and_true, Int.reduceLT, Int.reduceLE, Int.reduceEq, or_false, false_or, true_or, or_true, false_and, and_false]
        have t : σ2.1 39 (i : Int).toNat = iI s.2.1 := by
          rw [f2.1 _ _ (by unfold FP; omega), show (i : Int).toNat = i by omega, (s1 i hi2).2.1, hsi]
        rw [t]
        exact hk σ2 (Fr_tr hf f2) (fun e => absurd (show s.2.1 = -1 from e) (by omega))
  exact A L 0 P σ rfl (Nat.zero_le _) hC hW Fr_rf rfl
end C31c
