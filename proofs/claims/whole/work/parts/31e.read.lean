/-! the reference's statements -/
def FNA (a n : Nat) : Nat → Nat → Prop := fun k j => FNX k j ∨ (k = 62 ∧ a ≤ j ∧ j < a + n)
theorem ag_app {T : List Int} (ys : List Int) : ∀ (xs : List Int) (p : Int), ag T (xs ++ ys) p = if (ag T xs p).2.2 = true then ((ag T xs p).1 ++ (ag T ys (ag T xs p).2.1).1, (ag T ys (ag T xs p).2.1).2) else ag T xs p
  | [], p => by show ag T ys p = if true = true then _ else _; rw [if_pos rfl]; rfl
  | x :: xs, p => by
    show ag T (x :: (xs ++ ys)) p = _
    have i := ag_app (T := T) ys xs (tE T p)
    have l : ag T (x :: (xs ++ ys)) p = if vlu T x p = -2 then ([], p, false) else (vlu T x p :: (ag T (xs ++ ys) (tE T p)).1, (ag T (xs ++ ys) (tE T p)).2) := rfl
    have r : ag T (x :: xs) p = if vlu T x p = -2 then ([], p, false) else (vlu T x p :: (ag T xs (tE T p)).1, (ag T xs (tE T p)).2) := rfl
    rw [l, r]
    by_cases e : vlu T x p = -2
    · rw [if_pos e, if_pos e, if_neg (fun z => absurd (show false = true from z) (by decide))]
    · rw [if_neg e, if_neg e, i]
      by_cases c : (ag T xs (tE T p)).2.2 = true
      · rw [if_pos c, if_pos c]; rfl
      · rw [if_neg c, if_neg c]
section C31e
variable {S : Sp} {σ : St} {Φ : Rs} {T : List Int} {q : Int}
theorem TRm_a {a n : Nat} {σ' : St} (h : TRm T σ) (hf : Fr (FNA a n) σ σ') : TRm T σ' := TX_f h hf (fun i => by unfold FNA FNX; omega) (by unfold FNA FNX; omega)
theorem WLM_a {a n : Nat} {σ' : St} (h : WLM σ) (hf : Fr (FNA a n) σ σ') : WLM σ' := WLM_f h hf (fun j => by unfold FNA FNX; omega)
theorem vlu_n (hW : WT T) (h0 : 0 ≤ q) (h1 : q ≤ (T.length : Nat)) : (tC T q = 20 → vlu T 110 q = tV T q ∧ ¬ vlu T 110 q = -2) ∧ (¬ tC T q = 20 → vlu T 110 q = -2) := by
  unfold vlu
  rw [if_neg (by decide), if_neg (fun z => absurd z.1 (by decide))]
  constructor
  · intro e
    rw [if_pos e]
    have er := tE_r hW h0 h1
    have := tV_b hW h0 h1 ((tC_k (T := T) (p := q)).1.mp e) (i := tE T q) er.1 (Int.le_refl _)
    exact ⟨rfl, by unfold tV; omega⟩
  · intro e; rw [if_neg e]
theorem c_X9_takesNumber (hS : Sys S) (hT : TRm T σ) (hW : WT T) (hL : WLM σ) (h0 : 0 ≤ q) (h1 : q ≤ (T.length : Nat)) (hK : KM T q σ) {a : Nat} (ha : a < 6) (hY : tC T q = 20 → ∀ σ', Fr (FNA a 1) σ σ' → KM T (tE T q) σ' → σ'.1 62 a = iI (tV T q) → Φ [aI (iI 1)] σ') (hN : ¬ tC T q = 20 → Φ [aI (iI 0)] σ) : S 212 [aR 49, aI (iI a)] σ Φ := by
  refine m_X9_takesNumber hS (fun v hv hw => ?_)
  have cr := tC_r (T := T) (p := q)
  have er := tE_r hW h0 h1
  have sr := tS_r h0 h1
  unfold vc_X9_takesNumber_0
  obtain ⟨k5, k4, k3, k6⟩ := hK
  try simp (disch := omega) only [iI_lit, iL_lit, iI_add, iI_sub, iI_mul, iI_neg, iI_lt, iI_le, iI_eq, iI_tn, iI_div, iI_l, iL_add, iL_sub, iL_mul, iL_neg, iL_le, iL_lt, iL_eq, iL_ite, vp_T, b2_ne0, b2_eq1, nn_imp, true_and, iI_ite, not_true_eq_false, not_false_eq_true, true_implies, false_implies, and_true, Int.reduceLT, Int.reduceLE, Int.reduceEq, or_false, false_or, true_or, or_true, false_and, and_false, k5]
  refine ⟨fun c => ?_, fun c => hN c⟩
  rw [k6 c]
  intro σ1 e1
  have f1 : Fr (FNA a 1) σ σ1 := by rw [e1]; exact Fr_up Fr_rf (Or.inr ⟨rfl, by omega, by omega⟩)
  refine c_X9_next hS (TRm_a hT f1) hW (WLM_a hL f1) (p := tE T q) (by omega) er.2.1 (by rw [e1, up_n (by omega)]; exact k3 (by omega)) (fun σ2 f2 m2 => ⟨rfl, ?_⟩)
  exact hY c σ2 (Fr_tr f1 (Fr_mo f2 (fun k j q => Or.inl q))) m2 (by rw [f2.1 _ _ (by unfold FNX; omega), e1]; exact up_h (by omega))
theorem c_X9_takesNumbers (hS : Sys S) (hT : TRm T σ) (hW : WT T) (hL : WLM σ) (h0 : 0 ≤ q) (h1 : q ≤ (T.length : Nat)) (hK : KM T q σ) {a n : Nat} (ha : a + n ≤ 6)
    (hY : (ag T (List.replicate n 110) q).2.2 = true → ∀ σ', Fr (FNA a n) σ σ' → KM T (ag T (List.replicate n 110) q).2.1 σ' → (∀ j : Nat, j < n → σ'.1 62 (a + j) = iI ((ag T (List.replicate n 110) q).1[j]?.getD 0)) → Φ [aI (iI 1)] σ')
    (hN : ¬ (ag T (List.replicate n 110) q).2.2 = true → ∀ σ', Fr (FNA a n) σ σ' → KM T (ag T (List.replicate n 110) q).2.1 σ' → Φ [aI (iI 0)] σ') : S 213 [aR 49, aI (iI a), aI (iI n)] σ Φ := by
  refine m_X9_takesNumbers hS (fun v hv hw => ?_)
  unfold vc_X9_takesNumbers_0
  generalize hR : ag T (List.replicate n 110) q = R at hY hN
  have A : ∀ (m : Nat) (acc : List Int) (p : Int) (σ1 : St), acc.length + m = n → 0 ≤ p → p ≤ (T.length : Nat) → Fr (FNA a n) σ σ1 → KM T p σ1 → (∀ j : Nat, j < acc.length → σ1.1 62 (a + j) = iI (acc[j]?.getD 0)) → R = (acc ++ (ag T (List.replicate m 110) p).1, (ag T (List.replicate m 110) p).2) → v 2 [some (aR 49), some (aI (iI a)), some (aI (iI n)), some (aI (iI (a + (acc.length : Nat))))] [] σ1 := by
    intro m
    induction m with
    | zero =>
      intro acc p σ1 hm p0 p1 hf hk hj hr
      refine w_X9_takesNumbers_2 hS hv hw _ _ _ σ1 ?_
      unfold vc_X9_takesNumbers_2
      have hr2 : R = (acc, p, true) := by rw [hr]; show (acc ++ [], p, true) = _; rw [List.append_nil]
      subst hr2
      try simp (disch := omega) only [iI_lit, iL_lit, iI_add, iI_sub, iI_mul, iI_neg, iI_lt, iI_le, iI_eq, iI_tn, iI_div, iI_l, iL_add, iL_sub, iL_mul, iL_neg, iL_le, iL_lt, iL_eq, iL_ite, vp_T, b2_ne0, b2_eq1, nn_imp, true_and, iI_ite, not_true_eq_false, not_false_eq_true, true_implies, false_implies, and_true, Int.reduceLT, Int.reduceLE, Int.reduceEq, or_false, false_or, true_or, or_true, false_and, and_false]
      exact ⟨fun _ => hY rfl σ1 hf hk (fun j hj2 => hj j (by omega)), fun c => by omega⟩
    | succ m ih =>
      intro acc p σ1 hm p0 p1 hf hk hj hr
      refine w_X9_takesNumbers_2 hS hv hw _ _ _ σ1 ?_
      unfold vc_X9_takesNumbers_2
      have er := tE_r hW p0 p1
      have sr := tS_r p0 p1
      have vn := vlu_n hW p0 p1
      have hr' : R = (acc ++ (if vlu T 110 p = -2 then ([], p, false) else (vlu T 110 p :: (ag T (List.replicate m 110) (tE T p)).1, (ag T (List.replicate m 110) (tE T p)).2)).1, (if vlu T 110 p = -2 then ([], p, false) else (vlu T 110 p :: (ag T (List.replicate m 110) (tE T p)).1, (ag T (List.replicate m 110) (tE T p)).2)).2) := hr
      try simp (disch := omega) only [iI_lit, iL_lit, iI_add, iI_sub, iI_mul, iI_neg, iI_lt, iI_le, iI_eq, iI_tn, iI_div, iI_l, iL_add, iL_sub, iL_mul, iL_neg, iL_le, iL_lt, iL_eq, iL_ite, vp_T, b2_ne0, b2_eq1, nn_imp, true_and, iI_ite, not_true_eq_false, not_false_eq_true, true_implies, false_implies, and_true, Int.reduceLT, Int.reduceLE, Int.reduceEq, or_false, false_or, true_or, or_true, false_and, and_false]
      refine ⟨fun c => by omega, fun _ => ?_⟩
      rw [show (a : Int) + (acc.length : Nat) = ((a + acc.length : Nat) : Int) by omega]
      refine c_X9_takesNumber hS (TRm_a hT hf) hW (WLM_a hL hf) p0 p1 hk (by omega) (fun c σ2 f2 k2 b2 => ⟨_, rfl, ?_⟩) (fun c => ⟨_, rfl, ?_⟩)
      · try simp (disch := omega) only [iI_lit, iL_lit, iI_add, iI_sub, iI_mul, iI_neg, iI_lt, iI_le, iI_eq, iI_tn, iI_div, iI_l, iL_add, iL_sub, iL_mul, iL_neg, iL_le, iL_lt, iL_eq, iL_ite, vp_T, b2_ne0, b2_eq1, nn_imp, true_and, iI_ite, not_true_eq_false, not_false_eq_true, true_implies, false_implies, and_true, Int.reduceLT, Int.reduceLE, Int.reduceEq, or_false, false_or, true_or, or_true, false_and, and_false]
        have F2 : Fr (FNA a n) σ σ2 := Fr_tr hf (Fr_mo f2 (fun k j q => by unfold FNA FNX at q ⊢; omega))
        rw [if_neg (vn.1 c).2] at hr'
        have := ih (acc ++ [vlu T 110 p]) (tE T p) σ2 (by rw [List.length_append]; show acc.length + 1 + m = n; omega) (by omega) er.2.1 F2 k2 (fun j hj2 => ?_) (by rw [hr', List.append_assoc]; rfl)
        · rw [List.length_append] at this
          rw [show ((a + acc.length : Nat) : Int) + 1 = (a : Int) + ((acc.length + 1 : Nat) : Int) by omega]
          exact this
        · rw [List.length_append] at hj2
          have hj2 : j < acc.length + 1 := hj2
          by_cases u : j = acc.length
          · subst u; rw [gd_b, (vn.1 c).1]; exact b2
          · rw [gd_a (by omega), f2.1 _ _ (by unfold FNA FNX; omega)]; exact hj j (by omega)
      · try simp (disch := omega) only [iI_lit, iL_lit, iI_add, iI_sub, iI_mul, iI_neg, iI_lt, iI_le, iI_eq, iI_tn, iI_div, iI_l, iL_add, iL_sub, iL_mul, iL_neg, iL_le, iL_lt, iL_eq, iL_ite, vp_T, b2_ne0, b2_eq1, nn_imp, true_and, iI_ite, not_true_eq_false, not_false_eq_true, true_implies, false_implies, and_true, Int.reduceLT, Int.reduceLE, Int.reduceEq, or_false, false_or, true_or, or_true, false_and, and_false]
        rw [if_pos (vn.2 c)] at hr'
        have hr2 : R = (acc ++ [], p, false) := hr'
        subst hr2
        exact hN (fun z => absurd (show false = true from z) (by decide)) σ1 hf hk
  have := A n [] q σ (by show 0 + n = n; omega) h0 h1 Fr_rf hK (fun j hj => absurd hj (Nat.not_lt_zero j)) (by rw [← hR, List.nil_append])
  rw [show (a : Int) + (([] : List Int).length : Nat) = a by show (a : Int) + 0 = a; omega] at this
  exact this
theorem c_X9_takesHole (hS : Sys S) (hT : TRm T σ) (hW : WT T) (hL : WLM σ) (h0 : 0 ≤ q) (h1 : q ≤ (T.length : Nat)) (hK : KM T q σ)
    (hY : (ag T (shp 0) q).2.2 = true → ∀ σ', Fr (FNA 0 6) σ σ' → KM T (ag T (shp 0) q).2.1 σ' → (∀ j : Nat, j < 6 → σ'.1 62 j = iI ((ag T (shp 0) q).1[j]?.getD 0)) → Φ [aI (iI 1)] σ')
    (hN : ¬ (ag T (shp 0) q).2.2 = true → ∀ σ', Fr (FNA 0 6) σ σ' → KM T (ag T (shp 0) q).2.1 σ' → Φ [aI (iI 0)] σ') : S 214 [aR 49] σ Φ := by
  refine m_X9_takesHole hS (fun v hv hw => ?_)
  unfold vc_X9_takesHole_0
  have eR : ag T (shp 0) q = ag T (List.replicate 2 110 ++ (107 :: List.replicate 3 110)) q := rfl
  rw [eR, ag_app] at hY hN
  have r1 := ag_r hW (List.replicate 2 110) q h0 h1
  refine c_X9_takesNumbers hS hT hW hL h0 h1 hK (a := 0) (n := 2) (by omega) (fun hy σ1 f1 k1 b1 => ⟨_, rfl, ?_⟩) (fun hn σ1 f1 k1 => ⟨_, rfl, ?_⟩)
  · rw [if_pos hy] at hY hN
    have l1 := r1.2.2.2 hy
    have F1 : Fr (FNA 0 6) σ σ1 := Fr_mo f1 (fun k j q => by unfold FNA FNX at q ⊢; omega)
    generalize ag T (List.replicate 2 110) q = A1 at r1 l1 k1 b1 hY hN
    have p0 : 0 ≤ A1.2.1 := by omega
    have cr := tC_r (T := T) (p := A1.2.1)
    have er := tE_r hW p0 r1.2.1
    have sr := tS_r p0 r1.2.1
    have eR2 : ag T (107 :: List.replicate 3 110) A1.2.1 = if vlu T 107 A1.2.1 = -2 then ([], A1.2.1, false) else (vlu T 107 A1.2.1 :: (ag T (List.replicate 3 110) (tE T A1.2.1)).1, (ag T (List.replicate 3 110) (tE T A1.2.1)).2) := rfl
    have vk : vlu T 107 A1.2.1 = if tC T A1.2.1 ≤ 5 then tC T A1.2.1 else -2 := by unfold vlu; rw [if_pos rfl]
    rw [eR2, vk] at hY hN
    have k5 := k1.1
    try simp (disch := omega) only [iI_lit, iL_lit, iI_add, iI_sub, iI_mul, iI_neg, iI_lt, iI_le, iI_eq, iI_tn, iI_div, iI_l, iL_add, iL_sub, iL_mul, iL_neg, iL_le, iL_lt, iL_eq, iL_ite, vp_T, b2_ne0, b2_eq1, nn_imp, true_and, iI_ite, not_true_eq_false, not_false_eq_true, true_implies, false_implies, and_true, Int.reduceLT, Int.reduceLE, Int.reduceEq, or_false, false_or, true_or, or_true, false_and, and_false, k5]
    refine ⟨fun c => ?_, fun c => ?_⟩
    · rw [if_pos c] at hY hN
      rw [if_neg (by omega)] at hY hN
      intro σ3 e3
      have f3 : Fr (FNA 0 6) σ σ3 := by rw [e3]; exact Fr_up F1 (Or.inr ⟨rfl, by omega, by omega⟩)
      refine c_X9_next hS (TRm_a hT f3) hW (WLM_a hL f3) (p := tE T A1.2.1) (by omega) er.2.1 (by rw [e3, up_n (by omega)]; exact k1.2.2.1 (by omega)) (fun σ4 f4 m4 => ⟨rfl, ?_⟩)
      have F4 : Fr (FNA 0 6) σ σ4 := Fr_tr f3 (Fr_mo f4 (fun k j q => Or.inl q))
      have r3 := ag_r hW (List.replicate 3 110) (tE T A1.2.1) (by omega) er.2.1
      refine c_X9_takesNumbers hS (TRm_a hT F4) hW (WLM_a hL F4) (by omega) er.2.1 m4 (a := 3) (n := 3) (by omega) (fun hy σ5 f5 k5 b5 => ⟨_, rfl, Or.inr (iI_lit 1).symm, ?_⟩) (fun hn σ5 f5 k5 => ⟨_, rfl, Or.inl (iI_lit 0).symm, ?_⟩)
      · refine hY hy σ5 (Fr_tr F4 (Fr_mo f5 (fun k j q => by unfold FNA FNX at q ⊢; omega))) k5 (fun j hj => ?_)
        have q0 := b1 0 (by omega)
        have q1 := b1 1 (by omega)
        have q3 := b5 0 (by omega)
        have q4 := b5 1 (by omega)
        have q5 := b5 2 (by omega)
        have l1 : A1.1.length = 2 := l1
        have N5 : ∀ j, j < 3 → σ5.1 62 j = σ4.1 62 j := fun j hj => f5.1 _ _ (by unfold FNA FNX; omega)
        have N4 : ∀ j, σ4.1 62 j = σ3.1 62 j := fun j => f4.1 _ _ (by unfold FNX; omega)
        dsimp only
        rcases (show j = 0 ∨ j = 1 ∨ j = 2 ∨ j = 3 ∨ j = 4 ∨ j = 5 by omega) with e | e | e | e | e | e <;> subst e
        · rw [gd_a (by omega), N5 _ (by omega), N4, e3, up_m (by omega)]; exact q0
        · rw [gd_a (by omega), N5 _ (by omega), N4, e3, up_m (by omega)]; exact q1
        · rw [List.getElem?_append_right (by omega), l1, N5 _ (by omega), N4, e3]; exact up_h rfl
        · rw [List.getElem?_append_right (by omega), l1]; exact q3
        · rw [List.getElem?_append_right (by omega), l1]; exact q4
        · rw [List.getElem?_append_right (by omega), l1]; exact q5
      · exact hN hn σ5 (Fr_tr F4 (Fr_mo f5 (fun k j q => by unfold FNA FNX at q ⊢; omega))) k5
    · rw [if_neg c] at hN
      rw [if_pos rfl] at hN
      exact hN (fun z => absurd (show false = true from z) (by decide)) σ1 F1 k1
  · rw [if_neg hn] at hN
    try simp (disch := omega) only [iI_lit, iL_lit, iI_add, iI_sub, iI_mul, iI_neg, iI_lt, iI_le, iI_eq, iI_tn, iI_div, iI_l, iL_add, iL_sub, iL_mul, iL_neg, iL_le, iL_lt, iL_eq, iL_ite, vp_T, b2_ne0, b2_eq1, nn_imp, true_and, iI_ite, not_true_eq_false, not_false_eq_true, true_implies, false_implies, and_true, Int.reduceLT, Int.reduceLE, Int.reduceEq, or_false, false_or, true_or, or_true, false_and, and_false]
    exact hN hn σ1 (Fr_mo f1 (fun k j q => by unfold FNA FNX at q ⊢; omega)) k1
theorem c_X9_takesWire (hS : Sys S) (hT : TRm T σ) (hW : WT T) (hL : WLM σ) (h0 : 0 ≤ q) (h1 : q ≤ (T.length : Nat)) (hK : KM T q σ)
    (hY : (ag T (shp 1) q).2.2 = true → ∀ σ', Fr (FNA 0 6) σ σ' → KM T (ag T (shp 1) q).2.1 σ' → (∀ j : Nat, j < 3 → σ'.1 62 j = iI ((ag T (shp 1) q).1[j]?.getD 0)) → Φ [aI (iI 1)] σ')
    (hN : ¬ (ag T (shp 1) q).2.2 = true → ∀ σ', Fr (FNA 0 6) σ σ' → KM T (ag T (shp 1) q).2.1 σ' → Φ [aI (iI 0)] σ') : S 215 [aR 49] σ Φ := by
  refine m_X9_takesWire hS (fun v hv hw => ?_)
  unfold vc_X9_takesWire_0
  have cr := tC_r (T := T) (p := q)
  have er := tE_r hW h0 h1
  have sr := tS_r h0 h1
  have eR : ag T (shp 1) q = if vlu T 102 q = -2 then ([], q, false) else (vlu T 102 q :: (ag T (List.replicate 2 110) (tE T q)).1, (ag T (List.replicate 2 110) (tE T q)).2) := rfl
  have k5 := hK.1
  try simp (disch := omega) only [iI_lit, iL_lit, iI_add, iI_sub, iI_mul, iI_neg, iI_lt, iI_le, iI_eq, iI_tn, iI_div, iI_l, iL_add, iL_sub, iL_mul, iL_neg, iL_le, iL_lt, iL_eq, iL_ite, vp_T, b2_ne0, b2_eq1, nn_imp, true_and, iI_ite, not_true_eq_false, not_false_eq_true, true_implies, false_implies, and_true, Int.reduceLT, Int.reduceLE, Int.reduceEq, or_false, false_or, true_or, or_true, false_and, and_false, k5]
  refine ⟨fun c => ?_, fun c => ?_⟩
  · have e3 : vlu T 102 q = if tC T q = 20 then tV T q else -2 := by unfold vlu; rw [if_neg (by decide), if_neg (fun z => c z.2)]
    have e4 : vlu T 110 q = if tC T q = 20 then tV T q else -2 := by unfold vlu; rw [if_neg (by decide), if_neg (fun z => absurd z.1 (by decide))]
    have e2 : vlu T 102 q = vlu T 110 q := e3.trans e4.symm
    have eR2 : ag T (shp 1) q = ag T (List.replicate 3 110) q := by rw [eR, e2]; rfl
    rw [eR2] at hY hN
    exact c_X9_takesNumbers hS hT hW hL h0 h1 hK (a := 0) (n := 3) (by omega) (fun hy σ1 f1 k1 b1 => ⟨_, rfl, Or.inr (iI_lit 1).symm, hY hy σ1 (Fr_mo f1 (fun k j q => by unfold FNA FNX at q ⊢; omega)) k1 (fun j hj => by have := b1 j hj; rw [Nat.zero_add] at this; exact this)⟩) (fun hn σ1 f1 k1 => ⟨_, rfl, Or.inl (iI_lit 0).symm, hN hn σ1 (Fr_mo f1 (fun k j q => by unfold FNA FNX at q ⊢; omega)) k1⟩)
  · have e2 : vlu T 102 q = -1 := by unfold vlu; rw [if_neg (by decide), if_pos ⟨rfl, c⟩]
    rw [eR, e2, if_neg (by decide)] at hY hN
    intro σ3 e3
    have f3 : Fr (FNA 0 6) σ σ3 := by rw [e3]; exact Fr_up Fr_rf (Or.inr ⟨rfl, by omega, by omega⟩)
    refine c_X9_next hS (TRm_a hT f3) hW (WLM_a hL f3) (p := tE T q) (by omega) er.2.1 (by rw [e3, up_n (by omega)]; exact hK.2.2.1 (by omega)) (fun σ4 f4 m4 => ⟨rfl, ?_⟩)
    have F4 : Fr (FNA 0 6) σ σ4 := Fr_tr f3 (Fr_mo f4 (fun k j q => Or.inl q))
    refine c_X9_takesNumbers hS (TRm_a hT F4) hW (WLM_a hL F4) (by omega) er.2.1 m4 (a := 1) (n := 2) (by omega) (fun hy σ5 f5 k5 b5 => ⟨_, rfl, Or.inr (iI_lit 1).symm, ?_⟩) (fun hn σ5 f5 k5 => ⟨_, rfl, Or.inl (iI_lit 0).symm, ?_⟩)
    · refine hY hy σ5 (Fr_tr F4 (Fr_mo f5 (fun k j q => by unfold FNA FNX at q ⊢; omega))) k5 (fun j hj => ?_)
      cases j with
      | zero => rw [f5.1 _ _ (by unfold FNA FNX; omega), f4.1 _ _ (by unfold FNX; omega), e3]; exact up_h rfl
      | succ j => have := b5 j (by omega); rw [Nat.add_comm 1 j] at this; exact this
    · exact hN hn σ5 (Fr_tr F4 (Fr_mo f5 (fun k j q => by unfold FNA FNX at q ⊢; omega))) k5
end C31e
