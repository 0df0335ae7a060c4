noncomputable def stepX (s : Stm) (a : Pl × Int) : Pl × Int := if 0 ≤ a.2 then a else match doS a.1 s with
  | none => (a.1, s.2.1)
  | some R => (pu R 285 0, a.2)
noncomputable def runX : List Stm → Pl × Int → Pl × Int
  | [], a => a
  | s :: L, a => runX L (stepX s a)
theorem runX_app : ∀ (L : List Stm) (s : Stm) (a : Pl × Int), runX (L ++ [s]) a = stepX s (runX L a)
  | [], s, a => rfl
  | x :: L, s, a => runX_app L s (stepX x a)
theorem runX_r : ∀ (L : List Stm) (a : Pl × Int), 0 ≤ a.2 → runX L a = a
  | [], a, h => rfl
  | s :: L, a, h => by
    show runX L (stepX s a) = a
    have : stepX s a = a := if_pos h
    rw [this]; exact runX_r L a h
theorem runX_x : ∀ (L : List Stm) (P : Pl) (c : Int), WF P → allS L → (runX L (pu P 285 c, -1)).2 = (exS L P).2 ∧ ((exS L P).2 = -1 → pu (runX L (pu P 285 c, -1)).1 285 0 = pu (exS L P).1 285 0)
  | [], P, c, hW, _ => ⟨rfl, fun _ => pu_pu⟩
  | s :: L, P, c, hW, hL => by
    have vs : vS s := hL 0 (Nat.succ_pos _)
    have vp := vs.2.2.2
    have hL2 : allS L := fun i hi => hL (i + 1) (Nat.succ_lt_succ hi)
    have hd := doS_cl (c := c) hW (s := s)
    have st : stepX s (pu P 285 c, -1) = match doS (pu P 285 c) s with
      | none => (pu P 285 c, s.2.1)
      | some R => (pu R 285 0, -1) := if_neg (by show ¬ (0 : Int) ≤ -1; omega)
    have ex : exS (s :: L) P = match doS P s with
      | none => (P, s.2.1)
      | some Q => exS L Q := rfl
    show (runX L (stepX s (pu P 285 c, -1))).2 = _ ∧ (_ → pu (runX L (stepX s (pu P 285 c, -1))).1 285 0 = _)
    rw [st, ex, hd]
    cases e : doS P s with
    | none =>
      show (runX L (pu P 285 c, s.2.1)).2 = s.2.1 ∧ (s.2.1 = -1 → _)
      rw [runX_r L _ vp.1]
      exact ⟨rfl, fun z => by omega⟩
    | some Q =>
      show (runX L (pu (pu Q 285 c) 285 0, -1)).2 = (exS L Q).2 ∧ ((exS L Q).2 = -1 → pu (runX L (pu (pu Q 285 c) 285 0, -1)).1 285 0 = pu (exS L Q).1 285 0)
      rw [pu_pu]
      exact runX_x L Q 0 (doS_W hW e).1 hL2
theorem stepX_W {s : Stm} {a : Pl × Int} (hW : WF a.1) (hs : vS s) (hr : -1 ≤ a.2 ∧ a.2 ≤ 80) : WF (stepX s a).1 ∧ -1 ≤ (stepX s a).2 ∧ (stepX s a).2 ≤ 80 := by
  have vp := hs.2.2.2
  unfold stepX
  split
  · exact ⟨hW, hr⟩
  · cases e : doS a.1 s with
    | none => exact ⟨hW, by dsimp only; omega⟩
    | some R => exact ⟨pu_C (doS_W hW e).1 (by omega), hr⟩
theorem stR_5 {T : List Int} (hW : WT T) {p : Int} (h0 : 0 ≤ p) (h1 : p ≤ (T.length : Nat)) (h : (stR T p).2.2 = true) : p + 5 ≤ (stR T p).2.1 := by
  have sr := tS_r h0 h1
  have er := tE_r hW h0 h1
  have vr := vOf_r (c := tC T p)
  unfold stR at h ⊢
  by_cases c : vOf (tC T p) = -2
  · rw [if_pos c] at h; exact absurd (show false = true from h) (by decide)
  · rw [if_neg c] at h ⊢
    have cm := mv_v c
    have cr : 0 ≤ tC T p ∧ tC T p < 12 := by
      rw [← cm]; unfold mv; (repeat' split) <;> omega
    have iw := (tC_w (T := T) (p := p) cr).mp rfl
    have wl := wrd_n cr
    have e1 := iw.2.1
    obtain ⟨x, xs, hx⟩ : ∃ x xs, shp (vOf (tC T p)) = x :: xs := by
      unfold shp; split
      · exact ⟨_, _, rfl⟩
      · split <;> exact ⟨_, _, rfl⟩
    rw [hx] at h ⊢
    have sr2 := tS_r (T := T) (p := tE T p) (by omega) er.2.1
    have er2 := tE_r hW (p := tE T p) (by omega) er.2.1
    unfold ag at h ⊢
    by_cases d : vlu T x (tE T p) = -2
    · rw [if_pos d] at h; exact absurd (show false = true from h) (by decide)
    · rw [if_neg d] at h ⊢
      have i := ag_r hW xs (tE T (tE T p)) (by omega) er2.2.1
      have ne : ¬ hr T (tS T (tE T p)) = -1 := fun e => d (by
        have k0 : tK T (tE T p) = 0 := by unfold tK; rw [e]; rfl
        have c22 := (tC_k (T := T) (p := tE T p)).2.2.mpr k0
        unfold vlu
        rw [c22]
        split
        · rfl
        · rw [if_neg (fun z => absurd z.2 (by decide)), if_neg (by decide)])
      have := er2.2.2 ne
      show p + 5 ≤ (ag T xs (tE T (tE T p))).2.1
      omega
theorem stR_e {T : List Int} (hW : WT T) {p : Int} (h0 : 78 ≤ p) (h1 : p ≤ (T.length : Nat)) : stR T p = ([], p, false) := by
  have l := hW.1
  have sr := tS_r (show 0 ≤ p by omega) h1
  have er := tE_r hW (show 0 ≤ p by omega) h1
  have vr := vOf_r (c := tC T p)
  unfold stR
  rw [if_pos ?_]
  refine Classical.byContradiction (fun c => ?_)
  have cm := mv_v c
  have cr : 0 ≤ tC T p ∧ tC T p < 12 := by
    rw [← cm]; unfold mv; (repeat' split) <;> omega
  have iw := (tC_w (T := T) (p := p) cr).mp rfl
  have wl := wrd_n cr
  have e1 := iw.2.1
  omega
section C31g
variable {S : Sp} {σ : St} {Φ : Rs} {T : List Int} {Q : Pl} {p : Int}
theorem TRm_s {σ' : St} (h : TRm T σ) (hf : Fr FTS σ σ') : TRm T σ' := TX_f h hf (fun i => by unfold FTS FNA FNX; omega) (by unfold FTS FNA FNX; omega)
theorem WLM_s {σ' : St} (h : WLM σ) (hf : Fr FTS σ σ') : WLM σ' := WLM_f h hf (fun j => by unfold FTS FNA FNX; omega)
theorem KM_f {c : Nat → Nat → Prop} {σ' : St} (h : KM T p σ) (hf : Fr c σ σ') (h1 : ¬ c 49 23 ∧ ¬ c 49 24 ∧ ¬ c 49 25 ∧ ¬ c 49 26) : KM T p σ' := by
  obtain ⟨a, b, c, d⟩ := h
  exact ⟨by rw [hf.1 _ _ h1.2.2.1]; exact a, by rw [hf.1 _ _ h1.2.1]; exact b, fun z => by rw [hf.1 _ _ h1.1]; exact c z, fun z => by rw [hf.1 _ _ h1.2.2.2]; exact d z⟩
theorem c_X9_takesStatement (hS : Sys S) (hT : TRm T σ) (hW : WT T) (hL : WLM σ) (h0 : 0 ≤ p) (h1 : p ≤ (T.length : Nat)) (hK : KM T p σ) (hM : MP 50 Q σ) (hQ : WF Q) {ref : Int} (hr : -1 ≤ ref ∧ ref ≤ 80) (h27 : σ.1 49 27 = iI ref)
    (hY : (stR T p).2.2 = true → ∀ σ', Fr FTS σ σ' → KM T (stR T p).2.1 σ' → MP 50 (stepX (stm1 T p) (Q, ref)).1 σ' → σ'.1 49 27 = iI (stepX (stm1 T p) (Q, ref)).2 → Φ [aI (iI 1)] σ')
    (hN : ¬ (stR T p).2.2 = true → ∀ σ', Fr (FNA 0 6) σ σ' → KM T (stR T p).2.1 σ' → Φ [aI (iI 0)] σ') : S 217 [aR 49] σ Φ := by
  refine m_X9_takesStatement hS (fun v hv hw => ?_)
  have l := hW.1
  have sr := tS_r h0 h1
  have er := tE_r hW h0 h1
  have cr := tC_r (T := T) (p := p)
  have vr := vOf_r (c := tC T p)
  obtain ⟨k5, k4, k3, k6⟩ := hK
  -- the arguments are there
  have T79 : (stR T p).2.2 = true → ∀ (l3 : Int32) (σ2 : St), Fr (FNA 0 6) σ σ2 → KM T (stR T p).2.1 σ2 → (∀ j : Nat, j < (shp (vOf (tC T p))).length → σ2.1 62 j = iI ((stR T p).1[j]?.getD 0)) → vc_X9_takesStatement_79 S Φ v (iI (tS T p)) (iI (tC T p)) l3 (iI 1) σ2 := by
    intro hy l3 σ2 f2 m2 b2
    have vs := stm1_v hW h0 h1 hy
    have F2 : Fr FTS σ σ2 := Fr_mo f2 (fun k j q => Or.inl q)
    have r2 : σ2.1 49 27 = iI ref := by rw [f2.1 _ _ (by unfold FNA FNX; omega)]; exact h27
    have M2 := MP_f hM f2 (fun j => by unfold FNA FNX; omega)
    have vne : ¬ vOf (tC T p) = -2 := fun e => by
      unfold stR at hy; rw [if_pos e] at hy; exact absurd (show false = true from hy) (by decide)
    have hY := hY hy
    unfold stepX at hY
    unfold vc_X9_takesStatement_79
    try simp (disch := omega) only [iI_lit, iL_lit, iI_add, iI_sub, iI_mul, iI_neg, iI_lt, iI_le, iI_eq, iI_tn, iI_div, iI_l, iL_add, iL_sub, iL_mul, iL_neg, iL_le, iL_lt, iL_eq, iL_ite, vp_T, b2_ne0, b2_eq1, nn_imp, true_and, iI_ite, not_true_eq_false, not_false_eq_true, true_implies, false_implies, and_true, Int.reduceLT, Int.reduceLE, Int.reduceEq, or_false, false_or, true_or, or_true, false_and, and_false, r2]
    refine ⟨fun c => ?_, fun c => ?_⟩
    · have hY := hY σ2 F2 m2
      rw [if_pos c] at hY
      exact hY M2 r2
    · have e1 : ref = -1 := by omega
      rw [if_neg c] at hY
      have cm : tC T p = mv (stm1 T p).1 := (mv_v vne).symm
      rw [cm]
      refine c_X9_does hS M2 hQ vs (fun j hj => b2 j hj) (fun R hR σ3 f3 m3 => ⟨_, rfl, ?_⟩) (fun hR => ⟨_, rfl, ?_⟩)
      · rw [hR] at hY
        try simp (disch := omega) only [iI_lit, iL_lit, iI_add, iI_sub, iI_mul, iI_neg, iI_lt, iI_le, iI_eq, iI_tn, iI_div, iI_l, iL_add, iL_sub, iL_mul, iL_neg, iL_le, iL_lt, iL_eq, iL_ite, vp_T, b2_ne0, b2_eq1, nn_imp, true_and, iI_ite, not_true_eq_false, not_false_eq_true, true_implies, false_implies, and_true, Int.reduceLT, Int.reduceLE, Int.reduceEq, or_false, false_or, true_or, or_true, false_and, and_false]
        exact hY σ3 (Fr_tr F2 (Fr_mo f3 (fun k j q => Or.inr (Or.inl q)))) (KM_f m2 f3 (by unfold F50; omega)) m3 (by rw [f3.1 _ _ (by unfold F50; omega)]; exact r2)
      · rw [hR] at hY
        try simp (disch := omega) only [iI_lit, iL_lit, iI_add, iI_sub, iI_mul, iI_neg, iI_lt, iI_le, iI_eq, iI_tn, iI_div, iI_l, iL_add, iL_sub, iL_mul, iL_neg, iL_le, iL_lt, iL_eq, iL_ite, vp_T, b2_ne0, b2_eq1, nn_imp, true_and, iI_ite, not_true_eq_false, not_false_eq_true, true_implies, false_implies, and_true, Int.reduceLT, Int.reduceLE, Int.reduceEq, or_false, false_or, true_or, or_true, false_and, and_false]
        intro σ3 e3
        have f3 : Fr (fun k j => k = 49 ∧ j = 27) σ2 σ3 := by rw [e3]; exact Fr_up Fr_rf ⟨rfl, rfl⟩
        exact hY σ3 (Fr_tr F2 (Fr_mo f3 (fun k j q => Or.inr (Or.inr q)))) (KM_f m2 f3 (by omega)) (MP_f M2 f3 (fun j => by omega)) (by rw [e3]; exact up_h rfl)
  have T79N : ¬ (stR T p).2.2 = true → ∀ (l3 : Int32) (σ2 : St), Fr (FNA 0 6) σ σ2 → KM T (stR T p).2.1 σ2 → vc_X9_takesStatement_79 S Φ v (iI (tS T p)) (iI (tC T p)) l3 (iI 0) σ2 := by
    intro hn l3 σ2 f2 m2
    unfold vc_X9_takesStatement_79
    try simp (disch := omega) only [iI_lit, iL_lit, iI_add, iI_sub, iI_mul, iI_neg, iI_lt, iI_le, iI_eq, iI_tn, iI_div, iI_l, iL_add, iL_sub, iL_mul, iL_neg, iL_le, iL_lt, iL_eq, iL_ite, vp_T, b2_ne0, b2_eq1, nn_imp, true_and, iI_ite, not_true_eq_false, not_false_eq_true, true_implies, false_implies, and_true, Int.reduceLT, Int.reduceLE, Int.reduceEq, or_false, false_or, true_or, or_true, false_and, and_false]
    exact hN hn σ2 f2 m2
  -- a verb
  have V : ¬ vOf (tC T p) = -2 → vc_X9_takesStatement_39 S Φ v (iI (tS T p)) (iI (tC T p)) 1 σ := by
    intro vne
    have cm := mv_v vne
    have c12 : tC T p < 12 := by rw [← cm]; unfold mv; (repeat' split) <;> omega
    have eR : stR T p = ag T (shp (vOf (tC T p))) (tE T p) := if_neg vne
    unfold vc_X9_takesStatement_39
    try simp (disch := omega) only [iI_lit, iL_lit, iI_add, iI_sub, iI_mul, iI_neg, iI_lt, iI_le, iI_eq, iI_tn, iI_div, iI_l, iL_add, iL_sub, iL_mul, iL_neg, iL_le, iL_lt, iL_eq, iL_ite, vp_T, b2_ne0, b2_eq1, nn_imp, true_and, iI_ite, not_true_eq_false, not_false_eq_true, true_implies, false_implies, and_true, Int.reduceLT, Int.reduceLE, Int.reduceEq, or_false, false_or, true_or, or_true, false_and, and_false]
    refine c_X9_next hS hT hW hL (p := tE T p) (by omega) er.2.1 (k3 (by omega)) (fun σ1 f1 k1 => ⟨rfl, ?_⟩)
    have F1 : Fr (FNA 0 6) σ σ1 := Fr_mo f1 (fun k j q => Or.inl q)
    refine ⟨fun c => ⟨fun d => ?_, fun d => ?_⟩, fun c => ?_⟩
    · have sh : shp (vOf (tC T p)) = [110] := by
        unfold shp
        rw [if_neg (fun e => c (by rw [← cm, e]; rfl)), if_neg (fun e => d (by rw [← cm, e]; rfl))]
      have vn := vlu_n hW (q := tE T p) (by omega) er.2.1
      have eR2 : stR T p = if vlu T 110 (tE T p) = -2 then ([], tE T p, false) else ([vlu T 110 (tE T p)], tE T (tE T p), true) := by rw [eR, sh]; rfl
      refine c_X9_takesNumber hS (TRm_a hT F1) hW (WLM_a hL F1) (by omega) er.2.1 k1 (a := 0) (by omega) (fun e σ2 f2 m2 b2 => ⟨_, rfl, ?_⟩) (fun e => ⟨_, rfl, ?_⟩)
      · rw [if_neg (vn.1 e).2] at eR2
        refine T79 (by rw [eR2]) _ σ2 (Fr_tr F1 (Fr_mo f2 (fun k j q => by unfold FNA FNX at q ⊢; omega))) (by rw [eR2]; exact m2) (fun j hj => ?_)
        rw [sh] at hj
        have hj : j < 1 := hj
        have : j = 0 := by omega
        subst this
        rw [eR2, b2, (vn.1 e).1.symm]; rfl
      · rw [if_pos (vn.2 e)] at eR2
        exact T79N (by rw [eR2]; exact fun z => absurd (show false = true from z) (by decide)) _ σ1 F1 (by rw [eR2]; exact k1)
    · have v1 : vOf (tC T p) = 1 := by rw [d]; rfl
      rw [v1] at eR
      refine c_X9_takesWire hS (TRm_a hT F1) hW (WLM_a hL F1) (by omega) er.2.1 k1 (fun hy σ2 f2 m2 b2 => ⟨_, rfl, ?_⟩) (fun hn σ2 f2 m2 => ⟨_, rfl, ?_⟩)
      · exact T79 (by rw [eR]; exact hy) _ σ2 (Fr_tr F1 f2) (by rw [eR]; exact m2) (fun j hj => by rw [eR]; rw [v1] at hj; exact b2 j hj)
      · exact T79N (by rw [eR]; exact hn) _ σ2 (Fr_tr F1 f2) (by rw [eR]; exact m2)
    · have v0 : vOf (tC T p) = 0 := by rw [c]; rfl
      rw [v0] at eR
      refine c_X9_takesHole hS (TRm_a hT F1) hW (WLM_a hL F1) (by omega) er.2.1 k1 (fun hy σ2 f2 m2 b2 => ⟨_, rfl, ?_⟩) (fun hn σ2 f2 m2 => ⟨_, rfl, ?_⟩)
      · exact T79 (by rw [eR]; exact hy) _ σ2 (Fr_tr F1 f2) (by rw [eR]; exact m2) (fun j hj => by rw [eR]; rw [v0] at hj; exact b2 j hj)
      · exact T79N (by rw [eR]; exact hn) _ σ2 (Fr_tr F1 f2) (by rw [eR]; exact m2)
  unfold vc_X9_takesStatement_0 vc_X9_takesStatement_34
  have ck : vOf (tC T p) = -2 ↔ ¬ (tC T p = 0 ∨ tC T p = 6 ∨ (8 ≤ tC T p ∧ tC T p ≤ 11)) := by unfold vOf; (repeat' split) <;> omega
  try simp (disch := omega) only [iI_lit, iL_lit, iI_add, iI_sub, iI_mul, iI_neg, iI_lt, iI_le, iI_eq, iI_tn, iI_div, iI_l, iL_add, iL_sub, iL_mul, iL_neg, iL_le, iL_lt, iL_eq, iL_ite, vp_T, b2_ne0, b2_eq1, nn_imp, true_and, iI_ite, not_true_eq_false, not_false_eq_true, true_implies, false_implies, and_true, Int.reduceLT, Int.reduceLE, Int.reduceEq, or_false, false_or, true_or, or_true, false_and, and_false, k5, k4]
  refine ⟨fun c => V (by omega), fun c => ⟨fun d => V (by omega), fun d => ⟨fun e => ?_, fun e => V (by omega)⟩⟩⟩
  have eR : stR T p = ([], p, false) := if_pos (by omega)
  unfold vc_X9_takesStatement_39
  try simp (disch := omega) only [iI_lit, iL_lit, iI_add, iI_sub, iI_mul, iI_neg, iI_lt, iI_le, iI_eq, iI_tn, iI_div, iI_l, iL_add, iL_sub, iL_mul, iL_neg, iL_le, iL_lt, iL_eq, iL_ite, vp_T, b2_ne0, b2_eq1, nn_imp, true_and, iI_ite, not_true_eq_false, not_false_eq_true, true_implies, false_implies, and_true, Int.reduceLT, Int.reduceLE, Int.reduceEq, or_false, false_or, true_or, or_true, false_and, and_false]
  rw [eR] at hN
  exact hN (fun z => absurd (show false = true from z) (by decide)) σ Fr_rf ⟨k5, k4, k3, k6⟩
end C31g
