def FRM : Nat → Nat → Prop := fun k j => FTS k j ∨ k = 52 ∨ (k = 49 ∧ j = 20)
def FRN : Nat → Nat → Prop := fun k j => FRM k j ∨ (k = 49 ∧ j = 4)
theorem allS_a {L : List Stm} {s : Stm} (hL : allS L) (h : vS s) : allS (L ++ [s]) := by
  intro i hi
  rw [List.length_append] at hi
  have hi : i < L.length + 1 := hi
  by_cases q : i = L.length
  · subst q; rw [show (L ++ [s])[L.length]?.getD (0, 0, []) = s by simp]; exact h
  · rw [show (L ++ [s])[i]?.getD (0, 0, []) = L[i]?.getD (0, 0, []) by rw [List.getElem?_append_left (by omega)]]
    exact hL i (by omega)
theorem ne21 {T : List Int} {q : Int} (h : tC T q = 21) : ¬ hr T (tS T q) = -1 := fun e => by
  have k0 : tK T q = 0 := by unfold tK; rw [e]; rfl
  have := (tC_k (T := T) (p := q)).2.2.mpr k0
  omega
section C31h
variable {S : Sp} {σ : St} {Φ : Rs} {T : List Int} {P : Pl}
theorem TRm_r {σ' : St} (h : TRm T σ) (hf : Fr FTS σ σ') : TRm T σ' := TRm_s h hf
theorem c_X9_read (hS : Sys S) (hT : TRm T σ) (hWT : WT T) (hL : WLM σ) (hM : MP 50 P σ) (hW : WF P)
    (k1 : ¬ okRd T P → ∀ σ', Fr FRM σ σ' → MP 50 P σ' → TRm [] σ' → Φ [aI (iI (aRead T P))] σ')
    (k2 : okRd T P → ∀ σ', Fr FRN σ σ' → MP 50 (pu (exS (prsT T 13 0).1 P).1 285 0) σ' → TRm [] σ' → σ'.1 49 4 = σ.1 49 4 + iI 1 → Φ [aI (iI (aRead T P))] σ') : S 218 [aR 49] σ Φ := by
  refine m_X9_read hS (fun v hv hw => ?_)
  have l := hWT.1
  have pv := prsT_v hWT 13 0 (Int.le_refl 0) (by omega)
  unfold okRd at k1 k2
  unfold aRead at k1 k2
  have rx := runX_x (prsT T 13 0).1 P (P 285) hW pv.1
  rw [pu_id] at rx
  generalize hR : prsT T 13 0 = R at pv k1 k2 rx
  have TE : ∀ {σ'}, σ'.1 49 20 = iI 0 → TRm [] σ' := fun e => ⟨e, fun i hi => absurd hi (Nat.not_lt_zero i)⟩
  unfold vc_X9_read_0
  refine c_X9_copies hS arr50 arr52 (by omega) hM (fun σ1 f1 m1 => ⟨rfl, fun σ2 e2 σ3 e3 => ?_⟩)
  have F1 : Fr FRM σ σ1 := Fr_mo f1 (fun k j q => Or.inr (Or.inl q))
  have g3 : Fr FTS σ1 σ3 := by rw [e3, e2]; exact Fr_up (Fr_up Fr_rf (by unfold FTS FNA FNX; omega)) (by unfold FTS FNA FNX; omega)
  have T1 : TRm T σ1 := TX_f hT f1 (fun i => by omega) (by omega)
  have L1 : WLM σ1 := WLM_f hL f1 (fun j => by omega)
  have M1 : MP 50 P σ1 := MP_f hM f1 (fun j => by omega)
  have C1 : MP 52 P σ1 := m1
  -- a fault: all is put back
  have B : ∀ (m x : Int) (σ4 : St), Fr FRM σ σ4 → MP 52 P σ4 → σ4.1 49 20 = iI 0 → (0 ≤ x ∧ x ≤ 1) → (∀ b, σ4.1 49 25 = iI b → (0 ≤ b ∧ b ≤ 23) → (x = 0 ∨ ¬ b = 22) → ∃ f, σ4.1 49 24 = iI f ∧ (0 ≤ f ∧ f ≤ 80) ∧ R.2 = f) → (∃ b, σ4.1 49 25 = iI b ∧ 0 ≤ b ∧ b ≤ 23) → (x = 1 → σ4.1 49 25 = iI 22 → R.2 = -1 ∧ ¬ (exS R.1 P).2 = -1 ∧ σ4.1 49 27 = iI (exS R.1 P).2 ∧ (exS R.1 P).2 ≤ 80 ∧ -1 ≤ (exS R.1 P).2) → vc_X9_read_108 S Φ v (iI m) (iI x) σ4 := by
    intro m x σ4 f4 m4 z4 hx hs ⟨b, hb, b0, b1⟩ hd
    unfold vc_X9_read_108
    refine c_X9_copies hS arr52 arr50 (by omega) m4 (fun σ5 f5 m5 => ⟨rfl, ?_⟩)
    have F5 : Fr FRM σ σ5 := Fr_tr f4 (Fr_mo f5 (fun k j q => Or.inl (Or.inr (Or.inl q))))
    have z5 : σ5.1 49 20 = iI 0 := by rw [f5.1 _ _ (by omega)]; exact z4
    have b5 : σ5.1 49 25 = iI b := by rw [f5.1 _ _ (by omega)]; exact hb
    have SY : (x = 0 ∨ ¬ b = 22) → ∃ f, σ5.1 49 24 = iI f ∧ (0 ≤ f ∧ f ≤ 80) ∧ Φ [aI (iI (-100 - f))] σ5 := by
      intro hc
      obtain ⟨f, e4, fb, fr⟩ := hs b hb ⟨b0, b1⟩ hc
      refine ⟨f, by rw [f5.1 _ _ (by omega)]; exact e4, fb, ?_⟩
      have k1 := k1 (fun z => by omega) σ5 F5 m5 (TE z5)
      rw [if_pos (by omega), fr] at k1
      exact k1
    try simp (disch := omega) only [iI_lit, iL_lit, iI_add, iI_sub, iI_mul, iI_neg, iI_lt, iI_le, iI_eq, iI_tn, iI_div, iI_l, iL_add, iL_sub, iL_mul, iL_neg, iL_le, iL_lt, iL_eq, iL_ite, vp_T, b2_ne0, b2_eq1, nn_imp, true_and, iI_ite, not_true_eq_false, not_false_eq_true, true_implies, false_implies, and_true, Int.reduceLT, Int.reduceLE, Int.reduceEq, or_false, false_or, true_or, or_true, false_and, and_false, b5]
    refine ⟨fun c => ?_, fun c => ⟨fun d => ?_, fun d => ?_⟩⟩
    · obtain ⟨f, e4, fb, kf⟩ := SY (Or.inl c)
      try simp (disch := omega) only [iI_lit, iL_lit, iI_add, iI_sub, iI_mul, iI_neg, iI_lt, iI_le, iI_eq, iI_tn, iI_div, iI_l, iL_add, iL_sub, iL_mul, iL_neg, iL_le, iL_lt, iL_eq, iL_ite, vp_T, b2_ne0, b2_eq1, nn_imp, true_and, iI_ite, not_true_eq_false, not_false_eq_true, true_implies, false_implies, and_true, Int.reduceLT, Int.reduceLE, Int.reduceEq, or_false, false_or, true_or, or_true, false_and, and_false, e4]
      exact kf
    · obtain ⟨f, e4, fb, kf⟩ := SY (Or.inr d)
      try simp (disch := omega) only [iI_lit, iL_lit, iI_add, iI_sub, iI_mul, iI_neg, iI_lt, iI_le, iI_eq, iI_tn, iI_div, iI_l, iL_add, iL_sub, iL_mul, iL_neg, iL_le, iL_lt, iL_eq, iL_ite, vp_T, b2_ne0, b2_eq1, nn_imp, true_and, iI_ite, not_true_eq_false, not_false_eq_true, true_implies, false_implies, and_true, Int.reduceLT, Int.reduceLE, Int.reduceEq, or_false, false_or, true_or, or_true, false_and, and_false, e4]
      exact kf
    · obtain ⟨r1, r2, r3, r4, r5⟩ := hd (by omega) (by rw [hb, d])
      have k1 := k1 (fun z => r2 z.2) σ5 F5 m5 (TE z5)
      rw [if_neg (fun z => z r1), if_pos r2] at k1
      have r6 : σ5.1 49 27 = iI (exS R.1 P).2 := by rw [f5.1 _ _ (by omega)]; exact r3
      try simp (disch := omega) only [iI_lit, iL_lit, iI_add, iI_sub, iI_mul, iI_neg, iI_lt, iI_le, iI_eq, iI_tn, iI_div, iI_l, iL_add, iL_sub, iL_mul, iL_neg, iL_le, iL_lt, iL_eq, iL_ite, vp_T, b2_ne0, b2_eq1, nn_imp, true_and, iI_ite, not_true_eq_false, not_false_eq_true, true_implies, false_implies, and_true, Int.reduceLT, Int.reduceLE, Int.reduceEq, or_false, false_or, true_or, or_true, false_and, and_false, r6]
      exact k1
  -- after the last statement
  have E : ∀ (acc : List Stm) (x q : Int) (a : Pl × Int) (σ4 : St), Fr FTS σ1 σ4 → KM T q σ4 → (0 ≤ q ∧ q ≤ (T.length : Nat)) → (0 ≤ x ∧ x ≤ 1) → acc.length ≤ 13 → σ4.1 49 27 = iI a.2 → (-1 ≤ a.2 ∧ a.2 ≤ 80) → MP 50 a.1 σ4 → (x = 1 → a = runX acc (P, -1)) → ((x = 0 ∨ ¬ tC T q = 22) → R.2 = tS T q) → (x = 1 → tC T q = 22 → R = (acc, -1)) → ∀ m : Int, (x = 1 → m + 1 = (acc.length : Nat)) → (0 ≤ m ∧ m ≤ 20) → vc_X9_read_60 S Φ v (iI m) (iI x) σ4 := by
    intro acc x q a σ4 f4 hk hq hx hacc h27 h27b hm hax hsy hen m hm1 hmb
    have cr := tC_r (T := T) (p := q)
    have sr := tS_r hq.1 hq.2
    have er := exS_r R.1 P hW pv.1
    unfold vc_X9_read_60
    intro σ5 e5
    have g5 : Fr (fun k j => k = 49 ∧ j = 20) σ4 σ5 := by rw [e5]; exact Fr_up Fr_rf ⟨rfl, rfl⟩
    have F5 : Fr FRM σ σ5 := Fr_tr (Fr_tr F1 (Fr_mo f4 (fun k j q => Or.inl q))) (Fr_mo g5 (fun k j q => Or.inr (Or.inr q)))
    have z5 : σ5.1 49 20 = iI 0 := by rw [e5, iI_lit]; exact up_h rfl
    have K5 := KM_f hk g5 (by omega)
    have c5 := K5.1
    have r5 : σ5.1 49 27 = iI a.2 := by rw [g5.1 _ _ (by omega)]; exact h27
    have C5 : MP 52 P σ5 := MP_f (MP_f C1 f4 (fun j => by unfold FTS FNA FNX; omega)) g5 (fun j => by omega)
    have BB : (¬ (x = 1 ∧ tC T q = 22) ∨ 0 ≤ a.2) → vc_X9_read_108 S Φ v (iI m) (iI x) σ5 := by
      intro hc
      refine B m x σ5 F5 C5 z5 hx (fun b hb hbr hc2 => ?_) ⟨tC T q, c5, by omega, by omega⟩ (fun x1 h22 => ?_)
      · have : b = tC T q := by
          have e := hb.symm.trans c5
          exact (iI_eq (by omega)).mp e
        exact ⟨tS T q, K5.2.1, by omega, hsy (by omega)⟩
      · have c22 : tC T q = 22 := by
          have e := c5.symm.trans h22
          exact (iI_eq (by omega)).mp e
        have hR2 := hen x1 c22
        have ha := hax x1
        have rx1 := rx.1
        rw [hR2] at rx1 er ⊢
        rw [← ha] at rx1
        refine ⟨rfl, by omega, ?_, by omega, by omega⟩
        rw [r5, rx1]
    try simp (disch := omega) only [iI_lit, iL_lit, iI_add, iI_sub, iI_mul, iI_neg, iI_lt, iI_le, iI_eq, iI_tn, iI_div, iI_l, iL_add, iL_sub, iL_mul, iL_neg, iL_le, iL_lt, iL_eq, iL_ite, vp_T, b2_ne0, b2_eq1, nn_imp, true_and, iI_ite, not_true_eq_false, not_false_eq_true, true_implies, false_implies, and_true, Int.reduceLT, Int.reduceLE, Int.reduceEq, or_false, false_or, true_or, or_true, false_and, and_false, c5, r5]
    refine ⟨fun c => BB (by omega), fun c => ⟨fun d => BB (by omega), fun d => ⟨fun e => BB (by omega), fun e σ6 e6 σ7 e7 => ?_⟩⟩⟩
    have x1 : x = 1 := by omega
    have hR2 := hen x1 d
    have ha := hax x1
    rw [hR2] at rx
    have rx1 : (runX acc (P, -1)).2 = (exS acc P).2 := rx.1
    have rx2 : (exS acc P).2 = -1 → pu (runX acc (P, -1)).1 285 0 = pu (exS acc P).1 285 0 := rx.2
    rw [← ha] at rx1 rx2
    have m5 : MP 50 a.1 σ5 := MP_f hm g5 (fun j => by omega)
    have m7 := MP_up e7 (MP_o e6 m5 (by omega)) (by omega)
    rw [rx2 (by omega)] at m7
    have k2 := k2 ⟨by rw [hR2], by rw [hR2]; show (exS acc P).2 = -1; omega⟩ σ7 (Fr_tr (Fr_mo F5 (fun k j q => Or.inl q)) (by rw [e7, e6]; exact Fr_up (Fr_up Fr_rf (Or.inr ⟨rfl, rfl⟩)) (Or.inl (Or.inl (Or.inr (Or.inl rfl)))))) (by rw [hR2]; exact m7) (TE (by rw [e7, up_n (by omega), e6, up_m (by omega)]; exact z5)) (by
      rw [e7, up_n (by omega), e6, up_h rfl, e5, up_m (by omega), f4.1 _ _ (by unfold FTS FNA FNX; omega), f1.1 _ _ (by omega)])
    rw [hR2, if_neg (fun z => z rfl), if_neg (fun z => z (by show (exS acc P).2 = -1; omega))] at k2
    have k2 : Φ [aI (iI (acc.length : Nat))] σ7 := k2
    rw [← hm1 x1] at k2
    exact k2
  -- the statements
  have L : ∀ (d : Nat) (acc : List Stm) (p : Int) (σ4 : St), acc.length + d = 13 → 6 * (acc.length : Nat) ≤ p → p ≤ (T.length : Nat) → Fr FTS σ1 σ4 → KM T p σ4 → allS acc → WF (runX acc (P, -1)).1 → (-1 ≤ (runX acc (P, -1)).2 ∧ (runX acc (P, -1)).2 ≤ 80) → MP 50 (runX acc (P, -1)).1 σ4 → σ4.1 49 27 = iI (runX acc (P, -1)).2 → R = (acc ++ (prsT T d p).1, (prsT T d p).2) → S 217 [aR 49] σ4 (fun r σ5 => ∃ x3 : Int32, r = [aI x3] ∧ v 32 [some (aR 49), some (aI (iI (acc.length : Nat))), some (aI x3)] [] σ5) := by
    intro d
    induction d with
    | zero =>
      intro acc p σ4 hd p0 p1 hf hk hal hwf hrb hm h27 hr
      have hs := stR_e hWT (p := p) (by omega) p1
      refine c_X9_takesStatement hS (TRm_s T1 hf) hWT (WLM_s L1 hf) (by omega) p1 hk hm hwf hrb h27 (fun hy => by rw [hs] at hy; exact absurd (show false = true from hy) (by decide)) (fun hn σ5 f5 m5 => ⟨_, rfl, ?_⟩)
      rw [hs] at m5
      have hk5 : KM T p σ5 := m5
      refine w_X9_read_32 hS hv hw _ _ σ5 ?_
      unfold vc_X9_read_32
      try simp (disch := omega) only [iI_lit, iL_lit, iI_add, iI_sub, iI_mul, iI_neg, iI_lt, iI_le, iI_eq, iI_tn, iI_div, iI_l, iL_add, iL_sub, iL_mul, iL_neg, iL_le, iL_lt, iL_eq, iL_ite, vp_T, b2_ne0, b2_eq1, nn_imp, true_and, iI_ite, not_true_eq_false, not_false_eq_true, true_implies, false_implies, and_true, Int.reduceLT, Int.reduceLE, Int.reduceEq, or_false, false_or, true_or, or_true, false_and, and_false]
      exact E acc 0 p (runX acc (P, -1)) σ5 (Fr_tr hf (Fr_mo f5 (fun k j q => Or.inl q))) hk5 ⟨by omega, p1⟩ ⟨by omega, by omega⟩ (by omega) (by rw [f5.1 _ _ (by unfold FNA FNX; omega)]; exact h27) hrb (MP_f hm f5 (fun j => by unfold FNA FNX; omega)) (fun e => by omega) (fun _ => by rw [hr]; rfl) (fun e => by omega) _ (fun e => by omega) (by omega)
    | succ d ih =>
      intro acc p σ4 hd p0 p1 hf hk hal hwf hrb hm h27 hr
      have ss := stR_r hWT (show 0 ≤ p by omega) p1
      refine c_X9_takesStatement hS (TRm_s T1 hf) hWT (WLM_s L1 hf) (by omega) p1 hk hm hwf hrb h27 (fun hy σ5 f5 k5 m5 r5 => ⟨_, rfl, ?_⟩) (fun hn σ5 f5 m5 => ⟨_, rfl, ?_⟩)
      · have s5 := stR_5 hWT (show 0 ≤ p by omega) p1 hy
        have v1 := stm1_v hWT (show 0 ≤ p by omega) p1 hy
        have cr := tC_r (T := T) (p := (stR T p).2.1)
        have ck := tC_k (T := T) (p := (stR T p).2.1)
        have er := tE_r hWT (show 0 ≤ (stR T p).2.1 by omega) ss.2.1
        have sr := tS_r (show 0 ≤ (stR T p).2.1 by omega) ss.2.1
        have F5 := Fr_tr hf f5
        have le : (((acc ++ [stm1 T p]).length : Nat) : Int) = (acc.length : Nat) + 1 := by rw [List.length_append]; rfl
        have ea : stepX (stm1 T p) (runX acc (P, -1)) = runX (acc ++ [stm1 T p]) (P, -1) := (runX_app acc (stm1 T p) (P, -1)).symm
        have m5 : MP 50 (stepX (stm1 T p) (runX acc (P, -1))).1 σ5 := m5
        have r5 : σ5.1 49 27 = iI (stepX (stm1 T p) (runX acc (P, -1))).2 := r5
        have sw := stepX_W (a := runX acc (P, -1)) hwf v1 hrb
        rw [ea] at m5 r5 sw
        have hr' : R = (acc ++ (if tC T (stR T p).2.1 = 22 then ([stm1 T p], -1) else if tC T (stR T p).2.1 = 21 then (stm1 T p :: (prsT T d (tE T (stR T p).2.1)).1, (prsT T d (tE T (stR T p).2.1)).2) else ([stm1 T p], tS T (stR T p).2.1)).1, (if tC T (stR T p).2.1 = 22 then ([stm1 T p], -1) else if tC T (stR T p).2.1 = 21 then (stm1 T p :: (prsT T d (tE T (stR T p).2.1)).1, (prsT T d (tE T (stR T p).2.1)).2) else ([stm1 T p], tS T (stR T p).2.1)).2) := by
          unfold prsT at hr
          rw [if_pos hy] at hr
          exact hr
        refine w_X9_read_32 hS hv hw _ _ σ5 ?_
        unfold vc_X9_read_32
        have c5 := k5.1
        try simp (disch := omega) only [iI_lit, iL_lit, iI_add, iI_sub, iI_mul, iI_neg, iI_lt, iI_le, iI_eq, iI_tn, iI_div, iI_l, iL_add, iL_sub, iL_mul, iL_neg, iL_le, iL_lt, iL_eq, iL_ite, vp_T, b2_ne0, b2_eq1, nn_imp, true_and, iI_ite, not_true_eq_false, not_false_eq_true, true_implies, false_implies, and_true, Int.reduceLT, Int.reduceLE, Int.reduceEq, or_false, false_or, true_or, or_true, false_and, and_false, c5]
        refine ⟨fun c => ?_, fun c => ?_⟩
        · refine E (acc ++ [stm1 T p]) 1 (stR T p).2.1 (runX (acc ++ [stm1 T p]) (P, -1)) σ5 F5 k5 ⟨by omega, ss.2.1⟩ ⟨by omega, by omega⟩ (by omega) r5 sw.2 m5 (fun _ => rfl) (fun e => ?_) (fun _ e => ?_) _ (fun _ => le.symm) (by omega)
          · rw [if_neg (by omega), if_neg c] at hr'
            rw [hr']
          · rw [if_pos e] at hr'
            exact hr'
        · refine c_X9_next hS (TRm_s T1 F5) hWT (WLM_s L1 F5) (p := tE T (stR T p).2.1) (by omega) er.2.1 (k5.2.2.1 (by omega)) (fun σ6 f6 k6 => ⟨rfl, ?_⟩)
          have e1 := er.2.2 (ne21 c)
          rw [if_neg (by omega), if_pos c] at hr'
          have i := ih (acc ++ [stm1 T p]) (tE T (stR T p).2.1) σ6 (by rw [List.length_append]; show acc.length + 1 + d = 13; omega) (by omega) er.2.1 (Fr_tr F5 (Fr_mo f6 (fun k j q => Or.inl (Or.inl q)))) k6 (allS_a hal v1) sw.1 sw.2 (MP_f m5 f6 (fun j => by unfold FNX; omega)) (by rw [f6.1 _ _ (by unfold FNX; omega)]; exact r5) (by rw [hr', List.append_assoc]; rfl)
          rw [le] at i
          exact i
      · have hr' : R = (acc ++ [], tS T (stR T p).2.1) := by
          unfold prsT at hr
          rw [if_neg hn] at hr
          exact hr
        refine w_X9_read_32 hS hv hw _ _ σ5 ?_
        unfold vc_X9_read_32
        try simp (disch := omega) only [iI_lit, iL_lit, iI_add, iI_sub, iI_mul, iI_neg, iI_lt, iI_le, iI_eq, iI_tn, iI_div, iI_l, iL_add, iL_sub, iL_mul, iL_neg, iL_le, iL_lt, iL_eq, iL_ite, vp_T, b2_ne0, b2_eq1, nn_imp, true_and, iI_ite, not_true_eq_false, not_false_eq_true, true_implies, false_implies, and_true, Int.reduceLT, Int.reduceLE, Int.reduceEq, or_false, false_or, true_or, or_true, false_and, and_false]
        exact E acc 0 (stR T p).2.1 (runX acc (P, -1)) σ5 (Fr_tr hf (Fr_mo f5 (fun k j q => Or.inl q))) m5 ⟨by omega, ss.2.1⟩ ⟨by omega, by omega⟩ (by omega) (by rw [f5.1 _ _ (by unfold FNA FNX; omega)]; exact h27) hrb (MP_f hm f5 (fun j => by unfold FNA FNX; omega)) (fun e => by omega) (fun _ => by rw [hr']) (fun e => by omega) _ (fun e => by omega) (by omega)
  have T3 := TRm_s T1 g3
  have L3 := WLM_s L1 g3
  refine c_X9_next hS T3 hWT L3 (p := 0) (Int.le_refl 0) (by omega) (by rw [e3, up_m (by omega), e2, iI_lit]; exact up_h rfl) (fun σ4 f4 k4 => ⟨rfl, ?_⟩)
  have G4 : Fr FTS σ1 σ4 := Fr_tr g3 (Fr_mo f4 (fun k j q => Or.inl (Or.inl q)))
  have M3 : MP 50 P σ3 := MP_o e3 (MP_o e2 M1 (by omega)) (by omega)
  exact L 13 [] 0 σ4 rfl (Int.le_refl 0) (by omega) G4 k4 (fun i hi => absurd hi (Nat.not_lt_zero i)) hW ⟨Int.le_refl _, by show (-1 : Int) ≤ 80; omega⟩ (MP_f M3 f4 (fun j => by unfold FNX; omega)) (by rw [f4.1 _ _ (by unfold FNX; omega), e3, up_h rfl, iI_lit, iI_neg]; rfl) (by rw [← hR, List.nil_append])
end C31h
