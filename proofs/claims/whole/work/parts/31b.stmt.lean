def SS (L : List Stm) (σ : St) : Prop := ∀ i : Nat, i < L.length → σ.1 38 i = iI (L[i]?.getD (0, 0, [])).1 ∧ σ.1 39 i = iI (L[i]?.getD (0, 0, [])).2.1 ∧ ∀ j : Nat, j < 6 → j < (L[i]?.getD (0, 0, [])).2.2.length → σ.1 40 (6 * i + j) = iI ((L[i]?.getD (0, 0, [])).2.2[j]?.getD 0)
def FPA : Nat → Nat → Prop := fun k j => (k = 36 ∧ (j = 2 ∨ j = 6 ∨ j = 7 ∨ j = 8)) ∨ k = 38 ∨ k = 39 ∨ k = 40
section C31b
variable {S : Sp} {σ : St} {Φ : Rs} {T : List Int} {p : Int}
theorem SS_k {L : List Stm} {c : Nat → Nat → Prop} {σ' : St} (h : SS L σ) (hf : Fr c σ σ') (h1 : ∀ i, i < L.length → ¬ c 38 i ∧ ¬ c 39 i ∧ ∀ j, j < 6 → ¬ c 40 (6 * i + j)) : SS L σ' := by
  intro i hi
  have r := h i hi
  have q := h1 i hi
  exact ⟨by rw [hf.1 _ _ q.1]; exact r.1, by rw [hf.1 _ _ q.2.1]; exact r.2.1, fun j j6 j1 => by rw [hf.1 _ _ (q.2.2 j j6)]; exact r.2.2 j j6 j1⟩
theorem SS_a {L : List Stm} {s : Stm} (h : SS L σ) (h1 : σ.1 38 L.length = iI s.1) (h2 : σ.1 39 L.length = iI s.2.1) (h3 : ∀ j : Nat, j < s.2.2.length → σ.1 40 (6 * L.length + j) = iI (s.2.2[j]?.getD 0)) : SS (L ++ [s]) σ := by
  intro i hi
  rw [List.length_append] at hi
  have hi : i < L.length + 1 := hi
  by_cases q : i = L.length
  · subst q
    rw [show (L ++ [s])[L.length]?.getD (0, 0, []) = s by simp]
    exact ⟨h1, h2, fun j _ j1 => h3 j j1⟩
  · rw [show (L ++ [s])[i]?.getD (0, 0, []) = L[i]?.getD (0, 0, []) by rw [List.getElem?_append_left (by omega)]]
    exact h i (by omega)
theorem TRc_P {σ' : St} (h : TRc T σ) (hf : Fr FPA σ σ') : TRc T σ' := TX_f h hf (fun i => by unfold FPA; omega) (by unfold FPA; omega)
theorem c_X4_parse (hS : Sys S) (hT0 : SysT S) (hT : TRc T σ) (hW : WT T) (hk : ∀ σ', Fr FPA σ σ' → ((prsT T 13 0).2 = -1 → SS (prsT T 13 0).1 σ' ∧ σ'.1 36 2 = iI ((prsT T 13 0).1.length : Nat)) → Φ [aI (iI (prsT T 13 0).2)] σ') : S 54 [aR 36] σ Φ := by
  refine m_X4_parse hS (fun v hv hw => ?_)
  have l := hW.1
  unfold vc_X4_parse_0
  intro σ1 e1 σ2 e2
  generalize hR : prsT T 13 0 = R at hk
  have A : ∀ (d : Nat) (acc : List Stm) (p : Int) (σ3 : St), acc.length + d = 13 → 0 ≤ p → p ≤ (T.length : Nat) → Fr FPA σ σ3 → σ3.1 36 2 = iI (acc.length : Nat) → σ3.1 36 8 = iI p → SS acc σ3 → R = (acc ++ (prsT T d p).1, (prsT T d p).2) → v 10 [some (aR 36)] [] σ3 := by
    intro d
    induction d with
    | zero =>
      intro acc p σ3 hd p0 p1 hf a2 a8 hs hr
      refine w_X4_parse_10 hS hv hw σ3 ?_
      unfold vc_X4_parse_10
      try simp (disch := omega) only [iI_lit, iL_lit, iI_add, iI_sub, iI_mul, iI_neg, iI_lt, iI_le, iI_eq, iI_tn, iI_div, iI_l, iL_add, iL_sub, iL_mul, iL_neg, iL_le, iL_lt, iL_eq, iL_ite, vp_T, b2_ne0, b2_eq1, nn_imp, true_and, iI_ite, not_true_eq_false, not_false_eq_true, true_implies, false_implies, and_true, Int.reduceLT, Int.reduceLE, Int.reduceEq, or_false, false_or, true_or, or_true, false_and, and_false, a2]
      refine ⟨fun _ => ?_, fun c => by omega⟩
      refine c_X4_nextToken hS (TRc_P hT hf) hW p0 p1 a8 (fun σ4 f4 k4 => ⟨rfl, ?_⟩)
      rw [k4.2.1]
      have sr := tS_r p0 p1
      have hr2 : (R).2 = tS T p := by rw [hr]; rfl
      have hk := hk σ4 (Fr_tr hf (Fr_mo f4 (fun k j q => by unfold FTK at q; unfold FPA; omega))) (fun e => by omega)
      rw [hr2] at hk; exact hk
    | succ d ih =>
      intro acc p σ3 hd p0 p1 hf a2 a8 hs hr
      refine w_X4_parse_10 hS hv hw σ3 ?_
      unfold vc_X4_parse_10
      have ss := stR_r hW p0 p1
      have sr := tS_r (show 0 ≤ (stR T p).2.1 by omega) ss.2.1
      try simp (disch := omega) only [iI_lit, iL_lit, iI_add, iI_sub, iI_mul, iI_neg, iI_lt, iI_le, iI_eq, iI_tn, iI_div, iI_l, iL_add, iL_sub, iL_mul, iL_neg, iL_le, iL_lt, iL_eq, iL_ite, vp_T, b2_ne0, b2_eq1, nn_imp, true_and, iI_ite, not_true_eq_false, not_false_eq_true, true_implies, false_implies, and_true, Int.reduceLT, Int.reduceLE, Int.reduceEq, or_false, false_or, true_or, or_true, false_and, and_false, a2]
      refine ⟨fun c => by omega, fun _ => ?_⟩
      refine c_X4_parseStatement hS hT0 (TRc_P hT hf) hW p0 p1 a8 (n := acc.length) (by omega) a2 (fun hy σ4 f4 b38 b39 b40 b8 => ⟨_, rfl, ?_⟩) (fun hn σ4 f4 b7 => ⟨_, rfl, ?_⟩)
      · have F4 : Fr FPA σ σ4 := Fr_tr hf (Fr_mo f4 (fun k j q => by unfold FPS at q; unfold FPA; omega))
        have c2 : σ4.1 36 2 = iI (acc.length : Nat) := by rw [f4.1 _ _ (by unfold FPS; omega)]; exact a2
        have S4 : SS (acc ++ [stm1 T p]) σ4 := SS_a (SS_k hs f4 (fun i hi => ⟨by unfold FPS; omega, by unfold FPS; omega, fun j hj => by unfold FPS; omega⟩)) b38 b39 b40
        try simp (disch := omega) only [iI_lit, iL_lit, iI_add, iI_sub, iI_mul, iI_neg, iI_lt, iI_le, iI_eq, iI_tn, iI_div, iI_l, iL_add, iL_sub, iL_mul, iL_neg, iL_le, iL_lt, iL_eq, iL_ite, vp_T, b2_ne0, b2_eq1, nn_imp, true_and, iI_ite, not_true_eq_false, not_false_eq_true, true_implies, false_implies, and_true, Int.reduceLT, Int.reduceLE, Int.reduceEq, or_false, false_or, true_or, or_true, false_and, and_false, c2]
        intro σ5 e5
        have f5 : Fr (fun k j => k = 36 ∧ j = 2) σ4 σ5 := by rw [e5]; exact Fr_up Fr_rf ⟨rfl, rfl⟩
        have F5 : Fr FPA σ σ5 := Fr_tr F4 (Fr_mo f5 (fun k j q => by unfold FPA; omega))
        have d8 : σ5.1 36 8 = iI (stR T p).2.1 := by rw [e5, up_m (by omega)]; exact b8
        have S5 := SS_k S4 f5 (fun i hi => ⟨by omega, by omega, fun j hj => by omega⟩)
        refine c_X4_nextToken hS (TRc_P hT F5) hW (by omega) ss.2.1 d8 (fun σ6 f6 k6 => ⟨rfl, ?_⟩)
        have F6 : Fr FPA σ σ6 := Fr_tr F5 (Fr_mo f6 (fun k j q => by unfold FTK at q; unfold FPA; omega))
        have S6 := SS_k S5 f6 (fun i hi => ⟨by unfold FTK; omega, by unfold FTK; omega, fun j hj => by unfold FTK; omega⟩)
        have d2 : σ6.1 36 2 = iI ((acc ++ [stm1 T p]).length : Nat) := by rw [f6.1 _ _ (by unfold FTK; omega), e5, up_h rfl, List.length_append]; rfl
        have kr := tK_r (T := T) (p := (stR T p).2.1)
        have ck := tC_k (T := T) (p := (stR T p).2.1)
        have er := tE_r hW (show 0 ≤ (stR T p).2.1 by omega) ss.2.1
        obtain ⟨g6, g7, g8⟩ := k6
        unfold prsT at hr
        rw [if_pos hy] at hr
        try simp (disch := omega) only [iI_lit, iL_lit, iI_add, iI_sub, iI_mul, iI_neg, iI_lt, iI_le, iI_eq, iI_tn, iI_div, iI_l, iL_add, iL_sub, iL_mul, iL_neg, iL_le, iL_lt, iL_eq, iL_ite, vp_T, b2_ne0, b2_eq1, nn_imp, true_and, iI_ite, not_true_eq_false, not_false_eq_true, true_implies, false_implies, and_true, Int.reduceLT, Int.reduceLE, Int.reduceEq, or_false, false_or, true_or, or_true, false_and, and_false, g6]
        refine ⟨fun x => ⟨fun y => ?_, fun y => ?_⟩, fun x => ?_⟩
        · rw [if_neg (by omega), if_pos (ck.2.1.mpr y)] at hr
          refine ih (acc ++ [stm1 T p]) (tE T (stR T p).2.1) σ6 (by rw [List.length_append]; show acc.length + 1 + d = 13; omega) (by omega) er.2.1 F6 d2 g8 S6 (by rw [hr, List.append_assoc]; rfl)
        · rw [if_neg (by omega), if_neg (by omega)] at hr
          have hr2 : (R).2 = tS T (stR T p).2.1 := by rw [hr]
          have hk := hk σ6 F6 (fun e => by omega)
          rw [hr2] at hk
          rw [g7]; exact hk
        · rw [if_pos (ck.2.2.mpr x)] at hr
          have hr1 : (R).1 = acc ++ [stm1 T p] := by rw [hr]
          have hr2 : (R).2 = -1 := by rw [hr]
          have hk := hk σ6 F6 (fun e => by rw [hr1]; exact ⟨S6, d2⟩)
          rw [hr2] at hk; exact hk
      · have F4 : Fr FPA σ σ4 := Fr_tr hf (Fr_mo f4 (fun k j q => by unfold FPS at q; unfold FPA; omega))
        unfold prsT at hr
        rw [if_neg hn] at hr
        have hr2 : (R).2 = tS T (stR T p).2.1 := by rw [hr]
        have hk := hk σ4 F4 (fun e => by omega)
        rw [hr2] at hk
        try simp (disch := omega) only [iI_lit, iL_lit, iI_add, iI_sub, iI_mul, iI_neg, iI_lt, iI_le, iI_eq, iI_tn, iI_div, iI_l, iL_add, iL_sub, iL_mul, iL_neg, iL_le, iL_lt, iL_eq, iL_ite, vp_T, b2_ne0, b2_eq1, nn_imp, true_and, iI_ite, not_true_eq_false, not_false_eq_true, true_implies, false_implies, and_true, Int.reduceLT, Int.reduceLE, Int.reduceEq, or_false, false_or, true_or, or_true, false_and, and_false]
        rw [b7]; exact hk
  have F2 : Fr FPA σ σ2 := by rw [e2, e1]; exact Fr_up (Fr_up Fr_rf (by unfold FPA; omega)) (by unfold FPA; omega)
  exact A 13 [] 0 σ2 rfl (Int.le_refl 0) (by omega) F2 (by rw [e2, up_m (by omega), e1]; exact up_h rfl) (by rw [e2]; exact up_h rfl) (fun i hi => absurd hi (Nat.not_lt_zero i)) (by rw [← hR, List.nil_append])
end C31b
