def allS (L : List Stm) : Prop := ∀ i : Nat, i < L.length → vS (L[i]?.getD (0, 0, []))
theorem ag_v {T : List Int} (hW : WT T) : ∀ (cs : List Int) (p : Int), 0 ≤ p → p ≤ (T.length : Nat) → ∀ j : Nat, j < (ag T cs p).1.length → -2 ≤ (ag T cs p).1[j]?.getD 0 ∧ (ag T cs p).1[j]?.getD 0 ≤ 9999
  | [], p, h0, h1, j, hj => absurd hj (Nat.not_lt_zero j)
  | c :: cs, p, h0, h1, j, hj => by
    have sr := tS_r h0 h1
    have er := tE_r hW h0 h1
    have i := ag_v hW cs (tE T p) (by omega) er.2.1
    have vb := vlu_r hW (c := c) h0 h1
    unfold ag at hj ⊢
    by_cases e : vlu T c p = -2
    · rw [if_pos e] at hj; exact absurd hj (Nat.not_lt_zero j)
    · rw [if_neg e] at hj ⊢
      cases j with
      | zero => exact vb
      | succ j => exact i j (Nat.lt_of_succ_lt_succ hj)
theorem stm1_v {T : List Int} (hW : WT T) {p : Int} (h0 : 0 ≤ p) (h1 : p ≤ (T.length : Nat)) (h : (stR T p).2.2 = true) : vS (stm1 T p) := by
  have l := hW.1
  have sr := tS_r h0 h1
  have er := tE_r hW h0 h1
  have vr := vOf_r (c := tC T p)
  unfold stm1 vS ar
  unfold stR at h ⊢
  by_cases c : vOf (tC T p) = -2
  · rw [if_pos c] at h; exact absurd (show false = true from h) (by decide)
  · rw [if_neg c] at h ⊢
    have i := ag_r hW (shp (vOf (tC T p))) (tE T p) (by omega) er.2.1
    exact ⟨by dsimp only; omega, i.2.2.2 h, fun j hj => ag_v hW _ _ (by omega) er.2.1 j hj, by dsimp only; omega, by dsimp only; omega⟩
theorem allS_c {s : Stm} {L : List Stm} (h : vS s) (hL : allS L) : allS (s :: L) := by
  intro i hi
  cases i with
  | zero => exact h
  | succ i => exact hL i (Nat.lt_of_succ_lt_succ hi)
theorem prsT_v {T : List Int} (hW : WT T) : ∀ (n : Nat) (p : Int), 0 ≤ p → p ≤ (T.length : Nat) → allS (prsT T n p).1 ∧ (prsT T n p).1.length ≤ n ∧ (-1 ≤ (prsT T n p).2 ∧ (prsT T n p).2 ≤ 80)
  | 0, p, h0, h1 => by
    have l := hW.1
    have sr := tS_r h0 h1
    exact ⟨fun i hi => absurd hi (Nat.not_lt_zero i), Nat.le_refl _, by show -1 ≤ tS T p ∧ tS T p ≤ 80; omega⟩
  | n + 1, p, h0, h1 => by
    have l := hW.1
    have ss := stR_r hW h0 h1
    have sr := tS_r (show 0 ≤ (stR T p).2.1 by omega) ss.2.1
    have er := tE_r hW (show 0 ≤ (stR T p).2.1 by omega) ss.2.1
    have i := prsT_v hW n (tE T (stR T p).2.1) (by omega) er.2.1
    have z : allS ([] : List Stm) := fun i hi => absurd hi (Nat.not_lt_zero i)
    unfold prsT
    by_cases a : (stR T p).2.2 = true
    · rw [if_pos a]
      have v1 := stm1_v hW h0 h1 a
      by_cases b : tC T (stR T p).2.1 = 22
      · rw [if_pos b]; exact ⟨allS_c v1 z, by show 1 ≤ n + 1; omega, by show -1 ≤ (-1 : Int) ∧ (-1 : Int) ≤ 80; omega⟩
      · rw [if_neg b]
        by_cases c : tC T (stR T p).2.1 = 21
        · rw [if_pos c]; exact ⟨allS_c v1 i.1, by show (prsT T n (tE T (stR T p).2.1)).1.length + 1 ≤ n + 1; omega, i.2.2⟩
        · rw [if_neg c]; exact ⟨allS_c v1 z, by show 1 ≤ n + 1; omega, by show -1 ≤ tS T (stR T p).2.1 ∧ tS T (stR T p).2.1 ≤ 80; omega⟩
    · rw [if_neg a]; exact ⟨z, Nat.zero_le _, by show -1 ≤ tS T (stR T p).2.1 ∧ tS T (stR T p).2.1 ≤ 80; omega⟩
theorem exS_r : ∀ (L : List Stm) (P : Pl), WF P → allS L → WF (exS L P).1 ∧ (-1 ≤ (exS L P).2 ∧ (exS L P).2 ≤ 80)
  | [], P, hW, _ => ⟨hW, by show -1 ≤ (-1 : Int) ∧ (-1 : Int) ≤ 80; omega⟩
  | s :: L, P, hW, hL => by
    have vs : vS s := hL 0 (Nat.succ_pos _)
    have vp := vs.2.2.2
    have hL2 : allS L := fun i hi => hL (i + 1) (Nat.succ_lt_succ hi)
    unfold exS
    cases e : doS P s with
    | none => exact ⟨hW, by dsimp only; omega⟩
    | some Q => exact exS_r L Q (doS_W hW e).1 hL2
noncomputable def aRead (T : List Int) (P : Pl) : Int := if ¬ (prsT T 13 0).2 = -1 then -100 - (prsT T 13 0).2 else if ¬ (exS (prsT T 13 0).1 P).2 = -1 then -300 - (exS (prsT T 13 0).1 P).2 else ((prsT T 13 0).1.length : Nat)
def okRd (T : List Int) (P : Pl) : Prop := (prsT T 13 0).2 = -1 ∧ (exS (prsT T 13 0).1 P).2 = -1
def FR1 : Nat → Nat → Prop := fun k j => k = 36 ∨ (38 ≤ k ∧ k ≤ 40) ∨ (9 ≤ k ∧ k ≤ 12)
def FR2 : Nat → Nat → Prop := fun k j => FR1 k j ∨ FMU k j ∨ (k = 0 ∧ j = 14)
section C31d
variable {S : Sp} {σ : St} {Φ : Rs} {P : Pl} {T : List Int}
theorem c_X8_read (hS : Sys S) (hT0 : SysT S) (hT : TRc T σ) (hWT : WT T) (hC : CP 1 P σ) (hW : WF P)
    (k1 : ¬ okRd T P → ∀ σ', Fr FR1 σ σ' → TRc [] σ' → Φ [aI (iI (aRead T P))] σ')
    (k2 : okRd T P → ∀ σ', Fr FR2 σ σ' → CP 1 (pu (exS (prsT T 13 0).1 P).1 285 0) σ' → CLR σ' → TRc [] σ' → σ'.1 0 14 = σ.1 0 14 + iI 1 → Φ [aI (iI (aRead T P))] σ') : S 115 [aR 0] σ Φ := by
  refine m_X8_read hS (fun v hv hw => ?_)
  unfold vc_X8_read_0
  have pv := prsT_v hWT 13 0 (Int.le_refl 0) (by omega)
  unfold okRd at k1 k2
  refine c_X4_parse hS hT0 hT hWT (fun σ1 f1 h1 => ⟨_, rfl, fun σ2 e2 => ?_⟩)
  unfold aRead at k1 k2
  generalize prsT T 13 0 = R at pv h1 k1 k2 ⊢
  have F2 : Fr FR1 σ σ2 := Fr_tr (Fr_mo f1 (fun k j q => by unfold FPA at q; unfold FR1; omega)) (by rw [e2]; exact Fr_up Fr_rf (by unfold FR1; omega))
  have E2 : σ2.1 36 1 = iI 0 := by rw [e2, iI_lit]; exact up_h rfl
  have C2 : CP 1 P σ2 := CP_f hC F2 (fun k j x y => by unfold FR1; omega)
  have TE : ∀ {σ'}, σ'.1 36 1 = iI 0 → TRc [] σ' := fun e => ⟨e, fun i hi => absurd hi (Nat.not_lt_zero i)⟩
  try simp (disch := omega) only [iI_lit, iL_lit, iI_add, iI_sub, iI_mul, iI_neg, iI_lt, iI_le, iI_eq, iI_tn, iI_div, iI_l, iL_add, iL_sub, iL_mul, iL_neg, iL_le, iL_lt, iL_eq, iL_ite, vp_T, b2_ne0, b2_eq1, nn_imp, true_and, iI_ite, not_true_eq_false, not_false_eq_true, true_implies, false_implies, and_true, Int.reduceLT, Int.reduceLE, Int.reduceEq, or_false, false_or, true_or, or_true, false_and, and_false]
  refine ⟨fun c => ?_, fun c => ?_⟩
  · have s1 := h1 c
    have s2 : SS R.1 σ2 := by
      refine SS_k s1.1 (c := fun k j => k = 36 ∧ j = 1) (by rw [e2]; exact Fr_up Fr_rf ⟨rfl, rfl⟩) (fun i hi => ⟨by omega, by omega, fun j hj => by omega⟩)
    have n2 : σ2.1 36 2 = iI (R.1.length : Nat) := by rw [e2, up_m (by omega)]; exact s1.2
    refine c_X2_copyFrom hS isPat_9 isPat_1 (by omega) C2 hW (fun σ3 f3 c3 => ⟨rfl, ?_⟩)
    have s3 := SS_k s2 f3 (fun i hi => ⟨by unfold FP; omega, by unfold FP; omega, fun j hj => by unfold FP; omega⟩)
    have n3 : σ3.1 36 2 = iI (R.1.length : Nat) := by rw [f3.1 _ _ (by unfold FP; omega)]; exact n2
    have F3 : Fr FR1 σ σ3 := Fr_tr F2 (Fr_mo f3 (fun k j q => by unfold FP at q; unfold FR1; omega))
    refine c_X4_carryOut hS pv.1 pv.2.1 c3 hW s3 n3 (fun σ4 f4 h4 => ⟨_, rfl, ?_⟩)
    have er := exS_r R.1 P hW pv.1
    have F4 : Fr FR1 σ σ4 := Fr_tr F3 (Fr_mo f4 (fun k j q => by unfold FP at q; unfold FR1; omega))
    have E4 : σ4.1 36 1 = iI 0 := by rw [f4.1 _ _ (by unfold FP; omega), f3.1 _ _ (by unfold FP; omega)]; exact E2
    generalize exS R.1 P = X at er h4 k1 k2 ⊢
    try simp (disch := omega) only [iI_lit, iL_lit, iI_add, iI_sub, iI_mul, iI_neg, iI_lt, iI_le, iI_eq, iI_tn, iI_div, iI_l, iL_add, iL_sub, iL_mul, iL_neg, iL_le, iL_lt, iL_eq, iL_ite, vp_T, b2_ne0, b2_eq1, nn_imp, true_and, iI_ite, not_true_eq_false, not_false_eq_true, true_implies, false_implies, and_true, Int.reduceLT, Int.reduceLE, Int.reduceEq, or_false, false_or, true_or, or_true, false_and, and_false]
    refine ⟨fun d => ?_, fun d => ?_⟩
    · have w0 := WF_0 er.1
      refine c_X2_copyFrom hS isPat_1 isPat_9 (by omega) (h4 d) er.1 (fun σ5 f5 c5 => ⟨rfl, fun σ6 e6 => ?_⟩)
      have c6 : CP 1 X.1 σ6 := CP_f c5 (c := fun k j => k = 0 ∧ j = 14) (by rw [e6]; exact Fr_up Fr_rf ⟨rfl, rfl⟩) (fun k j x y => by omega)
      have F6 : Fr FR2 σ σ6 := Fr_tr (Fr_tr (Fr_mo F4 (fun k j q => Or.inl q)) (Fr_mo f5 (fun k j q => Or.inr (Or.inl (by unfold FP at q; unfold FMU; omega))))) (by rw [e6]; exact Fr_up Fr_rf (Or.inr (Or.inr ⟨rfl, rfl⟩)))
      have n6 : σ6.1 36 2 = iI (R.1.length : Nat) := by rw [e6, up_n (by omega), f5.1 _ _ (by unfold FP; omega), f4.1 _ _ (by unfold FP; omega)]; exact n3
      have t6 : σ6.1 0 14 = σ.1 0 14 + iI 1 := by
        rw [e6, up_h rfl, f5.1 _ _ (by unfold FP; omega), F4.1 _ _ (by unfold FR1; omega)]
      rw [n6]
      refine c_settled hS (σ := σ6) (by omega) c6 (by omega) Fr_rf (fun σ7 f7 c7 r7 => ⟨_, rfl, ?_⟩)
      have k2 := k2 ⟨c, d⟩ σ7 (Fr_tr F6 (Fr_mo f7 (fun k j q => Or.inr (Or.inl q)))) c7 r7 (TE (by rw [f7.1 _ _ (by unfold FMU; omega), e6, up_n (by omega), f5.1 _ _ (by unfold FP; omega)]; exact E4)) (by rw [f7.1 _ _ (by unfold FMU; omega)]; exact t6)
      rw [if_neg (fun z => z c), if_neg (fun z => z d)] at k2
      exact k2
    · have k1 := k1 (fun z => d z.2) σ4 F4 (TE E4)
      rw [if_neg (fun z => z c), if_pos d] at k1
      exact k1
  · have k1 := k1 (fun z => c z.1) σ2 F2 (TE E2)
    rw [if_pos c] at k1
    exact k1
end C31d
