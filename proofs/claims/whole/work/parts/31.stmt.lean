/-! statements -/
noncomputable def ag (T : List Int) : List Int → Int → List Int × Int × Bool
  | [], p => ([], p, true)
  | c :: cs, p => if vlu T c p = -2 then ([], p, false) else (vlu T c p :: (ag T cs (tE T p)).1, (ag T cs (tE T p)).2)
def shp (x : Int) : List Int := if x = 0 then [110, 110, 107, 110, 110, 110] else if x = 1 then [102, 110, 110] else [110]
noncomputable def stR (T : List Int) (p : Int) : List Int × Int × Bool := if vOf (tC T p) = -2 then ([], p, false) else ag T (shp (vOf (tC T p))) (tE T p)
abbrev Stm : Type := Int × Int × List Int
noncomputable def stm1 (T : List Int) (p : Int) : Stm := (vOf (tC T p), tS T p, (stR T p).1)
noncomputable def prsT (T : List Int) : Nat → Int → List Stm × Int
  | 0, p => ([], tS T p)
  | n + 1, p => if (stR T p).2.2 = true then (if tC T (stR T p).2.1 = 22 then ([stm1 T p], -1) else if tC T (stR T p).2.1 = 21 then (stm1 T p :: (prsT T n (tE T (stR T p).2.1)).1, (prsT T n (tE T (stR T p).2.1)).2) else ([stm1 T p], tS T (stR T p).2.1)) else ([], tS T (stR T p).2.1)
theorem vlu_r {T : List Int} (hW : WT T) {c p : Int} (h0 : 0 ≤ p) (h1 : p ≤ (T.length : Nat)) : -2 ≤ vlu T c p ∧ vlu T c p ≤ 9999 := by
  have cr := tC_r (T := T) (p := p)
  unfold vlu
  split
  · split <;> omega
  · split
    · omega
    · split
      · next _ _ e =>
        have er := tE_r hW h0 h1
        have := tV_b hW h0 h1 ((tC_k (T := T) (p := p)).1.mp e) (i := tE T p) er.1 (Int.le_refl _)
        unfold tV; omega
      · omega
theorem ag_r {T : List Int} (hW : WT T) : ∀ (cs : List Int) (p : Int), 0 ≤ p → p ≤ (T.length : Nat) → p ≤ (ag T cs p).2.1 ∧ (ag T cs p).2.1 ≤ (T.length : Nat) ∧ (ag T cs p).1.length ≤ cs.length ∧ ((ag T cs p).2.2 = true → (ag T cs p).1.length = cs.length)
  | [], p, h0, h1 => ⟨Int.le_refl _, h1, Nat.le_refl _, fun _ => rfl⟩
  | c :: cs, p, h0, h1 => by
    have sr := tS_r h0 h1
    have er := tE_r hW h0 h1
    have i := ag_r hW cs (tE T p) (by omega) er.2.1
    unfold ag
    by_cases e : vlu T c p = -2
    · rw [if_pos e]; exact ⟨Int.le_refl _, h1, Nat.zero_le _, fun e => absurd (show false = true from e) (by decide)⟩
    · rw [if_neg e]
      refine ⟨by show p ≤ (ag T cs (tE T p)).2.1; omega, i.2.1, ?_, fun h => ?_⟩
      · show (ag T cs (tE T p)).1.length + 1 ≤ cs.length + 1; omega
      · show (ag T cs (tE T p)).1.length + 1 = cs.length + 1; have := i.2.2.2 h; omega
theorem vOf_r {c : Int} : vOf c = -2 ∨ (0 ≤ vOf c ∧ vOf c ≤ 5) := by unfold vOf; (repeat' split) <;> omega
theorem shp_l (x : Int) : 1 ≤ (shp x).length ∧ (shp x).length ≤ 6 := by unfold shp; (repeat' split) <;> decide
theorem stR_r {T : List Int} (hW : WT T) {p : Int} (h0 : 0 ≤ p) (h1 : p ≤ (T.length : Nat)) : p ≤ (stR T p).2.1 ∧ (stR T p).2.1 ≤ (T.length : Nat) ∧ (stR T p).1.length ≤ 6 := by
  have sr := tS_r h0 h1
  have er := tE_r hW h0 h1
  have i := ag_r hW (shp (vOf (tC T p))) (tE T p) (by omega) er.2.1
  have sl := shp_l (vOf (tC T p))
  unfold stR
  split
  · exact ⟨Int.le_refl _, h1, by show 0 ≤ 6; omega⟩
  · omega
def FPS (n : Nat) : Nat → Nat → Prop := fun k j => (k = 36 ∧ (j = 6 ∨ j = 7 ∨ j = 8)) ∨ (k = 38 ∧ j = n) ∨ (k = 39 ∧ j = n) ∨ (k = 40 ∧ 6 * n ≤ j ∧ j < 6 * n + 6)
section C31
variable {S : Sp} {σ : St} {Φ : Rs} {T : List Int} {p : Int}
theorem FTK_S {n : Nat} {σ' : St} (h : Fr FTK σ σ') : Fr (FPS n) σ σ' := Fr_mo h (fun k j q => Or.inl q)
theorem TRc_S {n : Nat} {σ' : St} (h : TRc T σ) (hf : Fr (FPS n) σ σ') : TRc T σ' := TX_f h hf (fun i => by unfold FPS; omega) (by unfold FPS; omega)
theorem c_X4_shapeOf (hS : Sys S) {x : Int} (hx : 0 ≤ x ∧ x ≤ 5) (hk : ∀ w, isStr w → sb w = shp x → Φ [aR w] σ) : S 57 [aI (iI x)] σ Φ := by
  refine m_X4_shapeOf hS (fun v hv hw => ?_)
  unfold vc_X4_shapeOf_0
  try simp (disch := omega) only [iI_lit, iL_lit, iI_add, iI_sub, iI_mul, iI_neg, iI_lt, iI_le, iI_eq, iI_tn, iI_div, iI_l, iL_add, iL_sub, iL_mul, iL_neg, iL_le, iL_lt, iL_eq, iL_ite, vp_T, b2_ne0, b2_eq1, nn_imp, true_and, iI_ite, not_true_eq_false, not_false_eq_true, true_implies, false_implies, and_true, Int.reduceLT, Int.reduceLE, Int.reduceEq, or_false, false_or, true_or, or_true, false_and, and_false]
  refine ⟨fun c => hk 206 (by unfold isStr; decide) (by subst c; rfl), fun c => ⟨fun d => hk 207 (by unfold isStr; decide) (by subst d; rfl), fun d => hk 208 (by unfold isStr; decide) (by unfold shp; rw [if_neg c, if_neg d]; rfl)⟩⟩
theorem c_X4_parseStatement (hS : Sys S) (hT0 : SysT S) (hT : TRc T σ) (hW : WT T) (h0 : 0 ≤ p) (h1 : p ≤ (T.length : Nat)) (h8 : σ.1 36 8 = iI p) {n : Nat} (hn : n < 13) (h2 : σ.1 36 2 = iI n)
    (hY : (stR T p).2.2 = true → ∀ σ', Fr (FPS n) σ σ' → σ'.1 38 n = iI (vOf (tC T p)) → σ'.1 39 n = iI (tS T p) → (∀ j : Nat, j < (stR T p).1.length → σ'.1 40 (6 * n + j) = iI ((stR T p).1[j]?.getD 0)) → σ'.1 36 8 = iI (stR T p).2.1 → Φ [aI (iI 1)] σ')
    (hN : ¬ (stR T p).2.2 = true → ∀ σ', Fr (FPS n) σ σ' → σ'.1 36 7 = iI (tS T (stR T p).2.1) → Φ [aI (iI 0)] σ') : S 55 [aR 36] σ Φ := by
  refine m_X4_parseStatement hS (fun v hv hw => ?_)
  have l := hW.1
  have sr := tS_r h0 h1
  have er := tE_r hW h0 h1
  have vr := vOf_r (c := tC T p)
  have hR : stR T p = if vOf (tC T p) = -2 then ([], p, false) else ag T (shp (vOf (tC T p))) (tE T p) := rfl
  unfold vc_X4_parseStatement_0
  refine c_X4_nextToken hS hT hW h0 h1 h8 (fun σ1 f1 k1 => ⟨rfl, ?_⟩)
  have T1 := TRc_k hT f1
  refine c_X4_verbHere hS hT0 T1 hW h0 h1 k1 ⟨_, rfl, ?_⟩
  have s2 : σ1.1 36 2 = iI n := by rw [f1.1 _ _ (by unfold FTK; omega)]; exact h2
  try simp (disch := omega) only [iI_lit, iL_lit, iI_add, iI_sub, iI_mul, iI_neg, iI_lt, iI_le, iI_eq, iI_tn, iI_div, iI_l, iL_add, iL_sub, iL_mul, iL_neg, iL_le, iL_lt, iL_eq, iL_ite, vp_T, b2_ne0, b2_eq1, nn_imp, true_and, iI_ite, not_true_eq_false, not_false_eq_true, true_implies, false_implies, and_true, Int.reduceLT, Int.reduceLE, Int.reduceEq, or_false, false_or, true_or, or_true, false_and, and_false, s2]
  refine ⟨fun c σ2 e2 => ?_, fun c => ?_⟩
  · rw [if_neg c] at hR
    generalize stR T p = R at hR hY hN
    have f2 : Fr (FPS n) σ σ2 := by rw [e2]; exact Fr_up (FTK_S f1) (by unfold FPS; omega)
    have s2' : σ2.1 36 2 = iI n := by rw [e2, up_n (by omega)]; exact s2
    have k7 : σ2.1 36 7 = iI (tS T p) := by rw [e2, up_n (by omega)]; exact k1.2.1
    try simp (disch := omega) only [iI_lit, iL_lit, iI_add, iI_sub, iI_mul, iI_neg, iI_lt, iI_le, iI_eq, iI_tn, iI_div, iI_l, iL_add, iL_sub, iL_mul, iL_neg, iL_le, iL_lt, iL_eq, iL_ite, vp_T, b2_ne0, b2_eq1, nn_imp, true_and, iI_ite, not_true_eq_false, not_false_eq_true, true_implies, false_implies, and_true, Int.reduceLT, Int.reduceLE, Int.reduceEq, or_false, false_or, true_or, or_true, false_and, and_false, s2', k7]
    intro σ3 e3
    have f3 : Fr (FPS n) σ σ3 := by rw [e3]; exact Fr_up f2 (by unfold FPS; omega)
    have v38 : σ3.1 38 n = iI (vOf (tC T p)) := by rw [e3, up_n (by omega), e2]; exact up_h (by omega)
    have v39 : σ3.1 39 n = iI (tS T p) := by rw [e3]; exact up_h (by omega)
    have v8 : σ3.1 36 8 = iI (tE T p) := by rw [e3, up_n (by omega), e2, up_n (by omega)]; exact k1.2.2
    refine c_X4_shapeOf hS (by omega) (fun w hw' hsb => ⟨w, rfl, hw', ?_⟩)
    have sl := shp_l (vOf (tC T p))
    have sbl := sbw_b (w - 200) (by have : strN = 15 := rfl; unfold isStr at hw'; omega)
    rw [show 200 + (w - 200) = w by unfold isStr at hw'; omega] at sbl
    rw [← hsb] at hR sl
    have A : ∀ (rest : List Int) (i : Nat) (acc : List Int) (q : Int) (σ4 : St), (sb w).drop i = rest → i ≤ (sb w).length → acc.length = i → 0 ≤ q → q ≤ (T.length : Nat) → Fr (FPS n) σ σ4 → σ4.1 38 n = iI (vOf (tC T p)) → σ4.1 39 n = iI (tS T p) → σ4.1 36 8 = iI q → (∀ j : Nat, j < i → σ4.1 40 (6 * n + j) = iI (acc[j]?.getD 0)) → R = (acc ++ (ag T rest q).1, (ag T rest q).2) → v 47 [some (aR 36), some (aI (iI (vOf (tC T p)))), some (aR w), some (aI (iI i)), none] [] σ4 := by
      intro rest
      induction rest with
      | nil =>
        intro i acc q σ4 hd hi ha q0 q1 f4 a38 a39 a8 a40 hr
        refine w_X4_parseStatement_47 hS hv hw _ w _ hw' σ4 ?_
        unfold vc_X4_parseStatement_47
        have hi2 : (sb w).length = i := by have := congrArg List.length hd; rw [List.length_drop] at this; show (sb w).length = i; have h2 : (sb w).length - i = 0 := this; omega
        refine hT0.1 w σ4 _ hw' ⟨_, rfl, ?_⟩
        have hr2 : R = (acc, q, true) := by rw [hr]; show (acc ++ [], q, true) = _; rw [List.append_nil]
        try simp (disch := omega) only [iI_lit, iL_lit, iI_add, iI_sub, iI_mul, iI_neg, iI_lt, iI_le, iI_eq, iI_tn, iI_div, iI_l, iL_add, iL_sub, iL_mul, iL_neg, iL_le, iL_lt, iL_eq, iL_ite, vp_T, b2_ne0, b2_eq1, nn_imp, true_and, iI_ite, not_true_eq_false, not_false_eq_true, true_implies, false_implies, and_true, Int.reduceLT, Int.reduceLE, Int.reduceEq, or_false, false_or, true_or, or_true, false_and, and_false]
        refine ⟨fun _ => ?_, fun c => by omega⟩
        subst hr2
        exact hY rfl σ4 f4 a38 a39 (fun j hj => a40 j (by have hj : j < acc.length := hj; omega)) a8
      | cons ch rest ih =>
        intro i acc q σ4 hd hi ha q0 q1 f4 a38 a39 a8 a40 hr
        refine w_X4_parseStatement_47 hS hv hw _ w _ hw' σ4 ?_
        unfold vc_X4_parseStatement_47
        have hi2 : i < (sb w).length := by
          have := congrArg List.length hd
          rw [List.length_drop] at this
          have h2 : (sb w).length - i = rest.length + 1 := this
          omega
        have hch : (sb w)[i]?.getD 0 = ch := by
          rw [List.drop_eq_getElem_cons hi2] at hd
          rw [List.getElem?_eq_getElem hi2]
          exact (List.cons.inj hd).1
        have hrest : (sb w).drop (i + 1) = rest := by
          rw [List.drop_eq_getElem_cons hi2] at hd
          exact (List.cons.inj hd).2
        refine hT0.1 w σ4 _ hw' ⟨_, rfl, ?_⟩
        try simp (disch := omega) only [iI_lit, iL_lit, iI_add, iI_sub, iI_mul, iI_neg, iI_lt, iI_le, iI_eq, iI_tn, iI_div, iI_l, iL_add, iL_sub, iL_mul, iL_neg, iL_le, iL_lt, iL_eq, iL_ite, vp_T, b2_ne0, b2_eq1, nn_imp, true_and, iI_ite, not_true_eq_false, not_false_eq_true, true_implies, false_implies, and_true, Int.reduceLT, Int.reduceLE, Int.reduceEq, or_false, false_or, true_or, or_true, false_and, and_false]
        refine ⟨fun c => by omega, fun _ => ⟨fun c => by omega, fun _ => ?_⟩⟩
        refine c_X4_nextToken hS (TRc_S hT f4) hW q0 q1 a8 (fun σ5 f5 k5 => ⟨rfl, ?_⟩)
        have F5 := Fr_tr f4 (FTK_S f5)
        refine hT0.2 w i σ5 _ hw' (by omega) (by omega) ⟨_, rfl, ?_⟩
        rw [show ((i : Nat) : Int).toNat = i by omega]
        have cb := sbl.2 i (by omega)
        refine c_X4_valueHere hS hT0 (TRc_S hT F5) hW q0 q1 k5 cb ⟨_, rfl, ?_⟩
        rw [hch]
        have vb := vlu_r hW (c := ch) q0 q1
        have s5 : σ5.1 36 2 = iI n := by rw [F5.1 _ _ (by unfold FPS; omega)]; exact h2
        have er2 := tE_r hW q0 q1
        have sr2 := tS_r q0 q1
        try simp (disch := omega) only [iI_lit, iL_lit, iI_add, iI_sub, iI_mul, iI_neg, iI_lt, iI_le, iI_eq, iI_tn, iI_div, iI_l, iL_add, iL_sub, iL_mul, iL_neg, iL_le, iL_lt, iL_eq, iL_ite, vp_T, b2_ne0, b2_eq1, nn_imp, true_and, iI_ite, not_true_eq_false, not_false_eq_true, true_implies, false_implies, and_true, Int.reduceLT, Int.reduceLE, Int.reduceEq, or_false, false_or, true_or, or_true, false_and, and_false, s5]
        refine ⟨fun c => ?_, fun c => ?_⟩
        · try simp (disch := omega) only [iI_lit, iL_lit, iI_add, iI_sub, iI_mul, iI_neg, iI_lt, iI_le, iI_eq, iI_tn, iI_div, iI_l, iL_add, iL_sub, iL_mul, iL_neg, iL_le, iL_lt, iL_eq, iL_ite, vp_T, b2_ne0, b2_eq1, nn_imp, true_and, iI_ite, not_true_eq_false, not_false_eq_true, true_implies, false_implies, and_true, Int.reduceLT, Int.reduceLE, Int.reduceEq, or_false, false_or, true_or, or_true, false_and, and_false]
          intro σ6 e6
          have f6 : Fr (FPS n) σ σ6 := by rw [e6]; exact Fr_up F5 (by unfold FPS; omega)
          unfold ag at hr
          rw [if_neg c] at hr
          refine ih (i + 1) (acc ++ [vlu T ch q]) (tE T q) σ6 hrest (by omega) (by rw [List.length_append, ha]; rfl) (by omega) er2.2.1 f6 ?_ ?_ ?_ (fun j hj => ?_) (by rw [hr, List.append_assoc]; rfl)
          · rw [e6, up_n (by omega), f5.1 _ _ (by unfold FTK; omega)]; exact a38
          · rw [e6, up_n (by omega), f5.1 _ _ (by unfold FTK; omega)]; exact a39
          · rw [e6, up_n (by omega)]; exact k5.2.2
          · rw [e6]
            by_cases u : j = i
            · subst u
              rw [up_h (by omega), ← ha, gd_b]
            · rw [up_m (by omega), f5.1 _ _ (by unfold FTK; omega), gd_a (by omega)]
              exact a40 j (by omega)
        · unfold ag at hr
          rw [if_pos c] at hr
          have hr2 : R = (acc ++ [], q, false) := hr
          subst hr2
          exact hN (fun e => absurd (show false = true from e) (by decide)) σ5 F5 k5.2.1
    have := A (sb w) 0 [] (tE T p) σ3 rfl (by omega) rfl (by omega) er.2.1 f3 v38 v39 v8 (fun j hj => by omega) (by rw [hR, List.nil_append])
    exact this
  · rw [if_pos c] at hR
    rw [hR] at hN
    exact hN (fun e => absurd (show false = true from e) (by decide)) σ1 (FTK_S f1) k1.2.1
end C31
