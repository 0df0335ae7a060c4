/-! what is laid out, and fill, judge, move -/
noncomputable def vl (P : Pl) (w h : Int) : Int := if w = 0 then (tm P (dd P) (-1)) h else fl P h + sl P h
noncomputable def layN (P : Pl) (w n : Int) : (Int → Int) × Int := lp (fun h (a : (Int → Int) × Int) => if (fr P (dd P) (-1)) h = true then (pu a.1 a.2 (vl P w h), a.2 + 1) else a) 0 n (fun _ => 0, 0)
noncomputable def layR (P : Pl) (w : Int) : (Int → Int) × Int := if w = 2 then (fun i => ((shL P (fr P (dd P) (-1)) (tm P (dd P) (-1))).1 i).1, (shL P (fr P (dd P) (-1)) (tm P (dd P) (-1))).2) else layN P w (P 280)
def RO (k : Nat) (r : (Int → Int) × Int) (σ : St) : Prop := ∀ i : Int, 0 ≤ i → i < r.2 → σ.1 k i.toNat = iI (r.1 i)
def RB (r : (Int → Int) × Int) : Prop := 0 ≤ r.2 ∧ r.2 ≤ 40 ∧ ∀ i : Int, 0 ≤ i → i < r.2 → 0 ≤ r.1 i ∧ r.1 i ≤ 30000
theorem layN_s {P : Pl} {w n : Int} (h : 0 ≤ n) : layN P w (n + 1) = if (fr P (dd P) (-1)) n = true then (pu (layN P w n).1 (layN P w n).2 (vl P w n), (layN P w n).2 + 1) else layN P w n := lp_l _ _ h
theorem layN_0 {P : Pl} {w : Int} : layN P w 0 = (fun _ => 0, 0) := lp_z _ _ (Int.le_refl 0)
theorem vl_r {P : Pl} (hW : WF P) {w h : Int} (h0 : 0 ≤ h) (h1 : h < P 280) (hf : (fr P (dd P) (-1)) h = true) : 0 ≤ vl P w h ∧ vl P w h ≤ 30000 := by
  have r1 := fl_r hW h0 h1
  have r2 := sl_r hW h0 h1
  have r3 := tm_r hW (sg_S hW) h0 h1 hf
  unfold vl
  split <;> omega
theorem layN_r {P : Pl} (hW : WF P) {w : Int} : ∀ (d : Nat) (n : Int), n.toNat = d → 0 ≤ n → n ≤ P 280 → (0 ≤ (layN P w n).2 ∧ (layN P w n).2 ≤ n) ∧ ∀ i, 0 ≤ i → i < (layN P w n).2 → 0 ≤ (layN P w n).1 i ∧ (layN P w n).1 i ≤ 30000
  | 0, n, hd, h0, h1 => by
    rw [show n = 0 by omega, layN_0]
    exact ⟨⟨Int.le_refl _, Int.le_refl _⟩, fun i i0 i1 => absurd i1 (by show ¬ i < 0; omega)⟩
  | d + 1, n, hd, h0, h1 => by
    have i := layN_r hW (w := w) d (n - 1) (by omega) (by omega) (by omega)
    rw [show n = (n - 1) + 1 by omega, layN_s (by omega)]
    by_cases c : (fr P (dd P) (-1)) (n - 1) = true
    · rw [if_pos c]
      have r := vl_r hW (w := w) (show 0 ≤ n - 1 by omega) (by omega) c
      refine ⟨⟨?_, ?_⟩, fun j j0 j1 => ?_⟩
      · show 0 ≤ (layN P w (n - 1)).2 + 1; omega
      · show (layN P w (n - 1)).2 + 1 ≤ n - 1 + 1; omega
      · have j1 : j < (layN P w (n - 1)).2 + 1 := j1
        show 0 ≤ pu (layN P w (n - 1)).1 _ _ j ∧ pu (layN P w (n - 1)).1 _ _ j ≤ 30000
        by_cases e : j = (layN P w (n - 1)).2
        · rw [pu_e e]; exact r
        · rw [pu_n e]; exact i.2 j j0 (by omega)
    · rw [if_neg c]; exact ⟨by omega, i.2⟩
theorem layR_B {P : Pl} (hW : WF P) {w : Int} : RB (layR P w) := by
  have g0 := WF_0 hW
  unfold layR RB
  by_cases c : w = 2
  · rw [if_pos c]
    have ho := sh_ok hW (sg_S hW) (P := P) (D := dd P) (g := -1)
    exact ⟨ho.1.1, ho.1.2, fun i i0 i1 => by have := (okZ_r ho i0 i1).1; dsimp only; omega⟩
  · rw [if_neg c]
    have r := layN_r hW (w := w) _ (P 280) rfl g0.1.1 (Int.le_refl _)
    exact ⟨r.1.1, by omega, r.2⟩
def mnL (L : Ls) (l : Int) (r : (Int → Int) × Int) : Int := if L.1 l < r.2 then L.1 l else r.2
noncomputable def aFill (P : Pl) (l w : Int) (L : Ls) : Int := if ¬ isL l then -1 else if ¬ (0 ≤ w ∧ w ≤ 2) then -1 else if L.1 l = -1 then -11 else mnL L l (layR P w)
def filL (L : Ls) (l : Int) (r : (Int → Int) × Int) : Ls := setL L l (fun i => if i < mnL L l r then iL (r.1 i) else L.2 l i)
noncomputable def nFill (P : Pl) (l w : Int) (L : Ls) : Ls := if isL l ∧ (0 ≤ w ∧ w ≤ 2) ∧ ¬ L.1 l = -1 then filL L l (layR P w) else L
def othL (L : Ls) (l : Int) (r : (Int → Int) × Int) : Int := fd (fun i => decide (r.2 ≤ i ∨ ¬ L.2 l i = iL (r.1 i))) 0 (L.1 l)
noncomputable def aJudge (P : Pl) (l w : Int) (L : Ls) : Int := if ¬ isL l then -1 else if ¬ (0 ≤ w ∧ w ≤ 2) then -1 else if L.1 l = -1 then -11 else othL L l (layR P w)
def aMove (l i o j n : Int) (L : Ls) : Int := if ¬ isL l then -1 else if ¬ isL o then -1 else if L.1 l = -1 then -11 else if L.1 o = -1 then -11 else if (0 ≤ i ∧ 0 ≤ j ∧ 0 ≤ n) ∧ i + n ≤ L.1 l ∧ j + n ≤ L.1 o then n else -12
def nMove (l i o j n : Int) (L : Ls) : Ls := if isL l ∧ isL o ∧ (0 ≤ i ∧ 0 ≤ j ∧ 0 ≤ n) ∧ i + n ≤ L.1 l ∧ j + n ≤ L.1 o then setL L o (fun k => if j ≤ k ∧ k < j + n then L.2 l (i + (k - j)) else L.2 o k) else L
theorem nFill_ok {P : Pl} {l w : Int} {L : Ls} (h : okL L) : okL (nFill P l w L) := by unfold nFill filL setL; split <;> exact h
theorem nMove_ok {l i o j n : Int} {L : Ls} (h : okL L) : okL (nMove l i o j n L) := by unfold nMove setL; split <;> exact h
theorem lg_eq0 (x y : Int64) : (lg_cmp x y = iI 0) ↔ x = y := by
  have e : iI 0 = 0 := rfl
  rw [e]
  unfold lg_cmp
  by_cases h : x > y
  · rw [if_pos h]; exact ⟨fun q => absurd q (by decide), fun q => by subst q; exact absurd h (Int64.lt_irrefl)⟩
  · rw [if_neg h]
    by_cases e : x = y
    · rw [if_pos e]; exact ⟨fun _ => e, fun _ => rfl⟩
    · rw [if_neg e]; exact ⟨fun q => absurd q (by decide), fun q => absurd q e⟩
theorem cj_h {σ : St} {a b sp dp n k : Nat} (h : dp ≤ k ∧ k < dp + n) : (cpJ σ a b sp dp n).2 b k = σ.2 a (sp + (k - dp)) := by
  show (if b = b then va_cpy (σ.2 a) (σ.2 b) sp dp n else σ.2 b) k = _
  rw [if_pos rfl]; exact if_pos h
theorem cj_m {σ : St} {a b sp dp n k : Nat} (h : ¬ (dp ≤ k ∧ k < dp + n)) : (cpJ σ a b sp dp n).2 b k = σ.2 b k := by
  show (if b = b then va_cpy (σ.2 a) (σ.2 b) sp dp n else σ.2 b) k = _
  rw [if_pos rfl]; exact if_neg h
theorem cj_n {σ : St} {a b sp dp n k : Nat} (h : ¬ k = b) : (cpJ σ a b sp dp n).2 k = σ.2 k := if_neg h
section C28b
variable {S : Sp} {σ : St} {Φ : Rs} {P : Pl} {L : Ls} {r : (Int → Int) × Int}
def F48 : Nat → Nat → Prop := fun k _ => k = 48
theorem c_X0_layOut (hS : Sys S) (hC : CP 1 P σ) (hW : WF P) (hR : RK P σ) {w : Int} (w0 : 0 ≤ w ∧ w ≤ 2) (hk : ∀ σ', Fr F48 σ σ' → RO 48 (layR P w) σ' → Φ [aI (iI (layR P w).2)] σ') : S 15 [aR 13, aI (iI w), aR 48] σ Φ := by
  refine m_X0_layOut hS isBl_13 (fun v hv hw => ?_)
  have g0 := WF_0 hW
  have ho := sh_ok hW (sg_S hW) (P := P) (D := dd P) (g := -1)
  have hn := ho.1
  have hz := hR.2.1
  have n3 : σ.1 16 3 = iI (shL P (fr P (dd P) (-1)) (tm P (dd P) (-1))).2 := hz.2
  unfold vc_X0_layOut_0
  have o40 : Int32.ofNat 40 = iI 40 := ofNat_iI 40
  try simp only [Nat.reduceAdd, o40]
  unfold layR at hk
  try simp (disch := omega) only [iI_lit, iL_lit, iI_add, iI_sub, iI_mul, iI_neg, iI_lt, iI_le, iI_eq, iI_tn, iI_div, iI_l, iL_add, iL_sub, iL_mul, iL_neg, iL_le, iL_lt, iL_eq, iL_ite, vp_T, b2_ne0, b2_eq1, nn_imp, true_and, iI_ite, not_true_eq_false, not_false_eq_true, true_implies, false_implies, and_true, Int.reduceLT, Int.reduceLE, Int.reduceEq, or_false, false_or, true_or, or_true, false_and, and_false, n3]
  refine ⟨fun c => ?_, fun c => ?_⟩
  · rw [if_neg c] at hk
    have A : ∀ (d : Nat) (h : Int) (σ1 : St), (P 280 - h).toNat = d → 0 ≤ h → h ≤ P 280 → Fr F48 σ σ1 → RO 48 (layN P w h) σ1 → v 48 [some (aR 13), some (aI (iI w)), some (aR 48), some (aI (iI (layN P w h).2)), some (aI (iI h))] [] σ1 := by
      intro d
      induction d with
      | zero =>
        intro h σ1 hd h0 h1 hf hr
        refine w_X0_layOut_48 hS hv hw 13 isBl_13 _ _ _ σ1 ?_
        unfold vc_X0_layOut_48
        have q : h = P 280 := by omega
        subst q
        have c1 := CP_n (CP_f hC hf (fun k j x y => by unfold F48; omega))
        try simp (disch := omega) only [iI_lit, iL_lit, iI_add, iI_sub, iI_mul, iI_neg, iI_lt, iI_le, iI_eq, iI_tn, iI_div, iI_l, iL_add, iL_sub, iL_mul, iL_neg, iL_le, iL_lt, iL_eq, iL_ite, vp_T, b2_ne0, b2_eq1, nn_imp, true_and, iI_ite, not_true_eq_false, not_false_eq_true, true_implies, false_implies, and_true, Int.reduceLT, Int.reduceLE, Int.reduceEq, or_false, false_or, true_or, or_true, false_and, and_false, c1]
        exact ⟨fun _ => hk σ1 hf hr, fun c => by omega⟩
      | succ d ih =>
        intro h σ1 hd h0 h1 hf hr
        refine w_X0_layOut_48 hS hv hw 13 isBl_13 _ _ _ σ1 ?_
        unfold vc_X0_layOut_48
        have C1 := CP_f hC hf (fun k j x y => by unfold F48; omega)
        have c1 := CP_n C1
        have lr := layN_r hW (w := w) _ h rfl h0 h1
        have b4 : σ1.1 13 4 = bm (fr P (dd P) (-1)) (P 280) := by rw [hf.1 _ _ (by unfold F48; omega)]; exact hR.1.2.2.1.1
        have t15 : σ1.1 15 h.toNat = iI (if (fr P (dd P) (-1)) h = true then (tm P (dd P) (-1)) h else -1) := by rw [hf.1 _ _ (by unfold F48; omega)]; exact hR.1.2.1 h h0 (by omega)
        have i := fun σ2 => ih (h + 1) σ2 (by omega) (by omega) (by omega)
        rw [layN_s h0] at i
        try simp only [Nat.reduceAdd, o40]
        try simp (disch := omega) only [iI_lit, iL_lit, iI_add, iI_sub, iI_mul, iI_neg, iI_lt, iI_le, iI_eq, iI_tn, iI_div, iI_l, iL_add, iL_sub, iL_mul, iL_neg, iL_le, iL_lt, iL_eq, iL_ite, vp_T, b2_ne0, b2_eq1, nn_imp, true_and, iI_ite, not_true_eq_false, not_false_eq_true, true_implies, false_implies, and_true, Int.reduceLT, Int.reduceLE, Int.reduceEq, or_false, false_or, true_or, or_true, false_and, and_false, c1, b4, bs_0, bs_1, bs_bm, Bool.and_eq_true, decide_eq_true_eq, Bool.not_eq_false, Bool.not_eq_true]
        refine ⟨fun c => by omega, fun _ => ⟨fun c => by omega, fun _ => ⟨fun e => ?_, fun e => ?_⟩⟩⟩
        · rw [if_neg (fun z => e ⟨by omega, by omega, by omega, z⟩)] at i
          exact i σ1 hf hr
        · have e2 : (fr P (dd P) (-1)) h = true := e.2.2.2
          rw [if_pos e2] at i
          rw [if_pos e2] at t15
          have st : ∀ σ2, σ2 = upI σ1 48 (layN P w h).2.toNat (iI (vl P w h)) → v 48 [some (aR 13), some (aI (iI w)), some (aR 48), some (aI (iI ((layN P w h).2 + 1))), some (aI (iI (h + 1)))] [] σ2 := fun σ2 e3 => by
            refine i σ2 (by rw [e3]; exact Fr_up hf rfl) (fun j j0 j1 => ?_)
            have j1 : j < (layN P w h).2 + 1 := j1
            show _ = iI (pu (layN P w h).1 (layN P w h).2 (vl P w h) j)
            rw [e3]
            by_cases q : j = (layN P w h).2
            · rw [pu_e q, q, up_h rfl]
            · rw [pu_n q, up_m (by omega)]; exact hr j j0 (by omega)
          refine ⟨fun f => ?_, fun f => ?_⟩
          · refine c_X2_loadsOf hS isPat_1 C1 hW h0 (by omega) ⟨_, rfl, ?_⟩
            unfold vl at st
            rw [if_neg f] at st
            try simp (disch := omega) only [iI_lit, iL_lit, iI_add, iI_sub, iI_mul, iI_neg, iI_lt, iI_le, iI_eq, iI_tn, iI_div, iI_l, iL_add, iL_sub, iL_mul, iL_neg, iL_le, iL_lt, iL_eq, iL_ite, vp_T, b2_ne0, b2_eq1, nn_imp, true_and, iI_ite, not_true_eq_false, not_false_eq_true, true_implies, false_implies, and_true, Int.reduceLT, Int.reduceLE, Int.reduceEq, or_false, false_or, true_or, or_true, false_and, and_false]
            exact st
          · unfold vl at st
            rw [if_pos f] at st
            try simp (disch := omega) only [iI_lit, iL_lit, iI_add, iI_sub, iI_mul, iI_neg, iI_lt, iI_le, iI_eq, iI_tn, iI_div, iI_l, iL_add, iL_sub, iL_mul, iL_neg, iL_le, iL_lt, iL_eq, iL_ite, vp_T, b2_ne0, b2_eq1, nn_imp, true_and, iI_ite, not_true_eq_false, not_false_eq_true, true_implies, false_implies, and_true, Int.reduceLT, Int.reduceLE, Int.reduceEq, or_false, false_or, true_or, or_true, false_and, and_false, t15]
            exact st
    have := A _ 0 σ rfl (Int.le_refl 0) g0.1.1 Fr_rf (by rw [layN_0]; exact fun i i0 i1 => absurd i1 (by show ¬ i < 0; omega))
    rw [layN_0] at this
    exact this
  · rw [if_pos c] at hk
    rw [if_neg (show ¬ (40 : Int) < (shL P (fr P (dd P) (-1)) (tm P (dd P) (-1))).2 by omega)]
    try simp (disch := omega) only [iI_lit, iL_lit, iI_add, iI_sub, iI_mul, iI_neg, iI_lt, iI_le, iI_eq, iI_tn, iI_div, iI_l, iL_add, iL_sub, iL_mul, iL_neg, iL_le, iL_lt, iL_eq, iL_ite, vp_T, b2_ne0, b2_eq1, nn_imp, true_and, iI_ite, not_true_eq_false, not_false_eq_true, true_implies, false_implies, and_true, Int.reduceLT, Int.reduceLE, Int.reduceEq, or_false, false_or, true_or, or_true, false_and, and_false]
    refine ⟨by omega, fun σ1 e1 => ?_⟩
    have n1 : σ1.1 16 3 = iI (shL P (fr P (dd P) (-1)) (tm P (dd P) (-1))).2 := by rw [e1, cp_n (by omega)]; exact n3
    try simp (disch := omega) only [iI_lit, iL_lit, iI_add, iI_sub, iI_mul, iI_neg, iI_lt, iI_le, iI_eq, iI_tn, iI_div, iI_l, iL_add, iL_sub, iL_mul, iL_neg, iL_le, iL_lt, iL_eq, iL_ite, vp_T, b2_ne0, b2_eq1, nn_imp, true_and, iI_ite, not_true_eq_false, not_false_eq_true, true_implies, false_implies, and_true, Int.reduceLT, Int.reduceLE, Int.reduceEq, or_false, false_or, true_or, or_true, false_and, and_false, n1]
    rw [if_neg (show ¬ (40 : Int) < (shL P (fr P (dd P) (-1)) (tm P (dd P) (-1))).2 by omega)]
    refine hk σ1 (by rw [e1]; exact Fr_cp Fr_rf (fun j => rfl)) (fun i i0 i1 => ?_)
    have i1 : i < (shL P (fr P (dd P) (-1)) (tm P (dd P) (-1))).2 := i1
    rw [e1, cp_h (by omega)]
    have := (hz.1 i i0 i1).1
    rw [show (0 : Int).toNat + (i.toNat - (0 : Int).toNat) = i.toNat by omega]
    exact this
theorem c_X6_copyIn (hS : Sys S) (hL : LC L σ) (ho : okL L) (hr : RO 48 r σ) (hb : RB r) {l : Int} (hl : isL l) (hg : ¬ L.1 l = -1) (hk : ∀ σ', Gr (fun _ _ => False) DC σ σ' → LC (filL L l r) σ' → Φ [aI (iI (mnL L l r))] σ') : S 80 [aR 41, aI (iI l), aR 48, aI (iI r.2)] σ Φ := by
  refine m_X6_copyIn hS (fun v hv hw => ?_)
  unfold vc_X6_copyIn_0
  have l0 : 0 ≤ l := hl.1
  have l1 : l < 4 := hl.2
  have o := ho l l0 l1
  have z := (hL l l0 l1).1
  unfold RB at hb
  try simp (disch := omega) only [iI_lit, iL_lit, iI_add, iI_sub, iI_mul, iI_neg, iI_lt, iI_le, iI_eq, iI_tn, iI_div, iI_l, iL_add, iL_sub, iL_mul, iL_neg, iL_le, iL_lt, iL_eq, iL_ite, vp_T, b2_ne0, b2_eq1, nn_imp, true_and, iI_ite, not_true_eq_false, not_false_eq_true, true_implies, false_implies, and_true, Int.reduceLT, Int.reduceLE, Int.reduceEq, or_false, false_or, true_or, or_true, false_and, and_false, z]
  have mr : 0 ≤ mnL L l r ∧ mnL L l r ≤ 40 ∧ mnL L l r ≤ r.2 := by unfold mnL; split <;> omega
  rw [show (if L.1 l < r.2 then L.1 l else r.2) = mnL L l r from rfl]
  have A : ∀ (d : Nat) (i : Int) (σ1 : St), (mnL L l r - i).toNat = d → 0 ≤ i → i ≤ mnL L l r → Gr (fun _ _ => False) (fun k => k = 43 + l.toNat) σ σ1 → (∀ j : Int, 0 ≤ j → j < 40 → σ1.2 (43 + l.toNat) j.toNat = if j < i then iL (r.1 j) else L.2 l j) → v 15 [some (aR 41), some (aI (iI l)), some (aR 48), some (aI (iI r.2)), some (aI (iI (mnL L l r))), some (aI (iI i))] [] σ1 := by
    intro d
    induction d with
    | zero =>
      intro i σ1 hd h0 h1 hf hc
      refine w_X6_copyIn_15 hS hv hw _ _ _ _ σ1 ?_
      unfold vc_X6_copyIn_15
      try simp (disch := omega) only [iI_lit, iL_lit, iI_add, iI_sub, iI_mul, iI_neg, iI_lt, iI_le, iI_eq, iI_tn, iI_div, iI_l, iL_add, iL_sub, iL_mul, iL_neg, iL_le, iL_lt, iL_eq, iL_ite, vp_T, b2_ne0, b2_eq1, nn_imp, true_and, iI_ite, not_true_eq_false, not_false_eq_true, true_implies, false_implies, and_true, Int.reduceLT, Int.reduceLE, Int.reduceEq, or_false, false_or, true_or, or_true, false_and, and_false]
      refine ⟨fun _ => hk σ1 (Gr_mo hf (fun _ _ q => q) (fun k q => by unfold DC; omega)) (fun k k0 k1 => ?_), fun c => by omega⟩
      have rr := hL k k0 k1
      refine ⟨by rw [hf.1 _ _ (fun q => q)]; exact rr.1, fun j j0 j1 => ?_⟩
      unfold filL setL; dsimp only
      by_cases q : k = l
      · subst q; rw [if_pos rfl, hc j j0 j1, show i = mnL L k r by omega]
      · rw [if_neg q, hf.2 _ (by omega)]; exact rr.2 j j0 j1
    | succ d ih =>
      intro i σ1 hd h0 h1 hf hc
      refine w_X6_copyIn_15 hS hv hw _ _ _ _ σ1 ?_
      unfold vc_X6_copyIn_15
      have rb := hb.2.2 i h0 (by omega)
      have t : σ1.1 48 i.toNat = iI (r.1 i) := by rw [hf.1 _ _ (fun q => q)]; exact hr i h0 (by omega)
      try simp (disch := omega) only [iI_lit, iL_lit, iI_add, iI_sub, iI_mul, iI_neg, iI_lt, iI_le, iI_eq, iI_tn, iI_div, iI_l, iL_add, iL_sub, iL_mul, iL_neg, iL_le, iL_lt, iL_eq, iL_ite, vp_T, b2_ne0, b2_eq1, nn_imp, true_and, iI_ite, not_true_eq_false, not_false_eq_true, true_implies, false_implies, and_true, Int.reduceLT, Int.reduceLE, Int.reduceEq, or_false, false_or, true_or, or_true, false_and, and_false, t]
      refine ⟨fun c => by omega, fun _ σ2 e2 => ih (i + 1) σ2 (by omega) (by omega) (by omega) (by rw [e2]; exact Gr_upJ hf rfl) (fun j j0 j1 => ?_)⟩
      rw [e2]
      by_cases q : j = i
      · subst q; rw [uj_h rfl, if_pos (by omega)]
      · rw [uj_m (by omega), hc j j0 j1]
        by_cases q2 : j < i
        · rw [if_pos q2, if_pos (by omega)]
        · rw [if_neg q2, if_neg (by omega)]
  exact A _ 0 σ rfl (by omega) mr.1 Gr_rf (fun j j0 j1 => by rw [if_neg (by omega)]; exact (hL l l0 l1).2 j j0 j1)
theorem oth_r {l : Int} (ho : okL L) (hl : isL l) : -1 ≤ othL L l r ∧ othL L l r ≤ 40 := by
  have o := ho l hl.1 hl.2
  unfold othL
  by_cases c : 0 ≤ L.1 l
  · rcases fd_sp (fun i => decide (r.2 ≤ i ∨ ¬ L.2 l i = iL (r.1 i))) (h := 0) (n := L.1 l) (by omega) c with ⟨q, _⟩ | ⟨q1, q2, _⟩ <;> omega
  · rw [fd_z _ (by omega)]; omega
theorem c_X6_firstOther (hS : Sys S) (hL : LC L σ) (ho : okL L) (hr : RO 48 r σ) (hb : RB r) {l : Int} (hl : isL l) (hk : Φ [aI (iI (othL L l r))] σ) : S 81 [aR 41, aI (iI l), aR 48, aI (iI r.2)] σ Φ := by
  refine m_X6_firstOther hS (fun v hv hw => ?_)
  unfold vc_X6_firstOther_0
  have l0 : 0 ≤ l := hl.1
  have l1 : l < 4 := hl.2
  have o := ho l l0 l1
  have z := (hL l l0 l1).1
  unfold RB at hb
  have A : ∀ (d : Nat) (i : Int), (L.1 l - i).toNat = d → 0 ≤ i → i ≤ 40 → othL L l r = fd (fun i => decide (r.2 ≤ i ∨ ¬ L.2 l i = iL (r.1 i))) i (L.1 l) → v 3 [some (aR 41), some (aI (iI l)), some (aR 48), some (aI (iI r.2)), some (aI (iI i))] [] σ := by
    intro d
    induction d with
    | zero =>
      intro i hd h0 h1 he
      refine w_X6_firstOther_3 hS hv hw _ _ _ σ ?_
      unfold vc_X6_firstOther_3
      rw [fd_z _ (by omega)] at he
      try simp (disch := omega) only [iI_lit, iL_lit, iI_add, iI_sub, iI_mul, iI_neg, iI_lt, iI_le, iI_eq, iI_tn, iI_div, iI_l, iL_add, iL_sub, iL_mul, iL_neg, iL_le, iL_lt, iL_eq, iL_ite, vp_T, b2_ne0, b2_eq1, nn_imp, true_and, iI_ite, not_true_eq_false, not_false_eq_true, true_implies, false_implies, and_true, Int.reduceLT, Int.reduceLE, Int.reduceEq, or_false, false_or, true_or, or_true, false_and, and_false, z]
      refine ⟨fun _ => ?_, fun c => by omega⟩
      rw [he] at hk; exact hk
    | succ d ih =>
      intro i hd h0 h1 he
      refine w_X6_firstOther_3 hS hv hw _ _ _ σ ?_
      unfold vc_X6_firstOther_3
      have T : (r.2 ≤ i ∨ ¬ L.2 l i = iL (r.1 i)) → othL L l r = i := fun q => by rw [he]; exact fd_t _ (by omega) (decide_eq_true q)
      try simp (disch := omega) only [iI_lit, iL_lit, iI_add, iI_sub, iI_mul, iI_neg, iI_lt, iI_le, iI_eq, iI_tn, iI_div, iI_l, iL_add, iL_sub, iL_mul, iL_neg, iL_le, iL_lt, iL_eq, iL_ite, vp_T, b2_ne0, b2_eq1, nn_imp, true_and, iI_ite, not_true_eq_false, not_false_eq_true, true_implies, false_implies, and_true, Int.reduceLT, Int.reduceLE, Int.reduceEq, or_false, false_or, true_or, or_true, false_and, and_false, z]
      refine ⟨fun c => by omega, fun _ => ⟨fun c => ?_, fun c => ?_⟩⟩
      · rw [T (Or.inl c)] at hk; exact hk
      · have rb := hb.2.2 i h0 (by omega)
        have t := hr i h0 (by omega)
        have u := (hL l l0 l1).2 i h0 (by omega)
        try simp (disch := omega) only [iI_lit, iL_lit, iI_add, iI_sub, iI_mul, iI_neg, iI_lt, iI_le, iI_eq, iI_tn, iI_div, iI_l, iL_add, iL_sub, iL_mul, iL_neg, iL_le, iL_lt, iL_eq, iL_ite, vp_T, b2_ne0, b2_eq1, nn_imp, true_and, iI_ite, not_true_eq_false, not_false_eq_true, true_implies, false_implies, and_true, Int.reduceLT, Int.reduceLE, Int.reduceEq, or_false, false_or, true_or, or_true, false_and, and_false, t, u, lg_eq0]
        refine ⟨fun q => ih (i + 1) (by omega) (by omega) (by omega) (by rw [he, fd_s _ (by omega) (decide_eq_false (fun w => w.elim (fun x => by omega) (fun x => x q)))]), fun q => ?_⟩
        rw [T (Or.inr q)] at hk; exact hk
  rw [iI_lit]
  exact A _ 0 rfl (Int.le_refl 0) (by omega) rfl
end C28b
