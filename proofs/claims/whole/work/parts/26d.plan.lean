def p0 : Pn := (fun _ => false, fun _ => -1)
theorem p0n {h : Int} : ¬ p0.1 h = true := by show ¬ false = true; decide
theorem plI_0 {P : Pl} : plI P p0 := ⟨fun h hh => absurd hh p0n, fun _ _ => rfl, fun t ⟨h, _, _, hf, _⟩ => absurd hf p0n⟩
/-- planned ones stand at places that have been passed -/
def plB (P : Pl) (q : Int) (a : Pn) : Prop := ∀ h, a.1 h = true → 10 * P (8 * h) + P (8 * h + 1) < q
theorem hat_r {P : Pl} (hW : WF P) {r c : Int} : hat P r c = -1 ∨ (0 ≤ hat P r c ∧ hat P r c < P 280 ∧ P (8 * hat P r c) = r ∧ P (8 * hat P r c + 1) = c) := by
  unfold hat
  rcases fd_sp (fun h => decide (P (8 * h) = r ∧ P (8 * h + 1) = c)) (h := 0) (n := P 280) (by omega) (WF_0 hW).1.1 with ⟨q, _⟩ | ⟨q1, q2, q3, _⟩
  · exact Or.inl q
  · exact Or.inr ⟨q1, q2, (decide_eq_true_eq.mp q3).1, (decide_eq_true_eq.mp q3).2⟩
theorem plB_S {P : Pl} {q : Int} {a : Pn} {h : Int} (hB : plB P q a) (hq : 10 * P (8 * h) + P (8 * h + 1) = q) : plB P (q + 1) (plS P h a) := by
  unfold plS
  by_cases c : fdI P a h = -1
  · rw [if_pos c]; exact fun k hk => by have := hB k hk; omega
  · rw [if_neg c]
    intro k hk
    rcases wih_t.mp (show wih a.1 h k = true from hk) with e | e
    · have := hB k e; omega
    · subst e; omega
theorem plQ_I {P : Pl} (hW : WF P) {q : Int} {a : Pn} (q0 : 0 ≤ q) (hI : plI P a) (hB : plB P q a) : plI P (plQ P q a) ∧ plB P (q + 1) (plQ P q a) := by
  unfold plQ
  by_cases c : hat P (q / 10) (q % 10) = -1
  · rw [if_pos c]; exact ⟨hI, fun k hk => by have := hB k hk; omega⟩
  · rw [if_neg c]
    rcases hat_r hW (r := q / 10) (c := q % 10) with e | ⟨e1, e2, e3, e4⟩
    · exact absurd e c
    · by_cases f : (fr P (dd P) (-1)) (hat P (q / 10) (q % 10)) = true
      · rw [if_pos f]; exact ⟨plI_S hW hI e1 e2 f, plB_S hB (by omega)⟩
      · rw [if_neg f]; exact ⟨hI, fun k hk => by have := hB k hk; omega⟩
theorem plan_I {P : Pl} (hW : WF P) {q : Int} (q0 : 0 ≤ q) : plI P (lp (plQ P) 0 q p0) ∧ plB P q (lp (plQ P) 0 q p0) :=
  lp_inv (fun q a => plI P a ∧ plB P q a) _ rfl q0 ⟨plI_0, fun h hh => absurd hh p0n⟩ (fun k a k0 _ h => plQ_I hW k0 h.1 h.2)
/-- the class has drawn -/
def PD (P : Pl) (σ : St) : Prop := ∃ z, PR P (plan P) z σ ∧ CG 30 z (P 282) (P 283) σ
def PDd (P : Pl) (σ : St) : Prop := σ.1 0 12 = iI 0 ∨ (σ.1 0 12 = iI 1 ∧ PD P σ)
def FRd : Nat → Nat → Prop := fun k j => (13 ≤ k ∧ k ≤ 19) ∨ (27 ≤ k ∧ k ≤ 33) ∨ (k = 0 ∧ (j = 11 ∨ j = 12))
noncomputable def lst (P : Pl) (F : Int → Bool) (T : Int → Int) (n : Int) : Int := lp (fun h a => if F h = true ∧ a < T h then T h else a) 0 n (-1)
theorem lst_s {P : Pl} {F : Int → Bool} {T : Int → Int} {n : Int} (h : 0 ≤ n) : lst P F T (n + 1) = if F n = true ∧ lst P F T n < T n then T n else lst P F T n := lp_l _ _ h
noncomputable def qPlan (P : Pl) (h : Int) : Int := if ¬ (0 ≤ h ∧ h < P 280) then -1 else if (plan P).1 h = true then (plan P).2 h else -3
noncomputable def qPlanned (P : Pl) (a : Int) : Int := if a = 0 then pop (bm (plan P).1 (P 280)) else if a = 1 then lst P (plan P).1 (tt P (plan P)) (P 280) else if a = 2 then wS (shL P (plan P).1 (tt P (plan P))).1 (shL P (plan P).1 (tt P (plan P))).2 (P 282) else -1
section C26d
variable {S : Sp} {σ : St} {Φ : Rs} {P : Pl} {a : Pn} {z : Zr}
theorem PD_f {σ' : St} {c : Nat → Nat → Prop} (h : PD P σ) (hf : Fr c σ σ') (h1 : ∀ k j, 27 ≤ k → k ≤ 33 → ¬ c k j) : PD P σ' := by
  obtain ⟨z, r, g⟩ := h
  exact ⟨z, PR_f r hf (fun k j q => h1 _ _ (by omega) (by omega)), CG_f g hf (fun k j q => h1 _ _ (by omega) (by omega))⟩
theorem PDd_f {σ' : St} {c : Nat → Nat → Prop} (h : PDd P σ) (hf : Fr c σ σ') (h1 : ∀ k j, 27 ≤ k → k ≤ 33 → ¬ c k j) (h2 : ¬ c 0 12) : PDd P σ' := by
  unfold PDd
  rw [hf.1 0 12 h2]
  rcases h with h | ⟨h, q⟩
  · exact Or.inl h
  · exact Or.inr ⟨h, PD_f q hf h1⟩
theorem c_X3_draw (hS : Sys S) (hC : CP 1 P σ) (hW : WF P) (hK : RK P σ) (hk : ∀ σ', Fr FPR σ σ' → PD P σ' → Φ [] σ') : S 48 [aR 27] σ Φ := by
  refine m_X3_draw hS (fun v hv hw => ?_)
  have g0 := WF_0 hW
  unfold vc_X3_draw_0
  refine c_J7_fillI hS isArr28 (fun σ1 f1 c1 => ⟨rfl, ?_⟩)
  refine c_J7_fillI hS isArr29 (fun σ2 f2 c2 => ⟨rfl, ?_⟩)
  intro σ3 e3
  refine m_X7_clear hS isSh_30 (fun v2 hv2 hw2 => ?_)
  unfold vc_X7_clear_0
  intro σ4 e4
  refine ⟨rfl, ?_⟩
  have F1 : Fr FPR σ σ1 := Fr_mo f1 (fun k j q => by unfold FPR; omega)
  have F2 : Fr FPR σ1 σ2 := Fr_mo f2 (fun k j q => by unfold FPR; omega)
  have F4 : Fr FPR σ2 σ4 := by rw [e4, e3]; exact Fr_up (Fr_up Fr_rf (by unfold FPR; omega)) (by unfold FPR; omega)
  have CC : ∀ {σ'}, Fr FPR σ σ' → CP 1 P σ' := fun f => CP_f hC f (fun k j x y => by unfold FPR; omega)
  have KK : ∀ {σ'}, Fr FPR σ σ' → RK P σ' := fun f => RK_f hK f (fun k j x y => by unfold FPR; omega)
  have R4 : PR P p0 z0 σ4 := by
    refine ⟨⟨fun h hh => ?_, fun h hh => ?_, ?_⟩, ⟨fun i i0 i1 => absurd i1 (by show ¬ i < 0; omega), ?_⟩, okZ_0, fun t => ?_, fun t => ?_, ?_⟩
    · rw [e4, up_n (by omega), e3, up_n (by omega), f2.1 _ _ (by omega), c1 h hh, iI_lit, iI_neg]; rfl
    · rw [e4, up_n (by omega), e3, up_n (by omega), c2 h hh, iI_lit, iI_neg]; rfl
    · rw [e4, up_n (by omega), e3, up_h rfl, iI_lit, ← bm_z (fun _ => false)]
      refine (eq_bm (by omega) (fun k k0 k1 => ?_))
      rw [bs_bm (by omega)]
      show (decide (k < 0) && false) = (decide (k < P 280) && false)
      rw [Bool.and_false, Bool.and_false]
    · rw [e4, up_h rfl, iI_lit]; rfl
    · constructor
      · rintro ⟨i, i0, i1, _⟩; exact absurd i1 (by show ¬ i < 0; omega)
      · rintro ⟨h, _, _, hf, _⟩; exact absurd hf p0n
    · have e1 : shk z0.1 z0.2 (P 282) t = 0 := lp_z _ _ (by show (0 : Int) ≤ 0; omega)
      rw [e1]
      exact (lp_skip (f := fun h => if p0.1 h = true then con P h (tt P p0 h) (P 282) t else 0) (fun i _ _ => if_neg p0n)).symm
    · exact (lp_skip (f := fun h => if p0.1 h = true then cnS P h else 0) (fun i _ _ => if_neg p0n)).symm
  -- a row's columns
  have LC : ∀ (r : Int), (0 ≤ r ∧ r ≤ 4) → (∀ σ5 z, Fr FPR σ σ5 → PR P (lp (plQ P) 0 (10 * (r + 1)) p0) z σ5 → v 30 [some (aR 27), some (aI (iI (r + 1))), none, none] [] σ5) → ∀ (d : Nat) (c : Int) (σ5 : St) (z : Zr), (10 - c).toNat = d → 0 ≤ c → c ≤ 10 → Fr FPR σ σ5 → PR P (lp (plQ P) 0 (10 * r + c) p0) z σ5 → v 41 [some (aR 27), some (aI (iI r)), some (aI (iI c)), none] [] σ5 := by
    intro r hr hend d
    induction d with
    | zero =>
      intro c σ5 z hd c0 c1 hf hR
      refine w_X3_draw_41 hS hv hw _ _ σ5 ?_
      unfold vc_X3_draw_41
      have q : c = 10 := by omega
      subst q
      try simp (disch := omega) only [iI_lit, iL_lit, iI_add, iI_sub, iI_mul, iI_neg, iI_lt, iI_le, iI_eq, iI_tn, iI_div, iI_l, iL_add, iL_sub, iL_mul, iL_neg, iL_le, iL_lt, iL_eq, iL_ite, vp_T, b2_ne0, b2_eq1, nn_imp, true_and, iI_ite, not_true_eq_false, not_false_eq_true, true_implies, false_implies, and_true, Int.reduceLT, Int.reduceLE, Int.reduceEq, or_false, false_or, true_or, or_true, false_and, and_false, sh1]
      exact hend σ5 z hf (by rw [show 10 * (r + 1) = 10 * r + 10 by omega]; exact hR)
    | succ d ih =>
      intro c σ5 z hd c0 c1 hf hR
      refine w_X3_draw_41 hS hv hw _ _ σ5 ?_
      unfold vc_X3_draw_41
      try simp (disch := omega) only [iI_lit, iL_lit, iI_add, iI_sub, iI_mul, iI_neg, iI_lt, iI_le, iI_eq, iI_tn, iI_div, iI_l, iL_add, iL_sub, iL_mul, iL_neg, iL_le, iL_lt, iL_eq, iL_ite, vp_T, b2_ne0, b2_eq1, nn_imp, true_and, iI_ite, not_true_eq_false, not_false_eq_true, true_implies, false_implies, and_true, Int.reduceLT, Int.reduceLE, Int.reduceEq, or_false, false_or, true_or, or_true, false_and, and_false, sh1]
      refine ⟨fun e => by omega, fun _ => ?_⟩
      have cp := CC hf
      have kk := KK hf
      have pi := plan_I hW (q := 10 * r + c) (by omega)
      have i : ∀ σ6 z', Fr FPR σ σ6 → PR P (plQ P (10 * r + c) (lp (plQ P) 0 (10 * r + c) p0)) z' σ6 → v 41 [some (aR 27), some (aI (iI r)), some (aI (iI (c + 1))), none] [] σ6 := fun σ6 z' f r6 => ih (c + 1) σ6 z' (by omega) (by omega) (by omega) f (by rw [show 10 * r + (c + 1) = (10 * r + c) + 1 by omega, lp_l _ _ (by omega)]; exact r6)
      generalize lp (plQ P) 0 (10 * r + c) p0 = aa at hR pi i
      unfold plQ at i
      rw [show (10 * r + c) / 10 = r by omega, show (10 * r + c) % 10 = c by omega] at i
      refine c_X2_holeAt hS isPat_1 cp hW (by omega) (by omega) ⟨_, rfl, ?_⟩
      have hh : -1 ≤ hat P r c ∧ hat P r c < 20 := by rcases hat_r hW (r := r) (c := c) with e | e <;> omega
      try simp (disch := omega) only [iI_lit, iL_lit, iI_add, iI_sub, iI_mul, iI_neg, iI_lt, iI_le, iI_eq, iI_tn, iI_div, iI_l, iL_add, iL_sub, iL_mul, iL_neg, iL_le, iL_lt, iL_eq, iL_ite, vp_T, b2_ne0, b2_eq1, nn_imp, true_and, iI_ite, not_true_eq_false, not_false_eq_true, true_implies, false_implies, and_true, Int.reduceLT, Int.reduceLE, Int.reduceEq, or_false, false_or, true_or, or_true, false_and, and_false]
      refine ⟨fun e => ?_, fun e => ?_⟩
      · rw [if_pos e] at i; exact i σ5 z hf hR
      · rw [if_neg e] at i
        rcases hat_r hW (r := r) (c := c) with q | ⟨q1, q2, q3, q4⟩
        · exact absurd q e
        · have b4 : σ5.1 13 4 = bm (fr P (dd P) (-1)) (P 280) := kk.1.2.2.1.1
          try simp (disch := omega) only [iI_lit, iL_lit, iI_add, iI_sub, iI_mul, iI_neg, iI_lt, iI_le, iI_eq, iI_tn, iI_div, iI_l, iL_add, iL_sub, iL_mul, iL_neg, iL_le, iL_lt, iL_eq, iL_ite, vp_T, b2_ne0, b2_eq1, nn_imp, true_and, iI_ite, not_true_eq_false, not_false_eq_true, true_implies, false_implies, and_true, Int.reduceLT, Int.reduceLE, Int.reduceEq, or_false, false_or, true_or, or_true, false_and, and_false, b4, bs_0, bs_1, bs_bm, Bool.and_eq_true, decide_eq_true_eq, Bool.not_eq_false, Bool.not_eq_true]
          refine ⟨fun f => ?_, fun f => ?_⟩
          · rw [if_neg (fun w => f ⟨by omega, by omega, q2, w⟩)] at i; exact i σ5 z hf hR
          · rw [if_pos f.2.2.2] at i
            refine c_X3_settle hS cp hW kk hR pi.1 q1 q2 f.2.2.2 (fun w => ?_) (fun σ6 z' f6 r6 => ⟨rfl, i σ6 z' (Fr_tr hf f6) r6⟩)
            have := pi.2 _ w
            omega
  have LR : ∀ (d : Nat) (r : Int) (σ5 : St) (z : Zr), (5 - r).toNat = d → 0 ≤ r → r ≤ 5 → Fr FPR σ σ5 → PR P (lp (plQ P) 0 (10 * r) p0) z σ5 → v 30 [some (aR 27), some (aI (iI r)), none, none] [] σ5 := by
    intro d
    induction d with
    | zero =>
      intro r σ5 z hd c0 c1 hf hR
      refine w_X3_draw_30 hS hv hw _ σ5 ?_
      unfold vc_X3_draw_30
      have q : r = 5 := by omega
      subst q
      have cp := CC hf
      have w0 : σ5.1 4 (0 : Int).toNat = iI (P 282) := CP_r cp (by omega)
      have w1 : σ5.1 4 (1 : Int).toNat = iI (P 283) := CP_r cp (by omega)
      try simp (disch := omega) only [iI_lit, iL_lit, iI_add, iI_sub, iI_mul, iI_neg, iI_lt, iI_le, iI_eq, iI_tn, iI_div, iI_l, iL_add, iL_sub, iL_mul, iL_neg, iL_le, iL_lt, iL_eq, iL_ite, vp_T, b2_ne0, b2_eq1, nn_imp, true_and, iI_ite, not_true_eq_false, not_false_eq_true, true_implies, false_implies, and_true, Int.reduceLT, Int.reduceLE, Int.reduceEq, or_false, false_or, true_or, or_true, false_and, and_false, sh0, w0, w1]
      refine c_X7_weigh hS isSh_30 hR.2.1 hR.2.2.1 (by omega) (by omega) (fun σ6 f6 g6 => ⟨rfl, ?_⟩)
      refine hk σ6 (Fr_tr hf (Fr_mo f6 (fun k j q => by unfold FPR; omega))) ⟨z, ?_, g6⟩
      obtain ⟨⟨b1, b2, b3⟩, b4, b5⟩ := hR
      refine ⟨⟨fun h hh => ?_, fun h hh => ?_, ?_⟩, g6.1, b5⟩
      · rw [f6.1 _ _ (by omega)]; exact b1 h hh
      · rw [f6.1 _ _ (by omega)]; exact b2 h hh
      · rw [f6.1 _ _ (by omega)]; exact b3
    | succ d ih =>
      intro r σ5 z hd c0 c1 hf hR
      refine w_X3_draw_30 hS hv hw _ σ5 ?_
      unfold vc_X3_draw_30
      try simp (disch := omega) only [iI_lit, iL_lit, iI_add, iI_sub, iI_mul, iI_neg, iI_lt, iI_le, iI_eq, iI_tn, iI_div, iI_l, iL_add, iL_sub, iL_mul, iL_neg, iL_le, iL_lt, iL_eq, iL_ite, vp_T, b2_ne0, b2_eq1, nn_imp, true_and, iI_ite, not_true_eq_false, not_false_eq_true, true_implies, false_implies, and_true, Int.reduceLT, Int.reduceLE, Int.reduceEq, or_false, false_or, true_or, or_true, false_and, and_false, sh0]
      refine ⟨fun e => by omega, fun _ => ?_⟩
      exact LC r (by omega) (fun σ6 z' f6 r6 => ih (r + 1) σ6 z' (by omega) (by omega) (by omega) f6 r6) _ 0 σ5 z rfl (by omega) (by omega) hf (by rw [Int.add_zero]; exact hR)
  rw [iI_lit]
  exact LR _ 0 σ4 z0 rfl (by omega) (by omega) (Fr_tr (Fr_tr F1 F2) F4) (by rw [Int.mul_zero, lp_z _ _ (Int.le_refl 0)]; exact R4)
theorem c_X8_drawn (hS : Sys S) (hC : CP 1 P σ) (hW : WF P) (hR : RKd P σ) (hD : PDd P σ) (hk : ∀ σ', Fr FRd σ σ' → CP 1 P σ' → RKd P σ' → PD P σ' → σ'.1 0 12 = iI 1 → Φ [aR 27] σ') : S 132 [aR 0] σ Φ := by
  refine m_X8_drawn hS (fun v hv hw => ?_)
  unfold vc_X8_drawn_0
  rcases hD with h | ⟨h, q⟩
  · try simp (disch := omega) only [iI_lit, iL_lit, iI_add, iI_sub, iI_mul, iI_neg, iI_lt, iI_le, iI_eq, iI_tn, iI_div, iI_l, iL_add, iL_sub, iL_mul, iL_neg, iL_le, iL_lt, iL_eq, iL_ite, vp_T, b2_ne0, b2_eq1, nn_imp, true_and, iI_ite, not_true_eq_false, not_false_eq_true, true_implies, false_implies, and_true, Int.reduceLT, Int.reduceLE, Int.reduceEq, or_false, false_or, true_or, or_true, false_and, and_false, h]
    refine c_X8_reckoned hS hC hW hR (fun σ1 f1 c1 k1 q1 => ⟨rfl, ?_⟩)
    refine c_X3_draw hS c1 hW k1 (fun σ2 f2 d2 => ⟨rfl, fun σ3 e3 => ?_⟩)
    have G3 : Fr (fun k j => k = 0 ∧ j = 12) σ2 σ3 := by rw [e3]; exact Fr_up Fr_rf (by omega)
    have F3 : Fr FRd σ σ3 := Fr_tr (Fr_tr (Fr_mo f1 (fun k j q => by unfold FRq at q; unfold FRd; omega)) (Fr_mo f2 (fun k j q => by unfold FPR at q; unfold FRd; omega))) (Fr_mo G3 (fun k j q => by unfold FRd; omega))
    refine hk σ3 F3 (CP_f (CP_f c1 f2 (fun k j x y => by unfold FPR; omega)) G3 (fun k j x y => by omega)) ?_ (PD_f d2 G3 (fun k j x y => by omega)) (by rw [e3]; exact up_h rfl)
    exact RKd_f (RKd_f (RKd_of k1 q1) f2 (fun k j x y => by unfold FPR; omega) (by unfold FPR; omega)) G3 (fun k j x y => by omega) (by omega)
  · try simp (disch := omega) only [iI_lit, iL_lit, iI_add, iI_sub, iI_mul, iI_neg, iI_lt, iI_le, iI_eq, iI_tn, iI_div, iI_l, iL_add, iL_sub, iL_mul, iL_neg, iL_le, iL_lt, iL_eq, iL_ite, vp_T, b2_ne0, b2_eq1, nn_imp, true_and, iI_ite, not_true_eq_false, not_false_eq_true, true_implies, false_implies, and_true, Int.reduceLT, Int.reduceLE, Int.reduceEq, or_false, false_or, true_or, or_true, false_and, and_false, h]
    exact hk σ Fr_rf hC hR q h
theorem c_X3_latest (hS : Sys S) (hC : CP 1 P σ) (hW : WF P) (hR : PR P a z σ) (hb : ∀ h, a.1 h = true → 0 ≤ tt P a h ∧ tt P a h ≤ 15000) (hk : Φ [aI (iI (lst P a.1 (tt P a) (P 280)))] σ) : S 52 [aR 27] σ Φ := by
  refine m_X3_latest hS (fun v hv hw => ?_)
  have g0 := WF_0 hW
  unfold vc_X3_latest_0
  have L : ∀ (d : Nat) (h : Int), (P 280 - h).toNat = d → 0 ≤ h → h ≤ P 280 → v 4 [some (aR 27), some (aI (iI (lst P a.1 (tt P a) h))), some (aI (iI h))] [] σ := by
    intro d
    induction d with
    | zero =>
      intro h hd h0 h1
      refine w_X3_latest_4 hS hv hw _ _ σ ?_
      unfold vc_X3_latest_4
      have q : h = P 280 := by omega
      subst q
      try simp (disch := omega) only [iI_lit, iL_lit, iI_add, iI_sub, iI_mul, iI_neg, iI_lt, iI_le, iI_eq, iI_tn, iI_div, iI_l, iL_add, iL_sub, iL_mul, iL_neg, iL_le, iL_lt, iL_eq, iL_ite, vp_T, b2_ne0, b2_eq1, nn_imp, true_and, iI_ite, not_true_eq_false, not_false_eq_true, true_implies, false_implies, and_true, Int.reduceLT, Int.reduceLE, Int.reduceEq, or_false, false_or, true_or, or_true, false_and, and_false, CP_n hC]
      exact ⟨fun _ => hk, fun c => by omega⟩
    | succ d ih =>
      intro h hd h0 h1
      refine w_X3_latest_4 hS hv hw _ _ σ ?_
      unfold vc_X3_latest_4
      have i := ih (h + 1) (by omega) (by omega) (by omega)
      rw [lst_s h0] at i
      have t9 := hR.1.2.1 h (by omega)
      have lr : -1 ≤ lst P a.1 (tt P a) h ∧ lst P a.1 (tt P a) h ≤ 15000 := by
        unfold lst
        refine lp_inv (f := fun h b => if a.1 h = true ∧ b < tt P a h then tt P a h else b) (fun _ b => -1 ≤ b ∧ b ≤ 15000) _ rfl h0 (by omega) (fun k b k0 k1 hb2 => ?_)
        by_cases c : a.1 k = true ∧ b < tt P a k
        · rw [if_pos c]; have := hb k c.1; omega
        · rw [if_neg c]; exact hb2
      by_cases c : a.1 h = true
      · rw [if_pos c] at t9
        have tb := hb h c
        try simp (disch := omega) only [iI_lit, iL_lit, iI_add, iI_sub, iI_mul, iI_neg, iI_lt, iI_le, iI_eq, iI_tn, iI_div, iI_l, iL_add, iL_sub, iL_mul, iL_neg, iL_le, iL_lt, iL_eq, iL_ite, vp_T, b2_ne0, b2_eq1, nn_imp, true_and, iI_ite, not_true_eq_false, not_false_eq_true, true_implies, false_implies, and_true, Int.reduceLT, Int.reduceLE, Int.reduceEq, or_false, false_or, true_or, or_true, false_and, and_false, CP_n hC, t9]
        refine ⟨fun e => by omega, fun _ => ?_⟩
        by_cases e : lst P a.1 (tt P a) h < tt P a h
        · rw [if_pos ⟨c, e⟩] at i; rw [if_pos e]; exact i
        · rw [if_neg (fun w => e w.2)] at i; rw [if_neg e]; exact i
      · rw [if_neg c] at t9
        rw [if_neg (fun w => c w.1)] at i
        try simp (disch := omega) only [iI_lit, iL_lit, iI_add, iI_sub, iI_mul, iI_neg, iI_lt, iI_le, iI_eq, iI_tn, iI_div, iI_l, iL_add, iL_sub, iL_mul, iL_neg, iL_le, iL_lt, iL_eq, iL_ite, vp_T, b2_ne0, b2_eq1, nn_imp, true_and, iI_ite, not_true_eq_false, not_false_eq_true, true_implies, false_implies, and_true, Int.reduceLT, Int.reduceLE, Int.reduceEq, or_false, false_or, true_or, or_true, false_and, and_false, CP_n hC, t9]
        refine ⟨fun e => by omega, fun _ => ?_⟩
        rw [if_neg (by omega)]; exact i
  have := L _ 0 rfl (by omega) (by omega)
  rw [show lst P a.1 (tt P a) 0 = -1 from lp_z _ _ (Int.le_refl 0)] at this
  rw [iI_lit, iI_lit, iI_neg]
  exact this
end C26d
