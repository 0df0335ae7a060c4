theorem fdI_r {P : Pl} (hW : WF P) {a : Pn} {h : Int} : fdI P a h = -1 ∨ (0 ≤ fdI P a h ∧ 0 ≤ fdI P a h * P 284 ∧ fdI P a h * P 284 ≤ 999 ∧ okI P a.1 (tt P a) h (sg P (dd P) (-1) h + fdI P a h * P 284)) := by
  have g0 := WF_0 hW
  unfold fdI
  have hm : 0 ≤ 999 / P 284 := Int.ediv_nonneg (by omega) (by omega)
  rcases fd_sp (fun k => dec (okI P a.1 (tt P a) h (sg P (dd P) (-1) h + k * P 284))) (h := 0) (n := 999 / P 284 + 1) (by omega) (by omega) with ⟨q, _⟩ | ⟨q1, q2, q3, _⟩
  · exact Or.inl q
  · refine Or.inr ⟨q1, Int.mul_nonneg q1 (by omega), ?_, dec_t.mp q3⟩
    have e := Int.mul_le_mul_of_nonneg_right (show fd (fun k => dec (okI P a.1 (tt P a) h (sg P (dd P) (-1) h + k * P 284))) 0 (999 / P 284 + 1) ≤ 999 / P 284 by omega) (show (0 : Int) ≤ P 284 by omega)
    have e2 := Int.ediv_mul_le 999 (show P 284 ≠ 0 by omega)
    omega
theorem plI_S {P : Pl} (hW : WF P) {a : Pn} (hI : plI P a) {h : Int} (h0 : 0 ≤ h) (h1 : h < P 280) (hf : (fr P (dd P) (-1)) h = true) : plI P (plS P h a) := by
  unfold plS
  by_cases c : fdI P a h = -1
  · rw [if_pos c]; exact hI
  · rw [if_neg c]
    rcases fdI_r hW (a := a) (h := h) with q | ⟨q1, q2, q3, q4⟩
    · exact absurd q c
    · refine ⟨fun k hk => ?_, fun k hk => ?_, ?_⟩
      · by_cases e : k = h
        · subst e
          exact ⟨⟨h0, h1⟩, hf, by show 0 ≤ pu a.2 k _ k; rw [pu_e rfl]; exact q2, by show pu a.2 k _ k ≤ 999; rw [pu_e rfl]; exact q3⟩
        · have hk : wih a.1 h k = true := hk
          rw [wih_n e] at hk
          obtain ⟨b1, b2, b3, b4⟩ := hI.1 k hk
          exact ⟨b1, b2, by show 0 ≤ pu a.2 h _ k; rw [pu_n e]; exact b3, by show pu a.2 h _ k ≤ 999; rw [pu_n e]; exact b4⟩
      · have hk : ¬ wih a.1 h k = true := hk
        rw [wih_t] at hk
        show pu a.2 h _ k = -1
        rw [pu_n (fun z => hk (Or.inr z))]
        exact hI.2.1 k (fun z => hk (Or.inl z))
      · have e : tt P (wih a.1 h, pu a.2 h (fdI P a h * P 284)) = pu (tt P a) h (sg P (dd P) (-1) h + fdI P a h * P 284) := tt_pu (F := a.1)
        rw [e]; exact q4.2
theorem fr_fl {P : Pl} (hW : WF P) {h : Int} (h0 : 0 ≤ h) (h1 : h < P 280) (hf : (fr P (dd P) (-1)) h = true) : ¬ fl P h = 0 := by
  have gh := WF_h hW h0 h1
  have k5 := (fr_i.mp hf).2.2
  intro q
  exact k5 ((kfl_0 (k := P (8 * h + 2)) (c := P (8 * h + 3)) (by omega) (by omega)).mp (by unfold fl at q; omega))
theorem isArr28 : isArr 1 28 20 := ⟨rfl, rfl, by omega⟩
theorem isArr29 : isArr 1 29 20 := ⟨rfl, rfl, by omega⟩
section C26c
variable {S : Sp} {σ : St} {Φ : Rs} {P : Pl} {a : Pn} {z : Zr}
theorem PR_f {σ' : St} {c : Nat → Nat → Prop} (h : PR P a z σ) (hf : Fr c σ σ') (h1 : ∀ k j, 28 ≤ k ∧ k ≤ 33 ∨ (k = 27 ∧ j = 5) → ¬ c k j) : PR P a z σ' := by
  obtain ⟨⟨a1, a2, a3⟩, b, r⟩ := h
  refine ⟨⟨fun h hh => ?_, fun h hh => ?_, ?_⟩, CS_f b hf (fun k j q => h1 _ _ (by omega)), r⟩
  · rw [hf.1 _ _ (h1 _ _ (by omega))]; exact a1 h hh
  · rw [hf.1 _ _ (h1 _ _ (by omega))]; exact a2 h hh
  · rw [hf.1 _ _ (h1 _ _ (by omega))]; exact a3
theorem c_X3_settle (hS : Sys S) (hC : CP 1 P σ) (hW : WF P) (hK : RK P σ) (hR : PR P a z σ) (hI : plI P a) {h : Int} (h0 : 0 ≤ h) (h1 : h < P 280) (hfr : (fr P (dd P) (-1)) h = true) (hF : ¬ a.1 h = true) (hk : ∀ σ' z', Fr FPR σ σ' → PR P (plS P h a) z' σ' → Φ [] σ') : S 49 [aR 27, aI (iI h)] σ Φ := by
  refine m_X3_settle hS (fun v hv hw => ?_)
  have g0 := WF_0 hW
  have hG := hK.1.2.2.2
  have hf0 := fr_fl hW h0 h1 hfr
  have r1 := fl_r hW h0 h1
  have r2 := sl_r hW h0 h1
  have sr := sg_r hW hG h0 h1
  have sf := (fr_i.mp hfr).1
  unfold vc_X3_settle_0
  rw [hR.1.2.2]
  refine c_X2_reliefOf hS isPat_1 isArr29 hC hW (F := a.1) (T := tt P a) (fun k k0 k1 kf => ⟨by rw [hR.1.2.1 k (by omega), if_pos kf], by have := tt_r hW hG hI kf; omega⟩) h0 h1 (fun x hx hrl => ⟨_, rfl, ?_⟩)
  try simp (disch := omega) only [iI_lit, iL_lit, iI_add, iI_sub, iI_mul, iI_neg, iI_lt, iI_le, iI_eq, iI_tn, iI_div, iI_l, iL_add, iL_sub, iL_mul, iL_neg, iL_le, iL_lt, iL_eq, iL_ite, vp_T, b2_ne0, b2_eq1, nn_imp, true_and, iI_ite, not_true_eq_false, not_false_eq_true, true_implies, false_implies, and_true, Int.reduceLT, Int.reduceLE, Int.reduceEq, or_false, false_or, true_or, or_true, false_and, and_false]
  refine ⟨fun c => ?_, fun c => ?_⟩
  · refine c_X2_firstLoadOf hS isPat_1 hC hW h0 h1 ⟨_, rfl, fun σ1 e1 => ?_⟩
    have G1 : Fr (fun k j => k = 27 ∧ (j = 6 ∨ j = 7)) σ σ1 := by rw [e1]; exact Fr_up Fr_rf (by omega)
    have C1 := CP_f hC G1 (fun k j x y => by omega)
    refine c_X2_secondLoadOf hS isPat_1 C1 hW h0 h1 ⟨_, rfl, fun σ2 e2 => ?_⟩
    have G2 : Fr (fun k j => k = 27 ∧ (j = 6 ∨ j = 7)) σ σ2 := by rw [e2]; exact Fr_up G1 (by omega)
    have C2 := CP_f hC G2 (fun k j x y => by omega)
    have K2 := RK_f hK G2 (fun k j x y => by omega)
    have R2 := PR_f hR G2 (fun k j q => by omega)
    have h6 : σ2.1 27 6 = iI (fl P h) := by rw [e2, up_m (by omega), e1]; exact up_h rfl
    have h7 : σ2.1 27 7 = iI (sl P h) := by rw [e2]; exact up_h rfl
    have w2 : σ2.1 4 (2 : Int).toNat = iI (P 284) := CP_r C2 (by omega)
    have mx : (if P 284 < 1 then 1 else P 284) = P 284 := by rw [if_neg (by omega)]
    have s14 : σ2.1 14 h.toNat = iI (sg P (dd P) (-1) h) := by rw [K2.1.1 h (by omega), sgA_n h1, rp_n (by omega)]
    try simp (disch := omega) only [iI_lit, iL_lit, iI_add, iI_sub, iI_mul, iI_neg, iI_lt, iI_le, iI_eq, iI_tn, iI_div, iI_l, iL_add, iL_sub, iL_mul, iL_neg, iL_le, iL_lt, iL_eq, iL_ite, vp_T, b2_ne0, b2_eq1, nn_imp, true_and, iI_ite, not_true_eq_false, not_false_eq_true, true_implies, false_implies, and_true, Int.reduceLT, Int.reduceLE, Int.reduceEq, or_false, false_or, true_or, or_true, false_and, and_false, w2, mx]
    -- the delays, one after the other
    have hm : 0 ≤ 999 / P 284 := Int.ediv_nonneg (by omega) (by omega)
    have hle : ∀ k, 0 ≤ k → (k ≤ 999 / P 284 ↔ k * P 284 ≤ 999) := fun k k0 => by
      rw [Int.le_ediv_iff_mul_le (by omega)]
    have L : ∀ (d : Nat) (k : Int), (999 / P 284 + 1 - k).toNat = d → 0 ≤ k → k ≤ 999 / P 284 + 1 → fdI P a h = fd (fun k => dec (okI P a.1 (tt P a) h (sg P (dd P) (-1) h + k * P 284))) k (999 / P 284 + 1) → v 64 [some (aR 27), some (aI (iI h)), some (aI (iI x)), some (aI (iI (P 284))), some (aI (iI (k * P 284))), none] [] σ2 := by
      intro d
      induction d with
      | zero =>
        intro k hd k0 k1 he
        refine w_X3_settle_64 hS hv hw _ _ _ _ σ2 ?_
        unfold vc_X3_settle_64
        have q : k = 999 / P 284 + 1 := by omega
        have hgt := (not_congr (hle k k0)).mp (by omega)
        have hkp : 0 ≤ k * P 284 := Int.mul_nonneg k0 (by omega)
        have hkb : k * P 284 ≤ 2000 := by
          have e := (hle (k - 1) (by omega)).mp (by omega)
          rw [Int.sub_mul, Int.one_mul] at e; omega
        rw [fd_z _ (by omega)] at he
        try simp (disch := omega) only [iI_lit, iL_lit, iI_add, iI_sub, iI_mul, iI_neg, iI_lt, iI_le, iI_eq, iI_tn, iI_div, iI_l, iL_add, iL_sub, iL_mul, iL_neg, iL_le, iL_lt, iL_eq, iL_ite, vp_T, b2_ne0, b2_eq1, nn_imp, true_and, iI_ite, not_true_eq_false, not_false_eq_true, true_implies, false_implies, and_true, Int.reduceLT, Int.reduceLE, Int.reduceEq, or_false, false_or, true_or, or_true, false_and, and_false]
        refine ⟨fun _ => hk σ2 z (Fr_mo G2 (fun k j q => by unfold FPR; omega)) ?_, fun c => by omega⟩
        unfold plS; rw [if_pos he]; exact R2
      | succ d ih =>
        intro k hd k0 k1 he
        refine w_X3_settle_64 hS hv hw _ _ _ _ σ2 ?_
        unfold vc_X3_settle_64
        have hk9 := (hle k k0).mp (by omega)
        have hkp : 0 ≤ k * P 284 := Int.mul_nonneg k0 (by omega)
        have hrl := hrl (sg P (dd P) (-1) h + k * P 284) (by omega)
        have i := ih (k + 1) (by omega) (by omega) (by omega)
        rw [Int.add_mul, Int.one_mul] at i
        have NX : ¬ okI P a.1 (tt P a) h (sg P (dd P) (-1) h + k * P 284) → v 64 [some (aR 27), some (aI (iI h)), some (aI (iI x)), some (aI (iI (P 284))), some (aI (iI (k * P 284 + P 284))), none] [] σ2 := fun q => i (by rw [he, fd_s _ (by omega) (dec_f.mpr q)])
        generalize hin : k * P 284 = inn at hk9 hkp hrl NX
        try simp (disch := omega) only [iI_lit, iL_lit, iI_add, iI_sub, iI_mul, iI_neg, iI_lt, iI_le, iI_eq, iI_tn, iI_div, iI_l, iL_add, iL_sub, iL_mul, iL_neg, iL_le, iL_lt, iL_eq, iL_ite, vp_T, b2_ne0, b2_eq1, nn_imp, true_and, iI_ite, not_true_eq_false, not_false_eq_true, true_implies, false_implies, and_true, Int.reduceLT, Int.reduceLE, Int.reduceEq, or_false, false_or, true_or, or_true, false_and, and_false, s14]
        refine ⟨fun c => by omega, fun _ => ⟨fun c2 => NX (fun q => ?_), fun c2 => ?_⟩⟩
        · have := hrl.mpr q.1; omega
        · refine c_X3_isQuiet hS C2 hW R2 hI.2.2 h0 h1 hF hf0 h6 h7 (by omega) ⟨_, rfl, ?_⟩
          try simp (disch := omega) only [iI_lit, iL_lit, iI_add, iI_sub, iI_mul, iI_neg, iI_lt, iI_le, iI_eq, iI_tn, iI_div, iI_l, iL_add, iL_sub, iL_mul, iL_neg, iL_le, iL_lt, iL_eq, iL_ite, vp_T, b2_ne0, b2_eq1, nn_imp, true_and, iI_ite, not_true_eq_false, not_false_eq_true, true_implies, false_implies, and_true, Int.reduceLT, Int.reduceLE, Int.reduceEq, or_false, false_or, true_or, or_true, false_and, and_false, s14]
          refine ⟨fun q => NX (fun q2 => q (dec_t.mpr q2.2)), fun q => ?_⟩
          have hok : okI P a.1 (tt P a) h (sg P (dd P) (-1) h + inn) := ⟨hrl.mp ⟨by omega, by omega⟩, dec_t.mp q⟩
          have hfd : fdI P a h = k := by rw [he, fd_t _ (by omega) (dec_t.mpr (by rw [hin]; exact hok))]
          intro σ3 e3 σ4 e4
          have b5 : σ4.1 27 5 = bm a.1 (P 280) := by rw [e4, up_n (by omega), e3, up_n (by omega)]; exact R2.1.2.2
          rw [b5, bitO_i (by omega)]
          have eb := bm_bit (p := a.1) (n := P 280) (x := h) (by omega)
          unfold bit1 at eb
          rw [eb]
          intro σ5 e5
          have G5 : Fr (fun k j => k = 28 ∨ k = 29 ∨ (k = 27 ∧ j = 5)) σ2 σ5 := by rw [e5, e4, e3]; exact Fr_up (Fr_up (Fr_up Fr_rf (by omega)) (by omega)) (by omega)
          have C5 := CP_f C2 G5 (fun k j x y => by omega)
          have z5 := CS_f R2.2.1 G5 (fun k j q => by omega)
          have cs := csm_r (P := P) (F := a.1) h0 h1 hF
          have zc := R2.2.2.2.2.2
          refine c_X7_addAll hS isSh_30 C5 hW z5 R2.2.2.1 (by omega) h0 h1 (by omega) (fun σ6 f6 z6 => ⟨rfl, ?_⟩)
          have ok6 := okZ_addA hW h0 h1 (t := sg P (dd P) (-1) h + inn) (by omega) R2.2.2.1 (by omega)
          have G6 : Fr FPR σ5 σ6 := Fr_mo f6 (fun k j q => by unfold FS3 at q; unfold FPR; omega)
          refine hk σ6 (addA P h (sg P (dd P) (-1) h + inn) z) (Fr_tr (Fr_tr (Fr_mo G2 (fun k j q => by unfold FPR; omega)) (Fr_mo G5 (fun k j q => by unfold FPR; omega))) G6) ?_
          have epl : plS P h a = (wih a.1 h, pu a.2 h inn) := by unfold plS; rw [if_neg (by omega), hfd, hin]
          have ett : tt P (wih a.1 h, pu a.2 h inn) = pu (tt P a) h (sg P (dd P) (-1) h + inn) := tt_pu (F := a.1)
          rw [epl]
          have o28 : σ6.1 28 = σ3.1 28 := by rw [Fr_k f6 (fun j => by unfold FS3; omega), e5, up_n (by omega), e4, up_n (by omega)]
          have o29 : σ6.1 29 = σ4.1 29 := by rw [Fr_k f6 (fun j => by unfold FS3; omega), e5, up_n (by omega)]
          refine ⟨⟨fun g hg => ?_, fun g hg => ?_, ?_⟩, z6, ok6.1, fun t => ?_, fun t => ?_, ?_⟩
          · rw [o28, e3]
            show _ = iI (pu a.2 h inn g)
            by_cases q2 : g = h
            · subst q2; rw [up_h rfl, pu_e rfl]
            · rw [up_m (by omega), pu_n q2]; exact R2.1.1 g hg
          · rw [o29, e4, ett]
            show _ = iI (if wih a.1 h g = true then _ else _)
            by_cases q2 : g = h
            · subst q2; rw [up_h rfl, if_pos (wih_t.mpr (Or.inr rfl)), pu_e rfl]
            · rw [up_m (by omega), wih_n q2, pu_n q2, e3, up_n (by omega)]; exact R2.1.2.1 g hg
          · rw [f6.1 27 5 (by unfold FS3; omega), e5]; exact up_h rfl
          · rw [tin_addA R2.2.2.1.1.1, R2.2.2.2.1, ett]
            exact (stm_wih h0 h1 hF).symm
          · rw [shk_addA R2.2.2.1.1.1, R2.2.2.2.2.1, ett]
            exact (hsm_wih h0 h1 hF).symm
          · rw [cn_addA, zc]; exact (csm_wih h0 h1 hF).symm
    have := L _ 0 rfl (by omega) (by omega) rfl
    rw [Int.zero_mul] at this
    exact this
  · have hnone : fdI P a h = -1 := by
      rcases fdI_r hW (a := a) (h := h) with q | ⟨q1, q2, q3, q4⟩
      · exact q
      · have := (hrl _ (by omega)).mpr q4.1; omega
    refine hk σ z Fr_rf ?_
    unfold plS; rw [if_pos hnone]; exact hR
end C26c
