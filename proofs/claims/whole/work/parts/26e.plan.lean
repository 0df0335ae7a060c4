def FPL : Nat → Nat → Prop := fun k j => (53 ≤ k ∧ k ≤ 58) ∨ (k = 49 ∧ (j = 7 ∨ j = 8 ∨ j = 12 ∨ j = 18))
/-- the reference while it plans -/
def MR (P : Pl) (a : Pn) (σ : St) : Prop := ((∀ h, 0 ≤ h ∧ h < 20 → σ.1 53 h.toNat = iI (sgA P (dd P) (-1) h)) ∧ σ.1 49 7 = bm (fr P (dd P) (-1)) (P 280) ∧ Sg P (dd P) (-1) (sg P (dd P) (-1))) ∧ σ.1 49 18 = bm a.1 (P 280) ∧ ∀ h, a.1 h = true → σ.1 58 h.toNat = iI (a.2 h) ∧ σ.1 54 h.toNat = iI (tt P a h)
section C26e
variable {S : Sp} {σ : St} {Φ : Rs} {P : Pl} {a : Pn}
theorem MR_f {σ' : St} {c : Nat → Nat → Prop} (h : MR P a σ) (hf : Fr c σ σ') (h1 : ∀ k j, k = 53 ∨ k = 54 ∨ k = 58 ∨ (k = 49 ∧ (j = 7 ∨ j = 18)) → ¬ c k j) : MR P a σ' := by
  obtain ⟨⟨a1, a2, a3⟩, b, r⟩ := h
  refine ⟨⟨fun h hh => ?_, ?_, a3⟩, ?_, fun h hh => ⟨?_, ?_⟩⟩
  · rw [hf.1 _ _ (h1 _ _ (by omega))]; exact a1 h hh
  · rw [hf.1 _ _ (h1 _ _ (by omega))]; exact a2
  · rw [hf.1 _ _ (h1 _ _ (by omega))]; exact b
  · rw [hf.1 _ _ (h1 _ _ (by omega))]; exact (r h hh).1
  · rw [hf.1 _ _ (h1 _ _ (by omega))]; exact (r h hh).2
theorem c_X9_fits (hS : Sys S) (hM : MP 50 P σ) (hW : WF P) (hR : MR P a σ) (hI : plI P a) {h t : Int} (h0 : 0 ≤ h) (h1 : h < P 280) (hfr : (fr P (dd P) (-1)) h = true) (hF : ¬ a.1 h = true) (ht : σ.1 54 h.toNat = iI t) (hb : 0 ≤ t ∧ t ≤ 12000) (hk : ∀ σ', Fr FSH σ σ' → Φ [aI (b2 (dec (okI P a.1 (tt P a) h t) = true))] σ') : S 201 [aR 49, aI (iI h)] σ Φ := by
  refine m_X9_fits hS (fun v hv hw => ?_)
  have g0 := WF_0 hW
  have hG := hR.1.2.2
  have TB : ∀ k, a.1 k = true → 0 ≤ tt P a k ∧ tt P a k ≤ 10999 := fun k kf => tt_r hW hG hI kf
  have hN : ∀ σ', Fr FSH σ σ' → ¬ okI P a.1 (tt P a) h t → Φ [aI (iI 0)] σ' := fun σ' f q => by have hk := hk σ' f; rw [b2_f (fun z => q (dec_t.mp z)), iI_lit] at hk; exact hk
  have hY : ∀ σ', Fr FSH σ σ' → okI P a.1 (tt P a) h t → Φ [aI (iI 1)] σ' := fun σ' f q => by have hk := hk σ' f; rw [b2_t (dec_t.mpr q), iI_lit] at hk; exact hk
  unfold vc_X9_fits_0
  rw [hR.2.1]
  refine c_X9_isRelieved hS hM hW (F := a.1) (T := tt P a) (fun k k0 k1 kf => ⟨(hR.2.2 k kf).2, by have := TB k kf; omega⟩) h0 h1 ht (by omega) ⟨_, rfl, ?_⟩
  rw [hR.2.1]
  have eb := bm_bit (p := a.1) (n := P 280) (x := h) (by omega)
  unfold bit1 at eb
  try simp (disch := omega) only [iI_lit, iL_lit, iI_add, iI_sub, iI_mul, iI_neg, iI_lt, iI_le, iI_eq, iI_tn, iI_div, iI_l, iL_add, iL_sub, iL_mul, iL_neg, iL_le, iL_lt, iL_eq, iL_ite, vp_T, b2_ne0, b2_eq1, nn_imp, true_and, iI_ite, not_true_eq_false, not_false_eq_true, true_implies, false_implies, and_true, Int.reduceLT, Int.reduceLE, Int.reduceEq, or_false, false_or, true_or, or_true, false_and, and_false, eb]
  refine ⟨fun c => ?_, fun c => hN σ Fr_rf (fun q => c (dec_t.mpr q.1))⟩
  have hTn : ∀ k, 0 ≤ k → k < P 280 → wih a.1 h k = true → 0 ≤ pu (tt P a) h t k ∧ pu (tt P a) h t k ≤ 15000 := by
    intro k k0 k1 kf
    by_cases e : k = h
    · rw [pu_e e]; omega
    · rw [wih_n e] at kf; rw [pu_n e]; have := TB k kf; omega
  have ew : (fun k => a.1 k || decide (k = h)) = wih a.1 h := rfl
  rw [ew]
  refine c_X9_laysShots hS hM hW (F := wih a.1 h) (T := pu (tt P a) h t) (fun k k0 k1 kf => ⟨?_, hTn k k0 k1 kf⟩) (fun k k0 k1 kf => ?_) (fun σ1 f1 m1 => ⟨rfl, ?_⟩)
  · by_cases e : k = h
    · subst e; rw [pu_e rfl]; exact ht
    · rw [wih_n e] at kf; rw [pu_n e]; exact (hR.2.2 k kf).2
  · by_cases e : k = h
    · subst e; exact (fr_i.mp hfr).2.2
    · rw [wih_n e] at kf; exact (fr_i.mp (hI.1 k kf).2.1).2.2
  · have mp := MP_f hM f1 (fun j => by unfold FSH; omega)
    have ok : okZ (shL P (wih a.1 h) (pu (tt P a) h t)).1 (shL P (wih a.1 h) (pu (tt P a) h t)).2 := (shL_ok hW hTn (P 280) g0.1.1 (Int.le_refl _)).1
    refine c_X9_worstShake hS mp hW m1 ok ⟨_, rfl, ?_⟩
    have wr := wS_r ok (P 282)
    have oq := okQ_i hW hTn
    try simp (disch := omega) only [iI_lit, iL_lit, iI_add, iI_sub, iI_mul, iI_neg, iI_lt, iI_le, iI_eq, iI_tn, iI_div, iI_l, iL_add, iL_sub, iL_mul, iL_neg, iL_le, iL_lt, iL_eq, iL_ite, vp_T, b2_ne0, b2_eq1, nn_imp, true_and, iI_ite, not_true_eq_false, not_false_eq_true, true_implies, false_implies, and_true, Int.reduceLT, Int.reduceLE, Int.reduceEq, or_false, false_or, true_or, or_true, false_and, and_false, mp _]
    refine ⟨fun e => hN σ1 f1 (fun q => by have := oq.mpr q.2; omega), fun e => hY σ1 f1 ⟨dec_t.mp c, oq.mp (by omega)⟩⟩
theorem c_X9_plans (hS : Sys S) (hM : MP 50 P σ) (hW : WF P) (hR : MR P a σ) (hI : plI P a) {h : Int} (h0 : 0 ≤ h) (h1 : h < P 280) (hfr : (fr P (dd P) (-1)) h = true) (hF : ¬ a.1 h = true) (hk : ∀ σ', Fr FPL σ σ' → MR P (plS P h a) σ' → Φ [] σ') : S 202 [aR 49, aI (iI h)] σ Φ := by
  refine m_X9_plans hS (fun v hv hw => ?_)
  have g0 := WF_0 hW
  have hG := hR.1.2.2
  have sr := sg_r hW hG h0 h1
  have sf := (fr_i.mp hfr).1
  unfold vc_X9_plans_0
  have hm : 0 ≤ 999 / P 284 := Int.ediv_nonneg (by omega) (by omega)
  have hle : ∀ k, 0 ≤ k → (k ≤ 999 / P 284 ↔ k * P 284 ≤ 999) := fun k k0 => by
    rw [Int.le_ediv_iff_mul_le (by omega)]
  have L : ∀ (d : Nat) (k : Int) (σ1 : St), (999 / P 284 + 1 - k).toNat = d → 0 ≤ k → k ≤ 999 / P 284 + 1 → Fr FPL σ σ1 → MR P a σ1 → fdI P a h = fd (fun k => dec (okI P a.1 (tt P a) h (sg P (dd P) (-1) h + k * P 284))) k (999 / P 284 + 1) → v 2 [some (aR 49), some (aI (iI h)), some (aI (iI (k * P 284)))] [] σ1 := by
    intro d
    induction d with
    | zero =>
      intro k σ1 hd k0 k1 hf hr he
      refine w_X9_plans_2 hS hv hw _ _ σ1 ?_
      unfold vc_X9_plans_2
      have q : k = 999 / P 284 + 1 := by omega
      have hgt := (not_congr (hle k k0)).mp (by omega)
      have hkp : 0 ≤ k * P 284 := Int.mul_nonneg k0 (by omega)
      have hkb : k * P 284 ≤ 2000 := by
        have e := (hle (k - 1) (by omega)).mp (by omega)
        rw [Int.sub_mul, Int.one_mul] at e; omega
      rw [fd_z _ (by omega)] at he
      try simp (disch := omega) only [iI_lit, iL_lit, iI_add, iI_sub, iI_mul, iI_neg, iI_lt, iI_le, iI_eq, iI_tn, iI_div, iI_l, iL_add, iL_sub, iL_mul, iL_neg, iL_le, iL_lt, iL_eq, iL_ite, vp_T, b2_ne0, b2_eq1, nn_imp, true_and, iI_ite, not_true_eq_false, not_false_eq_true, true_implies, false_implies, and_true, Int.reduceLT, Int.reduceLE, Int.reduceEq, or_false, false_or, true_or, or_true, false_and, and_false]
      refine ⟨fun _ => hk σ1 hf ?_, fun c => by omega⟩
      unfold plS; rw [if_pos he]; exact hr
    | succ d ih =>
      intro k σ1 hd k0 k1 hf hr he
      refine w_X9_plans_2 hS hv hw _ _ σ1 ?_
      unfold vc_X9_plans_2
      have hk9 := (hle k k0).mp (by omega)
      have hkp : 0 ≤ k * P 284 := Int.mul_nonneg k0 (by omega)
      have mp := MP_f hM hf (fun j => by unfold FPL; omega)
      have s53 : σ1.1 53 h.toNat = iI (sg P (dd P) (-1) h) := by rw [hr.1.1 h (by omega), sgA_n h1]
      have i := fun σ2 => ih (k + 1) σ2 (by omega) (by omega) (by omega)
      rw [Int.add_mul, Int.one_mul] at i
      have NX : ∀ σ2, Fr FPL σ σ2 → MR P a σ2 → ¬ okI P a.1 (tt P a) h (sg P (dd P) (-1) h + k * P 284) → v 2 [some (aR 49), some (aI (iI h)), some (aI (iI (k * P 284 + P 284)))] [] σ2 := fun σ2 f r q => i σ2 f r (by rw [he, fd_s _ (by omega) (dec_f.mpr q)])
      generalize hin : k * P 284 = inn at hk9 hkp NX
      try simp (disch := omega) only [iI_lit, iL_lit, iI_add, iI_sub, iI_mul, iI_neg, iI_lt, iI_le, iI_eq, iI_tn, iI_div, iI_l, iL_add, iL_sub, iL_mul, iL_neg, iL_le, iL_lt, iL_eq, iL_ite, vp_T, b2_ne0, b2_eq1, nn_imp, true_and, iI_ite, not_true_eq_false, not_false_eq_true, true_implies, false_implies, and_true, Int.reduceLT, Int.reduceLE, Int.reduceEq, or_false, false_or, true_or, or_true, false_and, and_false, s53]
      refine ⟨fun c => by omega, fun _ σ2 e2 => ?_⟩
      have f2 : Fr FPL σ1 σ2 := by rw [e2]; exact Fr_up Fr_rf (by unfold FPL; omega)
      have r2 : MR P a σ2 := by
        obtain ⟨⟨b1, b2, b3⟩, b4, b5⟩ := hr
        refine ⟨⟨fun g hg => ?_, ?_, b3⟩, ?_, fun g hg => ⟨?_, ?_⟩⟩
        · rw [e2, up_n (by omega)]; exact b1 g hg
        · rw [e2, up_n (by omega)]; exact b2
        · rw [e2, up_n (by omega)]; exact b4
        · rw [e2, up_n (by omega)]; exact (b5 g hg).1
        · have : ¬ g = h := fun z => hF (z ▸ hg)
          have gr := (hI.1 g hg).1
          rw [e2, up_m (by omega)]; exact (b5 g hg).2
      refine c_X9_fits hS (MP_o e2 mp (by omega)) hW r2 hI h0 h1 hfr hF (t := sg P (dd P) (-1) h + inn) (by rw [e2]; exact up_h rfl) (by omega) (fun σ3 f3 => ⟨_, rfl, ?_⟩)
      have F3 : Fr FPL σ σ3 := Fr_tr (Fr_tr hf f2) (Fr_mo f3 (fun k j q => by unfold FSH at q; unfold FPL; omega))
      have r3 : MR P a σ3 := MR_f r2 f3 (fun k j q => by unfold FSH; omega)
      have mp3 := MP_f hM F3 (fun j => by unfold FPL; omega)
      try simp (disch := omega) only [iI_lit, iL_lit, iI_add, iI_sub, iI_mul, iI_neg, iI_lt, iI_le, iI_eq, iI_tn, iI_div, iI_l, iL_add, iL_sub, iL_mul, iL_neg, iL_le, iL_lt, iL_eq, iL_ite, vp_T, b2_ne0, b2_eq1, nn_imp, true_and, iI_ite, not_true_eq_false, not_false_eq_true, true_implies, false_implies, and_true, Int.reduceLT, Int.reduceLE, Int.reduceEq, or_false, false_or, true_or, or_true, false_and, and_false, mp3 _]
      refine ⟨fun c => NX σ3 F3 r3 (fun q => c (dec_t.mpr q)), fun c σ4 e4 => ?_⟩
      have b18 : σ4.1 49 18 = bm a.1 (P 280) := by rw [e4, up_n (by omega)]; exact r3.2.1
      rw [b18]
      have eb := bm_bit (p := a.1) (n := P 280) (x := h) (by omega)
      unfold bit1 at eb
      rw [eb]
      intro σ5 e5
      have hok := dec_t.mp c
      have hfd : fdI P a h = k := by rw [he, fd_t _ (by omega) (dec_t.mpr (by rw [hin]; exact hok))]
      have epl : plS P h a = (wih a.1 h, pu a.2 h inn) := by unfold plS; rw [if_neg (by omega), hfd, hin]
      have ett : tt P (wih a.1 h, pu a.2 h inn) = pu (tt P a) h (sg P (dd P) (-1) h + inn) := tt_pu (F := a.1)
      have t3 : σ3.1 54 h.toNat = iI (sg P (dd P) (-1) h + inn) := by rw [f3.1 _ _ (by unfold FSH; omega), e2]; exact up_h rfl
      refine hk σ5 (Fr_tr F3 (by rw [e5, e4]; exact Fr_up (Fr_up Fr_rf (by unfold FPL; omega)) (by unfold FPL; omega))) ?_
      rw [epl]
      obtain ⟨⟨b1, b2, b3⟩, b4, b5⟩ := r3
      refine ⟨⟨fun g hg => ?_, ?_, b3⟩, ?_, fun g hg => ?_⟩
      · rw [e5, up_n (by omega), e4, up_n (by omega)]; exact b1 g hg
      · rw [e5, up_m (by omega), e4, up_n (by omega)]; exact b2
      · rw [e5]; exact up_h rfl
      · rw [ett, e5, up_n (by omega), up_n (by omega), e4]
        have hg : wih a.1 h g = true := hg
        by_cases q2 : g = h
        · subst q2
          refine ⟨?_, ?_⟩
          · show _ = iI (pu a.2 g inn g); rw [up_h rfl, pu_e rfl]
          · rw [up_n (by omega), pu_e rfl]; exact t3
        · rw [wih_n q2] at hg
          have gr := (hI.1 g hg).1
          refine ⟨?_, ?_⟩
          · show _ = iI (pu a.2 h inn g); rw [up_m (by omega), pu_n q2]; exact (b5 g hg).1
          · rw [up_n (by omega), pu_n q2]; exact (b5 g hg).2
  have := L _ 0 σ rfl (by omega) (by omega) Fr_rf hR rfl
  rw [Int.zero_mul] at this
  rw [iI_lit]
  exact this
theorem c_X9_plans_ (hS : Sys S) (hM : MP 50 P σ) (hW : WF P) (hk : ∀ σ', Fr FPL σ σ' → MR P (plan P) σ' → Φ [] σ') : S 203 [aR 49] σ Φ := by
  refine m_X9_plans_ hS (fun v hv hw => ?_)
  have g0 := WF_0 hW
  unfold vc_X9_plans__0
  refine c_X9_fires hS hM hW (fun σ1 f1 s1 => ⟨rfl, fun σ2 e2 => ?_⟩)
  have F2 : Fr FPL σ σ2 := by rw [e2]; exact Fr_up (Fr_mo f1 (fun k j q => by unfold FM at q; unfold FPL; omega)) (by unfold FPL; omega)
  have R2 : MR P p0 σ2 := by
    refine ⟨⟨fun h hh => ?_, ?_, s1.2.2.2.2⟩, ?_, fun h hh => absurd hh p0n⟩
    · rw [e2, up_n (by omega)]; exact s1.1 h hh
    · rw [e2, up_m (by omega)]; exact s1.2.2.1
    · rw [e2, up_h rfl, iI_lit, ← bm_z (fun _ => false)]
      refine (eq_bm (by omega) (fun k k0 k1 => ?_))
      rw [bs_bm (by omega)]
      show (decide (k < 0) && false) = (decide (k < P 280) && false)
      rw [Bool.and_false, Bool.and_false]
  have LH : ∀ (q : Int) (a : Pn), 0 ≤ q → q < 50 → plI P a → plB P q a → (∀ σ5, Fr FPL σ σ5 → MR P (plQ P q a) σ5 → v 11 [some (aR 49), some (aI (iI (q + 1))), none] [] σ5) → ∀ (d : Nat) (h : Int) (σ5 : St), (P 280 - h).toNat = d → 0 ≤ h → h ≤ P 280 → Fr FPL σ σ5 → MR P (if ¬ hat P (q / 10) (q % 10) = -1 ∧ hat P (q / 10) (q % 10) < h then plQ P q a else a) σ5 → v 19 [some (aR 49), some (aI (iI q)), some (aI (iI h))] [] σ5 := by
    intro q a q0 q1 hI hB hend d
    have hr := hat_r hW (r := q / 10) (c := q % 10)
    have hQ : hat P (q / 10) (q % 10) = -1 → plQ P q a = a := fun e => by unfold plQ; rw [if_pos e]
    have hQf : ¬ hat P (q / 10) (q % 10) = -1 → ¬ (fr P (dd P) (-1)) (hat P (q / 10) (q % 10)) = true → plQ P q a = a := fun e f => by unfold plQ; rw [if_neg e, if_neg f]
    have hQt : ¬ hat P (q / 10) (q % 10) = -1 → (fr P (dd P) (-1)) (hat P (q / 10) (q % 10)) = true → plQ P q a = plS P (hat P (q / 10) (q % 10)) a := fun e f => by unfold plQ; rw [if_neg e, if_pos f]
    induction d with
    | zero =>
      intro h σ5 hd h0 h1 hf hR
      refine w_X9_plans__19 hS hv hw _ _ σ5 ?_
      unfold vc_X9_plans__19
      have mp := MP_f hM hf (fun j => by unfold FPL; omega)
      try simp (disch := omega) only [iI_lit, iL_lit, iI_add, iI_sub, iI_mul, iI_neg, iI_lt, iI_le, iI_eq, iI_tn, iI_div, iI_l, iL_add, iL_sub, iL_mul, iL_neg, iL_le, iL_lt, iL_eq, iL_ite, vp_T, b2_ne0, b2_eq1, nn_imp, true_and, iI_ite, not_true_eq_false, not_false_eq_true, true_implies, false_implies, and_true, Int.reduceLT, Int.reduceLE, Int.reduceEq, or_false, false_or, true_or, or_true, false_and, and_false, mp _]
      refine ⟨fun _ => hend σ5 hf ?_, fun c => by omega⟩
      by_cases e : hat P (q / 10) (q % 10) = -1
      · rw [if_neg (fun w => w.1 e)] at hR; rw [hQ e]; exact hR
      · rw [if_pos ⟨e, by omega⟩] at hR; exact hR
    | succ d ih =>
      intro h σ5 hd h0 h1 hf hR
      refine w_X9_plans__19 hS hv hw _ _ σ5 ?_
      unfold vc_X9_plans__19
      have mp := MP_f hM hf (fun j => by unfold FPL; omega)
      have hz : h < P 280 := by omega
      have gh := WF_h hW h0 hz
      have m0 : σ5.1 50 (8 * h + 0).toNat = iI (P (8 * h)) := by rw [mp _ (by omega), Int.add_zero]
      have f7 := hR.1.2.1
      have NX : ¬ (hat P (q / 10) (q % 10) = h ∧ (fr P (dd P) (-1)) h = true) → v 19 [some (aR 49), some (aI (iI q)), some (aI (iI (h + 1)))] [] σ5 := by
        intro w
        refine ih (h + 1) σ5 (by omega) (by omega) (by omega) hf ?_
        by_cases e : hat P (q / 10) (q % 10) = -1
        · rw [if_neg (fun z => z.1 e)] at hR ⊢; exact hR
        · by_cases e2 : hat P (q / 10) (q % 10) < h
          · rw [if_pos ⟨e, e2⟩] at hR; rw [if_pos ⟨e, by omega⟩]; exact hR
          · rw [if_neg (fun z => e2 z.2)] at hR
            by_cases e3 : hat P (q / 10) (q % 10) = h
            · rw [if_pos ⟨e, by omega⟩, hQf e (fun z => w ⟨e3, by rw [e3] at z; exact z⟩)]; exact hR
            · rw [if_neg (fun z => by omega)]; exact hR
      try simp (disch := omega) only [iI_lit, iL_lit, iI_add, iI_sub, iI_mul, iI_neg, iI_lt, iI_le, iI_eq, iI_tn, iI_div, iI_l, iL_add, iL_sub, iL_mul, iL_neg, iL_le, iL_lt, iL_eq, iL_ite, vp_T, b2_ne0, b2_eq1, nn_imp, true_and, iI_ite, not_true_eq_false, not_false_eq_true, true_implies, false_implies, and_true, Int.reduceLT, Int.reduceLE, Int.reduceEq, or_false, false_or, true_or, or_true, false_and, and_false, m0, mp _, f7, bs_0, bs_1, bs_bm, Bool.and_eq_true, decide_eq_true_eq, Bool.not_eq_false, Bool.not_eq_true]
      refine ⟨fun c => by omega, fun _ => ⟨fun c => NX (fun w => c ⟨hz, w.2⟩), fun c => ⟨fun e => NX (fun w => ?_), fun e => ?_⟩⟩⟩
      · rcases hr with r | ⟨r1, r2, r3, r4⟩
        · omega
        · rw [w.1] at r3 r4; omega
      · have e3 : hat P (q / 10) (q % 10) = h := by
          unfold hat
          rcases fd_sp (fun h => decide (P (8 * h) = q / 10 ∧ P (8 * h + 1) = q % 10)) (h := 0) (n := P 280) (by omega) g0.1.1 with ⟨_, w⟩ | ⟨w1, w2, w3, _⟩
          · have := w h h0 hz
            simp only [decide_eq_false_iff_not] at this
            exact absurd ⟨by omega, by omega⟩ this
          · have w3 := decide_eq_true_eq.mp w3
            exact WF_d hW w1 h0 w2 hz (by omega) (by omega)
        rw [e3] at hR hQt
        rw [if_neg (fun z => by omega)] at hR
        refine c_X9_plans hS mp hW hR hI h0 hz c.2 (fun w => ?_) (fun σ6 f6 r6 => ⟨rfl, ?_⟩)
        · have := hB h w; omega
        · refine ih (h + 1) σ6 (by omega) (by omega) (by omega) (Fr_tr hf f6) ?_
          rw [e3, if_pos ⟨by omega, by omega⟩, hQt (by omega) c.2]; exact r6
  have LQ : ∀ (d : Nat) (q : Int) (σ5 : St), (50 - q).toNat = d → 0 ≤ q → q ≤ 50 → Fr FPL σ σ5 → MR P (lp (plQ P) 0 q p0) σ5 → v 11 [some (aR 49), some (aI (iI q)), none] [] σ5 := by
    intro d
    induction d with
    | zero =>
      intro q σ5 hd h0 h1 hf hR
      refine w_X9_plans__11 hS hv hw _ σ5 ?_
      unfold vc_X9_plans__11
      have e : q = 50 := by omega
      subst e
      try simp (disch := omega) only [iI_lit, iL_lit, iI_add, iI_sub, iI_mul, iI_neg, iI_lt, iI_le, iI_eq, iI_tn, iI_div, iI_l, iL_add, iL_sub, iL_mul, iL_neg, iL_le, iL_lt, iL_eq, iL_ite, vp_T, b2_ne0, b2_eq1, nn_imp, true_and, iI_ite, not_true_eq_false, not_false_eq_true, true_implies, false_implies, and_true, Int.reduceLT, Int.reduceLE, Int.reduceEq, or_false, false_or, true_or, or_true, false_and, and_false]
      exact hk σ5 hf hR
    | succ d ih =>
      intro q σ5 hd h0 h1 hf hR
      refine w_X9_plans__11 hS hv hw _ σ5 ?_
      unfold vc_X9_plans__11
      try simp (disch := omega) only [iI_lit, iL_lit, iI_add, iI_sub, iI_mul, iI_neg, iI_lt, iI_le, iI_eq, iI_tn, iI_div, iI_l, iL_add, iL_sub, iL_mul, iL_neg, iL_le, iL_lt, iL_eq, iL_ite, vp_T, b2_ne0, b2_eq1, nn_imp, true_and, iI_ite, not_true_eq_false, not_false_eq_true, true_implies, false_implies, and_true, Int.reduceLT, Int.reduceLE, Int.reduceEq, or_false, false_or, true_or, or_true, false_and, and_false]
      refine ⟨fun c => by omega, fun _ => ?_⟩
      have pi := plan_I hW h0
      have i := ih (q + 1)
      rw [lp_l _ _ h0] at i
      refine LH q _ h0 (by omega) pi.1 pi.2 (fun σ6 f6 r6 => i σ6 (by omega) (by omega) (by omega) f6 r6) _ 0 σ5 rfl (by omega) (by omega) hf ?_
      rw [if_neg (fun z => by
        rcases hat_r hW (r := q / 10) (c := q % 10) with r | ⟨r1, _⟩
        · exact z.1 r
        · omega)]
      exact hR
  rw [iI_lit]
  exact LQ _ 0 σ2 rfl (by omega) (by omega) F2 (by rw [lp_z _ _ (Int.le_refl 0)]; exact R2)
end C26e
