/-! what is asked -/
def qOf (P : Pl) (h w : Int) : Int32 := if ¬ (0 ≤ h ∧ h < P 280) then iI (-1) else if 0 ≤ w ∧ w ≤ 6 then iI (P (8 * h + w)) else if w = 7 then iI (fl P h + sl P h) else if w = 8 then iI (rk P h) else if w = 9 then iI (nd P h) else if w = 10 then iI (P (8 * h + 7)) else if w = 11 then bm (ahd P h) (P 280) else iI (-1)
def qTaken (P : Pl) (h k : Int) : Int := if ¬ (0 ≤ h ∧ h < P 280) then -1 else if ¬ (0 ≤ k ∧ k ≤ 5) then -2 else if und (P (8 * h + 2)) k = true then fl P h + sl P h else -3
noncomputable def qWired (P : Pl) (w a : Int) : Int := if ¬ (0 ≤ w ∧ w < P 281) then -1 else if a = 0 then (if P (160 + 3 * w) < 0 then 99 else P (160 + 3 * w)) else if a = 1 then P (160 + 3 * w + 1) else if a = 2 then P (160 + 3 * w + 2) else if a = 3 then rp (ens P (dd P) (-1) w) else if a = 4 then (if tor P (dd P) (-1) w = true then 1 else 0) else -1
noncomputable def qTime (P : Pl) (h a : Int) : Int := if ¬ (0 ≤ h ∧ h < P 280) then -1 else if a = 0 then rp (sgA P (dd P) (-1) h) else if ¬ (fr P (dd P) (-1)) h = true then -1 else if a = 1 then (tm P (dd P) (-1)) h else if a = 2 then (if (bur P (dd P) (-1)) h = true then 0 else 1) else if a = 3 then rg P (bur P (dd P) (-1)) h else -1
noncomputable def qShot (P : Pl) (i a : Int) : Int := if ¬ (0 ≤ i ∧ i < (shL P (fr P (dd P) (-1)) (tm P (dd P) (-1))).2) then -1 else if a = 0 then ((shL P (fr P (dd P) (-1)) (tm P (dd P) (-1))).1 i).1 else if a = 1 then ((shL P (fr P (dd P) (-1)) (tm P (dd P) (-1))).1 i).2.1 else if a = 2 then ((shL P (fr P (dd P) (-1)) (tm P (dd P) (-1))).1 i).2.2 else -1
noncomputable def qShake (P : Pl) (t : Int) : Int := if ¬ (0 ≤ t ∧ t ≤ 99999) then -2 else shk (shL P (fr P (dd P) (-1)) (tm P (dd P) (-1))).1 (shL P (fr P (dd P) (-1)) (tm P (dd P) (-1))).2 (P 282) t
noncomputable def qWorst (P : Pl) (a : Int) : Int := if a = 0 then wS (shL P (fr P (dd P) (-1)) (tm P (dd P) (-1))).1 (shL P (fr P (dd P) (-1)) (tm P (dd P) (-1))).2 (P 282) else if a = 1 then wT (shL P (fr P (dd P) (-1)) (tm P (dd P) (-1))).1 (shL P (fr P (dd P) (-1)) (tm P (dd P) (-1))).2 (P 282) (shL P (fr P (dd P) (-1)) (tm P (dd P) (-1))).2 else if a = 2 then ov (shL P (fr P (dd P) (-1)) (tm P (dd P) (-1))).1 (shL P (fr P (dd P) (-1)) (tm P (dd P) (-1))).2 (P 282) (P 283) (shL P (fr P (dd P) (-1)) (tm P (dd P) (-1))).2 else if a = 3 then (shL P (fr P (dd P) (-1)) (tm P (dd P) (-1))).2 else -1
/-- the class has reckoned -/
def RK (P : Pl) (σ : St) : Prop := BS 13 P (dd P) (-1) σ ∧ CG 16 (shL P (fr P (dd P) (-1)) (tm P (dd P) (-1))) (P 282) (P 283) σ
def RKd (P : Pl) (σ : St) : Prop := σ.1 0 11 = iI 0 ∨ (σ.1 0 11 = iI 1 ∧ RK P σ)
def FRK : Nat → Nat → Prop := fun k j => FB 13 k j ∨ FS3 16 k j ∨ (k = 0 ∧ j = 11)
def FRq : Nat → Nat → Prop := fun k j => (13 ≤ k ∧ k ≤ 19) ∨ (k = 0 ∧ j = 11)
theorem BS_f {b : Nat} {P : Pl} {D : Int → Bool} {g : Int} {σ σ' : St} {c : Nat → Nat → Prop} (h : BS b P D g σ) (hf : Fr c σ σ') (h1 : ∀ k j, k = b + 1 ∨ k = b + 2 ∨ (k = b ∧ 4 ≤ j) → ¬ c k j) : BS b P D g σ' := by
  obtain ⟨a1, a2, ⟨a3, a4, a5⟩, a6⟩ := h
  refine ⟨fun h hh => ?_, fun h h0 h2 => ?_, ⟨?_, ?_, ?_⟩, a6⟩
  · rw [hf.1 _ _ (h1 _ _ (by omega))]; exact a1 h hh
  · rw [hf.1 _ _ (h1 _ _ (by omega))]; exact a2 h h0 h2
  · rw [hf.1 _ _ (h1 _ _ (by omega))]; exact a3
  · rw [hf.1 _ _ (h1 _ _ (by omega))]; exact a4
  · rw [hf.1 _ _ (h1 _ _ (by omega))]; exact a5
theorem CG_f {s : Nat} {a : Zr} {w l : Int} {σ σ' : St} {c : Nat → Nat → Prop} (h : CG s a w l σ) (hf : Fr c σ σ') (h1 : ∀ k j, k = s + 1 ∨ k = s + 2 ∨ k = s + 3 ∨ (k = s ∧ 3 ≤ j) → ¬ c k j) : CG s a w l σ' := by
  refine ⟨CS_f h.1 hf (fun k j q => h1 _ _ (by omega)), ?_, ?_, ?_⟩
  · rw [hf.1 _ _ (h1 _ _ (by omega))]; exact h.2.1
  · rw [hf.1 _ _ (h1 _ _ (by omega))]; exact h.2.2.1
  · rw [hf.1 _ _ (h1 _ _ (by omega))]; exact h.2.2.2
theorem RK_f {P : Pl} {σ σ' : St} {c : Nat → Nat → Prop} (h : RK P σ) (hf : Fr c σ σ') (h1 : ∀ k j, 13 ≤ k → k ≤ 19 → ¬ c k j) : RK P σ' :=
  ⟨BS_f h.1 hf (fun k j q => h1 _ _ (by omega) (by omega)), CG_f h.2 hf (fun k j q => h1 _ _ (by omega) (by omega))⟩
theorem RKd_f {P : Pl} {σ σ' : St} {c : Nat → Nat → Prop} (h : RKd P σ) (hf : Fr c σ σ') (h1 : ∀ k j, 13 ≤ k → k ≤ 19 → ¬ c k j) (h2 : ¬ c 0 11) : RKd P σ' := by
  unfold RKd
  rw [hf.1 0 11 h2]
  rcases h with h | ⟨h, q⟩
  · exact Or.inl h
  · exact Or.inr ⟨h, RK_f q hf h1⟩
section C23
variable {S : Sp} {σ : St} {Φ : Rs} {P : Pl}
theorem c_X8_reckoned (hS : Sys S) (hC : CP 1 P σ) (hW : WF P) (hR : RKd P σ) (hk : ∀ σ', Fr FRq σ σ' → CP 1 P σ' → RK P σ' → σ'.1 0 11 = iI 1 → Φ [aR 13] σ') : S 131 [aR 0] σ Φ := by
  refine m_X8_reckoned hS (fun v hv hw => ?_)
  unfold vc_X8_reckoned_0
  rcases hR with h | ⟨h, q⟩
  · try simp (disch := omega) only [iI_lit, iL_lit, iI_add, iI_sub, iI_mul, iI_neg, iI_lt, iI_le, iI_eq, iI_tn, iI_div, iI_l, iL_add, iL_sub, iL_mul, iL_neg, iL_le, iL_lt, iL_eq, iL_ite, vp_T, b2_ne0, b2_eq1, nn_imp, true_and, iI_ite, not_true_eq_false, not_false_eq_true, true_implies, false_implies, and_true, Int.reduceLT, Int.reduceLE, Int.reduceEq, or_false, false_or, true_or, or_true, false_and, and_false, h]
    refine c_X2_deadBits hS isPat_1 hC hW ⟨_, rfl, ?_⟩
    refine c_X0_reckon hS isBl_13 hC hW (by omega) (fun σ1 f1 b1 => ⟨rfl, ?_⟩)
    have C1 := CP_f hC f1 (fun k j a b => by unfold FB; omega)
    refine c_X0_reckonShots hS isBl_13 C1 hW b1 (fun σ2 f2 b2 => ⟨rfl, fun σ3 e3 => ?_⟩)
    have f3 : Fr (fun k j => k = 0 ∧ j = 11) σ2 σ3 := by rw [e3]; exact Fr_up Fr_rf ⟨rfl, rfl⟩
    have F1 : Fr FRq σ σ1 := Fr_mo f1 (fun k j q => by unfold FB at q; unfold FRq; omega)
    have F2 : Fr FRq σ1 σ2 := Fr_mo f2 (fun k j q => by unfold FS3 at q; unfold FRq; omega)
    have F3 : Fr FRq σ2 σ3 := Fr_mo f3 (fun k j q => by unfold FRq; omega)
    refine hk σ3 (Fr_tr (Fr_tr F1 F2) F3) (CP_f hC (Fr_tr (Fr_tr F1 F2) F3) (fun k j a b => by unfold FRq; omega)) ⟨?_, ?_⟩ (by rw [e3]; exact up_h rfl)
    · exact BS_f (BS_f b1 f2 (fun k j q => by unfold FS3; omega)) f3 (fun k j q => by omega)
    · exact CG_f b2 f3 (fun k j q => by omega)
  · try simp (disch := omega) only [iI_lit, iL_lit, iI_add, iI_sub, iI_mul, iI_neg, iI_lt, iI_le, iI_eq, iI_tn, iI_div, iI_l, iL_add, iL_sub, iL_mul, iL_neg, iL_le, iL_lt, iL_eq, iL_ite, vp_T, b2_ne0, b2_eq1, nn_imp, true_and, iI_ite, not_true_eq_false, not_false_eq_true, true_implies, false_implies, and_true, Int.reduceLT, Int.reduceLE, Int.reduceEq, or_false, false_or, true_or, or_true, false_and, and_false, h]
    exact hk σ Fr_rf hC q h
theorem RKd_of (h : RK P σ) (h1 : σ.1 0 11 = iI 1) : RKd P σ := Or.inr ⟨h1, h⟩
theorem c_X9_of (hS : Sys S) (hM : MP 50 P σ) (hW : WF P) {h w : Int} (r1 : -2147483648 ≤ h ∧ h < 2147483648) (r2 : -2147483648 ≤ w ∧ w < 2147483648) (hk : Φ [aI (qOf P h w)] σ) : S 163 [aR 49, aI (iI h), aI (iI w)] σ Φ := by
  refine m_X9_of hS (fun v hv hw => ?_)
  have g0 := WF_0 hW
  unfold vc_X9_of_0
  unfold qOf at hk
  try simp (disch := omega) only [iI_lit, iL_lit, iI_add, iI_sub, iI_mul, iI_neg, iI_lt, iI_le, iI_eq, iI_tn, iI_div, iI_l, iL_add, iL_sub, iL_mul, iL_neg, iL_le, iL_lt, iL_eq, iL_ite, vp_T, b2_ne0, b2_eq1, nn_imp, true_and, iI_ite, not_true_eq_false, not_false_eq_true, true_implies, false_implies, and_true, Int.reduceLT, Int.reduceLE, Int.reduceEq, or_false, false_or, true_or, or_true, false_and, and_false, hM _]
  refine ⟨fun a => (by simp (disch := omega) only [if_pos, if_neg] at hk; exact hk), fun a => ?_⟩
  have a0 : 0 ≤ h := by omega
  have a1 : h < P 280 := by omega
  refine ⟨fun b => ⟨fun c => ?_, fun c => ⟨fun d => ?_, fun d => ⟨fun e => ?_, fun e => ⟨fun f => ?_, fun f => ⟨fun g => ?_, fun g => ?_⟩⟩⟩⟩⟩, fun b => (by simp (disch := omega) only [if_pos, if_neg] at hk; exact hk)⟩
  · exact c_X9_loadsOf hS hM hW a0 a1 ⟨_, rfl, (by simp (disch := omega) only [if_pos, if_neg] at hk; exact hk)⟩
  · exact c_X9_rockOf hS hM hW a0 a1 ⟨_, rfl, (by simp (disch := omega) only [if_pos, if_neg] at hk; exact hk)⟩
  · exact c_X9_needsOf hS hM hW a0 a1 ⟨_, rfl, (by simp (disch := omega) only [if_pos, if_neg] at hk; exact hk)⟩
  · try simp (disch := omega) only [iI_lit, iL_lit, iI_add, iI_sub, iI_mul, iI_neg, iI_lt, iI_le, iI_eq, iI_tn, iI_div, iI_l, iL_add, iL_sub, iL_mul, iL_neg, iL_le, iL_lt, iL_eq, iL_ite, vp_T, b2_ne0, b2_eq1, nn_imp, true_and, iI_ite, not_true_eq_false, not_false_eq_true, true_implies, false_implies, and_true, Int.reduceLT, Int.reduceLE, Int.reduceEq, or_false, false_or, true_or, or_true, false_and, and_false, hM _]
    exact (by simp (disch := omega) only [if_pos, if_neg] at hk; exact hk)
  · exact c_X9_aheadOf hS hM hW a0 a1 ⟨_, rfl, (by simp (disch := omega) only [if_pos, if_neg] at hk; exact hk)⟩
  · try simp (disch := omega) only [iI_lit, iL_lit, iI_add, iI_sub, iI_mul, iI_neg, iI_lt, iI_le, iI_eq, iI_tn, iI_div, iI_l, iL_add, iL_sub, iL_mul, iL_neg, iL_le, iL_lt, iL_eq, iL_ite, vp_T, b2_ne0, b2_eq1, nn_imp, true_and, iI_ite, not_true_eq_false, not_false_eq_true, true_implies, false_implies, and_true, Int.reduceLT, Int.reduceLE, Int.reduceEq, or_false, false_or, true_or, or_true, false_and, and_false, hM _]
    exact (by simp (disch := omega) only [if_pos, if_neg] at hk; exact hk)
theorem c_X8_of (hS : Sys S) (hC : CP 1 P σ) (hW : WF P) {h w : Int} (r1 : -2147483648 ≤ h ∧ h < 2147483648) (r2 : -2147483648 ≤ w ∧ w < 2147483648) (hk : Φ [aI (qOf P h w)] σ) : S 92 [aR 0, aI (iI h), aI (iI w)] σ Φ := by
  refine m_X8_of hS (fun v hv hw => ?_)
  have g0 := WF_0 hW
  unfold vc_X8_of_0
  unfold qOf at hk
  try simp (disch := omega) only [iI_lit, iL_lit, iI_add, iI_sub, iI_mul, iI_neg, iI_lt, iI_le, iI_eq, iI_tn, iI_div, iI_l, iL_add, iL_sub, iL_mul, iL_neg, iL_le, iL_lt, iL_eq, iL_ite, vp_T, b2_ne0, b2_eq1, nn_imp, true_and, iI_ite, not_true_eq_false, not_false_eq_true, true_implies, false_implies, and_true, Int.reduceLT, Int.reduceLE, Int.reduceEq, or_false, false_or, true_or, or_true, false_and, and_false, CP_n hC]
  refine ⟨fun a => ?_, fun a => (by simp (disch := omega) only [if_pos, if_neg] at hk; exact hk)⟩
  have a0 : 0 ≤ h := by omega
  have a1 : h < P 280 := by omega
  have R : ¬ (0 ≤ w ∧ w ≤ 6) → vc_X8_of_33 S Φ v (iI h) (iI w) σ := by
    intro q
    unfold vc_X8_of_33
    try simp (disch := omega) only [iI_lit, iL_lit, iI_add, iI_sub, iI_mul, iI_neg, iI_lt, iI_le, iI_eq, iI_tn, iI_div, iI_l, iL_add, iL_sub, iL_mul, iL_neg, iL_le, iL_lt, iL_eq, iL_ite, vp_T, b2_ne0, b2_eq1, nn_imp, true_and, iI_ite, not_true_eq_false, not_false_eq_true, true_implies, false_implies, and_true, Int.reduceLT, Int.reduceLE, Int.reduceEq, or_false, false_or, true_or, or_true, false_and, and_false]
    refine ⟨fun c => ?_, fun c => ⟨fun d => ?_, fun d => ⟨fun e => ?_, fun e => ⟨fun f => ?_, fun f => ⟨fun g => ?_, fun g => (by simp (disch := omega) only [if_pos, if_neg] at hk; exact hk)⟩⟩⟩⟩⟩
    · exact c_X2_loadsOf hS isPat_1 hC hW a0 a1 ⟨_, rfl, (by simp (disch := omega) only [if_pos, if_neg] at hk; exact hk)⟩
    · exact c_X2_rockOf hS isPat_1 hC hW a0 a1 ⟨_, rfl, (by simp (disch := omega) only [if_pos, if_neg] at hk; exact hk)⟩
    · exact c_X2_needsOf hS isPat_1 hC hW a0 a1 ⟨_, rfl, (by simp (disch := omega) only [if_pos, if_neg] at hk; exact hk)⟩
    · have m7 : σ.1 2 (h * 9 + 7).toNat = iI (P (8 * h + 7)) := CP_m hC (by omega)
      try simp (disch := omega) only [iI_lit, iL_lit, iI_add, iI_sub, iI_mul, iI_neg, iI_lt, iI_le, iI_eq, iI_tn, iI_div, iI_l, iL_add, iL_sub, iL_mul, iL_neg, iL_le, iL_lt, iL_eq, iL_ite, vp_T, b2_ne0, b2_eq1, nn_imp, true_and, iI_ite, not_true_eq_false, not_false_eq_true, true_implies, false_implies, and_true, Int.reduceLT, Int.reduceLE, Int.reduceEq, or_false, false_or, true_or, or_true, false_and, and_false, m7]
      exact (by simp (disch := omega) only [if_pos, if_neg] at hk; exact hk)
    · have m8 : σ.1 2 (h * 9 + 8).toNat = bm (ahd P h) (P 280) := CP_a hC (by omega)
      try simp (disch := omega) only [iI_lit, iL_lit, iI_add, iI_sub, iI_mul, iI_neg, iI_lt, iI_le, iI_eq, iI_tn, iI_div, iI_l, iL_add, iL_sub, iL_mul, iL_neg, iL_le, iL_lt, iL_eq, iL_ite, vp_T, b2_ne0, b2_eq1, nn_imp, true_and, iI_ite, not_true_eq_false, not_false_eq_true, true_implies, false_implies, and_true, Int.reduceLT, Int.reduceLE, Int.reduceEq, or_false, false_or, true_or, or_true, false_and, and_false, m8]
      exact (by simp (disch := omega) only [if_pos, if_neg] at hk; exact hk)
  refine ⟨fun b => R (by omega), fun b => ⟨fun c => R (by omega), fun c => ?_⟩⟩
  have mw : σ.1 2 (h * 9 + w).toNat = iI (P (8 * h + w)) := CP_m hC (by omega)
  try simp (disch := omega) only [iI_lit, iL_lit, iI_add, iI_sub, iI_mul, iI_neg, iI_lt, iI_le, iI_eq, iI_tn, iI_div, iI_l, iL_add, iL_sub, iL_mul, iL_neg, iL_le, iL_lt, iL_eq, iL_ite, vp_T, b2_ne0, b2_eq1, nn_imp, true_and, iI_ite, not_true_eq_false, not_false_eq_true, true_implies, false_implies, and_true, Int.reduceLT, Int.reduceLE, Int.reduceEq, or_false, false_or, true_or, or_true, false_and, and_false, mw]
  exact (by simp (disch := omega) only [if_pos, if_neg] at hk; exact hk)
theorem c_X9_taken (hS : Sys S) (hM : MP 50 P σ) (hW : WF P) {h w : Int} (r1 : -2147483648 ≤ h ∧ h < 2147483648) (r2 : -2147483648 ≤ w ∧ w < 2147483648) (hk : Φ [aI (iI (qTaken P h w))] σ) : S 165 [aR 49, aI (iI h), aI (iI w)] σ Φ := by
  refine m_X9_taken hS (fun v hv hw => ?_)
  have g0 := WF_0 hW
  unfold vc_X9_taken_0
  unfold qTaken at hk
  try simp (disch := omega) only [iI_lit, iL_lit, iI_add, iI_sub, iI_mul, iI_neg, iI_lt, iI_le, iI_eq, iI_tn, iI_div, iI_l, iL_add, iL_sub, iL_mul, iL_neg, iL_le, iL_lt, iL_eq, iL_ite, vp_T, b2_ne0, b2_eq1, nn_imp, true_and, iI_ite, not_true_eq_false, not_false_eq_true, true_implies, false_implies, and_true, Int.reduceLT, Int.reduceLE, Int.reduceEq, or_false, false_or, true_or, or_true, false_and, and_false, hM _]
  refine ⟨fun a => ⟨fun b => ?_, fun b => (by simp (disch := omega) only [if_pos, if_neg] at hk; exact hk)⟩, fun a => (by simp (disch := omega) only [if_pos, if_neg] at hk; exact hk)⟩
  have gh := WF_h hW (h := h) (by omega) (by omega)
  try simp (disch := omega) only [iI_lit, iL_lit, iI_add, iI_sub, iI_mul, iI_neg, iI_lt, iI_le, iI_eq, iI_tn, iI_div, iI_l, iL_add, iL_sub, iL_mul, iL_neg, iL_le, iL_lt, iL_eq, iL_ite, vp_T, b2_ne0, b2_eq1, nn_imp, true_and, iI_ite, not_true_eq_false, not_false_eq_true, true_implies, false_implies, and_true, Int.reduceLT, Int.reduceLE, Int.reduceEq, or_false, false_or, true_or, or_true, false_and, and_false, hM _]
  refine c_X9_isUnder hS (by omega) (by omega) ⟨_, rfl, ?_⟩
  rw [if_neg (by omega), if_neg (by omega)] at hk
  try simp (disch := omega) only [iI_lit, iL_lit, iI_add, iI_sub, iI_mul, iI_neg, iI_lt, iI_le, iI_eq, iI_tn, iI_div, iI_l, iL_add, iL_sub, iL_mul, iL_neg, iL_le, iL_lt, iL_eq, iL_ite, vp_T, b2_ne0, b2_eq1, nn_imp, true_and, iI_ite, not_true_eq_false, not_false_eq_true, true_implies, false_implies, and_true, Int.reduceLT, Int.reduceLE, Int.reduceEq, or_false, false_or, true_or, or_true, false_and, and_false]
  refine ⟨fun c => ?_, fun c => ?_⟩
  · rw [if_neg c] at hk; exact hk
  · rw [if_pos c] at hk; exact c_X9_loadsOf hS hM hW (by omega) (by omega) ⟨_, rfl, hk⟩
theorem c_X8_taken (hS : Sys S) (hC : CP 1 P σ) (hW : WF P) {h w : Int} (r1 : -2147483648 ≤ h ∧ h < 2147483648) (r2 : -2147483648 ≤ w ∧ w < 2147483648) (hk : Φ [aI (iI (qTaken P h w))] σ) : S 94 [aR 0, aI (iI h), aI (iI w)] σ Φ := by
  refine m_X8_taken hS (fun v hv hw => ?_)
  have g0 := WF_0 hW
  unfold vc_X8_taken_0
  unfold qTaken at hk
  try simp (disch := omega) only [iI_lit, iL_lit, iI_add, iI_sub, iI_mul, iI_neg, iI_lt, iI_le, iI_eq, iI_tn, iI_div, iI_l, iL_add, iL_sub, iL_mul, iL_neg, iL_le, iL_lt, iL_eq, iL_ite, vp_T, b2_ne0, b2_eq1, nn_imp, true_and, iI_ite, not_true_eq_false, not_false_eq_true, true_implies, false_implies, and_true, Int.reduceLT, Int.reduceLE, Int.reduceEq, or_false, false_or, true_or, or_true, false_and, and_false, CP_n hC, sl2, sh2]
  refine ⟨fun a => ⟨fun b => ?_, fun b => (by simp (disch := omega) only [if_pos, if_neg] at hk; exact hk)⟩, fun a => (by simp (disch := omega) only [if_pos, if_neg] at hk; exact hk)⟩
  have gh := WF_h hW (h := h) (by omega) (by omega)
  have m2 : σ.1 2 (h * 9 + 2).toNat = iI (P (8 * h + 2)) := CP_m hC (by omega)
  try simp (disch := omega) only [iI_lit, iL_lit, iI_add, iI_sub, iI_mul, iI_neg, iI_lt, iI_le, iI_eq, iI_tn, iI_div, iI_l, iL_add, iL_sub, iL_mul, iL_neg, iL_le, iL_lt, iL_eq, iL_ite, vp_T, b2_ne0, b2_eq1, nn_imp, true_and, iI_ite, not_true_eq_false, not_false_eq_true, true_implies, false_implies, and_true, Int.reduceLT, Int.reduceLE, Int.reduceEq, or_false, false_or, true_or, or_true, false_and, and_false, m2]
  refine c_X1_isUnder hS (by omega) (by omega) ⟨_, rfl, ?_⟩
  rw [if_neg (by omega), if_neg (by omega)] at hk
  try simp (disch := omega) only [iI_lit, iL_lit, iI_add, iI_sub, iI_mul, iI_neg, iI_lt, iI_le, iI_eq, iI_tn, iI_div, iI_l, iL_add, iL_sub, iL_mul, iL_neg, iL_le, iL_lt, iL_eq, iL_ite, vp_T, b2_ne0, b2_eq1, nn_imp, true_and, iI_ite, not_true_eq_false, not_false_eq_true, true_implies, false_implies, and_true, Int.reduceLT, Int.reduceLE, Int.reduceEq, or_false, false_or, true_or, or_true, false_and, and_false]
  refine ⟨fun c => ?_, fun c => ?_⟩
  · rw [if_pos c] at hk; exact c_X2_loadsOf hS isPat_1 hC hW (by omega) (by omega) ⟨_, rfl, hk⟩
  · rw [if_neg c] at hk; exact hk
theorem c_X9_wired (hS : Sys S) (hM : MP 50 P σ) (hW : WF P) {w a : Int} (r1 : -2147483648 ≤ w ∧ w < 2147483648) (r2 : -2147483648 ≤ a ∧ a < 2147483648) (hk : ∀ σ', Fr FL σ σ' → Φ [aI (iI (qWired P w a))] σ') : S 177 [aR 49, aI (iI w), aI (iI a)] σ Φ := by
  refine m_X9_wired hS (fun v hv hw => ?_)
  have g0 := WF_0 hW
  unfold vc_X9_wired_0
  unfold qWired at hk
  have hkr := hk σ Fr_rf
  try simp (disch := omega) only [iI_lit, iL_lit, iI_add, iI_sub, iI_mul, iI_neg, iI_lt, iI_le, iI_eq, iI_tn, iI_div, iI_l, iL_add, iL_sub, iL_mul, iL_neg, iL_le, iL_lt, iL_eq, iL_ite, vp_T, b2_ne0, b2_eq1, nn_imp, true_and, iI_ite, not_true_eq_false, not_false_eq_true, true_implies, false_implies, and_true, Int.reduceLT, Int.reduceLE, Int.reduceEq, or_false, false_or, true_or, or_true, false_and, and_false, hM _]
  refine ⟨fun c => ?_, fun c => ⟨fun d => ?_, fun d => ?_⟩⟩
  · have hk := hkr; exact (by simp (disch := omega) only [if_pos, if_neg] at hk; exact hk)
  · refine c_X9_fires hS hM hW (fun σ1 f1 s1 => ⟨rfl, ?_⟩)
    have hk := hk σ1 (Fr_mo f1 (fun _ _ => Or.inl))
    have mp := MP_f hM f1 (fun j => by unfold FM; omega)
    have w0 : 0 ≤ w := by omega
    have w1 : w < P 281 := by omega
    have gw := WF_w hW w0 w1
    have m0 : σ1.1 50 (160 + 3 * w + 0).toNat = iI (P (160 + 3 * w)) := by rw [mp _ (by omega), Int.add_zero]
    have er := ens_r hW s1.2.2.2.2 w0 w1
    try simp (disch := omega) only [iI_lit, iL_lit, iI_add, iI_sub, iI_mul, iI_neg, iI_lt, iI_le, iI_eq, iI_tn, iI_div, iI_l, iL_add, iL_sub, iL_mul, iL_neg, iL_le, iL_lt, iL_eq, iL_ite, vp_T, b2_ne0, b2_eq1, nn_imp, true_and, iI_ite, not_true_eq_false, not_false_eq_true, true_implies, false_implies, and_true, Int.reduceLT, Int.reduceLE, Int.reduceEq, or_false, false_or, true_or, or_true, false_and, and_false, m0, mp _]
    refine ⟨fun e => ⟨fun f => (by simp (disch := omega) only [if_pos, if_neg] at hk; exact hk), fun f => (by simp (disch := omega) only [if_pos, if_neg] at hk; exact hk)⟩, fun e => ⟨fun f => ?_, fun f => ⟨fun g => ?_, fun g => ⟨fun h => ?_, fun h => ⟨fun i => ?_, fun i => by omega⟩⟩⟩⟩⟩
    · subst f
      try simp (disch := omega) only [iI_lit, iL_lit, iI_add, iI_sub, iI_mul, iI_neg, iI_lt, iI_le, iI_eq, iI_tn, iI_div, iI_l, iL_add, iL_sub, iL_mul, iL_neg, iL_le, iL_lt, iL_eq, iL_ite, vp_T, b2_ne0, b2_eq1, nn_imp, true_and, iI_ite, not_true_eq_false, not_false_eq_true, true_implies, false_implies, and_true, Int.reduceLT, Int.reduceLE, Int.reduceEq, or_false, false_or, true_or, or_true, false_and, and_false, mp _]
      exact (by simp (disch := omega) only [if_pos, if_neg] at hk; exact hk)
    · subst g
      try simp (disch := omega) only [iI_lit, iL_lit, iI_add, iI_sub, iI_mul, iI_neg, iI_lt, iI_le, iI_eq, iI_tn, iI_div, iI_l, iL_add, iL_sub, iL_mul, iL_neg, iL_le, iL_lt, iL_eq, iL_ite, vp_T, b2_ne0, b2_eq1, nn_imp, true_and, iI_ite, not_true_eq_false, not_false_eq_true, true_implies, false_implies, and_true, Int.reduceLT, Int.reduceLE, Int.reduceEq, or_false, false_or, true_or, or_true, false_and, and_false, mp _]
      exact (by simp (disch := omega) only [if_pos, if_neg] at hk; exact hk)
    · refine c_X9_endOf' hS mp hW s1 w0 w1 ⟨_, rfl, ?_⟩
      simp (disch := omega) only [if_pos, if_neg] at hk
      try simp (disch := omega) only [iI_lit, iL_lit, iI_add, iI_sub, iI_mul, iI_neg, iI_lt, iI_le, iI_eq, iI_tn, iI_div, iI_l, iL_add, iL_sub, iL_mul, iL_neg, iL_le, iL_lt, iL_eq, iL_ite, vp_T, b2_ne0, b2_eq1, nn_imp, true_and, iI_ite, not_true_eq_false, not_false_eq_true, true_implies, false_implies, and_true, Int.reduceLT, Int.reduceLE, Int.reduceEq, or_false, false_or, true_or, or_true, false_and, and_false]
      refine ⟨fun j => ?_, fun j => ?_⟩
      · rw [rp_n j] at hk
        exact c_X9_endOf' hS mp hW s1 w0 w1 ⟨_, rfl, hk⟩
      · rw [rp_y j] at hk; exact hk
    · refine c_X9_isTorn hS mp hW s1 w0 w1 ⟨_, rfl, ?_⟩
      simp (disch := omega) only [if_pos, if_neg] at hk
      try simp (disch := omega) only [iI_lit, iL_lit, iI_add, iI_sub, iI_mul, iI_neg, iI_lt, iI_le, iI_eq, iI_tn, iI_div, iI_l, iL_add, iL_sub, iL_mul, iL_neg, iL_le, iL_lt, iL_eq, iL_ite, vp_T, b2_ne0, b2_eq1, nn_imp, true_and, iI_ite, not_true_eq_false, not_false_eq_true, true_implies, false_implies, and_true, Int.reduceLT, Int.reduceLE, Int.reduceEq, or_false, false_or, true_or, or_true, false_and, and_false]
      refine ⟨fun j => ?_, fun j => ?_⟩
      · rw [if_neg j] at hk; exact hk
      · rw [if_pos j] at hk; exact hk
  · have hk := hkr; exact (by simp (disch := omega) only [if_pos, if_neg] at hk; exact hk)
theorem c_X8_wired (hS : Sys S) (hC : CP 1 P σ) (hW : WF P) (hR : RKd P σ) {w a : Int} (r1 : -2147483648 ≤ w ∧ w < 2147483648) (r2 : -2147483648 ≤ a ∧ a < 2147483648) (hk : ∀ σ', Fr FRq σ σ' → RKd P σ' → Φ [aI (iI (qWired P w a))] σ') : S 96 [aR 0, aI (iI w), aI (iI a)] σ Φ := by
  refine m_X8_wired hS (fun v hv hw => ?_)
  have g0 := WF_0 hW
  unfold vc_X8_wired_0
  unfold qWired at hk
  have hkr := hk σ Fr_rf hR
  try simp (disch := omega) only [iI_lit, iL_lit, iI_add, iI_sub, iI_mul, iI_neg, iI_lt, iI_le, iI_eq, iI_tn, iI_div, iI_l, iL_add, iL_sub, iL_mul, iL_neg, iL_le, iL_lt, iL_eq, iL_ite, vp_T, b2_ne0, b2_eq1, nn_imp, true_and, iI_ite, not_true_eq_false, not_false_eq_true, true_implies, false_implies, and_true, Int.reduceLT, Int.reduceLE, Int.reduceEq, or_false, false_or, true_or, or_true, false_and, and_false, CP_w hC]
  refine ⟨fun c => ?_, fun c => by have hk := hkr; exact (by simp (disch := omega) only [if_pos, if_neg] at hk; exact hk)⟩
  have w0 : 0 ≤ w := by omega
  have w1 : w < P 281 := by omega
  have gw := WF_w hW w0 w1
  have m0 : σ.1 3 (w * 3 + 0).toNat = iI (P (160 + 3 * w)) := by rw [CP_v hC (by omega), Int.add_zero]
  have m1 : σ.1 3 (w * 3 + 1).toNat = iI (P (160 + 3 * w + 1)) := CP_v hC (by omega)
  have m2 : σ.1 3 (w * 3 + 2).toNat = iI (P (160 + 3 * w + 2)) := CP_v hC (by omega)
  try simp (disch := omega) only [iI_lit, iL_lit, iI_add, iI_sub, iI_mul, iI_neg, iI_lt, iI_le, iI_eq, iI_tn, iI_div, iI_l, iL_add, iL_sub, iL_mul, iL_neg, iL_le, iL_lt, iL_eq, iL_ite, vp_T, b2_ne0, b2_eq1, nn_imp, true_and, iI_ite, not_true_eq_false, not_false_eq_true, true_implies, false_implies, and_true, Int.reduceLT, Int.reduceLE, Int.reduceEq, or_false, false_or, true_or, or_true, false_and, and_false, m0, m1, m2]
  refine ⟨fun e => ?_, fun e => ⟨fun f => ?_, fun f => ⟨fun g => ?_, fun g => ⟨fun h => ?_, fun h => ⟨fun i => ?_, fun i => ?_⟩⟩⟩⟩⟩
  · exact ⟨fun f => by have hk := hkr; exact (by simp (disch := omega) only [if_pos, if_neg] at hk; exact hk), fun f => by have hk := hkr; exact (by simp (disch := omega) only [if_pos, if_neg] at hk; exact hk)⟩
  · have hk := hkr; exact (by simp (disch := omega) only [if_pos, if_neg] at hk; exact hk)
  · have hk := hkr; exact (by simp (disch := omega) only [if_pos, if_neg] at hk; exact hk)
  · refine c_X8_reckoned hS hC hW hR (fun σ1 f1 c1 k1 q1 => ⟨rfl, ?_⟩)
    have hk := hk σ1 f1 (RKd_of k1 q1)
    exact c_X0_endOf' hS isBl_13 c1 hW k1.1 w0 w1 ⟨_, rfl, (by simp (disch := omega) only [if_pos, if_neg] at hk; exact hk)⟩
  · refine c_X8_reckoned hS hC hW hR (fun σ1 f1 c1 k1 q1 => ⟨rfl, ?_⟩)
    have hk := hk σ1 f1 (RKd_of k1 q1)
    simp (disch := omega) only [if_pos, if_neg] at hk
    refine c_X0_isTorn hS isBl_13 c1 hW k1.1 w0 w1 ⟨_, rfl, ?_⟩
    try simp (disch := omega) only [iI_lit, iL_lit, iI_add, iI_sub, iI_mul, iI_neg, iI_lt, iI_le, iI_eq, iI_tn, iI_div, iI_l, iL_add, iL_sub, iL_mul, iL_neg, iL_le, iL_lt, iL_eq, iL_ite, vp_T, b2_ne0, b2_eq1, nn_imp, true_and, iI_ite, not_true_eq_false, not_false_eq_true, true_implies, false_implies, and_true, Int.reduceLT, Int.reduceLE, Int.reduceEq, or_false, false_or, true_or, or_true, false_and, and_false]
    refine ⟨fun j => ?_, fun j => ?_⟩
    · rw [if_neg j] at hk; exact hk
    · rw [if_pos j] at hk; exact hk
  · have hk := hkr; exact (by simp (disch := omega) only [if_pos, if_neg] at hk; exact hk)
theorem c_X9_time (hS : Sys S) (hM : MP 50 P σ) (hW : WF P) {w a : Int} (r1 : -2147483648 ≤ w ∧ w < 2147483648) (r2 : -2147483648 ≤ a ∧ a < 2147483648) (hk : ∀ σ', Fr FL σ σ' → Φ [aI (iI (qTime P w a))] σ') : S 179 [aR 49, aI (iI w), aI (iI a)] σ Φ := by
  refine m_X9_time hS (fun v hv hw => ?_)
  have g0 := WF_0 hW
  unfold vc_X9_time_0
  unfold qTime at hk
  have hkr := hk σ Fr_rf
  try simp (disch := omega) only [iI_lit, iL_lit, iI_add, iI_sub, iI_mul, iI_neg, iI_lt, iI_le, iI_eq, iI_tn, iI_div, iI_l, iL_add, iL_sub, iL_mul, iL_neg, iL_le, iL_lt, iL_eq, iL_ite, vp_T, b2_ne0, b2_eq1, nn_imp, true_and, iI_ite, not_true_eq_false, not_false_eq_true, true_implies, false_implies, and_true, Int.reduceLT, Int.reduceLE, Int.reduceEq, or_false, false_or, true_or, or_true, false_and, and_false, hM _]
  refine ⟨fun c => by have hk := hkr; exact (by simp (disch := omega) only [if_pos, if_neg] at hk; exact hk), fun c => ⟨fun d => ?_, fun d => ?_⟩⟩
  · refine c_X9_fires hS hM hW (fun σ1 f1 s1 => ⟨rfl, ?_⟩)
    have hk := hk σ1 (Fr_mo f1 (fun _ _ => Or.inl))
    have mp := MP_f hM f1 (fun j => by unfold FM; omega)
    have w0 : 0 ≤ w := by omega
    have w1 : w < P 280 := by omega
    have f53 := s1.1 w (by omega)
    have sr := sgA_r hW s1.2.2.2.2 w0 (by omega)
    have f7 := s1.2.2.1
    have f8 := s1.2.2.2.1
    try simp (disch := omega) only [iI_lit, iL_lit, iI_add, iI_sub, iI_mul, iI_neg, iI_lt, iI_le, iI_eq, iI_tn, iI_div, iI_l, iL_add, iL_sub, iL_mul, iL_neg, iL_le, iL_lt, iL_eq, iL_ite, vp_T, b2_ne0, b2_eq1, nn_imp, true_and, iI_ite, not_true_eq_false, not_false_eq_true, true_implies, false_implies, and_true, Int.reduceLT, Int.reduceLE, Int.reduceEq, or_false, false_or, true_or, or_true, false_and, and_false, f53, f7, f8, bs_0, bs_1, bs_bm, Bool.and_eq_true, decide_eq_true_eq, Bool.not_eq_false, Bool.not_eq_true]
    refine ⟨fun e => ⟨fun f => ?_, fun f => ?_⟩, fun e => ⟨fun f => ?_, fun f => ?_⟩⟩
    · have tr := tm_r hW s1.2.2.2.2 w0 w1 f.2
      have t4 := s1.2.1 w w0 w1 f.2
      rw [if_neg (by omega), if_neg e, if_neg (fun z => z f.2)] at hk
      try simp (disch := omega) only [iI_lit, iL_lit, iI_add, iI_sub, iI_mul, iI_neg, iI_lt, iI_le, iI_eq, iI_tn, iI_div, iI_l, iL_add, iL_sub, iL_mul, iL_neg, iL_le, iL_lt, iL_eq, iL_ite, vp_T, b2_ne0, b2_eq1, nn_imp, true_and, iI_ite, not_true_eq_false, not_false_eq_true, true_implies, false_implies, and_true, Int.reduceLT, Int.reduceLE, Int.reduceEq, or_false, false_or, true_or, or_true, false_and, and_false, t4]
      refine ⟨fun g => ⟨fun h => ?_, fun h => ⟨fun i => ?_, fun i => ?_⟩⟩, fun g => (by simp (disch := omega) only [if_pos, if_neg] at hk; exact hk)⟩
      · exact c_X9_ringOf hS mp hW f8 w0 w1 ⟨_, rfl, (by simp (disch := omega) only [if_pos, if_neg] at hk; exact hk)⟩
      · simp (disch := omega) only [if_pos, if_neg] at hk
        rw [if_neg (fun z => i ⟨w1, z⟩)] at hk; exact hk
      · simp (disch := omega) only [if_pos, if_neg] at hk
        rw [if_pos i.2] at hk; exact hk
    · rw [if_neg (by omega), if_neg e, if_pos (fun z => f ⟨w1, z⟩)] at hk; exact hk
    · rw [if_neg (by omega), if_pos e, rp_n f] at hk; exact hk
    · rw [if_neg (by omega), if_pos e, rp_y f] at hk; exact hk
  · have hk := hkr
    rw [if_neg (by omega), if_neg (by omega)] at hk
    by_cases f : (fr P (dd P) (-1)) w = true
    · rw [if_neg (fun z => z f)] at hk; exact (by simp (disch := omega) only [if_pos, if_neg] at hk; exact hk)
    · rw [if_pos f] at hk; exact hk
theorem c_X8_time (hS : Sys S) (hC : CP 1 P σ) (hW : WF P) (hR : RKd P σ) {w a : Int} (r1 : -2147483648 ≤ w ∧ w < 2147483648) (r2 : -2147483648 ≤ a ∧ a < 2147483648) (hk : ∀ σ', Fr FRq σ σ' → RKd P σ' → Φ [aI (iI (qTime P w a))] σ') : S 100 [aR 0, aI (iI w), aI (iI a)] σ Φ := by
  refine m_X8_time hS (fun v hv hw => ?_)
  have g0 := WF_0 hW
  unfold vc_X8_time_0
  unfold qTime at hk
  have hkr := hk σ Fr_rf hR
  try simp (disch := omega) only [iI_lit, iL_lit, iI_add, iI_sub, iI_mul, iI_neg, iI_lt, iI_le, iI_eq, iI_tn, iI_div, iI_l, iL_add, iL_sub, iL_mul, iL_neg, iL_le, iL_lt, iL_eq, iL_ite, vp_T, b2_ne0, b2_eq1, nn_imp, true_and, iI_ite, not_true_eq_false, not_false_eq_true, true_implies, false_implies, and_true, Int.reduceLT, Int.reduceLE, Int.reduceEq, or_false, false_or, true_or, or_true, false_and, and_false, CP_n hC]
  refine ⟨fun c => ?_, fun c => by have hk := hkr; exact (by simp (disch := omega) only [if_pos, if_neg] at hk; exact hk)⟩
  have w0 : 0 ≤ w := by omega
  have w1 : w < P 280 := by omega
  refine c_X8_reckoned hS hC hW hR (fun σ1 f1 c1 k1 q1 => ⟨rfl, ?_⟩)
  have hk := hk σ1 f1 (RKd_of k1 q1)
  have s1 := k1.1
  have f14 : σ1.1 14 w.toNat = iI (rp (sgA P (dd P) (-1) w)) := s1.1 w (by omega)
  have t15 : σ1.1 15 w.toNat = iI (if (fr P (dd P) (-1)) w = true then (tm P (dd P) (-1)) w else -1) := s1.2.1 w w0 w1
  have f4 : σ1.1 13 4 = bm (fr P (dd P) (-1)) (P 280) := s1.2.2.1.1
  have f5 : σ1.1 13 5 = bm (bur P (dd P) (-1)) (P 280) := s1.2.2.1.2.1
  try simp (disch := omega) only [iI_lit, iL_lit, iI_add, iI_sub, iI_mul, iI_neg, iI_lt, iI_le, iI_eq, iI_tn, iI_div, iI_l, iL_add, iL_sub, iL_mul, iL_neg, iL_le, iL_lt, iL_eq, iL_ite, vp_T, b2_ne0, b2_eq1, nn_imp, true_and, iI_ite, not_true_eq_false, not_false_eq_true, true_implies, false_implies, and_true, Int.reduceLT, Int.reduceLE, Int.reduceEq, or_false, false_or, true_or, or_true, false_and, and_false, f14, f4, f5, bs_0, bs_1, bs_bm, Bool.and_eq_true, decide_eq_true_eq, Bool.not_eq_false, Bool.not_eq_true]
  refine ⟨fun e => ⟨fun f => ?_, fun f => ?_⟩, fun e => (by simp (disch := omega) only [if_pos, if_neg] at hk; exact hk)⟩
  · have f := f.2.2.2
    rw [if_neg (by omega), if_neg e, if_neg (fun z => z f)] at hk
    rw [if_pos f] at t15
    try simp (disch := omega) only [iI_lit, iL_lit, iI_add, iI_sub, iI_mul, iI_neg, iI_lt, iI_le, iI_eq, iI_tn, iI_div, iI_l, iL_add, iL_sub, iL_mul, iL_neg, iL_le, iL_lt, iL_eq, iL_ite, vp_T, b2_ne0, b2_eq1, nn_imp, true_and, iI_ite, not_true_eq_false, not_false_eq_true, true_implies, false_implies, and_true, Int.reduceLT, Int.reduceLE, Int.reduceEq, or_false, false_or, true_or, or_true, false_and, and_false, t15]
    refine ⟨fun g => (by simp (disch := omega) only [if_pos, if_neg] at hk; exact hk), fun g => ⟨fun h => ⟨fun i => ?_, fun i => ?_⟩, fun h => ⟨fun i => ?_, fun i => (by simp (disch := omega) only [if_pos, if_neg] at hk; exact hk)⟩⟩⟩
    · simp (disch := omega) only [if_pos, if_neg] at hk
      rw [if_neg (fun z => i ⟨by omega, by omega, w1, z⟩)] at hk; exact hk
    · simp (disch := omega) only [if_pos, if_neg] at hk
      rw [if_pos i.2.2.2] at hk; exact hk
    · exact c_X0_ringOf hS isBl_13 c1 hW f5 w0 w1 ⟨_, rfl, (by simp (disch := omega) only [if_pos, if_neg] at hk; exact hk)⟩
  · rw [if_neg (by omega), if_neg e, if_pos (fun z => f ⟨by omega, by omega, w1, z⟩)] at hk; exact hk
end C23
