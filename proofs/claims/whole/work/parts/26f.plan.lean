noncomputable def adN (P : Pl) (a : Pn) (Q : Pl) (n : Int) : Pl := lp (fun h Q => if a.1 h = true then pu Q (8 * h + 5) (a.2 h) else Q) 0 n Q
noncomputable def adP (P : Pl) : Pl := adN P (plan P) P (P 280)
noncomputable def qAdopt (P : Pl) : Int := pop (bm (plan P).1 (P 280))
theorem adN_s {P : Pl} {a : Pn} {Q : Pl} {n : Int} (h : 0 ≤ n) : adN P a Q (n + 1) = if a.1 n = true then pu (adN P a Q n) (8 * n + 5) (a.2 n) else adN P a Q n := lp_l _ _ h
theorem plan_ok {P : Pl} (hW : WF P) : plI P (plan P) := (plan_I hW (q := 50) (by omega)).1
/-- adopting keeps all else -/
theorem adN_W {P : Pl} (hW : WF P) {a : Pn} (hI : plI P a) : ∀ (d : Nat) (n : Int), n.toNat = d → 0 ≤ n → n ≤ P 280 → WF (adN P a P n) ∧ adN P a P n 280 = P 280 ∧ adN P a P n 281 = P 281
  | 0, n, hd, h0, h1 => by
    have g0 := WF_0 hW
    unfold adN; rw [lp_z _ _ (by omega)]; exact ⟨hW, rfl, rfl⟩
  | d + 1, n, hd, h0, h1 => by
    have g0 := WF_0 hW
    obtain ⟨i1, i2, i3⟩ := adN_W hW hI d (n - 1) (by omega) (by omega) (by omega)
    rw [show n = (n - 1) + 1 by omega, adN_s (by omega)]
    by_cases c : a.1 (n - 1) = true
    · rw [if_pos c]
      have r := hI.1 _ c
      refine ⟨pu_W i1 (by omega) (by omega) (by unfold okB; omega), ?_, ?_⟩
      · rw [pu_n (by omega)]; exact i2
      · rw [pu_n (by omega)]; exact i3
    · rw [if_neg c]; exact ⟨i1, i2, i3⟩
theorem adP_W {P : Pl} (hW : WF P) : WF (adP P) ∧ adP P 280 = P 280 := ⟨(adN_W hW (plan_ok hW) _ (P 280) rfl (WF_0 hW).1.1 (Int.le_refl _)).1, (adN_W hW (plan_ok hW) _ (P 280) rfl (WF_0 hW).1.1 (Int.le_refl _)).2.1⟩
theorem pop_bm {p : Int → Bool} {n : Int} (h0 : 0 ≤ n) (h1 : n ≤ 20) : pop (bm p n) = lp (fun k a => a + (if p k = true then 1 else 0)) 0 n 0 := by
  unfold pop
  rw [lp_cat (m := n) _ rfl h0 (by omega)]
  rw [lp_skip (f := fun k => if bs (bm p n) k = true then 1 else 0) (fun i i0 i1 => by
    rw [bs_bm (by omega), decide_eq_false (by omega)]; rfl)]
  exact lp_c (fun k a k0 k1 => by rw [bs_bm (by omega), decide_eq_true k1, Bool.true_and])
theorem wx_min {P : Pl} {D : Int → Bool} {g h : Int} (hW : WF P) : ∀ (n : Nat) (x : Int), x.toNat ≤ n → WX P D g h x → ∃ x, WX P D g h x ∧ ∀ y, WX P D g h y → x ≤ y
  | 0, x, hn, hx => ⟨x, hx, fun y ⟨l, hy⟩ => by have := wkl_r hW hy; omega⟩
  | n + 1, x, hn, hx => by
    by_cases c : ∃ y, WX P D g h y ∧ y < x
    · obtain ⟨y, hy, hl⟩ := c
      obtain ⟨l, hw⟩ := hy
      have := wkl_r hW hw
      exact wx_min hW n y (by omega) ⟨l, hw⟩
    · exact ⟨x, hx, fun y hy => Classical.byContradiction (fun w => c ⟨y, hy, by omega⟩)⟩
theorem sg_S {P : Pl} {D : Int → Bool} {g : Int} (hW : WF P) : Sg P D g (sg P D g) := by
  intro h h0 h1
  by_cases c : ∃ x, WX P D g h x ∧ ∀ y, WX P D g h y → x ≤ y
  · have e : sg P D g h = Classical.choose c := by unfold sg; rw [dif_pos c]
    have r := Classical.choose_spec c
    rw [e]
    exact ⟨r.2, Or.inr r.1⟩
  · have e : sg P D g h = 1000000 := by unfold sg; rw [dif_neg c]
    exact ⟨fun y hy => absurd (wx_min hW _ y (Nat.le_refl _) hy) c, Or.inl e⟩
def FST : Nat → Nat → Prop := fun k j => (k = 1 ∧ j = 5) ∨ (k = 0 ∧ (j = 11 ∨ j = 12 ∨ j = 13))
section C26f
variable {S : Sp} {σ : St} {Φ : Rs} {P : Pl} {a : Pn}
theorem CP_ck {Q : Pl} {σ' : St} (h : CP 1 Q σ) (hf : Fr FST σ σ') (h5 : σ'.1 1 5 = iI 0) (hn : Q 280 ≤ 20) (hn2 : Q 281 ≤ 40) : CP 1 (pu Q 285 0) σ' := by
  have e1 : σ'.1 2 = σ.1 2 := Fr_k hf (fun j => by unfold FST; omega)
  have e2 : σ'.1 3 = σ.1 3 := Fr_k hf (fun j => by unfold FST; omega)
  have e3 : σ'.1 4 = σ.1 4 := Fr_k hf (fun j => by unfold FST; omega)
  refine CP_mk ?_ ?_ ?_ (fun k hk => ?_) (fun g k hk => ?_) (fun g hk => ?_) (fun w k hk => ?_)
  · rw [hf.1 _ _ (by unfold FST; omega), pu_n (by omega)]; exact CP_n h
  · rw [hf.1 _ _ (by unfold FST; omega), pu_n (by omega)]; exact CP_w h
  · rw [h5, pu_e rfl]
  · show σ'.1 4 _ = _
    rw [e3, pu_n (by omega)]; exact CP_r h hk
  · rw [pu_n (by omega)] at hk
    show σ'.1 2 _ = _
    rw [e1, pu_n (by omega)]; exact CP_m h hk
  · rw [pu_n (by omega)] at hk
    show σ'.1 2 _ = _
    rw [e1, pu_n (by omega)]
    rw [show σ.1 2 (g * 9 + 8).toNat = bm (ahd Q g) (Q 280) from CP_a h hk]
    refine bm_ext (by omega) (fun k k0 k1 => ?_)
    refine ahd_c ?_ ?_ ?_ ?_ ?_ <;> simp (disch := omega) only [pu_e, pu_n, ]
  · rw [pu_n (by omega)] at hk
    show σ'.1 3 _ = _
    rw [e2, pu_n (by omega)]; exact CP_v h hk
theorem c_X8_forget (hS : Sys S) (hk : ∀ σ', Fr (fun k j => k = 0 ∧ (j = 11 ∨ j = 12 ∨ j = 13)) σ σ' → σ'.1 0 11 = iI 0 → σ'.1 0 12 = iI 0 → σ'.1 0 13 = iI 0 → Φ [] σ') : S 130 [aR 0] σ Φ := by
  refine m_X8_forget hS (fun v hv hw => ?_)
  unfold vc_X8_forget_0
  intro σ1 e1 σ2 e2 σ3 e3
  refine hk σ3 (by rw [e3, e2, e1]; exact Fr_up (Fr_up (Fr_up Fr_rf (by omega)) (by omega)) (by omega)) ?_ ?_ ?_
  · rw [e3, up_m (by omega), e2, up_m (by omega), e1, up_h rfl, iI_lit]
  · rw [e3, up_m (by omega), e2, up_h rfl, iI_lit]
  · rw [e3, up_h rfl, iI_lit]
theorem c_X8_settled (hS : Sys S) {x : Int} (hx : -2147483648 ≤ x ∧ x < 2147483648) (k1 : x < 0 → Φ [aI (iI x)] σ) (k2 : 0 ≤ x → ∀ σ', Fr FST σ σ' → σ'.1 1 5 = iI 0 → σ'.1 0 11 = iI 0 → σ'.1 0 12 = iI 0 → σ'.1 0 13 = iI 0 → Φ [aI (iI x)] σ') : S 129 [aR 0, aI (iI x)] σ Φ := by
  refine m_X8_settled hS (fun v hv hw => ?_)
  unfold vc_X8_settled_0
  try simp (disch := omega) only [iI_lit, iL_lit, iI_add, iI_sub, iI_mul, iI_neg, iI_lt, iI_le, iI_eq, iI_tn, iI_div, iI_l, iL_add, iL_sub, iL_mul, iL_neg, iL_le, iL_lt, iL_eq, iL_ite, vp_T, b2_ne0, b2_eq1, nn_imp, true_and, iI_ite, not_true_eq_false, not_false_eq_true, true_implies, false_implies, and_true, Int.reduceLT, Int.reduceLE, Int.reduceEq, or_false, false_or, true_or, or_true, false_and, and_false]
  refine ⟨k1, fun c σ1 e1 => ?_⟩
  refine c_X8_forget hS (fun σ2 f2 a1 a2 a3 => ⟨rfl, k2 (by omega) σ2 ?_ ?_ a1 a2 a3⟩)
  · exact Fr_tr (by rw [e1]; exact Fr_up Fr_rf (Or.inl ⟨rfl, rfl⟩)) (Fr_mo f2 (fun k j q => Or.inr q))
  · rw [f2.1 _ _ (by omega), e1]; exact up_h rfl
theorem c_X9_plan (hS : Sys S) (hM : MP 50 P σ) (hW : WF P) {h : Int} (r1 : -2147483648 ≤ h ∧ h < 2147483648) (hk : ∀ σ', Fr FPL σ σ' → Φ [aI (iI (qPlan P h))] σ') : S 204 [aR 49, aI (iI h)] σ Φ := by
  refine m_X9_plan hS (fun v hv hw => ?_)
  have g0 := WF_0 hW
  unfold vc_X9_plan_0
  unfold qPlan at hk
  have hkr := hk σ Fr_rf
  try simp (disch := omega) only [iI_lit, iL_lit, iI_add, iI_sub, iI_mul, iI_neg, iI_lt, iI_le, iI_eq, iI_tn, iI_div, iI_l, iL_add, iL_sub, iL_mul, iL_neg, iL_le, iL_lt, iL_eq, iL_ite, vp_T, b2_ne0, b2_eq1, nn_imp, true_and, iI_ite, not_true_eq_false, not_false_eq_true, true_implies, false_implies, and_true, Int.reduceLT, Int.reduceLE, Int.reduceEq, or_false, false_or, true_or, or_true, false_and, and_false, hM _]
  refine ⟨fun c => ?_, fun c => by have hk := hkr; exact (by simp (disch := omega) only [if_pos, if_neg] at hk; exact hk)⟩
  refine c_X9_plans_ hS hM hW (fun σ1 f1 r1 => ⟨rfl, ?_⟩)
  have hk := hk σ1 f1
  rw [if_neg (by omega)] at hk
  have f18 := r1.2.1
  try simp (disch := omega) only [iI_lit, iL_lit, iI_add, iI_sub, iI_mul, iI_neg, iI_lt, iI_le, iI_eq, iI_tn, iI_div, iI_l, iL_add, iL_sub, iL_mul, iL_neg, iL_le, iL_lt, iL_eq, iL_ite, vp_T, b2_ne0, b2_eq1, nn_imp, true_and, iI_ite, not_true_eq_false, not_false_eq_true, true_implies, false_implies, and_true, Int.reduceLT, Int.reduceLE, Int.reduceEq, or_false, false_or, true_or, or_true, false_and, and_false, f18, bs_0, bs_1, bs_bm, Bool.and_eq_true, decide_eq_true_eq, Bool.not_eq_false, Bool.not_eq_true]
  refine ⟨fun e => ?_, fun e => ?_⟩
  · rw [if_neg (fun z => e ⟨by omega, z⟩)] at hk; exact hk
  · rw [if_pos e.2] at hk
    rw [(r1.2.2 h e.2).1]; exact hk
theorem c_X8_plan (hS : Sys S) (hC : CP 1 P σ) (hW : WF P) (hR : RKd P σ) (hD : PDd P σ) {h : Int} (r1 : -2147483648 ≤ h ∧ h < 2147483648) (hk : ∀ σ', Fr FRd σ σ' → RKd P σ' → PDd P σ' → Φ [aI (iI (qPlan P h))] σ') : S 111 [aR 0, aI (iI h)] σ Φ := by
  refine m_X8_plan hS (fun v hv hw => ?_)
  have g0 := WF_0 hW
  unfold vc_X8_plan_0
  unfold qPlan at hk
  have hkr := hk σ Fr_rf hR hD
  try simp (disch := omega) only [iI_lit, iL_lit, iI_add, iI_sub, iI_mul, iI_neg, iI_lt, iI_le, iI_eq, iI_tn, iI_div, iI_l, iL_add, iL_sub, iL_mul, iL_neg, iL_le, iL_lt, iL_eq, iL_ite, vp_T, b2_ne0, b2_eq1, nn_imp, true_and, iI_ite, not_true_eq_false, not_false_eq_true, true_implies, false_implies, and_true, Int.reduceLT, Int.reduceLE, Int.reduceEq, or_false, false_or, true_or, or_true, false_and, and_false, CP_n hC]
  refine ⟨fun c => ?_, fun c => by have hk := hkr; exact (by simp (disch := omega) only [if_pos, if_neg] at hk; exact hk)⟩
  refine c_X8_drawn hS hC hW hR hD (fun σ1 f1 c1 k1 d1 q1 => ⟨rfl, ?_⟩)
  have hk := hk σ1 f1 k1 (Or.inr ⟨q1, d1⟩)
  rw [if_neg (by omega)] at hk
  obtain ⟨z, hp, hg⟩ := d1
  have f28 := hp.1.1 h (by omega)
  have pi := plan_ok hW
  have hin : -1 ≤ (plan P).2 h ∧ (plan P).2 h ≤ 999 ∧ ((plan P).2 h = -1 ↔ ¬ (plan P).1 h = true) := by
    by_cases e : (plan P).1 h = true
    · have := pi.1 h e
      exact ⟨by omega, by omega, ⟨fun z => by omega, fun z => absurd e z⟩⟩
    · have := pi.2.1 h e
      exact ⟨by omega, by omega, ⟨fun _ => e, fun _ => this⟩⟩
  try simp (disch := omega) only [iI_lit, iL_lit, iI_add, iI_sub, iI_mul, iI_neg, iI_lt, iI_le, iI_eq, iI_tn, iI_div, iI_l, iL_add, iL_sub, iL_mul, iL_neg, iL_le, iL_lt, iL_eq, iL_ite, vp_T, b2_ne0, b2_eq1, nn_imp, true_and, iI_ite, not_true_eq_false, not_false_eq_true, true_implies, false_implies, and_true, Int.reduceLT, Int.reduceLE, Int.reduceEq, or_false, false_or, true_or, or_true, false_and, and_false, f28]
  refine ⟨fun e => ?_, fun e => ?_⟩
  · rw [if_pos (Classical.not_not.mp (fun z => e (hin.2.2.mpr z)))] at hk; exact hk
  · rw [if_neg (hin.2.2.mp e)] at hk; exact hk
theorem c_X9_planned (hS : Sys S) (hM : MP 50 P σ) (hW : WF P) {w : Int} (r1 : -2147483648 ≤ w ∧ w < 2147483648) (hk : ∀ σ', Fr FPL σ σ' → Φ [aI (iI (qPlanned P w))] σ') : S 205 [aR 49, aI (iI w)] σ Φ := by
  refine m_X9_planned hS (fun v hv hw => ?_)
  have g0 := WF_0 hW
  unfold vc_X9_planned_0
  unfold qPlanned at hk
  have hkr := hk σ Fr_rf
  try simp (disch := omega) only [iI_lit, iL_lit, iI_add, iI_sub, iI_mul, iI_neg, iI_lt, iI_le, iI_eq, iI_tn, iI_div, iI_l, iL_add, iL_sub, iL_mul, iL_neg, iL_le, iL_lt, iL_eq, iL_ite, vp_T, b2_ne0, b2_eq1, nn_imp, true_and, iI_ite, not_true_eq_false, not_false_eq_true, true_implies, false_implies, and_true, Int.reduceLT, Int.reduceLE, Int.reduceEq, or_false, false_or, true_or, or_true, false_and, and_false]
  refine ⟨fun c => ?_, fun c => by have hk := hkr; exact (by simp (disch := omega) only [if_pos, if_neg] at hk; exact hk)⟩
  refine c_X9_plans_ hS hM hW (fun σ1 f1 r1 => ⟨rfl, ?_⟩)
  have f18 := r1.2.1
  have pi := plan_ok hW
  have TB : ∀ k, (plan P).1 k = true → 0 ≤ tt P (plan P) k ∧ tt P (plan P) k ≤ 10999 := fun k kf => tt_r hW r1.1.2.2 pi kf
  try simp (disch := omega) only [iI_lit, iL_lit, iI_add, iI_sub, iI_mul, iI_neg, iI_lt, iI_le, iI_eq, iI_tn, iI_div, iI_l, iL_add, iL_sub, iL_mul, iL_neg, iL_le, iL_lt, iL_eq, iL_ite, vp_T, b2_ne0, b2_eq1, nn_imp, true_and, iI_ite, not_true_eq_false, not_false_eq_true, true_implies, false_implies, and_true, Int.reduceLT, Int.reduceLE, Int.reduceEq, or_false, false_or, true_or, or_true, false_and, and_false, f18]
  refine ⟨fun d => ?_, fun d => ?_⟩
  · have mp1 := MP_f hM f1 (fun j => by unfold FPL; omega)
    have L : ∀ (n : Nat) (h : Int), (P 280 - h).toNat = n → 0 ≤ h → h ≤ P 280 → v 34 [some (aR 49), some (aI (iI w)), some (aI (iI (lst P (plan P).1 (tt P (plan P)) h))), some (aI (iI h))] [] σ1 := by
      intro n
      induction n with
      | zero =>
        intro h hd h0 h1
        refine w_X9_planned_34 hS hv hw _ _ _ σ1 ?_
        unfold vc_X9_planned_34
        have q : h = P 280 := by omega
        subst q
        try simp (disch := omega) only [iI_lit, iL_lit, iI_add, iI_sub, iI_mul, iI_neg, iI_lt, iI_le, iI_eq, iI_tn, iI_div, iI_l, iL_add, iL_sub, iL_mul, iL_neg, iL_le, iL_lt, iL_eq, iL_ite, vp_T, b2_ne0, b2_eq1, nn_imp, true_and, iI_ite, not_true_eq_false, not_false_eq_true, true_implies, false_implies, and_true, Int.reduceLT, Int.reduceLE, Int.reduceEq, or_false, false_or, true_or, or_true, false_and, and_false, mp1 _, f18]
        refine ⟨fun _ => ?_, fun c => by omega⟩
        refine c_X9_laysShots hS mp1 hW (F := (plan P).1) (T := tt P (plan P)) (fun k k0 k1 kf => ⟨(r1.2.2 k kf).2, by have := TB k kf; omega⟩) (fun k k0 k1 kf => (fr_i.mp (pi.1 k kf).2.1).2.2) (fun σ2 f2 m2 => ⟨rfl, ?_⟩)
        have hk := hk σ2 (Fr_tr f1 (Fr_mo f2 (fun k j q => by unfold FSH at q; unfold FPL; omega)))
        have mp2 := MP_f mp1 f2 (fun j => by unfold FSH; omega)
        refine ⟨fun e => ?_, fun e => (by simp (disch := omega) only [if_pos, if_neg] at hk; exact hk)⟩
        have ok : okZ (shL P (plan P).1 (tt P (plan P))).1 (shL P (plan P).1 (tt P (plan P))).2 := (shL_ok hW (fun k k0 k1 kf => by have := TB k kf; omega) (P 280) g0.1.1 (Int.le_refl _)).1
        exact c_X9_worstShake hS mp2 hW m2 ok ⟨_, rfl, (by simp (disch := omega) only [if_pos, if_neg] at hk; exact hk)⟩
      | succ n ih =>
        intro h hd h0 h1
        refine w_X9_planned_34 hS hv hw _ _ _ σ1 ?_
        unfold vc_X9_planned_34
        have i := ih (h + 1) (by omega) (by omega) (by omega)
        rw [lst_s h0] at i
        have lr : -1 ≤ lst P (plan P).1 (tt P (plan P)) h ∧ lst P (plan P).1 (tt P (plan P)) h ≤ 15000 := by
          unfold lst
          refine lp_inv (f := fun h b => if (plan P).1 h = true ∧ b < tt P (plan P) h then tt P (plan P) h else b) (fun _ b => -1 ≤ b ∧ b ≤ 15000) _ rfl h0 (by omega) (fun k b k0 k1 hb2 => ?_)
          by_cases c : (plan P).1 k = true ∧ b < tt P (plan P) k
          · rw [if_pos c]; have := TB k c.1; omega
          · rw [if_neg c]; exact hb2
        try simp (disch := omega) only [iI_lit, iL_lit, iI_add, iI_sub, iI_mul, iI_neg, iI_lt, iI_le, iI_eq, iI_tn, iI_div, iI_l, iL_add, iL_sub, iL_mul, iL_neg, iL_le, iL_lt, iL_eq, iL_ite, vp_T, b2_ne0, b2_eq1, nn_imp, true_and, iI_ite, not_true_eq_false, not_false_eq_true, true_implies, false_implies, and_true, Int.reduceLT, Int.reduceLE, Int.reduceEq, or_false, false_or, true_or, or_true, false_and, and_false, mp1 _, f18, bs_0, bs_1, bs_bm, Bool.and_eq_true, decide_eq_true_eq, Bool.not_eq_false, Bool.not_eq_true]
        refine ⟨fun c => by omega, fun _ => ⟨fun c => ?_, fun c => ?_⟩⟩
        · rw [if_neg (fun z => c ⟨by omega, z.1⟩)] at i; exact i
        · have t4 := (r1.2.2 h c.2).2
          have tb := TB h c.2
          try simp (disch := omega) only [iI_lit, iL_lit, iI_add, iI_sub, iI_mul, iI_neg, iI_lt, iI_le, iI_eq, iI_tn, iI_div, iI_l, iL_add, iL_sub, iL_mul, iL_neg, iL_le, iL_lt, iL_eq, iL_ite, vp_T, b2_ne0, b2_eq1, nn_imp, true_and, iI_ite, not_true_eq_false, not_false_eq_true, true_implies, false_implies, and_true, Int.reduceLT, Int.reduceLE, Int.reduceEq, or_false, false_or, true_or, or_true, false_and, and_false, t4]
          refine ⟨fun e => ?_, fun e => ?_⟩
          · rw [if_neg (fun z => by omega)] at i; exact i
          · rw [if_pos ⟨c.2, by omega⟩] at i; exact i
    have := L _ 0 rfl (by omega) (by omega)
    rw [show lst P (plan P).1 (tt P (plan P)) 0 = -1 from lp_z _ _ (Int.le_refl 0)] at this
    exact this
  · have hk := hk σ1 f1
    exact c_X9_countOf hS (fun _ => ⟨_, rfl, (by simp (disch := omega) only [if_pos, if_neg] at hk; exact hk)⟩)
theorem c_X8_planned (hS : Sys S) (hC : CP 1 P σ) (hW : WF P) (hR : RKd P σ) (hD : PDd P σ) {w : Int} (r1 : -2147483648 ≤ w ∧ w < 2147483648) (hk : ∀ σ', Fr FRd σ σ' → RKd P σ' → PDd P σ' → Φ [aI (iI (qPlanned P w))] σ') : S 112 [aR 0, aI (iI w)] σ Φ := by
  refine m_X8_planned hS (fun v hv hw => ?_)
  have g0 := WF_0 hW
  unfold vc_X8_planned_0
  unfold qPlanned at hk
  have hkr := hk σ Fr_rf hR hD
  have pi := plan_ok hW
  try simp (disch := omega) only [iI_lit, iL_lit, iI_add, iI_sub, iI_mul, iI_neg, iI_lt, iI_le, iI_eq, iI_tn, iI_div, iI_l, iL_add, iL_sub, iL_mul, iL_neg, iL_le, iL_lt, iL_eq, iL_ite, vp_T, b2_ne0, b2_eq1, nn_imp, true_and, iI_ite, not_true_eq_false, not_false_eq_true, true_implies, false_implies, and_true, Int.reduceLT, Int.reduceLE, Int.reduceEq, or_false, false_or, true_or, or_true, false_and, and_false]
  refine ⟨fun c => ?_, fun c => ⟨fun d => ?_, fun d => ⟨fun e => ?_, fun e => by have hk := hkr; exact (by simp (disch := omega) only [if_pos, if_neg] at hk; exact hk)⟩⟩⟩
  · refine c_X8_drawn hS hC hW hR hD (fun σ1 f1 c1 k1 d1 q1 => ⟨rfl, ?_⟩)
    have hk := hk σ1 f1 k1 (Or.inr ⟨q1, d1⟩)
    obtain ⟨z, hp, hg⟩ := d1
    rw [hp.1.2.2]
    exact c_bitCount hS (fun k k0 k1 => by rw [bs_bm (by omega), decide_eq_false (by omega)]; rfl) (fun _ => ⟨_, rfl, (by simp (disch := omega) only [if_pos, if_neg] at hk; exact hk)⟩)
  · refine c_X8_drawn hS hC hW hR hD (fun σ1 f1 c1 k1 d1 q1 => ⟨rfl, ?_⟩)
    have hk := hk σ1 f1 k1 (Or.inr ⟨q1, d1⟩)
    obtain ⟨z, hp, hg⟩ := d1
    refine c_X3_latest hS c1 hW hp (fun k kf => ?_) ⟨_, rfl, (by simp (disch := omega) only [if_pos, if_neg] at hk; exact hk)⟩
    have := tt_r hW (sg_S hW) pi kf; omega
  · refine c_X8_drawn hS hC hW hR hD (fun σ1 f1 c1 k1 d1 q1 => ⟨rfl, ?_⟩)
    have hk := hk σ1 f1 k1 (Or.inr ⟨q1, d1⟩)
    obtain ⟨z, hp, hg⟩ := d1
    rw [hg.2.1]
    have hT : ∀ k, 0 ≤ k → k < P 280 → (plan P).1 k = true → 0 ≤ tt P (plan P) k ∧ tt P (plan P) k ≤ 15000 := fun k _ _ kf => by have := tt_r hW (sg_S hW) pi kf; omega
    have ok : okZ (shL P (plan P).1 (tt P (plan P))).1 (shL P (plan P).1 (tt P (plan P))).2 := (shL_ok hW hT (P 280) g0.1.1 (Int.le_refl _)).1
    rw [wS_same hp.2.2.1 ok (fun t => by rw [hp.2.2.2.1, tin_shL hW hT]) (fun t => by rw [hp.2.2.2.2.1, shk_shL hW hT])]
    exact (by simp (disch := omega) only [if_pos, if_neg] at hk; exact hk)
end C26f
