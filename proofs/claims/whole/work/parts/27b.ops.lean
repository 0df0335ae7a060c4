/-! the clock changes nothing else -/
section CLK
variable {P : Pl} {c : Int}
theorem k_fl : fl (pu P 285 c) = fl P := funext fun h => by unfold fl; simp (disch := omega) only [pu_e, pu_n, ]
theorem k_sl : sl (pu P 285 c) = sl P := funext fun h => by unfold sl; simp (disch := omega) only [pu_e, pu_n, ]
theorem k_nd : nd (pu P 285 c) = nd P := funext fun h => by unfold nd; simp (disch := omega) only [pu_e, pu_n, ]
theorem k_ahd : ahd (pu P 285 c) = ahd P := funext fun h => funext fun k => by refine ahd_c ?_ ?_ ?_ ?_ ?_ <;> simp (disch := omega) only [pu_e, pu_n, ]
theorem k_dd : dd (pu P 285 c) = dd P := funext fun h => by unfold dd; rw [pu_n (by omega)]
theorem k_280 : pu P 285 c 280 = P 280 := pu_n (by omega)
theorem k_281 : pu P 285 c 281 = P 281 := pu_n (by omega)
theorem k_282 : pu P 285 c 282 = P 282 := pu_n (by omega)
theorem k_283 : pu P 285 c 283 = P 283 := pu_n (by omega)
theorem k_284 : pu P 285 c 284 = P 284 := pu_n (by omega)
theorem k_rlv {F : Int → Bool} {T : Int → Int} {t h : Int} : rlv (pu P 285 c) F T t h ↔ rlv P F T t h := by
  unfold rlv; rw [k_ahd, k_nd, k_280, pu_n (by omega)]
theorem k_sg (hW : WF P) {D : Int → Bool} {g : Int} : sg (pu P 285 c) D g = sg P D g := funext fun h => by
  have g0 := WF_0 hW
  refine sg_c (fun x => ⟨?_, ?_⟩)
  · rintro ⟨l, hl⟩
    refine ⟨l, wkl_mono (P := pu P 285 c) (Q := P) k_281.symm (fun w w0 w1 => ?_) (fun w w0 w1 _ => rfl) hl⟩
    rw [k_281] at w1
    refine ⟨?_, ?_, ?_⟩ <;> simp (disch := omega) only [pu_e, pu_n, ]
  · rintro ⟨l, hl⟩
    refine ⟨l, wkl_mono (P := P) k_281 (fun w w0 w1 => ?_) (fun w w0 w1 _ => rfl) hl⟩
    refine ⟨?_, ?_, ?_⟩ <;> simp (disch := omega) only [pu_e, pu_n, ]
theorem k_sgA (hW : WF P) {D : Int → Bool} {g : Int} : sgA (pu P 285 c) D g = sgA P D g := funext fun h => by unfold sgA; rw [k_280, k_sg hW]
theorem k_fr (hW : WF P) {D : Int → Bool} {g : Int} : fr (pu P 285 c) D g = fr P D g := funext fun h => by
  unfold fr; rw [k_sg hW]
  rw [show pu P 285 c (8 * h + 2) = P (8 * h + 2) from pu_n (by omega)]
theorem k_tm (hW : WF P) {D : Int → Bool} {g h : Int} (h0 : 0 ≤ h ∧ h < P 280) : tm (pu P 285 c) D g h = tm P D g h := by
  have g0 := WF_0 hW
  unfold tm; rw [k_sg hW, pu_n (by omega)]
theorem k_SH (hW : WF P) : SH (pu P 285 c) P := by
  have g0 := WF_0 hW
  refine ⟨⟨k_280, k_282, k_283⟩, fun k k0 k1 => ⟨?_, ?_, ?_, ?_, ?_, ?_⟩⟩ <;> simp (disch := omega) only [pu_e, pu_n, ]
theorem k_bur (hW : WF P) {D : Int → Bool} {g h : Int} (h0 : 0 ≤ h) (h1 : h < P 280) : bur (pu P 285 c) D g h = bur P D g h :=
  SH_bur (k_SH hW) (fun k _ _ => by rw [k_sg hW]) (fun k _ _ => rfl) h0 h1
theorem k_shL (hW : WF P) {D : Int → Bool} {g : Int} : shL (pu P 285 c) (fr (pu P 285 c) D g) (tm (pu P 285 c) D g) = shL P (fr P D g) (tm P D g) :=
  SH_shL (k_SH hW) (fun k _ _ => by rw [k_fr hW]) (fun k k0 k1 _ => k_tm hW ⟨k0, k1⟩)
theorem k_RK (hW : WF P) {σ : St} (h : RK P σ) : RK (pu P 285 c) σ := by
  have g0 := WF_0 hW
  obtain ⟨⟨b1, b2, ⟨b3, b4, b5⟩, b6⟩, b7⟩ := h
  unfold RK BS
  rw [k_dd, k_shL hW, k_282, k_283, k_280, k_fr hW, k_sgA hW]
  refine ⟨⟨b1, fun k k0 k1 => ?_, ⟨b3, ?_, b5⟩, ?_⟩, b7⟩
  · rw [k_tm hW ⟨k0, k1⟩]; exact b2 k k0 k1
  · rw [bm_ext (by omega) (fun k k0 k1 => k_bur hW k0 k1)]; exact b4
  · intro k k0 k1
    rw [k_280] at k1
    rw [k_sg hW]
    have hx : ∀ x, WX (pu P 285 c) (dd P) (-1) k x ↔ WX P (dd P) (-1) k x := fun x => by
      constructor
      · rintro ⟨l, hl⟩
        refine ⟨l, wkl_mono (P := pu P 285 c) (Q := P) k_281.symm (fun w w0 w1 => ?_) (fun w w0 w1 _ => rfl) hl⟩
        rw [k_281] at w1
        refine ⟨?_, ?_, ?_⟩ <;> simp (disch := omega) only [pu_e, pu_n, ]
      · rintro ⟨l, hl⟩
        refine ⟨l, wkl_mono (P := P) k_281 (fun w w0 w1 => ?_) (fun w w0 w1 _ => rfl) hl⟩
        refine ⟨?_, ?_, ?_⟩ <;> simp (disch := omega) only [pu_e, pu_n, ]
    have r := b6 k k0 k1
    exact ⟨fun y hy => r.1 y ((hx y).mp hy), r.2.elim Or.inl (fun z => Or.inr ((hx _).mpr z))⟩
theorem k_con {h t0 w t : Int} : con (pu P 285 c) h t0 w t = con P h t0 w t := by unfold con; rw [k_fl, k_sl]
theorem k_hsm {F : Int → Bool} {T : Int → Int} {w t : Int} : hsm (pu P 285 c) F T w t = hsm P F T w t := by
  unfold hsm; rw [k_280]
  exact lp_c (fun k a _ _ => by rw [k_con])
theorem k_stm {F : Int → Bool} {T : Int → Int} {t : Int} : stm (pu P 285 c) F T t ↔ stm P F T t := by unfold stm; rw [k_280, k_fl, k_sl]
theorem k_okQ {F : Int → Bool} {T : Int → Int} : okQ (pu P 285 c) F T ↔ okQ P F T := by
  unfold okQ
  rw [k_282, k_283]
  exact ⟨fun q t ht => by have := q t (k_stm.mpr ht); rw [k_hsm] at this; exact this, fun q t ht => by rw [k_hsm]; exact q t (k_stm.mp ht)⟩
theorem k_tt (hW : WF P) {a : Pn} : tt (pu P 285 c) a = tt P a := funext fun h => by unfold tt; rw [k_dd, k_sg hW]
theorem k_fdI (hW : WF P) {a : Pn} {h : Int} : fdI (pu P 285 c) a h = fdI P a h := by
  unfold fdI
  rw [k_tt hW, k_dd, k_sg hW, k_284]
  have e : ∀ k : Int, dec (okI (pu P 285 c) a.1 (tt P a) h (sg P (dd P) (-1) h + k * P 284)) = dec (okI P a.1 (tt P a) h (sg P (dd P) (-1) h + k * P 284)) := fun k => by
    have : okI (pu P 285 c) a.1 (tt P a) h (sg P (dd P) (-1) h + k * P 284) = okI P a.1 (tt P a) h (sg P (dd P) (-1) h + k * P 284) := propext (by unfold okI; rw [k_rlv, k_okQ])
    rw [this]
  rw [funext e]
theorem k_plS (hW : WF P) {h : Int} {a : Pn} : plS (pu P 285 c) h a = plS P h a := by unfold plS; rw [k_fdI hW, k_284]
theorem k_hat {r k : Int} : hat (pu P 285 c) r k = hat P r k := by
  unfold hat
  rw [k_280]
  rw [show (fun h => decide (pu P 285 c (8 * h) = r ∧ pu P 285 c (8 * h + 1) = k)) = fun h => decide (P (8 * h) = r ∧ P (8 * h + 1) = k) from funext fun h => by simp (disch := omega) only [pu_e, pu_n, ]]
theorem k_plan (hW : WF P) : plan (pu P 285 c) = plan P := by
  unfold plan
  refine lp_c (fun q a _ _ => ?_)
  unfold plQ
  rw [k_hat, k_dd, k_fr hW, k_plS hW]
theorem k_csm {F : Int → Bool} : csm (pu P 285 c) F = csm P F := by
  unfold csm; rw [k_280]
  exact lp_c (fun k a _ _ => by unfold cnS; rw [k_fl, k_sl])
theorem k_PD (hW : WF P) {σ : St} (h : PD P σ) : PD (pu P 285 c) σ := by
  obtain ⟨z, ⟨⟨a1, a2, a3⟩, b, d, e, f, g⟩, q⟩ := h
  refine ⟨z, ⟨⟨?_, ?_, ?_⟩, b, d, fun t => ?_, fun t => ?_, ?_⟩, ?_⟩
  · rw [k_plan hW]; exact a1
  · rw [k_plan hW, k_tt hW]; exact a2
  · rw [k_plan hW, k_280]; exact a3
  · rw [k_plan hW, k_tt hW, k_stm]; exact e t
  · rw [k_plan hW, k_tt hW, k_282, k_hsm]; exact f t
  · rw [k_plan hW, k_csm]; exact g
  · rw [k_282, k_283]; exact q
theorem k_RKd (hW : WF P) {σ : St} (h : RKd P σ) : RKd (pu P 285 c) σ := h.elim Or.inl (fun z => Or.inr ⟨z.1, k_RK hW z.2⟩)
theorem k_PDd (hW : WF P) {σ : St} (h : PDd P σ) : PDd (pu P 285 c) σ := h.elim Or.inl (fun z => Or.inr ⟨z.1, k_PD hW z.2⟩)
end CLK
theorem CP_cl {Q : Pl} {σ σ' : St} {c : Int} (h : CP 1 Q σ) (e : σ' = upI σ 1 5 (iI c)) (hn : Q 280 ≤ 20) (hn2 : Q 281 ≤ 40) : CP 1 (pu Q 285 c) σ' := by
  refine CP_mk ?_ ?_ ?_ (fun k hk => ?_) (fun g k hk => ?_) (fun g hk => ?_) (fun w k hk => ?_)
  · rw [e, up_m (by omega), pu_n (by omega)]; exact CP_n h
  · rw [e, up_m (by omega), pu_n (by omega)]; exact CP_w h
  · rw [e, up_h rfl, pu_e rfl]
  · rw [e, up_n (by omega), pu_n (by omega)]; exact CP_r h hk
  · rw [k_280] at hk
    rw [e, up_n (by omega), pu_n (by omega)]; exact CP_m h hk
  · rw [k_280] at hk
    rw [e, up_n (by omega), k_280, k_ahd]; exact CP_a h hk
  · rw [k_281] at hk
    rw [e, up_n (by omega), pu_n (by omega)]; exact CP_v h hk
def qCount (P : Pl) (n x : Int32) (w : Int) : Int32 := if w = 0 then iI (P 280) else if w = 1 then iI (P 281) else if w = 2 then n else if w = 3 then x else if w = 4 then iI (P 282) else if w = 5 then iI (P 283) else if w = 6 then iI (P 284) else iI (-1)
noncomputable def qStep (P : Pl) : Int := if P 285 < (shL P (fr P (dd P) (-1)) (tm P (dd P) (-1))).2 then ((shL P (fr P (dd P) (-1)) (tm P (dd P) (-1))).1 (P 285)).2.2 else -3
noncomputable def stP (P : Pl) : Pl := if P 285 < (shL P (fr P (dd P) (-1)) (tm P (dd P) (-1))).2 then pu P 285 (P 285 + 1) else P
def hbs (Z : Int → Z3) (c n : Int) : Int32 := lp (fun i a => a ||| bit1 (Z i).2.2) c n (iI 0)
def wof (Z : Int → Z3) (c : Int) : Int := lp (fun i a => a + (Z i).2.1) 0 c 0
noncomputable def qStepped (P : Pl) (w : Int) : Int32 := if w = 0 then iI (P 285) else if w = 1 then iI (wof (shL P (fr P (dd P) (-1)) (tm P (dd P) (-1))).1 (P 285)) else if w = 2 then (if P 285 = 0 then iI (-1) else iI ((shL P (fr P (dd P) (-1)) (tm P (dd P) (-1))).1 (P 285 - 1)).1) else if w = 3 then bm (fr P (dd P) (-1)) (P 280) &&& (hbs (shL P (fr P (dd P) (-1)) (tm P (dd P) (-1))).1 (P 285) (shL P (fr P (dd P) (-1)) (tm P (dd P) (-1))).2 ^^^ iI (-1)) else iI (-1)
/-- the clock stands at a shot, or behind the last -/
def CLK (P : Pl) : Prop := P 285 ≤ (shL P (fr P (dd P) (-1)) (tm P (dd P) (-1))).2
theorem and_nor (x y b : Int32) : (x &&& (y ^^^ iI (-1))) &&& (b ^^^ iI (-1)) = x &&& ((y ||| b) ^^^ iI (-1)) := by
  apply b_ext
  intro i hi
  have e : iI (-1) = -1 := by decide
  rw [b_and, b_and, b_and, b_xor, b_xor, b_xor, b_or, e, b_m1 _ hi]
  cases bt x i <;> cases bt y i <;> cases bt b i <;> rfl
theorem and_m1 (x : Int32) : x &&& iI (-1) = x := by
  apply b_ext
  intro i hi
  have e : iI (-1) = -1 := by decide
  rw [b_and, e, b_m1 _ hi, Bool.and_true]
theorem and_nz (x : Int32) : x &&& (iI 0 ^^^ iI (-1)) = x := by
  rw [show iI 0 ^^^ iI (-1) = iI (-1) from by decide]; exact and_m1 x
section C27b
variable {S : Sp} {σ : St} {Φ : Rs} {P K : Pl}
theorem stP_W (hW : WF P) (hc : CLK P) : WF (stP P) ∧ CLK (stP P) := by
  have g0 := WF_0 hW
  have o := (sh_ok hW (sg_S hW) (P := P) (D := dd P) (g := -1)).1
  unfold CLK at hc ⊢
  unfold stP
  split
  · next c =>
    refine ⟨pu_C hW (by omega), ?_⟩
    rw [k_dd, k_shL hW, pu_e rfl]; omega
  · exact ⟨hW, hc⟩
theorem CLK_0 (hW : WF P) : CLK (pu P 285 0) := by
  have o := (sh_ok hW (sg_S hW) (P := P) (D := dd P) (g := -1)).1
  unfold CLK
  rw [k_dd, k_shL hW, pu_e rfl]; omega
theorem c_X9_count (hS : Sys S) (hM : MP 50 P σ) {w : Int} (r1 : -2147483648 ≤ w ∧ w < 2147483648) (hk : Φ [aI (qCount P (σ.1 49 20) (σ.1 49 4) w)] σ) : S 234 [aR 49, aI (iI w)] σ Φ := by
  refine m_X9_count hS (fun v hv hw => ?_)
  unfold vc_X9_count_0
  unfold qCount at hk
  try simp (disch := omega) only [iI_lit, iL_lit, iI_add, iI_sub, iI_mul, iI_neg, iI_lt, iI_le, iI_eq, iI_tn, iI_div, iI_l, iL_add, iL_sub, iL_mul, iL_neg, iL_le, iL_lt, iL_eq, iL_ite, vp_T, b2_ne0, b2_eq1, nn_imp, true_and, iI_ite, not_true_eq_false, not_false_eq_true, true_implies, false_implies, and_true, Int.reduceLT, Int.reduceLE, Int.reduceEq, or_false, false_or, true_or, or_true, false_and, and_false, hM _]
  refine ⟨fun a => (by simp (disch := omega) only [if_pos, if_neg] at hk; exact hk), fun a => ⟨fun b => (by simp (disch := omega) only [if_pos, if_neg] at hk; exact hk), fun b => ⟨fun c => (by simp (disch := omega) only [if_pos, if_neg] at hk; exact hk), fun c => ⟨fun d => (by simp (disch := omega) only [if_pos, if_neg] at hk; exact hk), fun d => ⟨fun e => ?_, fun e => ⟨fun f => ?_, fun f => ⟨fun g => ?_, fun g => (by simp (disch := omega) only [if_pos, if_neg] at hk; exact hk)⟩⟩⟩⟩⟩⟩⟩
  · subst e; try simp (disch := omega) only [iI_lit, iL_lit, iI_add, iI_sub, iI_mul, iI_neg, iI_lt, iI_le, iI_eq, iI_tn, iI_div, iI_l, iL_add, iL_sub, iL_mul, iL_neg, iL_le, iL_lt, iL_eq, iL_ite, vp_T, b2_ne0, b2_eq1, nn_imp, true_and, iI_ite, not_true_eq_false, not_false_eq_true, true_implies, false_implies, and_true, Int.reduceLT, Int.reduceLE, Int.reduceEq, or_false, false_or, true_or, or_true, false_and, and_false, hM _]; exact (by simp (disch := omega) only [if_pos, if_neg] at hk; exact hk)
  · subst f; try simp (disch := omega) only [iI_lit, iL_lit, iI_add, iI_sub, iI_mul, iI_neg, iI_lt, iI_le, iI_eq, iI_tn, iI_div, iI_l, iL_add, iL_sub, iL_mul, iL_neg, iL_le, iL_lt, iL_eq, iL_ite, vp_T, b2_ne0, b2_eq1, nn_imp, true_and, iI_ite, not_true_eq_false, not_false_eq_true, true_implies, false_implies, and_true, Int.reduceLT, Int.reduceLE, Int.reduceEq, or_false, false_or, true_or, or_true, false_and, and_false, hM _]; exact (by simp (disch := omega) only [if_pos, if_neg] at hk; exact hk)
  · subst g; try simp (disch := omega) only [iI_lit, iL_lit, iI_add, iI_sub, iI_mul, iI_neg, iI_lt, iI_le, iI_eq, iI_tn, iI_div, iI_l, iL_add, iL_sub, iL_mul, iL_neg, iL_le, iL_lt, iL_eq, iL_ite, vp_T, b2_ne0, b2_eq1, nn_imp, true_and, iI_ite, not_true_eq_false, not_false_eq_true, true_implies, false_implies, and_true, Int.reduceLT, Int.reduceLE, Int.reduceEq, or_false, false_or, true_or, or_true, false_and, and_false, hM _]; exact (by simp (disch := omega) only [if_pos, if_neg] at hk; exact hk)
theorem c_X8_count (hS : Sys S) (hC : CP 1 P σ) {w : Int} (r1 : -2147483648 ≤ w ∧ w < 2147483648) (hk : Φ [aI (qCount P (σ.1 36 1) (σ.1 0 14) w)] σ) : S 126 [aR 0, aI (iI w)] σ Φ := by
  refine m_X8_count hS (fun v hv hw => ?_)
  unfold vc_X8_count_0
  unfold qCount at hk
  have w0 : σ.1 4 (0 : Int).toNat = iI (P 282) := CP_r hC (by omega)
  have w1 : σ.1 4 (1 : Int).toNat = iI (P 283) := CP_r hC (by omega)
  have w2 : σ.1 4 (2 : Int).toNat = iI (P 284) := CP_r hC (by omega)
  try simp (disch := omega) only [iI_lit, iL_lit, iI_add, iI_sub, iI_mul, iI_neg, iI_lt, iI_le, iI_eq, iI_tn, iI_div, iI_l, iL_add, iL_sub, iL_mul, iL_neg, iL_le, iL_lt, iL_eq, iL_ite, vp_T, b2_ne0, b2_eq1, nn_imp, true_and, iI_ite, not_true_eq_false, not_false_eq_true, true_implies, false_implies, and_true, Int.reduceLT, Int.reduceLE, Int.reduceEq, or_false, false_or, true_or, or_true, false_and, and_false, CP_n hC, CP_w hC, w0, w1, w2]
  refine ⟨fun a => (by simp (disch := omega) only [if_pos, if_neg] at hk; exact hk), fun a => ⟨fun b => (by simp (disch := omega) only [if_pos, if_neg] at hk; exact hk), fun b => ⟨fun c => (by simp (disch := omega) only [if_pos, if_neg] at hk; exact hk), fun c => ⟨fun d => (by simp (disch := omega) only [if_pos, if_neg] at hk; exact hk), fun d => ⟨fun e => (by simp (disch := omega) only [if_pos, if_neg] at hk; exact hk), fun e => ⟨fun f => (by simp (disch := omega) only [if_pos, if_neg] at hk; exact hk), fun f => ⟨fun g => (by simp (disch := omega) only [if_pos, if_neg] at hk; exact hk), fun g => (by simp (disch := omega) only [if_pos, if_neg] at hk; exact hk)⟩⟩⟩⟩⟩⟩⟩
theorem c_X8_image (hS : Sys S) (hC : CP 1 P σ) (hW : WF P) (hk : ∀ σ', Fr (fun k j => 5 ≤ k ∧ k ≤ 8 ∨ (k = 0 ∧ j = 10)) σ σ' → CP 5 P σ' → σ'.1 0 10 = iI 1 → Φ [aI (iI (P 280))] σ') : S 127 [aR 0] σ Φ := by
  refine m_X8_image hS (fun v hv hw => ?_)
  unfold vc_X8_image_0
  refine c_X2_copyFrom hS isPat_5 isPat_1 (by omega) hC hW (fun σ1 f1 c1 => ⟨rfl, fun σ2 e2 => ?_⟩)
  have f2 : Fr (fun k j => k = 0 ∧ j = 10) σ1 σ2 := by rw [e2]; exact Fr_up Fr_rf ⟨rfl, rfl⟩
  have c2 := CP_f c1 f2 (fun k j a b => by omega)
  have hk := hk σ2 (Fr_tr (Fr_mo f1 (fun k j q => by unfold FP at q; omega)) (Fr_mo f2 (fun k j q => Or.inr q))) c2 (by rw [e2, iI_lit]; exact up_h rfl)
  rw [CP_n c2]; exact hk
theorem c_X8_undo (hS : Sys S) {b : Bool} (hi : σ.1 0 10 = iI (if b = true then 1 else 0)) (hC : b = true → CP 5 K σ ∧ WF K) (k1 : b = false → Φ [aI (iI (-3))] σ) (k2 : b = true → ∀ σ', Fr FMU σ σ' → CP 1 K σ' → CLR σ' → Φ [aI (iI (K 280))] σ') : S 128 [aR 0] σ Φ := by
  refine m_X8_undo hS (fun v hv hw => ?_)
  unfold vc_X8_undo_0
  cases b
  · rw [if_neg (by decide)] at hi
    try simp (disch := omega) only [iI_lit, iL_lit, iI_add, iI_sub, iI_mul, iI_neg, iI_lt, iI_le, iI_eq, iI_tn, iI_div, iI_l, iL_add, iL_sub, iL_mul, iL_neg, iL_le, iL_lt, iL_eq, iL_ite, vp_T, b2_ne0, b2_eq1, nn_imp, true_and, iI_ite, not_true_eq_false, not_false_eq_true, true_implies, false_implies, and_true, Int.reduceLT, Int.reduceLE, Int.reduceEq, or_false, false_or, true_or, or_true, false_and, and_false, hi]
    exact k1 rfl
  · rw [if_pos rfl] at hi
    try simp (disch := omega) only [iI_lit, iL_lit, iI_add, iI_sub, iI_mul, iI_neg, iI_lt, iI_le, iI_eq, iI_tn, iI_div, iI_l, iL_add, iL_sub, iL_mul, iL_neg, iL_le, iL_lt, iL_eq, iL_ite, vp_T, b2_ne0, b2_eq1, nn_imp, true_and, iI_ite, not_true_eq_false, not_false_eq_true, true_implies, false_implies, and_true, Int.reduceLT, Int.reduceLE, Int.reduceEq, or_false, false_or, true_or, or_true, false_and, and_false, hi]
    obtain ⟨c5, hW⟩ := hC rfl
    refine c_X2_copyFrom hS isPat_1 isPat_5 (by omega) c5 hW (fun σ1 f1 c1 => ⟨rfl, ?_⟩)
    refine c_X8_forget hS (fun σ2 f2 a1 a2 a3 => ⟨rfl, ?_⟩)
    have c2 := CP_f c1 f2 (fun k j a b => by omega)
    rw [CP_n c2]
    exact k2 rfl σ2 (Fr_tr (FP1_MU f1) (Fr_mo f2 (fun k j q => by unfold FMU; omega))) c2 ⟨a1, a2, a3⟩
theorem c_X9_image (hS : Sys S) (hM : MP 50 P σ) (hk : ∀ σ', Fr (fun k j => k = 51 ∨ (k = 49 ∧ j = 3)) σ σ' → MP 51 P σ' → σ'.1 49 3 = iI 1 → Φ [aI (iI (P 280))] σ') : S 235 [aR 49] σ Φ := by
  refine m_X9_image hS (fun v hv hw => ?_)
  unfold vc_X9_image_0
  intro σ1 e1
  refine c_X9_copies hS arr50 arr51 (by omega) (MP_o e1 hM (by omega)) (fun σ2 f2 m2 => ⟨rfl, ?_⟩)
  have m50 := MP_f (MP_o e1 hM (by omega)) f2 (fun j => by omega)
  try simp (disch := omega) only [iI_lit, iL_lit, iI_add, iI_sub, iI_mul, iI_neg, iI_lt, iI_le, iI_eq, iI_tn, iI_div, iI_l, iL_add, iL_sub, iL_mul, iL_neg, iL_le, iL_lt, iL_eq, iL_ite, vp_T, b2_ne0, b2_eq1, nn_imp, true_and, iI_ite, not_true_eq_false, not_false_eq_true, true_implies, false_implies, and_true, Int.reduceLT, Int.reduceLE, Int.reduceEq, or_false, false_or, true_or, or_true, false_and, and_false, m50 _]
  refine hk σ2 (Fr_tr (by rw [e1]; exact Fr_up Fr_rf (Or.inr ⟨rfl, rfl⟩)) (Fr_mo f2 (fun k j q => Or.inl q))) m2 ?_
  rw [f2.1 _ _ (by omega), e1, iI_lit]; exact up_h rfl
theorem c_X9_undo (hS : Sys S) {b : Bool} (hi : σ.1 49 3 = iI (if b = true then 1 else 0)) (hM : b = true → MP 51 K σ) (k1 : b = false → Φ [aI (iI (-3))] σ) (k2 : b = true → ∀ σ', Fr F50 σ σ' → MP 50 K σ' → Φ [aI (iI (K 280))] σ') : S 236 [aR 49] σ Φ := by
  refine m_X9_undo hS (fun v hv hw => ?_)
  unfold vc_X9_undo_0
  cases b
  · rw [if_neg (by decide)] at hi
    try simp (disch := omega) only [iI_lit, iL_lit, iI_add, iI_sub, iI_mul, iI_neg, iI_lt, iI_le, iI_eq, iI_tn, iI_div, iI_l, iL_add, iL_sub, iL_mul, iL_neg, iL_le, iL_lt, iL_eq, iL_ite, vp_T, b2_ne0, b2_eq1, nn_imp, true_and, iI_ite, not_true_eq_false, not_false_eq_true, true_implies, false_implies, and_true, Int.reduceLT, Int.reduceLE, Int.reduceEq, or_false, false_or, true_or, or_true, false_and, and_false, hi]
    exact k1 rfl
  · rw [if_pos rfl] at hi
    try simp (disch := omega) only [iI_lit, iL_lit, iI_add, iI_sub, iI_mul, iI_neg, iI_lt, iI_le, iI_eq, iI_tn, iI_div, iI_l, iL_add, iL_sub, iL_mul, iL_neg, iL_le, iL_lt, iL_eq, iL_ite, vp_T, b2_ne0, b2_eq1, nn_imp, true_and, iI_ite, not_true_eq_false, not_false_eq_true, true_implies, false_implies, and_true, Int.reduceLT, Int.reduceLE, Int.reduceEq, or_false, false_or, true_or, or_true, false_and, and_false, hi]
    refine c_X9_copies hS arr51 arr50 (by omega) (hM rfl) (fun σ1 f1 m1 => ⟨rfl, ?_⟩)
    try simp (disch := omega) only [iI_lit, iL_lit, iI_add, iI_sub, iI_mul, iI_neg, iI_lt, iI_le, iI_eq, iI_tn, iI_div, iI_l, iL_add, iL_sub, iL_mul, iL_neg, iL_le, iL_lt, iL_eq, iL_ite, vp_T, b2_ne0, b2_eq1, nn_imp, true_and, iI_ite, not_true_eq_false, not_false_eq_true, true_implies, false_implies, and_true, Int.reduceLT, Int.reduceLE, Int.reduceEq, or_false, false_or, true_or, or_true, false_and, and_false, m1 _]
    exact k2 rfl σ1 f1 m1
end C27b
