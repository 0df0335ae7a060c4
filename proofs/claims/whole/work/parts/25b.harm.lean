def FMI : Nat → Nat → Prop := fun k j => k = 50 ∨ k = 52 ∨ k = 53 ∨ k = 54 ∨ k = 55 ∨ k = 56 ∨ k = 57 ∨ (k = 49 ∧ (j = 7 ∨ j = 8 ∨ j = 12 ∨ j = 13 ∨ j = 14 ∨ j = 15 ∨ j = 16))
def FCO : Nat → Nat → Prop := fun k j => k = 53 ∨ k = 54 ∨ k = 55 ∨ k = 56 ∨ k = 57 ∨ (k = 49 ∧ (j = 7 ∨ j = 8 ∨ j = 12 ∨ j = 13 ∨ j = 14))
def FH : Nat → Nat → Prop := fun k j => (13 ≤ k ∧ k ≤ 26) ∨ (k = 0 ∧ j = 11)
theorem arr50 : isArr 1 50 286 := ⟨rfl, rfl, by omega⟩
theorem arr52 : isArr 1 52 286 := ⟨rfl, rfl, by omega⟩
theorem arr51 : isArr 1 51 286 := ⟨rfl, rfl, by omega⟩
theorem bm_bit {p : Int → Bool} {n x : Int} (h : 0 ≤ x ∧ x < n ∧ n ≤ 31) : bm p n ||| bit1 x = bm (fun k => p k || decide (k = x)) n := by
  refine eq_bm (by omega) (fun k k0 k1 => ?_)
  unfold bit1
  rw [bs_or, bs_bm (by omega), bs_one (by omega)]
  by_cases c : k < n
  · rw [decide_eq_true c]; simp
  · rw [decide_eq_false c, decide_eq_false (by omega : ¬ k = x)]; simp
theorem bitO_m : bitO (iI (-1)) = iI 0 := by decide +kernel
section C25
variable {S : Sp} {σ : St} {Φ : Rs} {P : Pl} {D : Int → Bool} {g : Int}
theorem c_X9_compares (hS : Sys S) {Q : Pl} (hM : MP 50 Q σ) (hW : WF Q) {wf wb but : Int32} (hk : ∀ σ', Fr FCO σ σ' → MP 50 Q σ' → Sg Q (dd Q) (-1) (sg Q (dd Q) (-1)) → MS (shL Q (fr Q (dd Q) (-1)) (tm Q (dd Q) (-1))) σ' → σ'.1 49 13 = (wf &&& (bm (fr Q (dd Q) (-1)) (Q 280) ^^^ iI (-1))) &&& (but ^^^ iI (-1)) → σ'.1 49 14 = bm (bur Q (dd Q) (-1)) (Q 280) &&& (wb ^^^ iI (-1)) → Φ [] σ') : S 194 [aR 49, aI wf, aI wb, aI but] σ Φ := by
  refine m_X9_compares hS (fun v hv hw => ?_)
  unfold vc_X9_compares_0
  refine c_X9_lays hS hM hW (fun σ1 f1 s1 m1 => ⟨rfl, fun σ2 e2 σ3 e3 => ?_⟩)
  rw [s1.2.2.1] at e2
  have s8 : σ2.1 49 8 = bm (bur Q (dd Q) (-1)) (Q 280) := by rw [e2, up_m (by omega)]; exact s1.2.2.2.1
  rw [s8] at e3
  have n1 : (-1 : Int32) = iI (-1) := by decide
  rw [n1] at e2 e3
  have F1 : Fr FCO σ σ1 := Fr_mo f1 (fun k j q => by unfold FL FM FSH at q; unfold FCO; omega)
  have F3 : Fr FCO σ1 σ3 := by rw [e3, e2]; exact Fr_up (Fr_up Fr_rf (by unfold FCO; omega)) (by unfold FCO; omega)
  have G3 : Fr (fun k j => k = 49 ∧ (j = 13 ∨ j = 14)) σ1 σ3 := by rw [e3, e2]; exact Fr_up (Fr_up Fr_rf (by omega)) (by omega)
  refine hk σ3 (Fr_tr F1 F3) (MP_f (MP_f hM f1 (fun j => by unfold FL FM FSH; omega)) G3 (fun j => by omega)) s1.2.2.2.2 (MS_f m1 G3 (fun k j q => by omega)) ?_ ?_
  · rw [e3, up_m (by omega), e2]; exact up_h rfl
  · rw [e3]; exact up_h rfl
/-- what misfires() and breaks() have in common, behind the change of the pattern -/
theorem harm_tail (hS : Sys S) {Q : Pl} {σ2 : St} (hW : WF P) (hWQ : WF Q) (hSH : SH Q P) (hsg : ∀ k, 0 ≤ k → k < P 280 → sg Q (dd Q) (-1) k = sg P D g k) (hD : ∀ k, 0 ≤ k → k < P 280 → dd Q k = D k) {but : Int32} (hf : Fr FMI σ σ2) (h50 : MP 50 Q σ2) (h52 : MP 52 P σ2)
    (hk : ∀ σ', Fr FMI σ σ' → MP 50 P σ' → σ'.1 49 13 = hLo P D g but → σ'.1 49 14 = hBa P D g → σ'.1 49 15 = iI (wS (shL P (fr P D g) (tm P D g)).1 (shL P (fr P D g) (tm P D g)).2 (P 282)) → σ'.1 49 16 = iI (ov (shL P (fr P D g) (tm P D g)).1 (shL P (fr P D g) (tm P D g)).2 (P 282) (P 283) (shL P (fr P D g) (tm P D g)).2) → Φ [] σ') :
    S 194 [aR 49, aI (bm (fr P (dd P) (-1)) (P 280)), aI (bm (bur P (dd P) (-1)) (P 280)), aI but] σ2 (fun r σ4 => r = [] ∧ (S 184 [aR 49] σ4 (fun r σ5 => ∃ x6 : Int32, r = [aI x6] ∧ (∀ σ7 : St, σ7 = upI σ5 49 15 x6 → (S 185 [aR 49] σ7 (fun r σ8 => ∃ x9 : Int32, r = [aI x9] ∧ (∀ σ10 : St, σ10 = upI σ8 49 16 x9 → (S 146 [aR 52, aR 50] σ10 (fun r σ11 => r = [] ∧ (Φ [] σ11)))))))))) := by
  have g0 := WF_0 hW
  have eF : ∀ k, 0 ≤ k → k < P 280 → fr Q (dd Q) (-1) k = fr P D g k := fun k a b => SH_fr hSH hsg hD a b
  have eT : ∀ k, 0 ≤ k → k < P 280 → tm Q (dd Q) (-1) k = tm P D g k := fun k a b => SH_tm hSH hsg a b
  have eB : ∀ k, 0 ≤ k → k < P 280 → bur Q (dd Q) (-1) k = bur P D g k := fun k a b => SH_bur hSH hsg hD a b
  have eZ : shL Q (fr Q (dd Q) (-1)) (tm Q (dd Q) (-1)) = shL P (fr P D g) (tm P D g) := SH_shL hSH eF (fun k a b _ => eT k a b)
  refine c_X9_compares hS h50 hWQ (fun σ4 f4 m4 hG ms b13 b14 => ⟨rfl, ?_⟩)
  have ok := sh_ok hWQ hG
  rw [eZ] at ms ok
  rw [hSH.1.1, bm_ext (by omega) eF] at b13
  rw [hSH.1.1, bm_ext (by omega) eB] at b14
  refine c_X9_worstShake hS m4 hWQ ms ok ⟨_, rfl, fun σ7 e7 => ?_⟩
  have G7 : Fr (fun k j => k = 49 ∧ j = 15) σ4 σ7 := by rw [e7]; exact Fr_up Fr_rf (by omega)
  have m7 := MP_f m4 G7 (fun j => by omega)
  have ms7 := MS_f ms G7 (fun k j q => by omega)
  refine c_X9_over hS m7 hWQ ms7 ok ⟨_, rfl, fun σ10 e10 => ?_⟩
  have G10 : Fr (fun k j => k = 49 ∧ j = 16) σ7 σ10 := by rw [e10]; exact Fr_up Fr_rf (by omega)
  have f52 : MP 52 P σ10 := by
    intro i hi
    rw [Fr_k G10 (fun j => by omega), Fr_k G7 (fun j => by omega), Fr_k f4 (fun j => by unfold FCO; omega)]
    exact h52 i hi
  refine c_X9_copies hS arr52 arr50 (by omega) f52 (fun σ11 f11 m11 => ⟨rfl, ?_⟩)
  refine hk σ11 ?_ m11 ?_ ?_ ?_ ?_
  · refine Fr_tr (Fr_tr (Fr_tr (Fr_tr hf (Fr_mo f4 (fun k j q => by unfold FCO at q; unfold FMI; omega))) (Fr_mo G7 (fun k j q => by unfold FMI; omega))) (Fr_mo G10 (fun k j q => by unfold FMI; omega))) (Fr_mo f11 (fun k j q => by unfold FMI; omega))
  · rw [f11.1 _ _ (by omega), G10.1 _ _ (by omega), G7.1 _ _ (by omega)]; exact b13
  · rw [f11.1 _ _ (by omega), G10.1 _ _ (by omega), G7.1 _ _ (by omega)]; exact b14
  · rw [f11.1 _ _ (by omega), G10.1 _ _ (by omega), e7, up_h rfl, hSH.1.2.1]
  · rw [f11.1 _ _ (by omega), e10, up_h rfl, hSH.1.2.1, hSH.1.2.2]
theorem c_X9_misfires (hS : Sys S) (hM : MP 50 P σ) (hW : WF P) {x : Int} (x0 : 0 ≤ x) (x1 : x < P 280) (hk : ∀ σ', Fr FMI σ σ' → MP 50 P σ' → σ'.1 49 13 = hLo P (ddx P x) (-1) (bit1 x) → σ'.1 49 14 = hBa P (ddx P x) (-1) → σ'.1 49 15 = iI (wS (shL P (fr P (ddx P x) (-1)) (tm P (ddx P x) (-1))).1 (shL P (fr P (ddx P x) (-1)) (tm P (ddx P x) (-1))).2 (P 282)) → σ'.1 49 16 = iI (ov (shL P (fr P (ddx P x) (-1)) (tm P (ddx P x) (-1))).1 (shL P (fr P (ddx P x) (-1)) (tm P (ddx P x) (-1))).2 (P 282) (P 283) (shL P (fr P (ddx P x) (-1)) (tm P (ddx P x) (-1))).2) → Φ [] σ') : S 195 [aR 49, aI (iI x)] σ Φ := by
  refine m_X9_misfires hS (fun v hv hw => ?_)
  have g0 := WF_0 hW
  unfold vc_X9_misfires_0
  refine c_X9_fires hS hM hW (fun σ1 f1 s1 => ⟨rfl, ?_⟩)
  have m1 := MP_f hM f1 (fun j => by unfold FM; omega)
  refine c_X9_copies hS arr50 arr52 (by omega) m1 (fun σ2 f2 m2 => ⟨rfl, ?_⟩)
  rw [s1.2.2.1, s1.2.2.2.1]
  simp (disch := omega) only [iI_lit, iI_mul, iI_add, vp_T, true_and, iI_tn]
  intro σ3 e3
  have m1' := MP_f m1 f2 (fun j => by omega)
  have m3 := MP_up e3 m1' (by omega)
  have F1 : Fr FMI σ σ1 := Fr_mo f1 (fun k j q => by unfold FM at q; unfold FMI; omega)
  have F2 : Fr FMI σ1 σ2 := Fr_mo f2 (fun k j q => by unfold FMI; omega)
  have F3 : Fr FMI σ2 σ3 := by rw [e3]; exact Fr_up Fr_rf (by unfold FMI; omega)
  have hWQ := pu_W hW (what := 6) (v := 1) x0 x1 (by unfold okB; omega)
  exact harm_tail hS hW hWQ (mis_SH hW x0 x1) (D := ddx P x) (g := -1) (fun k _ _ => mis_sg hW x0 x1) (fun k _ _ => mis_D) (but := bit1 x) (Fr_tr (Fr_tr F1 F2) F3) m3 (MP_o e3 m2 (by omega)) hk
theorem c_X9_breaks (hS : Sys S) (hM : MP 50 P σ) (hW : WF P) {w : Int} (w0 : 0 ≤ w) (w1 : w < P 281) (hk : ∀ σ', Fr FMI σ σ' → MP 50 P σ' → σ'.1 49 13 = hLo P (dd P) w (iI 0) → σ'.1 49 14 = hBa P (dd P) w → σ'.1 49 15 = iI (wS (shL P (fr P (dd P) w) (tm P (dd P) w)).1 (shL P (fr P (dd P) w) (tm P (dd P) w)).2 (P 282)) → σ'.1 49 16 = iI (ov (shL P (fr P (dd P) w) (tm P (dd P) w)).1 (shL P (fr P (dd P) w) (tm P (dd P) w)).2 (P 282) (P 283) (shL P (fr P (dd P) w) (tm P (dd P) w)).2) → Φ [] σ') : S 196 [aR 49, aI (iI w)] σ Φ := by
  refine m_X9_breaks hS (fun v hv hw => ?_)
  have g0 := WF_0 hW
  unfold vc_X9_breaks_0
  refine c_X9_fires hS hM hW (fun σ1 f1 s1 => ⟨rfl, ?_⟩)
  have m1 := MP_f hM f1 (fun j => by unfold FM; omega)
  refine c_X9_copies hS arr50 arr52 (by omega) m1 (fun σ2 f2 m2 => ⟨rfl, ?_⟩)
  rw [s1.2.2.1, s1.2.2.2.1]
  have m1' := MP_f m1 f2 (fun j => by omega)
  refine c_X9_cuts hS m1' (by omega) w0 w1 (fun σ3 f3 m3 => ⟨rfl, ?_⟩)
  have F1 : Fr FMI σ σ1 := Fr_mo f1 (fun k j q => by unfold FM at q; unfold FMI; omega)
  have F2 : Fr FMI σ1 σ2 := Fr_mo f2 (fun k j q => by unfold FMI; omega)
  have F3 : Fr FMI σ2 σ3 := Fr_mo f3 (fun k j q => by unfold F50 at q; unfold FMI; omega)
  rw [iI_lit]
  exact harm_tail hS hW (cutP_W hW w0 w1) (cut_SH hW w0 w1) (D := dd P) (g := w) (fun k _ _ => cut_sg hW w0 w1) (fun k k0 k1 => cut_dd w0 (by omega)) (but := iI 0) (Fr_tr (Fr_tr F1 F2) F3) m3 (MP_f m2 f3 (fun j => by unfold F50; omega)) hk
theorem c_X9_told (hS : Sys S) {a : Int} (ha : 0 ≤ a ∧ a ≤ 3) {but : Int32} (h13 : σ.1 49 13 = hLo P D g but) (h14 : σ.1 49 14 = hBa P D g) (h15 : σ.1 49 15 = iI (wS (shL P (fr P D g) (tm P D g)).1 (shL P (fr P D g) (tm P D g)).2 (P 282))) (h16 : σ.1 49 16 = iI (ov (shL P (fr P D g) (tm P D g)).1 (shL P (fr P D g) (tm P D g)).2 (P 282) (P 283) (shL P (fr P D g) (tm P D g)).2)) (hk : Φ [aI (hTo P D g but a)] σ) : S 197 [aR 49, aI (iI a)] σ Φ := by
  refine m_X9_told hS (fun v hv hw => ?_)
  unfold vc_X9_told_0
  unfold hTo at hk
  try simp (disch := omega) only [iI_lit, iL_lit, iI_add, iI_sub, iI_mul, iI_neg, iI_lt, iI_le, iI_eq, iI_tn, iI_div, iI_l, iL_add, iL_sub, iL_mul, iL_neg, iL_le, iL_lt, iL_eq, iL_ite, vp_T, b2_ne0, b2_eq1, nn_imp, true_and, iI_ite, not_true_eq_false, not_false_eq_true, true_implies, false_implies, and_true, Int.reduceLT, Int.reduceLE, Int.reduceEq, or_false, false_or, true_or, or_true, false_and, and_false, h13, h14, h15, h16]
  (repeat' (first | apply And.intro | intro _)) <;> exact (by simp (disch := omega) only [if_pos, if_neg] at hk; exact hk)
theorem c_X9_misfire (hS : Sys S) (hM : MP 50 P σ) (hW : WF P) {x a : Int} (r1 : -2147483648 ≤ x ∧ x < 2147483648) (r2 : -2147483648 ≤ a ∧ a < 2147483648) (hk : ∀ σ', Fr FMI σ σ' → MP 50 P σ' → Φ [aI (qMis P x a)] σ') : S 198 [aR 49, aI (iI x), aI (iI a)] σ Φ := by
  refine m_X9_misfire hS (fun v hv hw => ?_)
  have g0 := WF_0 hW
  unfold vc_X9_misfire_0
  unfold qMis at hk
  have hkr := hk σ Fr_rf hM
  try simp (disch := omega) only [iI_lit, iL_lit, iI_add, iI_sub, iI_mul, iI_neg, iI_lt, iI_le, iI_eq, iI_tn, iI_div, iI_l, iL_add, iL_sub, iL_mul, iL_neg, iL_le, iL_lt, iL_eq, iL_ite, vp_T, b2_ne0, b2_eq1, nn_imp, true_and, iI_ite, not_true_eq_false, not_false_eq_true, true_implies, false_implies, and_true, Int.reduceLT, Int.reduceLE, Int.reduceEq, or_false, false_or, true_or, or_true, false_and, and_false, hM _]
  refine ⟨fun c => by have hk := hkr; exact (by simp (disch := omega) only [if_pos, if_neg] at hk; exact hk), fun c => ⟨fun d => ?_, fun d => by have hk := hkr; exact (by simp (disch := omega) only [if_pos, if_neg] at hk; exact hk)⟩⟩
  refine c_X9_misfires hS hM hW (by omega) (by omega) (fun σ1 f1 m1 a1 a2 a3 a4 => ⟨rfl, ?_⟩)
  have hk := hk σ1 f1 m1
  exact c_X9_told hS (by omega) a1 a2 a3 a4 ⟨_, rfl, (by simp (disch := omega) only [if_pos, if_neg] at hk; exact hk)⟩
theorem c_X9_broken (hS : Sys S) (hM : MP 50 P σ) (hW : WF P) {x a : Int} (r1 : -2147483648 ≤ x ∧ x < 2147483648) (r2 : -2147483648 ≤ a ∧ a < 2147483648) (hk : ∀ σ', Fr FMI σ σ' → MP 50 P σ' → Φ [aI (qBro P x a)] σ') : S 199 [aR 49, aI (iI x), aI (iI a)] σ Φ := by
  refine m_X9_broken hS (fun v hv hw => ?_)
  have g0 := WF_0 hW
  unfold vc_X9_broken_0
  unfold qBro at hk
  have hkr := hk σ Fr_rf hM
  try simp (disch := omega) only [iI_lit, iL_lit, iI_add, iI_sub, iI_mul, iI_neg, iI_lt, iI_le, iI_eq, iI_tn, iI_div, iI_l, iL_add, iL_sub, iL_mul, iL_neg, iL_le, iL_lt, iL_eq, iL_ite, vp_T, b2_ne0, b2_eq1, nn_imp, true_and, iI_ite, not_true_eq_false, not_false_eq_true, true_implies, false_implies, and_true, Int.reduceLT, Int.reduceLE, Int.reduceEq, or_false, false_or, true_or, or_true, false_and, and_false, hM _]
  refine ⟨fun c => by have hk := hkr; exact (by simp (disch := omega) only [if_pos, if_neg] at hk; exact hk), fun c => ⟨fun d => ?_, fun d => by have hk := hkr; exact (by simp (disch := omega) only [if_pos, if_neg] at hk; exact hk)⟩⟩
  refine c_X9_breaks hS hM hW (by omega) (by omega) (fun σ1 f1 m1 a1 a2 a3 a4 => ⟨rfl, ?_⟩)
  have hk := hk σ1 f1 m1
  exact c_X9_told hS (by omega) a1 a2 a3 a4 ⟨_, rfl, (by simp (disch := omega) only [if_pos, if_neg] at hk; exact hk)⟩
theorem c_X9_critical (hS : Sys S) (hM : MP 50 P σ) (hW : WF P) {a : Int} (r1 : -2147483648 ≤ a ∧ a < 2147483648) (hk : ∀ σ', Fr FMI σ σ' → MP 50 P σ' → Φ [aI (iI (qCri P a))] σ') : S 200 [aR 49, aI (iI a)] σ Φ := by
  refine m_X9_critical hS (fun v hv hw => ?_)
  have g0 := WF_0 hW
  unfold vc_X9_critical_0
  unfold qCri at hk
  have hkr := hk σ Fr_rf hM
  try simp (disch := omega) only [iI_lit, iL_lit, iI_add, iI_sub, iI_mul, iI_neg, iI_lt, iI_le, iI_eq, iI_tn, iI_div, iI_l, iL_add, iL_sub, iL_mul, iL_neg, iL_le, iL_lt, iL_eq, iL_ite, vp_T, b2_ne0, b2_eq1, nn_imp, true_and, iI_ite, not_true_eq_false, not_false_eq_true, true_implies, false_implies, and_true, Int.reduceLT, Int.reduceLE, Int.reduceEq, or_false, false_or, true_or, or_true, false_and, and_false]
  refine ⟨fun c => ?_, fun c => by have hk := hkr; exact (by simp (disch := omega) only [if_pos, if_neg] at hk; exact hk)⟩
  -- one step, whatever is counted
  have X : ∀ (n : Int → Int) (k : Int) (σ1 : St) (D : Int → Bool) (g : Int) (but : Int32), 0 ≤ k → (-1 ≤ (crt n k).2 ∧ (crt n k).2 ≤ 100) → n k = hN P D g but → σ1.1 49 13 = hLo P D g but → σ1.1 49 14 = hBa P D g → v 19 [some (aR 49), some (aI (iI a)), some (aI (iI (crt n (k + 1)).1)), some (aI (iI (crt n (k + 1)).2)), some (aI (iI (k + 1))), none] [] σ1 → vc_X9_critical_61 S Φ v (iI a) (iI (crt n k).1) (iI (crt n k).2) (iI k) σ1 := by
    intro n k σ1 D g but k0 kr hn b13 b14 i
    unfold vc_X9_critical_61
    rw [b13]
    refine c_X9_countOf hS (fun p1 => ⟨_, rfl, ?_⟩)
    rw [b14]
    refine c_X9_countOf hS (fun p2 => ⟨_, rfl, ?_⟩)
    rw [crt_s k0] at i
    have en : pop (hLo P D g but) + pop (hBa P D g) = n k := hn.symm
    have nr : 0 ≤ n k ∧ n k ≤ 62 := by omega
    unfold vc_X9_critical_90
    try simp (disch := omega) only [iI_lit, iL_lit, iI_add, iI_sub, iI_mul, iI_neg, iI_lt, iI_le, iI_eq, iI_tn, iI_div, iI_l, iL_add, iL_sub, iL_mul, iL_neg, iL_le, iL_lt, iL_eq, iL_ite, vp_T, b2_ne0, b2_eq1, nn_imp, true_and, iI_ite, not_true_eq_false, not_false_eq_true, true_implies, false_implies, and_true, Int.reduceLT, Int.reduceLE, Int.reduceEq, or_false, false_or, true_or, or_true, false_and, and_false, en]
    refine ⟨fun d => ?_, fun d => ?_⟩
    · rw [if_neg (by omega)] at i; exact ⟨fun _ => i, fun e => by omega⟩
    · rw [if_pos (by omega)] at i; exact ⟨fun e => by omega, fun _ => i⟩
  rcases (show a = 0 ∨ a = 1 by omega) with e | e
  · subst e
    simp (disch := omega) only [if_pos, if_neg] at hk
    have L : ∀ (d : Nat) (k : Int) (σ1 : St), (P 280 - k).toNat = d → 0 ≤ k → k ≤ P 280 → (∀ j, 0 ≤ j → j < k → 0 ≤ hN P (ddx P j) (-1) (bit1 j) ∧ hN P (ddx P j) (-1) (bit1 j) ≤ 100) → Fr FMI σ σ1 → MP 50 P σ1 → v 19 [some (aR 49), some (aI (iI 0)), some (aI (iI (crt (fun k => hN P (ddx P k) (-1) (bit1 k)) k).1)), some (aI (iI (crt (fun k => hN P (ddx P k) (-1) (bit1 k)) k).2)), some (aI (iI k)), none] [] σ1 := by
      intro d
      induction d with
      | zero =>
        intro k σ1 hd k0 k1 hn hf m1
        refine w_X9_critical_19 hS hv hw _ _ _ _ σ1 ?_
        unfold vc_X9_critical_19 vc_X9_critical_38
        have q : k = P 280 := by omega
        subst q
        try simp (disch := omega) only [iI_lit, iL_lit, iI_add, iI_sub, iI_mul, iI_neg, iI_lt, iI_le, iI_eq, iI_tn, iI_div, iI_l, iL_add, iL_sub, iL_mul, iL_neg, iL_le, iL_lt, iL_eq, iL_ite, vp_T, b2_ne0, b2_eq1, nn_imp, true_and, iI_ite, not_true_eq_false, not_false_eq_true, true_implies, false_implies, and_true, Int.reduceLT, Int.reduceLE, Int.reduceEq, or_false, false_or, true_or, or_true, false_and, and_false, m1 _]
        exact ⟨fun _ => hk σ1 hf m1, fun c => by omega⟩
      | succ d ih =>
        intro k σ1 hd k0 k1 hn hf m1
        refine w_X9_critical_19 hS hv hw _ _ _ _ σ1 ?_
        unfold vc_X9_critical_19 vc_X9_critical_38
        have cr := crt_r hn k0 (Int.le_refl k)
        try simp (disch := omega) only [iI_lit, iL_lit, iI_add, iI_sub, iI_mul, iI_neg, iI_lt, iI_le, iI_eq, iI_tn, iI_div, iI_l, iL_add, iL_sub, iL_mul, iL_neg, iL_le, iL_lt, iL_eq, iL_ite, vp_T, b2_ne0, b2_eq1, nn_imp, true_and, iI_ite, not_true_eq_false, not_false_eq_true, true_implies, false_implies, and_true, Int.reduceLT, Int.reduceLE, Int.reduceEq, or_false, false_or, true_or, or_true, false_and, and_false, m1 _]
        refine ⟨fun c => by omega, fun _ => ?_⟩
        refine c_X9_misfires hS m1 hW k0 (by omega) (fun σ2 f2 m2 a1 a2 a3 a4 => ⟨rfl, ?_⟩)
        refine X _ k σ2 (ddx P k) (-1) (bit1 k) k0 cr.2 rfl a1 a2 (ih (k + 1) σ2 (by omega) (by omega) (by omega) (fun j j0 j1 => ?_) (Fr_tr hf f2) m2)
        by_cases c : j < k
        · exact hn j j0 c
        · have hp : ∀ s, 0 ≤ pop s ∧ pop s ≤ 31 := fun s => by
            unfold pop
            exact lp_inv (f := fun k a => a + (if bs s k = true then 1 else 0)) (fun i a => 0 ≤ a ∧ a ≤ i) _ rfl (by omega) (by omega) (fun i a i0 i1 ha => by split <;> omega)
          have h1 := hp (hLo P (ddx P j) (-1) (bit1 j))
          have h2 := hp (hBa P (ddx P j) (-1))
          unfold hN; omega
    have := L _ 0 σ rfl (by omega) (by omega) (fun j j0 j1 => by omega) Fr_rf hM
    rw [crt_0] at this
    exact this
  · subst e
    simp (disch := omega) only [if_pos, if_neg] at hk
    have L : ∀ (d : Nat) (k : Int) (σ1 : St), (P 281 - k).toNat = d → 0 ≤ k → k ≤ P 281 → (∀ j, 0 ≤ j → j < k → 0 ≤ hN P (dd P) j (iI 0) ∧ hN P (dd P) j (iI 0) ≤ 100) → Fr FMI σ σ1 → MP 50 P σ1 → v 19 [some (aR 49), some (aI (iI 1)), some (aI (iI (crt (fun k => hN P (dd P) k (iI 0)) k).1)), some (aI (iI (crt (fun k => hN P (dd P) k (iI 0)) k).2)), some (aI (iI k)), none] [] σ1 := by
      intro d
      induction d with
      | zero =>
        intro k σ1 hd k0 k1 hn hf m1
        refine w_X9_critical_19 hS hv hw _ _ _ _ σ1 ?_
        unfold vc_X9_critical_19 vc_X9_critical_38
        have q : k = P 281 := by omega
        subst q
        try simp (disch := omega) only [iI_lit, iL_lit, iI_add, iI_sub, iI_mul, iI_neg, iI_lt, iI_le, iI_eq, iI_tn, iI_div, iI_l, iL_add, iL_sub, iL_mul, iL_neg, iL_le, iL_lt, iL_eq, iL_ite, vp_T, b2_ne0, b2_eq1, nn_imp, true_and, iI_ite, not_true_eq_false, not_false_eq_true, true_implies, false_implies, and_true, Int.reduceLT, Int.reduceLE, Int.reduceEq, or_false, false_or, true_or, or_true, false_and, and_false, m1 _]
        exact ⟨fun _ => hk σ1 hf m1, fun c => by omega⟩
      | succ d ih =>
        intro k σ1 hd k0 k1 hn hf m1
        refine w_X9_critical_19 hS hv hw _ _ _ _ σ1 ?_
        unfold vc_X9_critical_19 vc_X9_critical_38
        have cr := crt_r hn k0 (Int.le_refl k)
        try simp (disch := omega) only [iI_lit, iL_lit, iI_add, iI_sub, iI_mul, iI_neg, iI_lt, iI_le, iI_eq, iI_tn, iI_div, iI_l, iL_add, iL_sub, iL_mul, iL_neg, iL_le, iL_lt, iL_eq, iL_ite, vp_T, b2_ne0, b2_eq1, nn_imp, true_and, iI_ite, not_true_eq_false, not_false_eq_true, true_implies, false_implies, and_true, Int.reduceLT, Int.reduceLE, Int.reduceEq, or_false, false_or, true_or, or_true, false_and, and_false, m1 _]
        refine ⟨fun c => by omega, fun _ => ?_⟩
        refine c_X9_breaks hS m1 hW k0 (by omega) (fun σ2 f2 m2 a1 a2 a3 a4 => ⟨rfl, ?_⟩)
        refine X _ k σ2 (dd P) k (iI 0) k0 cr.2 rfl a1 a2 (ih (k + 1) σ2 (by omega) (by omega) (by omega) (fun j j0 j1 => ?_) (Fr_tr hf f2) m2)
        by_cases c : j < k
        · exact hn j j0 c
        · have hp : ∀ s, 0 ≤ pop s ∧ pop s ≤ 31 := fun s => by
            unfold pop
            exact lp_inv (f := fun k a => a + (if bs s k = true then 1 else 0)) (fun i a => 0 ≤ a ∧ a ≤ i) _ rfl (by omega) (by omega) (fun i a i0 i1 ha => by split <;> omega)
          have h1 := hp (hLo P (dd P) j (iI 0))
          have h2 := hp (hBa P (dd P) j)
          unfold hN; omega
    have := L _ 0 σ rfl (by omega) (by omega) (fun j j0 j1 => by omega) Fr_rf hM
    rw [crt_0] at this
    exact this
end C25
