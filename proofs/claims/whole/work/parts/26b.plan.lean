theorem lp_one {f f' : Int → Int} {h n : Int} (h0 : 0 ≤ h) (h1 : h < n) (hf : ∀ k, 0 ≤ k → k < n → ¬ k = h → f' k = f k) : lp (fun i a => a + f' i) 0 n 0 = lp (fun i a => a + f i) 0 n 0 + (f' h - f h) := by
  rw [lp_cat (f := fun i a => a + f' i) (m := h) _ rfl h0 (by omega), lp_cat (f := fun i a => a + f i) (m := h) _ rfl h0 (by omega)]
  rw [lp_s (fun i a => a + f' i) _ h1, lp_s (fun i a => a + f i) _ h1]
  rw [lp_c (f := fun i a => a + f' i) (g := fun i a => a + f i) (h := 0) (n := h) (fun k a k0 k1 => by rw [hf k k0 (by omega) (by omega)])]
  rw [lp_c (f := fun i a => a + f' i) (g := fun i a => a + f i) (h := h + 1) (n := n) (fun k a k0 k1 => by rw [hf k (by omega) k1 (by omega)])]
  rw [show lp (fun i a => a + f i) 0 h 0 + f' h = (lp (fun i a => a + f i) 0 h 0 + f h) + (f' h - f h) by omega]
  exact lp_add (f := f) _ _ _ _ _ rfl
def cnS (P : Pl) (h : Int) : Int := (if fl P h = 0 then 0 else 1) + (if sl P h = 0 then 0 else 1)
/-- how many shots some have -/
def csm (P : Pl) (F : Int → Bool) : Int := lp (fun h a => a + (if F h = true then cnS P h else 0)) 0 (P 280) 0
theorem wih_t {F : Int → Bool} {h k : Int} : wih F h k = true ↔ F k = true ∨ k = h := by
  unfold wih; rw [Bool.or_eq_true, decide_eq_true_eq]
theorem wih_n {F : Int → Bool} {h k : Int} (hn : ¬ k = h) : wih F h k = F k := by unfold wih; rw [decide_eq_false hn, Bool.or_false]
theorem hsm_wih {P : Pl} {F : Int → Bool} {T : Int → Int} {h t0 w t : Int} (h0 : 0 ≤ h) (h1 : h < P 280) (hF : ¬ F h = true) : hsm P (wih F h) (pu T h t0) w t = hsm P F T w t + con P h t0 w t := by
  unfold hsm
  rw [lp_one (f := fun k => if F k = true then con P k (T k) w t else 0) (f' := fun k => if wih F h k = true then con P k (pu T h t0 k) w t else 0) h0 h1 (fun k k0 k1 hk => by rw [wih_n hk, pu_n hk])]
  rw [if_pos (wih_t.mpr (Or.inr rfl)), pu_e rfl, if_neg hF]
  omega
theorem csm_wih {P : Pl} {F : Int → Bool} {h : Int} (h0 : 0 ≤ h) (h1 : h < P 280) (hF : ¬ F h = true) : csm P (wih F h) = csm P F + cnS P h := by
  unfold csm
  rw [lp_one (f := fun k => if F k = true then cnS P k else 0) (f' := fun k => if wih F h k = true then cnS P k else 0) h0 h1 (fun k k0 k1 hk => by rw [wih_n hk])]
  rw [if_pos (wih_t.mpr (Or.inr rfl)), if_neg hF]
  omega
theorem csm_r {P : Pl} {F : Int → Bool} {h : Int} (h0 : 0 ≤ h) (h1 : h < P 280) (hF : ¬ F h = true) : csm P F ≤ 2 * P 280 - 2 := by
  unfold csm
  have := lp_inv (f := fun h a => a + (if F h = true then cnS P h else 0)) (fun k a => a ≤ 2 * k - (if h < k then 2 else 0)) _ (a := 0) (h := 0) (n := P 280) rfl (by omega) (by rw [if_neg (by omega)]; omega) (fun k a k0 k1 ha => by
    have c2 : cnS P k ≤ 2 := by unfold cnS; split <;> split <;> omega
    by_cases c : F k = true
    · rw [if_pos c]
      by_cases e : h < k
      · rw [if_pos e] at ha; rw [if_pos (by omega)]; omega
      · rw [if_neg e] at ha
        have : ¬ k = h := fun z => hF (z ▸ c)
        rw [if_neg (by omega)]; omega
    · rw [if_neg c]
      by_cases e : h < k
      · rw [if_pos e] at ha; rw [if_pos (by omega)]; omega
      · rw [if_neg e] at ha; split <;> omega)
  rw [if_pos h1] at this
  omega
theorem cn_addA {P : Pl} {a : Zr} {h t : Int} : (addA P h t a).2 = a.2 + cnS P h := by
  unfold addA addS cnS
  dsimp only
  by_cases c : fl P h = 0 <;> by_cases d : sl P h = 0 <;> simp only [if_pos, if_neg, c, d, not_true_eq_false, not_false_eq_true, ↓reduceIte] <;> omega
theorem stm_wih {P : Pl} {F : Int → Bool} {T : Int → Int} {h t0 t : Int} (h0 : 0 ≤ h) (h1 : h < P 280) (hF : ¬ F h = true) : stm P (wih F h) (pu T h t0) t ↔ stm P F T t ∨ (t = t0 ∧ ¬ fl P h = 0) ∨ (t = t0 + 17 ∧ ¬ sl P h = 0) := by
  constructor
  · rintro ⟨k, k0, k1, kf, q⟩
    by_cases c : k = h
    · subst c; rw [pu_e rfl] at q; exact Or.inr q
    · rw [wih_n c] at kf; rw [pu_n c] at q; exact Or.inl ⟨k, k0, k1, kf, q⟩
  · rintro (⟨k, k0, k1, kf, q⟩ | q)
    · have c : ¬ k = h := fun z => hF (z ▸ kf)
      exact ⟨k, k0, k1, by rw [wih_n c]; exact kf, by rw [pu_n c]; exact q⟩
    · exact ⟨h, h0, h1, wih_t.mpr (Or.inr rfl), by rw [pu_e rfl]; exact q⟩
theorem okQ_i {P : Pl} (hW : WF P) {F : Int → Bool} {T : Int → Int} (hT : ∀ h, 0 ≤ h → h < P 280 → F h = true → 0 ≤ T h ∧ T h ≤ 15000) : wS (shL P F T).1 (shL P F T).2 (P 282) ≤ P 283 ↔ okQ P F T := by
  have g0 := WF_0 hW
  have ho : okZ (shL P F T).1 (shL P F T).2 := (shL_ok hW hT (P 280) g0.1.1 (Int.le_refl _)).1
  rw [wS_le ho (by omega)]
  unfold okQ
  constructor
  · intro q t ht; rw [← shk_shL hW hT]; exact q t ((tin_shL hW hT).mpr ht)
  · intro q t ht; rw [shk_shL hW hT]; exact q t ((tin_shL hW hT).mp ht)
theorem tt_pu {P : Pl} {F : Int → Bool} {I : Int → Int} {G : Int → Bool} {h x : Int} : tt P (G, pu I h x) = pu (tt P (F, I)) h (sg P (dd P) (-1) h + x) := by
  funext k
  unfold tt pu
  by_cases c : k = h
  · subst c; simp
  · simp only [if_neg c]
/-- the class's planner -/
def PR (P : Pl) (a : Pn) (z : Zr) (σ : St) : Prop := ((∀ h, 0 ≤ h ∧ h < 20 → σ.1 28 h.toNat = iI (a.2 h)) ∧ (∀ h, 0 ≤ h ∧ h < 20 → σ.1 29 h.toNat = iI (if a.1 h = true then tt P a h else -1)) ∧ σ.1 27 5 = bm a.1 (P 280)) ∧ CS 30 z σ ∧ okZ z.1 z.2 ∧ (∀ t, tin z t ↔ stm P a.1 (tt P a) t) ∧ (∀ t, shk z.1 z.2 (P 282) t = hsm P a.1 (tt P a) (P 282) t) ∧ z.2 = csm P a.1
def FPR : Nat → Nat → Prop := fun k j => 28 ≤ k ∧ k ≤ 33 ∨ (k = 27 ∧ (j = 5 ∨ j = 6 ∨ j = 7))
section C26
variable {S : Sp} {σ : St} {Φ : Rs} {P : Pl} {a : Pn} {z : Zr}
theorem c_X3_shakeWith (hS : Sys S) (hC : CP 1 P σ) (hW : WF P) (hz : CS 30 z σ) (ho : okZ z.1 z.2) {h t s : Int} (h0 : 0 ≤ h) (h1 : h < P 280) (h6 : σ.1 27 6 = iI (fl P h)) (h7 : σ.1 27 7 = iI (sl P h)) (ht : 0 ≤ t ∧ t ≤ 15000) (hs : 0 ≤ s ∧ s ≤ 30000) (hk : Φ [aI (iI (shk z.1 z.2 (P 282) s + con P h t (P 282) s))] σ) : S 51 [aR 27, aI (iI t), aI (iI s)] σ Φ := by
  refine m_X3_shakeWith hS (fun v hv hw => ?_)
  have g0 := WF_0 hW
  have r1 := fl_r hW h0 h1
  have r2 := sl_r hW h0 h1
  have sr := shk_r ho (P 282) s
  unfold vc_X3_shakeWith_0
  have w0 : σ.1 4 (0 : Int).toNat = iI (P 282) := CP_r hC (by omega)
  try simp (disch := omega) only [iI_lit, iL_lit, iI_add, iI_sub, iI_mul, iI_neg, iI_lt, iI_le, iI_eq, iI_tn, iI_div, iI_l, iL_add, iL_sub, iL_mul, iL_neg, iL_le, iL_lt, iL_eq, iL_ite, vp_T, b2_ne0, b2_eq1, nn_imp, true_and, iI_ite, not_true_eq_false, not_false_eq_true, true_implies, false_implies, and_true, Int.reduceLT, Int.reduceLE, Int.reduceEq, or_false, false_or, true_or, or_true, false_and, and_false, w0]
  refine c_X7_shakeAt hS isSh_30 hz ho (by omega) (by omega) ⟨_, rfl, ?_⟩
  unfold con at hk
  unfold vc_X3_shakeWith_50
  try simp (disch := omega) only [iI_lit, iL_lit, iI_add, iI_sub, iI_mul, iI_neg, iI_lt, iI_le, iI_eq, iI_tn, iI_div, iI_l, iL_add, iL_sub, iL_mul, iL_neg, iL_le, iL_lt, iL_eq, iL_ite, vp_T, b2_ne0, b2_eq1, nn_imp, true_and, iI_ite, not_true_eq_false, not_false_eq_true, true_implies, false_implies, and_true, Int.reduceLT, Int.reduceLE, Int.reduceEq, or_false, false_or, true_or, or_true, false_and, and_false, w0, h6, h7]
  refine ⟨fun c => ⟨fun d => ?_, fun d => ⟨fun e => ?_, fun e => ?_⟩⟩, fun c => ⟨fun d => ⟨fun e => ?_, fun e => ⟨fun f => ?_, fun f => ?_⟩⟩, fun d => ⟨fun e => ?_, fun e => ⟨fun f => ?_, fun f => ?_⟩⟩⟩⟩
  · rw [if_neg (by omega), if_neg (by omega), Int.add_zero, Int.add_zero] at hk; exact hk
  · rw [if_neg (by omega), if_neg (by omega), Int.add_zero, Int.add_zero] at hk; exact hk
  · rw [if_neg (by omega), if_pos (by omega), Int.zero_add] at hk; exact hk
  · rw [if_neg (by omega), if_neg (by omega), Int.add_zero, Int.add_zero] at hk; exact hk
  · rw [if_neg (by omega), if_neg (by omega), Int.add_zero, Int.add_zero] at hk; exact hk
  · rw [if_neg (by omega), if_pos (by omega), Int.zero_add] at hk; exact hk
  · rw [if_pos (by omega), if_neg (by omega), Int.add_zero] at hk; exact hk
  · rw [if_pos (by omega), if_neg (by omega), Int.add_zero] at hk; exact hk
  · rw [if_pos (by omega), if_pos (by omega), ← Int.add_assoc] at hk; exact hk
theorem c_X3_isQuiet (hS : Sys S) (hC : CP 1 P σ) (hW : WF P) (hR : PR P a z σ) (hI : okQ P a.1 (tt P a)) {h t : Int} (h0 : 0 ≤ h) (h1 : h < P 280) (hF : ¬ a.1 h = true) (hf0 : ¬ fl P h = 0) (h6 : σ.1 27 6 = iI (fl P h)) (h7 : σ.1 27 7 = iI (sl P h)) (ht : 0 ≤ t ∧ t ≤ 12000) (hk : Φ [aI (b2 (dec (okQ P (wih a.1 h) (pu (tt P a) h t)) = true))] σ) : S 50 [aR 27, aI (iI t)] σ Φ := by
  refine m_X3_isQuiet hS (fun v hv hw => ?_)
  have g0 := WF_0 hW
  have r1 := fl_r hW h0 h1
  have r2 := sl_r hW h0 h1
  have hY : okQ P (wih a.1 h) (pu (tt P a) h t) → Φ [aI (iI 1)] σ := fun q => by rw [b2_t (dec_t.mpr q), iI_lit] at hk; exact hk
  have hN : ¬ okQ P (wih a.1 h) (pu (tt P a) h t) → Φ [aI (iI 0)] σ := fun q => by rw [b2_f (fun z => q (dec_t.mp z)), iI_lit] at hk; exact hk
  obtain ⟨_, hz, ho, hti, hsk, _⟩ := hR
  have hn := ho.1
  have W : ∀ s, hsm P (wih a.1 h) (pu (tt P a) h t) (P 282) s = shk z.1 z.2 (P 282) s + con P h t (P 282) s := fun s => by rw [hsm_wih h0 h1 hF, hsk]
  have cr : ∀ s, 0 ≤ con P h t (P 282) s ∧ con P h t (P 282) s ≤ 200 := fun s => by unfold con; split <;> split <;> omega
  have sr : ∀ s, 0 ≤ shk z.1 z.2 (P 282) s ∧ shk z.1 z.2 (P 282) s ≤ 4000 := fun s => shk_r ho _ _
  unfold vc_X3_isQuiet_0 vc_X3_isQuiet_46
  have w0 : σ.1 4 (0 : Int).toNat = iI (P 282) := CP_r hC (by omega)
  have w1 : σ.1 4 (1 : Int).toNat = iI (P 283) := CP_r hC (by omega)
  try simp (disch := omega) only [iI_lit, iL_lit, iI_add, iI_sub, iI_mul, iI_neg, iI_lt, iI_le, iI_eq, iI_tn, iI_div, iI_l, iL_add, iL_sub, iL_mul, iL_neg, iL_le, iL_lt, iL_eq, iL_ite, vp_T, b2_ne0, b2_eq1, nn_imp, true_and, iI_ite, not_true_eq_false, not_false_eq_true, true_implies, false_implies, and_true, Int.reduceLT, Int.reduceLE, Int.reduceEq, or_false, false_or, true_or, or_true, false_and, and_false, w1]
  -- all shots that were there
  have L : (shk z.1 z.2 (P 282) t + con P h t (P 282) t ≤ P 283) → (¬ sl P h = 0 → shk z.1 z.2 (P 282) (t + 17) + con P h t (P 282) (t + 17) ≤ P 283) → ∀ (d : Nat) (i : Int), (z.2 - i).toNat = d → 0 ≤ i → i ≤ z.2 → (∀ j, 0 ≤ j → j < i → shk z.1 z.2 (P 282) (z.1 j).1 + con P h t (P 282) (z.1 j).1 ≤ P 283) → v 49 [some (aR 27), some (aI (iI t)), some (aI (iI (P 283))), some (aI (iI (t + 17))), some (aI (iI i)), none] [] σ := by
    intro c1 c2
    have DONE : ∀ i, 0 ≤ i → (∀ j, 0 ≤ j → j < i → shk z.1 z.2 (P 282) (z.1 j).1 + con P h t (P 282) (z.1 j).1 ≤ P 283) → (∀ j, i ≤ j → j < z.2 → t + 17 < (z.1 j).1) → Φ [aI (iI 1)] σ := by
      intro i i0 hj hgt
      refine hY (fun s hs => ?_)
      rw [W]
      rcases (stm_wih h0 h1 hF).mp hs with q | ⟨q, _⟩ | ⟨q, q2⟩
      · obtain ⟨j, j0, j1, e⟩ := (hti s).mpr q
        by_cases c : j < i
        · rw [← e]; exact hj j j0 c
        · have := hgt j (by omega) j1
          have e2 := hI s q
          rw [← hsk] at e2
          have e3 : con P h t (P 282) s = 0 := by unfold con; rw [if_neg (by omega), if_neg (by omega)]; rfl
          omega
      · rw [q]; exact c1
      · rw [q]; exact c2 q2
    intro d
    induction d with
    | zero =>
      intro i hd i0 i1 hj
      refine w_X3_isQuiet_49 hS hv hw _ _ _ _ σ ?_
      unfold vc_X3_isQuiet_49
      try simp (disch := omega) only [iI_lit, iL_lit, iI_add, iI_sub, iI_mul, iI_neg, iI_lt, iI_le, iI_eq, iI_tn, iI_div, iI_l, iL_add, iL_sub, iL_mul, iL_neg, iL_le, iL_lt, iL_eq, iL_ite, vp_T, b2_ne0, b2_eq1, nn_imp, true_and, iI_ite, not_true_eq_false, not_false_eq_true, true_implies, false_implies, and_true, Int.reduceLT, Int.reduceLE, Int.reduceEq, or_false, false_or, true_or, or_true, false_and, and_false, hz.2]
      exact ⟨fun _ => DONE i i0 hj (fun j a b => by omega), fun c => by omega⟩
    | succ d ih =>
      intro i hd i0 i1 hj
      refine w_X3_isQuiet_49 hS hv hw _ _ _ _ σ ?_
      unfold vc_X3_isQuiet_49
      have zr := okZ_r ho i0 (by omega)
      have ti : σ.1 31 i.toNat = iI (z.1 i).1 := (hz.1 i i0 (by omega)).1
      have NX : shk z.1 z.2 (P 282) (z.1 i).1 + con P h t (P 282) (z.1 i).1 ≤ P 283 → v 49 [some (aR 27), some (aI (iI t)), some (aI (iI (P 283))), some (aI (iI (t + 17))), some (aI (iI (i + 1))), none] [] σ := fun q => ih (i + 1) (by omega) (by omega) (by omega) (fun j j0 j1 => by
        by_cases c : j < i
        · exact hj j j0 c
        · rw [show j = i by omega]; exact q)
      try simp (disch := omega) only [iI_lit, iL_lit, iI_add, iI_sub, iI_mul, iI_neg, iI_lt, iI_le, iI_eq, iI_tn, iI_div, iI_l, iL_add, iL_sub, iL_mul, iL_neg, iL_le, iL_lt, iL_eq, iL_ite, vp_T, b2_ne0, b2_eq1, nn_imp, true_and, iI_ite, not_true_eq_false, not_false_eq_true, true_implies, false_implies, and_true, Int.reduceLT, Int.reduceLE, Int.reduceEq, or_false, false_or, true_or, or_true, false_and, and_false, hz.2, ti, w0]
      refine ⟨fun c => by omega, fun _ => ⟨fun c => DONE i i0 hj (fun j j0 j1 => by have := ho.2.2 i j i0 j0 j1; omega), fun c => ⟨fun e => NX ?_, fun e => ?_⟩⟩⟩
      · have e2 := hI (z.1 i).1 ((hti _).mp ⟨i, i0, by omega, rfl⟩)
        rw [← hsk] at e2
        have e3 : con P h t (P 282) (z.1 i).1 = 0 := by unfold con; rw [if_neg (by omega), if_neg (by omega)]; rfl
        omega
      · refine c_X3_shakeWith hS hC hW hz ho h0 h1 h6 h7 (by omega) (by omega) ⟨_, rfl, ?_⟩
        have c3 := cr (z.1 i).1
        have s3 := sr (z.1 i).1
        try simp (disch := omega) only [iI_lit, iL_lit, iI_add, iI_sub, iI_mul, iI_neg, iI_lt, iI_le, iI_eq, iI_tn, iI_div, iI_l, iL_add, iL_sub, iL_mul, iL_neg, iL_le, iL_lt, iL_eq, iL_ite, vp_T, b2_ne0, b2_eq1, nn_imp, true_and, iI_ite, not_true_eq_false, not_false_eq_true, true_implies, false_implies, and_true, Int.reduceLT, Int.reduceLE, Int.reduceEq, or_false, false_or, true_or, or_true, false_and, and_false]
        refine ⟨fun q => NX q, fun q => hN (fun w => ?_)⟩
        have := w (z.1 i).1 ((stm_wih h0 h1 hF).mpr (Or.inl ((hti _).mp ⟨i, i0, by omega, rfl⟩)))
        rw [W] at this
        omega
  refine c_X3_shakeWith hS hC hW hz ho h0 h1 h6 h7 (by omega) (by omega) ⟨_, rfl, ?_⟩
  have c3 := cr t
  have s3 := sr t
  try simp (disch := omega) only [iI_lit, iL_lit, iI_add, iI_sub, iI_mul, iI_neg, iI_lt, iI_le, iI_eq, iI_tn, iI_div, iI_l, iL_add, iL_sub, iL_mul, iL_neg, iL_le, iL_lt, iL_eq, iL_ite, vp_T, b2_ne0, b2_eq1, nn_imp, true_and, iI_ite, not_true_eq_false, not_false_eq_true, true_implies, false_implies, and_true, Int.reduceLT, Int.reduceLE, Int.reduceEq, or_false, false_or, true_or, or_true, false_and, and_false, h7]
  refine ⟨fun c => ⟨fun d => L c (fun q => by omega) _ 0 rfl (by omega) (by omega) (fun j a b => by omega), fun d => ?_⟩, fun c => hN (fun w => ?_)⟩
  · refine c_X3_shakeWith hS hC hW hz ho h0 h1 h6 h7 (by omega) (by omega) ⟨_, rfl, ?_⟩
    have c4 := cr (t + 17)
    have s4 := sr (t + 17)
    try simp (disch := omega) only [iI_lit, iL_lit, iI_add, iI_sub, iI_mul, iI_neg, iI_lt, iI_le, iI_eq, iI_tn, iI_div, iI_l, iL_add, iL_sub, iL_mul, iL_neg, iL_le, iL_lt, iL_eq, iL_ite, vp_T, b2_ne0, b2_eq1, nn_imp, true_and, iI_ite, not_true_eq_false, not_false_eq_true, true_implies, false_implies, and_true, Int.reduceLT, Int.reduceLE, Int.reduceEq, or_false, false_or, true_or, or_true, false_and, and_false]
    refine ⟨fun e => L c (fun _ => e) _ 0 rfl (by omega) (by omega) (fun j a b => by omega), fun e => hN (fun w => ?_)⟩
    have := w (t + 17) ((stm_wih h0 h1 hF).mpr (Or.inr (Or.inr ⟨rfl, by omega⟩)))
    rw [W] at this
    omega
  · have := w t ((stm_wih h0 h1 hF).mpr (Or.inr (Or.inl ⟨rfl, hf0⟩)))
    rw [W] at this
    omega
end C26
