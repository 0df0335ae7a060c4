theorem wT_s {Z : Int → Z3} {n w k : Int} (k0 : 0 ≤ k) : wT Z n w (k + 1) = if wT Z n w k < 0 ∨ shk Z n w (wT Z n w k) < shk Z n w (Z k).1 then (Z k).1 else wT Z n w k := lp_l _ _ k0
theorem ov_s {Z : Int → Z3} {n w lim k : Int} (k0 : 0 ≤ k) : ov Z n w lim (k + 1) = ov Z n w lim k + (if (k = 0 ∨ ¬ (Z k).1 = (Z (k - 1)).1) ∧ lim < shk Z n w (Z k).1 then 1 else 0) := lp_l _ _ k0
theorem wT_0 {Z : Int → Z3} {n w : Int} : wT Z n w 0 = -1 := lp_z _ _ (Int.le_refl 0)
theorem ov_0 {Z : Int → Z3} {n w lim : Int} : ov Z n w lim 0 = 0 := lp_z _ _ (Int.le_refl 0)
def FL : Nat → Nat → Prop := fun k j => FM k j ∨ FSH k j
/-- shots that have been weighed -/
def CG (s : Nat) (a : Zr) (w lim : Int) (σ : St) : Prop := CS s a σ ∧ σ.1 s 4 = iI (wS a.1 a.2 w) ∧ σ.1 s 5 = iI (wT a.1 a.2 w a.2) ∧ σ.1 s 6 = iI (ov a.1 a.2 w lim a.2)
section C21c
variable {S : Sp} {σ : St} {Φ : Rs} {P : Pl} {s b : Nat} {F D : Int → Bool} {T : Int → Int} {g : Int}
theorem c_X9_shakeAt (hS : Sys S) (hM : MP 50 P σ) (hW : WF P) {a : Zr} (hz : MS a σ) (ho : okZ a.1 a.2) {t : Int} (ht : 0 ≤ t ∧ t ≤ 200000) (hk : Φ [aI (iI (shk a.1 a.2 (P 282) t))] σ) : S 182 [aR 49, aI (iI t)] σ Φ := by
  refine m_X9_shakeAt hS (fun v hv hw => ?_)
  have g0 := WF_0 hW
  obtain ⟨Z, n⟩ := a
  obtain ⟨hz, hz2⟩ := hz
  dsimp only at hz hz2 ho hk
  have hn := ho.1
  unfold vc_X9_shakeAt_0
  have L : ∀ (d : Nat) (k acc : Int), (n - k).toNat = d → 0 ≤ k → k ≤ n → (0 ≤ acc ∧ acc ≤ 100 * k) → Φ [aI (iI (lp (fun i a => a + (if t ≤ (Z i).1 ∧ (Z i).1 < t + P 282 then (Z i).2.1 else 0)) k n acc))] σ → v 4 [some (aR 49), some (aI (iI t)), some (aI (iI acc)), some (aI (iI k))] [] σ := by
    intro d
    induction d with
    | zero =>
      intro k acc hd k0 k1 ha hk
      refine w_X9_shakeAt_4 hS hv hw _ _ _ σ ?_
      unfold vc_X9_shakeAt_4
      rw [lp_z _ _ (by omega)] at hk
      try simp (disch := omega) only [iI_lit, iL_lit, iI_add, iI_sub, iI_mul, iI_neg, iI_lt, iI_le, iI_eq, iI_tn, iI_div, iI_l, iL_add, iL_sub, iL_mul, iL_neg, iL_le, iL_lt, iL_eq, iL_ite, vp_T, b2_ne0, b2_eq1, nn_imp, true_and, iI_ite, not_true_eq_false, not_false_eq_true, true_implies, false_implies, and_true, Int.reduceLT, Int.reduceLE, Int.reduceEq, or_false, false_or, true_or, or_true, false_and, and_false, hz2]
      exact ⟨fun _ => hk, fun c => by omega⟩
    | succ d ih =>
      intro k acc hd k0 k1 ha hk
      refine w_X9_shakeAt_4 hS hv hw _ _ _ σ ?_
      unfold vc_X9_shakeAt_4
      have q := hz k k0 (by omega)
      have r := okZ_r ho k0 (by omega)
      rw [lp_s _ _ (by omega)] at hk
      try simp (disch := omega) only [iI_lit, iL_lit, iI_add, iI_sub, iI_mul, iI_neg, iI_lt, iI_le, iI_eq, iI_tn, iI_div, iI_l, iL_add, iL_sub, iL_mul, iL_neg, iL_le, iL_lt, iL_eq, iL_ite, vp_T, b2_ne0, b2_eq1, nn_imp, true_and, iI_ite, not_true_eq_false, not_false_eq_true, true_implies, false_implies, and_true, Int.reduceLT, Int.reduceLE, Int.reduceEq, or_false, false_or, true_or, or_true, false_and, and_false, hz2, q.1, q.2.1, hM _]
      refine ⟨fun c => by omega, fun _ => ⟨fun c => ?_, fun c => ⟨fun e => ?_, fun e => ?_⟩⟩⟩
      · rw [if_neg (by omega)] at hk; exact ih (k + 1) _ (by omega) (by omega) (by omega) (by omega) hk
      · rw [if_neg (by omega)] at hk; exact ih (k + 1) _ (by omega) (by omega) (by omega) (by omega) hk
      · rw [if_pos (by omega)] at hk; exact ih (k + 1) _ (by omega) (by omega) (by omega) (by omega) hk
  rw [iI_lit]
  exact L _ 0 0 rfl (by omega) (by omega) (by omega) hk
theorem c_X7_shakeAt (hS : Sys S) (h_s : isSh s) {a : Zr} (hz : CS s a σ) (ho : okZ a.1 a.2) {t w : Int} (ht : 0 ≤ t ∧ t ≤ 200000) (hw : 1 ≤ w ∧ w ≤ 99) (hk : Φ [aI (iI (shk a.1 a.2 w t))] σ) : S 85 [aR s, aI (iI t), aI (iI w)] σ Φ := by
  refine m_X7_shakeAt hS h_s (fun v hv hw' => ?_)
  obtain ⟨Z, n⟩ := a
  obtain ⟨hz, hz2⟩ := hz
  dsimp only at hz hz2 ho hk
  have hn := ho.1
  unfold vc_X7_shakeAt_0
  have L : ∀ (d : Nat) (k acc : Int), (n - k).toNat = d → 0 ≤ k → k ≤ n → (0 ≤ acc ∧ acc ≤ 100 * k) → Φ [aI (iI (lp (fun i a => a + (if t ≤ (Z i).1 ∧ (Z i).1 < t + w then (Z i).2.1 else 0)) k n acc))] σ → v 5 [some (aR s), some (aI (iI t)), some (aI (iI w)), some (aI (iI acc)), some (aI (iI k))] [] σ := by
    intro d
    induction d with
    | zero =>
      intro k acc hd k0 k1 ha hk
      refine w_X7_shakeAt_5 hS hv hw' s h_s _ _ _ _ σ ?_
      unfold vc_X7_shakeAt_5
      rw [lp_z _ _ (by omega)] at hk
      try simp (disch := omega) only [iI_lit, iL_lit, iI_add, iI_sub, iI_mul, iI_neg, iI_lt, iI_le, iI_eq, iI_tn, iI_div, iI_l, iL_add, iL_sub, iL_mul, iL_neg, iL_le, iL_lt, iL_eq, iL_ite, vp_T, b2_ne0, b2_eq1, nn_imp, true_and, iI_ite, not_true_eq_false, not_false_eq_true, true_implies, false_implies, and_true, Int.reduceLT, Int.reduceLE, Int.reduceEq, or_false, false_or, true_or, or_true, false_and, and_false, hz2]
      exact ⟨fun _ => hk, fun c => by omega⟩
    | succ d ih =>
      intro k acc hd k0 k1 ha hk
      refine w_X7_shakeAt_5 hS hv hw' s h_s _ _ _ _ σ ?_
      unfold vc_X7_shakeAt_5
      have q := hz k k0 (by omega)
      have r := okZ_r ho k0 (by omega)
      try simp (disch := omega) only [iI_lit, iL_lit, iI_add, iI_sub, iI_mul, iI_neg, iI_lt, iI_le, iI_eq, iI_tn, iI_div, iI_l, iL_add, iL_sub, iL_mul, iL_neg, iL_le, iL_lt, iL_eq, iL_ite, vp_T, b2_ne0, b2_eq1, nn_imp, true_and, iI_ite, not_true_eq_false, not_false_eq_true, true_implies, false_implies, and_true, Int.reduceLT, Int.reduceLE, Int.reduceEq, or_false, false_or, true_or, or_true, false_and, and_false, hz2, q.1, q.2.1]
      refine ⟨fun c => by omega, fun _ => ⟨fun c => ?_, fun c => ⟨fun e => ?_, fun e => ?_⟩⟩⟩
      · rw [lp_skip (fun i i0 i1 => by have := ho.2.2 k i k0 i0 i1; rw [if_neg (by omega)])] at hk; exact hk
      · rw [lp_s _ _ (by omega), if_neg (by omega), Int.add_zero] at hk; exact ih (k + 1) _ (by omega) (by omega) (by omega) (by omega) hk
      · rw [lp_s _ _ (by omega), if_pos (by omega)] at hk; exact ih (k + 1) _ (by omega) (by omega) (by omega) (by omega) hk
  rw [iI_lit]
  exact L _ 0 0 rfl (by omega) (by omega) (by omega) hk
theorem c_X9_worstTime (hS : Sys S) (hM : MP 50 P σ) (hW : WF P) {a : Zr} (hz : MS a σ) (ho : okZ a.1 a.2) (hk : Φ [aI (iI (wT a.1 a.2 (P 282) a.2))] σ) : S 183 [aR 49] σ Φ := by
  refine m_X9_worstTime hS (fun v hv hw => ?_)
  have g0 := WF_0 hW
  obtain ⟨Z, n⟩ := a
  have hz0 := hz
  obtain ⟨hz, hz2⟩ := hz
  dsimp only at hz hz2 ho hk
  have hn := ho.1
  unfold vc_X9_worstTime_0
  have L : ∀ (d : Nat) (k : Int), (n - k).toNat = d → 0 ≤ k → k ≤ n → v 4 [some (aR 49), some (aI (iI (wT Z n (P 282) k))), some (aI (iI k))] [] σ := by
    intro d
    induction d with
    | zero =>
      intro k hd k0 k1
      refine w_X9_worstTime_4 hS hv hw _ _ σ ?_
      unfold vc_X9_worstTime_4
      have q : k = n := by omega
      subst q
      try simp (disch := omega) only [iI_lit, iL_lit, iI_add, iI_sub, iI_mul, iI_neg, iI_lt, iI_le, iI_eq, iI_tn, iI_div, iI_l, iL_add, iL_sub, iL_mul, iL_neg, iL_le, iL_lt, iL_eq, iL_ite, vp_T, b2_ne0, b2_eq1, nn_imp, true_and, iI_ite, not_true_eq_false, not_false_eq_true, true_implies, false_implies, and_true, Int.reduceLT, Int.reduceLE, Int.reduceEq, or_false, false_or, true_or, or_true, false_and, and_false, hz2]
      exact ⟨fun _ => hk, fun c => by omega⟩
    | succ d ih =>
      intro k hd k0 k1
      refine w_X9_worstTime_4 hS hv hw _ _ σ ?_
      unfold vc_X9_worstTime_4
      have q := hz k k0 (by omega)
      have r := okZ_r ho k0 (by omega)
      have wr := wT_r ho (P 282) k0 k1
      have i := ih (k + 1) (by omega) (by omega) (by omega)
      rw [wT_s k0] at i
      have Y : (wT Z n (P 282) k < 0 ∨ shk Z n (P 282) (wT Z n (P 282) k) < shk Z n (P 282) (Z k).1) → vc_X9_worstTime_34 S Φ v (iI (wT Z n (P 282) k)) (iI k) σ := by
        intro c
        unfold vc_X9_worstTime_34
        try simp (disch := omega) only [iI_lit, iL_lit, iI_add, iI_sub, iI_mul, iI_neg, iI_lt, iI_le, iI_eq, iI_tn, iI_div, iI_l, iL_add, iL_sub, iL_mul, iL_neg, iL_le, iL_lt, iL_eq, iL_ite, vp_T, b2_ne0, b2_eq1, nn_imp, true_and, iI_ite, not_true_eq_false, not_false_eq_true, true_implies, false_implies, and_true, Int.reduceLT, Int.reduceLE, Int.reduceEq, or_false, false_or, true_or, or_true, false_and, and_false, q.1]
        rw [if_pos c] at i; exact i
      have s1 := shk_r ho (P 282) (Z k).1
      have s2 := shk_r ho (P 282) (wT Z n (P 282) k)
      have w2 : -1 ≤ wT Z n (P 282) k ∧ wT Z n (P 282) k ≤ 20000 := by rcases wr with h | h <;> omega
      try simp (disch := omega) only [iI_lit, iL_lit, iI_add, iI_sub, iI_mul, iI_neg, iI_lt, iI_le, iI_eq, iI_tn, iI_div, iI_l, iL_add, iL_sub, iL_mul, iL_neg, iL_le, iL_lt, iL_eq, iL_ite, vp_T, b2_ne0, b2_eq1, nn_imp, true_and, iI_ite, not_true_eq_false, not_false_eq_true, true_implies, false_implies, and_true, Int.reduceLT, Int.reduceLE, Int.reduceEq, or_false, false_or, true_or, or_true, false_and, and_false, hz2, q.1]
      refine ⟨fun c => by omega, fun _ => ⟨fun c => Y (Or.inl c), fun c => ?_⟩⟩
      refine c_X9_shakeAt hS hM hW hz0 ho (by omega) ⟨_, rfl, ?_⟩
      refine c_X9_shakeAt hS hM hW hz0 ho (by omega) ⟨_, rfl, ?_⟩
      try simp (disch := omega) only [iI_lit, iL_lit, iI_add, iI_sub, iI_mul, iI_neg, iI_lt, iI_le, iI_eq, iI_tn, iI_div, iI_l, iL_add, iL_sub, iL_mul, iL_neg, iL_le, iL_lt, iL_eq, iL_ite, vp_T, b2_ne0, b2_eq1, nn_imp, true_and, iI_ite, not_true_eq_false, not_false_eq_true, true_implies, false_implies, and_true, Int.reduceLT, Int.reduceLE, Int.reduceEq, or_false, false_or, true_or, or_true, false_and, and_false]
      refine ⟨fun e => ?_, fun e => Y (Or.inr (by omega))⟩
      rw [if_neg (by omega)] at i; exact i
  have := L _ 0 rfl (by omega) (by omega)
  rw [wT_0] at this
  rw [iI_lit, iI_lit, iI_neg]
  exact this
theorem c_X9_worstShake (hS : Sys S) (hM : MP 50 P σ) (hW : WF P) {a : Zr} (hz : MS a σ) (ho : okZ a.1 a.2) (hk : Φ [aI (iI (wS a.1 a.2 (P 282)))] σ) : S 184 [aR 49] σ Φ := by
  refine m_X9_worstShake hS (fun v hv hw => ?_)
  unfold vc_X9_worstShake_0
  unfold wS at hk
  have hn := ho.1
  have wr := wT_r ho (P 282) hn.1 (Int.le_refl _)
  try simp (disch := omega) only [iI_lit, iL_lit, iI_add, iI_sub, iI_mul, iI_neg, iI_lt, iI_le, iI_eq, iI_tn, iI_div, iI_l, iL_add, iL_sub, iL_mul, iL_neg, iL_le, iL_lt, iL_eq, iL_ite, vp_T, b2_ne0, b2_eq1, nn_imp, true_and, iI_ite, not_true_eq_false, not_false_eq_true, true_implies, false_implies, and_true, Int.reduceLT, Int.reduceLE, Int.reduceEq, or_false, false_or, true_or, or_true, false_and, and_false, hz.2]
  refine ⟨fun c => ?_, fun c => ?_⟩
  · rw [if_neg c] at hk
    refine c_X9_worstTime hS hM hW hz ho ⟨_, rfl, ?_⟩
    exact c_X9_shakeAt hS hM hW hz ho (by rcases wr with h | h <;> omega) ⟨_, rfl, hk⟩
  · rw [if_pos c] at hk; exact hk
theorem c_X9_over (hS : Sys S) (hM : MP 50 P σ) (hW : WF P) {a : Zr} (hz : MS a σ) (ho : okZ a.1 a.2) (hk : Φ [aI (iI (ov a.1 a.2 (P 282) (P 283) a.2))] σ) : S 185 [aR 49] σ Φ := by
  refine m_X9_over hS (fun v hv hw => ?_)
  have g0 := WF_0 hW
  obtain ⟨Z, n⟩ := a
  have hz0 := hz
  obtain ⟨hz, hz2⟩ := hz
  dsimp only at hz hz2 ho hk
  have hn := ho.1
  unfold vc_X9_over_0
  have L : ∀ (d : Nat) (k : Int), (n - k).toNat = d → 0 ≤ k → k ≤ n → v 4 [some (aR 49), some (aI (iI (ov Z n (P 282) (P 283) k))), some (aI (iI k)), none] [] σ := by
    intro d
    induction d with
    | zero =>
      intro k hd k0 k1
      refine w_X9_over_4 hS hv hw _ _ σ ?_
      unfold vc_X9_over_4
      have q : k = n := by omega
      subst q
      try simp (disch := omega) only [iI_lit, iL_lit, iI_add, iI_sub, iI_mul, iI_neg, iI_lt, iI_le, iI_eq, iI_tn, iI_div, iI_l, iL_add, iL_sub, iL_mul, iL_neg, iL_le, iL_lt, iL_eq, iL_ite, vp_T, b2_ne0, b2_eq1, nn_imp, true_and, iI_ite, not_true_eq_false, not_false_eq_true, true_implies, false_implies, and_true, Int.reduceLT, Int.reduceLE, Int.reduceEq, or_false, false_or, true_or, or_true, false_and, and_false, hz2]
      exact ⟨fun _ => hk, fun c => by omega⟩
    | succ d ih =>
      intro k hd k0 k1
      refine w_X9_over_4 hS hv hw _ _ σ ?_
      unfold vc_X9_over_4
      have q := hz k k0 (by omega)
      have r := okZ_r ho k0 (by omega)
      have orr := ov_r (Z := Z) (n := n) (w := P 282) (lim := P 283) k0
      have i := ih (k + 1) (by omega) (by omega) (by omega)
      rw [ov_s k0] at i
      have N : ¬ (k = 0 ∨ ¬ (Z k).1 = (Z (k - 1)).1) → vc_X9_over_38 S Φ v (iI (ov Z n (P 282) (P 283) k)) (iI k) (iI 0) σ := by
        intro c
        unfold vc_X9_over_38
        try simp (disch := omega) only [iI_lit, iL_lit, iI_add, iI_sub, iI_mul, iI_neg, iI_lt, iI_le, iI_eq, iI_tn, iI_div, iI_l, iL_add, iL_sub, iL_mul, iL_neg, iL_le, iL_lt, iL_eq, iL_ite, vp_T, b2_ne0, b2_eq1, nn_imp, true_and, iI_ite, not_true_eq_false, not_false_eq_true, true_implies, false_implies, and_true, Int.reduceLT, Int.reduceLE, Int.reduceEq, or_false, false_or, true_or, or_true, false_and, and_false]
        rw [if_neg (fun z => c z.1)] at i; exact i
      have s1 := shk_r ho (P 282) (Z k).1
      have Y : (k = 0 ∨ ¬ (Z k).1 = (Z (k - 1)).1) → vc_X9_over_33 S Φ v (iI (ov Z n (P 282) (P 283) k)) (iI k) σ := by
        intro c
        unfold vc_X9_over_33 vc_X9_over_38
        try simp (disch := omega) only [iI_lit, iL_lit, iI_add, iI_sub, iI_mul, iI_neg, iI_lt, iI_le, iI_eq, iI_tn, iI_div, iI_l, iL_add, iL_sub, iL_mul, iL_neg, iL_le, iL_lt, iL_eq, iL_ite, vp_T, b2_ne0, b2_eq1, nn_imp, true_and, iI_ite, not_true_eq_false, not_false_eq_true, true_implies, false_implies, and_true, Int.reduceLT, Int.reduceLE, Int.reduceEq, or_false, false_or, true_or, or_true, false_and, and_false, q.1]
        refine c_X9_shakeAt hS hM hW hz0 ho (by omega) ⟨_, rfl, ?_⟩
        try simp (disch := omega) only [iI_lit, iL_lit, iI_add, iI_sub, iI_mul, iI_neg, iI_lt, iI_le, iI_eq, iI_tn, iI_div, iI_l, iL_add, iL_sub, iL_mul, iL_neg, iL_le, iL_lt, iL_eq, iL_ite, vp_T, b2_ne0, b2_eq1, nn_imp, true_and, iI_ite, not_true_eq_false, not_false_eq_true, true_implies, false_implies, and_true, Int.reduceLT, Int.reduceLE, Int.reduceEq, or_false, false_or, true_or, or_true, false_and, and_false, hM _]
        refine ⟨fun e => ?_, fun e => ?_⟩
        · rw [if_neg (fun z => by omega)] at i; exact i
        · rw [if_pos ⟨c, by omega⟩] at i; exact i
      try simp (disch := omega) only [iI_lit, iL_lit, iI_add, iI_sub, iI_mul, iI_neg, iI_lt, iI_le, iI_eq, iI_tn, iI_div, iI_l, iL_add, iL_sub, iL_mul, iL_neg, iL_le, iL_lt, iL_eq, iL_ite, vp_T, b2_ne0, b2_eq1, nn_imp, true_and, iI_ite, not_true_eq_false, not_false_eq_true, true_implies, false_implies, and_true, Int.reduceLT, Int.reduceLE, Int.reduceEq, or_false, false_or, true_or, or_true, false_and, and_false, hz2, q.1]
      refine ⟨fun c => by omega, fun _ => ⟨fun c => Y (Or.inl c), fun c => ?_⟩⟩
      have q2 := hz (k - 1) (by omega) (by omega)
      have r2 := okZ_r ho (i := k - 1) (by omega) (by omega)
      try simp (disch := omega) only [iI_lit, iL_lit, iI_add, iI_sub, iI_mul, iI_neg, iI_lt, iI_le, iI_eq, iI_tn, iI_div, iI_l, iL_add, iL_sub, iL_mul, iL_neg, iL_le, iL_lt, iL_eq, iL_ite, vp_T, b2_ne0, b2_eq1, nn_imp, true_and, iI_ite, not_true_eq_false, not_false_eq_true, true_implies, false_implies, and_true, Int.reduceLT, Int.reduceLE, Int.reduceEq, or_false, false_or, true_or, or_true, false_and, and_false, q2.1]
      exact ⟨fun e => N (by omega), fun e => Y (Or.inr e)⟩
  have := L _ 0 rfl (by omega) (by omega)
  rw [ov_0] at this
  rw [iI_lit]
  exact this
theorem sh_ok (hW : WF P) (hG : Sg P D g (sg P D g)) : okZ (shL P (fr P D g) (tm P D g)).1 (shL P (fr P D g) (tm P D g)).2 := (shL_ok hW (fun h h0 h1 hf => by have := tm_r hW hG h0 h1 hf; omega) (P 280) (WF_0 hW).1.1 (Int.le_refl _)).1
theorem c_X9_lays (hS : Sys S) (hM : MP 50 P σ) (hW : WF P) (hk : ∀ σ', Fr FL σ σ' → FS P (dd P) (-1) σ' → MS (shL P (fr P (dd P) (-1)) (tm P (dd P) (-1))) σ' → Φ [] σ') : S 186 [aR 49] σ Φ := by
  refine m_X9_lays hS (fun v hv hw => ?_)
  unfold vc_X9_lays_0
  refine c_X9_fires hS hM hW (fun σ1 f1 s1 => ⟨rfl, ?_⟩)
  have mp := MP_f hM f1 (fun j => by unfold FM; omega)
  rw [s1.2.2.1]
  refine c_X9_laysShots hS mp hW (T := tm P (dd P) (-1)) (fun h h0 h1 hf => ⟨s1.2.1 h h0 h1 hf, by have := tm_r hW s1.2.2.2.2 h0 h1 hf; omega⟩) (fun h h0 h1 hf => (fr_i.mp hf).2.2) (fun σ2 f2 m2 => ⟨rfl, ?_⟩)
  refine hk σ2 (Fr_tr (Fr_mo f1 (fun _ _ => Or.inl)) (Fr_mo f2 (fun _ _ => Or.inr))) ⟨fun h hh => ?_, fun h h0 h1 hf => ?_, ?_, ?_, s1.2.2.2.2⟩ m2
  · rw [f2.1 _ _ (by unfold FSH; omega)]; exact s1.1 h hh
  · rw [f2.1 _ _ (by unfold FSH; omega)]; exact s1.2.1 h h0 h1 hf
  · rw [f2.1 _ _ (by unfold FSH; omega)]; exact s1.2.2.1
  · rw [f2.1 _ _ (by unfold FSH; omega)]; exact s1.2.2.2.1
theorem c_X7_weigh (hS : Sys S) (h_s : isSh s) {a : Zr} (hz : CS s a σ) (ho : okZ a.1 a.2) {w lim : Int} (hw1 : 1 ≤ w ∧ w ≤ 99) (hl : 1 ≤ lim ∧ lim ≤ 9999) (hk : ∀ σ', Fr (fun k j => k = s ∧ (j = 4 ∨ j = 5 ∨ j = 6)) σ σ' → CG s a w lim σ' → Φ [] σ') : S 86 [aR s, aI (iI w), aI (iI lim)] σ Φ := by
  refine m_X7_weigh hS h_s (fun v hv hw => ?_)
  have hz0 := hz
  obtain ⟨Z, n⟩ := a
  obtain ⟨hz, hz2⟩ := hz
  dsimp only at hz hz2 ho
  have hn := ho.1
  unfold vc_X7_weigh_0
  intro σ1 e1 σ2 e2 σ3 e3
  have CC : ∀ σ', Fr (fun k j => k = s ∧ (j = 4 ∨ j = 5 ∨ j = 6)) σ σ' → CS s (Z, n) σ' := fun σ' f => CS_f hz0 f (fun k j q => by omega)
  have L : ∀ (d : Nat) (k : Int) (σ4 : St), (n - k).toNat = d → 0 ≤ k → k ≤ n → Fr (fun k j => k = s ∧ (j = 4 ∨ j = 5 ∨ j = 6)) σ σ4 → σ4.1 s 4 = iI (if k = 0 then 0 else shk Z n w (wT Z n w k)) → σ4.1 s 5 = iI (wT Z n w k) → σ4.1 s 6 = iI (ov Z n w lim k) → v 17 [some (aR s), some (aI (iI w)), some (aI (iI lim)), some (aI (iI k)), none] [] σ4 := by
    intro d
    induction d with
    | zero =>
      intro k σ4 hd k0 k1 hf b4 b5 b6
      refine w_X7_weigh_17 hS hv hw s h_s _ _ _ σ4 ?_
      unfold vc_X7_weigh_17
      have cs := CC σ4 hf
      have q : k = n := by omega
      subst q
      try simp (disch := omega) only [iI_lit, iL_lit, iI_add, iI_sub, iI_mul, iI_neg, iI_lt, iI_le, iI_eq, iI_tn, iI_div, iI_l, iL_add, iL_sub, iL_mul, iL_neg, iL_le, iL_lt, iL_eq, iL_ite, vp_T, b2_ne0, b2_eq1, nn_imp, true_and, iI_ite, not_true_eq_false, not_false_eq_true, true_implies, false_implies, and_true, Int.reduceLT, Int.reduceLE, Int.reduceEq, or_false, false_or, true_or, or_true, false_and, and_false, cs.2]
      exact ⟨fun _ => hk σ4 hf ⟨cs, b4, b5, b6⟩, fun c => by omega⟩
    | succ d ih =>
      intro k σ4 hd k0 k1 hf b4 b5 b6
      refine w_X7_weigh_17 hS hv hw s h_s _ _ _ σ4 ?_
      unfold vc_X7_weigh_17
      have cs := CC σ4 hf
      have q := cs.1 k k0 (by show k < n; omega)
      dsimp only at q
      have r := okZ_r ho k0 (by omega)
      have orr := ov_r (Z := Z) (n := n) (w := w) (lim := lim) k0
      have wr := wT_r ho w k0 k1
      have s1 := shk_r ho w (Z k).1
      have s2 := shk_r ho w (wT Z n w k)
      have own := shk_own ho hw1.1 k0 (by omega : k < n)
      have N : ¬ (k = 0 ∨ ¬ (Z k).1 = (Z (k - 1)).1) → v 17 [some (aR s), some (aI (iI w)), some (aI (iI lim)), some (aI (iI (k + 1))), none] [] σ4 := by
        intro c
        have e1 : wT Z n w (k + 1) = wT Z n w k := by
          rw [wT_s k0]
          rcases wr with h | ⟨h1, h2, h3, h4⟩
          · omega
          · have := h4 (k - 1) (by omega) (by omega)
            rw [show (Z (k - 1)).1 = (Z k).1 by omega] at this
            rw [if_neg (by omega)]
        refine ih (k + 1) σ4 (by omega) (by omega) (by omega) hf ?_ (by rw [e1]; exact b5) (by rw [ov_s k0, if_neg (fun z => c z.1), Int.add_zero]; exact b6)
        rw [e1, b4, if_neg (by omega), if_neg (by omega)]
      have Y : (k = 0 ∨ ¬ (Z k).1 = (Z (k - 1)).1) → vc_X7_weigh_46 S Φ v s (iI w) (iI lim) (iI k) σ4 := by
        intro c
        unfold vc_X7_weigh_46 vc_X7_weigh_51
        have hT : σ4.1 (s + 1) k.toNat = iI (Z k).1 := q.1
        try simp (disch := omega) only [iI_lit, iL_lit, iI_add, iI_sub, iI_mul, iI_neg, iI_lt, iI_le, iI_eq, iI_tn, iI_div, iI_l, iL_add, iL_sub, iL_mul, iL_neg, iL_le, iL_lt, iL_eq, iL_ite, vp_T, b2_ne0, b2_eq1, nn_imp, true_and, iI_ite, not_true_eq_false, not_false_eq_true, true_implies, false_implies, and_true, Int.reduceLT, Int.reduceLE, Int.reduceEq, or_false, false_or, true_or, or_true, false_and, and_false, hT]
        refine m_X7_weighAt hS h_s (fun v2 hv2 hw2 => ?_)
        unfold vc_X7_weighAt_0
        refine c_X7_shakeAt hS h_s cs ho (by omega) hw1 ⟨_, rfl, ?_⟩
        dsimp only
        -- the greatest
        have G : ∀ σ5, Fr (fun k j => k = s ∧ (j = 4 ∨ j = 5 ∨ j = 6)) σ σ5 → σ5.1 s 4 = iI (if k = 0 then 0 else shk Z n w (wT Z n w k)) → σ5.1 s 5 = iI (wT Z n w k) → σ5.1 s 6 = iI (ov Z n w lim (k + 1)) → vc_X7_weighAt_24 S (fun r σ1 => r = [] ∧ v 17 [some (aR s), some (aI (iI w)), some (aI (iI lim)), some (aI (iI (k + 1))), none] [] σ1) v2 s (iI (Z k).1) (iI w) (iI lim) (iI (shk Z n w (Z k).1)) σ5 := by
          intro σ5 hf5 d4 d5 d6
          unfold vc_X7_weighAt_24
          have gr : 0 ≤ (if k = 0 then 0 else shk Z n w (wT Z n w k)) ∧ (if k = 0 then 0 else shk Z n w (wT Z n w k)) ≤ 4000 := by split <;> omega
          try simp (disch := omega) only [iI_lit, iL_lit, iI_add, iI_sub, iI_mul, iI_neg, iI_lt, iI_le, iI_eq, iI_tn, iI_div, iI_l, iL_add, iL_sub, iL_mul, iL_neg, iL_le, iL_lt, iL_eq, iL_ite, vp_T, b2_ne0, b2_eq1, nn_imp, true_and, iI_ite, not_true_eq_false, not_false_eq_true, true_implies, false_implies, and_true, Int.reduceLT, Int.reduceLE, Int.reduceEq, or_false, false_or, true_or, or_true, false_and, and_false, d4]
          refine ⟨fun e => ?_, fun e σ6 e6 σ7 e7 => ?_⟩
          · by_cases z : k = 0
            · rw [if_pos z] at e; omega
            · rw [if_neg z] at e d4
              have e1 : wT Z n w (k + 1) = wT Z n w k := by
                rw [wT_s k0]
                rcases wr with h | h
                · omega
                · rw [if_neg (by omega)]
              exact ih (k + 1) σ5 (by omega) (by omega) (by omega) hf5 (by rw [e1, if_neg (by omega)]; exact d4) (by rw [e1]; exact d5) d6
          · have e1 : wT Z n w (k + 1) = (Z k).1 := by
              rw [wT_s k0]
              by_cases z : k = 0
              · rcases wr with h | h
                · rw [if_pos (Or.inl (by omega))]
                · omega
              · rw [if_neg z] at e
                rw [if_pos (Or.inr (by omega))]
            refine ih (k + 1) σ7 (by omega) (by omega) (by omega) (by rw [e7, e6]; exact Fr_up (Fr_up hf5 (by omega)) (by omega)) ?_ ?_ ?_
            · rw [e7, up_m (by omega), e6, up_h rfl, e1, if_neg (by omega)]
            · rw [e7, up_h rfl, e1]
            · rw [e7, up_m (by omega), e6, up_m (by omega)]; exact d6
        try simp (disch := omega) only [iI_lit, iL_lit, iI_add, iI_sub, iI_mul, iI_neg, iI_lt, iI_le, iI_eq, iI_tn, iI_div, iI_l, iL_add, iL_sub, iL_mul, iL_neg, iL_le, iL_lt, iL_eq, iL_ite, vp_T, b2_ne0, b2_eq1, nn_imp, true_and, iI_ite, not_true_eq_false, not_false_eq_true, true_implies, false_implies, and_true, Int.reduceLT, Int.reduceLE, Int.reduceEq, or_false, false_or, true_or, or_true, false_and, and_false, b6]
        refine ⟨fun e => ?_, fun e σ5 e5 => ?_⟩
        · exact G σ4 hf b4 b5 (by rw [ov_s k0, if_neg (fun z => by omega), Int.add_zero]; exact b6)
        · refine G σ5 (by rw [e5]; exact Fr_up hf (by omega)) ?_ ?_ ?_
          · rw [e5, up_m (by omega)]; exact b4
          · rw [e5, up_m (by omega)]; exact b5
          · rw [e5, up_h rfl, ov_s k0, if_pos ⟨c, by omega⟩]
      have hT : σ4.1 (s + 1) k.toNat = iI (Z k).1 := q.1
      try simp (disch := omega) only [iI_lit, iL_lit, iI_add, iI_sub, iI_mul, iI_neg, iI_lt, iI_le, iI_eq, iI_tn, iI_div, iI_l, iL_add, iL_sub, iL_mul, iL_neg, iL_le, iL_lt, iL_eq, iL_ite, vp_T, b2_ne0, b2_eq1, nn_imp, true_and, iI_ite, not_true_eq_false, not_false_eq_true, true_implies, false_implies, and_true, Int.reduceLT, Int.reduceLE, Int.reduceEq, or_false, false_or, true_or, or_true, false_and, and_false, cs.2, hT]
      refine ⟨fun c => by omega, fun _ => ⟨fun c => Y (Or.inl c), fun c => ?_⟩⟩
      have q2 := cs.1 (k - 1) (by omega) (by show k - 1 < n; omega)
      have r2 := okZ_r ho (i := k - 1) (by omega) (by omega)
      have hT2 : σ4.1 (s + 1) (k - 1).toNat = iI (Z (k - 1)).1 := q2.1
      try simp (disch := omega) only [iI_lit, iL_lit, iI_add, iI_sub, iI_mul, iI_neg, iI_lt, iI_le, iI_eq, iI_tn, iI_div, iI_l, iL_add, iL_sub, iL_mul, iL_neg, iL_le, iL_lt, iL_eq, iL_ite, vp_T, b2_ne0, b2_eq1, nn_imp, true_and, iI_ite, not_true_eq_false, not_false_eq_true, true_implies, false_implies, and_true, Int.reduceLT, Int.reduceLE, Int.reduceEq, or_false, false_or, true_or, or_true, false_and, and_false, hT2]
      refine ⟨fun e => ?_, fun e => Y (Or.inr e)⟩
      unfold vc_X7_weigh_51
      try simp (disch := omega) only [iI_lit, iL_lit, iI_add, iI_sub, iI_mul, iI_neg, iI_lt, iI_le, iI_eq, iI_tn, iI_div, iI_l, iL_add, iL_sub, iL_mul, iL_neg, iL_le, iL_lt, iL_eq, iL_ite, vp_T, b2_ne0, b2_eq1, nn_imp, true_and, iI_ite, not_true_eq_false, not_false_eq_true, true_implies, false_implies, and_true, Int.reduceLT, Int.reduceLE, Int.reduceEq, or_false, false_or, true_or, or_true, false_and, and_false]
      exact N (by omega)
  rw [iI_lit]
  refine L _ 0 σ3 rfl (by omega) (by omega) (by rw [e3, e2, e1]; exact Fr_up (Fr_up (Fr_up Fr_rf (by omega)) (by omega)) (by omega)) ?_ ?_ ?_
  · rw [e3, up_m (by omega), e2, up_m (by omega), e1, up_h rfl, if_pos rfl, iI_lit]
  · rw [e3, up_m (by omega), e2, up_h rfl, wT_0, iI_lit, iI_neg]
  · rw [e3, up_h rfl, ov_0, iI_lit]
theorem c_X0_reckonShots (hS : Sys S) (h_b : isBl b) (hC : CP 1 P σ) (hW : WF P) (hB : BS b P D g σ) (hk : ∀ σ', Fr (FS3 (b + 3)) σ σ' → CG (b + 3) (shL P (fr P D g) (tm P D g)) (P 282) (P 283) σ' → Φ [] σ') : S 1 [aR b] σ Φ := by
  refine m_X0_reckonShots hS h_b (fun v hv hw => ?_)
  have g0 := WF_0 hW
  have hb : 13 ≤ b ∧ b < 27 := h_b.2.2.2.2.1
  have h_s := isBl_sh h_b
  unfold vc_X0_reckonShots_0
  refine m_X7_clear hS h_s (fun v2 hv2 hw2 => ?_)
  unfold vc_X7_clear_0
  intro σ1 e1
  refine ⟨rfl, ?_⟩
  have L : ∀ (d : Nat) (h : Int) (σ1 : St), (P 280 - h).toNat = d → 0 ≤ h → h ≤ P 280 → Fr (FS3 (b + 3)) σ σ1 → CS (b + 3) (lp (layF P (fr P D g) (tm P D g)) 0 h z0) σ1 → v 9 [some (aR b), some (aI (iI h))] [] σ1 := by
    intro d
    induction d with
    | zero =>
      intro h σ1 hd h0 h1 hf hm
      refine w_X0_reckonShots_9 hS hv hw b h_b _ σ1 ?_
      unfold vc_X0_reckonShots_9
      have cp := CP_f hC hf (fun k j x y => by unfold FS3; omega)
      have q : h = P 280 := by omega
      subst q
      have c0 : σ1.1 4 (0 : Int).toNat = iI (P 282) := CP_r cp (by omega)
      have c1 : σ1.1 4 (1 : Int).toNat = iI (P 283) := CP_r cp (by omega)
      try simp (disch := omega) only [iI_lit, iL_lit, iI_add, iI_sub, iI_mul, iI_neg, iI_lt, iI_le, iI_eq, iI_tn, iI_div, iI_l, iL_add, iL_sub, iL_mul, iL_neg, iL_le, iL_lt, iL_eq, iL_ite, vp_T, b2_ne0, b2_eq1, nn_imp, true_and, iI_ite, not_true_eq_false, not_false_eq_true, true_implies, false_implies, and_true, Int.reduceLT, Int.reduceLE, Int.reduceEq, or_false, false_or, true_or, or_true, false_and, and_false, CP_n cp, c0, c1]
      refine ⟨fun _ => ?_, fun c => by omega⟩
      exact c_X7_weigh hS h_s hm (sh_ok hW hB.2.2.2) (by omega) (by omega) (fun σ2 f2 c2 => ⟨rfl, hk σ2 (Fr_tr hf (Fr_mo f2 (fun k j q => by unfold FS3; omega))) c2⟩)
    | succ d ih =>
      intro h σ1 hd h0 h1 hf hm
      refine w_X0_reckonShots_9 hS hv hw b h_b _ σ1 ?_
      unfold vc_X0_reckonShots_9
      have cp := CP_f hC hf (fun k j x y => by unfold FS3; omega)
      have hz : h < P 280 := by omega
      have i := ih (h + 1)
      rw [lp_l _ _ h0] at i
      have ok := shL_ok hW (F := fr P D g) (T := tm P D g) (fun h h0 h1 hf => by have := tm_r hW hB.2.2.2 h0 h1 hf; omega) h h0 (by omega)
      have f4 : σ1.1 b 4 = bm (fr P D g) (P 280) := by rw [hf.1 _ _ (by unfold FS3; omega)]; exact hB.2.2.1.1
      have t4 : σ1.1 (b + 2) h.toNat = iI (if fr P D g h = true then tm P D g h else -1) := by rw [hf.1 _ _ (by unfold FS3; omega)]; exact hB.2.1 h h0 hz
      try simp (disch := omega) only [iI_lit, iL_lit, iI_add, iI_sub, iI_mul, iI_neg, iI_lt, iI_le, iI_eq, iI_tn, iI_div, iI_l, iL_add, iL_sub, iL_mul, iL_neg, iL_le, iL_lt, iL_eq, iL_ite, vp_T, b2_ne0, b2_eq1, nn_imp, true_and, iI_ite, not_true_eq_false, not_false_eq_true, true_implies, false_implies, and_true, Int.reduceLT, Int.reduceLE, Int.reduceEq, or_false, false_or, true_or, or_true, false_and, and_false, CP_n cp, f4, t4, bs_0, bs_1, bs_bm, Bool.and_eq_true, decide_eq_true_eq, Bool.not_eq_false, Bool.not_eq_true]
      refine ⟨fun c => by omega, fun _ => ⟨fun c => ?_, fun c => ?_⟩⟩
      · rw [layF_f (fun q => c ⟨by omega, by omega, hz, q⟩)] at i
        exact i σ1 (by omega) (by omega) (by omega) hf hm
      · have c := c.2.2.2
        have tr := tm_r hW hB.2.2.2 h0 hz c
        rw [layF_t c] at i
        rw [if_pos c]
        exact c_X7_addAll hS h_s cp hW hm ok.1 (by omega) h0 hz (by omega) (fun σ2 f2 m2 => ⟨rfl, i σ2 (by omega) (by omega) (by omega) (Fr_tr hf f2) m2⟩)
  rw [iI_lit]
  refine L _ 0 σ1 rfl (by omega) (by omega) (by rw [e1]; exact Fr_up Fr_rf (by unfold FS3; omega)) ⟨fun i i0 i1 => ?_, ?_⟩
  · rw [lp_z _ _ (by omega)] at i1; exact absurd i1 (by show ¬ i < 0; omega)
  · rw [lp_z _ _ (by omega), e1, up_h rfl, iI_lit]; rfl
end C21c
