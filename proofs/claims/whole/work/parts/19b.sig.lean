def rp (x : Int) : Int := if x = 1000000 then -1 else x
theorem rp_n {x : Int} (h : ¬ x = 1000000) : rp x = x := if_neg h
theorem rp_y {x : Int} (h : x = 1000000) : rp x = -1 := if_pos h
/-- no wire makes it better -/
def Fix (P : Pl) (D : Int → Bool) (g : Int) (s : Int → Int) : Prop := ∀ w, 0 ≤ w → w < P 281 → ¬ w = g → s (P (160 + 3 * w + 1)) ≤ en P D s w
theorem Fix_of {P : Pl} {D : Int → Bool} {g : Int} {s : Int → Int} (hW : WF P) (hs : Snd P D g s) (hG : Sg P D g s) : Fix P D g s := by
  intro w h0 h1 hg
  have r := WF_w hW h0 h1
  have g0 := WF_0 hW
  have q := Snd_r hs (h := P (160 + 3 * w + 1)) (by omega) (by omega)
  rcases en_r hW hs h0 h1 with e | ⟨e1, e2, e3, e4⟩
  · omega
  · exact (hG _ r.2.1.1 r.2.1.2).1 _ (e3 hg)
noncomputable def sgA (P : Pl) (D : Int → Bool) (g h : Int) : Int := if h < P 280 then sg P D g h else 1000000
theorem sgA_of {P : Pl} {D : Int → Bool} {g : Int} {s : Int → Int} (hW : WF P) (hs : Snd P D g s) (hG : Sg P D g s) {h : Int} (h0 : 0 ≤ h) (h1 : h < 20) : s h = sgA P D g h := by
  unfold sgA
  by_cases c : h < P 280
  · rw [if_pos c]; exact Sg_eq hW hG h0 c
  · rw [if_neg c]
    rcases hs h h0 h1 with q | ⟨q, _⟩
    · exact q
    · exact absurd q c
theorem Cmp_0 {P : Pl} {D : Int → Bool} {g : Int} {s : Int → Int} : Cmp P D g 0 s := by
  intro l h y hl q
  have : l = [] := List.length_eq_zero_iff.mp (by omega)
  subst this; exact q.elim
theorem Snd_far {P : Pl} {D : Int → Bool} {g : Int} : Snd P D g (fun _ => 1000000) := fun _ _ _ => Or.inl rfl
section C19
variable {S : Sp} {σ : St} {Φ : Rs} {P : Pl} {s : Int → Int} {D : Int → Bool} {g : Int} {b : Nat}
theorem c_X9_endOf (hS : Sys S) (hM : MP 50 P σ) (hW : WF P) (hs : ∀ h, 0 ≤ h ∧ h < 20 → σ.1 53 h.toNat = iI (s h)) (hr : ∀ h, 0 ≤ h → h < 20 → s h = 1000000 ∨ (0 ≤ s h ∧ s h ≤ 10000)) {w : Int} (h0 : 0 ≤ w) (h1 : w < P 281) (hk : Φ [aI (iI (en P (dd P) s w))] σ) : S 171 [aR 49, aI (iI w)] σ Φ := by
  refine m_X9_endOf hS (fun v hv hw => ?_)
  have g0 := WF_0 hW
  have r := WF_w hW h0 h1
  unfold vc_X9_endOf_0
  unfold en at hk
  have m0 : σ.1 50 (160 + 3 * w + 0).toNat = iI (P (160 + 3 * w)) := by rw [hM _ (by omega), Int.add_zero]
  by_cases c : P (160 + 3 * w) = -1
  · rw [if_pos c] at hk
    try simp (disch := omega) only [iI_lit, iL_lit, iI_add, iI_sub, iI_mul, iI_neg, iI_lt, iI_le, iI_eq, iI_tn, iI_div, iI_l, iL_add, iL_sub, iL_mul, iL_neg, iL_le, iL_lt, iL_eq, iL_ite, vp_T, b2_ne0, b2_eq1, nn_imp, true_and, iI_ite, not_true_eq_false, not_false_eq_true, true_implies, false_implies, and_true, Int.reduceLT, Int.reduceLE, Int.reduceEq, or_false, false_or, true_or, or_true, false_and, and_false, m0, hM _]
    exact ⟨fun a => by omega, fun _ => hk⟩
  · rw [if_neg c] at hk
    have q := hr (P (160 + 3 * w)) (by omega) (by omega)
    have gd := WF_h hW (h := P (160 + 3 * w)) (by omega) (by omega)
    have dE : dd P (P (160 + 3 * w)) = true ↔ P (8 * P (160 + 3 * w) + 6) = 1 := by unfold dd; exact decide_eq_true_iff
    try simp (disch := omega) only [iI_lit, iL_lit, iI_add, iI_sub, iI_mul, iI_neg, iI_lt, iI_le, iI_eq, iI_tn, iI_div, iI_l, iL_add, iL_sub, iL_mul, iL_neg, iL_le, iL_lt, iL_eq, iL_ite, vp_T, b2_ne0, b2_eq1, nn_imp, true_and, iI_ite, not_true_eq_false, not_false_eq_true, true_implies, false_implies, and_true, Int.reduceLT, Int.reduceLE, Int.reduceEq, or_false, false_or, true_or, or_true, false_and, and_false, m0, hM _, hs]
    refine ⟨fun _ => ⟨fun a => ?_, fun a => ⟨fun b => ?_, fun b => ?_⟩⟩, fun a => by omega⟩
    · rw [if_pos (Or.inl a)] at hk; exact hk
    · rw [if_neg (fun z => z.elim a (fun z => b (dE.mp z)))] at hk; exact hk
    · rw [if_pos (Or.inr (dE.mpr b))] at hk; exact hk
theorem c_X9_signals (hS : Sys S) (hM : MP 50 P σ) (hW : WF P) (hk : ∀ σ', Fr (fun k _ => k = 53) σ σ' → (∀ h, 0 ≤ h ∧ h < 20 → σ'.1 53 h.toNat = iI (sgA P (dd P) (-1) h)) → Sg P (dd P) (-1) (sg P (dd P) (-1)) → Φ [] σ') : S 172 [aR 49] σ Φ := by
  refine m_X9_signals hS (fun v hv hw => ?_)
  have g0 := WF_0 hW
  unfold vc_X9_signals_0
  -- the end
  have E0 : ∀ (s : Int → Int) (σ1 : St), Fr (fun k _ => k = 53) σ σ1 → (∀ h, 0 ≤ h ∧ h < 20 → σ1.1 53 h.toNat = iI (s h)) → Snd P (dd P) (-1) s → Sg P (dd P) (-1) s → v 24 [some (aR 49), some (aI (iI 0)), none, none] [] σ1 := by
    intro s σ1 hf hc hs hG
    refine w_X9_signals_24 hS hv hw _ σ1 ?_
    unfold vc_X9_signals_24
    try simp (disch := omega) only [iI_lit, iL_lit, iI_add, iI_sub, iI_mul, iI_neg, iI_lt, iI_le, iI_eq, iI_tn, iI_div, iI_l, iL_add, iL_sub, iL_mul, iL_neg, iL_le, iL_lt, iL_eq, iL_ite, vp_T, b2_ne0, b2_eq1, nn_imp, true_and, iI_ite, not_true_eq_false, not_false_eq_true, true_implies, false_implies, and_true, Int.reduceLT, Int.reduceLE, Int.reduceEq, or_false, false_or, true_or, or_true, false_and, and_false]
    exact hk σ1 hf (fun h hh => by rw [hc h hh, sgA_of hW hs hG hh.1 hh.2]) (sg_Sg hW hG)
  -- a round
  have W1 : ∀ (s0 : Int → Int), Snd P (dd P) (-1) s0 → (∀ (s : Int → Int) (σ2 : St) (m : Int), Fr (fun k _ => k = 53) σ σ2 → (∀ h, 0 ≤ h ∧ h < 20 → σ2.1 53 h.toNat = iI (s h)) → Snd P (dd P) (-1) s → (∀ w, 0 ≤ w → w < P 281 → ¬ w = -1 → s (P (160 + 3 * w + 1)) ≤ en P (dd P) s0 w) → ((m = 0 ∧ s = s0) ∨ (m = 1 ∧ ¬ Fix P (dd P) (-1) s0)) → v 24 [some (aR 49), some (aI (iI m)), none, none] [] σ2) →
      ∀ (d : Nat) (w : Int) (s : Int → Int) (σ1 : St) (m : Int), (P 281 - w).toNat = d → 0 ≤ w → w ≤ P 281 → Fr (fun k _ => k = 53) σ σ1 → (∀ h, 0 ≤ h ∧ h < 20 → σ1.1 53 h.toNat = iI (s h)) → Snd P (dd P) (-1) s → (∀ h, 0 ≤ h → h < 20 → s h ≤ s0 h) → (∀ w', 0 ≤ w' → w' < w → ¬ w' = -1 → s (P (160 + 3 * w' + 1)) ≤ en P (dd P) s0 w') → ((m = 0 ∧ s = s0) ∨ (m = 1 ∧ ¬ Fix P (dd P) (-1) s0)) → v 32 [some (aR 49), some (aI (iI m)), some (aI (iI w)), none] [] σ1 := by
    intro s0 hs0 hE d
    induction d with
    | zero =>
      intro w s σ1 m hd w0 w1 hf hc hs hle hst hm
      refine w_X9_signals_32 hS hv hw _ _ σ1 ?_
      unfold vc_X9_signals_32
      have mp := MP_f hM hf (fun _ => by omega)
      try simp (disch := omega) only [iI_lit, iL_lit, iI_add, iI_sub, iI_mul, iI_neg, iI_lt, iI_le, iI_eq, iI_tn, iI_div, iI_l, iL_add, iL_sub, iL_mul, iL_neg, iL_le, iL_lt, iL_eq, iL_ite, vp_T, b2_ne0, b2_eq1, nn_imp, true_and, iI_ite, not_true_eq_false, not_false_eq_true, true_implies, false_implies, and_true, Int.reduceLT, Int.reduceLE, Int.reduceEq, or_false, false_or, true_or, or_true, false_and, and_false, mp _]
      refine ⟨fun _ => hE s σ1 m hf hc hs (fun w' a b => hst w' a (by omega)) hm, fun c => by omega⟩
    | succ d ih =>
      intro w s σ1 m hd w0 w1 hf hc hs hle hst hm
      refine w_X9_signals_32 hS hv hw _ _ σ1 ?_
      unfold vc_X9_signals_32
      have mp := MP_f hM hf (fun _ => by omega)
      have r := WF_w hW w0 (by omega)
      have rt := Snd_r hs (h := P (160 + 3 * w + 1)) (by omega) (by omega)
      have re := en_r hW hs w0 (by omega : w < P 281)
      try simp (disch := omega) only [iI_lit, iL_lit, iI_add, iI_sub, iI_mul, iI_neg, iI_lt, iI_le, iI_eq, iI_tn, iI_div, iI_l, iL_add, iL_sub, iL_mul, iL_neg, iL_le, iL_lt, iL_eq, iL_ite, vp_T, b2_ne0, b2_eq1, nn_imp, true_and, iI_ite, not_true_eq_false, not_false_eq_true, true_implies, false_implies, and_true, Int.reduceLT, Int.reduceLE, Int.reduceEq, or_false, false_or, true_or, or_true, false_and, and_false, mp _]
      refine ⟨fun c => by omega, fun _ => ?_⟩
      refine c_X9_endOf hS mp hW hc (fun h a b => Snd_r hs a b) w0 (by omega) ⟨_, rfl, ?_⟩
      try simp (disch := omega) only [iI_lit, iL_lit, iI_add, iI_sub, iI_mul, iI_neg, iI_lt, iI_le, iI_eq, iI_tn, iI_div, iI_l, iL_add, iL_sub, iL_mul, iL_neg, iL_le, iL_lt, iL_eq, iL_ite, vp_T, b2_ne0, b2_eq1, nn_imp, true_and, iI_ite, not_true_eq_false, not_false_eq_true, true_implies, false_implies, and_true, Int.reduceLT, Int.reduceLE, Int.reduceEq, or_false, false_or, true_or, or_true, false_and, and_false, mp _, hc]
      have hen := en_mono hW hs hs0 hle w0 (by omega : w < P 281)
      refine ⟨fun c => ?_, fun c σ3 e3 => ?_⟩
      · refine ih (w + 1) s σ1 m (by omega) (by omega) (by omega) hf hc hs hle (fun w' a b e => ?_) hm
        by_cases q : w' < w
        · exact hst w' a q e
        · rw [show w' = w by omega]; omega
      · refine ih (w + 1) (pu s (P (160 + 3 * w + 1)) (en P (dd P) s w)) σ3 1 (by omega) (by omega) (by omega) (by rw [e3]; exact Fr_up hf rfl) (fun h hh => ?_) (Snd_up hW hs w0 (by omega) (by omega) (by omega)) (fun h a b => ?_) (fun w' a b e => ?_) (Or.inr ⟨rfl, ?_⟩)
        · rw [e3]
          by_cases q : h = P (160 + 3 * w + 1)
          · subst q; rw [up_h rfl, pu_e rfl]
          · rw [up_m (by omega), pu_n q]; exact hc h hh
        · by_cases q : h = P (160 + 3 * w + 1)
          · subst q; rw [pu_e rfl]; have := hle _ a b; omega
          · rw [pu_n q]; exact hle h a b
        · by_cases q : P (160 + 3 * w' + 1) = P (160 + 3 * w + 1)
          · rw [pu_e q]
            by_cases q2 : w' < w
            · have := hst w' a q2 e
              rw [q] at this
              omega
            · rw [show w' = w by omega]; exact hen
          · rw [pu_n q]
            by_cases q2 : w' < w
            · exact hst w' a q2 e
            · exact absurd (by rw [show w' = w by omega]) q
        · rcases hm with ⟨_, q⟩ | ⟨_, q⟩
          · subst q
            intro hfix
            have := hfix w w0 (by omega) (by omega)
            omega
          · exact q
  -- all rounds
  have R : ∀ (n : Nat) (k : Int) (s : Int → Int) (σ1 : St), (P 280 - k).toNat = n → 0 ≤ k → k ≤ P 280 → Fr (fun k _ => k = 53) σ σ1 → (∀ h, 0 ≤ h ∧ h < 20 → σ1.1 53 h.toNat = iI (s h)) → Snd P (dd P) (-1) s → Cmp P (dd P) (-1) k s → v 24 [some (aR 49), some (aI (iI 1)), none, none] [] σ1 := by
    intro n
    induction n with
    | zero =>
      intro k s σ1 hd k0 k1 hf hc hs hC
      refine w_X9_signals_24 hS hv hw _ σ1 ?_
      unfold vc_X9_signals_24
      try simp (disch := omega) only [iI_lit, iL_lit, iI_add, iI_sub, iI_mul, iI_neg, iI_lt, iI_le, iI_eq, iI_tn, iI_div, iI_l, iL_add, iL_sub, iL_mul, iL_neg, iL_le, iL_lt, iL_eq, iL_ite, vp_T, b2_ne0, b2_eq1, nn_imp, true_and, iI_ite, not_true_eq_false, not_false_eq_true, true_implies, false_implies, and_true, Int.reduceLT, Int.reduceLE, Int.reduceEq, or_false, false_or, true_or, or_true, false_and, and_false]
      rw [show k = P 280 by omega] at hC
      have hG := Sg_cmp hW hs hC
      refine W1 s hs (fun s2 σ2 m hf2 hc2 hs2 hst hm => ?_) _ 0 s σ1 0 rfl (by omega) (by omega) hf hc hs (fun _ _ _ => Int.le_refl _) (fun w' a b => by omega) (Or.inl ⟨rfl, rfl⟩)
      rcases hm with ⟨e, e2⟩ | ⟨e, e2⟩
      · subst e; subst e2; exact E0 s2 σ2 hf2 hc2 hs2 hG
      · exact absurd (Fix_of hW hs hG) e2
    | succ n ih =>
      intro k s σ1 hd k0 k1 hf hc hs hC
      refine w_X9_signals_24 hS hv hw _ σ1 ?_
      unfold vc_X9_signals_24
      try simp (disch := omega) only [iI_lit, iL_lit, iI_add, iI_sub, iI_mul, iI_neg, iI_lt, iI_le, iI_eq, iI_tn, iI_div, iI_l, iL_add, iL_sub, iL_mul, iL_neg, iL_le, iL_lt, iL_eq, iL_ite, vp_T, b2_ne0, b2_eq1, nn_imp, true_and, iI_ite, not_true_eq_false, not_false_eq_true, true_implies, false_implies, and_true, Int.reduceLT, Int.reduceLE, Int.reduceEq, or_false, false_or, true_or, or_true, false_and, and_false]
      refine W1 s hs (fun s2 σ2 m hf2 hc2 hs2 hst hm => ?_) _ 0 s σ1 0 rfl (by omega) (by omega) hf hc hs (fun _ _ _ => Int.le_refl _) (fun w' a b => by omega) (Or.inl ⟨rfl, rfl⟩)
      rcases hm with ⟨e, e2⟩ | ⟨e, e2⟩
      · subst e; subst e2; exact E0 s2 σ2 hf2 hc2 hs2 (Sg_fix hW hs2 hst)
      · subst e; exact ih (k + 1) s2 σ2 (by omega) (by omega) (by omega) hf2 hc2 hs2 (Cmp_step hst hW hC)
  -- the row is made empty
  have A : ∀ (n : Nat) (k : Int) (σ1 : St), (20 - k).toNat = n → 0 ≤ k → k ≤ 20 → Fr (fun k _ => k = 53) σ σ1 → (∀ h, 0 ≤ h ∧ h < k → σ1.1 53 h.toNat = iI 1000000) → v 2 [some (aR 49), some (aI (iI k)), none, none] [] σ1 := by
    intro n
    induction n with
    | zero =>
      intro k σ1 hd k0 k1 hf hc
      refine w_X9_signals_2 hS hv hw _ σ1 ?_
      unfold vc_X9_signals_2
      try simp (disch := omega) only [iI_lit, iL_lit, iI_add, iI_sub, iI_mul, iI_neg, iI_lt, iI_le, iI_eq, iI_tn, iI_div, iI_l, iL_add, iL_sub, iL_mul, iL_neg, iL_le, iL_lt, iL_eq, iL_ite, vp_T, b2_ne0, b2_eq1, nn_imp, true_and, iI_ite, not_true_eq_false, not_false_eq_true, true_implies, false_implies, and_true, Int.reduceLT, Int.reduceLE, Int.reduceEq, or_false, false_or, true_or, or_true, false_and, and_false]
      refine ⟨fun _ => R _ 0 (fun _ => 1000000) σ1 rfl (by omega) (by omega) hf (fun h hh => hc h (by omega)) Snd_far Cmp_0, fun c => by omega⟩
    | succ n ih =>
      intro k σ1 hd k0 k1 hf hc
      refine w_X9_signals_2 hS hv hw _ σ1 ?_
      unfold vc_X9_signals_2
      try simp (disch := omega) only [iI_lit, iL_lit, iI_add, iI_sub, iI_mul, iI_neg, iI_lt, iI_le, iI_eq, iI_tn, iI_div, iI_l, iL_add, iL_sub, iL_mul, iL_neg, iL_le, iL_lt, iL_eq, iL_ite, vp_T, b2_ne0, b2_eq1, nn_imp, true_and, iI_ite, not_true_eq_false, not_false_eq_true, true_implies, false_implies, and_true, Int.reduceLT, Int.reduceLE, Int.reduceEq, or_false, false_or, true_or, or_true, false_and, and_false]
      refine ⟨fun c => by omega, fun _ σ2 e2 => ih (k + 1) σ2 (by omega) (by omega) (by omega) (by rw [e2]; exact Fr_up hf rfl) (fun h hh => ?_)⟩
      rw [e2]
      by_cases q : h = k
      · subst q; exact up_h rfl
      · rw [up_m (by omega)]; exact hc h (by omega)
  rw [iI_lit]
  exact A _ 0 σ rfl (by omega) (by omega) Fr_rf (fun h hh => by omega)
theorem c_J7_fillI (hS : Sys S) {a : Nat} (h_a : isArr 1 a 20) {x : Int32} (hk : ∀ σ', Fr (fun k _ => k = a) σ σ' → (∀ h : Int, 0 ≤ h ∧ h < 20 → σ'.1 a h.toNat = x) → Φ [] σ') : S 241 [aR a, aI x] σ Φ := by
  refine m_J7_fill_53178 hS h_a (fun v hv hw => ?_)
  unfold vc_J7_fill_53178_0
  have A : ∀ (n : Nat) (k : Int) (σ1 : St), (20 - k).toNat = n → 0 ≤ k → k ≤ 20 → Fr (fun k _ => k = a) σ σ1 → (∀ h, 0 ≤ h ∧ h < k → σ1.1 a h.toNat = x) → v 5 [some (aR a), some (aI x), some (aI (iI k)), some (aI (iI 20))] [] σ1 := by
    intro n
    induction n with
    | zero =>
      intro k σ1 hd k0 k1 hf hc
      refine w_J7_fill_53178_5 hS hv hw a h_a _ _ _ σ1 ?_
      unfold vc_J7_fill_53178_5
      try simp (disch := omega) only [iI_lit, iL_lit, iI_add, iI_sub, iI_mul, iI_neg, iI_lt, iI_le, iI_eq, iI_tn, iI_div, iI_l, iL_add, iL_sub, iL_mul, iL_neg, iL_le, iL_lt, iL_eq, iL_ite, vp_T, b2_ne0, b2_eq1, nn_imp, true_and, iI_ite, not_true_eq_false, not_false_eq_true, true_implies, false_implies, and_true, Int.reduceLT, Int.reduceLE, Int.reduceEq, or_false, false_or, true_or, or_true, false_and, and_false]
      refine ⟨fun _ => hk σ1 hf (fun h hh => hc h (by omega)), fun c => by omega⟩
    | succ n ih =>
      intro k σ1 hd k0 k1 hf hc
      refine w_J7_fill_53178_5 hS hv hw a h_a _ _ _ σ1 ?_
      unfold vc_J7_fill_53178_5
      try simp (disch := omega) only [iI_lit, iL_lit, iI_add, iI_sub, iI_mul, iI_neg, iI_lt, iI_le, iI_eq, iI_tn, iI_div, iI_l, iL_add, iL_sub, iL_mul, iL_neg, iL_le, iL_lt, iL_eq, iL_ite, vp_T, b2_ne0, b2_eq1, nn_imp, true_and, iI_ite, not_true_eq_false, not_false_eq_true, true_implies, false_implies, and_true, Int.reduceLT, Int.reduceLE, Int.reduceEq, or_false, false_or, true_or, or_true, false_and, and_false]
      refine ⟨fun c => by omega, fun _ σ2 e2 => ih (k + 1) σ2 (by omega) (by omega) (by omega) (by rw [e2]; exact Fr_up hf rfl) (fun h hh => ?_)⟩
      rw [e2]
      by_cases q : h = k
      · subst q; exact up_h rfl
      · rw [up_m (by omega)]; exact hc h (by omega)
  have := A _ 0 σ rfl (by omega) (by omega) Fr_rf (fun h hh => by omega)
  rw [iI_lit, ofNat_iI]
  exact this
theorem c_X0_endOf (hS : Sys S) (h_b : isBl b) (hC : CP 1 P σ) (hW : WF P) (hD : σ.1 b 6 = bm D (P 280)) (hs : ∀ h, 0 ≤ h ∧ h < 20 → σ.1 (b + 1) h.toNat = iI (rp (s h))) (hr : ∀ h, 0 ≤ h → h < 20 → s h = 1000000 ∨ (0 ≤ s h ∧ s h ≤ 10000)) {w : Int} (h0 : 0 ≤ w) (h1 : w < P 281) (hk : Φ [aI (iI (rp (en P D s w)))] σ) : S 3 [aR b, aI (iI w)] σ Φ := by
  refine m_X0_endOf hS h_b (fun v hv hw => ?_)
  have g0 := WF_0 hW
  have r := WF_w hW h0 h1
  unfold vc_X0_endOf_0
  unfold en at hk
  have m0 : σ.1 3 (w * 3 + 0).toNat = iI (P (160 + 3 * w)) := by rw [CP_v hC (by omega), Int.add_zero]
  have m2 : σ.1 3 (w * 3 + 2).toNat = iI (P (160 + 3 * w + 2)) := CP_v hC (by omega)
  by_cases c : P (160 + 3 * w) = -1
  · rw [if_pos c, rp_n (by omega)] at hk
    try simp (disch := omega) only [iI_lit, iL_lit, iI_add, iI_sub, iI_mul, iI_neg, iI_lt, iI_le, iI_eq, iI_tn, iI_div, iI_l, iL_add, iL_sub, iL_mul, iL_neg, iL_le, iL_lt, iL_eq, iL_ite, vp_T, b2_ne0, b2_eq1, nn_imp, true_and, iI_ite, not_true_eq_false, not_false_eq_true, true_implies, false_implies, and_true, Int.reduceLT, Int.reduceLE, Int.reduceEq, or_false, false_or, true_or, or_true, false_and, and_false, m0, m2]
    exact ⟨fun a => absurd c a, fun _ => hk⟩
  · rw [if_neg c] at hk
    have q := hr (P (160 + 3 * w)) (by omega) (by omega)
    have qp : -1 ≤ rp (s (P (160 + 3 * w))) ∧ rp (s (P (160 + 3 * w))) ≤ 10000 ∧ (rp (s (P (160 + 3 * w))) = -1 ↔ s (P (160 + 3 * w)) = 1000000) := by
      unfold rp; split <;> omega
    have rk : ¬ s (P (160 + 3 * w)) = 1000000 → rp (s (P (160 + 3 * w))) = s (P (160 + 3 * w)) := rp_n
    try simp (disch := omega) only [iI_lit, iL_lit, iI_add, iI_sub, iI_mul, iI_neg, iI_lt, iI_le, iI_eq, iI_tn, iI_div, iI_l, iL_add, iL_sub, iL_mul, iL_neg, iL_le, iL_lt, iL_eq, iL_ite, vp_T, b2_ne0, b2_eq1, nn_imp, true_and, iI_ite, not_true_eq_false, not_false_eq_true, true_implies, false_implies, and_true, Int.reduceLT, Int.reduceLE, Int.reduceEq, or_false, false_or, true_or, or_true, false_and, and_false, CP_n hC, m0, m2, hs, hD, bs_0, bs_1, bs_bm, Bool.and_eq_true, decide_eq_true_eq, Bool.not_eq_false, Bool.not_eq_true]
    refine ⟨fun _ => ⟨fun z => by omega, fun _ => ⟨fun a => ?_, fun a => ⟨fun e => ?_, fun e => ?_⟩⟩⟩, fun a => absurd a c⟩
    · rw [if_pos (Or.inr a.2.2.2), rp_y rfl] at hk; exact hk
    · have e2 : ¬ s (P (160 + 3 * w)) = 1000000 := fun z => e (qp.2.2.mpr z)
      have a2 : ¬ D (P (160 + 3 * w)) = true := fun z => a ⟨by omega, by omega, by omega, z⟩
      rw [if_neg (fun z => z.elim e2 a2), rp_n (by omega)] at hk
      rw [rk e2]; exact hk
    · rw [if_pos (Or.inl (qp.2.2.mp e)), rp_y rfl] at hk; exact hk
theorem c_X0_findSignals (hS : Sys S) (h_b : isBl b) (hC : CP 1 P σ) (hW : WF P) (hD : σ.1 b 6 = bm D (P 280)) (hg : -1 ≤ g ∧ g < 40) (hk : ∀ σ', Fr (fun k _ => k = b + 1) σ σ' → (∀ h, 0 ≤ h ∧ h < 20 → σ'.1 (b + 1) h.toNat = iI (rp (sgA P D g h))) → Sg P D g (sg P D g) → Φ [] σ') : S 2 [aR b, aI (iI g)] σ Φ := by
  refine m_X0_findSignals hS h_b (fun v hv hw => ?_)
  have g0 := WF_0 hW
  have hb : 13 ≤ b ∧ b < 27 := h_b.2.2.2.2.1
  unfold vc_X0_findSignals_0
  refine c_J7_fillI hS ⟨isBl_t1 h_b, isBl_l1 h_b, isBl_lt1 h_b⟩ (fun σ0 f0 c0 => ⟨rfl, ?_⟩)
  -- the end
  have E0 : ∀ (s : Int → Int) (σ1 : St), Fr (fun k _ => k = b + 1) σ σ1 → (∀ h, 0 ≤ h ∧ h < 20 → σ1.1 (b + 1) h.toNat = iI (rp (s h))) → Snd P D g s → Sg P D g s → Φ [] σ1 := by
    intro s σ1 hf hc hs hG
    exact hk σ1 hf (fun h hh => by rw [hc h hh, sgA_of hW hs hG hh.1 hh.2]) (sg_Sg hW hG)
  -- a round
  have W1 : ∀ (s0 : Int → Int) (k : Int), Snd P D g s0 → (∀ (s : Int → Int) (σ2 : St) (m : Int), Fr (fun k _ => k = b + 1) σ σ2 → (∀ h, 0 ≤ h ∧ h < 20 → σ2.1 (b + 1) h.toNat = iI (rp (s h))) → Snd P D g s → (∀ w, 0 ≤ w → w < P 281 → ¬ w = g → s (P (160 + 3 * w + 1)) ≤ en P D s0 w) → ((m = 0 ∧ s = s0) ∨ m = 1) → v 12 [some (aR b), some (aI (iI g)), some (aI (iI m)), some (aI (iI (k + 1))), none, none, none] [] σ2) →
      ∀ (d : Nat) (w : Int) (s : Int → Int) (σ1 : St) (m : Int), (P 281 - w).toNat = d → 0 ≤ w → w ≤ P 281 → Fr (fun k _ => k = b + 1) σ σ1 → (∀ h, 0 ≤ h ∧ h < 20 → σ1.1 (b + 1) h.toNat = iI (rp (s h))) → Snd P D g s → (∀ h, 0 ≤ h → h < 20 → s h ≤ s0 h) → (∀ w', 0 ≤ w' → w' < w → ¬ w' = g → s (P (160 + 3 * w' + 1)) ≤ en P D s0 w') → ((m = 0 ∧ s = s0) ∨ m = 1) → v 32 [some (aR b), some (aI (iI g)), some (aI (iI m)), some (aI (iI k)), some (aI (iI w)), none, none] [] σ1 := by
    intro s0 k hs0 hE d
    induction d with
    | zero =>
      intro w s σ1 m hd w0 w1 hf hc hs hle hst hm
      refine w_X0_findSignals_32 hS hv hw b h_b _ _ _ _ σ1 ?_
      unfold vc_X0_findSignals_32
      have cp := CP_f hC hf (fun k j h1 h2 => by omega)
      try simp (disch := omega) only [iI_lit, iL_lit, iI_add, iI_sub, iI_mul, iI_neg, iI_lt, iI_le, iI_eq, iI_tn, iI_div, iI_l, iL_add, iL_sub, iL_mul, iL_neg, iL_le, iL_lt, iL_eq, iL_ite, vp_T, b2_ne0, b2_eq1, nn_imp, true_and, iI_ite, not_true_eq_false, not_false_eq_true, true_implies, false_implies, and_true, Int.reduceLT, Int.reduceLE, Int.reduceEq, or_false, false_or, true_or, or_true, false_and, and_false, CP_w cp]
      refine ⟨fun _ => hE s σ1 m hf hc hs (fun w' a b => hst w' a (by omega)) hm, fun c => by omega⟩
    | succ d ih =>
      intro w s σ1 m hd w0 w1 hf hc hs hle hst hm
      refine w_X0_findSignals_32 hS hv hw b h_b _ _ _ _ σ1 ?_
      unfold vc_X0_findSignals_32
      have cp := CP_f hC hf (fun k j h1 h2 => by omega)
      have r := WF_w hW w0 (by omega)
      have rt := Snd_r hs (h := P (160 + 3 * w + 1)) (by omega) (by omega)
      have rt' : -1 ≤ rp (s (P (160 + 3 * w + 1))) ∧ rp (s (P (160 + 3 * w + 1))) ≤ 10000 ∧ (rp (s (P (160 + 3 * w + 1))) = -1 ↔ s (P (160 + 3 * w + 1)) = 1000000) ∧ (¬ s (P (160 + 3 * w + 1)) = 1000000 → rp (s (P (160 + 3 * w + 1))) = s (P (160 + 3 * w + 1))) := by
        unfold rp; split <;> omega
      have re := en_r hW hs w0 (by omega : w < P 281)
      have re' : -1 ≤ rp (en P D s w) ∧ rp (en P D s w) ≤ 10500 ∧ (rp (en P D s w) = -1 ↔ en P D s w = 1000000) ∧ (¬ en P D s w = 1000000 → rp (en P D s w) = en P D s w) := by
        unfold rp; split <;> omega
      have m1 : σ1.1 3 (w * 3 + 1).toNat = iI (P (160 + 3 * w + 1)) := CP_v cp (by omega)
      have hen := en_mono hW hs hs0 hle w0 (by omega : w < P 281)
      -- nothing better
      have N : (w = g ∨ s (P (160 + 3 * w + 1)) ≤ en P D s w) → v 32 [some (aR b), some (aI (iI g)), some (aI (iI m)), some (aI (iI k)), some (aI (iI (w + 1))), none, none] [] σ1 := by
        intro c
        refine ih (w + 1) s σ1 m (by omega) (by omega) (by omega) hf hc hs hle (fun w' a b e => ?_) hm
        by_cases q : w' < w
        · exact hst w' a q e
        · have q : w' = w := by omega
          subst q
          rcases c with c | c
          · exact absurd c e
          · omega
      have Y : ¬ w = g → en P D s w < s (P (160 + 3 * w + 1)) → vc_X0_findSignals_115 S Φ v b (iI g) (iI m) (iI k) (iI w) (iI (P (160 + 3 * w + 1))) (iI (rp (en P D s w))) σ1 := by
        intro c1 c2
        unfold vc_X0_findSignals_115
        try simp (disch := omega) only [iI_lit, iL_lit, iI_add, iI_sub, iI_mul, iI_neg, iI_lt, iI_le, iI_eq, iI_tn, iI_div, iI_l, iL_add, iL_sub, iL_mul, iL_neg, iL_le, iL_lt, iL_eq, iL_ite, vp_T, b2_ne0, b2_eq1, nn_imp, true_and, iI_ite, not_true_eq_false, not_false_eq_true, true_implies, false_implies, and_true, Int.reduceLT, Int.reduceLE, Int.reduceEq, or_false, false_or, true_or, or_true, false_and, and_false]
        intro σ3 e3
        refine ih (w + 1) (pu s (P (160 + 3 * w + 1)) (en P D s w)) σ3 1 (by omega) (by omega) (by omega) (by rw [e3]; exact Fr_up hf rfl) (fun h hh => ?_) (Snd_up hW hs w0 (by omega) c1 c2) (fun h a b => ?_) (fun w' a b e => ?_) (Or.inr rfl)
        · rw [e3]
          by_cases q : h = P (160 + 3 * w + 1)
          · subst q; rw [up_h rfl, pu_e rfl]
          · rw [up_m (by omega), pu_n q]; exact hc h hh
        · by_cases q : h = P (160 + 3 * w + 1)
          · subst q; rw [pu_e rfl]; have := hle _ a b; omega
          · rw [pu_n q]; exact hle h a b
        · by_cases q : P (160 + 3 * w' + 1) = P (160 + 3 * w + 1)
          · rw [pu_e q]
            by_cases q2 : w' < w
            · have := hst w' a q2 e
              rw [q] at this
              omega
            · rw [show w' = w by omega]; exact hen
          · rw [pu_n q]
            by_cases q2 : w' < w
            · exact hst w' a q2 e
            · exact absurd (by rw [show w' = w by omega]) q
      try simp (disch := omega) only [iI_lit, iL_lit, iI_add, iI_sub, iI_mul, iI_neg, iI_lt, iI_le, iI_eq, iI_tn, iI_div, iI_l, iL_add, iL_sub, iL_mul, iL_neg, iL_le, iL_lt, iL_eq, iL_ite, vp_T, b2_ne0, b2_eq1, nn_imp, true_and, iI_ite, not_true_eq_false, not_false_eq_true, true_implies, false_implies, and_true, Int.reduceLT, Int.reduceLE, Int.reduceEq, or_false, false_or, true_or, or_true, false_and, and_false, CP_w cp, m1]
      refine ⟨fun c => by omega, fun _ => ⟨fun c => ?_, fun c => ?_⟩⟩
      · refine c_X0_endOf hS h_b cp hW (by rw [hf.1 b 6 (by omega)]; exact hD) hc (fun h a b => Snd_r hs a b) w0 (by omega) ⟨_, rfl, ?_⟩
        unfold vc_X0_findSignals_72
        try simp (disch := omega) only [iI_lit, iL_lit, iI_add, iI_sub, iI_mul, iI_neg, iI_lt, iI_le, iI_eq, iI_tn, iI_div, iI_l, iL_add, iL_sub, iL_mul, iL_neg, iL_le, iL_lt, iL_eq, iL_ite, vp_T, b2_ne0, b2_eq1, nn_imp, true_and, iI_ite, not_true_eq_false, not_false_eq_true, true_implies, false_implies, and_true, Int.reduceLT, Int.reduceLE, Int.reduceEq, or_false, false_or, true_or, or_true, false_and, and_false, CP_n cp, hc]
        refine ⟨fun a => N (Or.inr (by omega)), fun a => ⟨fun z => by omega, fun _ => ⟨fun e => Y c (by omega), fun e => ⟨fun f => N (Or.inr (by omega)), fun f => Y c (by omega)⟩⟩⟩⟩
      · unfold vc_X0_findSignals_72
        try simp (disch := omega) only [iI_lit, iL_lit, iI_add, iI_sub, iI_mul, iI_neg, iI_lt, iI_le, iI_eq, iI_tn, iI_div, iI_l, iL_add, iL_sub, iL_mul, iL_neg, iL_le, iL_lt, iL_eq, iL_ite, vp_T, b2_ne0, b2_eq1, nn_imp, true_and, iI_ite, not_true_eq_false, not_false_eq_true, true_implies, false_implies, and_true, Int.reduceLT, Int.reduceLE, Int.reduceEq, or_false, false_or, true_or, or_true, false_and, and_false, CP_n cp, hc]
        exact N (Or.inl c)
  -- all rounds
  have R : ∀ (n : Nat) (k : Int) (s : Int → Int) (σ1 : St), (P 280 - k).toNat = n → 0 ≤ k → k ≤ P 280 → Fr (fun k _ => k = b + 1) σ σ1 → (∀ h, 0 ≤ h ∧ h < 20 → σ1.1 (b + 1) h.toNat = iI (rp (s h))) → Snd P D g s → Cmp P D g k s → v 12 [some (aR b), some (aI (iI g)), some (aI (iI 1)), some (aI (iI k)), none, none, none] [] σ1 := by
    intro n
    induction n with
    | zero =>
      intro k s σ1 hd k0 k1 hf hc hs hC2
      refine w_X0_findSignals_12 hS hv hw b h_b _ _ _ σ1 ?_
      unfold vc_X0_findSignals_12
      have cp := CP_f hC hf (fun k j h1 h2 => by omega)
      rw [show k = P 280 by omega] at hC2
      try simp (disch := omega) only [iI_lit, iL_lit, iI_add, iI_sub, iI_mul, iI_neg, iI_lt, iI_le, iI_eq, iI_tn, iI_div, iI_l, iL_add, iL_sub, iL_mul, iL_neg, iL_le, iL_lt, iL_eq, iL_ite, vp_T, b2_ne0, b2_eq1, nn_imp, true_and, iI_ite, not_true_eq_false, not_false_eq_true, true_implies, false_implies, and_true, Int.reduceLT, Int.reduceLE, Int.reduceEq, or_false, false_or, true_or, or_true, false_and, and_false, CP_n cp]
      exact ⟨fun _ => E0 s σ1 hf hc hs (Sg_cmp hW hs hC2), fun c => by omega⟩
    | succ n ih =>
      intro k s σ1 hd k0 k1 hf hc hs hC2
      refine w_X0_findSignals_12 hS hv hw b h_b _ _ _ σ1 ?_
      unfold vc_X0_findSignals_12
      have cp := CP_f hC hf (fun k j h1 h2 => by omega)
      try simp (disch := omega) only [iI_lit, iL_lit, iI_add, iI_sub, iI_mul, iI_neg, iI_lt, iI_le, iI_eq, iI_tn, iI_div, iI_l, iL_add, iL_sub, iL_mul, iL_neg, iL_le, iL_lt, iL_eq, iL_ite, vp_T, b2_ne0, b2_eq1, nn_imp, true_and, iI_ite, not_true_eq_false, not_false_eq_true, true_implies, false_implies, and_true, Int.reduceLT, Int.reduceLE, Int.reduceEq, or_false, false_or, true_or, or_true, false_and, and_false, CP_n cp]
      refine ⟨fun c => by omega, fun _ => ?_⟩
      refine W1 s k hs (fun s2 σ2 m hf2 hc2 hs2 hst hm => ?_) _ 0 s σ1 0 rfl (by omega) (by omega) hf hc hs (fun _ _ _ => Int.le_refl _) (fun w' a b => by omega) (Or.inl ⟨rfl, rfl⟩)
      rcases hm with ⟨e, e2⟩ | e
      · subst e; subst e2
        refine w_X0_findSignals_12 hS hv hw b h_b _ _ _ σ2 ?_
        unfold vc_X0_findSignals_12
        have cp2 := CP_f hC hf2 (fun k j h1 h2 => by omega)
        try simp (disch := omega) only [iI_lit, iL_lit, iI_add, iI_sub, iI_mul, iI_neg, iI_lt, iI_le, iI_eq, iI_tn, iI_div, iI_l, iL_add, iL_sub, iL_mul, iL_neg, iL_le, iL_lt, iL_eq, iL_ite, vp_T, b2_ne0, b2_eq1, nn_imp, true_and, iI_ite, not_true_eq_false, not_false_eq_true, true_implies, false_implies, and_true, Int.reduceLT, Int.reduceLE, Int.reduceEq, or_false, false_or, true_or, or_true, false_and, and_false, CP_n cp2]
        exact ⟨fun _ => E0 s2 σ2 hf2 hc2 hs2 (Sg_fix hW hs2 hst), fun _ => E0 s2 σ2 hf2 hc2 hs2 (Sg_fix hW hs2 hst)⟩
      · subst e; exact ih (k + 1) s2 σ2 (by omega) (by omega) (by omega) hf2 hc2 hs2 (Cmp_step hst hW hC2)
  have := R _ 0 (fun _ => 1000000) σ0 rfl (by omega) (by omega) f0 (fun h hh => by rw [c0 h hh, iI_lit, iI_neg]; rfl) Snd_far Cmp_0
  rw [iI_lit, iI_lit]
  exact this
end C19
