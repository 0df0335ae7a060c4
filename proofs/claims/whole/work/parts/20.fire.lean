/-! who fires, when, who is buried -/
noncomputable def fr (P : Pl) (D : Int → Bool) (g h : Int) : Bool := decide (sg P D g h < 1000000 ∧ ¬ D h = true ∧ ¬ P (8 * h + 2) = 5)
noncomputable def tm (P : Pl) (D : Int → Bool) (g h : Int) : Int := sg P D g h + P (8 * h + 5)
/-- relief by those of F, at their times, for a time t -/
def rlv (P : Pl) (F : Int → Bool) (T : Int → Int) (t h : Int) : Prop := P (8 * h) = 0 ∨ ((∃ k, 0 ≤ k ∧ k < P 280 ∧ ahd P h k = true) ∧ ∀ k, 0 ≤ k → k < P 280 → ahd P h k = true → F k = true ∧ T k ≤ t - nd P h)
noncomputable def bur (P : Pl) (D : Int → Bool) (g h : Int) : Bool := fr P D g h && !dec (rlv P (fr P D g) (tm P D g) (tm P D g h) h)
theorem fr_i {P : Pl} {D : Int → Bool} {g h : Int} : fr P D g h = true ↔ (sg P D g h < 1000000 ∧ ¬ D h = true ∧ ¬ P (8 * h + 2) = 5) := by unfold fr; exact decide_eq_true_iff
theorem tm_r {P : Pl} {D : Int → Bool} {g h : Int} (hW : WF P) (hG : Sg P D g (sg P D g)) (h0 : 0 ≤ h) (h1 : h < P 280) (hf : fr P D g h = true) : 0 ≤ tm P D g h ∧ tm P D g h ≤ 10999 := by
  have q := fr_i.mp hf
  have r := WF_h hW h0 h1
  unfold tm
  rcases Sg_lt hW hG h0 h1 with ⟨e, _⟩ | ⟨_, e1, e2⟩ <;> omega
theorem sgA_n {P : Pl} {D : Int → Bool} {g h : Int} (h1 : h < P 280) : sgA P D g h = sg P D g h := if_pos h1
theorem sg_r {P : Pl} {D : Int → Bool} {g h : Int} (hW : WF P) (hG : Sg P D g (sg P D g)) (h0 : 0 ≤ h) (h1 : h < P 280) : sg P D g h = 1000000 ∨ (0 ≤ sg P D g h ∧ sg P D g h ≤ 10000) := by
  rcases Sg_lt hW hG h0 h1 with ⟨e, _⟩ | ⟨_, e1, e2⟩
  · exact Or.inl e
  · exact Or.inr ⟨e1, e2⟩
theorem kfl_0 {k c : Int} (hk : 0 ≤ k ∧ k ≤ 5) (h : 1 ≤ c ∧ c ≤ 99) : kfl k c ≤ 0 ↔ k = 5 := by
  unfold kfl; (repeat' split) <;> omega
def FM : Nat → Nat → Prop := fun k j => k = 53 ∨ k = 54 ∨ (k = 49 ∧ (j = 7 ∨ j = 8))
def FB (b : Nat) : Nat → Nat → Prop := fun k j => k = b + 1 ∨ k = b + 2 ∨ (k = b ∧ (j = 4 ∨ j = 5 ∨ j = 6))
/-- the reference's row after fires() -/
def FS (P : Pl) (D : Int → Bool) (g : Int) (σ : St) : Prop := (∀ h, 0 ≤ h ∧ h < 20 → σ.1 53 h.toNat = iI (sgA P D g h)) ∧ (∀ h, 0 ≤ h → h < P 280 → fr P D g h = true → σ.1 54 h.toNat = iI (tm P D g h)) ∧ σ.1 49 7 = bm (fr P D g) (P 280) ∧ σ.1 49 8 = bm (bur P D g) (P 280) ∧ Sg P D g (sg P D g)
/-- the class's blast after reckon() -/
def BS (b : Nat) (P : Pl) (D : Int → Bool) (g : Int) (σ : St) : Prop := (∀ h, 0 ≤ h ∧ h < 20 → σ.1 (b + 1) h.toNat = iI (rp (sgA P D g h))) ∧ (∀ h, 0 ≤ h → h < P 280 → σ.1 (b + 2) h.toNat = iI (if fr P D g h = true then tm P D g h else -1)) ∧ (σ.1 b 4 = bm (fr P D g) (P 280) ∧ σ.1 b 5 = bm (bur P D g) (P 280) ∧ σ.1 b 6 = bm D (P 280)) ∧ Sg P D g (sg P D g)
def rQ (P : Pl) (F : Int → Bool) (T : Int → Int) (t h k : Int) : Prop := (∃ k, 0 ≤ k ∧ k < P 280 ∧ ahd P h k = true) ∧ ∀ j, 0 ≤ j → j < k → ahd P h j = true → F j = true ∧ T j ≤ t - nd P h
section C20
variable {S : Sp} {σ : St} {Φ : Rs} {P : Pl} {D : Int → Bool} {g : Int} {b : Nat} {F : Int → Bool} {T : Int → Int}
theorem c_X9_isRelieved (hS : Sys S) (hM : MP 50 P σ) (hW : WF P) (hT : ∀ k, 0 ≤ k → k < P 280 → F k = true → σ.1 54 k.toNat = iI (T k) ∧ 0 ≤ T k ∧ T k ≤ 20000) {h t : Int} (h0 : 0 ≤ h) (h1 : h < P 280) (ht : σ.1 54 h.toNat = iI t) (hr : 0 ≤ t ∧ t ≤ 20000) (hk : Φ [aI (b2 (dec (rlv P F T t h) = true))] σ) : S 174 [aR 49, aI (iI h), aI (bm F (P 280))] σ Φ := by
  have hY : rlv P F T t h → Φ [aI (iI 1)] σ := fun q => by rw [b2_t (dec_t.mpr q), iI_lit] at hk; exact hk
  have hN : ¬ rlv P F T t h → Φ [aI (iI 0)] σ := fun q => by rw [b2_f (fun z => q (dec_t.mp z)), iI_lit] at hk; exact hk
  refine m_X9_isRelieved hS (fun v hv hw => ?_)
  have g0 := WF_0 hW
  have gh := WF_h hW h0 h1
  have gn := nd_r hW h0 h1
  unfold vc_X9_isRelieved_0
  have m0 : σ.1 50 (8 * h + 0).toNat = iI (P (8 * h)) := by rw [hM _ (by omega), Int.add_zero]
  try simp (disch := omega) only [iI_lit, iL_lit, iI_add, iI_sub, iI_mul, iI_neg, iI_lt, iI_le, iI_eq, iI_tn, iI_div, iI_l, iL_add, iL_sub, iL_mul, iL_neg, iL_le, iL_lt, iL_eq, iL_ite, vp_T, b2_ne0, b2_eq1, nn_imp, true_and, iI_ite, not_true_eq_false, not_false_eq_true, true_implies, false_implies, and_true, Int.reduceLT, Int.reduceLE, Int.reduceEq, or_false, false_or, true_or, or_true, false_and, and_false, m0]
  refine ⟨fun a => ?_, fun a => ?_⟩
  · refine c_X9_aheadOf hS hM hW h0 h1 ⟨_, rfl, ?_⟩
    have L : ∀ (d : Nat) (k m : Int), (P 280 - k).toNat = d → 0 ≤ k → k ≤ P 280 → ((m = 1 ∧ rQ P F T t h k) ∨ (m = 0 ∧ ¬ rQ P F T t h k)) → v 31 [some (aR 49), some (aI (iI h)), some (aI (bm F (P 280))), some (aI (bm (ahd P h) (P 280))), some (aI (iI m)), some (aI (iI k))] [] σ := by
      intro d
      induction d with
      | zero =>
        intro k m hd k0 k1 hm
        refine w_X9_isRelieved_31 hS hv hw _ _ _ _ _ σ ?_
        unfold vc_X9_isRelieved_31
        try simp (disch := omega) only [iI_lit, iL_lit, iI_add, iI_sub, iI_mul, iI_neg, iI_lt, iI_le, iI_eq, iI_tn, iI_div, iI_l, iL_add, iL_sub, iL_mul, iL_neg, iL_le, iL_lt, iL_eq, iL_ite, vp_T, b2_ne0, b2_eq1, nn_imp, true_and, iI_ite, not_true_eq_false, not_false_eq_true, true_implies, false_implies, and_true, Int.reduceLT, Int.reduceLE, Int.reduceEq, or_false, false_or, true_or, or_true, false_and, and_false, hM _]
        rw [show k = P 280 by omega] at hm
        refine ⟨fun _ => ⟨by rcases hm with ⟨e, _⟩ | ⟨e, _⟩ <;> omega, ?_⟩, fun c => by omega⟩
        rcases hm with ⟨e, q⟩ | ⟨e, q⟩
        · subst e; exact hY (Or.inr ⟨q.1, fun k a b c => q.2 k a b c⟩)
        · subst e; exact hN (fun z => z.elim a (fun z => q ⟨z.1, fun k a b c => z.2 k a b c⟩))
      | succ d ih =>
        intro k m hd k0 k1 hm
        refine w_X9_isRelieved_31 hS hv hw _ _ _ _ _ σ ?_
        unfold vc_X9_isRelieved_31
        have N : ¬ rQ P F T t h (k + 1) → v 31 [some (aR 49), some (aI (iI h)), some (aI (bm F (P 280))), some (aI (bm (ahd P h) (P 280))), some (aI (iI 0)), some (aI (iI (k + 1)))] [] σ := fun q => ih (k + 1) 0 (by omega) (by omega) (by omega) (Or.inr ⟨rfl, q⟩)
        have Y : (m = 1 ∧ rQ P F T t h k) → (ahd P h k = true → F k = true ∧ T k ≤ t - nd P h) → v 31 [some (aR 49), some (aI (iI h)), some (aI (bm F (P 280))), some (aI (bm (ahd P h) (P 280))), some (aI (iI 1)), some (aI (iI (k + 1)))] [] σ := fun q q2 => ih (k + 1) 1 (by omega) (by omega) (by omega) (Or.inl ⟨rfl, q.2.1, fun j a b c => by
          by_cases e : j < k
          · exact q.2.2 j a e c
          · have e : j = k := by omega
            subst e; exact q2 c⟩)
        have hm2 : 0 ≤ m ∧ m ≤ 1 := by rcases hm with ⟨e, _⟩ | ⟨e, _⟩ <;> omega
        try simp (disch := omega) only [iI_lit, iL_lit, iI_add, iI_sub, iI_mul, iI_neg, iI_lt, iI_le, iI_eq, iI_tn, iI_div, iI_l, iL_add, iL_sub, iL_mul, iL_neg, iL_le, iL_lt, iL_eq, iL_ite, vp_T, b2_ne0, b2_eq1, nn_imp, true_and, iI_ite, not_true_eq_false, not_false_eq_true, true_implies, false_implies, and_true, Int.reduceLT, Int.reduceLE, Int.reduceEq, or_false, false_or, true_or, or_true, false_and, and_false, hM _, bs_0, bs_1, bs_bm, Bool.and_eq_true, decide_eq_true_eq, Bool.not_eq_false, Bool.not_eq_true]
        refine ⟨fun c => by omega, fun _ => ⟨fun c => N ?_, fun c => ⟨fun c1 => ?_, fun c1 => ⟨fun c2 => N ?_, fun c2 => ?_⟩⟩⟩⟩
        · rcases hm with ⟨e, q⟩ | ⟨e, q⟩
          · omega
          · exact fun z => q ⟨z.1, fun j a b c => z.2 j a (by omega) c⟩
        · rcases hm with q | ⟨e, q⟩
          · exact Y q (fun z => absurd ⟨by omega, z⟩ c1)
          · exact absurd e c
        · exact fun z => c2 ⟨by omega, (z.2 k k0 (by omega) c1.2).1⟩
        · obtain ⟨q1, q2, q3⟩ := hT k k0 (by omega) c2.2
          refine c_X9_needsOf hS hM hW h0 h1 ⟨_, rfl, ?_⟩
          try simp (disch := omega) only [iI_lit, iL_lit, iI_add, iI_sub, iI_mul, iI_neg, iI_lt, iI_le, iI_eq, iI_tn, iI_div, iI_l, iL_add, iL_sub, iL_mul, iL_neg, iL_le, iL_lt, iL_eq, iL_ite, vp_T, b2_ne0, b2_eq1, nn_imp, true_and, iI_ite, not_true_eq_false, not_false_eq_true, true_implies, false_implies, and_true, Int.reduceLT, Int.reduceLE, Int.reduceEq, or_false, false_or, true_or, or_true, false_and, and_false, ht, q1]
          refine ⟨fun c3 => N ?_, fun c3 => ?_⟩
          · exact fun z => by have := (z.2 k k0 (by omega) c1.2).2; omega
          · rcases hm with q | ⟨e, q⟩
            · exact Y q (fun _ => ⟨c2.2, by omega⟩)
            · exact absurd e c
    unfold vc_X9_isRelieved_26
    have hz := bm_eq0 (p := ahd P h) (n := P 280) (by omega)
    try simp (disch := omega) only [iI_lit, iL_lit, iI_add, iI_sub, iI_mul, iI_neg, iI_lt, iI_le, iI_eq, iI_tn, iI_div, iI_l, iL_add, iL_sub, iL_mul, iL_neg, iL_le, iL_lt, iL_eq, iL_ite, vp_T, b2_ne0, b2_eq1, nn_imp, true_and, iI_ite, not_true_eq_false, not_false_eq_true, true_implies, false_implies, and_true, Int.reduceLT, Int.reduceLE, Int.reduceEq, or_false, false_or, true_or, or_true, false_and, and_false]
    refine ⟨fun c => ?_, fun c => ?_⟩
    · exact L _ 0 0 rfl (by omega) (by omega) (Or.inr ⟨rfl, fun z => by
        obtain ⟨⟨k, a, b, e⟩, _⟩ := z
        rw [hz.mp c k a b] at e; exact absurd e (by decide)⟩)
    · refine L _ 0 1 rfl (by omega) (by omega) (Or.inl ⟨rfl, ?_, fun j a b => by omega⟩)
      refine Classical.byContradiction fun q => c (hz.mpr fun k a b => ?_)
      cases e : ahd P h k
      · rfl
      · exact absurd ⟨k, a, b, e⟩ q
  · exact hY (Or.inl a)
theorem c_X2_reliefOf (hS : Sys S) {p a : Nat} (h_p : isPat p) (h_a : isArr 1 a 20) (hC : CP p P σ) (hW : WF P) (hT : ∀ k, 0 ≤ k → k < P 280 → F k = true → σ.1 a k.toNat = iI (T k) ∧ 0 ≤ T k ∧ T k ≤ 20000) {h : Int} (h0 : 0 ≤ h) (h1 : h < P 280) (hk : ∀ x : Int, (x = -1 ∨ (0 ≤ x ∧ x ≤ 30000)) → (∀ t, 0 ≤ t → ((0 ≤ x ∧ x ≤ t) ↔ rlv P F T t h)) → Φ [aI (iI x)] σ) : S 47 [aR p, aI (iI h), aI (bm F (P 280)), aR a] σ Φ := by
  refine m_X2_reliefOf hS h_a h_p (fun v hv hw => ?_)
  have g0 := WF_0 hW
  have gh := WF_h hW h0 h1
  have gn := nd_r hW h0 h1
  unfold vc_X2_reliefOf_0
  have m0 : σ.1 (p + 1) (h * 9 + 0).toNat = iI (P (8 * h)) := by rw [CP_m hC (by omega), Int.add_zero]
  have hz := bm_eq0 (p := ahd P h) (n := P 280) (by omega)
  try simp (disch := omega) only [iI_lit, iL_lit, iI_add, iI_sub, iI_mul, iI_neg, iI_lt, iI_le, iI_eq, iI_tn, iI_div, iI_l, iL_add, iL_sub, iL_mul, iL_neg, iL_le, iL_lt, iL_eq, iL_ite, vp_T, b2_ne0, b2_eq1, nn_imp, true_and, iI_ite, not_true_eq_false, not_false_eq_true, true_implies, false_implies, and_true, Int.reduceLT, Int.reduceLE, Int.reduceEq, or_false, false_or, true_or, or_true, false_and, and_false, m0, CP_a hC]
  refine ⟨fun c => ⟨fun e => ?_, fun e => ⟨fun f => ?_, fun f => ?_⟩⟩, fun c => ?_⟩
  · refine hk (-1) (Or.inl rfl) (fun t ht => ⟨fun z => by omega, fun z => ?_⟩)
    rcases z with z | ⟨⟨k, a1, b1, c1⟩, _⟩
    · exact absurd z c
    · rw [hz.mp e k a1 b1] at c1; exact absurd c1 (by decide)
  · have hsub : ∀ k, 0 ≤ k → k < P 280 → ahd P h k = true → F k = true := by
      intro k a1 b1 c1
      have e2 := congrArg (fun z => bs z k) f
      simp only [bs_and, bs_zero] at e2
      rw [bs_not (by omega), bs_bm (by omega), bs_bm (by omega), c1, decide_eq_true b1] at e2
      cases q : F k
      · rw [q] at e2; exact absurd e2 (by decide)
      · rfl
    have hex : ∃ k, 0 ≤ k ∧ k < P 280 ∧ ahd P h k = true := by
      refine Classical.byContradiction fun q => e (hz.mpr fun k a b => ?_)
      cases e : ahd P h k
      · rfl
      · exact absurd ⟨k, a, b, e⟩ q
    have L : ∀ (d : Nat) (k m : Int), (P 280 - k).toNat = d → 0 ≤ k → k ≤ P 280 → (0 ≤ m ∧ m ≤ 20000) → (∀ t, m ≤ t ↔ (0 ≤ t ∧ ∀ j, 0 ≤ j → j < k → ahd P h j = true → T j ≤ t)) → v 42 [some (aR p), some (aI (iI h)), some (aI (bm F (P 280))), some (aR a), some (aI (bm (ahd P h) (P 280))), some (aI (iI m)), some (aI (iI k))] [] σ := by
      intro d
      induction d with
      | zero =>
        intro k m hd k0 k1 hr hm
        refine w_X2_reliefOf_42 hS hv hw a p h_a h_p _ _ _ _ _ σ ?_
        unfold vc_X2_reliefOf_42
        try simp (disch := omega) only [iI_lit, iL_lit, iI_add, iI_sub, iI_mul, iI_neg, iI_lt, iI_le, iI_eq, iI_tn, iI_div, iI_l, iL_add, iL_sub, iL_mul, iL_neg, iL_le, iL_lt, iL_eq, iL_ite, vp_T, b2_ne0, b2_eq1, nn_imp, true_and, iI_ite, not_true_eq_false, not_false_eq_true, true_implies, false_implies, and_true, Int.reduceLT, Int.reduceLE, Int.reduceEq, or_false, false_or, true_or, or_true, false_and, and_false, CP_n hC, CP_m hC]
        refine ⟨fun _ => ?_, fun c => by omega⟩
        rw [kNeeds_i (by omega) (by omega), iI_add]
        rw [show k = P 280 by omega] at hm
        refine hk (m + nd P h) (Or.inr (by omega)) (fun t ht => ⟨fun z => Or.inr ⟨hex, fun j a1 b1 c1 => ⟨hsub j a1 b1 c1, ((hm (t - nd P h)).mp (by omega)).2 j a1 b1 c1⟩⟩, fun z => ?_⟩)
        rcases z with z | ⟨_, z⟩
        · exact absurd z c
        · refine ⟨by omega, ?_⟩
          obtain ⟨k2, a2, b2, c2⟩ := hex
          have q := z k2 a2 b2 c2
          have q2 := hT k2 a2 b2 q.1
          have := (hm (t - nd P h)).mpr ⟨by omega, fun j a1 b1 c1 => (z j a1 b1 c1).2⟩
          omega
      | succ d ih =>
        intro k m hd k0 k1 hr hm
        refine w_X2_reliefOf_42 hS hv hw a p h_a h_p _ _ _ _ _ σ ?_
        unfold vc_X2_reliefOf_42
        try simp (disch := omega) only [iI_lit, iL_lit, iI_add, iI_sub, iI_mul, iI_neg, iI_lt, iI_le, iI_eq, iI_tn, iI_div, iI_l, iL_add, iL_sub, iL_mul, iL_neg, iL_le, iL_lt, iL_eq, iL_ite, vp_T, b2_ne0, b2_eq1, nn_imp, true_and, iI_ite, not_true_eq_false, not_false_eq_true, true_implies, false_implies, and_true, Int.reduceLT, Int.reduceLE, Int.reduceEq, or_false, false_or, true_or, or_true, false_and, and_false, CP_n hC, bs_0, bs_1, bs_bm, Bool.and_eq_true, decide_eq_true_eq, Bool.not_eq_false, Bool.not_eq_true]
        refine ⟨fun c => by omega, fun _ => ⟨fun c1 => ?_, fun c1 => ?_⟩⟩
        · refine ih (k + 1) m (by omega) (by omega) (by omega) hr (fun t => ?_)
          rw [hm t]
          refine ⟨fun z => ⟨z.1, fun j a1 b1 c2 => ?_⟩, fun z => ⟨z.1, fun j a1 b1 c2 => z.2 j a1 (by omega) c2⟩⟩
          by_cases e : j < k
          · exact z.2 j a1 e c2
          · have e : j = k := by omega
            subst e; exact absurd ⟨by omega, by omega, by omega, c2⟩ c1
        · have hf := hsub k k0 (by omega) c1.2.2.2
          obtain ⟨q1, q2, q3⟩ := hT k k0 (by omega) hf
          try simp (disch := omega) only [iI_lit, iL_lit, iI_add, iI_sub, iI_mul, iI_neg, iI_lt, iI_le, iI_eq, iI_tn, iI_div, iI_l, iL_add, iL_sub, iL_mul, iL_neg, iL_le, iL_lt, iL_eq, iL_ite, vp_T, b2_ne0, b2_eq1, nn_imp, true_and, iI_ite, not_true_eq_false, not_false_eq_true, true_implies, false_implies, and_true, Int.reduceLT, Int.reduceLE, Int.reduceEq, or_false, false_or, true_or, or_true, false_and, and_false, q1]
          refine ih (k + 1) _ (by omega) (by omega) (by omega) (by split <;> omega) (fun t => ?_)
          have hmt := hm t
          constructor
          · intro z
            have z1 := hmt.mp (by split at z <;> omega)
            refine ⟨z1.1, fun j a1 b1 c2 => ?_⟩
            by_cases e : j < k
            · exact z1.2 j a1 e c2
            · have e : j = k := by omega
              subst e
              split at z <;> omega
          · intro z
            have z1 := hmt.mpr ⟨z.1, fun j a1 b1 c2 => z.2 j a1 (by omega) c2⟩
            have z2 := z.2 k k0 (by omega) c1.2.2.2
            split <;> omega
    exact L _ 0 0 rfl (by omega) (by omega) (by omega) (fun t => ⟨fun z => ⟨z, fun j a b => by omega⟩, fun z => z.1⟩)
  · refine hk (-1) (Or.inl rfl) (fun t ht => ⟨fun z => by omega, fun z => ?_⟩)
    rcases z with z | ⟨_, z⟩
    · exact absurd z c
    · refine absurd (eq_bm (p := fun _ => false) (n := 0) (by omega) (fun k a1 b1 => ?_)) f
      rw [bs_and, bs_not (by omega), bs_bm (by omega), bs_bm (by omega)]
      by_cases q : k < P 280
      · cases e2 : ahd P h k
        · simp
        · rw [(z k a1 q e2).1, decide_eq_true q]; simp
      · rw [decide_eq_false q]; simp
  · exact hk 0 (Or.inr (by omega)) (fun t ht => ⟨fun _ => Or.inl c, fun _ => by omega⟩)
end C20
