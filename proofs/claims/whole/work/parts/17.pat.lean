/-! truths of propositions -/
noncomputable def dec (p : Prop) : Bool := @decide p (Classical.propDecidable p)
theorem dec_t {p : Prop} : dec p = true ↔ p := by unfold dec; exact @decide_eq_true_iff p (Classical.propDecidable p)
theorem dec_f {p : Prop} : dec p = false ↔ ¬ p := by unfold dec; exact @decide_eq_false_iff_not p (Classical.propDecidable p)
theorem dec_b {b : Bool} : dec (b = true) = b := by cases b; exact dec_f.mpr (by decide); exact dec_t.mpr rfl
/-! the first of a kind -/
def fdN (p : Int → Bool) : Int → Nat → Int
  | _, 0 => -1
  | h, d + 1 => if p h then h else fdN p (h + 1) d
def fd (p : Int → Bool) (h n : Int) : Int := fdN p h (n - h).toNat
theorem fd_z (p : Int → Bool) {h n : Int} (hh : n ≤ h) : fd p h n = -1 := by
  unfold fd; rw [show (n - h).toNat = 0 by omega]; rfl
theorem fd_t (p : Int → Bool) {h n : Int} (hh : h < n) (hp : p h = true) : fd p h n = h := by
  unfold fd; rw [show (n - h).toNat = (n - (h + 1)).toNat + 1 by omega]
  show (if p h then h else _) = h
  rw [if_pos hp]
theorem fd_s (p : Int → Bool) {h n : Int} (hh : h < n) (hp : p h = false) : fd p h n = fd p (h + 1) n := by
  unfold fd; rw [show (n - h).toNat = (n - (h + 1)).toNat + 1 by omega]
  show (if p h then h else _) = _
  rw [if_neg (by rw [hp]; decide)]
theorem fdN_sp (p : Int → Bool) : ∀ (d : Nat) (h : Int), 0 ≤ h → (fdN p h d = -1 ∧ ∀ k, h ≤ k → k < h + d → p k = false) ∨ (h ≤ fdN p h d ∧ fdN p h d < h + d ∧ p (fdN p h d) = true ∧ ∀ k, h ≤ k → k < fdN p h d → p k = false)
  | 0, h, h0 => Or.inl ⟨rfl, fun k h1 h2 => by omega⟩
  | d + 1, h, h0 => by
    by_cases hp : p h = true
    · have e : fdN p h (d + 1) = h := if_pos hp
      rw [e]
      exact Or.inr ⟨by omega, by omega, hp, fun k h1 h2 => by omega⟩
    · have e : fdN p h (d + 1) = fdN p (h + 1) d := if_neg hp
      rw [e]
      rcases fdN_sp p d (h + 1) (by omega) with ⟨q1, q2⟩ | ⟨q1, q2, q3, q4⟩
      · refine Or.inl ⟨q1, fun k h1 h2 => ?_⟩
        by_cases c : k = h
        · subst c; exact Bool.not_eq_true _ ▸ hp
        · exact q2 k (by omega) (by omega)
      · refine Or.inr ⟨by omega, by omega, q3, fun k h1 h2 => ?_⟩
        by_cases c : k = h
        · subst c; exact Bool.not_eq_true _ ▸ hp
        · exact q4 k (by omega) h2
theorem fd_sp (p : Int → Bool) {h n : Int} (h0 : 0 ≤ h) (hn : h ≤ n) : (fd p h n = -1 ∧ ∀ k, h ≤ k → k < n → p k = false) ∨ (h ≤ fd p h n ∧ fd p h n < n ∧ p (fd p h n) = true ∧ ∀ k, h ≤ k → k < fd p h n → p k = false) := by
  unfold fd
  rcases fdN_sp p (n - h).toNat h h0 with ⟨q1, q2⟩ | ⟨q1, q2, q3, q4⟩
  · exact Or.inl ⟨q1, fun k h1 h2 => q2 k h1 (by omega)⟩
  · exact Or.inr ⟨q1, by omega, q3, q4⟩
/-- the hole at a place -/
def hat (P : Pl) (r c : Int) : Int := fd (fun h => decide (P (8 * h) = r ∧ P (8 * h + 1) = c)) 0 (P 280)
/-- dead holes -/
def dd (P : Pl) (h : Int) : Bool := decide (P (8 * h + 6) = 1)
section C17
variable {S : Sp} {σ : St} {Φ : Rs} {P : Pl} {p : Nat}
theorem c_X2_firstLoadOf (hS : Sys S) (h_p : isPat p) (hC : CP p P σ) (hW : WF P) {h : Int} (h0 : 0 ≤ h) (h1 : h < P 280) (hk : Φ [aI (iI (fl P h))] σ) : S 41 [aR p, aI (iI h)] σ Φ := by
  refine m_X2_firstLoadOf hS h_p (fun v _ _ => ?_)
  unfold vc_X2_firstLoadOf_0
  have g := WF_h hW h0 h1
  have g0 := WF_0 hW
  try simp (disch := omega) only [iI_lit, iL_lit, iI_add, iI_sub, iI_mul, iI_neg, iI_lt, iI_le, iI_eq, iI_tn, iI_div, iI_l, iL_add, iL_sub, iL_mul, iL_neg, iL_le, iL_lt, iL_eq, iL_ite, vp_T, b2_ne0, b2_eq1, nn_imp, true_and, iI_ite, not_true_eq_false, not_false_eq_true, true_implies, false_implies, and_true, Int.reduceLT, Int.reduceLE, Int.reduceEq, or_false, false_or, true_or, or_true, false_and, and_false, CP_m hC]
  rw [kFirst_i (by omega) (by omega)]
  exact hk
theorem c_X2_secondLoadOf (hS : Sys S) (h_p : isPat p) (hC : CP p P σ) (hW : WF P) {h : Int} (h0 : 0 ≤ h) (h1 : h < P 280) (hk : Φ [aI (iI (sl P h))] σ) : S 42 [aR p, aI (iI h)] σ Φ := by
  refine m_X2_secondLoadOf hS h_p (fun v _ _ => ?_)
  unfold vc_X2_secondLoadOf_0
  have g := WF_h hW h0 h1
  have g0 := WF_0 hW
  try simp (disch := omega) only [iI_lit, iL_lit, iI_add, iI_sub, iI_mul, iI_neg, iI_lt, iI_le, iI_eq, iI_tn, iI_div, iI_l, iL_add, iL_sub, iL_mul, iL_neg, iL_le, iL_lt, iL_eq, iL_ite, vp_T, b2_ne0, b2_eq1, nn_imp, true_and, iI_ite, not_true_eq_false, not_false_eq_true, true_implies, false_implies, and_true, Int.reduceLT, Int.reduceLE, Int.reduceEq, or_false, false_or, true_or, or_true, false_and, and_false, CP_m hC]
  rw [kSecond_i (by omega) (by omega)]
  exact hk
theorem c_X2_loadsOf (hS : Sys S) (h_p : isPat p) (hC : CP p P σ) (hW : WF P) {h : Int} (h0 : 0 ≤ h) (h1 : h < P 280) (hk : Φ [aI (iI (fl P h + sl P h))] σ) : S 43 [aR p, aI (iI h)] σ Φ := by
  refine m_X2_loadsOf hS h_p (fun v _ _ => ?_)
  refine c_X2_firstLoadOf hS h_p hC hW h0 h1 ⟨_, rfl, c_X2_secondLoadOf hS h_p hC hW h0 h1 ⟨_, rfl, ?_⟩⟩
  rw [iI_add]; exact hk
theorem c_X2_needsOf (hS : Sys S) (h_p : isPat p) (hC : CP p P σ) (hW : WF P) {h : Int} (h0 : 0 ≤ h) (h1 : h < P 280) (hk : Φ [aI (iI (nd P h))] σ) : S 46 [aR p, aI (iI h)] σ Φ := by
  refine m_X2_needsOf hS h_p (fun v _ _ => ?_)
  unfold vc_X2_needsOf_0
  have g := WF_h hW h0 h1
  have g0 := WF_0 hW
  try simp (disch := omega) only [iI_lit, iL_lit, iI_add, iI_sub, iI_mul, iI_neg, iI_lt, iI_le, iI_eq, iI_tn, iI_div, iI_l, iL_add, iL_sub, iL_mul, iL_neg, iL_le, iL_lt, iL_eq, iL_ite, vp_T, b2_ne0, b2_eq1, nn_imp, true_and, iI_ite, not_true_eq_false, not_false_eq_true, true_implies, false_implies, and_true, Int.reduceLT, Int.reduceLE, Int.reduceEq, or_false, false_or, true_or, or_true, false_and, and_false, CP_m hC]
  rw [kNeeds_i (by omega) (by omega)]
  exact hk
theorem c_X1_isUnder (hS : Sys S) {k o : Int} (h0 : 0 ≤ k ∧ k ≤ 5) (h1 : 0 ≤ o ∧ o ≤ 5) (hk : Φ [aI (b2 (und k o = true))] σ) : S 16 [aI (iI k), aI (iI o)] σ Φ := by
  refine m_X1_isUnder hS (fun v hv hw => ?_)
  unfold und at hk
  simp only [decide_eq_true_eq] at hk
  have T : (o = 0 ∨ k = o ∨ (o = 1 ∧ 3 < k) ∨ (o = 2 ∧ k = 3) ∨ (o = 4 ∧ k = 5)) → Φ [aI 1] σ := fun q => by rw [b2_t q] at hk; exact hk
  have F : ¬ (o = 0 ∨ k = o ∨ (o = 1 ∧ 3 < k) ∨ (o = 2 ∧ k = 3) ∨ (o = 4 ∧ k = 5)) → Φ [aI 0] σ := fun q => by rw [b2_f q] at hk; exact hk
  clear hk
  -- the walk from a kind at step i
  have E : ∀ i j : Int, 0 ≤ i → i < 6 → (0 ≤ j ∧ j ≤ 5) → (∀ r : Int, (-1 ≤ r ∧ r ≤ 5) → sv 103 j.toNat = iI r → ¬ j = o → v 4 [some (aI (iI k)), some (aI (iI o)), some (aI (iI r)), some (aI (iI (i + 1)))] [] σ) → (j = o → Φ [aI 1] σ) → v 4 [some (aI (iI k)), some (aI (iI o)), some (aI (iI j)), some (aI (iI i))] [] σ := by
    intro i j hi hi6 hj hn ht
    refine w_X1_isUnder_4 hS hv hw _ _ _ _ σ ?_
    unfold vc_X1_isUnder_4
    try simp (disch := omega) only [iI_lit, iL_lit, iI_add, iI_sub, iI_mul, iI_neg, iI_lt, iI_le, iI_eq, iI_tn, iI_div, iI_l, iL_add, iL_sub, iL_mul, iL_neg, iL_le, iL_lt, iL_eq, iL_ite, vp_T, b2_ne0, b2_eq1, nn_imp, true_and, iI_ite, not_true_eq_false, not_false_eq_true, true_implies, false_implies, and_true, Int.reduceLT, Int.reduceLE, Int.reduceEq, or_false, false_or, true_or, or_true, false_and, and_false]
    refine ⟨fun a => by omega, fun _ => ⟨fun a => by omega, fun _ => ⟨fun a => by omega, fun _ => ⟨fun a => ?_, fun a => ?_⟩⟩⟩⟩
    · have : ∃ r : Int, (-1 ≤ r ∧ r ≤ 5) ∧ sv 103 j.toNat = iI r := by
        rcases (show j = 0 ∨ j = 1 ∨ j = 2 ∨ j = 3 ∨ j = 4 ∨ j = 5 by omega) with e | e | e | e | e | e <;> subst e
        · exact ⟨-1, by omega, by decide⟩
        · exact ⟨0, by omega, by decide⟩
        · exact ⟨0, by omega, by decide⟩
        · exact ⟨2, by omega, by decide⟩
        · exact ⟨1, by omega, by decide⟩
        · exact ⟨4, by omega, by decide⟩
      obtain ⟨r, hr, e⟩ := this
      rw [e]
      exact hn r hr e a
    · have := ht a; rw [iI_lit] at this; exact this
  have Z : ∀ i : Int, 0 ≤ i → i < 6 → (Φ [aI 0] σ) → v 4 [some (aI (iI k)), some (aI (iI o)), some (aI (iI (-1))), some (aI (iI i))] [] σ := by
    intro i hi hi6 hf
    refine w_X1_isUnder_4 hS hv hw _ _ _ _ σ ?_
    unfold vc_X1_isUnder_4
    try simp (disch := omega) only [iI_lit, iL_lit, iI_add, iI_sub, iI_mul, iI_neg, iI_lt, iI_le, iI_eq, iI_tn, iI_div, iI_l, iL_add, iL_sub, iL_mul, iL_neg, iL_le, iL_lt, iL_eq, iL_ite, vp_T, b2_ne0, b2_eq1, nn_imp, true_and, iI_ite, not_true_eq_false, not_false_eq_true, true_implies, false_implies, and_true, Int.reduceLT, Int.reduceLE, Int.reduceEq, or_false, false_or, true_or, or_true, false_and, and_false]
    rw [iI_lit] at hf
    exact ⟨fun _ => hf, fun _ => hf⟩
  have sv0 : ∀ {r : Int}, (-1 ≤ r ∧ r ≤ 5) → sv 103 (0 : Int).toNat = iI r → r = -1 := fun h e => by
    have e2 : iI (-1) = iI _ := (show iI (-1) = sv 103 (0 : Int).toNat by decide).trans e
    rw [iI_eq (by omega)] at e2; omega
  have sv1 : ∀ {r : Int}, (-1 ≤ r ∧ r ≤ 5) → sv 103 (1 : Int).toNat = iI r → r = 0 := fun h e => by
    have e2 : iI 0 = iI _ := (show iI 0 = sv 103 (1 : Int).toNat by decide).trans e
    rw [iI_eq (by omega)] at e2; omega
  have sv2 : ∀ {r : Int}, (-1 ≤ r ∧ r ≤ 5) → sv 103 (2 : Int).toNat = iI r → r = 0 := fun h e => by
    have e2 : iI 0 = iI _ := (show iI 0 = sv 103 (2 : Int).toNat by decide).trans e
    rw [iI_eq (by omega)] at e2; omega
  have sv3 : ∀ {r : Int}, (-1 ≤ r ∧ r ≤ 5) → sv 103 (3 : Int).toNat = iI r → r = 2 := fun h e => by
    have e2 : iI 2 = iI _ := (show iI 2 = sv 103 (3 : Int).toNat by decide).trans e
    rw [iI_eq (by omega)] at e2; omega
  have sv4 : ∀ {r : Int}, (-1 ≤ r ∧ r ≤ 5) → sv 103 (4 : Int).toNat = iI r → r = 1 := fun h e => by
    have e2 : iI 1 = iI _ := (show iI 1 = sv 103 (4 : Int).toNat by decide).trans e
    rw [iI_eq (by omega)] at e2; omega
  have sv5 : ∀ {r : Int}, (-1 ≤ r ∧ r ≤ 5) → sv 103 (5 : Int).toNat = iI r → r = 4 := fun h e => by
    have e2 : iI 4 = iI _ := (show iI 4 = sv 103 (5 : Int).toNat by decide).trans e
    rw [iI_eq (by omega)] at e2; omega
  have K0 : ∀ i : Int, 0 ≤ i → i < 5 → (¬ 0 = o → Φ [aI 0] σ) → (o = 0 → Φ [aI 1] σ) → v 4 [some (aI (iI k)), some (aI (iI o)), some (aI (iI 0)), some (aI (iI i))] [] σ := fun i hi h5 a b => E i 0 hi (by omega) (by omega) (fun r hr e hn => by rw [sv0 hr e]; exact Z _ (by omega) (by omega) (a hn)) (fun q => b q.symm)
  have K1 : ∀ i : Int, 0 ≤ i → i < 4 → (¬ 0 = o → ¬ 1 = o → Φ [aI 0] σ) → (o = 0 ∨ o = 1 → Φ [aI 1] σ) → v 4 [some (aI (iI k)), some (aI (iI o)), some (aI (iI 1)), some (aI (iI i))] [] σ := fun i hi h5 a b => E i 1 hi (by omega) (by omega) (fun r hr e hn => by rw [sv1 hr e]; exact K0 _ (by omega) (by omega) (fun q => a q hn) (fun q => b (Or.inl q))) (fun q => b (Or.inr q.symm))
  have K2 : ∀ i : Int, 0 ≤ i → i < 4 → (¬ 0 = o → ¬ 2 = o → Φ [aI 0] σ) → (o = 0 ∨ o = 2 → Φ [aI 1] σ) → v 4 [some (aI (iI k)), some (aI (iI o)), some (aI (iI 2)), some (aI (iI i))] [] σ := fun i hi h5 a b => E i 2 hi (by omega) (by omega) (fun r hr e hn => by rw [sv2 hr e]; exact K0 _ (by omega) (by omega) (fun q => a q hn) (fun q => b (Or.inl q))) (fun q => b (Or.inr q.symm))
  have K4 : ∀ i : Int, 0 ≤ i → i < 3 → (¬ 0 = o → ¬ 1 = o → ¬ 4 = o → Φ [aI 0] σ) → (o = 0 ∨ o = 1 ∨ o = 4 → Φ [aI 1] σ) → v 4 [some (aI (iI k)), some (aI (iI o)), some (aI (iI 4)), some (aI (iI i))] [] σ := fun i hi h5 a b => E i 4 hi (by omega) (by omega) (fun r hr e hn => by rw [sv4 hr e]; exact K1 _ (by omega) (by omega) (fun q q2 => a q q2 hn) (fun q => b (by omega))) (fun q => b (by omega))
  unfold vc_X1_isUnder_0
  rw [iI_lit]
  rcases (show k = 0 ∨ k = 1 ∨ k = 2 ∨ k = 3 ∨ k = 4 ∨ k = 5 by omega) with e | e | e | e | e | e <;> subst e
  · exact K0 0 (by omega) (by omega) (fun q => F (by omega)) (fun q => T (by omega))
  · exact K1 0 (by omega) (by omega) (fun q q2 => F (by omega)) (fun q => T (by omega))
  · exact K2 0 (by omega) (by omega) (fun q q2 => F (by omega)) (fun q => T (by omega))
  · exact E 0 3 (by omega) (by omega) (by omega) (fun r hr e hn => by rw [sv3 hr e]; exact K2 _ (by omega) (by omega) (fun q q2 => F (by omega)) (fun q => T (by omega))) (fun q => T (by omega))
  · exact K4 0 (by omega) (by omega) (fun q q2 q3 => F (by omega)) (fun q => T (by omega))
  · exact E 0 5 (by omega) (by omega) (by omega) (fun r hr e hn => by rw [sv5 hr e]; exact K4 _ (by omega) (by omega) (fun q q2 q3 => F (by omega)) (fun q => T (by omega))) (fun q => T (by omega))
theorem c_X1_rock (hS : Sys S) {k b : Int} (h1 : 0 ≤ k ∧ k ≤ 5) (h2 : 1 ≤ b ∧ b ≤ 20) (hk : Φ [aI (iI (krk k b))] σ) : S 19 [aI (iI k), aI (iI b)] σ Φ := by
  refine m_X1_rock hS (fun v _ _ => ?_)
  unfold vc_X1_rock_0
  unfold krk at hk
  try simp (disch := omega) only [iI_lit, iL_lit, iI_add, iI_sub, iI_mul, iI_neg, iI_lt, iI_le, iI_eq, iI_tn, iI_div, iI_l, iL_add, iL_sub, iL_mul, iL_neg, iL_le, iL_lt, iL_eq, iL_ite, vp_T, b2_ne0, b2_eq1, nn_imp, true_and, iI_ite, not_true_eq_false, not_false_eq_true, true_implies, false_implies, and_true, Int.reduceLT, Int.reduceLE, Int.reduceEq, or_false, false_or, true_or, or_true, false_and, and_false]
  refine ⟨fun a => ?_, fun a => ?_⟩
  · refine c_X1_isUnder hS h1 (by omega) ⟨_, rfl, ?_⟩
    unfold und
    try simp (disch := omega) only [iI_lit, iL_lit, iI_add, iI_sub, iI_mul, iI_neg, iI_lt, iI_le, iI_eq, iI_tn, iI_div, iI_l, iL_add, iL_sub, iL_mul, iL_neg, iL_le, iL_lt, iL_eq, iL_ite, vp_T, b2_ne0, b2_eq1, nn_imp, true_and, iI_ite, not_true_eq_false, not_false_eq_true, true_implies, false_implies, and_true, Int.reduceLT, Int.reduceLE, Int.reduceEq, or_false, false_or, true_or, or_true, false_and, and_false, decide_eq_true_eq]
    rw [if_neg a] at hk
    refine ⟨fun q => ?_, fun q => ?_⟩
    · rw [if_neg (by omega), if_neg (by omega)] at hk; exact hk
    · by_cases c : k = 2
      · rw [if_pos c] at hk; exact hk
      · rw [if_neg c, if_pos (by omega)] at hk; exact hk
  · rw [if_pos a] at hk; exact hk
theorem c_X2_rockOf (hS : Sys S) (h_p : isPat p) (hC : CP p P σ) (hW : WF P) {h : Int} (h0 : 0 ≤ h) (h1 : h < P 280) (hk : Φ [aI (iI (rk P h))] σ) : S 45 [aR p, aI (iI h)] σ Φ := by
  refine m_X2_rockOf hS h_p (fun v _ _ => ?_)
  unfold vc_X2_rockOf_0
  have g := WF_h hW h0 h1
  have g0 := WF_0 hW
  try simp (disch := omega) only [iI_lit, iL_lit, iI_add, iI_sub, iI_mul, iI_neg, iI_lt, iI_le, iI_eq, iI_tn, iI_div, iI_l, iL_add, iL_sub, iL_mul, iL_neg, iL_le, iL_lt, iL_eq, iL_ite, vp_T, b2_ne0, b2_eq1, nn_imp, true_and, iI_ite, not_true_eq_false, not_false_eq_true, true_implies, false_implies, and_true, Int.reduceLT, Int.reduceLE, Int.reduceEq, or_false, false_or, true_or, or_true, false_and, and_false, CP_m hC]
  exact c_X1_rock hS (by omega) (by omega) ⟨_, rfl, hk⟩
theorem c_X1_made (hS : Sys S) {r k b : Int} (h0 : 0 ≤ r ∧ r ≤ 4) (h1 : 0 ≤ k ∧ k ≤ 5) (h2 : 1 ≤ b ∧ b ≤ 20) (hk : Φ [aI (iI (made r k b))] σ) : S 21 [aI (iI r), aI (iI k), aI (iI b)] σ Φ := by
  refine m_X1_made hS (fun v _ _ => ?_)
  have D : ∀ d : Int, Φ [aI (iI (m5d k b d))] σ → vc_X1_made_74 S Φ v (iI r) (iI k) (iI b) (iI d) σ := by
    intro d hd
    unfold vc_X1_made_74
    unfold m5d at hd
    try simp (disch := omega) only [iI_lit, iL_lit, iI_add, iI_sub, iI_mul, iI_neg, iI_lt, iI_le, iI_eq, iI_tn, iI_div, iI_l, iL_add, iL_sub, iL_mul, iL_neg, iL_le, iL_lt, iL_eq, iL_ite, vp_T, b2_ne0, b2_eq1, nn_imp, true_and, iI_ite, not_true_eq_false, not_false_eq_true, true_implies, false_implies, and_true, Int.reduceLT, Int.reduceLE, Int.reduceEq, or_false, false_or, true_or, or_true, false_and, and_false, Int.mul_comm _ 10]
    refine ⟨fun a => ?_, fun a => ⟨fun c => ?_, fun c => ?_⟩⟩
    · rw [if_neg (by omega)] at hd; exact hd
    · rw [if_neg (by omega)] at hd; exact hd
    · rw [if_pos (by omega)] at hd; exact hd
  have C : ∀ d : Int, Φ [aI (iI (m5d k b (m4d k d)))] σ → vc_X1_made_61 S Φ v (iI r) (iI k) (iI b) (iI d) σ := by
    intro d hd
    unfold vc_X1_made_61
    unfold m4d at hd
    try simp (disch := omega) only [iI_lit, iL_lit, iI_add, iI_sub, iI_mul, iI_neg, iI_lt, iI_le, iI_eq, iI_tn, iI_div, iI_l, iL_add, iL_sub, iL_mul, iL_neg, iL_le, iL_lt, iL_eq, iL_ite, vp_T, b2_ne0, b2_eq1, nn_imp, true_and, iI_ite, not_true_eq_false, not_false_eq_true, true_implies, false_implies, and_true, Int.reduceLT, Int.reduceLE, Int.reduceEq, or_false, false_or, true_or, or_true, false_and, and_false, Int.mul_comm _ 10]
    refine ⟨fun a => ?_, fun a => ?_⟩
    · rw [if_neg a] at hd; exact D _ hd
    · rw [if_pos a] at hd; exact D _ hd
  have B : ∀ d e : Int, (¬ k = 3 → d = e) → (k = 3 → d = 10 * e + 6) → Φ [aI (iI (m5d k b (m4d k (m3d k e))))] σ → vc_X1_made_45 S Φ v (iI r) (iI k) (iI b) (iI d) σ := by
    intro d e q1 q2 hd
    unfold vc_X1_made_45
    unfold m3d at hd
    try simp (disch := omega) only [iI_lit, iL_lit, iI_add, iI_sub, iI_mul, iI_neg, iI_lt, iI_le, iI_eq, iI_tn, iI_div, iI_l, iL_add, iL_sub, iL_mul, iL_neg, iL_le, iL_lt, iL_eq, iL_ite, vp_T, b2_ne0, b2_eq1, nn_imp, true_and, iI_ite, not_true_eq_false, not_false_eq_true, true_implies, false_implies, and_true, Int.reduceLT, Int.reduceLE, Int.reduceEq, or_false, false_or, true_or, or_true, false_and, and_false, Int.mul_comm _ 10]
    refine c_X1_isUnder hS h1 (by omega) ⟨_, rfl, ?_⟩
    unfold und
    try simp (disch := omega) only [iI_lit, iL_lit, iI_add, iI_sub, iI_mul, iI_neg, iI_lt, iI_le, iI_eq, iI_tn, iI_div, iI_l, iL_add, iL_sub, iL_mul, iL_neg, iL_le, iL_lt, iL_eq, iL_ite, vp_T, b2_ne0, b2_eq1, nn_imp, true_and, iI_ite, not_true_eq_false, not_false_eq_true, true_implies, false_implies, and_true, Int.reduceLT, Int.reduceLE, Int.reduceEq, or_false, false_or, true_or, or_true, false_and, and_false, decide_eq_true_eq]
    refine ⟨fun q => ?_, fun q => ?_⟩
    · by_cases c : k = 3
      · rw [if_pos c] at hd; rw [q2 c]; exact C _ hd
      · rw [if_neg c, if_neg (by omega)] at hd; rw [q1 c]; exact C _ hd
    · rw [if_neg (by omega), if_pos (by omega)] at hd; rw [q1 (by omega)]; exact C _ hd
  have A : ∀ d : Int, Φ [aI (iI (m5d k b (m4d k (m3d k d))))] σ → vc_X1_made_32 S Φ v (iI r) (iI k) (iI b) (iI d) σ := by
    intro d hd
    unfold vc_X1_made_32
    try simp (disch := omega) only [iI_lit, iL_lit, iI_add, iI_sub, iI_mul, iI_neg, iI_lt, iI_le, iI_eq, iI_tn, iI_div, iI_l, iL_add, iL_sub, iL_mul, iL_neg, iL_le, iL_lt, iL_eq, iL_ite, vp_T, b2_ne0, b2_eq1, nn_imp, true_and, iI_ite, not_true_eq_false, not_false_eq_true, true_implies, false_implies, and_true, Int.reduceLT, Int.reduceLE, Int.reduceEq, or_false, false_or, true_or, or_true, false_and, and_false, Int.mul_comm _ 10]
    exact ⟨fun a => B _ _ (fun _ => rfl) (fun q => absurd q a) hd, fun a => B _ _ (fun q => absurd a q) (fun _ => rfl) hd⟩
  have A0 : ∀ d : Int, Φ [aI (iI (m5d k b (m4d k (m3d k (m2d k (10 * d + 3))))))] σ → vc_X1_made_13 S Φ v (iI r) (iI k) (iI b) (iI d) σ := by
    intro d hd
    unfold vc_X1_made_13
    unfold m2d at hd
    try simp (disch := omega) only [iI_lit, iL_lit, iI_add, iI_sub, iI_mul, iI_neg, iI_lt, iI_le, iI_eq, iI_tn, iI_div, iI_l, iL_add, iL_sub, iL_mul, iL_neg, iL_le, iL_lt, iL_eq, iL_ite, vp_T, b2_ne0, b2_eq1, nn_imp, true_and, iI_ite, not_true_eq_false, not_false_eq_true, true_implies, false_implies, and_true, Int.reduceLT, Int.reduceLE, Int.reduceEq, or_false, false_or, true_or, or_true, false_and, and_false, Int.mul_comm _ 10, Int.mul_comm _ 100]
    refine ⟨fun a => ?_, fun a => ?_⟩
    · rw [if_neg (by omega)] at hd; exact A _ hd
    · rw [if_pos (by omega)] at hd; exact A _ hd
  unfold vc_X1_made_0
  unfold made m1d at hk
  try simp (disch := omega) only [iI_lit, iL_lit, iI_add, iI_sub, iI_mul, iI_neg, iI_lt, iI_le, iI_eq, iI_tn, iI_div, iI_l, iL_add, iL_sub, iL_mul, iL_neg, iL_le, iL_lt, iL_eq, iL_ite, vp_T, b2_ne0, b2_eq1, nn_imp, true_and, iI_ite, not_true_eq_false, not_false_eq_true, true_implies, false_implies, and_true, Int.reduceLT, Int.reduceLE, Int.reduceEq, or_false, false_or, true_or, or_true, false_and, and_false]
  refine ⟨fun a => ?_, fun a => ?_⟩
  · rw [if_neg a] at hk; exact A0 1 hk
  · rw [if_pos a] at hk; exact A0 12 hk
theorem c_X2_columnsOff (hS : Sys S) (h_p : isPat p) {n : Int} (hn : n ≤ 20) (hm : ∀ {h k : Int}, (0 ≤ h ∧ h < n) ∧ 0 ≤ k ∧ k < 8 → σ.1 (p + 1) (h * 9 + k).toNat = iI (P (8 * h + k))) {g h : Int} (h0 : 0 ≤ g ∧ g < n) (h1 : 0 ≤ h ∧ h < n) (r0 : 0 ≤ P (8 * g + 1) ∧ P (8 * g + 1) ≤ 9) (r1 : 0 ≤ P (8 * h + 1) ∧ P (8 * h + 1) ≤ 9) (hk : Φ [aI (iI (if 0 ≤ P (8 * g + 1) - P (8 * h + 1) then P (8 * g + 1) - P (8 * h + 1) else 0 - (P (8 * g + 1) - P (8 * h + 1))))] σ) : S 40 [aR p, aI (iI g), aI (iI h)] σ Φ := by
  refine m_X2_columnsOff hS h_p (fun v _ _ => ?_)
  unfold vc_X2_columnsOff_0
  try simp (disch := omega) only [iI_lit, iL_lit, iI_add, iI_sub, iI_mul, iI_neg, iI_lt, iI_le, iI_eq, iI_tn, iI_div, iI_l, iL_add, iL_sub, iL_mul, iL_neg, iL_le, iL_lt, iL_eq, iL_ite, vp_T, b2_ne0, b2_eq1, nn_imp, true_and, iI_ite, not_true_eq_false, not_false_eq_true, true_implies, false_implies, and_true, Int.reduceLT, Int.reduceLE, Int.reduceEq, or_false, false_or, true_or, or_true, false_and, and_false, hm]
  exact hk
theorem c_X2_isAhead (hS : Sys S) (h_p : isPat p) {n : Int} (hn : n ≤ 20) (hm : ∀ {h k : Int}, (0 ≤ h ∧ h < n) ∧ 0 ≤ k ∧ k < 8 → σ.1 (p + 1) (h * 9 + k).toNat = iI (P (8 * h + k))) (hr : ∀ h, 0 ≤ h → h < n → (0 ≤ P (8 * h) ∧ P (8 * h) ≤ 4) ∧ (0 ≤ P (8 * h + 1) ∧ P (8 * h + 1) ≤ 9) ∧ (0 ≤ P (8 * h + 2) ∧ P (8 * h + 2) ≤ 5)) {g h : Int} (h0 : 0 ≤ g ∧ g < n) (h1 : 0 ≤ h ∧ h < n) (hk : Φ [aI (b2 (ahd P h g = true))] σ) : S 31 [aR p, aI (iI g), aI (iI h)] σ Φ := by
  refine m_X2_isAhead hS h_p (fun v _ _ => ?_)
  unfold vc_X2_isAhead_0 vc_X2_isAhead_22
  have r0 := hr g h0.1 h0.2
  have r1 := hr h h1.1 h1.2
  unfold ahd at hk
  simp only [decide_eq_true_eq] at hk
  have T : (¬ P (8 * g + 2) = 5 ∧ P (8 * g) = P (8 * h) - 1 ∧ -2 < P (8 * g + 1) - P (8 * h + 1) ∧ P (8 * g + 1) - P (8 * h + 1) < 2) → Φ [aI 1] σ := fun q => by rw [b2_t q] at hk; exact hk
  have F : ¬ (¬ P (8 * g + 2) = 5 ∧ P (8 * g) = P (8 * h) - 1 ∧ -2 < P (8 * g + 1) - P (8 * h + 1) ∧ P (8 * g + 1) - P (8 * h + 1) < 2) → Φ [aI 0] σ := fun q => by rw [b2_f q] at hk; exact hk
  clear hk
  have m0 : ∀ x : Int, (0 ≤ x ∧ x < n) → σ.1 (p + 1) (x * 9 + 0).toNat = iI (P (8 * x)) := fun x hx => by rw [hm (by omega), Int.add_zero]
  have x0 : P (8 * g + 0) = P (8 * g) := by rw [Int.add_zero]
  have x1 : P (8 * h + 0) = P (8 * h) := by rw [Int.add_zero]
  try simp (disch := omega) only [iI_lit, iL_lit, iI_add, iI_sub, iI_mul, iI_neg, iI_lt, iI_le, iI_eq, iI_tn, iI_div, iI_l, iL_add, iL_sub, iL_mul, iL_neg, iL_le, iL_lt, iL_eq, iL_ite, vp_T, b2_ne0, b2_eq1, nn_imp, true_and, iI_ite, not_true_eq_false, not_false_eq_true, true_implies, false_implies, and_true, Int.reduceLT, Int.reduceLE, Int.reduceEq, or_false, false_or, true_or, or_true, false_and, and_false, m0, hm] at T F ⊢
  refine ⟨fun a => F (by omega), fun a => ?_⟩
  refine c_X2_columnsOff hS h_p hn hm h0 h1 r0.2.1 r1.2.1 ⟨_, rfl, ?_⟩
  try simp (disch := omega) only [iI_lit, iL_lit, iI_add, iI_sub, iI_mul, iI_neg, iI_lt, iI_le, iI_eq, iI_tn, iI_div, iI_l, iL_add, iL_sub, iL_mul, iL_neg, iL_le, iL_lt, iL_eq, iL_ite, vp_T, b2_ne0, b2_eq1, nn_imp, true_and, iI_ite, not_true_eq_false, not_false_eq_true, true_implies, false_implies, and_true, Int.reduceLT, Int.reduceLE, Int.reduceEq, or_false, false_or, true_or, or_true, false_and, and_false, hm]
  refine ⟨fun b => F ?_, fun b => ⟨fun c => F (by omega), fun c => T ?_⟩⟩
  · split at b <;> omega
  · split at b <;> omega
theorem c_X2_areNear (hS : Sys S) (h_p : isPat p) (hC : CP p P σ) (hW : WF P) {g h : Int} (h0 : 0 ≤ g ∧ g < P 280) (h1 : 0 ≤ h ∧ h < P 280) (hk : Φ [aI (b2 ((-2 < P (8 * g) - P (8 * h) ∧ P (8 * g) - P (8 * h) < 2) ∧ -2 < P (8 * g + 1) - P (8 * h + 1) ∧ P (8 * g + 1) - P (8 * h + 1) < 2))] σ) : S 39 [aR p, aI (iI g), aI (iI h)] σ Φ := by
  refine m_X2_areNear hS h_p (fun v _ _ => ?_)
  unfold vc_X2_areNear_0
  have r0 := WF_h hW h0.1 h0.2
  have r1 := WF_h hW h1.1 h1.2
  have g0 := WF_0 hW
  have T : ((-2 < P (8 * g) - P (8 * h) ∧ P (8 * g) - P (8 * h) < 2) ∧ -2 < P (8 * g + 1) - P (8 * h + 1) ∧ P (8 * g + 1) - P (8 * h + 1) < 2) → Φ [aI 1] σ := fun q => by rw [b2_t q] at hk; exact hk
  have F : ¬ ((-2 < P (8 * g) - P (8 * h) ∧ P (8 * g) - P (8 * h) < 2) ∧ -2 < P (8 * g + 1) - P (8 * h + 1) ∧ P (8 * g + 1) - P (8 * h + 1) < 2) → Φ [aI 0] σ := fun q => by rw [b2_f q] at hk; exact hk
  clear hk
  have m0 : ∀ x : Int, (0 ≤ x ∧ x < P 280) → σ.1 (p + 1) (x * 9 + 0).toNat = iI (P (8 * x)) := fun x hx => by rw [CP_m hC (by omega), Int.add_zero]
  try simp (disch := omega) only [iI_lit, iL_lit, iI_add, iI_sub, iI_mul, iI_neg, iI_lt, iI_le, iI_eq, iI_tn, iI_div, iI_l, iL_add, iL_sub, iL_mul, iL_neg, iL_le, iL_lt, iL_eq, iL_ite, vp_T, b2_ne0, b2_eq1, nn_imp, true_and, iI_ite, not_true_eq_false, not_false_eq_true, true_implies, false_implies, and_true, Int.reduceLT, Int.reduceLE, Int.reduceEq, or_false, false_or, true_or, or_true, false_and, and_false, m0] at T F ⊢
  refine ⟨fun a => F ?_, fun a => ?_⟩
  · split at a <;> omega
  refine c_X2_columnsOff hS h_p (n := P 280) (by omega) (CP_m hC) h0 h1 r0.2.1 r1.2.1 ⟨_, rfl, ?_⟩
  try simp (disch := omega) only [iI_lit, iL_lit, iI_add, iI_sub, iI_mul, iI_neg, iI_lt, iI_le, iI_eq, iI_tn, iI_div, iI_l, iL_add, iL_sub, iL_mul, iL_neg, iL_le, iL_lt, iL_eq, iL_ite, vp_T, b2_ne0, b2_eq1, nn_imp, true_and, iI_ite, not_true_eq_false, not_false_eq_true, true_implies, false_implies, and_true, Int.reduceLT, Int.reduceLE, Int.reduceEq, or_false, false_or, true_or, or_true, false_and, and_false]
  refine ⟨fun b => F ?_, fun b => T ?_⟩
  · split at b <;> omega
  · split at a <;> split at b <;> omega
theorem c_X2_holeAt (hS : Sys S) (h_p : isPat p) (hC : CP p P σ) (hW : WF P) {r c : Int} (hr : 0 ≤ r ∧ r ≤ 4) (hc : 0 ≤ c ∧ c ≤ 9) (hk : Φ [aI (iI (hat P r c))] σ) : S 37 [aR p, aI (iI r), aI (iI c)] σ Φ := by
  refine m_X2_holeAt hS h_p (fun v hv hw => ?_)
  have g0 := WF_0 hW
  unfold vc_X2_holeAt_0
  unfold hat at hk
  have L : ∀ (d : Nat) (h : Int), (P 280 - h).toNat = d → 0 ≤ h → h ≤ P 280 → Φ [aI (iI (fd (fun h => decide (P (8 * h) = r ∧ P (8 * h + 1) = c)) h (P 280)))] σ → v 2 [some (aR p), some (aI (iI r)), some (aI (iI c)), some (aI (iI h))] [] σ := by
    intro d
    induction d with
    | zero =>
      intro h hd h0 h1 hk
      refine w_X2_holeAt_2 hS hv hw p h_p _ _ _ σ ?_
      unfold vc_X2_holeAt_2
      rw [fd_z _ (by omega)] at hk
      try simp (disch := omega) only [iI_lit, iL_lit, iI_add, iI_sub, iI_mul, iI_neg, iI_lt, iI_le, iI_eq, iI_tn, iI_div, iI_l, iL_add, iL_sub, iL_mul, iL_neg, iL_le, iL_lt, iL_eq, iL_ite, vp_T, b2_ne0, b2_eq1, nn_imp, true_and, iI_ite, not_true_eq_false, not_false_eq_true, true_implies, false_implies, and_true, Int.reduceLT, Int.reduceLE, Int.reduceEq, or_false, false_or, true_or, or_true, false_and, and_false, CP_n hC]
      exact ⟨fun _ => hk, fun a => by omega⟩
    | succ d ih =>
      intro h hd h0 h1 hk
      refine w_X2_holeAt_2 hS hv hw p h_p _ _ _ σ ?_
      unfold vc_X2_holeAt_2
      have g := WF_h hW h0 (by omega)
      have m0 : σ.1 (p + 1) (h * 9 + 0).toNat = iI (P (8 * h)) := by rw [CP_m hC (by omega), Int.add_zero]
      try simp (disch := omega) only [iI_lit, iL_lit, iI_add, iI_sub, iI_mul, iI_neg, iI_lt, iI_le, iI_eq, iI_tn, iI_div, iI_l, iL_add, iL_sub, iL_mul, iL_neg, iL_le, iL_lt, iL_eq, iL_ite, vp_T, b2_ne0, b2_eq1, nn_imp, true_and, iI_ite, not_true_eq_false, not_false_eq_true, true_implies, false_implies, and_true, Int.reduceLT, Int.reduceLE, Int.reduceEq, or_false, false_or, true_or, or_true, false_and, and_false, CP_n hC, m0, CP_m hC]
      refine ⟨fun a => by omega, fun _ => ⟨fun b => ?_, fun b => ⟨fun e => ?_, fun e => ?_⟩⟩⟩
      · exact ih (h + 1) (by omega) (by omega) (by omega) (by rw [fd_s _ (by omega) (decide_eq_false (fun q => b q.1))] at hk; exact hk)
      · exact ih (h + 1) (by omega) (by omega) (by omega) (by rw [fd_s _ (by omega) (decide_eq_false (fun q => e q.2))] at hk; exact hk)
      · rw [fd_t _ (by omega) (decide_eq_true ⟨b, e⟩)] at hk; exact hk
  have := L _ 0 rfl (by omega) (by omega) hk
  rw [iI_lit]; exact this
theorem c_X2_deadBits (hS : Sys S) (h_p : isPat p) (hC : CP p P σ) (hW : WF P) (hk : Φ [aI (bm (dd P) (P 280))] σ) : S 38 [aR p] σ Φ := by
  refine m_X2_deadBits hS h_p (fun v hv hw => ?_)
  have g0 := WF_0 hW
  unfold vc_X2_deadBits_0
  have L : ∀ (d : Nat) (h : Int), (P 280 - h).toNat = d → 0 ≤ h → h ≤ P 280 → v 4 [some (aR p), some (aI (bm (dd P) h)), some (aI (iI h))] [] σ := by
    intro d
    induction d with
    | zero =>
      intro h hd h0 h1
      refine w_X2_deadBits_4 hS hv hw p h_p _ _ σ ?_
      unfold vc_X2_deadBits_4
      try simp (disch := omega) only [iI_lit, iL_lit, iI_add, iI_sub, iI_mul, iI_neg, iI_lt, iI_le, iI_eq, iI_tn, iI_div, iI_l, iL_add, iL_sub, iL_mul, iL_neg, iL_le, iL_lt, iL_eq, iL_ite, vp_T, b2_ne0, b2_eq1, nn_imp, true_and, iI_ite, not_true_eq_false, not_false_eq_true, true_implies, false_implies, and_true, Int.reduceLT, Int.reduceLE, Int.reduceEq, or_false, false_or, true_or, or_true, false_and, and_false, CP_n hC]
      rw [show h = P 280 by omega]
      exact ⟨fun _ => hk, fun a => by omega⟩
    | succ d ih =>
      intro h hd h0 h1
      refine w_X2_deadBits_4 hS hv hw p h_p _ _ σ ?_
      unfold vc_X2_deadBits_4
      have g := WF_h hW h0 (by omega)
      have i := ih (h + 1) (by omega) (by omega) (by omega)
      try simp (disch := omega) only [iI_lit, iL_lit, iI_add, iI_sub, iI_mul, iI_neg, iI_lt, iI_le, iI_eq, iI_tn, iI_div, iI_l, iL_add, iL_sub, iL_mul, iL_neg, iL_le, iL_lt, iL_eq, iL_ite, vp_T, b2_ne0, b2_eq1, nn_imp, true_and, iI_ite, not_true_eq_false, not_false_eq_true, true_implies, false_implies, and_true, Int.reduceLT, Int.reduceLE, Int.reduceEq, or_false, false_or, true_or, or_true, false_and, and_false, CP_n hC, CP_m hC, bitO_i]
      refine ⟨fun a => by omega, fun _ => ⟨fun b => ?_, fun b => ?_⟩⟩
      · rw [bm_sf h0 (decide_eq_false (by omega))]; exact i
      · rw [bm_st h0 (decide_eq_true (by omega))]; exact i
  have := L _ 0 rfl (by omega) (by omega)
  rw [iI_lit]; exact this
theorem c_X9_abs (hS : Sys S) {z : Int} (hz : -2147483648 < z ∧ z < 2147483648) (hk : Φ [aI (iI (if 0 ≤ z then z else -z))] σ) : S 145 [aI (iI z)] σ Φ := by
  refine m_X9_abs hS (fun v _ _ => ?_)
  unfold vc_X9_abs_0
  try simp (disch := omega) only [iI_lit, iL_lit, iI_add, iI_sub, iI_mul, iI_neg, iI_lt, iI_le, iI_eq, iI_tn, iI_div, iI_l, iL_add, iL_sub, iL_mul, iL_neg, iL_le, iL_lt, iL_eq, iL_ite, vp_T, b2_ne0, b2_eq1, nn_imp, true_and, iI_ite, not_true_eq_false, not_false_eq_true, true_implies, false_implies, and_true, Int.reduceLT, Int.reduceLE, Int.reduceEq, or_false, false_or, true_or, or_true, false_and, and_false]
  refine ⟨fun a => ?_, fun a => ?_⟩
  · rw [if_pos a] at hk; exact hk
  · rw [if_neg a] at hk; exact hk
theorem c_X9_isTaken (hS : Sys S) (hM : MP 50 P σ) (hW : WF P) {r c : Int} (hr : 0 ≤ r ∧ r ≤ 4) (hc : 0 ≤ c ∧ c ≤ 9) (hk : Φ [aI (b2 (¬ hat P r c = -1))] σ) : S 160 [aR 49, aI (iI r), aI (iI c)] σ Φ := by
  refine m_X9_isTaken hS (fun v hv hw => ?_)
  have g0 := WF_0 hW
  unfold vc_X9_isTaken_0
  unfold hat at hk
  have L : ∀ (d : Nat) (h : Int), (P 280 - h).toNat = d → 0 ≤ h → h ≤ P 280 → Φ [aI (b2 (¬ fd (fun h => decide (P (8 * h) = r ∧ P (8 * h + 1) = c)) h (P 280) = -1))] σ → v 2 [some (aR 49), some (aI (iI r)), some (aI (iI c)), some (aI (iI h))] [] σ := by
    intro d
    induction d with
    | zero =>
      intro h hd h0 h1 hk
      refine w_X9_isTaken_2 hS hv hw _ _ _ σ ?_
      unfold vc_X9_isTaken_2
      rw [fd_z _ (by omega), b2_f (by omega)] at hk
      rw [iI_lit] at hk
      try simp (disch := omega) only [iI_lit, iL_lit, iI_add, iI_sub, iI_mul, iI_neg, iI_lt, iI_le, iI_eq, iI_tn, iI_div, iI_l, iL_add, iL_sub, iL_mul, iL_neg, iL_le, iL_lt, iL_eq, iL_ite, vp_T, b2_ne0, b2_eq1, nn_imp, true_and, iI_ite, not_true_eq_false, not_false_eq_true, true_implies, false_implies, and_true, Int.reduceLT, Int.reduceLE, Int.reduceEq, or_false, false_or, true_or, or_true, false_and, and_false, hM _]
      exact ⟨fun _ => hk, fun a => by omega⟩
    | succ d ih =>
      intro h hd h0 h1 hk
      refine w_X9_isTaken_2 hS hv hw _ _ _ σ ?_
      unfold vc_X9_isTaken_2
      have g := WF_h hW h0 (by omega)
      have m0 : σ.1 50 (8 * h + 0).toNat = iI (P (8 * h)) := by rw [hM _ (by omega), Int.add_zero]
      try simp (disch := omega) only [iI_lit, iL_lit, iI_add, iI_sub, iI_mul, iI_neg, iI_lt, iI_le, iI_eq, iI_tn, iI_div, iI_l, iL_add, iL_sub, iL_mul, iL_neg, iL_le, iL_lt, iL_eq, iL_ite, vp_T, b2_ne0, b2_eq1, nn_imp, true_and, iI_ite, not_true_eq_false, not_false_eq_true, true_implies, false_implies, and_true, Int.reduceLT, Int.reduceLE, Int.reduceEq, or_false, false_or, true_or, or_true, false_and, and_false, m0, hM _]
      refine ⟨fun a => by omega, fun _ => ⟨fun b => ?_, fun b => ⟨fun e => ?_, fun e => ?_⟩⟩⟩
      · exact ih (h + 1) (by omega) (by omega) (by omega) (by rw [fd_s _ (by omega) (decide_eq_false (fun q => b q.1))] at hk; exact hk)
      · exact ih (h + 1) (by omega) (by omega) (by omega) (by rw [fd_s _ (by omega) (decide_eq_false (fun q => e q.2))] at hk; exact hk)
      · rw [fd_t _ (by omega) (decide_eq_true ⟨b, e⟩), b2_t (by omega)] at hk; rw [iI_lit] at hk; exact hk
  have := L _ 0 rfl (by omega) (by omega) hk
  rw [iI_lit]; exact this
theorem c_X9_aheadOf (hS : Sys S) (hM : MP 50 P σ) (hW : WF P) {h : Int} (h0 : 0 ≤ h) (h1 : h < P 280) (hk : Φ [aI (bm (ahd P h) (P 280))] σ) : S 162 [aR 49, aI (iI h)] σ Φ := by
  refine m_X9_aheadOf hS (fun v hv hw => ?_)
  have g0 := WF_0 hW
  have gh := WF_h hW h0 h1
  unfold vc_X9_aheadOf_0
  have L : ∀ (d : Nat) (k : Int), (P 280 - k).toNat = d → 0 ≤ k → k ≤ P 280 → v 4 [some (aR 49), some (aI (iI h)), some (aI (bm (ahd P h) k)), some (aI (iI k)), none] [] σ := by
    intro d
    induction d with
    | zero =>
      intro k hd k0 k1
      refine w_X9_aheadOf_4 hS hv hw _ _ _ σ ?_
      unfold vc_X9_aheadOf_4
      try simp (disch := omega) only [iI_lit, iL_lit, iI_add, iI_sub, iI_mul, iI_neg, iI_lt, iI_le, iI_eq, iI_tn, iI_div, iI_l, iL_add, iL_sub, iL_mul, iL_neg, iL_le, iL_lt, iL_eq, iL_ite, vp_T, b2_ne0, b2_eq1, nn_imp, true_and, iI_ite, not_true_eq_false, not_false_eq_true, true_implies, false_implies, and_true, Int.reduceLT, Int.reduceLE, Int.reduceEq, or_false, false_or, true_or, or_true, false_and, and_false, hM _]
      rw [show k = P 280 by omega]
      exact ⟨fun _ => hk, fun a => by omega⟩
    | succ d ih =>
      intro k hd k0 k1
      refine w_X9_aheadOf_4 hS hv hw _ _ _ σ ?_
      unfold vc_X9_aheadOf_4
      have gk := WF_h hW k0 (by omega)
      have i := ih (k + 1) (by omega) (by omega) (by omega)
      have N : ahd P h k = false → vc_X9_aheadOf_67 S Φ v (iI h) (bm (ahd P h) k) (iI k) σ := by
        intro q
        unfold vc_X9_aheadOf_67 vc_X9_aheadOf_68
        try simp (disch := omega) only [iI_lit, iL_lit, iI_add, iI_sub, iI_mul, iI_neg, iI_lt, iI_le, iI_eq, iI_tn, iI_div, iI_l, iL_add, iL_sub, iL_mul, iL_neg, iL_le, iL_lt, iL_eq, iL_ite, vp_T, b2_ne0, b2_eq1, nn_imp, true_and, iI_ite, not_true_eq_false, not_false_eq_true, true_implies, false_implies, and_true, Int.reduceLT, Int.reduceLE, Int.reduceEq, or_false, false_or, true_or, or_true, false_and, and_false]
        rw [← iI_lit, Int32.or_zero, bm_sf k0 q]; exact i
      have Y : ahd P h k = true → vc_X9_aheadOf_68 S Φ v (iI h) (bm (ahd P h) k) (iI k) (iI 1) σ := by
        intro q
        unfold vc_X9_aheadOf_68
        try simp (disch := omega) only [iI_lit, iL_lit, iI_add, iI_sub, iI_mul, iI_neg, iI_lt, iI_le, iI_eq, iI_tn, iI_div, iI_l, iL_add, iL_sub, iL_mul, iL_neg, iL_le, iL_lt, iL_eq, iL_ite, vp_T, b2_ne0, b2_eq1, nn_imp, true_and, iI_ite, not_true_eq_false, not_false_eq_true, true_implies, false_implies, and_true, Int.reduceLT, Int.reduceLE, Int.reduceEq, or_false, false_or, true_or, or_true, false_and, and_false]
        rw [bm_st k0 q]; exact i
      unfold ahd at N Y
      have m0 : ∀ x : Int, (0 ≤ x ∧ x < P 280) → σ.1 50 (8 * x + 0).toNat = iI (P (8 * x)) := fun x hx => by rw [hM _ (by omega), Int.add_zero]
      try simp (disch := omega) only [iI_lit, iL_lit, iI_add, iI_sub, iI_mul, iI_neg, iI_lt, iI_le, iI_eq, iI_tn, iI_div, iI_l, iL_add, iL_sub, iL_mul, iL_neg, iL_le, iL_lt, iL_eq, iL_ite, vp_T, b2_ne0, b2_eq1, nn_imp, true_and, iI_ite, not_true_eq_false, not_false_eq_true, true_implies, false_implies, and_true, Int.reduceLT, Int.reduceLE, Int.reduceEq, or_false, false_or, true_or, or_true, false_and, and_false, m0, hM _]
      refine ⟨fun a => by omega, fun _ => ⟨fun a => N (decide_eq_false (by omega)), fun a => ⟨fun b => N (decide_eq_false (by omega)), fun b => ?_⟩⟩⟩
      refine c_X9_abs hS (by omega) ⟨_, rfl, ?_⟩
      try simp (disch := omega) only [iI_lit, iL_lit, iI_add, iI_sub, iI_mul, iI_neg, iI_lt, iI_le, iI_eq, iI_tn, iI_div, iI_l, iL_add, iL_sub, iL_mul, iL_neg, iL_le, iL_lt, iL_eq, iL_ite, vp_T, b2_ne0, b2_eq1, nn_imp, true_and, iI_ite, not_true_eq_false, not_false_eq_true, true_implies, false_implies, and_true, Int.reduceLT, Int.reduceLE, Int.reduceEq, or_false, false_or, true_or, or_true, false_and, and_false]
      refine ⟨fun c => N (decide_eq_false ?_), fun c => Y (decide_eq_true ?_)⟩
      · split at c <;> omega
      · split at c <;> omega
  have := L _ 0 rfl (by omega) (by omega)
  rw [iI_lit]; exact this
end C17
