/-! what a call may change -/
def Fr (c : Nat → Nat → Prop) (σ σ' : St) : Prop := (∀ k j, ¬ c k j → σ'.1 k j = σ.1 k j) ∧ σ'.2 = σ.2
theorem Fr_rf {c : Nat → Nat → Prop} {σ : St} : Fr c σ σ := ⟨fun _ _ _ => rfl, rfl⟩
theorem Fr_tr {c : Nat → Nat → Prop} {σ σ1 σ2 : St} (h1 : Fr c σ σ1) (h2 : Fr c σ1 σ2) : Fr c σ σ2 := ⟨fun k j hn => (h2.1 k j hn).trans (h1.1 k j hn), h2.2.trans h1.2⟩
theorem Fr_mo {c d : Nat → Nat → Prop} {σ σ' : St} (h : Fr c σ σ') (hm : ∀ k j, c k j → d k j) : Fr d σ σ' := ⟨fun k j hn => h.1 k j (fun q => hn (hm k j q)), h.2⟩
theorem Fr_up {c : Nat → Nat → Prop} {σ σ' : St} {a j : Nat} {x : Int32} (h : Fr c σ σ') (hc : c a j) : Fr c σ (upI σ' a j x) := by
  refine ⟨fun k i hn => ?_, h.2⟩
  rw [← h.1 k i hn]
  show (if k = a then upd (σ'.1 a) j x else σ'.1 k) i = _
  by_cases q : k = a
  · subst q
    rw [if_pos rfl]
    by_cases r : i = j
    · subst r; exact absurd hc hn
    · exact if_neg r
  · rw [if_neg q]
theorem Fr_k {c : Nat → Nat → Prop} {σ σ' : St} (h : Fr c σ σ') {k : Nat} (hn : ∀ j, ¬ c k j) : σ'.1 k = σ.1 k := funext fun j => h.1 k j (hn j)
theorem up_h {σ : St} {a i j : Nat} {x : Int32} (h : i = j) : (upI σ a j x).1 a i = x := by
  subst h
  show (if a = a then upd (σ.1 a) i x else σ.1 a) i = x
  rw [if_pos rfl]; exact if_pos rfl
theorem up_m {σ : St} {a i j : Nat} {x : Int32} (h : ¬ i = j) : (upI σ a j x).1 a i = σ.1 a i := by
  show (if a = a then upd (σ.1 a) j x else σ.1 a) i = _
  rw [if_pos rfl]; exact if_neg h
theorem up_n {σ : St} {a k j : Nat} {x : Int32} (h : ¬ k = a) : (upI σ a j x).1 k = σ.1 k := if_neg h
/-- a number of the pattern becomes another -/
def pu (P : Pl) (i x : Int) : Pl := fun k => if k = i then x else P k
theorem pu_e {P : Pl} {i x k : Int} (h : k = i) : pu P i x k = x := if_pos h
theorem pu_n {P : Pl} {i x k : Int} (h : ¬ k = i) : pu P i x k = P k := if_neg h
theorem MP_up {m : Nat} {P : Pl} {σ σ' : St} {i x : Int} (e : σ' = upI σ m i.toNat (iI x)) (h : MP m P σ) (hi : 0 ≤ i ∧ i < 286) : MP m (pu P i x) σ' := by
  intro k hk
  rw [e]
  by_cases q : k = i
  · subst q; rw [up_h rfl, pu_e rfl]
  · rw [up_m (by omega), pu_n q]; exact h k hk
theorem MP_o {m a j : Nat} {P : Pl} {σ σ' : St} {x : Int32} (e : σ' = upI σ a j x) (h : MP m P σ) (hn : ¬ m = a) : MP m P σ' := by
  intro k hk; rw [e, up_n hn]; exact h k hk
theorem MP_f {m : Nat} {P : Pl} {σ σ' : St} {c : Nat → Nat → Prop} (h : MP m P σ) (hf : Fr c σ σ') (hn : ∀ j, ¬ c m j) : MP m P σ' := by
  intro k hk; rw [Fr_k hf hn]; exact h k hk
def FP (p : Nat) : Nat → Nat → Prop := fun k _ => p ≤ k ∧ k ≤ p + 3
def F50 : Nat → Nat → Prop := fun k _ => k = 50
theorem CP_f {p : Nat} {P : Pl} {σ σ' : St} {c : Nat → Nat → Prop} (h : CP p P σ) (hf : Fr c σ σ') (hn : ∀ k j, p ≤ k → k ≤ p + 3 → ¬ c k j) : CP p P σ' := by
  have e0 := Fr_k hf (k := p) (fun j => hn _ j (by omega) (by omega))
  have e1 := Fr_k hf (k := p + 1) (fun j => hn _ j (by omega) (by omega))
  have e2 := Fr_k hf (k := p + 2) (fun j => hn _ j (by omega) (by omega))
  have e3 := Fr_k hf (k := p + 3) (fun j => hn _ j (by omega) (by omega))
  unfold CP
  rw [e0, e1, e2, e3]
  exact h
/-- a hole more -/
def addH (P : Pl) (r c k ch b i : Int) : Pl := pu (pu (pu (pu (pu (pu (pu (pu (pu P (8 * P 280) r) (8 * P 280 + 1) c) (8 * P 280 + 2) k) (8 * P 280 + 3) ch) (8 * P 280 + 4) b) (8 * P 280 + 5) i) (8 * P 280 + 6) 0) (8 * P 280 + 7) (made r k b)) 280 (P 280 + 1)
def okH (r c k ch b i : Int) : Prop := (0 ≤ r ∧ r ≤ 4) ∧ (0 ≤ c ∧ c ≤ 9) ∧ (0 ≤ k ∧ k ≤ 5) ∧ (1 ≤ ch ∧ ch ≤ 99) ∧ (1 ≤ b ∧ b ≤ 20) ∧ (0 ≤ i ∧ i ≤ 999)
theorem made_r {r k b : Int} : 0 ≤ made r k b ∧ made r k b ≤ 999999999 := by
  unfold made m1d m2d m3d m4d m5d
  (repeat' split) <;> omega
theorem hat_no {P : Pl} (hW : WF P) {r c : Int} (h : hat P r c = -1) : ∀ g, 0 ≤ g → g < P 280 → P (8 * g) = r → ¬ P (8 * g + 1) = c := by
  unfold hat at h
  rcases fd_sp (fun h => decide (P (8 * h) = r ∧ P (8 * h + 1) = c)) (h := 0) (n := P 280) (by omega) (WF_0 hW).1.1 with ⟨q1, q2⟩ | ⟨q1, q2, q3, q4⟩
  · intro g g0 g1 e1 e2
    have := q2 g g0 g1
    simp only [decide_eq_false_iff_not] at this
    exact this ⟨e1, e2⟩
  · rw [h] at q1; omega
theorem addH_W {P : Pl} (hW : WF P) {r c k ch b i : Int} (ho : okH r c k ch b i) (hh : hat P r c = -1) (hn : P 280 < 20) : WF (addH P r c k ch b i) := by
  have g0 := WF_0 hW
  have hm := made_r (r := r) (k := k) (b := b)
  obtain ⟨o1, o2, o3, o4, o5, o6⟩ := ho
  unfold addH
  refine ⟨?_, ?_, ?_, ?_⟩
  · simp (disch := omega) only [pu_e, pu_n, ] ; omega
  · intro h h0 h1
    have e : pu (pu (pu (pu (pu (pu (pu (pu (pu P (8 * P 280) r) (8 * P 280 + 1) c) (8 * P 280 + 2) k) (8 * P 280 + 3) ch) (8 * P 280 + 4) b) (8 * P 280 + 5) i) (8 * P 280 + 6) 0) (8 * P 280 + 7) (made r k b)) 280 (P 280 + 1) 280 = P 280 + 1 := by simp (disch := omega) only [pu_e, pu_n, ]
    rw [e] at h1
    by_cases q : h < P 280
    · have := WF_h hW h0 q
      simp (disch := omega) only [pu_e, pu_n, ]
      exact this
    · have q : h = P 280 := by omega
      subst q
      simp (disch := omega) only [pu_e, pu_n, ]
      omega
  · intro w h0 h1
    have e : pu (pu (pu (pu (pu (pu (pu (pu (pu P (8 * P 280) r) (8 * P 280 + 1) c) (8 * P 280 + 2) k) (8 * P 280 + 3) ch) (8 * P 280 + 4) b) (8 * P 280 + 5) i) (8 * P 280 + 6) 0) (8 * P 280 + 7) (made r k b)) 280 (P 280 + 1) 281 = P 281 := by simp (disch := omega) only [pu_e, pu_n, ]
    rw [e] at h1
    have := WF_w hW h0 h1
    simp (disch := omega) only [pu_e, pu_n, ]
    omega
  · intro g h h0 hgh h1
    have e : pu (pu (pu (pu (pu (pu (pu (pu (pu P (8 * P 280) r) (8 * P 280 + 1) c) (8 * P 280 + 2) k) (8 * P 280 + 3) ch) (8 * P 280 + 4) b) (8 * P 280 + 5) i) (8 * P 280 + 6) 0) (8 * P 280 + 7) (made r k b)) 280 (P 280 + 1) 280 = P 280 + 1 := by simp (disch := omega) only [pu_e, pu_n, ]
    rw [e] at h1
    by_cases q : h < P 280
    · simp (disch := omega) only [pu_e, pu_n, ]
      exact hW.2.2.2 g h h0 hgh q
    · have q : h = P 280 := by omega
      subst q
      simp (disch := omega) only [pu_e, pu_n, ]
      exact hat_no hW hh g h0 (by omega)
section C18
variable {S : Sp} {σ : St} {Φ : Rs} {P : Pl} {p : Nat}
theorem c_X9_hole (hS : Sys S) (hM : MP 50 P σ) (hW : WF P) {r c k ch b i : Int} (r1 : -2147483648 ≤ r ∧ r < 2147483648) (r2 : -2147483648 ≤ c ∧ c < 2147483648) (r3 : -2147483648 ≤ k ∧ k < 2147483648) (r4 : -2147483648 ≤ ch ∧ ch < 2147483648) (r5 : -2147483648 ≤ b ∧ b < 2147483648) (r6 : -2147483648 ≤ i ∧ i < 2147483648)
    (k1 : ¬ okH r c k ch b i → Φ [aI (iI (-2))] σ) (k2 : okH r c k ch b i → ¬ hat P r c = -1 → Φ [aI (iI (-3))] σ) (k3 : okH r c k ch b i → hat P r c = -1 → P 280 = 20 → Φ [aI (iI (-4))] σ)
    (k4 : okH r c k ch b i → hat P r c = -1 → P 280 < 20 → ∀ σ', Fr F50 σ σ' → MP 50 (pu (addH P r c k ch b i) 285 0) σ' → Φ [aI (iI (P 280))] σ') : S 161 [aR 49, aI (iI r), aI (iI c), aI (iI k), aI (iI ch), aI (iI b), aI (iI i)] σ Φ := by
  refine m_X9_hole hS (fun v hv hw => ?_)
  have g0 := WF_0 hW
  unfold vc_X9_hole_0
  unfold okH at k1 k2 k3 k4
  try simp (disch := omega) only [iI_lit, iL_lit, iI_add, iI_sub, iI_mul, iI_neg, iI_lt, iI_le, iI_eq, iI_tn, iI_div, iI_l, iL_add, iL_sub, iL_mul, iL_neg, iL_le, iL_lt, iL_eq, iL_ite, vp_T, b2_ne0, b2_eq1, nn_imp, true_and, iI_ite, not_true_eq_false, not_false_eq_true, true_implies, false_implies, and_true, Int.reduceLT, Int.reduceLE, Int.reduceEq, or_false, false_or, true_or, or_true, false_and, and_false, hM _]
  refine ⟨fun a => k1 (by omega), fun a1 => ⟨fun a => k1 (by omega), fun a2 => ⟨fun a => k1 (by omega), fun a3 => ⟨fun a => k1 (by omega), fun a4 => ⟨fun a => k1 (by omega), fun a5 => ⟨fun a6 => ?_, fun a => k1 (by omega)⟩⟩⟩⟩⟩⟩
  refine c_X9_isTaken hS hM hW (by omega) (by omega) ⟨_, rfl, ?_⟩
  try simp (disch := omega) only [iI_lit, iL_lit, iI_add, iI_sub, iI_mul, iI_neg, iI_lt, iI_le, iI_eq, iI_tn, iI_div, iI_l, iL_add, iL_sub, iL_mul, iL_neg, iL_le, iL_lt, iL_eq, iL_ite, vp_T, b2_ne0, b2_eq1, nn_imp, true_and, iI_ite, not_true_eq_false, not_false_eq_true, true_implies, false_implies, and_true, Int.reduceLT, Int.reduceLE, Int.reduceEq, or_false, false_or, true_or, or_true, false_and, and_false, hM _]
  refine ⟨fun t => ⟨fun a => ?_, fun a => k3 (by omega) t a⟩, fun t => k2 (by omega) t⟩
  intro σ1 e1
  have m1 := MP_up e1 hM (by omega)
  have f1 : Fr F50 σ σ1 := by rw [e1]; exact Fr_up Fr_rf rfl
  intro σ2 e2
  have m2 := MP_up e2 m1 (by omega)
  have f2 : Fr F50 σ σ2 := by rw [e2]; exact Fr_up f1 rfl
  intro σ3 e3
  have m3 := MP_up e3 m2 (by omega)
  have f3 : Fr F50 σ σ3 := by rw [e3]; exact Fr_up f2 rfl
  intro σ4 e4
  have m4 := MP_up e4 m3 (by omega)
  have f4 : Fr F50 σ σ4 := by rw [e4]; exact Fr_up f3 rfl
  intro σ5 e5
  have m5 := MP_up e5 m4 (by omega)
  have f5 : Fr F50 σ σ5 := by rw [e5]; exact Fr_up f4 rfl
  intro σ6 e6
  have m6 := MP_up e6 m5 (by omega)
  have f6 : Fr F50 σ σ6 := by rw [e6]; exact Fr_up f5 rfl
  intro σ7 e7
  have m7 := MP_up e7 m6 (by omega)
  have f7 : Fr F50 σ σ7 := by rw [e7]; exact Fr_up f6 rfl
  refine c_X9_madeBy hS (by omega) (by omega) (by omega) ⟨_, rfl, ?_⟩
  intro σ8 e8
  have m8 := MP_up e8 m7 (by omega)
  have f8 : Fr F50 σ σ8 := by rw [e8]; exact Fr_up f7 rfl
  try simp (disch := omega) only [iI_lit, iL_lit, iI_add, iI_sub, iI_mul, iI_neg, iI_lt, iI_le, iI_eq, iI_tn, iI_div, iI_l, iL_add, iL_sub, iL_mul, iL_neg, iL_le, iL_lt, iL_eq, iL_ite, vp_T, b2_ne0, b2_eq1, nn_imp, true_and, iI_ite, not_true_eq_false, not_false_eq_true, true_implies, false_implies, and_true, Int.reduceLT, Int.reduceLE, Int.reduceEq, or_false, false_or, true_or, or_true, false_and, and_false, m8 _, pu_n]
  intro σ9 e9
  have m9 := MP_up e9 m8 (by omega)
  have f9 : Fr F50 σ σ9 := by rw [e9]; exact Fr_up f8 rfl
  intro σ10 e10
  have m10 := MP_up e10 m9 (by omega)
  have f10 : Fr F50 σ σ10 := by rw [e10]; exact Fr_up f9 rfl
  try simp (disch := omega) only [iI_lit, iL_lit, iI_add, iI_sub, iI_mul, iI_neg, iI_lt, iI_le, iI_eq, iI_tn, iI_div, iI_l, iL_add, iL_sub, iL_mul, iL_neg, iL_le, iL_lt, iL_eq, iL_ite, vp_T, b2_ne0, b2_eq1, nn_imp, true_and, iI_ite, not_true_eq_false, not_false_eq_true, true_implies, false_implies, and_true, Int.reduceLT, Int.reduceLE, Int.reduceEq, or_false, false_or, true_or, or_true, false_and, and_false, m10 _, pu_n, pu_e]
  rw [show P 280 + 1 - 1 = P 280 by omega]
  refine k4 (by omega) t (by omega) σ10 f10 ?_
  unfold addH
  exact m10
end C18
