/-- a Pattern at a place -/
def isPat (p : Nat) : Prop := oc p = some 1 ∧ fo p 0 = some (some (p + 1)) ∧ fo p 1 = some (some (p + 2)) ∧ fo p 2 = some (some (p + 3)) ∧ fo p 3 = some none ∧ fo p 4 = some none ∧ fo p 5 = some none ∧ al (p + 1) = some (1, 180) ∧ al (p + 2) = some (1, 120) ∧ al (p + 3) = some (1, 3)
theorem mkt27 : mktab[27]? = some (M_X2_mark, k_X2_mark) := rfl
theorem mkt25 : mktab[25]? = some (M_X2_isHole, k_X2_isHole) := rfl
theorem t_mark {S : Sp} (hS : Sys S) {p : Nat} (hp : isPat p) {h w : Int32} {σ : St} {Φ : Rs} (hin : vp_in (h * 9 + w) 180) (hk : Φ [aI (σ.1 (p + 1) (h * 9 + w).toNatClampNeg)] σ) : S 27 [aR p, aI h, aI w] σ Φ := by
  obtain ⟨h0, h1, h2, h3, h4, h5, h6, h7, h8, h9⟩ := hp
  refine go hS (fun _ _ _ _ q => q) hS.1 27 mkt27 (Nat.le_of_ble_eq_true rfl) (fun v hv => hv [] 12 0 _ _ _ ?_)
  simp only [↓reduceIte, Nat.reduceAdd, Nat.reduceEqDiff, reduceCtorEq, wp, mb, fnd, k_X2_mark, sem, ent0, pad, lay, M_X2_mark, gI, gR, gL, q1, q2, qR, qIR, h0, h1, h7]
  trace_state
  sorry
theorem t_isHole {S : Sp} (hS : Sys S) {p : Nat} (hp : isPat p) {h : Int32} {σ : St} {Φ : Rs} (h1 : 0 ≤ h → h < σ.1 p 3 → Φ [aI 1] σ) (h2 : ¬ (0 ≤ h ∧ h < σ.1 p 3) → Φ [aI 0] σ) : S 25 [aR p, aI h] σ Φ := by
  obtain ⟨g0, g1, g2, g3, g4, g5, g6, g7, g8, g9⟩ := hp
  refine go hS (fun _ _ _ _ q => q) hS.1 25 mkt25 (Nat.le_of_ble_eq_true rfl) (fun v hv => hv [] 12 0 _ _ _ ?_)
  simp only [↓reduceIte, Nat.reduceAdd, Nat.reduceEqDiff, reduceCtorEq, wp, mb, fnd, k_X2_isHole, sem, ent0, pad, lay, M_X2_isHole, gI, gR, gL, q1, q2, qR, qIR, br, g0, g4]
  trace_state
  sorry
