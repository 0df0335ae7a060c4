section LEAF2
variable {S : Sp} {σ : St} {Φ : Rs}
theorem t_X0_canLayOut (hS : Sys S) {h : Int32} (hk : Φ [aI (b2 (¬ h < 0 ∧ ¬ 3 ≤ h))] σ) : S 14 [aI h] σ Φ := by
  refine m_X0_canLayOut hS (fun v _ _ => ?_)
  refine ⟨fun a => ?_, fun a => ⟨fun b => ?_, fun b => ?_⟩⟩
  · rw [b2_f (fun q => q.1 a)] at hk; exact hk
  · rw [b2_f (fun q => q.2 b)] at hk; exact hk
  · rw [b2_t ⟨a, b⟩] at hk; exact hk
theorem t_X9_isHole (hS : Sys S) {l1 : Int32} (hk : Φ [aI (b2 ((0 : Int64) ≤ l1.toInt64 ∧ l1.toInt64 ≤ (σ.1 50 (280 : Int32).toNatClampNeg - 1 : Int32).toInt64))] σ) : S 148 [aR 49, aI l1] σ Φ := m_X9_isHole hS (fun _ _ _ => ⟨by rw [vp_in_iff]; decide, hk⟩)
theorem t_X9_isWire (hS : Sys S) {l1 : Int32} (hk : Φ [aI (b2 ((0 : Int64) ≤ l1.toInt64 ∧ l1.toInt64 ≤ (σ.1 50 (281 : Int32).toNatClampNeg - 1 : Int32).toInt64))] σ) : S 149 [aR 49, aI l1] σ Φ := m_X9_isWire hS (fun _ _ _ => ⟨by rw [vp_in_iff]; decide, hk⟩)
theorem t_X9_isList (hS : Sys S) {l1 : Int32} (hk : Φ [aI (b2 ((0 : Int64) ≤ l1.toInt64 ∧ l1.toInt64 ≤ 3))] σ) : S 226 [aI l1] σ Φ := m_X9_isList hS (fun _ _ _ => hk)
theorem t_X9_isDead (hS : Sys S) {l1 : Int32} (hi : vp_in (8 * l1 + 6) 286) (hk : Φ [aI (b2 (σ.1 50 (8 * l1 + 6 : Int32).toNatClampNeg = 1))] σ) : S 152 [aR 49, aI l1] σ Φ := by
  refine m_X9_isDead hS (fun _ _ _ => ⟨hi, fun a => ?_, fun a => ?_⟩)
  · rw [b2_f a] at hk; exact hk
  · rw [b2_t a] at hk; exact hk
theorem t_X0_doesFire (hS : Sys S) {b : Nat} (h_b : isBl b) {l1 : Int32} (hk : Φ [aI (b2 (¬ l1 < 0 ∧ ¬ 20 ≤ l1 ∧ ¬ ((σ.1 b 4) >>> (l1 &&& 31)) &&& 1 = 0))] σ) : S 6 [aR b, aI l1] σ Φ := m_X0_doesFire hS h_b (fun _ _ _ => hk)
theorem t_X0_isBuried (hS : Sys S) {b : Nat} (h_b : isBl b) {l1 : Int32} (hk : Φ [aI (b2 (¬ l1 < 0 ∧ ¬ 20 ≤ l1 ∧ ¬ ((σ.1 b 5) >>> (l1 &&& 31)) &&& 1 = 0))] σ) : S 7 [aR b, aI l1] σ Φ := m_X0_isBuried hS h_b (fun _ _ _ => hk)
theorem t_X8_lostBy (hS : Sys S) {l1 : Int32} (hk : Φ [aI (((σ.1 13 4) &&& ((σ.1 20 4) ^^^ (-1))) &&& ((bitO l1) ^^^ (-1)))] σ) : S 135 [aR 0, aI l1] σ Φ := m_X8_lostBy hS (fun _ _ _ => hk)
theorem t_X8_bared (hS : Sys S) (hk : Φ [aI ((σ.1 20 5) &&& ((σ.1 13 5) ^^^ (-1)))] σ) : S 136 [aR 0] σ Φ := m_X8_bared hS (fun _ _ _ => hk)
theorem t_X2_hasShots (hS : Sys S) {p : Nat} (h_p : isPat p) {l1 : Int32} (hi : vp_in (l1 * 9 + 2) 180) (hk : Φ [aI (b2 (¬ σ.1 (p + 1) (l1 * 9 + 2 : Int32).toNatClampNeg = 5))] σ) : S 44 [aR p, aI l1] σ Φ := by
  refine m_X2_hasShots hS h_p (fun _ _ _ => ⟨hi, fun a => ?_, fun a => ?_⟩)
  · rw [b2_f (fun q => q a)] at hk; exact hk
  · rw [b2_t a] at hk; exact hk
end LEAF2
