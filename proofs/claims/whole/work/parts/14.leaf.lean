theorem vp_in_b {x : Int32} {n : Nat} {y : Int32} (hy : y.toInt = (n : Int)) (h1 : ¬ x < 0) (h2 : ¬ y ≤ x) : vp_in x n := by
  rw [vp_in_iff]
  rw [toI_lt] at h1
  rw [toI_le] at h2
  have h0 : (0 : Int32).toInt = 0 := rfl
  omega
theorem vp_in_c {x : Int32} {n : Nat} {y : Int32} (hy : y.toInt + 1 = (n : Int)) (h1 : ¬ x < 0) (h2 : ¬ y < x) : vp_in x n := by
  rw [vp_in_iff]
  rw [toI_lt] at h1 h2
  have h0 : (0 : Int32).toInt = 0 := rfl
  omega
def kFirst (k c : Int32) : Int32 := if k = 0 then c else if k = 1 then c / 2 + 1 else if k = 2 then (c + 1) / 2 else if k = 3 then (c + 1) / 2 * 2 else if k = 4 then (if 9 ≤ c / 2 + 1 then 9 else c / 2 + 1) else 0
def kSecond (k c : Int32) : Int32 := if k = 2 then c / 2 else if k = 3 then c / 2 * 2 else 0
def kNeeds (k b : Int32) : Int32 := if k = 0 then 2 * b else if k = 1 then 2 * b - 1 else if k = 2 then 2 * b else if k = 3 then 3 * b else if k = 4 then 3 * b else 0
def bitO (h : Int32) : Int32 := if h < 0 then 0 else if 20 ≤ h then 0 else 1 <<< (h &&& 31)
section LEAF
variable {S : Sp} {σ : St} {Φ : Rs}
set_option maxRecDepth 20000 in
set_option maxHeartbeats 4000000 in
theorem t_X1_firstLoad (hS : Sys S) {k c : Int32} (hk : Φ [aI (kFirst k c)] σ) : S 17 [aI k, aI c] σ Φ := by
  refine m_X1_firstLoad hS (fun v _ _ => ?_)
  unfold vc_X1_firstLoad_0
  unfold kFirst at hk
  refine ⟨fun a => ?_, fun a => ⟨fun b => ?_, fun b => ⟨fun d => ?_, fun d => ⟨fun e => ?_, fun e => ⟨fun f => ⟨fun g => ?_, fun g => ?_⟩, fun f => ?_⟩⟩⟩⟩⟩ <;> simp_all
set_option maxRecDepth 20000 in
set_option maxHeartbeats 4000000 in
theorem t_X1_secondLoad (hS : Sys S) {k c : Int32} (hk : Φ [aI (kSecond k c)] σ) : S 18 [aI k, aI c] σ Φ := by
  refine m_X1_secondLoad hS (fun v _ _ => ?_)
  unfold vc_X1_secondLoad_0
  unfold kSecond at hk
  refine ⟨fun a => ?_, fun a => ⟨fun b => ?_, fun b => ?_⟩⟩ <;> simp_all
set_option maxRecDepth 20000 in
set_option maxHeartbeats 4000000 in
theorem t_X1_needs (hS : Sys S) {k c : Int32} (hk : Φ [aI (kNeeds k c)] σ) : S 20 [aI k, aI c] σ Φ := by
  refine m_X1_needs hS (fun v _ _ => ?_)
  unfold vc_X1_needs_0
  unfold kNeeds at hk
  refine ⟨fun a => ?_, fun a => ⟨fun b => ?_, fun b => ⟨fun d => ?_, fun d => ⟨fun e => ?_, fun e => ⟨fun f => ?_, fun f => ?_⟩⟩⟩⟩⟩ <;> simp_all
set_option maxRecDepth 20000 in
set_option maxHeartbeats 4000000 in
theorem t_X8_bitOf (hS : Sys S) {h : Int32} (hk : Φ [aI (bitO h)] σ) : S 140 [aI h] σ Φ := by
  refine m_X8_bitOf hS (fun v _ _ => ?_)
  unfold bitO at hk
  refine ⟨fun a => ?_, fun a => ⟨fun b => ?_, fun b => ?_⟩⟩
  · rw [if_pos a] at hk; exact hk
  · rw [if_neg a, if_pos b] at hk; exact hk
  · rw [if_neg a, if_neg b] at hk; exact hk
set_option maxRecDepth 20000 in
set_option maxHeartbeats 4000000 in
theorem t_X8_hasBit (hS : Sys S) {s h : Int32} (hk : Φ [aI (b2 (¬ h < 0 ∧ ¬ 20 ≤ h ∧ ¬ (s >>> (h &&& 31)) &&& 1 = 0))] σ) : S 141 [aI s, aI h] σ Φ := by
  refine m_X8_hasBit hS (fun v _ _ => ?_)
  refine ⟨fun a => ?_, fun a => ⟨fun b => ?_, fun b => ⟨fun d => ?_, fun d => ?_⟩⟩⟩
  · rw [b2_f (fun q => q.1 a)] at hk; exact hk
  · rw [b2_f (fun q => q.2.1 b)] at hk; exact hk
  · rw [b2_f (fun q => q.2.2 d)] at hk; exact hk
  · rw [b2_t ⟨a, b, d⟩] at hk; exact hk
set_option maxRecDepth 20000 in
set_option maxHeartbeats 4000000 in
theorem t_X8_isHarm (hS : Sys S) {h : Int32} (hk : Φ [aI (b2 (¬ h < 0 ∧ ¬ 3 < h))] σ) : S 137 [aI h] σ Φ := by
  refine m_X8_isHarm hS (fun v _ _ => ?_)
  refine ⟨fun a => ?_, fun a => ⟨fun b => ?_, fun b => ?_⟩⟩
  · rw [b2_f (fun q => q.1 a)] at hk; exact hk
  · rw [b2_f (fun q => q.2 b)] at hk; exact hk
  · rw [b2_t ⟨a, b⟩] at hk; exact hk
set_option maxRecDepth 20000 in
set_option maxHeartbeats 4000000 in
theorem t_X2_isHole (hS : Sys S) {p : Nat} (h_p : isPat p) {h : Int32} (hk : Φ [aI (b2 (¬ h < 0 ∧ ¬ σ.1 p 3 ≤ h))] σ) : S 25 [aR p, aI h] σ Φ := by
  refine m_X2_isHole hS h_p (fun v _ _ => ?_)
  refine ⟨fun a => ?_, fun a => ⟨fun b => ?_, fun b => ?_⟩⟩
  · rw [b2_f (fun q => q.1 a)] at hk; exact hk
  · rw [b2_f (fun q => q.2 b)] at hk; exact hk
  · rw [b2_t ⟨a, b⟩] at hk; exact hk
set_option maxRecDepth 20000 in
set_option maxHeartbeats 4000000 in
theorem t_X2_isWire (hS : Sys S) {p : Nat} (h_p : isPat p) {h : Int32} (hk : Φ [aI (b2 (¬ h < 0 ∧ ¬ σ.1 p 4 ≤ h))] σ) : S 26 [aR p, aI h] σ Φ := by
  refine m_X2_isWire hS h_p (fun v _ _ => ?_)
  refine ⟨fun a => ?_, fun a => ⟨fun b => ?_, fun b => ?_⟩⟩
  · rw [b2_f (fun q => q.1 a)] at hk; exact hk
  · rw [b2_f (fun q => q.2 b)] at hk; exact hk
  · rw [b2_t ⟨a, b⟩] at hk; exact hk
set_option maxRecDepth 20000 in
set_option maxHeartbeats 4000000 in
theorem t_X2_mark (hS : Sys S) {p : Nat} (h_p : isPat p) {h w : Int32} (hi : vp_in (h * 9 + w) 180) (hk : Φ [aI (σ.1 (p + 1) (h * 9 + w).toNatClampNeg)] σ) : S 27 [aR p, aI h, aI w] σ Φ := m_X2_mark hS h_p (fun v _ _ => ⟨hi, hk⟩)
set_option maxRecDepth 20000 in
set_option maxHeartbeats 4000000 in
theorem t_X2_cord (hS : Sys S) {p : Nat} (h_p : isPat p) {h w : Int32} (hi : vp_in (h * 3 + w) 120) (hk : Φ [aI (σ.1 (p + 2) (h * 3 + w).toNatClampNeg)] σ) : S 28 [aR p, aI h, aI w] σ Φ := m_X2_cord hS h_p (fun v _ _ => ⟨hi, hk⟩)
set_option maxRecDepth 20000 in
set_option maxHeartbeats 4000000 in
theorem t_X2_fits (hS : Sys S) {w x : Int32} (hk : Φ [aI (b2 (¬ w < 0 ∧ ¬ 6 < w ∧ ¬ x < sv 101 w.toNatClampNeg ∧ ¬ sv 102 w.toNatClampNeg < x))] σ) : S 24 [aI w, aI x] σ Φ := by
  refine m_X2_fits hS (fun v _ _ => ?_)
  refine ⟨fun a => ?_, fun a => ⟨fun b => ?_, fun b => ⟨vp_in_c rfl a b, fun d => ?_, fun d => ⟨vp_in_c rfl a b, fun e => ?_, fun e => ?_⟩⟩⟩⟩
  · rw [b2_f (fun q => q.1 a)] at hk; exact hk
  · rw [b2_f (fun q => q.2.1 b)] at hk; exact hk
  · rw [b2_f (fun q => q.2.2.1 d)] at hk; exact hk
  · rw [b2_f (fun q => q.2.2.2 e)] at hk; exact hk
  · rw [b2_t ⟨a, b, d, e⟩] at hk; exact hk
set_option maxRecDepth 20000 in
set_option maxHeartbeats 4000000 in
theorem t_X6_isList (hS : Sys S) {h : Int32} (hk : Φ [aI (b2 (¬ h < 0 ∧ ¬ 4 ≤ h))] σ) : S 75 [aI h] σ Φ := by
  refine m_X6_isList hS (fun v _ _ => ?_)
  refine ⟨fun a => ?_, fun a => ⟨fun b => ?_, fun b => ?_⟩⟩
  · rw [b2_f (fun q => q.1 a)] at hk; exact hk
  · rw [b2_f (fun q => q.2 b)] at hk; exact hk
  · rw [b2_t ⟨a, b⟩] at hk; exact hk
set_option maxRecDepth 20000 in
set_option maxHeartbeats 4000000 in
theorem t_X6_isMissing (hS : Sys S) {h : Int32} (hi : vp_in h 4) (hk : Φ [aI (b2 (σ.1 47 h.toNatClampNeg = -1))] σ) : S 76 [aR 41, aI h] σ Φ := by
  refine m_X6_isMissing hS (fun v _ _ => ⟨hi, fun a => ?_, fun a => ?_⟩)
  · rw [b2_f a] at hk; exact hk
  · rw [b2_t a] at hk; exact hk
set_option maxRecDepth 20000 in
set_option maxHeartbeats 4000000 in
theorem t_X6_hasPlace (hS : Sys S) {h w : Int32} (hi : vp_in h 4) (hk : Φ [aI (b2 (¬ w < 0 ∧ ¬ σ.1 47 h.toNatClampNeg ≤ w))] σ) : S 77 [aR 41, aI h, aI w] σ Φ := by
  refine m_X6_hasPlace hS (fun v _ _ => ⟨fun a => ?_, fun a => ⟨hi, fun b => ?_, fun b => ?_⟩⟩)
  · rw [b2_f (fun q => q.1 a)] at hk; exact hk
  · rw [b2_f (fun q => q.2 b)] at hk; exact hk
  · rw [b2_t ⟨a, b⟩] at hk; exact hk
set_option maxRecDepth 20000 in
set_option maxHeartbeats 4000000 in
theorem t_X6_hasSpan (hS : Sys S) {h w n : Int32} (hi : vp_in h 4) (hk : Φ [aI (b2 (¬ w < 0 ∧ ¬ n < 0 ∧ ¬ σ.1 47 h.toNatClampNeg < w ∧ ¬ σ.1 47 h.toNatClampNeg - w < n))] σ) : S 78 [aR 41, aI h, aI w, aI n] σ Φ := by
  refine m_X6_hasSpan hS (fun v _ _ => ⟨fun a => ?_, fun a => ⟨fun b => ?_, fun b => ⟨hi, fun d => ?_, fun d => ⟨hi, fun e => ?_, fun e => ?_⟩⟩⟩⟩)
  · rw [b2_f (fun q => q.1 a)] at hk; exact hk
  · rw [b2_f (fun q => q.2.1 b)] at hk; exact hk
  · rw [b2_f (fun q => q.2.2.1 d)] at hk; exact hk
  · rw [b2_f (fun q => q.2.2.2 e)] at hk; exact hk
  · rw [b2_t ⟨a, b, d, e⟩] at hk; exact hk
theorem lg_lt (x y : Int64) : (lg_cmp x y < 0) ↔ x < y := by
  rw [← Int32.not_le, lg_cmp_ge, Int64.not_le]
theorem lg_gt (x y : Int64) : (0 < lg_cmp x y) ↔ y < x := by
  unfold lg_cmp
  by_cases h : x > y
  · rw [if_pos h]; exact ⟨fun _ => h, fun _ => by decide⟩
  · rw [if_neg h]
    by_cases e : x = y
    · rw [if_pos e]; exact ⟨fun q => absurd q (by decide), fun q => absurd q h⟩
    · rw [if_neg e]; exact ⟨fun q => absurd q (by decide), fun q => absurd q h⟩
set_option maxRecDepth 20000 in
set_option maxHeartbeats 4000000 in
theorem t_X9_in (hS : Sys S) {x a b : Int64} (hk : Φ [aI (b2 (a ≤ x ∧ x ≤ b))] σ) : S 143 [aL x, aL a, aL b] σ Φ := by
  refine m_X9_in hS (fun v _ _ => ⟨fun c => ?_, fun c => ⟨fun d => ?_, fun d => ?_⟩⟩)
  · rw [b2_f (fun q => absurd q.1 (Int64.not_le.mpr ((lg_lt _ _).mp c)))] at hk; exact hk
  · rw [b2_f (fun q => absurd q.2 (Int64.not_le.mpr ((lg_gt _ _).mp d)))] at hk; exact hk
  · rw [b2_t ⟨Int64.not_lt.mp (fun q => c ((lg_lt _ _).mpr q)), Int64.not_lt.mp (fun q => d ((lg_gt _ _).mpr q))⟩] at hk; exact hk
set_option maxRecDepth 20000 in
set_option maxHeartbeats 4000000 in
theorem t_X9_less (hS : Sys S) {x y : Int32} (hk : Φ [aI (if y ≤ x then y else x)] σ) : S 144 [aI x, aI y] σ Φ := by
  refine m_X9_less hS (fun v _ _ => ⟨fun c => ?_, fun c => ?_⟩)
  · rw [if_pos c] at hk; exact hk
  · rw [if_neg c] at hk; exact hk
set_option maxRecDepth 20000 in
set_option maxHeartbeats 4000000 in
theorem t_X9_its (hS : Sys S) {h w : Int32} (hi : vp_in (8 * h + w) 286) (hk : Φ [aI (σ.1 50 (8 * h + w).toNatClampNeg)] σ) : S 150 [aR 49, aI h, aI w] σ Φ := m_X9_its hS (fun v _ _ => ⟨hi, hk⟩)
set_option maxRecDepth 20000 in
set_option maxHeartbeats 4000000 in
theorem t_X9_wires (hS : Sys S) {h w : Int32} (hi : vp_in (160 + 3 * h + w) 286) (hk : Φ [aI (σ.1 50 (160 + 3 * h + w).toNatClampNeg)] σ) : S 151 [aR 49, aI h, aI w] σ Φ := m_X9_wires hS (fun v _ _ => ⟨hi, hk⟩)
set_option maxRecDepth 20000 in
set_option maxHeartbeats 4000000 in
theorem t_X9_has (hS : Sys S) {s k : Int32} (hk : Φ [aI (b2 ((s >>> (k &&& 31)) &&& 1 = 1))] σ) : S 173 [aR 49, aI s, aI k] σ Φ := by
  refine m_X9_has hS (fun v _ _ => ⟨fun a => ?_, fun a => ?_⟩)
  · rw [b2_f a] at hk; exact hk
  · rw [b2_t a] at hk; exact hk
end LEAF
