/-! the class's operations that settle -/
def FMU : Nat → Nat → Prop := fun k j => (1 ≤ k ∧ k ≤ 4) ∨ (13 ≤ k ∧ k ≤ 19) ∨ (27 ≤ k ∧ k ≤ 33) ∨ (k = 0 ∧ (j = 11 ∨ j = 12 ∨ j = 13))
def FAD : Nat → Nat → Prop := fun k j => k = 50 ∨ FPL k j
def CLR (σ : St) : Prop := σ.1 0 11 = iI 0 ∧ σ.1 0 12 = iI 0 ∧ σ.1 0 13 = iI 0
theorem CLR_R {P : Pl} {σ : St} (h : CLR σ) : RKd P σ := Or.inl h.1
theorem CLR_D {P : Pl} {σ : St} (h : CLR σ) : PDd P σ := Or.inl h.2.1
theorem dropN_W : ∀ (n : Nat) (Q : Pl), ((0 ≤ Q 280 ∧ Q 280 ≤ 20) ∧ (0 ≤ Q 281 ∧ Q 281 ≤ 40) ∧ (1 ≤ Q 282 ∧ Q 282 ≤ 99) ∧ (1 ≤ Q 283 ∧ Q 283 ≤ 9999) ∧ (5 ≤ Q 284 ∧ Q 284 ≤ 99) ∧ (0 ≤ Q 285 ∧ Q 285 ≤ 40)) →
    (∀ h, 0 ≤ h → h < Q 280 → (0 ≤ Q (8 * h) ∧ Q (8 * h) ≤ 4) ∧ (0 ≤ Q (8 * h + 1) ∧ Q (8 * h + 1) ≤ 9) ∧ (0 ≤ Q (8 * h + 2) ∧ Q (8 * h + 2) ≤ 5) ∧ (1 ≤ Q (8 * h + 3) ∧ Q (8 * h + 3) ≤ 99) ∧ (1 ≤ Q (8 * h + 4) ∧ Q (8 * h + 4) ≤ 20) ∧ (0 ≤ Q (8 * h + 5) ∧ Q (8 * h + 5) ≤ 999) ∧ (0 ≤ Q (8 * h + 6) ∧ Q (8 * h + 6) ≤ 1) ∧ (0 ≤ Q (8 * h + 7) ∧ Q (8 * h + 7) ≤ 999999999)) →
    (∀ g h, 0 ≤ g → g < h → h < Q 280 → Q (8 * g) = Q (8 * h) → ¬ Q (8 * g + 1) = Q (8 * h + 1)) → (n : Int) ≤ Q 281 →
    (∀ w, 0 ≤ w → w < Q 281 → (-1 ≤ Q (160 + 3 * w) ∧ Q (160 + 3 * w) ≤ Q 280) ∧ (0 ≤ Q (160 + 3 * w + 1) ∧ Q (160 + 3 * w + 1) ≤ Q 280) ∧ (0 ≤ Q (160 + 3 * w + 2) ∧ Q (160 + 3 * w + 2) ≤ 500) ∧ ((n : Int) ≤ w → Q (160 + 3 * w) < Q 280 ∧ Q (160 + 3 * w + 1) < Q 280)) → WF (dropN Q n) ∧ dropN Q n 285 = Q 285
  | 0, Q, q0, qh, qd, qn, qw => ⟨show WF Q from ⟨q0, qh, fun w w0 w1 => by have := qw w w0 w1; omega, qd⟩, rfl⟩
  | n + 1, Q, q0, qh, qd, qn, qw => by
    have rn := qw n (by omega) (by omega)
    show WF (if Q (160 + 3 * (n : Int)) = Q 280 ∨ Q (160 + 3 * (n : Int) + 1) = Q 280 then dropN (cutP Q n) n else dropN Q n) ∧ (if Q (160 + 3 * (n : Int)) = Q 280 ∨ Q (160 + 3 * (n : Int) + 1) = Q 280 then dropN (cutP Q n) n else dropN Q n) 285 = Q 285
    by_cases c : Q (160 + 3 * (n : Int)) = Q 280 ∨ Q (160 + 3 * (n : Int) + 1) = Q 280
    · rw [if_pos c]
      have eo : ∀ i, (i < 160 ∨ 281 < i ∨ i = 280) → cutP Q n i = Q i := fun i hi => by unfold cutP; rw [if_neg (by omega), if_neg (by omega)]
      have e1 : cutP Q n 281 = Q 281 - 1 := by unfold cutP; rw [if_pos rfl]
      have e0 := eo 280 (by omega)
      have r := dropN_W n (cutP Q n) (by rw [e0, e1, eo 282 (by omega), eo 283 (by omega), eo 284 (by omega), eo 285 (by omega)]; omega) (fun h h0 h1 => by
        rw [e0] at h1
        rw [eo _ (by omega), eo _ (by omega), eo _ (by omega), eo _ (by omega), eo _ (by omega), eo _ (by omega), eo _ (by omega), eo _ (by omega)]
        exact qh h h0 h1) (fun a b a0 ab b1 => by
        rw [e0] at b1
        rw [eo _ (by omega), eo _ (by omega), eo _ (by omega), eo _ (by omega)]
        exact qd a b a0 ab b1) (by omega) (fun w w0 w1 => by
        rw [e1] at w1
        rw [e0]
        by_cases q : w < n
        · have := qw w w0 (by omega)
          have a : ∀ k, 0 ≤ k → k < 3 → cutP Q n (160 + 3 * w + k) = Q (160 + 3 * w + k) := fun k k0 k1 => by unfold cutP; rw [if_neg (by omega), if_neg (by omega)]
          have a0 := a 0 (by omega) (by omega)
          rw [Int.add_zero] at a0
          rw [a0, a 1 (by omega) (by omega), a 2 (by omega) (by omega)]
          exact ⟨this.1, this.2.1, this.2.2.1, fun z => by omega⟩
        · have := qw (w + 1) (by omega) (by omega)
          have a : ∀ k, 0 ≤ k → k < 3 → cutP Q n (160 + 3 * w + k) = Q (160 + 3 * (w + 1) + k) := fun k k0 k1 => by unfold cutP; rw [if_neg (by omega), if_pos (by omega)]; exact congrArg Q (by omega)
          have a0 := a 0 (by omega) (by omega)
          rw [Int.add_zero, Int.add_zero] at a0
          rw [a0, a 1 (by omega) (by omega), a 2 (by omega) (by omega)]
          exact ⟨this.1, this.2.1, this.2.2.1, fun z => this.2.2.2 (by omega)⟩)
      exact ⟨r.1, r.2.trans (eo 285 (by omega))⟩
    · rw [if_neg c]
      exact dropN_W n Q q0 qh qd (by omega) (fun w w0 w1 => by
        have := qw w w0 w1
        refine ⟨this.1, this.2.1, this.2.2.1, fun z => ?_⟩
        by_cases q : w = n
        · subst q; omega
        · exact this.2.2.2 (by omega))
theorem dropP_W {P : Pl} (hW : WF P) (h : 0 < P 280) : WF (dropP P) := by
  have g0 := WF_0 hW
  have e : pu P 280 (P 280 - 1) 280 = P 280 - 1 := pu_e rfl
  refine (dropN_W _ (pu P 280 (P 280 - 1)) ?_ (fun k k0 k1 => ?_) (fun a b a0 ab b1 => ?_) ?_ (fun w w0 w1 => ?_)).1
  · simp (disch := omega) only [pu_e, pu_n, ]; omega
  · rw [e] at k1
    simp (disch := omega) only [pu_e, pu_n, ]
    exact WF_h hW k0 (by omega)
  · rw [e] at b1
    simp (disch := omega) only [pu_e, pu_n, ]
    exact hW.2.2.2 a b a0 ab (by omega)
  · simp (disch := omega) only [pu_e, pu_n, ]; omega
  · rw [pu_n (by omega)] at w1
    have := WF_w hW w0 w1
    simp (disch := omega) only [pu_e, pu_n, ]
    omega
section C27
variable {S : Sp} {σ : St} {Φ : Rs} {P : Pl} {a : Pn}
theorem c_settled (hS : Sys S) {σ1 : St} {x : Int} (hx : 0 ≤ x ∧ x < 2147483648) {Q : Pl} (hC : CP 1 Q σ1) (hn : Q 280 ≤ 20 ∧ Q 281 ≤ 40) (hf : Fr FMU σ σ1) (hk : ∀ σ', Fr FMU σ σ' → CP 1 (pu Q 285 0) σ' → CLR σ' → Φ [aI (iI x)] σ') : S 129 [aR 0, aI (iI x)] σ1 Φ := by
  refine c_X8_settled hS (by omega) (fun c => by omega) (fun _ σ2 f2 a1 a2 a3 a4 => hk σ2 (Fr_tr hf (Fr_mo f2 (fun k j q => by unfold FST at q; unfold FMU; omega))) (CP_ck hC f2 a1 hn.1 hn.2) ⟨a2, a3, a4⟩)
theorem c_unsettled (hS : Sys S) {x : Int} (hx : -2147483648 ≤ x ∧ x < 0) (hk : Φ [aI (iI x)] σ) : S 129 [aR 0, aI (iI x)] σ Φ :=
  c_X8_settled hS (by omega) (fun _ => hk) (fun c => by omega)
theorem FP1_MU {σ' : St} (h : Fr (FP 1) σ σ') : Fr FMU σ σ' := Fr_mo h (fun k j q => by unfold FP at q; unfold FMU; omega)
theorem c_X8_hole (hS : Sys S) (hC : CP 1 P σ) (hW : WF P) {r c k ch b i : Int} (r1 : -2147483648 ≤ r ∧ r < 2147483648) (r2 : -2147483648 ≤ c ∧ c < 2147483648) (r3 : -2147483648 ≤ k ∧ k < 2147483648) (r4 : -2147483648 ≤ ch ∧ ch < 2147483648) (r5 : -2147483648 ≤ b ∧ b < 2147483648) (r6 : -2147483648 ≤ i ∧ i < 2147483648)
    (k1 : ¬ okH r c k ch b i → Φ [aI (iI (-2))] σ) (k2 : okH r c k ch b i → ¬ hat P r c = -1 → Φ [aI (iI (-3))] σ) (k3 : okH r c k ch b i → hat P r c = -1 → P 280 = 20 → Φ [aI (iI (-4))] σ)
    (k4 : okH r c k ch b i → hat P r c = -1 → P 280 < 20 → ∀ σ', Fr FMU σ σ' → CP 1 (pu (addH P r c k ch b i) 285 0) σ' → CLR σ' → Φ [aI (iI (P 280))] σ') : S 91 [aR 0, aI (iI r), aI (iI c), aI (iI k), aI (iI ch), aI (iI b), aI (iI i)] σ Φ := by
  refine m_X8_hole hS (fun v hv hw => ?_)
  have g0 := WF_0 hW
  unfold vc_X8_hole_0
  refine c_X2_addHole hS isPat_1 hC hW r1 r2 r3 r4 r5 r6 (fun e => ⟨_, rfl, c_unsettled hS (by omega) ⟨_, rfl, k1 e⟩⟩) (fun e e2 => ⟨_, rfl, c_unsettled hS (by omega) ⟨_, rfl, k2 e e2⟩⟩) (fun e e2 e3 => ⟨_, rfl, c_unsettled hS (by omega) ⟨_, rfl, k3 e e2 e3⟩⟩) (fun e e2 e3 σ1 f1 m1 => ⟨_, rfl, ?_⟩)
  have w := WF_0 (addH_W hW e e2 e3)
  exact c_settled hS (by omega) m1 (by omega) (FP1_MU f1) (fun σ2 f2 m2 c2 => ⟨_, rfl, k4 e e2 e3 σ2 f2 m2 c2⟩)
theorem c_X8_becomes (hS : Sys S) (hC : CP 1 P σ) (hW : WF P) {h what x : Int} (r1 : -2147483648 ≤ h ∧ h < 2147483648) (r2 : -2147483648 ≤ what ∧ what < 2147483648) (r3 : -2147483648 ≤ x ∧ x < 2147483648)
    (k1 : ¬ (0 ≤ h ∧ h < P 280) → Φ [aI (iI (-1))] σ) (k2 : (0 ≤ h ∧ h < P 280) → ¬ okB what x → Φ [aI (iI (-2))] σ)
    (k3 : (0 ≤ h ∧ h < P 280) → okB what x → ∀ σ', Fr FMU σ σ' → CP 1 (pu (pu P (8 * h + what) x) 285 0) σ' → CLR σ' → Φ [aI (iI (P (8 * h + what)))] σ') : S 93 [aR 0, aI (iI h), aI (iI what), aI (iI x)] σ Φ := by
  refine m_X8_becomes hS (fun v hv hw => ?_)
  have g0 := WF_0 hW
  unfold vc_X8_becomes_0
  refine c_X2_changeMark hS isPat_1 hC hW r1 r2 r3 (fun e => ⟨_, rfl, c_unsettled hS (by omega) ⟨_, rfl, k1 e⟩⟩) (fun e e2 => ⟨_, rfl, c_unsettled hS (by omega) ⟨_, rfl, k2 e e2⟩⟩) (fun e e2 σ1 f1 m1 => ⟨_, rfl, ?_⟩)
  have w := WF_0 (pu_W hW e.1 e.2 e2)
  have gh := WF_h hW e.1 e.2
  refine c_settled hS ?_ m1 (by omega) (FP1_MU f1) (fun σ2 f2 m2 c2 => ⟨_, rfl, k3 e e2 σ2 f2 m2 c2⟩)
  unfold okB at e2
  rcases e2 with ⟨e3, _⟩ | ⟨e3, _⟩ | ⟨e3, _⟩ | ⟨e3, _⟩ <;> subst e3 <;> omega
theorem c_X8_wire (hS : Sys S) (hC : CP 1 P σ) (hW : WF P) {f t d : Int} (r1 : -2147483648 ≤ f ∧ f < 2147483648) (r2 : -2147483648 ≤ t ∧ t < 2147483648) (r3 : -2147483648 ≤ d ∧ d < 2147483648)
    (k1 : ¬ ((f = -1 ∨ (0 ≤ f ∧ f < P 280)) ∧ (0 ≤ t ∧ t < P 280) ∧ ¬ f = t) → Φ [aI (iI (-1))] σ)
    (k2 : ((f = -1 ∨ (0 ≤ f ∧ f < P 280)) ∧ (0 ≤ t ∧ t < P 280) ∧ ¬ f = t) → ¬ (0 ≤ d ∧ d ≤ 500) → Φ [aI (iI (-2))] σ)
    (k3 : ((f = -1 ∨ (0 ≤ f ∧ f < P 280)) ∧ (0 ≤ t ∧ t < P 280) ∧ ¬ f = t) → (0 ≤ d ∧ d ≤ 500) → P 281 = 40 → Φ [aI (iI (-4))] σ)
    (k4 : ((f = -1 ∨ (0 ≤ f ∧ f < P 280)) ∧ (0 ≤ t ∧ t < P 280) ∧ ¬ f = t) → (0 ≤ d ∧ d ≤ 500) → P 281 < 40 → ∀ σ', Fr FMU σ σ' → CP 1 (pu (addW P f t d) 285 0) σ' → CLR σ' → Φ [aI (iI (P 281))] σ') : S 95 [aR 0, aI (iI f), aI (iI t), aI (iI d)] σ Φ := by
  refine m_X8_wire hS (fun v hv hw => ?_)
  have g0 := WF_0 hW
  unfold vc_X8_wire_0
  refine c_X2_addWire hS isPat_1 hC hW r1 r2 r3 (fun e => ⟨_, rfl, c_unsettled hS (by omega) ⟨_, rfl, k1 e⟩⟩) (fun e e2 => ⟨_, rfl, c_unsettled hS (by omega) ⟨_, rfl, k2 e e2⟩⟩) (fun e e2 e3 => ⟨_, rfl, c_unsettled hS (by omega) ⟨_, rfl, k3 e e2 e3⟩⟩) (fun e e2 e3 σ1 f1 m1 => ⟨_, rfl, ?_⟩)
  have w := WF_0 (addW_W hW (f := f) (t := t) (d := d) (by omega) e.2.1 e2 e3)
  exact c_settled hS (by omega) m1 (by omega) (FP1_MU f1) (fun σ2 f2 m2 c2 => ⟨_, rfl, k4 e e2 e3 σ2 f2 m2 c2⟩)
theorem c_X8_cut (hS : Sys S) (hC : CP 1 P σ) (hW : WF P) {w : Int} (r1 : -2147483648 ≤ w ∧ w < 2147483648) (k1 : ¬ (0 ≤ w ∧ w < P 281) → Φ [aI (iI (-1))] σ) (k2 : (0 ≤ w ∧ w < P 281) → ∀ σ', Fr FMU σ σ' → CP 1 (pu (cutP P w) 285 0) σ' → CLR σ' → Φ [aI (iI (P 281 - 1))] σ') : S 97 [aR 0, aI (iI w)] σ Φ := by
  refine m_X8_cut hS (fun v hv hw => ?_)
  have g0 := WF_0 hW
  unfold vc_X8_cut_0
  refine c_X2_removeWire' hS isPat_1 hC hW r1 (fun e => ⟨_, rfl, c_unsettled hS (by omega) ⟨_, rfl, k1 e⟩⟩) (fun e σ1 f1 m1 => ⟨_, rfl, ?_⟩)
  have w := WF_0 (cutP_W hW e.1 e.2)
  exact c_settled hS (by omega) m1 (by omega) (FP1_MU f1) (fun σ2 f2 m2 c2 => ⟨_, rfl, k2 e σ2 f2 m2 c2⟩)
theorem c_X8_rule (hS : Sys S) (hC : CP 1 P σ) (hW : WF P) {what x : Int} (r1 : -2147483648 ≤ what ∧ what < 2147483648) (r2 : -2147483648 ≤ x ∧ x < 2147483648)
    (k1 : ¬ (0 ≤ what ∧ what < 3) → Φ [aI (iI (-1))] σ) (k2 : (0 ≤ what ∧ what < 3) → ¬ okR what x → Φ [aI (iI (-2))] σ)
    (k3 : (0 ≤ what ∧ what < 3) → okR what x → ∀ σ', Fr FMU σ σ' → CP 1 (pu (pu P (282 + what) x) 285 0) σ' → CLR σ' → Φ [aI (iI (P (282 + what)))] σ') : S 98 [aR 0, aI (iI what), aI (iI x)] σ Φ := by
  refine m_X8_rule hS (fun v hv hw => ?_)
  have g0 := WF_0 hW
  unfold vc_X8_rule_0
  refine c_X2_changeRule hS isPat_1 hC hW r1 r2 (fun e => ⟨_, rfl, c_unsettled hS (by omega) ⟨_, rfl, k1 e⟩⟩) (fun e e2 => ⟨_, rfl, c_unsettled hS (by omega) ⟨_, rfl, k2 e e2⟩⟩) (fun e e2 σ1 f1 m1 => ⟨_, rfl, ?_⟩)
  have w := WF_0 (pu_R hW e2)
  refine c_settled hS ?_ m1 (by omega) (FP1_MU f1) (fun σ2 f2 m2 c2 => ⟨_, rfl, k3 e e2 σ2 f2 m2 c2⟩)
  unfold okR at e2
  rcases e2 with ⟨e3, _⟩ | ⟨e3, _⟩ | ⟨e3, _⟩ <;> subst e3 <;> simp only [Int.reduceAdd] <;> omega
theorem c_X8_drop (hS : Sys S) (hC : CP 1 P σ) (hW : WF P) (k1 : P 280 = 0 → Φ [aI (iI (-3))] σ) (k2 : 0 < P 280 → ∀ σ', Fr FMU σ σ' → CP 1 (pu (dropP P) 285 0) σ' → CLR σ' → Φ [aI (iI (P 280 - 1))] σ') : S 99 [aR 0] σ Φ := by
  refine m_X8_drop hS (fun v hv hw => ?_)
  have g0 := WF_0 hW
  unfold vc_X8_drop_0
  refine c_X2_removeLastHole hS isPat_1 hC hW (fun e => ⟨_, rfl, c_unsettled hS (by omega) ⟨_, rfl, k1 e⟩⟩) (fun e σ1 f1 m1 => ⟨_, rfl, ?_⟩)
  have w := WF_0 (dropP_W hW e)
  exact c_settled hS (by omega) m1 (by omega) (FP1_MU f1) (fun σ2 f2 m2 c2 => ⟨_, rfl, k2 e σ2 f2 m2 c2⟩)
theorem adN_5 (hW : WF P) {a : Pn} {n : Int} (h0 : 0 ≤ n) (h1 : n ≤ P 280) (hI : plI P a) : adN P a P n 285 = P 285 := by
  have g0 := WF_0 hW
  exact lp_inv (f := fun h Q => if a.1 h = true then pu Q (8 * h + 5) (a.2 h) else Q) (fun _ (Q : Pl) => Q 285 = P 285) _ rfl h0 rfl (fun k Q k0 k1 hq => by
    by_cases c : a.1 k = true
    · rw [if_pos c, pu_n (by omega)]; exact hq
    · rw [if_neg c]; exact hq)
theorem c_X9_adopt (hS : Sys S) (hM : MP 50 P σ) (hW : WF P) (hk : ∀ σ', Fr FAD σ σ' → MP 50 (pu (adP P) 285 0) σ' → Φ [aI (iI (qAdopt P))] σ') : S 206 [aR 49] σ Φ := by
  refine m_X9_adopt hS (fun v hv hw => ?_)
  have g0 := WF_0 hW
  unfold vc_X9_adopt_0
  refine c_X9_plans_ hS hM hW (fun σ1 f1 r1 => ⟨rfl, ?_⟩)
  have pi := plan_ok hW
  have L : ∀ (d : Nat) (h : Int) (σ2 : St), (P 280 - h).toNat = d → 0 ≤ h → h ≤ P 280 → Fr F50 σ1 σ2 → MP 50 (adN P (plan P) P h) σ2 → v 6 [some (aR 49), some (aI (iI h))] [] σ2 := by
    intro d
    induction d with
    | zero =>
      intro h σ2 hd h0 h1 f2 m2
      refine w_X9_adopt_6 hS hv hw _ σ2 ?_
      unfold vc_X9_adopt_6
      have q : h = P 280 := by omega
      subst q
      have a0 := (adN_W hW pi _ (P 280) rfl h0 (Int.le_refl _)).2.1
      try simp (disch := omega) only [iI_lit, iL_lit, iI_add, iI_sub, iI_mul, iI_neg, iI_lt, iI_le, iI_eq, iI_tn, iI_div, iI_l, iL_add, iL_sub, iL_mul, iL_neg, iL_le, iL_lt, iL_eq, iL_ite, vp_T, b2_ne0, b2_eq1, nn_imp, true_and, iI_ite, not_true_eq_false, not_false_eq_true, true_implies, false_implies, and_true, Int.reduceLT, Int.reduceLE, Int.reduceEq, or_false, false_or, true_or, or_true, false_and, and_false, m2 _, a0]
      refine ⟨fun _ σ3 e3 => ?_, fun c => by omega⟩
      have m3 := MP_up e3 m2 (by omega)
      have f3 : Fr F50 σ1 σ3 := by rw [e3]; exact Fr_up f2 rfl
      refine c_X9_countOf hS (fun _ => ⟨_, rfl, ?_⟩)
      rw [f3.1 _ _ (by unfold F50; omega), r1.2.1]
      exact hk σ3 (Fr_tr (Fr_mo f1 (fun k j q => Or.inr q)) (Fr_mo f3 (fun k j q => Or.inl q))) m3
    | succ d ih =>
      intro h σ2 hd h0 h1 f2 m2
      refine w_X9_adopt_6 hS hv hw _ σ2 ?_
      unfold vc_X9_adopt_6
      have a0 := (adN_W hW pi _ h rfl h0 h1).2.1
      have f18 : σ2.1 49 18 = bm (plan P).1 (P 280) := by rw [f2.1 _ _ (by unfold F50; omega)]; exact r1.2.1
      have i := fun σ3 => ih (h + 1) σ3 (by omega) (by omega) (by omega)
      rw [adN_s h0] at i
      try simp (disch := omega) only [iI_lit, iL_lit, iI_add, iI_sub, iI_mul, iI_neg, iI_lt, iI_le, iI_eq, iI_tn, iI_div, iI_l, iL_add, iL_sub, iL_mul, iL_neg, iL_le, iL_lt, iL_eq, iL_ite, vp_T, b2_ne0, b2_eq1, nn_imp, true_and, iI_ite, not_true_eq_false, not_false_eq_true, true_implies, false_implies, and_true, Int.reduceLT, Int.reduceLE, Int.reduceEq, or_false, false_or, true_or, or_true, false_and, and_false, m2 _, a0, f18, bs_0, bs_1, bs_bm, Bool.and_eq_true, decide_eq_true_eq, Bool.not_eq_false, Bool.not_eq_true]
      refine ⟨fun c => by omega, fun _ => ⟨fun c => ?_, fun c => ?_⟩⟩
      · rw [if_neg (fun z => c ⟨by omega, z⟩)] at i; exact i σ2 f2 m2
      · rw [if_pos c.2] at i
        have t58 : σ2.1 58 h.toNat = iI ((plan P).2 h) := by rw [f2.1 _ _ (by unfold F50; omega)]; exact (r1.2.2 h c.2).1
        rw [t58]
        intro σ3 e3
        exact i σ3 (by rw [e3]; exact Fr_up f2 rfl) (MP_up e3 m2 (by omega))
  rw [iI_lit]
  exact L _ 0 σ1 rfl (Int.le_refl 0) g0.1.1 Fr_rf (by unfold adN; rw [lp_z _ _ (Int.le_refl 0)]; exact MP_f hM f1 (fun j => by unfold FPL; omega))
theorem c_X8_adopt (hS : Sys S) (hC : CP 1 P σ) (hW : WF P) (hR : RKd P σ) (hD : PDd P σ) (hk : ∀ σ', Fr FMU σ σ' → CP 1 (pu (adP P) 285 0) σ' → CLR σ' → Φ [aI (iI (qAdopt P))] σ') : S 113 [aR 0] σ Φ := by
  refine m_X8_adopt hS (fun v hv hw => ?_)
  have g0 := WF_0 hW
  unfold vc_X8_adopt_0
  have pi := plan_ok hW
  refine c_X8_drawn hS hC hW hR hD (fun σ1 f1 c1 k1 d1 q1 => ⟨rfl, ?_⟩)
  obtain ⟨z, hp, hg⟩ := d1
  have CR : ∀ n : Int, 0 ≤ n → (0 : Int) ≤ lp (fun k a => a + (if (plan P).1 k = true then 1 else 0)) 0 n 0 ∧ lp (fun k a => a + (if (plan P).1 k = true then 1 else 0)) 0 n 0 ≤ n := fun n h0 => lp_inv (f := fun k a => a + (if (plan P).1 k = true then 1 else 0)) (a := 0) (fun k (a : Int) => 0 ≤ a ∧ a ≤ k) _ rfl h0 (by omega) (fun k a k0 k1 ha => by split <;> omega)
  have L : ∀ (d : Nat) (h : Int) (σ2 : St), (P 280 - h).toNat = d → 0 ≤ h → h ≤ P 280 → Fr (FP 1) σ1 σ2 → CP 1 (adN P (plan P) P h) σ2 → v 12 [some (aR 0), some (aR 28), some (aI (iI (lp (fun k a => a + (if (plan P).1 k = true then 1 else 0)) 0 h 0))), some (aI (iI h))] [] σ2 := by
    intro d
    induction d with
    | zero =>
      intro h σ2 hd h0 h1 f2 m2
      refine w_X8_adopt_12 hS hv hw _ _ σ2 ?_
      unfold vc_X8_adopt_12
      have q : h = P 280 := by omega
      subst q
      have a0 := adN_W hW pi _ (P 280) rfl h0 (Int.le_refl _)
      have cr := CR _ h0
      have w := WF_0 a0.1
      have n0 := CP_n m2
      rw [a0.2.1] at n0
      try simp (disch := omega) only [iI_lit, iL_lit, iI_add, iI_sub, iI_mul, iI_neg, iI_lt, iI_le, iI_eq, iI_tn, iI_div, iI_l, iL_add, iL_sub, iL_mul, iL_neg, iL_le, iL_lt, iL_eq, iL_ite, vp_T, b2_ne0, b2_eq1, nn_imp, true_and, iI_ite, not_true_eq_false, not_false_eq_true, true_implies, false_implies, and_true, Int.reduceLT, Int.reduceLE, Int.reduceEq, or_false, false_or, true_or, or_true, false_and, and_false, n0]
      refine ⟨fun _ => ?_, fun c => by omega⟩
      rw [← pop_bm h0 (by omega)] at cr ⊢
      exact c_settled hS (by omega) m2 (by omega) (Fr_tr (Fr_mo f1 (fun k j q => by unfold FRd at q; unfold FMU; omega)) (FP1_MU f2)) (fun σ3 f3 m3 c3 => ⟨_, rfl, hk σ3 f3 m3 c3⟩)
    | succ d ih =>
      intro h σ2 hd h0 h1 f2 m2
      refine w_X8_adopt_12 hS hv hw _ _ σ2 ?_
      unfold vc_X8_adopt_12
      have a0 := adN_W hW pi _ h rfl h0 h1
      have cr := CR h h0
      have n0 := CP_n m2
      rw [a0.2.1] at n0
      have i := fun σ3 => ih (h + 1) σ3 (by omega) (by omega) (by omega)
      rw [adN_s h0, lp_l _ _ h0] at i
      have t28 : σ2.1 28 h.toNat = iI ((plan P).2 h) := by rw [f2.1 _ _ (by unfold FP; omega)]; exact hp.1.1 h (by omega)
      by_cases e : (plan P).1 h = true
      · rw [if_pos e, if_pos e] at i
        have := pi.1 h e
        try simp (disch := omega) only [iI_lit, iL_lit, iI_add, iI_sub, iI_mul, iI_neg, iI_lt, iI_le, iI_eq, iI_tn, iI_div, iI_l, iL_add, iL_sub, iL_mul, iL_neg, iL_le, iL_lt, iL_eq, iL_ite, vp_T, b2_ne0, b2_eq1, nn_imp, true_and, iI_ite, not_true_eq_false, not_false_eq_true, true_implies, false_implies, and_true, Int.reduceLT, Int.reduceLE, Int.reduceEq, or_false, false_or, true_or, or_true, false_and, and_false, n0, t28]
        refine ⟨fun c => by omega, fun _ => ⟨fun c => by omega, fun c => ?_⟩⟩
        refine c_X2_changeMark hS isPat_1 m2 a0.1 (by omega) (by omega) (by omega) (fun w => absurd ⟨h0, by omega⟩ w) (fun _ w => absurd (by unfold okB; omega) w) (fun _ _ σ3 f3 m3 => ⟨_, rfl, i σ3 (Fr_tr f2 f3) m3⟩)
      · rw [if_neg e, if_neg e, Int.add_zero] at i
        have := pi.2.1 h e
        try simp (disch := omega) only [iI_lit, iL_lit, iI_add, iI_sub, iI_mul, iI_neg, iI_lt, iI_le, iI_eq, iI_tn, iI_div, iI_l, iL_add, iL_sub, iL_mul, iL_neg, iL_le, iL_lt, iL_eq, iL_ite, vp_T, b2_ne0, b2_eq1, nn_imp, true_and, iI_ite, not_true_eq_false, not_false_eq_true, true_implies, false_implies, and_true, Int.reduceLT, Int.reduceLE, Int.reduceEq, or_false, false_or, true_or, or_true, false_and, and_false, n0, t28]
        exact ⟨fun c => by omega, fun _ => ⟨fun c => i σ2 f2 m2, fun c => by omega⟩⟩
  have := L _ 0 σ1 rfl (Int.le_refl 0) g0.1.1 Fr_rf (by unfold adN; rw [lp_z _ _ (Int.le_refl 0)]; exact c1)
  rw [lp_z _ _ (Int.le_refl 0)] at this
  exact this
end C27
