def vc_X0_reckon_0 (S : Sp) (Φ : Rs) (v : Kt) (b : Nat) (l1 : Int32) (l2 : Int32) (σ : St) : Prop := ∀ σ1 : St, σ1 = upI σ b 6 l1 → (S 2 [aR b, aI l2] σ1 (fun r σ2 => r = [] ∧ (S 4 [aR b] σ2 (fun r σ3 => r = [] ∧ (S 5 [aR b] σ3 (fun r σ4 => r = [] ∧ (Φ [] σ4)))))))
theorem w_X0_reckon_0 {S : Sp} (hS : Sys S) {Φ : Rs} {v : Kt} (hv : Cl S Φ k_X0_reckon v) (hw : Wk v) (b : Nat) (h_b : isBl b) (l1 : Int32) (l2 : Int32) (σ : St) (h : vc_X0_reckon_0 S Φ v b l1 l2 σ) : v 0 [some (aR b), some (aI l1), some (aI l2)] [] σ := by
  unfold vc_X0_reckon_0 at h
  refine r_aload_n (pc := 0) hv 0 rfl rfl ?_
  refine r_iload_n (pc := 1) hv 1 rfl rfl ?_
  refine r_putI (pc := 2) hv 2 rfl rfl (isBl_oc h_b) ?_
  obtain ⟨σ1, e_σ1⟩ : ∃ y : St, y = upI σ b 6 l1 := ⟨_, rfl⟩
  rw [← e_σ1]
  replace h := h σ1 e_σ1
  refine r_aload_n (pc := 5) hv 3 rfl rfl ?_
  refine r_iload_n (pc := 6) hv 4 rfl rfl ?_
  refine r_callV (pc := 7) (l := [aI l2]) (av := [aI l2]) (a := b) (t := []) hv 5 rfl rfl rfl rfl (rcv_o (by decide) (isBl_oc h_b)) trivial (hS.1 _ _ _ _ _ (fun r σ2 h => ?_) h)
  obtain ⟨rfl, h⟩ := h
  show v 10 [some (aR b), some (aI l1), some (aI l2)] [] σ2
  refine r_aload_n (pc := 10) hv 6 rfl rfl ?_
  refine r_callV (pc := 11) (l := []) (av := []) (a := b) (t := []) hv 7 rfl rfl rfl rfl (rcv_o (by decide) (isBl_oc h_b)) trivial (hS.1 _ _ _ _ _ (fun r σ3 h => ?_) h)
  obtain ⟨rfl, h⟩ := h
  show v 14 [some (aR b), some (aI l1), some (aI l2)] [] σ3
  refine r_aload_n (pc := 14) hv 8 rfl rfl ?_
  refine r_callV (pc := 15) (l := []) (av := []) (a := b) (t := []) hv 9 rfl rfl rfl rfl (rcv_o (by decide) (isBl_oc h_b)) trivial (hS.1 _ _ _ _ _ (fun r σ4 h => ?_) h)
  obtain ⟨rfl, h⟩ := h
  show v 18 [some (aR b), some (aI l1), some (aI l2)] [] σ4
  exact r_return (pc := 18) hv 10 rfl h
theorem m_X0_reckon {S : Sp} (hS : Sys S) {b : Nat} (h_b : isBl b) {l1 : Int32} {l2 : Int32} {σ : St} {Φ : Rs} (h : ∀ v : Kt, Cl S Φ k_X0_reckon v → Wk v → vc_X0_reckon_0 S Φ v b l1 l2 σ) : S 0 [aR b, aI l1, aI l2] σ Φ :=
  hS.2 0 M_X0_reckon k_X0_reckon _ _ _ mkt_X0_reckon (Nat.le_of_ble_eq_true rfl) (fun v hv hw => w_X0_reckon_0 hS hv hw b h_b l1 l2 σ (h v hv hw))
def vc_X0_reckonShots_9 (S : Sp) (Φ : Rs) (v : Kt) (b : Nat) (l1 : Int32) (σ : St) : Prop := ((σ.1 1 3 : Int32) ≤ l1 → (vp_in 0 3 ∧ (vp_in 1 3 ∧ (S 86 [aR (b + 3), aI (σ.1 4 (0 : Int32).toNatClampNeg), aI (σ.1 4 (1 : Int32).toNatClampNeg)] σ (fun r σ1 => r = [] ∧ (Φ [] σ1)))))) ∧ (¬ ((σ.1 1 3 : Int32) ≤ l1) → (((b2 (¬ (l1 : Int32) < 0 ∧ ¬ 20 ≤ (l1 : Int32) ∧ ¬ ((σ.1 b 4 : Int32) >>> (l1 &&& 31)) &&& 1 = 0) : Int32) = 0 → (v 9 [some (aR b), some (aI (l1 + 1))] [] σ)) ∧ (¬ ((b2 (¬ (l1 : Int32) < 0 ∧ ¬ 20 ≤ (l1 : Int32) ∧ ¬ ((σ.1 b 4 : Int32) >>> (l1 &&& 31)) &&& 1 = 0) : Int32) = 0) → (vp_in l1 20 ∧ (S 83 [aR (b + 3), aR 1, aI l1, aI (σ.1 (b + 2) (l1 : Int32).toNatClampNeg)] σ (fun r σ2 => r = [] ∧ (v 9 [some (aR b), some (aI (l1 + 1))] [] σ2)))))))
theorem w_X0_reckonShots_9 {S : Sp} (hS : Sys S) {Φ : Rs} {v : Kt} (hv : Cl S Φ k_X0_reckonShots v) (hw : Wk v) (b : Nat) (h_b : isBl b) (l1 : Int32) (σ : St) (h : vc_X0_reckonShots_9 S Φ v b l1 σ) : v 9 [some (aR b), some (aI l1)] [] σ := by
  unfold vc_X0_reckonShots_9 at h
  refine r_iload_n (pc := 9) hv 5 rfl rfl ?_
  refine r_aload_n (pc := 10) hv 6 rfl rfl ?_
  refine r_getR (pc := 11) (b := 1) hv 7 rfl rfl (isBl_oc h_b) (isBl_c0 h_b) ?_
  refine r_getI (pc := 14) hv 8 rfl rfl rfl ?_
  refine r_icmp_ge (pc := 17) hv 9 rfl (fun c => ?_) (fun c => ?_)
  · replace h := h.1 c
    refine r_aload_n (pc := 52) hv 26 rfl rfl ?_
    refine r_getR (pc := 53) (b := b + 3) hv 27 rfl rfl (isBl_oc h_b) (isBl_c3 h_b) ?_
    refine r_aload_n (pc := 56) hv 28 rfl rfl ?_
    refine r_getR (pc := 57) (b := 1) hv 29 rfl rfl (isBl_oc h_b) (isBl_c0 h_b) ?_
    refine r_getR (pc := 60) (b := 4) hv 30 rfl rfl rfl rfl ?_
    refine r_iconst (pc := 63) hv 31 rfl  ?_
    refine r_iaload (pc := 64) (N := 3) hv 32 rfl rfl rfl (by decide) h.1 ?_
    replace h := h.2
    refine r_aload_n (pc := 65) hv 33 rfl rfl ?_
    refine r_getR (pc := 66) (b := 1) hv 34 rfl rfl (isBl_oc h_b) (isBl_c0 h_b) ?_
    refine r_getR (pc := 69) (b := 4) hv 35 rfl rfl rfl rfl ?_
    refine r_iconst (pc := 72) hv 36 rfl  ?_
    refine r_iaload (pc := 73) (N := 3) hv 37 rfl rfl rfl (by decide) h.1 ?_
    replace h := h.2
    refine r_callV (pc := 74) (l := [aI (σ.1 4 (1 : Int32).toNatClampNeg), aI (σ.1 4 (0 : Int32).toNatClampNeg)]) (av := [aI (σ.1 4 (0 : Int32).toNatClampNeg), aI (σ.1 4 (1 : Int32).toNatClampNeg)]) (a := b + 3) (t := []) hv 38 rfl rfl rfl rfl (rcv_o (by decide) (isSh_oc (isBl_sh h_b))) trivial (hS.1 _ _ _ _ _ (fun r σ1 h => ?_) h)
    obtain ⟨rfl, h⟩ := h
    show v 77 [some (aR b), some (aI l1)] [] σ1
    exact r_return (pc := 77) hv 39 rfl h
  · replace h := h.2 c
    refine r_aload_n (pc := 20) hv 10 rfl rfl ?_
    refine r_iload_n (pc := 21) hv 11 rfl rfl ?_
    refine r_callV (pc := 22) (l := [aI l1]) (av := [aI l1]) (a := b) (t := []) hv 12 rfl rfl rfl rfl (rcv_o (by decide) (isBl_oc h_b)) trivial (t_X0_doesFire hS h_b ?_)
    show v 25 [some (aR b), some (aI l1)] [aI (b2 (¬ (l1 : Int32) < 0 ∧ ¬ 20 ≤ (l1 : Int32) ∧ ¬ ((σ.1 b 4 : Int32) >>> (l1 &&& 31)) &&& 1 = 0))] σ
    refine r_if_eq (pc := 25) hv 13 rfl (fun c => ?_) (fun c => ?_)
    · replace h := h.1 c
      refine r_iinc (pc := 46) (lo' := [some (aR b), some (aI (l1 + 1))]) hv 24 rfl rfl rfl ?_
      refine r_goto (pc := 49) hv 25 rfl  ?_
      exact h
    · replace h := h.2 c
      refine r_aload_n (pc := 28) hv 14 rfl rfl ?_
      refine r_getR (pc := 29) (b := b + 3) hv 15 rfl rfl (isBl_oc h_b) (isBl_c3 h_b) ?_
      refine r_aload_n (pc := 32) hv 16 rfl rfl ?_
      refine r_getR (pc := 33) (b := 1) hv 17 rfl rfl (isBl_oc h_b) (isBl_c0 h_b) ?_
      refine r_iload_n (pc := 36) hv 18 rfl rfl ?_
      refine r_aload_n (pc := 37) hv 19 rfl rfl ?_
      refine r_getR (pc := 38) (b := b + 2) hv 20 rfl rfl (isBl_oc h_b) (isBl_c2 h_b) ?_
      refine r_iload_n (pc := 41) hv 21 rfl rfl ?_
      refine r_iaload (pc := 42) (N := 20) hv 22 rfl (isBl_t2 h_b) (isBl_l2 h_b) (isBl_lt2 h_b) h.1 ?_
      replace h := h.2
      refine r_callV (pc := 43) (l := [aI (σ.1 (b + 2) (l1 : Int32).toNatClampNeg), aI l1, aR 1]) (av := [aR 1, aI l1, aI (σ.1 (b + 2) (l1 : Int32).toNatClampNeg)]) (a := b + 3) (t := []) hv 23 rfl rfl rfl rfl (rcv_o (by decide) (isSh_oc (isBl_sh h_b))) trivial (hS.1 _ _ _ _ _ (fun r σ2 h => ?_) h)
      obtain ⟨rfl, h⟩ := h
      show v 46 [some (aR b), some (aI l1)] [] σ2
      refine r_iinc (pc := 46) (lo' := [some (aR b), some (aI (l1 + 1))]) hv 24 rfl rfl rfl ?_
      refine r_goto (pc := 49) hv 25 rfl  ?_
      exact h
def vc_X0_reckonShots_0 (S : Sp) (Φ : Rs) (v : Kt) (b : Nat) (σ : St) : Prop := S 82 [aR (b + 3)] σ (fun r σ1 => r = [] ∧ (v 9 [some (aR b), some (aI 0)] [] σ1))
theorem w_X0_reckonShots_0 {S : Sp} (hS : Sys S) {Φ : Rs} {v : Kt} (hv : Cl S Φ k_X0_reckonShots v) (hw : Wk v) (b : Nat) (h_b : isBl b) (σ : St) (h : vc_X0_reckonShots_0 S Φ v b σ) : v 0 [some (aR b), none] [] σ := by
  unfold vc_X0_reckonShots_0 at h
  refine r_aload_n (pc := 0) hv 0 rfl rfl ?_
  refine r_getR (pc := 1) (b := b + 3) hv 1 rfl rfl (isBl_oc h_b) (isBl_c3 h_b) ?_
  refine r_callV (pc := 4) (l := []) (av := []) (a := b + 3) (t := []) hv 2 rfl rfl rfl rfl (rcv_o (by decide) (isSh_oc (isBl_sh h_b))) trivial (hS.1 _ _ _ _ _ (fun r σ1 h => ?_) h)
  obtain ⟨rfl, h⟩ := h
  show v 7 [some (aR b), none] [] σ1
  refine r_iconst (pc := 7) hv 3 rfl  ?_
  refine r_istore_n (pc := 8) (lo' := [some (aR b), some (aI 0)]) hv 4 rfl rfl ?_
  exact h
theorem m_X0_reckonShots {S : Sp} (hS : Sys S) {b : Nat} (h_b : isBl b) {σ : St} {Φ : Rs} (h : ∀ v : Kt, Cl S Φ k_X0_reckonShots v → Wk v → vc_X0_reckonShots_0 S Φ v b σ) : S 1 [aR b] σ Φ :=
  hS.2 1 M_X0_reckonShots k_X0_reckonShots _ _ _ mkt_X0_reckonShots (Nat.le_of_ble_eq_true rfl) (fun v hv hw => w_X0_reckonShots_0 hS hv hw b h_b  σ (h v hv hw))
def vc_X0_findSignals_115 (S : Sp) (Φ : Rs) (v : Kt) (b : Nat) (l1 : Int32) (l2 : Int32) (l3 : Int32) (l4 : Int32) (l5 : Int32) (l6 : Int32) (σ : St) : Prop := vp_in l5 20 ∧ (∀ σ1 : St, σ1 = upI σ (b + 1) (l5 : Int32).toNatClampNeg l6 → (v 32 [some (aR b), some (aI l1), some (aI 1), some (aI l3), some (aI (l4 + 1)), none, none] [] σ1))
theorem w_X0_findSignals_115 {S : Sp} (hS : Sys S) {Φ : Rs} {v : Kt} (hv : Cl S Φ k_X0_findSignals v) (hw : Wk v) (b : Nat) (h_b : isBl b) (l1 : Int32) (l2 : Int32) (l3 : Int32) (l4 : Int32) (l5 : Int32) (l6 : Int32) (σ : St) (h : vc_X0_findSignals_115 S Φ v b l1 l2 l3 l4 l5 l6 σ) : v 115 [some (aR b), some (aI l1), some (aI l2), some (aI l3), some (aI l4), some (aI l5), some (aI l6)] [] σ := by
  unfold vc_X0_findSignals_115 at h
  refine r_aload_n (pc := 115) hv 59 rfl rfl ?_
  refine r_getR (pc := 116) (b := b + 1) hv 60 rfl rfl (isBl_oc h_b) (isBl_c1 h_b) ?_
  refine r_iload (pc := 119) hv 61 rfl rfl ?_
  refine r_iload (pc := 121) hv 62 rfl rfl ?_
  refine r_iastore (pc := 123) (N := 20) hv 63 rfl (isBl_t1 h_b) (isBl_l1 h_b) h.1 ?_
  replace h := h.2
  obtain ⟨σ1, e_σ1⟩ : ∃ y : St, y = upI σ (b + 1) (l5 : Int32).toNatClampNeg l6 := ⟨_, rfl⟩
  rw [← e_σ1]
  replace h := h σ1 e_σ1
  refine r_iconst (pc := 124) hv 64 rfl  ?_
  refine r_istore_n (pc := 125) (lo' := [some (aR b), some (aI l1), some (aI 1), some (aI l3), some (aI l4), some (aI l5), some (aI l6)]) hv 65 rfl rfl ?_
  refine r_iinc (pc := 126) (lo' := [some (aR b), some (aI l1), some (aI 1), some (aI l3), some (aI (l4 + 1)), some (aI l5), some (aI l6)]) hv 66 rfl rfl rfl ?_
  refine r_goto (pc := 129) hv 67 rfl  ?_
  exact hw 32 [some (aR b), some (aI l1), some (aI 1), some (aI l3), some (aI (l4 + 1)), none, none] _ _ _ ⟨rfl, ⟨rfl, ⟨rfl, ⟨rfl, ⟨rfl, trivial⟩⟩⟩⟩⟩ h
def vc_X0_findSignals_72 (S : Sp) (Φ : Rs) (v : Kt) (b : Nat) (l1 : Int32) (l2 : Int32) (l3 : Int32) (l4 : Int32) (l5 : Int32) (s0 : Int32) (σ : St) : Prop := ((s0 : Int32) = (-1) → (v 32 [some (aR b), some (aI l1), some (aI l2), some (aI l3), some (aI (l4 + 1)), none, none] [] σ)) ∧ (¬ ((s0 : Int32) = (-1)) → (((b2 (¬ (l5 : Int32) < 0 ∧ ¬ σ.1 1 3 ≤ l5) : Int32) = 0 → (v 32 [some (aR b), some (aI l1), some (aI l2), some (aI l3), some (aI (l4 + 1)), none, none] [] σ)) ∧ (¬ ((b2 (¬ (l5 : Int32) < 0 ∧ ¬ σ.1 1 3 ≤ l5) : Int32) = 0) → (vp_in l5 20 ∧ (((σ.1 (b + 1) (l5 : Int32).toNatClampNeg : Int32) = (-1) → (vc_X0_findSignals_115 S Φ v b l1 l2 l3 l4 l5 s0 σ)) ∧ (¬ ((σ.1 (b + 1) (l5 : Int32).toNatClampNeg : Int32) = (-1)) → (vp_in l5 20 ∧ (((σ.1 (b + 1) (l5 : Int32).toNatClampNeg : Int32) ≤ s0 → (v 32 [some (aR b), some (aI l1), some (aI l2), some (aI l3), some (aI (l4 + 1)), none, none] [] σ)) ∧ (¬ ((σ.1 (b + 1) (l5 : Int32).toNatClampNeg : Int32) ≤ s0) → (vc_X0_findSignals_115 S Φ v b l1 l2 l3 l4 l5 s0 σ))))))))))
theorem w_X0_findSignals_72 {S : Sp} (hS : Sys S) {Φ : Rs} {v : Kt} (hv : Cl S Φ k_X0_findSignals v) (hw : Wk v) (b : Nat) (h_b : isBl b) (l1 : Int32) (l2 : Int32) (l3 : Int32) (l4 : Int32) (l5 : Int32) (s0 : Int32) (σ : St) (h : vc_X0_findSignals_72 S Φ v b l1 l2 l3 l4 l5 s0 σ) : v 72 [some (aR b), some (aI l1), some (aI l2), some (aI l3), some (aI l4), some (aI l5), none] [aI s0] σ := by
  unfold vc_X0_findSignals_72 at h
  refine r_istore (pc := 72) (lo' := [some (aR b), some (aI l1), some (aI l2), some (aI l3), some (aI l4), some (aI l5), some (aI s0)]) hv 38 rfl rfl ?_
  refine r_iload (pc := 74) hv 39 rfl rfl ?_
  refine r_iconst (pc := 76) hv 40 rfl  ?_
  refine r_icmp_eq (pc := 77) hv 41 rfl (fun c => ?_) (fun c => ?_)
  · replace h := h.1 c
    refine r_iinc (pc := 126) (lo' := [some (aR b), some (aI l1), some (aI l2), some (aI l3), some (aI (l4 + 1)), some (aI l5), some (aI s0)]) hv 66 rfl rfl rfl ?_
    refine r_goto (pc := 129) hv 67 rfl  ?_
    exact hw 32 [some (aR b), some (aI l1), some (aI l2), some (aI l3), some (aI (l4 + 1)), none, none] _ _ _ ⟨rfl, ⟨rfl, ⟨rfl, ⟨rfl, ⟨rfl, trivial⟩⟩⟩⟩⟩ h
  · replace h := h.2 c
    refine r_aload_n (pc := 80) hv 42 rfl rfl ?_
    refine r_getR (pc := 81) (b := 1) hv 43 rfl rfl (isBl_oc h_b) (isBl_c0 h_b) ?_
    refine r_iload (pc := 84) hv 44 rfl rfl ?_
    refine r_callV (pc := 86) (l := [aI l5]) (av := [aI l5]) (a := 1) (t := []) hv 45 rfl rfl rfl rfl (rcv_o (by decide) rfl) trivial (t_X2_isHole hS isPat_1 ?_)
    show v 89 [some (aR b), some (aI l1), some (aI l2), some (aI l3), some (aI l4), some (aI l5), some (aI s0)] [aI (b2 (¬ (l5 : Int32) < 0 ∧ ¬ σ.1 1 3 ≤ l5))] σ
    refine r_if_eq (pc := 89) hv 46 rfl (fun c => ?_) (fun c => ?_)
    · replace h := h.1 c
      refine r_iinc (pc := 126) (lo' := [some (aR b), some (aI l1), some (aI l2), some (aI l3), some (aI (l4 + 1)), some (aI l5), some (aI s0)]) hv 66 rfl rfl rfl ?_
      refine r_goto (pc := 129) hv 67 rfl  ?_
      exact hw 32 [some (aR b), some (aI l1), some (aI l2), some (aI l3), some (aI (l4 + 1)), none, none] _ _ _ ⟨rfl, ⟨rfl, ⟨rfl, ⟨rfl, ⟨rfl, trivial⟩⟩⟩⟩⟩ h
    · replace h := h.2 c
      refine r_aload_n (pc := 92) hv 47 rfl rfl ?_
      refine r_getR (pc := 93) (b := b + 1) hv 48 rfl rfl (isBl_oc h_b) (isBl_c1 h_b) ?_
      refine r_iload (pc := 96) hv 49 rfl rfl ?_
      refine r_iaload (pc := 98) (N := 20) hv 50 rfl (isBl_t1 h_b) (isBl_l1 h_b) (isBl_lt1 h_b) h.1 ?_
      replace h := h.2
      refine r_iconst (pc := 99) hv 51 rfl  ?_
      refine r_icmp_eq (pc := 100) hv 52 rfl (fun c => ?_) (fun c => ?_)
      · replace h := h.1 c
        exact (w_X0_findSignals_115 hS hv hw b h_b l1 l2 l3 l4 l5 s0  σ h)
      · replace h := h.2 c
        refine r_aload_n (pc := 103) hv 53 rfl rfl ?_
        refine r_getR (pc := 104) (b := b + 1) hv 54 rfl rfl (isBl_oc h_b) (isBl_c1 h_b) ?_
        refine r_iload (pc := 107) hv 55 rfl rfl ?_
        refine r_iaload (pc := 109) (N := 20) hv 56 rfl (isBl_t1 h_b) (isBl_l1 h_b) (isBl_lt1 h_b) h.1 ?_
        replace h := h.2
        refine r_iload (pc := 110) hv 57 rfl rfl ?_
        refine r_icmp_le (pc := 112) hv 58 rfl (fun c => ?_) (fun c => ?_)
        · replace h := h.1 c
          refine r_iinc (pc := 126) (lo' := [some (aR b), some (aI l1), some (aI l2), some (aI l3), some (aI (l4 + 1)), some (aI l5), some (aI s0)]) hv 66 rfl rfl rfl ?_
          refine r_goto (pc := 129) hv 67 rfl  ?_
          exact hw 32 [some (aR b), some (aI l1), some (aI l2), some (aI l3), some (aI (l4 + 1)), none, none] _ _ _ ⟨rfl, ⟨rfl, ⟨rfl, ⟨rfl, ⟨rfl, trivial⟩⟩⟩⟩⟩ h
        · replace h := h.2 c
          exact (w_X0_findSignals_115 hS hv hw b h_b l1 l2 l3 l4 l5 s0  σ h)
def vc_X0_findSignals_32 (S : Sp) (Φ : Rs) (v : Kt) (b : Nat) (l1 : Int32) (l2 : Int32) (l3 : Int32) (l4 : Int32) (σ : St) : Prop := ((σ.1 1 4 : Int32) ≤ l4 → (v 12 [some (aR b), some (aI l1), some (aI l2), some (aI (l3 + 1)), none, none, none] [] σ)) ∧ (¬ ((σ.1 1 4 : Int32) ≤ l4) → (vp_in (l4 * 3 + 1) 120 ∧ ((¬ (l4 : Int32) = l1 → (S 3 [aR b, aI l4] σ (fun r σ1 => ∃ x2 : Int32, r = [aI x2] ∧ (vc_X0_findSignals_72 S Φ v b l1 l2 l3 l4 (σ.1 3 (l4 * 3 + 1 : Int32).toNatClampNeg) x2 σ1)))) ∧ ((l4 : Int32) = l1 → (vc_X0_findSignals_72 S Φ v b l1 l2 l3 l4 (σ.1 3 (l4 * 3 + 1 : Int32).toNatClampNeg) (-1) σ)))))
theorem w_X0_findSignals_32 {S : Sp} (hS : Sys S) {Φ : Rs} {v : Kt} (hv : Cl S Φ k_X0_findSignals v) (hw : Wk v) (b : Nat) (h_b : isBl b) (l1 : Int32) (l2 : Int32) (l3 : Int32) (l4 : Int32) (σ : St) (h : vc_X0_findSignals_32 S Φ v b l1 l2 l3 l4 σ) : v 32 [some (aR b), some (aI l1), some (aI l2), some (aI l3), some (aI l4), none, none] [] σ := by
  unfold vc_X0_findSignals_32 at h
  refine r_iload (pc := 32) hv 19 rfl rfl ?_
  refine r_aload_n (pc := 34) hv 20 rfl rfl ?_
  refine r_getR (pc := 35) (b := 1) hv 21 rfl rfl (isBl_oc h_b) (isBl_c0 h_b) ?_
  refine r_getI (pc := 38) hv 22 rfl rfl rfl ?_
  refine r_icmp_ge (pc := 41) hv 23 rfl (fun c => ?_) (fun c => ?_)
  · replace h := h.1 c
    refine r_iinc (pc := 132) (lo' := [some (aR b), some (aI l1), some (aI l2), some (aI (l3 + 1)), some (aI l4), none, none]) hv 68 rfl rfl rfl ?_
    refine r_goto (pc := 135) hv 69 rfl  ?_
    exact hw 12 [some (aR b), some (aI l1), some (aI l2), some (aI (l3 + 1)), none, none, none] _ _ _ ⟨rfl, ⟨rfl, ⟨rfl, ⟨rfl, trivial⟩⟩⟩⟩ h
  · replace h := h.2 c
    refine r_aload_n (pc := 44) hv 24 rfl rfl ?_
    refine r_getR (pc := 45) (b := 1) hv 25 rfl rfl (isBl_oc h_b) (isBl_c0 h_b) ?_
    refine r_iload (pc := 48) hv 26 rfl rfl ?_
    refine r_iconst (pc := 50) hv 27 rfl  ?_
    refine r_callV (pc := 51) (l := [aI 1, aI l4]) (av := [aI l4, aI 1]) (a := 1) (t := []) hv 28 rfl rfl rfl rfl (rcv_o (by decide) rfl) trivial (t_X2_cord hS isPat_1 h.1 ?_)
    replace h := h.2
    show v 54 [some (aR b), some (aI l1), some (aI l2), some (aI l3), some (aI l4), none, none] [aI (σ.1 3 (l4 * 3 + 1 : Int32).toNatClampNeg)] σ
    refine r_istore (pc := 54) (lo' := [some (aR b), some (aI l1), some (aI l2), some (aI l3), some (aI l4), some (aI (σ.1 3 (l4 * 3 + 1 : Int32).toNatClampNeg)), none]) hv 29 rfl rfl ?_
    refine r_iload (pc := 56) hv 30 rfl rfl ?_
    refine r_iload_n (pc := 58) hv 31 rfl rfl ?_
    refine r_icmp_ne (pc := 59) hv 32 rfl (fun c => ?_) (fun c => ?_)
    · replace h := h.1 c
      refine r_aload_n (pc := 66) hv 35 rfl rfl ?_
      refine r_iload (pc := 67) hv 36 rfl rfl ?_
      refine r_callV (pc := 69) (l := [aI l4]) (av := [aI l4]) (a := b) (t := []) hv 37 rfl rfl rfl rfl (rcv_o (by decide) (isBl_oc h_b)) trivial (hS.1 _ _ _ _ _ (fun r σ1 h => ?_) h)
      obtain ⟨x2, rfl, h⟩ := h
      show v 72 [some (aR b), some (aI l1), some (aI l2), some (aI l3), some (aI l4), some (aI (σ.1 3 (l4 * 3 + 1 : Int32).toNatClampNeg)), none] [aI x2] σ1
      exact (w_X0_findSignals_72 hS hv hw b h_b l1 l2 l3 l4 (σ.1 3 (l4 * 3 + 1 : Int32).toNatClampNeg) x2  σ1 h)
    · replace h := h.2 c
      refine r_iconst (pc := 62) hv 33 rfl  ?_
      refine r_goto (pc := 63) hv 34 rfl  ?_
      exact (w_X0_findSignals_72 hS hv hw b h_b l1 l2 l3 l4 (σ.1 3 (l4 * 3 + 1 : Int32).toNatClampNeg) (-1)  σ h)
def vc_X0_findSignals_12 (S : Sp) (Φ : Rs) (v : Kt) (b : Nat) (l1 : Int32) (l2 : Int32) (l3 : Int32) (σ : St) : Prop := ((σ.1 1 3 : Int32) ≤ l3 → (Φ [] σ)) ∧ (¬ ((σ.1 1 3 : Int32) ≤ l3) → (((l2 : Int32) = 0 → (Φ [] σ)) ∧ (¬ ((l2 : Int32) = 0) → (v 32 [some (aR b), some (aI l1), some (aI 0), some (aI l3), some (aI 0), none, none] [] σ))))
theorem w_X0_findSignals_12 {S : Sp} (hS : Sys S) {Φ : Rs} {v : Kt} (hv : Cl S Φ k_X0_findSignals v) (hw : Wk v) (b : Nat) (h_b : isBl b) (l1 : Int32) (l2 : Int32) (l3 : Int32) (σ : St) (h : vc_X0_findSignals_12 S Φ v b l1 l2 l3 σ) : v 12 [some (aR b), some (aI l1), some (aI l2), some (aI l3), none, none, none] [] σ := by
  unfold vc_X0_findSignals_12 at h
  refine r_iload_n (pc := 12) hv 8 rfl rfl ?_
  refine r_aload_n (pc := 13) hv 9 rfl rfl ?_
  refine r_getR (pc := 14) (b := 1) hv 10 rfl rfl (isBl_oc h_b) (isBl_c0 h_b) ?_
  refine r_getI (pc := 17) hv 11 rfl rfl rfl ?_
  refine r_icmp_ge (pc := 20) hv 12 rfl (fun c => ?_) (fun c => ?_)
  · replace h := h.1 c
    exact r_return (pc := 138) hv 70 rfl h
  · replace h := h.2 c
    refine r_iload_n (pc := 23) hv 13 rfl rfl ?_
    refine r_if_eq (pc := 24) hv 14 rfl (fun c => ?_) (fun c => ?_)
    · replace h := h.1 c
      exact r_return (pc := 138) hv 70 rfl h
    · replace h := h.2 c
      refine r_iconst (pc := 27) hv 15 rfl  ?_
      refine r_istore_n (pc := 28) (lo' := [some (aR b), some (aI l1), some (aI 0), some (aI l3), none, none, none]) hv 16 rfl rfl ?_
      refine r_iconst (pc := 29) hv 17 rfl  ?_
      refine r_istore (pc := 30) (lo' := [some (aR b), some (aI l1), some (aI 0), some (aI l3), some (aI 0), none, none]) hv 18 rfl rfl ?_
      exact h
def vc_X0_findSignals_0 (S : Sp) (Φ : Rs) (v : Kt) (b : Nat) (l1 : Int32) (σ : St) : Prop := S 241 [aR (b + 1), aI (-1)] σ (fun r σ1 => r = [] ∧ (v 12 [some (aR b), some (aI l1), some (aI 1), some (aI 0), none, none, none] [] σ1))
theorem w_X0_findSignals_0 {S : Sp} (hS : Sys S) {Φ : Rs} {v : Kt} (hv : Cl S Φ k_X0_findSignals v) (hw : Wk v) (b : Nat) (h_b : isBl b) (l1 : Int32) (σ : St) (h : vc_X0_findSignals_0 S Φ v b l1 σ) : v 0 [some (aR b), some (aI l1), none, none, none, none, none] [] σ := by
  unfold vc_X0_findSignals_0 at h
  refine r_aload_n (pc := 0) hv 0 rfl rfl ?_
  refine r_getR (pc := 1) (b := b + 1) hv 1 rfl rfl (isBl_oc h_b) (isBl_c1 h_b) ?_
  refine r_iconst (pc := 4) hv 2 rfl  ?_
  refine r_callS (pc := 5) (l := [aI (-1), aR (b + 1)]) (av := [aR (b + 1), aI (-1)]) (t := []) hv 3 rfl (Or.inl rfl) rfl rfl rfl trivial (hS.1 _ _ _ _ _ (fun r σ1 h => ?_) h)
  obtain ⟨rfl, h⟩ := h
  show v 8 [some (aR b), some (aI l1), none, none, none, none, none] [] σ1
  refine r_iconst (pc := 8) hv 4 rfl  ?_
  refine r_istore_n (pc := 9) (lo' := [some (aR b), some (aI l1), some (aI 1), none, none, none, none]) hv 5 rfl rfl ?_
  refine r_iconst (pc := 10) hv 6 rfl  ?_
  refine r_istore_n (pc := 11) (lo' := [some (aR b), some (aI l1), some (aI 1), some (aI 0), none, none, none]) hv 7 rfl rfl ?_
  exact h
theorem m_X0_findSignals {S : Sp} (hS : Sys S) {b : Nat} (h_b : isBl b) {l1 : Int32} {σ : St} {Φ : Rs} (h : ∀ v : Kt, Cl S Φ k_X0_findSignals v → Wk v → vc_X0_findSignals_0 S Φ v b l1 σ) : S 2 [aR b, aI l1] σ Φ :=
  hS.2 2 M_X0_findSignals k_X0_findSignals _ _ _ mkt_X0_findSignals (Nat.le_of_ble_eq_true rfl) (fun v hv hw => w_X0_findSignals_0 hS hv hw b h_b l1 σ (h v hv hw))
def vc_X0_endOf_0 (S : Sp) (Φ : Rs) (v : Kt) (b : Nat) (l1 : Int32) (σ : St) : Prop := vp_in (l1 * 3 + 0) 120 ∧ (vp_in (l1 * 3 + 2) 120 ∧ ((¬ (σ.1 3 (l1 * 3 + 0 : Int32).toNatClampNeg : Int32) = (-1) → (((b2 (¬ (σ.1 3 (l1 * 3 + 0 : Int32).toNatClampNeg : Int32) < 0 ∧ ¬ σ.1 1 3 ≤ (σ.1 3 (l1 * 3 + 0 : Int32).toNatClampNeg)) : Int32) = 0 → (Φ [aI (-1)] σ)) ∧ (¬ ((b2 (¬ (σ.1 3 (l1 * 3 + 0 : Int32).toNatClampNeg : Int32) < 0 ∧ ¬ σ.1 1 3 ≤ (σ.1 3 (l1 * 3 + 0 : Int32).toNatClampNeg)) : Int32) = 0) → ((¬ (b2 (¬ (σ.1 3 (l1 * 3 + 0 : Int32).toNatClampNeg : Int32) < 0 ∧ ¬ 20 ≤ (σ.1 3 (l1 * 3 + 0 : Int32).toNatClampNeg : Int32) ∧ ¬ ((σ.1 b 6 : Int32) >>> ((σ.1 3 (l1 * 3 + 0 : Int32).toNatClampNeg) &&& 31)) &&& 1 = 0) : Int32) = 0 → (Φ [aI (-1)] σ)) ∧ ((b2 (¬ (σ.1 3 (l1 * 3 + 0 : Int32).toNatClampNeg : Int32) < 0 ∧ ¬ 20 ≤ (σ.1 3 (l1 * 3 + 0 : Int32).toNatClampNeg : Int32) ∧ ¬ ((σ.1 b 6 : Int32) >>> ((σ.1 3 (l1 * 3 + 0 : Int32).toNatClampNeg) &&& 31)) &&& 1 = 0) : Int32) = 0 → (vp_in (σ.1 3 (l1 * 3 + 0 : Int32).toNatClampNeg) 20 ∧ ((¬ (σ.1 (b + 1) (σ.1 3 (l1 * 3 + 0 : Int32).toNatClampNeg : Int32).toNatClampNeg : Int32) = (-1) → (vp_in (σ.1 3 (l1 * 3 + 0 : Int32).toNatClampNeg) 20 ∧ (Φ [aI ((σ.1 (b + 1) (σ.1 3 (l1 * 3 + 0 : Int32).toNatClampNeg : Int32).toNatClampNeg) + (σ.1 3 (l1 * 3 + 2 : Int32).toNatClampNeg))] σ))) ∧ ((σ.1 (b + 1) (σ.1 3 (l1 * 3 + 0 : Int32).toNatClampNeg : Int32).toNatClampNeg : Int32) = (-1) → (Φ [aI (-1)] σ))))))))) ∧ ((σ.1 3 (l1 * 3 + 0 : Int32).toNatClampNeg : Int32) = (-1) → (Φ [aI (σ.1 3 (l1 * 3 + 2 : Int32).toNatClampNeg)] σ))))
theorem w_X0_endOf_0 {S : Sp} (hS : Sys S) {Φ : Rs} {v : Kt} (hv : Cl S Φ k_X0_endOf v) (hw : Wk v) (b : Nat) (h_b : isBl b) (l1 : Int32) (σ : St) (h : vc_X0_endOf_0 S Φ v b l1 σ) : v 0 [some (aR b), some (aI l1), none, none] [] σ := by
  unfold vc_X0_endOf_0 at h
  refine r_aload_n (pc := 0) hv 0 rfl rfl ?_
  refine r_getR (pc := 1) (b := 1) hv 1 rfl rfl (isBl_oc h_b) (isBl_c0 h_b) ?_
  refine r_iload_n (pc := 4) hv 2 rfl rfl ?_
  refine r_iconst (pc := 5) hv 3 rfl  ?_
  refine r_callV (pc := 6) (l := [aI 0, aI l1]) (av := [aI l1, aI 0]) (a := 1) (t := []) hv 4 rfl rfl rfl rfl (rcv_o (by decide) rfl) trivial (t_X2_cord hS isPat_1 h.1 ?_)
  replace h := h.2
  show v 9 [some (aR b), some (aI l1), none, none] [aI (σ.1 3 (l1 * 3 + 0 : Int32).toNatClampNeg)] σ
  refine r_istore_n (pc := 9) (lo' := [some (aR b), some (aI l1), some (aI (σ.1 3 (l1 * 3 + 0 : Int32).toNatClampNeg)), none]) hv 5 rfl rfl ?_
  refine r_aload_n (pc := 10) hv 6 rfl rfl ?_
  refine r_getR (pc := 11) (b := 1) hv 7 rfl rfl (isBl_oc h_b) (isBl_c0 h_b) ?_
  refine r_iload_n (pc := 14) hv 8 rfl rfl ?_
  refine r_iconst (pc := 15) hv 9 rfl  ?_
  refine r_callV (pc := 16) (l := [aI 2, aI l1]) (av := [aI l1, aI 2]) (a := 1) (t := []) hv 10 rfl rfl rfl rfl (rcv_o (by decide) rfl) trivial (t_X2_cord hS isPat_1 h.1 ?_)
  replace h := h.2
  show v 19 [some (aR b), some (aI l1), some (aI (σ.1 3 (l1 * 3 + 0 : Int32).toNatClampNeg)), none] [aI (σ.1 3 (l1 * 3 + 2 : Int32).toNatClampNeg)] σ
  refine r_istore_n (pc := 19) (lo' := [some (aR b), some (aI l1), some (aI (σ.1 3 (l1 * 3 + 0 : Int32).toNatClampNeg)), some (aI (σ.1 3 (l1 * 3 + 2 : Int32).toNatClampNeg))]) hv 11 rfl rfl ?_
  refine r_iload_n (pc := 20) hv 12 rfl rfl ?_
  refine r_iconst (pc := 21) hv 13 rfl  ?_
  refine r_icmp_ne (pc := 22) hv 14 rfl (fun c => ?_) (fun c => ?_)
  · replace h := h.1 c
    refine r_aload_n (pc := 27) hv 17 rfl rfl ?_
    refine r_getR (pc := 28) (b := 1) hv 18 rfl rfl (isBl_oc h_b) (isBl_c0 h_b) ?_
    refine r_iload_n (pc := 31) hv 19 rfl rfl ?_
    refine r_callV (pc := 32) (l := [aI (σ.1 3 (l1 * 3 + 0 : Int32).toNatClampNeg)]) (av := [aI (σ.1 3 (l1 * 3 + 0 : Int32).toNatClampNeg)]) (a := 1) (t := []) hv 20 rfl rfl rfl rfl (rcv_o (by decide) rfl) trivial (t_X2_isHole hS isPat_1 ?_)
    show v 35 [some (aR b), some (aI l1), some (aI (σ.1 3 (l1 * 3 + 0 : Int32).toNatClampNeg)), some (aI (σ.1 3 (l1 * 3 + 2 : Int32).toNatClampNeg))] [aI (b2 (¬ (σ.1 3 (l1 * 3 + 0 : Int32).toNatClampNeg : Int32) < 0 ∧ ¬ σ.1 1 3 ≤ (σ.1 3 (l1 * 3 + 0 : Int32).toNatClampNeg)))] σ
    refine r_if_eq (pc := 35) hv 21 rfl (fun c => ?_) (fun c => ?_)
    · replace h := h.1 c
      refine r_iconst (pc := 59) hv 33 rfl  ?_
      exact r_ireturn (pc := 60) hv 34 rfl rfl h
    · replace h := h.2 c
      refine r_aload_n (pc := 38) hv 22 rfl rfl ?_
      refine r_getI (pc := 39) hv 23 rfl rfl (isBl_oc h_b) ?_
      refine r_iload_n (pc := 42) hv 24 rfl rfl ?_
      refine r_callS (pc := 43) (l := [aI (σ.1 3 (l1 * 3 + 0 : Int32).toNatClampNeg), aI (σ.1 b 6)]) (av := [aI (σ.1 b 6), aI (σ.1 3 (l1 * 3 + 0 : Int32).toNatClampNeg)]) (t := []) hv 25 rfl (Or.inr rfl) rfl rfl rfl trivial (t_X8_hasBit hS ?_)
      show v 46 [some (aR b), some (aI l1), some (aI (σ.1 3 (l1 * 3 + 0 : Int32).toNatClampNeg)), some (aI (σ.1 3 (l1 * 3 + 2 : Int32).toNatClampNeg))] [aI (b2 (¬ (σ.1 3 (l1 * 3 + 0 : Int32).toNatClampNeg : Int32) < 0 ∧ ¬ 20 ≤ (σ.1 3 (l1 * 3 + 0 : Int32).toNatClampNeg : Int32) ∧ ¬ ((σ.1 b 6 : Int32) >>> ((σ.1 3 (l1 * 3 + 0 : Int32).toNatClampNeg) &&& 31)) &&& 1 = 0))] σ
      refine r_if_ne (pc := 46) hv 26 rfl (fun c => ?_) (fun c => ?_)
      · replace h := h.1 c
        refine r_iconst (pc := 59) hv 33 rfl  ?_
        exact r_ireturn (pc := 60) hv 34 rfl rfl h
      · replace h := h.2 c
        refine r_aload_n (pc := 49) hv 27 rfl rfl ?_
        refine r_getR (pc := 50) (b := b + 1) hv 28 rfl rfl (isBl_oc h_b) (isBl_c1 h_b) ?_
        refine r_iload_n (pc := 53) hv 29 rfl rfl ?_
        refine r_iaload (pc := 54) (N := 20) hv 30 rfl (isBl_t1 h_b) (isBl_l1 h_b) (isBl_lt1 h_b) h.1 ?_
        replace h := h.2
        refine r_iconst (pc := 55) hv 31 rfl  ?_
        refine r_icmp_ne (pc := 56) hv 32 rfl (fun c => ?_) (fun c => ?_)
        · replace h := h.1 c
          refine r_aload_n (pc := 61) hv 35 rfl rfl ?_
          refine r_getR (pc := 62) (b := b + 1) hv 36 rfl rfl (isBl_oc h_b) (isBl_c1 h_b) ?_
          refine r_iload_n (pc := 65) hv 37 rfl rfl ?_
          refine r_iaload (pc := 66) (N := 20) hv 38 rfl (isBl_t1 h_b) (isBl_l1 h_b) (isBl_lt1 h_b) h.1 ?_
          replace h := h.2
          refine r_iload_n (pc := 67) hv 39 rfl rfl ?_
          refine r_iadd (pc := 68) hv 40 rfl  ?_
          exact r_ireturn (pc := 69) hv 41 rfl rfl h
        · replace h := h.2 c
          refine r_iconst (pc := 59) hv 33 rfl  ?_
          exact r_ireturn (pc := 60) hv 34 rfl rfl h
  · replace h := h.2 c
    refine r_iload_n (pc := 25) hv 15 rfl rfl ?_
    exact r_ireturn (pc := 26) hv 16 rfl rfl h
theorem m_X0_endOf {S : Sp} (hS : Sys S) {b : Nat} (h_b : isBl b) {l1 : Int32} {σ : St} {Φ : Rs} (h : ∀ v : Kt, Cl S Φ k_X0_endOf v → Wk v → vc_X0_endOf_0 S Φ v b l1 σ) : S 3 [aR b, aI l1] σ Φ :=
  hS.2 3 M_X0_endOf k_X0_endOf _ _ _ mkt_X0_endOf (Nat.le_of_ble_eq_true rfl) (fun v hv hw => w_X0_endOf_0 hS hv hw b h_b l1 σ (h v hv hw))
def vc_X0_findFiring_85 (S : Sp) (Φ : Rs) (v : Kt) (b : Nat) (l1 : Int32) (l2 : Int32) (s0 : Int32) (s1 : Int32) (σ : St) : Prop := vp_in s1 20 ∧ (∀ σ1 : St, σ1 = upI σ (b + 2) (s1 : Int32).toNatClampNeg s0 → (((l2 : Int32) = 0 → (v 7 [some (aR b), some (aI (l1 + 1)), none] [] σ1)) ∧ (¬ ((l2 : Int32) = 0) → (∀ σ2 : St, σ2 = upI σ1 b 4 ((σ1.1 b 4) ||| (bitO l1)) → (v 7 [some (aR b), some (aI (l1 + 1)), none] [] σ2)))))
theorem w_X0_findFiring_85 {S : Sp} (hS : Sys S) {Φ : Rs} {v : Kt} (hv : Cl S Φ k_X0_findFiring v) (hw : Wk v) (b : Nat) (h_b : isBl b) (l1 : Int32) (l2 : Int32) (s0 : Int32) (s1 : Int32) (σ : St) (h : vc_X0_findFiring_85 S Φ v b l1 l2 s0 s1 σ) : v 85 [some (aR b), some (aI l1), some (aI l2)] [aI s0, aI s1, aR (b + 2)] σ := by
  unfold vc_X0_findFiring_85 at h
  refine r_iastore (pc := 85) (N := 20) hv 47 rfl (isBl_t2 h_b) (isBl_l2 h_b) h.1 ?_
  replace h := h.2
  obtain ⟨σ1, e_σ1⟩ : ∃ y : St, y = upI σ (b + 2) (s1 : Int32).toNatClampNeg s0 := ⟨_, rfl⟩
  rw [← e_σ1]
  replace h := h σ1 e_σ1
  refine r_iload_n (pc := 86) hv 48 rfl rfl ?_
  refine r_if_eq (pc := 87) hv 49 rfl (fun c => ?_) (fun c => ?_)
  · replace h := h.1 c
    refine r_iinc (pc := 103) (lo' := [some (aR b), some (aI (l1 + 1)), some (aI l2)]) hv 57 rfl rfl rfl ?_
    refine r_goto (pc := 106) hv 58 rfl  ?_
    exact hw 7 [some (aR b), some (aI (l1 + 1)), none] _ _ _ ⟨rfl, ⟨rfl, trivial⟩⟩ h
  · replace h := h.2 c
    refine r_aload_n (pc := 90) hv 50 rfl rfl ?_
    refine r_dup (pc := 91) hv 51 rfl trivial ?_
    refine r_getI (pc := 92) hv 52 rfl rfl (isBl_oc h_b) ?_
    refine r_iload_n (pc := 95) hv 53 rfl rfl ?_
    refine r_callS (pc := 96) (l := [aI l1]) (av := [aI l1]) (t := [aI (σ1.1 b 4), aR b]) hv 54 rfl (Or.inr rfl) rfl rfl rfl trivial (t_X8_bitOf hS ?_)
    show v 99 [some (aR b), some (aI l1), some (aI l2)] [aI (bitO l1), aI (σ1.1 b 4), aR b] σ1
    refine r_ior (pc := 99) hv 55 rfl  ?_
    refine r_putI (pc := 100) hv 56 rfl rfl (isBl_oc h_b) ?_
    obtain ⟨σ2, e_σ2⟩ : ∃ y : St, y = upI σ1 b 4 ((σ1.1 b 4) ||| (bitO l1)) := ⟨_, rfl⟩
    rw [← e_σ2]
    replace h := h σ2 e_σ2
    refine r_iinc (pc := 103) (lo' := [some (aR b), some (aI (l1 + 1)), some (aI l2)]) hv 57 rfl rfl rfl ?_
    refine r_goto (pc := 106) hv 58 rfl  ?_
    exact hw 7 [some (aR b), some (aI (l1 + 1)), none] _ _ _ ⟨rfl, ⟨rfl, trivial⟩⟩ h
def vc_X0_findFiring_55 (S : Sp) (Φ : Rs) (v : Kt) (b : Nat) (l1 : Int32) (s0 : Int32) (σ : St) : Prop := ((s0 : Int32) = 0 → (vc_X0_findFiring_85 S Φ v b l1 s0 (-1) l1 σ)) ∧ (¬ ((s0 : Int32) = 0) → (vp_in l1 20 ∧ (vp_in (l1 * 9 + 5) 180 ∧ (vc_X0_findFiring_85 S Φ v b l1 s0 ((σ.1 (b + 1) (l1 : Int32).toNatClampNeg) + (σ.1 2 (l1 * 9 + 5 : Int32).toNatClampNeg)) l1 σ))))
theorem w_X0_findFiring_55 {S : Sp} (hS : Sys S) {Φ : Rs} {v : Kt} (hv : Cl S Φ k_X0_findFiring v) (hw : Wk v) (b : Nat) (h_b : isBl b) (l1 : Int32) (s0 : Int32) (σ : St) (h : vc_X0_findFiring_55 S Φ v b l1 s0 σ) : v 55 [some (aR b), some (aI l1), none] [aI s0] σ := by
  unfold vc_X0_findFiring_55 at h
  refine r_istore_n (pc := 55) (lo' := [some (aR b), some (aI l1), some (aI s0)]) hv 29 rfl rfl ?_
  refine r_aload_n (pc := 56) hv 30 rfl rfl ?_
  refine r_getR (pc := 57) (b := b + 2) hv 31 rfl rfl (isBl_oc h_b) (isBl_c2 h_b) ?_
  refine r_iload_n (pc := 60) hv 32 rfl rfl ?_
  refine r_iload_n (pc := 61) hv 33 rfl rfl ?_
  refine r_if_eq (pc := 62) hv 34 rfl (fun c => ?_) (fun c => ?_)
  · replace h := h.1 c
    refine r_iconst (pc := 84) hv 46 rfl  ?_
    exact (w_X0_findFiring_85 hS hv hw b h_b l1 s0 (-1) l1  σ h)
  · replace h := h.2 c
    refine r_aload_n (pc := 65) hv 35 rfl rfl ?_
    refine r_getR (pc := 66) (b := b + 1) hv 36 rfl rfl (isBl_oc h_b) (isBl_c1 h_b) ?_
    refine r_iload_n (pc := 69) hv 37 rfl rfl ?_
    refine r_iaload (pc := 70) (N := 20) hv 38 rfl (isBl_t1 h_b) (isBl_l1 h_b) (isBl_lt1 h_b) h.1 ?_
    replace h := h.2
    refine r_aload_n (pc := 71) hv 39 rfl rfl ?_
    refine r_getR (pc := 72) (b := 1) hv 40 rfl rfl (isBl_oc h_b) (isBl_c0 h_b) ?_
    refine r_iload_n (pc := 75) hv 41 rfl rfl ?_
    refine r_iconst (pc := 76) hv 42 rfl  ?_
    refine r_callV (pc := 77) (l := [aI 5, aI l1]) (av := [aI l1, aI 5]) (a := 1) (t := [aI (σ.1 (b + 1) (l1 : Int32).toNatClampNeg), aI l1, aR (b + 2)]) hv 43 rfl rfl rfl rfl (rcv_o (by decide) rfl) trivial (t_X2_mark hS isPat_1 h.1 ?_)
    replace h := h.2
    show v 80 [some (aR b), some (aI l1), some (aI s0)] [aI (σ.1 2 (l1 * 9 + 5 : Int32).toNatClampNeg), aI (σ.1 (b + 1) (l1 : Int32).toNatClampNeg), aI l1, aR (b + 2)] σ
    refine r_iadd (pc := 80) hv 44 rfl  ?_
    refine r_goto (pc := 81) hv 45 rfl  ?_
    exact (w_X0_findFiring_85 hS hv hw b h_b l1 s0 ((σ.1 (b + 1) (l1 : Int32).toNatClampNeg) + (σ.1 2 (l1 * 9 + 5 : Int32).toNatClampNeg)) l1  σ h)
def vc_X0_findFiring_54 (S : Sp) (Φ : Rs) (v : Kt) (b : Nat) (l1 : Int32) (σ : St) : Prop := vc_X0_findFiring_55 S Φ v b l1 0 σ
theorem w_X0_findFiring_54 {S : Sp} (hS : Sys S) {Φ : Rs} {v : Kt} (hv : Cl S Φ k_X0_findFiring v) (hw : Wk v) (b : Nat) (h_b : isBl b) (l1 : Int32) (σ : St) (h : vc_X0_findFiring_54 S Φ v b l1 σ) : v 54 [some (aR b), some (aI l1), none] [] σ := by
  unfold vc_X0_findFiring_54 at h
  refine r_iconst (pc := 54) hv 28 rfl  ?_
  exact (w_X0_findFiring_55 hS hv hw b h_b l1 0  σ h)
def vc_X0_findFiring_7 (S : Sp) (Φ : Rs) (v : Kt) (b : Nat) (l1 : Int32) (σ : St) : Prop := ((σ.1 1 3 : Int32) ≤ l1 → (Φ [] σ)) ∧ (¬ ((σ.1 1 3 : Int32) ≤ l1) → (vp_in l1 20 ∧ (((σ.1 (b + 1) (l1 : Int32).toNatClampNeg : Int32) = (-1) → (vc_X0_findFiring_54 S Φ v b l1 σ)) ∧ (¬ ((σ.1 (b + 1) (l1 : Int32).toNatClampNeg : Int32) = (-1)) → ((¬ (b2 (¬ (l1 : Int32) < 0 ∧ ¬ 20 ≤ (l1 : Int32) ∧ ¬ ((σ.1 b 6 : Int32) >>> (l1 &&& 31)) &&& 1 = 0) : Int32) = 0 → (vc_X0_findFiring_54 S Φ v b l1 σ)) ∧ ((b2 (¬ (l1 : Int32) < 0 ∧ ¬ 20 ≤ (l1 : Int32) ∧ ¬ ((σ.1 b 6 : Int32) >>> (l1 &&& 31)) &&& 1 = 0) : Int32) = 0 → (vp_in (l1 * 9 + 2) 180 ∧ (((b2 (¬ σ.1 2 (l1 * 9 + 2 : Int32).toNatClampNeg = 5) : Int32) = 0 → (vc_X0_findFiring_54 S Φ v b l1 σ)) ∧ (¬ ((b2 (¬ σ.1 2 (l1 * 9 + 2 : Int32).toNatClampNeg = 5) : Int32) = 0) → (vc_X0_findFiring_55 S Φ v b l1 1 σ))))))))))
theorem w_X0_findFiring_7 {S : Sp} (hS : Sys S) {Φ : Rs} {v : Kt} (hv : Cl S Φ k_X0_findFiring v) (hw : Wk v) (b : Nat) (h_b : isBl b) (l1 : Int32) (σ : St) (h : vc_X0_findFiring_7 S Φ v b l1 σ) : v 7 [some (aR b), some (aI l1), none] [] σ := by
  unfold vc_X0_findFiring_7 at h
  refine r_iload_n (pc := 7) hv 5 rfl rfl ?_
  refine r_aload_n (pc := 8) hv 6 rfl rfl ?_
  refine r_getR (pc := 9) (b := 1) hv 7 rfl rfl (isBl_oc h_b) (isBl_c0 h_b) ?_
  refine r_getI (pc := 12) hv 8 rfl rfl rfl ?_
  refine r_icmp_ge (pc := 15) hv 9 rfl (fun c => ?_) (fun c => ?_)
  · replace h := h.1 c
    exact r_return (pc := 109) hv 59 rfl h
  · replace h := h.2 c
    refine r_aload_n (pc := 18) hv 10 rfl rfl ?_
    refine r_getR (pc := 19) (b := b + 1) hv 11 rfl rfl (isBl_oc h_b) (isBl_c1 h_b) ?_
    refine r_iload_n (pc := 22) hv 12 rfl rfl ?_
    refine r_iaload (pc := 23) (N := 20) hv 13 rfl (isBl_t1 h_b) (isBl_l1 h_b) (isBl_lt1 h_b) h.1 ?_
    replace h := h.2
    refine r_iconst (pc := 24) hv 14 rfl  ?_
    refine r_icmp_eq (pc := 25) hv 15 rfl (fun c => ?_) (fun c => ?_)
    · replace h := h.1 c
      exact (w_X0_findFiring_54 hS hv hw b h_b l1  σ h)
    · replace h := h.2 c
      refine r_aload_n (pc := 28) hv 16 rfl rfl ?_
      refine r_getI (pc := 29) hv 17 rfl rfl (isBl_oc h_b) ?_
      refine r_iload_n (pc := 32) hv 18 rfl rfl ?_
      refine r_callS (pc := 33) (l := [aI l1, aI (σ.1 b 6)]) (av := [aI (σ.1 b 6), aI l1]) (t := []) hv 19 rfl (Or.inr rfl) rfl rfl rfl trivial (t_X8_hasBit hS ?_)
      show v 36 [some (aR b), some (aI l1), none] [aI (b2 (¬ (l1 : Int32) < 0 ∧ ¬ 20 ≤ (l1 : Int32) ∧ ¬ ((σ.1 b 6 : Int32) >>> (l1 &&& 31)) &&& 1 = 0))] σ
      refine r_if_ne (pc := 36) hv 20 rfl (fun c => ?_) (fun c => ?_)
      · replace h := h.1 c
        exact (w_X0_findFiring_54 hS hv hw b h_b l1  σ h)
      · replace h := h.2 c
        refine r_aload_n (pc := 39) hv 21 rfl rfl ?_
        refine r_getR (pc := 40) (b := 1) hv 22 rfl rfl (isBl_oc h_b) (isBl_c0 h_b) ?_
        refine r_iload_n (pc := 43) hv 23 rfl rfl ?_
        refine r_callV (pc := 44) (l := [aI l1]) (av := [aI l1]) (a := 1) (t := []) hv 24 rfl rfl rfl rfl (rcv_o (by decide) rfl) trivial (t_X2_hasShots hS isPat_1 h.1 ?_)
        replace h := h.2
        show v 47 [some (aR b), some (aI l1), none] [aI (b2 (¬ σ.1 2 (l1 * 9 + 2 : Int32).toNatClampNeg = 5))] σ
        refine r_if_eq (pc := 47) hv 25 rfl (fun c => ?_) (fun c => ?_)
        · replace h := h.1 c
          exact (w_X0_findFiring_54 hS hv hw b h_b l1  σ h)
        · replace h := h.2 c
          refine r_iconst (pc := 50) hv 26 rfl  ?_
          refine r_goto (pc := 51) hv 27 rfl  ?_
          exact (w_X0_findFiring_55 hS hv hw b h_b l1 1  σ h)
def vc_X0_findFiring_0 (S : Sp) (Φ : Rs) (v : Kt) (b : Nat) (σ : St) : Prop := ∀ σ1 : St, σ1 = upI σ b 4 0 → (v 7 [some (aR b), some (aI 0), none] [] σ1)
theorem w_X0_findFiring_0 {S : Sp} (hS : Sys S) {Φ : Rs} {v : Kt} (hv : Cl S Φ k_X0_findFiring v) (hw : Wk v) (b : Nat) (h_b : isBl b) (σ : St) (h : vc_X0_findFiring_0 S Φ v b σ) : v 0 [some (aR b), none, none] [] σ := by
  unfold vc_X0_findFiring_0 at h
  refine r_aload_n (pc := 0) hv 0 rfl rfl ?_
  refine r_iconst (pc := 1) hv 1 rfl  ?_
  refine r_putI (pc := 2) hv 2 rfl rfl (isBl_oc h_b) ?_
  obtain ⟨σ1, e_σ1⟩ : ∃ y : St, y = upI σ b 4 0 := ⟨_, rfl⟩
  rw [← e_σ1]
  replace h := h σ1 e_σ1
  refine r_iconst (pc := 5) hv 3 rfl  ?_
  refine r_istore_n (pc := 6) (lo' := [some (aR b), some (aI 0), none]) hv 4 rfl rfl ?_
  exact h
theorem m_X0_findFiring {S : Sp} (hS : Sys S) {b : Nat} (h_b : isBl b) {σ : St} {Φ : Rs} (h : ∀ v : Kt, Cl S Φ k_X0_findFiring v → Wk v → vc_X0_findFiring_0 S Φ v b σ) : S 4 [aR b] σ Φ :=
  hS.2 4 M_X0_findFiring k_X0_findFiring _ _ _ mkt_X0_findFiring (Nat.le_of_ble_eq_true rfl) (fun v hv hw => w_X0_findFiring_0 hS hv hw b h_b  σ (h v hv hw))
def vc_X0_findBuried_61 (S : Sp) (Φ : Rs) (v : Kt) (b : Nat) (l1 : Int32) (l2 : Int32) (σ : St) : Prop := ∀ σ1 : St, σ1 = upI σ b 5 ((σ.1 b 5) ||| (bitO l1)) → (v 7 [some (aR b), some (aI (l1 + 1)), none] [] σ1)
theorem w_X0_findBuried_61 {S : Sp} (hS : Sys S) {Φ : Rs} {v : Kt} (hv : Cl S Φ k_X0_findBuried v) (hw : Wk v) (b : Nat) (h_b : isBl b) (l1 : Int32) (l2 : Int32) (σ : St) (h : vc_X0_findBuried_61 S Φ v b l1 l2 σ) : v 61 [some (aR b), some (aI l1), some (aI l2)] [] σ := by
  unfold vc_X0_findBuried_61 at h
  refine r_aload_n (pc := 61) hv 33 rfl rfl ?_
  refine r_dup (pc := 62) hv 34 rfl trivial ?_
  refine r_getI (pc := 63) hv 35 rfl rfl (isBl_oc h_b) ?_
  refine r_iload_n (pc := 66) hv 36 rfl rfl ?_
  refine r_callS (pc := 67) (l := [aI l1]) (av := [aI l1]) (t := [aI (σ.1 b 5), aR b]) hv 37 rfl (Or.inr rfl) rfl rfl rfl trivial (t_X8_bitOf hS ?_)
  show v 70 [some (aR b), some (aI l1), some (aI l2)] [aI (bitO l1), aI (σ.1 b 5), aR b] σ
  refine r_ior (pc := 70) hv 38 rfl  ?_
  refine r_putI (pc := 71) hv 39 rfl rfl (isBl_oc h_b) ?_
  obtain ⟨σ1, e_σ1⟩ : ∃ y : St, y = upI σ b 5 ((σ.1 b 5) ||| (bitO l1)) := ⟨_, rfl⟩
  rw [← e_σ1]
  replace h := h σ1 e_σ1
  refine r_iinc (pc := 74) (lo' := [some (aR b), some (aI (l1 + 1)), some (aI l2)]) hv 40 rfl rfl rfl ?_
  refine r_goto (pc := 77) hv 41 rfl  ?_
  exact hw 7 [some (aR b), some (aI (l1 + 1)), none] _ _ _ ⟨rfl, ⟨rfl, trivial⟩⟩ h
def vc_X0_findBuried_7 (S : Sp) (Φ : Rs) (v : Kt) (b : Nat) (l1 : Int32) (σ : St) : Prop := ((σ.1 1 3 : Int32) ≤ l1 → (Φ [] σ)) ∧ (¬ ((σ.1 1 3 : Int32) ≤ l1) → ((¬ (b2 (¬ (l1 : Int32) < 0 ∧ ¬ 20 ≤ (l1 : Int32) ∧ ¬ ((σ.1 b 4 : Int32) >>> (l1 &&& 31)) &&& 1 = 0) : Int32) = 0 → (S 47 [aR 1, aI l1, aI (σ.1 b 4), aR (b + 2)] σ (fun r σ1 => ∃ x2 : Int32, r = [aI x2] ∧ (((x2 : Int32) = (-1) → (vc_X0_findBuried_61 S Φ v b l1 x2 σ1)) ∧ (¬ ((x2 : Int32) = (-1)) → (vp_in l1 20 ∧ (((x2 : Int32) ≤ (σ1.1 (b + 2) (l1 : Int32).toNatClampNeg) → (v 7 [some (aR b), some (aI (l1 + 1)), none] [] σ1)) ∧ (¬ ((x2 : Int32) ≤ (σ1.1 (b + 2) (l1 : Int32).toNatClampNeg)) → (vc_X0_findBuried_61 S Φ v b l1 x2 σ1))))))))) ∧ ((b2 (¬ (l1 : Int32) < 0 ∧ ¬ 20 ≤ (l1 : Int32) ∧ ¬ ((σ.1 b 4 : Int32) >>> (l1 &&& 31)) &&& 1 = 0) : Int32) = 0 → (v 7 [some (aR b), some (aI (l1 + 1)), none] [] σ))))
theorem w_X0_findBuried_7 {S : Sp} (hS : Sys S) {Φ : Rs} {v : Kt} (hv : Cl S Φ k_X0_findBuried v) (hw : Wk v) (b : Nat) (h_b : isBl b) (l1 : Int32) (σ : St) (h : vc_X0_findBuried_7 S Φ v b l1 σ) : v 7 [some (aR b), some (aI l1), none] [] σ := by
  unfold vc_X0_findBuried_7 at h
  refine r_iload_n (pc := 7) hv 5 rfl rfl ?_
  refine r_aload_n (pc := 8) hv 6 rfl rfl ?_
  refine r_getR (pc := 9) (b := 1) hv 7 rfl rfl (isBl_oc h_b) (isBl_c0 h_b) ?_
  refine r_getI (pc := 12) hv 8 rfl rfl rfl ?_
  refine r_icmp_ge (pc := 15) hv 9 rfl (fun c => ?_) (fun c => ?_)
  · replace h := h.1 c
    exact r_return (pc := 80) hv 42 rfl h
  · replace h := h.2 c
    refine r_aload_n (pc := 18) hv 10 rfl rfl ?_
    refine r_iload_n (pc := 19) hv 11 rfl rfl ?_
    refine r_callV (pc := 20) (l := [aI l1]) (av := [aI l1]) (a := b) (t := []) hv 12 rfl rfl rfl rfl (rcv_o (by decide) (isBl_oc h_b)) trivial (t_X0_doesFire hS h_b ?_)
    show v 23 [some (aR b), some (aI l1), none] [aI (b2 (¬ (l1 : Int32) < 0 ∧ ¬ 20 ≤ (l1 : Int32) ∧ ¬ ((σ.1 b 4 : Int32) >>> (l1 &&& 31)) &&& 1 = 0))] σ
    refine r_if_ne (pc := 23) hv 13 rfl (fun c => ?_) (fun c => ?_)
    · replace h := h.1 c
      refine r_aload_n (pc := 29) hv 15 rfl rfl ?_
      refine r_getR (pc := 30) (b := 1) hv 16 rfl rfl (isBl_oc h_b) (isBl_c0 h_b) ?_
      refine r_iload_n (pc := 33) hv 17 rfl rfl ?_
      refine r_aload_n (pc := 34) hv 18 rfl rfl ?_
      refine r_getI (pc := 35) hv 19 rfl rfl (isBl_oc h_b) ?_
      refine r_aload_n (pc := 38) hv 20 rfl rfl ?_
      refine r_getR (pc := 39) (b := b + 2) hv 21 rfl rfl (isBl_oc h_b) (isBl_c2 h_b) ?_
      refine r_callV (pc := 42) (l := [aR (b + 2), aI (σ.1 b 4), aI l1]) (av := [aI l1, aI (σ.1 b 4), aR (b + 2)]) (a := 1) (t := []) hv 22 rfl rfl rfl rfl (rcv_o (by decide) rfl) trivial (hS.1 _ _ _ _ _ (fun r σ1 h => ?_) h)
      obtain ⟨x2, rfl, h⟩ := h
      show v 45 [some (aR b), some (aI l1), none] [aI x2] σ1
      refine r_istore_n (pc := 45) (lo' := [some (aR b), some (aI l1), some (aI x2)]) hv 23 rfl rfl ?_
      refine r_iload_n (pc := 46) hv 24 rfl rfl ?_
      refine r_iconst (pc := 47) hv 25 rfl  ?_
      refine r_icmp_eq (pc := 48) hv 26 rfl (fun c => ?_) (fun c => ?_)
      · replace h := h.1 c
        exact (w_X0_findBuried_61 hS hv hw b h_b l1 x2  σ1 h)
      · replace h := h.2 c
        refine r_aload_n (pc := 51) hv 27 rfl rfl ?_
        refine r_getR (pc := 52) (b := b + 2) hv 28 rfl rfl (isBl_oc h_b) (isBl_c2 h_b) ?_
        refine r_iload_n (pc := 55) hv 29 rfl rfl ?_
        refine r_iaload (pc := 56) (N := 20) hv 30 rfl (isBl_t2 h_b) (isBl_l2 h_b) (isBl_lt2 h_b) h.1 ?_
        replace h := h.2
        refine r_iload_n (pc := 57) hv 31 rfl rfl ?_
        refine r_icmp_ge (pc := 58) hv 32 rfl (fun c => ?_) (fun c => ?_)
        · replace h := h.1 c
          refine r_iinc (pc := 74) (lo' := [some (aR b), some (aI (l1 + 1)), some (aI x2)]) hv 40 rfl rfl rfl ?_
          refine r_goto (pc := 77) hv 41 rfl  ?_
          exact hw 7 [some (aR b), some (aI (l1 + 1)), none] _ _ _ ⟨rfl, ⟨rfl, trivial⟩⟩ h
        · replace h := h.2 c
          exact (w_X0_findBuried_61 hS hv hw b h_b l1 x2  σ1 h)
    · replace h := h.2 c
      refine r_goto (pc := 26) hv 14 rfl  ?_
      refine r_iinc (pc := 74) (lo' := [some (aR b), some (aI (l1 + 1)), none]) hv 40 rfl rfl rfl ?_
      refine r_goto (pc := 77) hv 41 rfl  ?_
      exact h
def vc_X0_findBuried_0 (S : Sp) (Φ : Rs) (v : Kt) (b : Nat) (σ : St) : Prop := ∀ σ1 : St, σ1 = upI σ b 5 0 → (v 7 [some (aR b), some (aI 0), none] [] σ1)
theorem w_X0_findBuried_0 {S : Sp} (hS : Sys S) {Φ : Rs} {v : Kt} (hv : Cl S Φ k_X0_findBuried v) (hw : Wk v) (b : Nat) (h_b : isBl b) (σ : St) (h : vc_X0_findBuried_0 S Φ v b σ) : v 0 [some (aR b), none, none] [] σ := by
  unfold vc_X0_findBuried_0 at h
  refine r_aload_n (pc := 0) hv 0 rfl rfl ?_
  refine r_iconst (pc := 1) hv 1 rfl  ?_
  refine r_putI (pc := 2) hv 2 rfl rfl (isBl_oc h_b) ?_
  obtain ⟨σ1, e_σ1⟩ : ∃ y : St, y = upI σ b 5 0 := ⟨_, rfl⟩
  rw [← e_σ1]
  replace h := h σ1 e_σ1
  refine r_iconst (pc := 5) hv 3 rfl  ?_
  refine r_istore_n (pc := 6) (lo' := [some (aR b), some (aI 0), none]) hv 4 rfl rfl ?_
  exact h
theorem m_X0_findBuried {S : Sp} (hS : Sys S) {b : Nat} (h_b : isBl b) {σ : St} {Φ : Rs} (h : ∀ v : Kt, Cl S Φ k_X0_findBuried v → Wk v → vc_X0_findBuried_0 S Φ v b σ) : S 5 [aR b] σ Φ :=
  hS.2 5 M_X0_findBuried k_X0_findBuried _ _ _ mkt_X0_findBuried (Nat.le_of_ble_eq_true rfl) (fun v hv hw => w_X0_findBuried_0 hS hv hw b h_b  σ (h v hv hw))
def vc_X0_unsignalled_4 (S : Sp) (Φ : Rs) (v : Kt) (b : Nat) (l1 : Int32) (l2 : Int32) (σ : St) : Prop := ((σ.1 1 3 : Int32) ≤ l2 → (Φ [aI l1] σ)) ∧ (¬ ((σ.1 1 3 : Int32) ≤ l2) → (vp_in l2 20 ∧ ((¬ (σ.1 (b + 1) (l2 : Int32).toNatClampNeg : Int32) = (-1) → (v 4 [some (aR b), some (aI l1), some (aI (l2 + 1))] [] σ)) ∧ ((σ.1 (b + 1) (l2 : Int32).toNatClampNeg : Int32) = (-1) → (v 4 [some (aR b), some (aI (l1 ||| (bitO l2))), some (aI (l2 + 1))] [] σ)))))
theorem w_X0_unsignalled_4 {S : Sp} (hS : Sys S) {Φ : Rs} {v : Kt} (hv : Cl S Φ k_X0_unsignalled v) (hw : Wk v) (b : Nat) (h_b : isBl b) (l1 : Int32) (l2 : Int32) (σ : St) (h : vc_X0_unsignalled_4 S Φ v b l1 l2 σ) : v 4 [some (aR b), some (aI l1), some (aI l2)] [] σ := by
  unfold vc_X0_unsignalled_4 at h
  refine r_iload_n (pc := 4) hv 4 rfl rfl ?_
  refine r_aload_n (pc := 5) hv 5 rfl rfl ?_
  refine r_getR (pc := 6) (b := 1) hv 6 rfl rfl (isBl_oc h_b) (isBl_c0 h_b) ?_
  refine r_getI (pc := 9) hv 7 rfl rfl rfl ?_
  refine r_icmp_ge (pc := 12) hv 8 rfl (fun c => ?_) (fun c => ?_)
  · replace h := h.1 c
    refine r_iload_n (pc := 38) hv 22 rfl rfl ?_
    exact r_ireturn (pc := 39) hv 23 rfl rfl h
  · replace h := h.2 c
    refine r_aload_n (pc := 15) hv 9 rfl rfl ?_
    refine r_getR (pc := 16) (b := b + 1) hv 10 rfl rfl (isBl_oc h_b) (isBl_c1 h_b) ?_
    refine r_iload_n (pc := 19) hv 11 rfl rfl ?_
    refine r_iaload (pc := 20) (N := 20) hv 12 rfl (isBl_t1 h_b) (isBl_l1 h_b) (isBl_lt1 h_b) h.1 ?_
    replace h := h.2
    refine r_iconst (pc := 21) hv 13 rfl  ?_
    refine r_icmp_ne (pc := 22) hv 14 rfl (fun c => ?_) (fun c => ?_)
    · replace h := h.1 c
      refine r_iinc (pc := 32) (lo' := [some (aR b), some (aI l1), some (aI (l2 + 1))]) hv 20 rfl rfl rfl ?_
      refine r_goto (pc := 35) hv 21 rfl  ?_
      exact h
    · replace h := h.2 c
      refine r_iload_n (pc := 25) hv 15 rfl rfl ?_
      refine r_iload_n (pc := 26) hv 16 rfl rfl ?_
      refine r_callS (pc := 27) (l := [aI l2]) (av := [aI l2]) (t := [aI l1]) hv 17 rfl (Or.inr rfl) rfl rfl rfl trivial (t_X8_bitOf hS ?_)
      show v 30 [some (aR b), some (aI l1), some (aI l2)] [aI (bitO l2), aI l1] σ
      refine r_ior (pc := 30) hv 18 rfl  ?_
      refine r_istore_n (pc := 31) (lo' := [some (aR b), some (aI (l1 ||| (bitO l2))), some (aI l2)]) hv 19 rfl rfl ?_
      refine r_iinc (pc := 32) (lo' := [some (aR b), some (aI (l1 ||| (bitO l2))), some (aI (l2 + 1))]) hv 20 rfl rfl rfl ?_
      refine r_goto (pc := 35) hv 21 rfl  ?_
      exact h
def vc_X0_unsignalled_0 (S : Sp) (Φ : Rs) (v : Kt) (b : Nat) (σ : St) : Prop := v 4 [some (aR b), some (aI 0), some (aI 0)] [] σ
theorem w_X0_unsignalled_0 {S : Sp} (hS : Sys S) {Φ : Rs} {v : Kt} (hv : Cl S Φ k_X0_unsignalled v) (hw : Wk v) (b : Nat) (h_b : isBl b) (σ : St) (h : vc_X0_unsignalled_0 S Φ v b σ) : v 0 [some (aR b), none, none] [] σ := by
  unfold vc_X0_unsignalled_0 at h
  refine r_iconst (pc := 0) hv 0 rfl  ?_
  refine r_istore_n (pc := 1) (lo' := [some (aR b), some (aI 0), none]) hv 1 rfl rfl ?_
  refine r_iconst (pc := 2) hv 2 rfl  ?_
  refine r_istore_n (pc := 3) (lo' := [some (aR b), some (aI 0), some (aI 0)]) hv 3 rfl rfl ?_
  exact h
theorem m_X0_unsignalled {S : Sp} (hS : Sys S) {b : Nat} (h_b : isBl b) {σ : St} {Φ : Rs} (h : ∀ v : Kt, Cl S Φ k_X0_unsignalled v → Wk v → vc_X0_unsignalled_0 S Φ v b σ) : S 8 [aR b] σ Φ :=
  hS.2 8 M_X0_unsignalled k_X0_unsignalled _ _ _ mkt_X0_unsignalled (Nat.le_of_ble_eq_true rfl) (fun v hv hw => w_X0_unsignalled_0 hS hv hw b h_b  σ (h v hv hw))
def vc_X0_isTorn_19 (S : Sp) (Φ : Rs) (v : Kt) (b : Nat) (l1 : Int32) (l2 : Int32) (l3 : Int32) (l4 : Int32) (σ : St) : Prop := ((σ.1 1 3 : Int32) ≤ l4 → (Φ [aI 0] σ)) ∧ (¬ ((σ.1 1 3 : Int32) ≤ l4) → (((l2 : Int32) = (-1) → (Φ [aI 0] σ)) ∧ (¬ ((l2 : Int32) = (-1)) → (((l4 : Int32) = l3 → (v 19 [some (aR b), some (aI l1), some (aI l2), some (aI l3), some (aI (l4 + 1))] [] σ)) ∧ (¬ ((l4 : Int32) = l3) → (((b2 (¬ (l4 : Int32) < 0 ∧ ¬ 20 ≤ (l4 : Int32) ∧ ¬ ((σ.1 b 4 : Int32) >>> (l4 &&& 31)) &&& 1 = 0) : Int32) = 0 → (v 19 [some (aR b), some (aI l1), some (aI l2), some (aI l3), some (aI (l4 + 1))] [] σ)) ∧ (¬ ((b2 (¬ (l4 : Int32) < 0 ∧ ¬ 20 ≤ (l4 : Int32) ∧ ¬ ((σ.1 b 4 : Int32) >>> (l4 &&& 31)) &&& 1 = 0) : Int32) = 0) → (vp_in l4 20 ∧ (((l2 : Int32) ≤ (σ.1 (b + 2) (l4 : Int32).toNatClampNeg) → (v 19 [some (aR b), some (aI l1), some (aI l2), some (aI l3), some (aI (l4 + 1))] [] σ)) ∧ (¬ ((l2 : Int32) ≤ (σ.1 (b + 2) (l4 : Int32).toNatClampNeg)) → (S 39 [aR 1, aI l4, aI l3] σ (fun r σ1 => ∃ x2 : Int32, r = [aI x2] ∧ (((x2 : Int32) = 0 → (v 19 [some (aR b), some (aI l1), some (aI l2), some (aI l3), some (aI (l4 + 1))] [] σ1)) ∧ (¬ ((x2 : Int32) = 0) → (Φ [aI 1] σ1)))))))))))))))
theorem w_X0_isTorn_19 {S : Sp} (hS : Sys S) {Φ : Rs} {v : Kt} (hv : Cl S Φ k_X0_isTorn v) (hw : Wk v) (b : Nat) (h_b : isBl b) (l1 : Int32) (l2 : Int32) (l3 : Int32) (l4 : Int32) (σ : St) (h : vc_X0_isTorn_19 S Φ v b l1 l2 l3 l4 σ) : v 19 [some (aR b), some (aI l1), some (aI l2), some (aI l3), some (aI l4)] [] σ := by
  unfold vc_X0_isTorn_19 at h
  refine r_iload (pc := 19) hv 12 rfl rfl ?_
  refine r_aload_n (pc := 21) hv 13 rfl rfl ?_
  refine r_getR (pc := 22) (b := 1) hv 14 rfl rfl (isBl_oc h_b) (isBl_c0 h_b) ?_
  refine r_getI (pc := 25) hv 15 rfl rfl rfl ?_
  refine r_icmp_ge (pc := 28) hv 16 rfl (fun c => ?_) (fun c => ?_)
  · replace h := h.1 c
    refine r_iconst (pc := 83) hv 43 rfl  ?_
    exact r_zreturn (pc := 84) hv 44 rfl rfl (Or.inl rfl) h
  · replace h := h.2 c
    refine r_iload_n (pc := 31) hv 17 rfl rfl ?_
    refine r_iconst (pc := 32) hv 18 rfl  ?_
    refine r_icmp_eq (pc := 33) hv 19 rfl (fun c => ?_) (fun c => ?_)
    · replace h := h.1 c
      refine r_iconst (pc := 83) hv 43 rfl  ?_
      exact r_zreturn (pc := 84) hv 44 rfl rfl (Or.inl rfl) h
    · replace h := h.2 c
      refine r_iload (pc := 36) hv 20 rfl rfl ?_
      refine r_iload_n (pc := 38) hv 21 rfl rfl ?_
      refine r_icmp_eq (pc := 39) hv 22 rfl (fun c => ?_) (fun c => ?_)
      · replace h := h.1 c
        refine r_iinc (pc := 77) (lo' := [some (aR b), some (aI l1), some (aI l2), some (aI l3), some (aI (l4 + 1))]) hv 41 rfl rfl rfl ?_
        refine r_goto (pc := 80) hv 42 rfl  ?_
        exact h
      · replace h := h.2 c
        refine r_aload_n (pc := 42) hv 23 rfl rfl ?_
        refine r_iload (pc := 43) hv 24 rfl rfl ?_
        refine r_callV (pc := 45) (l := [aI l4]) (av := [aI l4]) (a := b) (t := []) hv 25 rfl rfl rfl rfl (rcv_o (by decide) (isBl_oc h_b)) trivial (t_X0_doesFire hS h_b ?_)
        show v 48 [some (aR b), some (aI l1), some (aI l2), some (aI l3), some (aI l4)] [aI (b2 (¬ (l4 : Int32) < 0 ∧ ¬ 20 ≤ (l4 : Int32) ∧ ¬ ((σ.1 b 4 : Int32) >>> (l4 &&& 31)) &&& 1 = 0))] σ
        refine r_if_eq (pc := 48) hv 26 rfl (fun c => ?_) (fun c => ?_)
        · replace h := h.1 c
          refine r_iinc (pc := 77) (lo' := [some (aR b), some (aI l1), some (aI l2), some (aI l3), some (aI (l4 + 1))]) hv 41 rfl rfl rfl ?_
          refine r_goto (pc := 80) hv 42 rfl  ?_
          exact h
        · replace h := h.2 c
          refine r_aload_n (pc := 51) hv 27 rfl rfl ?_
          refine r_getR (pc := 52) (b := b + 2) hv 28 rfl rfl (isBl_oc h_b) (isBl_c2 h_b) ?_
          refine r_iload (pc := 55) hv 29 rfl rfl ?_
          refine r_iaload (pc := 57) (N := 20) hv 30 rfl (isBl_t2 h_b) (isBl_l2 h_b) (isBl_lt2 h_b) h.1 ?_
          replace h := h.2
          refine r_iload_n (pc := 58) hv 31 rfl rfl ?_
          refine r_icmp_ge (pc := 59) hv 32 rfl (fun c => ?_) (fun c => ?_)
          · replace h := h.1 c
            refine r_iinc (pc := 77) (lo' := [some (aR b), some (aI l1), some (aI l2), some (aI l3), some (aI (l4 + 1))]) hv 41 rfl rfl rfl ?_
            refine r_goto (pc := 80) hv 42 rfl  ?_
            exact h
          · replace h := h.2 c
            refine r_aload_n (pc := 62) hv 33 rfl rfl ?_
            refine r_getR (pc := 63) (b := 1) hv 34 rfl rfl (isBl_oc h_b) (isBl_c0 h_b) ?_
            refine r_iload (pc := 66) hv 35 rfl rfl ?_
            refine r_iload_n (pc := 68) hv 36 rfl rfl ?_
            refine r_callV (pc := 69) (l := [aI l3, aI l4]) (av := [aI l4, aI l3]) (a := 1) (t := []) hv 37 rfl rfl rfl rfl (rcv_o (by decide) rfl) trivial (hS.1 _ _ _ _ _ (fun r σ1 h => ?_) h)
            obtain ⟨x2, rfl, h⟩ := h
            show v 72 [some (aR b), some (aI l1), some (aI l2), some (aI l3), some (aI l4)] [aI x2] σ1
            refine r_if_eq (pc := 72) hv 38 rfl (fun c => ?_) (fun c => ?_)
            · replace h := h.1 c
              refine r_iinc (pc := 77) (lo' := [some (aR b), some (aI l1), some (aI l2), some (aI l3), some (aI (l4 + 1))]) hv 41 rfl rfl rfl ?_
              refine r_goto (pc := 80) hv 42 rfl  ?_
              exact h
            · replace h := h.2 c
              refine r_iconst (pc := 75) hv 39 rfl  ?_
              exact r_zreturn (pc := 76) hv 40 rfl rfl (Or.inr rfl) h
def vc_X0_isTorn_0 (S : Sp) (Φ : Rs) (v : Kt) (b : Nat) (l1 : Int32) (σ : St) : Prop := S 3 [aR b, aI l1] σ (fun r σ1 => ∃ x2 : Int32, r = [aI x2] ∧ (vp_in (l1 * 3 + 1) 120 ∧ (v 19 [some (aR b), some (aI l1), some (aI x2), some (aI (σ1.1 3 (l1 * 3 + 1 : Int32).toNatClampNeg)), some (aI 0)] [] σ1)))
theorem w_X0_isTorn_0 {S : Sp} (hS : Sys S) {Φ : Rs} {v : Kt} (hv : Cl S Φ k_X0_isTorn v) (hw : Wk v) (b : Nat) (h_b : isBl b) (l1 : Int32) (σ : St) (h : vc_X0_isTorn_0 S Φ v b l1 σ) : v 0 [some (aR b), some (aI l1), none, none, none] [] σ := by
  unfold vc_X0_isTorn_0 at h
  refine r_aload_n (pc := 0) hv 0 rfl rfl ?_
  refine r_iload_n (pc := 1) hv 1 rfl rfl ?_
  refine r_callV (pc := 2) (l := [aI l1]) (av := [aI l1]) (a := b) (t := []) hv 2 rfl rfl rfl rfl (rcv_o (by decide) (isBl_oc h_b)) trivial (hS.1 _ _ _ _ _ (fun r σ1 h => ?_) h)
  obtain ⟨x2, rfl, h⟩ := h
  show v 5 [some (aR b), some (aI l1), none, none, none] [aI x2] σ1
  refine r_istore_n (pc := 5) (lo' := [some (aR b), some (aI l1), some (aI x2), none, none]) hv 3 rfl rfl ?_
  refine r_aload_n (pc := 6) hv 4 rfl rfl ?_
  refine r_getR (pc := 7) (b := 1) hv 5 rfl rfl (isBl_oc h_b) (isBl_c0 h_b) ?_
  refine r_iload_n (pc := 10) hv 6 rfl rfl ?_
  refine r_iconst (pc := 11) hv 7 rfl  ?_
  refine r_callV (pc := 12) (l := [aI 1, aI l1]) (av := [aI l1, aI 1]) (a := 1) (t := []) hv 8 rfl rfl rfl rfl (rcv_o (by decide) rfl) trivial (t_X2_cord hS isPat_1 h.1 ?_)
  replace h := h.2
  show v 15 [some (aR b), some (aI l1), some (aI x2), none, none] [aI (σ1.1 3 (l1 * 3 + 1 : Int32).toNatClampNeg)] σ1
  refine r_istore_n (pc := 15) (lo' := [some (aR b), some (aI l1), some (aI x2), some (aI (σ1.1 3 (l1 * 3 + 1 : Int32).toNatClampNeg)), none]) hv 9 rfl rfl ?_
  refine r_iconst (pc := 16) hv 10 rfl  ?_
  refine r_istore (pc := 17) (lo' := [some (aR b), some (aI l1), some (aI x2), some (aI (σ1.1 3 (l1 * 3 + 1 : Int32).toNatClampNeg)), some (aI 0)]) hv 11 rfl rfl ?_
  exact h
theorem m_X0_isTorn {S : Sp} (hS : Sys S) {b : Nat} (h_b : isBl b) {l1 : Int32} {σ : St} {Φ : Rs} (h : ∀ v : Kt, Cl S Φ k_X0_isTorn v → Wk v → vc_X0_isTorn_0 S Φ v b l1 σ) : S 9 [aR b, aI l1] σ Φ :=
  hS.2 9 M_X0_isTorn k_X0_isTorn _ _ _ mkt_X0_isTorn (Nat.le_of_ble_eq_true rfl) (fun v hv hw => w_X0_isTorn_0 hS hv hw b h_b l1 σ (h v hv hw))
def vc_X0_tornBits_4 (S : Sp) (Φ : Rs) (v : Kt) (b : Nat) (l1 : Int32) (l2 : Int32) (σ : St) : Prop := ((σ.1 1 4 : Int32) ≤ l2 → (Φ [aI l1] σ)) ∧ (¬ ((σ.1 1 4 : Int32) ≤ l2) → (((31 : Int32) ≤ l2 → (Φ [aI l1] σ)) ∧ (¬ ((31 : Int32) ≤ l2) → (S 9 [aR b, aI l2] σ (fun r σ1 => ∃ x2 : Int32, r = [aI x2] ∧ (((x2 : Int32) = 0 → (v 4 [some (aR b), some (aI l1), some (aI (l2 + 1))] [] σ1)) ∧ (¬ ((x2 : Int32) = 0) → (v 4 [some (aR b), some (aI (l1 ||| (1 <<< (l2 &&& 31)))), some (aI (l2 + 1))] [] σ1))))))))
theorem w_X0_tornBits_4 {S : Sp} (hS : Sys S) {Φ : Rs} {v : Kt} (hv : Cl S Φ k_X0_tornBits v) (hw : Wk v) (b : Nat) (h_b : isBl b) (l1 : Int32) (l2 : Int32) (σ : St) (h : vc_X0_tornBits_4 S Φ v b l1 l2 σ) : v 4 [some (aR b), some (aI l1), some (aI l2)] [] σ := by
  unfold vc_X0_tornBits_4 at h
  refine r_iload_n (pc := 4) hv 4 rfl rfl ?_
  refine r_aload_n (pc := 5) hv 5 rfl rfl ?_
  refine r_getR (pc := 6) (b := 1) hv 6 rfl rfl (isBl_oc h_b) (isBl_c0 h_b) ?_
  refine r_getI (pc := 9) hv 7 rfl rfl rfl ?_
  refine r_icmp_ge (pc := 12) hv 8 rfl (fun c => ?_) (fun c => ?_)
  · replace h := h.1 c
    refine r_iload_n (pc := 41) hv 24 rfl rfl ?_
    exact r_ireturn (pc := 42) hv 25 rfl rfl h
  · replace h := h.2 c
    refine r_iload_n (pc := 15) hv 9 rfl rfl ?_
    refine r_bipush (pc := 16) hv 10 rfl  ?_
    refine r_icmp_ge (pc := 18) hv 11 rfl (fun c => ?_) (fun c => ?_)
    · replace h := h.1 c
      refine r_iload_n (pc := 41) hv 24 rfl rfl ?_
      exact r_ireturn (pc := 42) hv 25 rfl rfl h
    · replace h := h.2 c
      refine r_aload_n (pc := 21) hv 12 rfl rfl ?_
      refine r_iload_n (pc := 22) hv 13 rfl rfl ?_
      refine r_callV (pc := 23) (l := [aI l2]) (av := [aI l2]) (a := b) (t := []) hv 14 rfl rfl rfl rfl (rcv_o (by decide) (isBl_oc h_b)) trivial (hS.1 _ _ _ _ _ (fun r σ1 h => ?_) h)
      obtain ⟨x2, rfl, h⟩ := h
      show v 26 [some (aR b), some (aI l1), some (aI l2)] [aI x2] σ1
      refine r_if_eq (pc := 26) hv 15 rfl (fun c => ?_) (fun c => ?_)
      · replace h := h.1 c
        refine r_iinc (pc := 35) (lo' := [some (aR b), some (aI l1), some (aI (l2 + 1))]) hv 22 rfl rfl rfl ?_
        refine r_goto (pc := 38) hv 23 rfl  ?_
        exact h
      · replace h := h.2 c
        refine r_iload_n (pc := 29) hv 16 rfl rfl ?_
        refine r_iconst (pc := 30) hv 17 rfl  ?_
        refine r_iload_n (pc := 31) hv 18 rfl rfl ?_
        refine r_ishl (pc := 32) hv 19 rfl  ?_
        refine r_ior (pc := 33) hv 20 rfl  ?_
        refine r_istore_n (pc := 34) (lo' := [some (aR b), some (aI (l1 ||| (1 <<< (l2 &&& 31)))), some (aI l2)]) hv 21 rfl rfl ?_
        refine r_iinc (pc := 35) (lo' := [some (aR b), some (aI (l1 ||| (1 <<< (l2 &&& 31)))), some (aI (l2 + 1))]) hv 22 rfl rfl rfl ?_
        refine r_goto (pc := 38) hv 23 rfl  ?_
        exact h
def vc_X0_tornBits_0 (S : Sp) (Φ : Rs) (v : Kt) (b : Nat) (σ : St) : Prop := v 4 [some (aR b), some (aI 0), some (aI 0)] [] σ
theorem w_X0_tornBits_0 {S : Sp} (hS : Sys S) {Φ : Rs} {v : Kt} (hv : Cl S Φ k_X0_tornBits v) (hw : Wk v) (b : Nat) (h_b : isBl b) (σ : St) (h : vc_X0_tornBits_0 S Φ v b σ) : v 0 [some (aR b), none, none] [] σ := by
  unfold vc_X0_tornBits_0 at h
  refine r_iconst (pc := 0) hv 0 rfl  ?_
  refine r_istore_n (pc := 1) (lo' := [some (aR b), some (aI 0), none]) hv 1 rfl rfl ?_
  refine r_iconst (pc := 2) hv 2 rfl  ?_
  refine r_istore_n (pc := 3) (lo' := [some (aR b), some (aI 0), some (aI 0)]) hv 3 rfl rfl ?_
  exact h
theorem m_X0_tornBits {S : Sp} (hS : Sys S) {b : Nat} (h_b : isBl b) {σ : St} {Φ : Rs} (h : ∀ v : Kt, Cl S Φ k_X0_tornBits v → Wk v → vc_X0_tornBits_0 S Φ v b σ) : S 10 [aR b] σ Φ :=
  hS.2 10 M_X0_tornBits k_X0_tornBits _ _ _ mkt_X0_tornBits (Nat.le_of_ble_eq_true rfl) (fun v hv hw => w_X0_tornBits_0 hS hv hw b h_b  σ (h v hv hw))
def vc_X0_ringOf_0 (S : Sp) (Φ : Rs) (v : Kt) (b : Nat) (l1 : Int32) (σ : St) : Prop := S 43 [aR 1, aI l1] σ (fun r σ1 => ∃ x2 : Int32, r = [aI x2] ∧ (vp_in (l1 * 9 + 4) 180 ∧ (¬ (if (σ1.1 2 (l1 * 9 + 4 : Int32).toNatClampNeg : Int32) < 1 then 1 else (σ1.1 2 (l1 * 9 + 4 : Int32).toNatClampNeg) : Int32) = 0 ∧ (∀ y3 : Int32, y3 = x2 / (if (σ1.1 2 (l1 * 9 + 4 : Int32).toNatClampNeg : Int32) < 1 then 1 else (σ1.1 2 (l1 * 9 + 4 : Int32).toNatClampNeg)) → (((b2 (¬ (l1 : Int32) < 0 ∧ ¬ 20 ≤ (l1 : Int32) ∧ ¬ ((σ1.1 b 5 : Int32) >>> (l1 &&& 31)) &&& 1 = 0) : Int32) = 0 → (Φ [aI (if (9 : Int32) < y3 then 9 else y3)] σ1)) ∧ (¬ ((b2 (¬ (l1 : Int32) < 0 ∧ ¬ 20 ≤ (l1 : Int32) ∧ ¬ ((σ1.1 b 5 : Int32) >>> (l1 &&& 31)) &&& 1 = 0) : Int32) = 0) → (Φ [aI (if (9 : Int32) < (2 * y3) then 9 else (2 * y3))] σ1)))))))
theorem w_X0_ringOf_0 {S : Sp} (hS : Sys S) {Φ : Rs} {v : Kt} (hv : Cl S Φ k_X0_ringOf v) (hw : Wk v) (b : Nat) (h_b : isBl b) (l1 : Int32) (σ : St) (h : vc_X0_ringOf_0 S Φ v b l1 σ) : v 0 [some (aR b), some (aI l1), none] [] σ := by
  unfold vc_X0_ringOf_0 at h
  refine r_aload_n (pc := 0) hv 0 rfl rfl ?_
  refine r_getR (pc := 1) (b := 1) hv 1 rfl rfl (isBl_oc h_b) (isBl_c0 h_b) ?_
  refine r_iload_n (pc := 4) hv 2 rfl rfl ?_
  refine r_callV (pc := 5) (l := [aI l1]) (av := [aI l1]) (a := 1) (t := []) hv 3 rfl rfl rfl rfl (rcv_o (by decide) rfl) trivial (hS.1 _ _ _ _ _ (fun r σ1 h => ?_) h)
  obtain ⟨x2, rfl, h⟩ := h
  show v 8 [some (aR b), some (aI l1), none] [aI x2] σ1
  refine r_aload_n (pc := 8) hv 4 rfl rfl ?_
  refine r_getR (pc := 9) (b := 1) hv 5 rfl rfl (isBl_oc h_b) (isBl_c0 h_b) ?_
  refine r_iload_n (pc := 12) hv 6 rfl rfl ?_
  refine r_iconst (pc := 13) hv 7 rfl  ?_
  refine r_callV (pc := 14) (l := [aI 4, aI l1]) (av := [aI l1, aI 4]) (a := 1) (t := [aI x2]) hv 8 rfl rfl rfl rfl (rcv_o (by decide) rfl) trivial (t_X2_mark hS isPat_1 h.1 ?_)
  replace h := h.2
  show v 17 [some (aR b), some (aI l1), none] [aI (σ1.1 2 (l1 * 9 + 4 : Int32).toNatClampNeg), aI x2] σ1
  refine r_iconst (pc := 17) hv 9 rfl  ?_
  refine r_max (pc := 18) hv 10 rfl rfl trivial ?_
  refine r_idiv (pc := 21) hv 11 rfl h.1 ?_
  replace h := h.2
  obtain ⟨y3, e_y3⟩ : ∃ y : Int32, y = x2 / (if (σ1.1 2 (l1 * 9 + 4 : Int32).toNatClampNeg : Int32) < 1 then 1 else (σ1.1 2 (l1 * 9 + 4 : Int32).toNatClampNeg)) := ⟨_, rfl⟩
  rw [← e_y3]
  replace h := h y3 e_y3
  refine r_istore_n (pc := 22) (lo' := [some (aR b), some (aI l1), some (aI y3)]) hv 12 rfl rfl ?_
  refine r_aload_n (pc := 23) hv 13 rfl rfl ?_
  refine r_iload_n (pc := 24) hv 14 rfl rfl ?_
  refine r_callV (pc := 25) (l := [aI l1]) (av := [aI l1]) (a := b) (t := []) hv 15 rfl rfl rfl rfl (rcv_o (by decide) (isBl_oc h_b)) trivial (t_X0_isBuried hS h_b ?_)
  show v 28 [some (aR b), some (aI l1), some (aI y3)] [aI (b2 (¬ (l1 : Int32) < 0 ∧ ¬ 20 ≤ (l1 : Int32) ∧ ¬ ((σ1.1 b 5 : Int32) >>> (l1 &&& 31)) &&& 1 = 0))] σ1
  refine r_if_eq (pc := 28) hv 16 rfl (fun c => ?_) (fun c => ?_)
  · replace h := h.1 c
    refine r_iload_n (pc := 37) hv 21 rfl rfl ?_
    refine r_bipush (pc := 38) hv 22 rfl  ?_
    refine r_min (pc := 40) hv 23 rfl rfl trivial ?_
    exact r_ireturn (pc := 43) hv 24 rfl rfl h
  · replace h := h.2 c
    refine r_iconst (pc := 31) hv 17 rfl  ?_
    refine r_iload_n (pc := 32) hv 18 rfl rfl ?_
    refine r_imul (pc := 33) hv 19 rfl  ?_
    refine r_goto (pc := 34) hv 20 rfl  ?_
    refine r_bipush (pc := 38) hv 22 rfl  ?_
    refine r_min (pc := 40) hv 23 rfl rfl trivial ?_
    exact r_ireturn (pc := 43) hv 24 rfl rfl h
theorem m_X0_ringOf {S : Sp} (hS : Sys S) {b : Nat} (h_b : isBl b) {l1 : Int32} {σ : St} {Φ : Rs} (h : ∀ v : Kt, Cl S Φ k_X0_ringOf v → Wk v → vc_X0_ringOf_0 S Φ v b l1 σ) : S 11 [aR b, aI l1] σ Φ :=
  hS.2 11 M_X0_ringOf k_X0_ringOf _ _ _ mkt_X0_ringOf (Nat.le_of_ble_eq_true rfl) (fun v hv hw => w_X0_ringOf_0 hS hv hw b h_b l1 σ (h v hv hw))
def vc_X0_rockInRing_4 (S : Sp) (Φ : Rs) (v : Kt) (b : Nat) (l1 : Int32) (l2 : Int32) (l3 : Int32) (σ : St) : Prop := ((σ.1 1 3 : Int32) ≤ l3 → (Φ [aI l2] σ)) ∧ (¬ ((σ.1 1 3 : Int32) ≤ l3) → (((b2 (¬ (l3 : Int32) < 0 ∧ ¬ 20 ≤ (l3 : Int32) ∧ ¬ ((σ.1 b 4 : Int32) >>> (l3 &&& 31)) &&& 1 = 0) : Int32) = 0 → (v 4 [some (aR b), some (aI l1), some (aI l2), some (aI (l3 + 1))] [] σ)) ∧ (¬ ((b2 (¬ (l3 : Int32) < 0 ∧ ¬ 20 ≤ (l3 : Int32) ∧ ¬ ((σ.1 b 4 : Int32) >>> (l3 &&& 31)) &&& 1 = 0) : Int32) = 0) → (S 13 [aR b, aI l3, aI l1] σ (fun r σ1 => ∃ x2 : Int32, r = [aI x2] ∧ (v 4 [some (aR b), some (aI l1), some (aI (l2 + x2)), some (aI (l3 + 1))] [] σ1))))))
theorem w_X0_rockInRing_4 {S : Sp} (hS : Sys S) {Φ : Rs} {v : Kt} (hv : Cl S Φ k_X0_rockInRing v) (hw : Wk v) (b : Nat) (h_b : isBl b) (l1 : Int32) (l2 : Int32) (l3 : Int32) (σ : St) (h : vc_X0_rockInRing_4 S Φ v b l1 l2 l3 σ) : v 4 [some (aR b), some (aI l1), some (aI l2), some (aI l3)] [] σ := by
  unfold vc_X0_rockInRing_4 at h
  refine r_iload_n (pc := 4) hv 4 rfl rfl ?_
  refine r_aload_n (pc := 5) hv 5 rfl rfl ?_
  refine r_getR (pc := 6) (b := 1) hv 6 rfl rfl (isBl_oc h_b) (isBl_c0 h_b) ?_
  refine r_getI (pc := 9) hv 7 rfl rfl rfl ?_
  refine r_icmp_ge (pc := 12) hv 8 rfl (fun c => ?_) (fun c => ?_)
  · replace h := h.1 c
    refine r_iload_n (pc := 38) hv 22 rfl rfl ?_
    exact r_ireturn (pc := 39) hv 23 rfl rfl h
  · replace h := h.2 c
    refine r_aload_n (pc := 15) hv 9 rfl rfl ?_
    refine r_iload_n (pc := 16) hv 10 rfl rfl ?_
    refine r_callV (pc := 17) (l := [aI l3]) (av := [aI l3]) (a := b) (t := []) hv 11 rfl rfl rfl rfl (rcv_o (by decide) (isBl_oc h_b)) trivial (t_X0_doesFire hS h_b ?_)
    show v 20 [some (aR b), some (aI l1), some (aI l2), some (aI l3)] [aI (b2 (¬ (l3 : Int32) < 0 ∧ ¬ 20 ≤ (l3 : Int32) ∧ ¬ ((σ.1 b 4 : Int32) >>> (l3 &&& 31)) &&& 1 = 0))] σ
    refine r_if_eq (pc := 20) hv 12 rfl (fun c => ?_) (fun c => ?_)
    · replace h := h.1 c
      refine r_iinc (pc := 32) (lo' := [some (aR b), some (aI l1), some (aI l2), some (aI (l3 + 1))]) hv 20 rfl rfl rfl ?_
      refine r_goto (pc := 35) hv 21 rfl  ?_
      exact h
    · replace h := h.2 c
      refine r_iload_n (pc := 23) hv 13 rfl rfl ?_
      refine r_aload_n (pc := 24) hv 14 rfl rfl ?_
      refine r_iload_n (pc := 25) hv 15 rfl rfl ?_
      refine r_iload_n (pc := 26) hv 16 rfl rfl ?_
      refine r_callV (pc := 27) (l := [aI l1, aI l3]) (av := [aI l3, aI l1]) (a := b) (t := [aI l2]) hv 17 rfl rfl rfl rfl (rcv_o (by decide) (isBl_oc h_b)) trivial (hS.1 _ _ _ _ _ (fun r σ1 h => ?_) h)
      obtain ⟨x2, rfl, h⟩ := h
      show v 30 [some (aR b), some (aI l1), some (aI l2), some (aI l3)] [aI x2, aI l2] σ1
      refine r_iadd (pc := 30) hv 18 rfl  ?_
      refine r_istore_n (pc := 31) (lo' := [some (aR b), some (aI l1), some (aI (l2 + x2)), some (aI l3)]) hv 19 rfl rfl ?_
      refine r_iinc (pc := 32) (lo' := [some (aR b), some (aI l1), some (aI (l2 + x2)), some (aI (l3 + 1))]) hv 20 rfl rfl rfl ?_
      refine r_goto (pc := 35) hv 21 rfl  ?_
      exact h
def vc_X0_rockInRing_0 (S : Sp) (Φ : Rs) (v : Kt) (b : Nat) (l1 : Int32) (σ : St) : Prop := v 4 [some (aR b), some (aI l1), some (aI 0), some (aI 0)] [] σ
theorem w_X0_rockInRing_0 {S : Sp} (hS : Sys S) {Φ : Rs} {v : Kt} (hv : Cl S Φ k_X0_rockInRing v) (hw : Wk v) (b : Nat) (h_b : isBl b) (l1 : Int32) (σ : St) (h : vc_X0_rockInRing_0 S Φ v b l1 σ) : v 0 [some (aR b), some (aI l1), none, none] [] σ := by
  unfold vc_X0_rockInRing_0 at h
  refine r_iconst (pc := 0) hv 0 rfl  ?_
  refine r_istore_n (pc := 1) (lo' := [some (aR b), some (aI l1), some (aI 0), none]) hv 1 rfl rfl ?_
  refine r_iconst (pc := 2) hv 2 rfl  ?_
  refine r_istore_n (pc := 3) (lo' := [some (aR b), some (aI l1), some (aI 0), some (aI 0)]) hv 3 rfl rfl ?_
  exact h
theorem m_X0_rockInRing {S : Sp} (hS : Sys S) {b : Nat} (h_b : isBl b) {l1 : Int32} {σ : St} {Φ : Rs} (h : ∀ v : Kt, Cl S Φ k_X0_rockInRing v → Wk v → vc_X0_rockInRing_0 S Φ v b l1 σ) : S 12 [aR b, aI l1] σ Φ :=
  hS.2 12 M_X0_rockInRing k_X0_rockInRing _ _ _ mkt_X0_rockInRing (Nat.le_of_ble_eq_true rfl) (fun v hv hw => w_X0_rockInRing_0 hS hv hw b h_b l1 σ (h v hv hw))
def vc_X0_rockOfIn_0 (S : Sp) (Φ : Rs) (v : Kt) (b : Nat) (l1 : Int32) (l2 : Int32) (σ : St) : Prop := S 45 [aR 1, aI l1] σ (fun r σ1 => ∃ x2 : Int32, r = [aI x2] ∧ (S 11 [aR b, aI l1] σ1 (fun r σ3 => ∃ x4 : Int32, r = [aI x4] ∧ (((l2 : Int32) < ((if (x4 : Int32) < 0 then 0 else x4) + 1) → ((¬ (l2 : Int32) = 0 → (¬ ((if (x4 : Int32) < 0 then 0 else x4) + 1 : Int32) = 0 ∧ (Φ [aI (x2 / ((if (x4 : Int32) < 0 then 0 else x4) + 1))] σ3))) ∧ ((l2 : Int32) = 0 → (¬ ((if (x4 : Int32) < 0 then 0 else x4) + 1 : Int32) = 0 ∧ (¬ ((if (x4 : Int32) < 0 then 0 else x4) + 1 : Int32) = 0 ∧ (Φ [aI ((x2 / ((if (x4 : Int32) < 0 then 0 else x4) + 1)) + (x2 - x2 / ((if (x4 : Int32) < 0 then 0 else x4) + 1) * ((if (x4 : Int32) < 0 then 0 else x4) + 1)))] σ3)))))) ∧ (¬ ((l2 : Int32) < ((if (x4 : Int32) < 0 then 0 else x4) + 1)) → (Φ [aI 0] σ3))))))
theorem w_X0_rockOfIn_0 {S : Sp} (hS : Sys S) {Φ : Rs} {v : Kt} (hv : Cl S Φ k_X0_rockOfIn v) (hw : Wk v) (b : Nat) (h_b : isBl b) (l1 : Int32) (l2 : Int32) (σ : St) (h : vc_X0_rockOfIn_0 S Φ v b l1 l2 σ) : v 0 [some (aR b), some (aI l1), some (aI l2), none, none] [] σ := by
  unfold vc_X0_rockOfIn_0 at h
  refine r_aload_n (pc := 0) hv 0 rfl rfl ?_
  refine r_getR (pc := 1) (b := 1) hv 1 rfl rfl (isBl_oc h_b) (isBl_c0 h_b) ?_
  refine r_iload_n (pc := 4) hv 2 rfl rfl ?_
  refine r_callV (pc := 5) (l := [aI l1]) (av := [aI l1]) (a := 1) (t := []) hv 3 rfl rfl rfl rfl (rcv_o (by decide) rfl) trivial (hS.1 _ _ _ _ _ (fun r σ1 h => ?_) h)
  obtain ⟨x2, rfl, h⟩ := h
  show v 8 [some (aR b), some (aI l1), some (aI l2), none, none] [aI x2] σ1
  refine r_istore_n (pc := 8) (lo' := [some (aR b), some (aI l1), some (aI l2), some (aI x2), none]) hv 4 rfl rfl ?_
  refine r_aload_n (pc := 9) hv 5 rfl rfl ?_
  refine r_iload_n (pc := 10) hv 6 rfl rfl ?_
  refine r_callV (pc := 11) (l := [aI l1]) (av := [aI l1]) (a := b) (t := []) hv 7 rfl rfl rfl rfl (rcv_o (by decide) (isBl_oc h_b)) trivial (hS.1 _ _ _ _ _ (fun r σ3 h => ?_) h)
  obtain ⟨x4, rfl, h⟩ := h
  show v 14 [some (aR b), some (aI l1), some (aI l2), some (aI x2), none] [aI x4] σ3
  refine r_iconst (pc := 14) hv 8 rfl  ?_
  refine r_max (pc := 15) hv 9 rfl rfl trivial ?_
  refine r_iconst (pc := 18) hv 10 rfl  ?_
  refine r_iadd (pc := 19) hv 11 rfl  ?_
  refine r_istore (pc := 20) (lo' := [some (aR b), some (aI l1), some (aI l2), some (aI x2), some (aI ((if (x4 : Int32) < 0 then 0 else x4) + 1))]) hv 12 rfl rfl ?_
  refine r_iload_n (pc := 22) hv 13 rfl rfl ?_
  refine r_iload (pc := 23) hv 14 rfl rfl ?_
  refine r_icmp_lt (pc := 25) hv 15 rfl (fun c => ?_) (fun c => ?_)
  · replace h := h.1 c
    refine r_iload_n (pc := 30) hv 18 rfl rfl ?_
    refine r_if_ne (pc := 31) hv 19 rfl (fun c => ?_) (fun c => ?_)
    · replace h := h.1 c
      refine r_iload_n (pc := 46) hv 28 rfl rfl ?_
      refine r_iload (pc := 47) hv 29 rfl rfl ?_
      refine r_idiv (pc := 49) hv 30 rfl h.1 ?_
      replace h := h.2
      exact r_ireturn (pc := 50) hv 31 rfl rfl h
    · replace h := h.2 c
      refine r_iload_n (pc := 34) hv 20 rfl rfl ?_
      refine r_iload (pc := 35) hv 21 rfl rfl ?_
      refine r_idiv (pc := 37) hv 22 rfl h.1 ?_
      replace h := h.2
      refine r_iload_n (pc := 38) hv 23 rfl rfl ?_
      refine r_iload (pc := 39) hv 24 rfl rfl ?_
      refine r_irem (pc := 41) hv 25 rfl h.1 ?_
      replace h := h.2
      refine r_iadd (pc := 42) hv 26 rfl  ?_
      refine r_goto (pc := 43) hv 27 rfl  ?_
      exact r_ireturn (pc := 50) hv 31 rfl rfl h
  · replace h := h.2 c
    refine r_iconst (pc := 28) hv 16 rfl  ?_
    exact r_ireturn (pc := 29) hv 17 rfl rfl h
theorem m_X0_rockOfIn {S : Sp} (hS : Sys S) {b : Nat} (h_b : isBl b) {l1 : Int32} {l2 : Int32} {σ : St} {Φ : Rs} (h : ∀ v : Kt, Cl S Φ k_X0_rockOfIn v → Wk v → vc_X0_rockOfIn_0 S Φ v b l1 l2 σ) : S 13 [aR b, aI l1, aI l2] σ Φ :=
  hS.2 13 M_X0_rockOfIn k_X0_rockOfIn _ _ _ mkt_X0_rockOfIn (Nat.le_of_ble_eq_true rfl) (fun v hv hw => w_X0_rockOfIn_0 hS hv hw b h_b l1 l2 σ (h v hv hw))
def vc_X0_layOut_48 (S : Sp) (Φ : Rs) (v : Kt) (b : Nat) (l1 : Int32) (l3 : Int32) (l4 : Int32) (σ : St) : Prop := ((σ.1 1 3 : Int32) ≤ l4 → (Φ [aI l3] σ)) ∧ (¬ ((σ.1 1 3 : Int32) ≤ l4) → (((Int32.ofNat 40 : Int32) ≤ l3 → (Φ [aI l3] σ)) ∧ (¬ ((Int32.ofNat 40 : Int32) ≤ l3) → (((b2 (¬ (l4 : Int32) < 0 ∧ ¬ 20 ≤ (l4 : Int32) ∧ ¬ ((σ.1 b 4 : Int32) >>> (l4 &&& 31)) &&& 1 = 0) : Int32) = 0 → (v 48 [some (aR b), some (aI l1), some (aR 48), some (aI l3), some (aI (l4 + 1))] [] σ)) ∧ (¬ ((b2 (¬ (l4 : Int32) < 0 ∧ ¬ 20 ≤ (l4 : Int32) ∧ ¬ ((σ.1 b 4 : Int32) >>> (l4 &&& 31)) &&& 1 = 0) : Int32) = 0) → ((¬ (l1 : Int32) = 0 → (S 43 [aR 1, aI l4] σ (fun r σ1 => ∃ x2 : Int32, r = [aI x2] ∧ (vp_in l3 40 ∧ (∀ σ3 : St, σ3 = upI σ1 48 (l3 : Int32).toNatClampNeg x2 → (v 48 [some (aR b), some (aI l1), some (aR 48), some (aI (l3 + 1)), some (aI (l4 + 1))] [] σ3)))))) ∧ ((l1 : Int32) = 0 → (vp_in l4 20 ∧ (vp_in l3 40 ∧ (∀ σ4 : St, σ4 = upI σ 48 (l3 : Int32).toNatClampNeg (σ.1 (b + 2) (l4 : Int32).toNatClampNeg) → (v 48 [some (aR b), some (aI l1), some (aR 48), some (aI (l3 + 1)), some (aI (l4 + 1))] [] σ4)))))))))))
theorem w_X0_layOut_48 {S : Sp} (hS : Sys S) {Φ : Rs} {v : Kt} (hv : Cl S Φ k_X0_layOut v) (hw : Wk v) (b : Nat) (h_b : isBl b) (l1 : Int32) (l3 : Int32) (l4 : Int32) (σ : St) (h : vc_X0_layOut_48 S Φ v b l1 l3 l4 σ) : v 48 [some (aR b), some (aI l1), some (aR 48), some (aI l3), some (aI l4)] [] σ := by
  unfold vc_X0_layOut_48 at h
  refine r_iload (pc := 48) hv 27 rfl rfl ?_
  refine r_aload_n (pc := 50) hv 28 rfl rfl ?_
  refine r_getR (pc := 51) (b := 1) hv 29 rfl rfl (isBl_oc h_b) (isBl_c0 h_b) ?_
  refine r_getI (pc := 54) hv 30 rfl rfl rfl ?_
  refine r_icmp_ge (pc := 57) hv 31 rfl (fun c => ?_) (fun c => ?_)
  · replace h := h.1 c
    refine r_iload_n (pc := 110) hv 57 rfl rfl ?_
    exact r_ireturn (pc := 111) hv 58 rfl rfl h
  · replace h := h.2 c
    refine r_iload_n (pc := 60) hv 32 rfl rfl ?_
    refine r_aload_n (pc := 61) hv 33 rfl rfl ?_
    refine r_alen (pc := 62) (N := 40) hv 34 rfl (by rw [show tag 48 = 1 from rfl]; decide) rfl ?_
    refine r_icmp_ge (pc := 63) hv 35 rfl (fun c => ?_) (fun c => ?_)
    · replace h := h.1 c
      refine r_iload_n (pc := 110) hv 57 rfl rfl ?_
      exact r_ireturn (pc := 111) hv 58 rfl rfl h
    · replace h := h.2 c
      refine r_aload_n (pc := 66) hv 36 rfl rfl ?_
      refine r_iload (pc := 67) hv 37 rfl rfl ?_
      refine r_callV (pc := 69) (l := [aI l4]) (av := [aI l4]) (a := b) (t := []) hv 38 rfl rfl rfl rfl (rcv_o (by decide) (isBl_oc h_b)) trivial (t_X0_doesFire hS h_b ?_)
      show v 72 [some (aR b), some (aI l1), some (aR 48), some (aI l3), some (aI l4)] [aI (b2 (¬ (l4 : Int32) < 0 ∧ ¬ 20 ≤ (l4 : Int32) ∧ ¬ ((σ.1 b 4 : Int32) >>> (l4 &&& 31)) &&& 1 = 0))] σ
      refine r_if_eq (pc := 72) hv 39 rfl (fun c => ?_) (fun c => ?_)
      · replace h := h.1 c
        refine r_iinc (pc := 104) (lo' := [some (aR b), some (aI l1), some (aR 48), some (aI l3), some (aI (l4 + 1))]) hv 55 rfl rfl rfl ?_
        refine r_goto (pc := 107) hv 56 rfl  ?_
        exact h
      · replace h := h.2 c
        refine r_aload_n (pc := 75) hv 40 rfl rfl ?_
        refine r_iload_n (pc := 76) hv 41 rfl rfl ?_
        refine r_iload_n (pc := 77) hv 42 rfl rfl ?_
        refine r_if_ne (pc := 78) hv 43 rfl (fun c => ?_) (fun c => ?_)
        · replace h := h.1 c
          refine r_aload_n (pc := 91) hv 49 rfl rfl ?_
          refine r_getR (pc := 92) (b := 1) hv 50 rfl rfl (isBl_oc h_b) (isBl_c0 h_b) ?_
          refine r_iload (pc := 95) hv 51 rfl rfl ?_
          refine r_callV (pc := 97) (l := [aI l4]) (av := [aI l4]) (a := 1) (t := [aI l3, aR 48]) hv 52 rfl rfl rfl rfl (rcv_o (by decide) rfl) trivial (hS.1 _ _ _ _ _ (fun r σ1 h => ?_) h)
          obtain ⟨x2, rfl, h⟩ := h
          show v 100 [some (aR b), some (aI l1), some (aR 48), some (aI l3), some (aI l4)] [aI x2, aI l3, aR 48] σ1
          refine r_iastore (pc := 100) (N := 40) hv 53 rfl rfl rfl h.1 ?_
          replace h := h.2
          obtain ⟨σ3, e_σ3⟩ : ∃ y : St, y = upI σ1 48 (l3 : Int32).toNatClampNeg x2 := ⟨_, rfl⟩
          rw [← e_σ3]
          replace h := h σ3 e_σ3
          refine r_iinc (pc := 101) (lo' := [some (aR b), some (aI l1), some (aR 48), some (aI (l3 + 1)), some (aI l4)]) hv 54 rfl rfl rfl ?_
          refine r_iinc (pc := 104) (lo' := [some (aR b), some (aI l1), some (aR 48), some (aI (l3 + 1)), some (aI (l4 + 1))]) hv 55 rfl rfl rfl ?_
          refine r_goto (pc := 107) hv 56 rfl  ?_
          exact h
        · replace h := h.2 c
          refine r_aload_n (pc := 81) hv 44 rfl rfl ?_
          refine r_getR (pc := 82) (b := b + 2) hv 45 rfl rfl (isBl_oc h_b) (isBl_c2 h_b) ?_
          refine r_iload (pc := 85) hv 46 rfl rfl ?_
          refine r_iaload (pc := 87) (N := 20) hv 47 rfl (isBl_t2 h_b) (isBl_l2 h_b) (isBl_lt2 h_b) h.1 ?_
          replace h := h.2
          refine r_goto (pc := 88) hv 48 rfl  ?_
          refine r_iastore (pc := 100) (N := 40) hv 53 rfl rfl rfl h.1 ?_
          replace h := h.2
          obtain ⟨σ4, e_σ4⟩ : ∃ y : St, y = upI σ 48 (l3 : Int32).toNatClampNeg (σ.1 (b + 2) (l4 : Int32).toNatClampNeg) := ⟨_, rfl⟩
          rw [← e_σ4]
          replace h := h σ4 e_σ4
          refine r_iinc (pc := 101) (lo' := [some (aR b), some (aI l1), some (aR 48), some (aI (l3 + 1)), some (aI l4)]) hv 54 rfl rfl rfl ?_
          refine r_iinc (pc := 104) (lo' := [some (aR b), some (aI l1), some (aR 48), some (aI (l3 + 1)), some (aI (l4 + 1))]) hv 55 rfl rfl rfl ?_
          refine r_goto (pc := 107) hv 56 rfl  ?_
          exact h
def vc_X0_layOut_0 (S : Sp) (Φ : Rs) (v : Kt) (b : Nat) (l1 : Int32) (σ : St) : Prop := (¬ (l1 : Int32) = 2 → (v 48 [some (aR b), some (aI l1), some (aR 48), some (aI 0), some (aI 0)] [] σ)) ∧ ((l1 : Int32) = 2 → ((¬ (0 : Int32) < 0 ∧ ¬ (0 : Int32) < 0 ∧ ¬ (if (Int32.ofNat 40 : Int32) < (σ.1 (b + 3) 3) then (Int32.ofNat 40) else (σ.1 (b + 3) 3) : Int32) < 0 ∧ (0 : Int32).toNatClampNeg + (if (Int32.ofNat 40 : Int32) < (σ.1 (b + 3) 3) then (Int32.ofNat 40) else (σ.1 (b + 3) 3) : Int32).toNatClampNeg ≤ 40 ∧ (0 : Int32).toNatClampNeg + (if (Int32.ofNat 40 : Int32) < (σ.1 (b + 3) 3) then (Int32.ofNat 40) else (σ.1 (b + 3) 3) : Int32).toNatClampNeg ≤ 40) ∧ (∀ σ1 : St, σ1 = cpI σ (b + 4) 48 (0 : Int32).toNatClampNeg (0 : Int32).toNatClampNeg (if (Int32.ofNat 40 : Int32) < (σ.1 (b + 3) 3) then (Int32.ofNat 40) else (σ.1 (b + 3) 3) : Int32).toNatClampNeg → (Φ [aI (if (Int32.ofNat 40 : Int32) < (σ1.1 (b + 3) 3) then (Int32.ofNat 40) else (σ1.1 (b + 3) 3))] σ1))))
theorem w_X0_layOut_0 {S : Sp} (hS : Sys S) {Φ : Rs} {v : Kt} (hv : Cl S Φ k_X0_layOut v) (hw : Wk v) (b : Nat) (h_b : isBl b) (l1 : Int32) (σ : St) (h : vc_X0_layOut_0 S Φ v b l1 σ) : v 0 [some (aR b), some (aI l1), some (aR 48), none, none] [] σ := by
  unfold vc_X0_layOut_0 at h
  refine r_iload_n (pc := 0) hv 0 rfl rfl ?_
  refine r_iconst (pc := 1) hv 1 rfl  ?_
  refine r_icmp_ne (pc := 2) hv 2 rfl (fun c => ?_) (fun c => ?_)
  · replace h := h.1 c
    refine r_iconst (pc := 43) hv 23 rfl  ?_
    refine r_istore_n (pc := 44) (lo' := [some (aR b), some (aI l1), some (aR 48), some (aI 0), none]) hv 24 rfl rfl ?_
    refine r_iconst (pc := 45) hv 25 rfl  ?_
    refine r_istore (pc := 46) (lo' := [some (aR b), some (aI l1), some (aR 48), some (aI 0), some (aI 0)]) hv 26 rfl rfl ?_
    exact h
  · replace h := h.2 c
    refine r_aload_n (pc := 5) hv 3 rfl rfl ?_
    refine r_getR (pc := 6) (b := b + 3) hv 4 rfl rfl (isBl_oc h_b) (isBl_c3 h_b) ?_
    refine r_getR (pc := 9) (b := b + 4) hv 5 rfl rfl (isSh_oc (isBl_sh h_b)) (isBl_s0 h_b) ?_
    refine r_iconst (pc := 12) hv 6 rfl  ?_
    refine r_aload_n (pc := 13) hv 7 rfl rfl ?_
    refine r_iconst (pc := 14) hv 8 rfl  ?_
    refine r_aload_n (pc := 15) hv 9 rfl rfl ?_
    refine r_getR (pc := 16) (b := b + 3) hv 10 rfl rfl (isBl_oc h_b) (isBl_c3 h_b) ?_
    refine r_getI (pc := 19) hv 11 rfl rfl (isSh_oc (isBl_sh h_b)) ?_
    refine r_aload_n (pc := 22) hv 12 rfl rfl ?_
    refine r_alen (pc := 23) (N := 40) hv 13 rfl (by rw [show tag 48 = 1 from rfl]; decide) rfl ?_
    refine r_min (pc := 24) hv 14 rfl rfl trivial ?_
    refine r_copyI (pc := 27) hv 15 rfl rfl (isBl_t4 h_b) rfl (isBl_l4 h_b) rfl trivial h.1.1 h.1.2.1 h.1.2.2.1 h.1.2.2.2.1 h.1.2.2.2.2 ?_
    replace h := h.2
    obtain ⟨σ1, e_σ1⟩ : ∃ y : St, y = cpI σ (b + 4) 48 (0 : Int32).toNatClampNeg (0 : Int32).toNatClampNeg (if (Int32.ofNat 40 : Int32) < (σ.1 (b + 3) 3) then (Int32.ofNat 40) else (σ.1 (b + 3) 3) : Int32).toNatClampNeg := ⟨_, rfl⟩
    rw [← e_σ1]
    replace h := h σ1 e_σ1
    refine r_aload_n (pc := 30) hv 16 rfl rfl ?_
    refine r_getR (pc := 31) (b := b + 3) hv 17 rfl rfl (isBl_oc h_b) (isBl_c3 h_b) ?_
    refine r_getI (pc := 34) hv 18 rfl rfl (isSh_oc (isBl_sh h_b)) ?_
    refine r_aload_n (pc := 37) hv 19 rfl rfl ?_
    refine r_alen (pc := 38) (N := 40) hv 20 rfl (by rw [show tag 48 = 1 from rfl]; decide) rfl ?_
    refine r_min (pc := 39) hv 21 rfl rfl trivial ?_
    exact r_ireturn (pc := 42) hv 22 rfl rfl h
theorem m_X0_layOut {S : Sp} (hS : Sys S) {b : Nat} (h_b : isBl b) {l1 : Int32} {σ : St} {Φ : Rs} (h : ∀ v : Kt, Cl S Φ k_X0_layOut v → Wk v → vc_X0_layOut_0 S Φ v b l1 σ) : S 15 [aR b, aI l1, aR 48] σ Φ :=
  hS.2 15 M_X0_layOut k_X0_layOut _ _ _ mkt_X0_layOut (Nat.le_of_ble_eq_true rfl) (fun v hv hw => w_X0_layOut_0 hS hv hw b h_b l1 σ (h v hv hw))
