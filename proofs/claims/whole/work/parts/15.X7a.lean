def vc_X7_clear_0 (S : Sp) (Φ : Rs) (v : Kt) (s : Nat) (σ : St) : Prop := ∀ σ1 : St, σ1 = upI σ s 3 0 → (Φ [] σ1)
theorem w_X7_clear_0 {S : Sp} (hS : Sys S) {Φ : Rs} {v : Kt} (hv : Cl S Φ k_X7_clear v) (hw : Wk v) (s : Nat) (h_s : isSh s) (σ : St) (h : vc_X7_clear_0 S Φ v s σ) : v 0 [some (aR s)] [] σ := by
  unfold vc_X7_clear_0 at h
  refine r_aload_n (pc := 0) hv 0 rfl rfl ?_
  refine r_iconst (pc := 1) hv 1 rfl  ?_
  refine r_putI (pc := 2) hv 2 rfl rfl (isSh_oc h_s) ?_
  obtain ⟨σ1, e_σ1⟩ : ∃ y : St, y = upI σ s 3 0 := ⟨_, rfl⟩
  rw [← e_σ1]
  replace h := h σ1 e_σ1
  exact r_return (pc := 5) hv 3 rfl h
theorem m_X7_clear {S : Sp} (hS : Sys S) {s : Nat} (h_s : isSh s) {σ : St} {Φ : Rs} (h : ∀ v : Kt, Cl S Φ k_X7_clear v → Wk v → vc_X7_clear_0 S Φ v s σ) : S 82 [aR s] σ Φ :=
  hS.2 82 M_X7_clear k_X7_clear _ _ _ mkt_X7_clear (Nat.le_of_ble_eq_true rfl) (fun v hv hw => w_X7_clear_0 hS hv hw s h_s  σ (h v hv hw))
def vc_X7_addAll_0 (S : Sp) (Φ : Rs) (v : Kt) (s : Nat) (l2 : Int32) (l3 : Int32) (σ : St) : Prop := S 41 [aR 1, aI l2] σ (fun r σ1 => ∃ x2 : Int32, r = [aI x2] ∧ (S 84 [aR s, aI l3, aI x2, aI l2] σ1 (fun r σ3 => r = [] ∧ (S 42 [aR 1, aI l2] σ3 (fun r σ4 => ∃ x5 : Int32, r = [aI x5] ∧ (S 84 [aR s, aI (l3 + 17), aI x5, aI l2] σ4 (fun r σ6 => r = [] ∧ (Φ [] σ6))))))))
theorem w_X7_addAll_0 {S : Sp} (hS : Sys S) {Φ : Rs} {v : Kt} (hv : Cl S Φ k_X7_addAll v) (hw : Wk v) (s : Nat) (h_s : isSh s) (l2 : Int32) (l3 : Int32) (σ : St) (h : vc_X7_addAll_0 S Φ v s l2 l3 σ) : v 0 [some (aR s), some (aR 1), some (aI l2), some (aI l3)] [] σ := by
  unfold vc_X7_addAll_0 at h
  refine r_aload_n (pc := 0) hv 0 rfl rfl ?_
  refine r_iload_n (pc := 1) hv 1 rfl rfl ?_
  refine r_aload_n (pc := 2) hv 2 rfl rfl ?_
  refine r_iload_n (pc := 3) hv 3 rfl rfl ?_
  refine r_callV (pc := 4) (l := [aI l2]) (av := [aI l2]) (a := 1) (t := [aI l3, aR s]) hv 4 rfl rfl rfl rfl (rcv_o (by decide) rfl) trivial (hS.1 _ _ _ _ _ (fun r σ1 h => ?_) h)
  obtain ⟨x2, rfl, h⟩ := h
  show v 7 [some (aR s), some (aR 1), some (aI l2), some (aI l3)] [aI x2, aI l3, aR s] σ1
  refine r_iload_n (pc := 7) hv 5 rfl rfl ?_
  refine r_callV (pc := 8) (l := [aI l2, aI x2, aI l3]) (av := [aI l3, aI x2, aI l2]) (a := s) (t := []) hv 6 rfl rfl rfl rfl (rcv_o (by decide) (isSh_oc h_s)) trivial (hS.1 _ _ _ _ _ (fun r σ3 h => ?_) h)
  obtain ⟨rfl, h⟩ := h
  show v 11 [some (aR s), some (aR 1), some (aI l2), some (aI l3)] [] σ3
  refine r_aload_n (pc := 11) hv 7 rfl rfl ?_
  refine r_iload_n (pc := 12) hv 8 rfl rfl ?_
  refine r_bipush (pc := 13) hv 9 rfl  ?_
  refine r_iadd (pc := 15) hv 10 rfl  ?_
  refine r_aload_n (pc := 16) hv 11 rfl rfl ?_
  refine r_iload_n (pc := 17) hv 12 rfl rfl ?_
  refine r_callV (pc := 18) (l := [aI l2]) (av := [aI l2]) (a := 1) (t := [aI (l3 + 17), aR s]) hv 13 rfl rfl rfl rfl (rcv_o (by decide) rfl) trivial (hS.1 _ _ _ _ _ (fun r σ4 h => ?_) h)
  obtain ⟨x5, rfl, h⟩ := h
  show v 21 [some (aR s), some (aR 1), some (aI l2), some (aI l3)] [aI x5, aI (l3 + 17), aR s] σ4
  refine r_iload_n (pc := 21) hv 14 rfl rfl ?_
  refine r_callV (pc := 22) (l := [aI l2, aI x5, aI (l3 + 17)]) (av := [aI (l3 + 17), aI x5, aI l2]) (a := s) (t := []) hv 15 rfl rfl rfl rfl (rcv_o (by decide) (isSh_oc h_s)) trivial (hS.1 _ _ _ _ _ (fun r σ6 h => ?_) h)
  obtain ⟨rfl, h⟩ := h
  show v 25 [some (aR s), some (aR 1), some (aI l2), some (aI l3)] [] σ6
  exact r_return (pc := 25) hv 16 rfl h
theorem m_X7_addAll {S : Sp} (hS : Sys S) {s : Nat} (h_s : isSh s) {l2 : Int32} {l3 : Int32} {σ : St} {Φ : Rs} (h : ∀ v : Kt, Cl S Φ k_X7_addAll v → Wk v → vc_X7_addAll_0 S Φ v s l2 l3 σ) : S 83 [aR s, aR 1, aI l2, aI l3] σ Φ :=
  hS.2 83 M_X7_addAll k_X7_addAll _ _ _ mkt_X7_addAll (Nat.le_of_ble_eq_true rfl) (fun v hv hw => w_X7_addAll_0 hS hv hw s h_s l2 l3 σ (h v hv hw))
def vc_X7_insert_92 (S : Sp) (Φ : Rs) (v : Kt) (s : Nat) (l1 : Int32) (l2 : Int32) (l3 : Int32) (l4 : Int32) (σ : St) : Prop := vp_in l4 40 ∧ (∀ σ1 : St, σ1 = upI σ (s + 1) (l4 : Int32).toNatClampNeg l1 → (vp_in l4 40 ∧ (∀ σ2 : St, σ2 = upI σ1 (s + 2) (l4 : Int32).toNatClampNeg l2 → (vp_in l4 40 ∧ (∀ σ3 : St, σ3 = upI σ2 (s + 3) (l4 : Int32).toNatClampNeg l3 → (∀ σ4 : St, σ4 = upI σ3 s 3 ((σ3.1 s 3) + 1) → (Φ [] σ4)))))))
theorem w_X7_insert_92 {S : Sp} (hS : Sys S) {Φ : Rs} {v : Kt} (hv : Cl S Φ k_X7_insert v) (hw : Wk v) (s : Nat) (h_s : isSh s) (l1 : Int32) (l2 : Int32) (l3 : Int32) (l4 : Int32) (σ : St) (h : vc_X7_insert_92 S Φ v s l1 l2 l3 l4 σ) : v 92 [some (aR s), some (aI l1), some (aI l2), some (aI l3), some (aI l4)] [] σ := by
  unfold vc_X7_insert_92 at h
  refine r_aload_n (pc := 92) hv 52 rfl rfl ?_
  refine r_getR (pc := 93) (b := s + 1) hv 53 rfl rfl (isSh_oc h_s) (isSh_c0 h_s) ?_
  refine r_iload (pc := 96) hv 54 rfl rfl ?_
  refine r_iload_n (pc := 98) hv 55 rfl rfl ?_
  refine r_iastore (pc := 99) (N := 40) hv 56 rfl (isSh_t1 h_s) (isSh_l1 h_s) h.1 ?_
  replace h := h.2
  obtain ⟨σ1, e_σ1⟩ : ∃ y : St, y = upI σ (s + 1) (l4 : Int32).toNatClampNeg l1 := ⟨_, rfl⟩
  rw [← e_σ1]
  replace h := h σ1 e_σ1
  refine r_aload_n (pc := 100) hv 57 rfl rfl ?_
  refine r_getR (pc := 101) (b := s + 2) hv 58 rfl rfl (isSh_oc h_s) (isSh_c1 h_s) ?_
  refine r_iload (pc := 104) hv 59 rfl rfl ?_
  refine r_iload_n (pc := 106) hv 60 rfl rfl ?_
  refine r_iastore (pc := 107) (N := 40) hv 61 rfl (isSh_t2 h_s) (isSh_l2 h_s) h.1 ?_
  replace h := h.2
  obtain ⟨σ2, e_σ2⟩ : ∃ y : St, y = upI σ1 (s + 2) (l4 : Int32).toNatClampNeg l2 := ⟨_, rfl⟩
  rw [← e_σ2]
  replace h := h σ2 e_σ2
  refine r_aload_n (pc := 108) hv 62 rfl rfl ?_
  refine r_getR (pc := 109) (b := s + 3) hv 63 rfl rfl (isSh_oc h_s) (isSh_c2 h_s) ?_
  refine r_iload (pc := 112) hv 64 rfl rfl ?_
  refine r_iload_n (pc := 114) hv 65 rfl rfl ?_
  refine r_iastore (pc := 115) (N := 40) hv 66 rfl (isSh_t3 h_s) (isSh_l3 h_s) h.1 ?_
  replace h := h.2
  obtain ⟨σ3, e_σ3⟩ : ∃ y : St, y = upI σ2 (s + 3) (l4 : Int32).toNatClampNeg l3 := ⟨_, rfl⟩
  rw [← e_σ3]
  replace h := h σ3 e_σ3
  refine r_aload_n (pc := 116) hv 67 rfl rfl ?_
  refine r_dup (pc := 117) hv 68 rfl trivial ?_
  refine r_getI (pc := 118) hv 69 rfl rfl (isSh_oc h_s) ?_
  refine r_iconst (pc := 121) hv 70 rfl  ?_
  refine r_iadd (pc := 122) hv 71 rfl  ?_
  refine r_putI (pc := 123) hv 72 rfl rfl (isSh_oc h_s) ?_
  obtain ⟨σ4, e_σ4⟩ : ∃ y : St, y = upI σ3 s 3 ((σ3.1 s 3) + 1) := ⟨_, rfl⟩
  rw [← e_σ4]
  replace h := h σ4 e_σ4
  exact r_return (pc := 126) hv 73 rfl h
def vc_X7_insert_20 (S : Sp) (Φ : Rs) (v : Kt) (s : Nat) (l1 : Int32) (l2 : Int32) (l3 : Int32) (l4 : Int32) (σ : St) : Prop := ((l4 : Int32) ≤ 0 → (vc_X7_insert_92 S Φ v s l1 l2 l3 l4 σ)) ∧ (¬ ((l4 : Int32) ≤ 0) → (vp_in (l4 - 1) 40 ∧ (((σ.1 (s + 1) (l4 - 1 : Int32).toNatClampNeg : Int32) ≤ l1 → (vc_X7_insert_92 S Φ v s l1 l2 l3 l4 σ)) ∧ (¬ ((σ.1 (s + 1) (l4 - 1 : Int32).toNatClampNeg : Int32) ≤ l1) → (vp_in (l4 - 1) 40 ∧ (vp_in l4 40 ∧ (∀ σ1 : St, σ1 = upI σ (s + 1) (l4 : Int32).toNatClampNeg (σ.1 (s + 1) (l4 - 1 : Int32).toNatClampNeg) → (vp_in (l4 - 1) 40 ∧ (vp_in l4 40 ∧ (∀ σ2 : St, σ2 = upI σ1 (s + 2) (l4 : Int32).toNatClampNeg (σ1.1 (s + 2) (l4 - 1 : Int32).toNatClampNeg) → (vp_in (l4 - 1) 40 ∧ (vp_in l4 40 ∧ (∀ σ3 : St, σ3 = upI σ2 (s + 3) (l4 : Int32).toNatClampNeg (σ2.1 (s + 3) (l4 - 1 : Int32).toNatClampNeg) → (v 20 [some (aR s), some (aI l1), some (aI l2), some (aI l3), some (aI (l4 + (-1)))] [] σ3))))))))))))))
theorem w_X7_insert_20 {S : Sp} (hS : Sys S) {Φ : Rs} {v : Kt} (hv : Cl S Φ k_X7_insert v) (hw : Wk v) (s : Nat) (h_s : isSh s) (l1 : Int32) (l2 : Int32) (l3 : Int32) (l4 : Int32) (σ : St) (h : vc_X7_insert_20 S Φ v s l1 l2 l3 l4 σ) : v 20 [some (aR s), some (aI l1), some (aI l2), some (aI l3), some (aI l4)] [] σ := by
  unfold vc_X7_insert_20 at h
  refine r_iload (pc := 20) hv 10 rfl rfl ?_
  refine r_if_le (pc := 22) hv 11 rfl (fun c => ?_) (fun c => ?_)
  · replace h := h.1 c
    exact (w_X7_insert_92 hS hv hw s h_s l1 l2 l3 l4  σ h)
  · replace h := h.2 c
    refine r_aload_n (pc := 25) hv 12 rfl rfl ?_
    refine r_getR (pc := 26) (b := s + 1) hv 13 rfl rfl (isSh_oc h_s) (isSh_c0 h_s) ?_
    refine r_iload (pc := 29) hv 14 rfl rfl ?_
    refine r_iconst (pc := 31) hv 15 rfl  ?_
    refine r_isub (pc := 32) hv 16 rfl  ?_
    refine r_iaload (pc := 33) (N := 40) hv 17 rfl (isSh_t1 h_s) (isSh_l1 h_s) (isSh_lt1 h_s) h.1 ?_
    replace h := h.2
    refine r_iload_n (pc := 34) hv 18 rfl rfl ?_
    refine r_icmp_le (pc := 35) hv 19 rfl (fun c => ?_) (fun c => ?_)
    · replace h := h.1 c
      exact (w_X7_insert_92 hS hv hw s h_s l1 l2 l3 l4  σ h)
    · replace h := h.2 c
      refine r_aload_n (pc := 38) hv 20 rfl rfl ?_
      refine r_getR (pc := 39) (b := s + 1) hv 21 rfl rfl (isSh_oc h_s) (isSh_c0 h_s) ?_
      refine r_iload (pc := 42) hv 22 rfl rfl ?_
      refine r_aload_n (pc := 44) hv 23 rfl rfl ?_
      refine r_getR (pc := 45) (b := s + 1) hv 24 rfl rfl (isSh_oc h_s) (isSh_c0 h_s) ?_
      refine r_iload (pc := 48) hv 25 rfl rfl ?_
      refine r_iconst (pc := 50) hv 26 rfl  ?_
      refine r_isub (pc := 51) hv 27 rfl  ?_
      refine r_iaload (pc := 52) (N := 40) hv 28 rfl (isSh_t1 h_s) (isSh_l1 h_s) (isSh_lt1 h_s) h.1 ?_
      replace h := h.2
      refine r_iastore (pc := 53) (N := 40) hv 29 rfl (isSh_t1 h_s) (isSh_l1 h_s) h.1 ?_
      replace h := h.2
      obtain ⟨σ1, e_σ1⟩ : ∃ y : St, y = upI σ (s + 1) (l4 : Int32).toNatClampNeg (σ.1 (s + 1) (l4 - 1 : Int32).toNatClampNeg) := ⟨_, rfl⟩
      rw [← e_σ1]
      replace h := h σ1 e_σ1
      refine r_aload_n (pc := 54) hv 30 rfl rfl ?_
      refine r_getR (pc := 55) (b := s + 2) hv 31 rfl rfl (isSh_oc h_s) (isSh_c1 h_s) ?_
      refine r_iload (pc := 58) hv 32 rfl rfl ?_
      refine r_aload_n (pc := 60) hv 33 rfl rfl ?_
      refine r_getR (pc := 61) (b := s + 2) hv 34 rfl rfl (isSh_oc h_s) (isSh_c1 h_s) ?_
      refine r_iload (pc := 64) hv 35 rfl rfl ?_
      refine r_iconst (pc := 66) hv 36 rfl  ?_
      refine r_isub (pc := 67) hv 37 rfl  ?_
      refine r_iaload (pc := 68) (N := 40) hv 38 rfl (isSh_t2 h_s) (isSh_l2 h_s) (isSh_lt2 h_s) h.1 ?_
      replace h := h.2
      refine r_iastore (pc := 69) (N := 40) hv 39 rfl (isSh_t2 h_s) (isSh_l2 h_s) h.1 ?_
      replace h := h.2
      obtain ⟨σ2, e_σ2⟩ : ∃ y : St, y = upI σ1 (s + 2) (l4 : Int32).toNatClampNeg (σ1.1 (s + 2) (l4 - 1 : Int32).toNatClampNeg) := ⟨_, rfl⟩
      rw [← e_σ2]
      replace h := h σ2 e_σ2
      refine r_aload_n (pc := 70) hv 40 rfl rfl ?_
      refine r_getR (pc := 71) (b := s + 3) hv 41 rfl rfl (isSh_oc h_s) (isSh_c2 h_s) ?_
      refine r_iload (pc := 74) hv 42 rfl rfl ?_
      refine r_aload_n (pc := 76) hv 43 rfl rfl ?_
      refine r_getR (pc := 77) (b := s + 3) hv 44 rfl rfl (isSh_oc h_s) (isSh_c2 h_s) ?_
      refine r_iload (pc := 80) hv 45 rfl rfl ?_
      refine r_iconst (pc := 82) hv 46 rfl  ?_
      refine r_isub (pc := 83) hv 47 rfl  ?_
      refine r_iaload (pc := 84) (N := 40) hv 48 rfl (isSh_t3 h_s) (isSh_l3 h_s) (isSh_lt3 h_s) h.1 ?_
      replace h := h.2
      refine r_iastore (pc := 85) (N := 40) hv 49 rfl (isSh_t3 h_s) (isSh_l3 h_s) h.1 ?_
      replace h := h.2
      obtain ⟨σ3, e_σ3⟩ : ∃ y : St, y = upI σ2 (s + 3) (l4 : Int32).toNatClampNeg (σ2.1 (s + 3) (l4 - 1 : Int32).toNatClampNeg) := ⟨_, rfl⟩
      rw [← e_σ3]
      replace h := h σ3 e_σ3
      refine r_iinc (pc := 86) (lo' := [some (aR s), some (aI l1), some (aI l2), some (aI l3), some (aI (l4 + (-1)))]) hv 50 rfl rfl rfl ?_
      refine r_goto (pc := 89) hv 51 rfl  ?_
      exact h
def vc_X7_insert_0 (S : Sp) (Φ : Rs) (v : Kt) (s : Nat) (l1 : Int32) (l2 : Int32) (l3 : Int32) (σ : St) : Prop := ((l2 : Int32) = 0 → (Φ [] σ)) ∧ (¬ ((l2 : Int32) = 0) → (((σ.1 s 3 : Int32) < 40 → (v 20 [some (aR s), some (aI l1), some (aI l2), some (aI l3), some (aI (σ.1 s 3))] [] σ)) ∧ (¬ ((σ.1 s 3 : Int32) < 40) → (Φ [] σ))))
theorem w_X7_insert_0 {S : Sp} (hS : Sys S) {Φ : Rs} {v : Kt} (hv : Cl S Φ k_X7_insert v) (hw : Wk v) (s : Nat) (h_s : isSh s) (l1 : Int32) (l2 : Int32) (l3 : Int32) (σ : St) (h : vc_X7_insert_0 S Φ v s l1 l2 l3 σ) : v 0 [some (aR s), some (aI l1), some (aI l2), some (aI l3), none] [] σ := by
  unfold vc_X7_insert_0 at h
  refine r_iload_n (pc := 0) hv 0 rfl rfl ?_
  refine r_if_eq (pc := 1) hv 1 rfl (fun c => ?_) (fun c => ?_)
  · replace h := h.1 c
    exact r_return (pc := 13) hv 6 rfl h
  · replace h := h.2 c
    refine r_aload_n (pc := 4) hv 2 rfl rfl ?_
    refine r_getI (pc := 5) hv 3 rfl rfl (isSh_oc h_s) ?_
    refine r_bipush (pc := 8) hv 4 rfl  ?_
    refine r_icmp_lt (pc := 10) hv 5 rfl (fun c => ?_) (fun c => ?_)
    · replace h := h.1 c
      refine r_aload_n (pc := 14) hv 7 rfl rfl ?_
      refine r_getI (pc := 15) hv 8 rfl rfl (isSh_oc h_s) ?_
      refine r_istore (pc := 18) (lo' := [some (aR s), some (aI l1), some (aI l2), some (aI l3), some (aI (σ.1 s 3))]) hv 9 rfl rfl ?_
      exact h
    · replace h := h.2 c
      exact r_return (pc := 13) hv 6 rfl h
theorem m_X7_insert {S : Sp} (hS : Sys S) {s : Nat} (h_s : isSh s) {l1 : Int32} {l2 : Int32} {l3 : Int32} {σ : St} {Φ : Rs} (h : ∀ v : Kt, Cl S Φ k_X7_insert v → Wk v → vc_X7_insert_0 S Φ v s l1 l2 l3 σ) : S 84 [aR s, aI l1, aI l2, aI l3] σ Φ :=
  hS.2 84 M_X7_insert k_X7_insert _ _ _ mkt_X7_insert (Nat.le_of_ble_eq_true rfl) (fun v hv hw => w_X7_insert_0 hS hv hw s h_s l1 l2 l3 σ (h v hv hw))
def vc_X7_shakeAt_5 (S : Sp) (Φ : Rs) (v : Kt) (s : Nat) (l1 : Int32) (l2 : Int32) (l3 : Int32) (l4 : Int32) (σ : St) : Prop := ((σ.1 s 3 : Int32) ≤ l4 → (Φ [aI l3] σ)) ∧ (¬ ((σ.1 s 3 : Int32) ≤ l4) → (vp_in l4 40 ∧ (((l1 + l2 : Int32) ≤ (σ.1 (s + 1) (l4 : Int32).toNatClampNeg) → (Φ [aI l3] σ)) ∧ (¬ ((l1 + l2 : Int32) ≤ (σ.1 (s + 1) (l4 : Int32).toNatClampNeg)) → (vp_in l4 40 ∧ (((σ.1 (s + 1) (l4 : Int32).toNatClampNeg : Int32) < l1 → (v 5 [some (aR s), some (aI l1), some (aI l2), some (aI l3), some (aI (l4 + 1))] [] σ)) ∧ (¬ ((σ.1 (s + 1) (l4 : Int32).toNatClampNeg : Int32) < l1) → (vp_in l4 40 ∧ (v 5 [some (aR s), some (aI l1), some (aI l2), some (aI (l3 + (σ.1 (s + 2) (l4 : Int32).toNatClampNeg))), some (aI (l4 + 1))] [] σ)))))))))
theorem w_X7_shakeAt_5 {S : Sp} (hS : Sys S) {Φ : Rs} {v : Kt} (hv : Cl S Φ k_X7_shakeAt v) (hw : Wk v) (s : Nat) (h_s : isSh s) (l1 : Int32) (l2 : Int32) (l3 : Int32) (l4 : Int32) (σ : St) (h : vc_X7_shakeAt_5 S Φ v s l1 l2 l3 l4 σ) : v 5 [some (aR s), some (aI l1), some (aI l2), some (aI l3), some (aI l4)] [] σ := by
  unfold vc_X7_shakeAt_5 at h
  refine r_iload (pc := 5) hv 4 rfl rfl ?_
  refine r_aload_n (pc := 7) hv 5 rfl rfl ?_
  refine r_getI (pc := 8) hv 6 rfl rfl (isSh_oc h_s) ?_
  refine r_icmp_ge (pc := 11) hv 7 rfl (fun c => ?_) (fun c => ?_)
  · replace h := h.1 c
    refine r_iload_n (pc := 54) hv 31 rfl rfl ?_
    exact r_ireturn (pc := 55) hv 32 rfl rfl h
  · replace h := h.2 c
    refine r_aload_n (pc := 14) hv 8 rfl rfl ?_
    refine r_getR (pc := 15) (b := s + 1) hv 9 rfl rfl (isSh_oc h_s) (isSh_c0 h_s) ?_
    refine r_iload (pc := 18) hv 10 rfl rfl ?_
    refine r_iaload (pc := 20) (N := 40) hv 11 rfl (isSh_t1 h_s) (isSh_l1 h_s) (isSh_lt1 h_s) h.1 ?_
    replace h := h.2
    refine r_iload_n (pc := 21) hv 12 rfl rfl ?_
    refine r_iload_n (pc := 22) hv 13 rfl rfl ?_
    refine r_iadd (pc := 23) hv 14 rfl  ?_
    refine r_icmp_ge (pc := 24) hv 15 rfl (fun c => ?_) (fun c => ?_)
    · replace h := h.1 c
      refine r_iload_n (pc := 54) hv 31 rfl rfl ?_
      exact r_ireturn (pc := 55) hv 32 rfl rfl h
    · replace h := h.2 c
      refine r_aload_n (pc := 27) hv 16 rfl rfl ?_
      refine r_getR (pc := 28) (b := s + 1) hv 17 rfl rfl (isSh_oc h_s) (isSh_c0 h_s) ?_
      refine r_iload (pc := 31) hv 18 rfl rfl ?_
      refine r_iaload (pc := 33) (N := 40) hv 19 rfl (isSh_t1 h_s) (isSh_l1 h_s) (isSh_lt1 h_s) h.1 ?_
      replace h := h.2
      refine r_iload_n (pc := 34) hv 20 rfl rfl ?_
      refine r_icmp_lt (pc := 35) hv 21 rfl (fun c => ?_) (fun c => ?_)
      · replace h := h.1 c
        refine r_iinc (pc := 48) (lo' := [some (aR s), some (aI l1), some (aI l2), some (aI l3), some (aI (l4 + 1))]) hv 29 rfl rfl rfl ?_
        refine r_goto (pc := 51) hv 30 rfl  ?_
        exact h
      · replace h := h.2 c
        refine r_iload_n (pc := 38) hv 22 rfl rfl ?_
        refine r_aload_n (pc := 39) hv 23 rfl rfl ?_
        refine r_getR (pc := 40) (b := s + 2) hv 24 rfl rfl (isSh_oc h_s) (isSh_c1 h_s) ?_
        refine r_iload (pc := 43) hv 25 rfl rfl ?_
        refine r_iaload (pc := 45) (N := 40) hv 26 rfl (isSh_t2 h_s) (isSh_l2 h_s) (isSh_lt2 h_s) h.1 ?_
        replace h := h.2
        refine r_iadd (pc := 46) hv 27 rfl  ?_
        refine r_istore_n (pc := 47) (lo' := [some (aR s), some (aI l1), some (aI l2), some (aI (l3 + (σ.1 (s + 2) (l4 : Int32).toNatClampNeg))), some (aI l4)]) hv 28 rfl rfl ?_
        refine r_iinc (pc := 48) (lo' := [some (aR s), some (aI l1), some (aI l2), some (aI (l3 + (σ.1 (s + 2) (l4 : Int32).toNatClampNeg))), some (aI (l4 + 1))]) hv 29 rfl rfl rfl ?_
        refine r_goto (pc := 51) hv 30 rfl  ?_
        exact h
def vc_X7_shakeAt_0 (S : Sp) (Φ : Rs) (v : Kt) (s : Nat) (l1 : Int32) (l2 : Int32) (σ : St) : Prop := v 5 [some (aR s), some (aI l1), some (aI l2), some (aI 0), some (aI 0)] [] σ
theorem w_X7_shakeAt_0 {S : Sp} (hS : Sys S) {Φ : Rs} {v : Kt} (hv : Cl S Φ k_X7_shakeAt v) (hw : Wk v) (s : Nat) (h_s : isSh s) (l1 : Int32) (l2 : Int32) (σ : St) (h : vc_X7_shakeAt_0 S Φ v s l1 l2 σ) : v 0 [some (aR s), some (aI l1), some (aI l2), none, none] [] σ := by
  unfold vc_X7_shakeAt_0 at h
  refine r_iconst (pc := 0) hv 0 rfl  ?_
  refine r_istore_n (pc := 1) (lo' := [some (aR s), some (aI l1), some (aI l2), some (aI 0), none]) hv 1 rfl rfl ?_
  refine r_iconst (pc := 2) hv 2 rfl  ?_
  refine r_istore (pc := 3) (lo' := [some (aR s), some (aI l1), some (aI l2), some (aI 0), some (aI 0)]) hv 3 rfl rfl ?_
  exact h
theorem m_X7_shakeAt {S : Sp} (hS : Sys S) {s : Nat} (h_s : isSh s) {l1 : Int32} {l2 : Int32} {σ : St} {Φ : Rs} (h : ∀ v : Kt, Cl S Φ k_X7_shakeAt v → Wk v → vc_X7_shakeAt_0 S Φ v s l1 l2 σ) : S 85 [aR s, aI l1, aI l2] σ Φ :=
  hS.2 85 M_X7_shakeAt k_X7_shakeAt _ _ _ mkt_X7_shakeAt (Nat.le_of_ble_eq_true rfl) (fun v hv hw => w_X7_shakeAt_0 hS hv hw s h_s l1 l2 σ (h v hv hw))
def vc_X7_weigh_51 (S : Sp) (Φ : Rs) (v : Kt) (s : Nat) (l1 : Int32) (l2 : Int32) (l3 : Int32) (s0 : Int32) (σ : St) : Prop := ((s0 : Int32) = 0 → (v 17 [some (aR s), some (aI l1), some (aI l2), some (aI (l3 + 1)), none] [] σ)) ∧ (¬ ((s0 : Int32) = 0) → (vp_in l3 40 ∧ (S 87 [aR s, aI (σ.1 (s + 1) (l3 : Int32).toNatClampNeg), aI l1, aI l2] σ (fun r σ1 => r = [] ∧ (v 17 [some (aR s), some (aI l1), some (aI l2), some (aI (l3 + 1)), none] [] σ1)))))
theorem w_X7_weigh_51 {S : Sp} (hS : Sys S) {Φ : Rs} {v : Kt} (hv : Cl S Φ k_X7_weigh v) (hw : Wk v) (s : Nat) (h_s : isSh s) (l1 : Int32) (l2 : Int32) (l3 : Int32) (s0 : Int32) (σ : St) (h : vc_X7_weigh_51 S Φ v s l1 l2 l3 s0 σ) : v 51 [some (aR s), some (aI l1), some (aI l2), some (aI l3), none] [aI s0] σ := by
  unfold vc_X7_weigh_51 at h
  refine r_istore (pc := 51) (lo' := [some (aR s), some (aI l1), some (aI l2), some (aI l3), some (aI s0)]) hv 31 rfl rfl ?_
  refine r_iload (pc := 53) hv 32 rfl rfl ?_
  refine r_if_eq (pc := 55) hv 33 rfl (fun c => ?_) (fun c => ?_)
  · replace h := h.1 c
    refine r_iinc (pc := 70) (lo' := [some (aR s), some (aI l1), some (aI l2), some (aI (l3 + 1)), some (aI s0)]) hv 42 rfl rfl rfl ?_
    refine r_goto (pc := 73) hv 43 rfl  ?_
    exact hw 17 [some (aR s), some (aI l1), some (aI l2), some (aI (l3 + 1)), none] _ _ _ ⟨rfl, ⟨rfl, ⟨rfl, ⟨rfl, trivial⟩⟩⟩⟩ h
  · replace h := h.2 c
    refine r_aload_n (pc := 58) hv 34 rfl rfl ?_
    refine r_aload_n (pc := 59) hv 35 rfl rfl ?_
    refine r_getR (pc := 60) (b := s + 1) hv 36 rfl rfl (isSh_oc h_s) (isSh_c0 h_s) ?_
    refine r_iload_n (pc := 63) hv 37 rfl rfl ?_
    refine r_iaload (pc := 64) (N := 40) hv 38 rfl (isSh_t1 h_s) (isSh_l1 h_s) (isSh_lt1 h_s) h.1 ?_
    replace h := h.2
    refine r_iload_n (pc := 65) hv 39 rfl rfl ?_
    refine r_iload_n (pc := 66) hv 40 rfl rfl ?_
    refine r_callV (pc := 67) (l := [aI l2, aI l1, aI (σ.1 (s + 1) (l3 : Int32).toNatClampNeg)]) (av := [aI (σ.1 (s + 1) (l3 : Int32).toNatClampNeg), aI l1, aI l2]) (a := s) (t := []) hv 41 rfl rfl rfl rfl (rcv_o (by decide) (isSh_oc h_s)) trivial (hS.1 _ _ _ _ _ (fun r σ1 h => ?_) h)
    obtain ⟨rfl, h⟩ := h
    show v 70 [some (aR s), some (aI l1), some (aI l2), some (aI l3), some (aI s0)] [] σ1
    refine r_iinc (pc := 70) (lo' := [some (aR s), some (aI l1), some (aI l2), some (aI (l3 + 1)), some (aI s0)]) hv 42 rfl rfl rfl ?_
    refine r_goto (pc := 73) hv 43 rfl  ?_
    exact hw 17 [some (aR s), some (aI l1), some (aI l2), some (aI (l3 + 1)), none] _ _ _ ⟨rfl, ⟨rfl, ⟨rfl, ⟨rfl, trivial⟩⟩⟩⟩ h
def vc_X7_weigh_46 (S : Sp) (Φ : Rs) (v : Kt) (s : Nat) (l1 : Int32) (l2 : Int32) (l3 : Int32) (σ : St) : Prop := vc_X7_weigh_51 S Φ v s l1 l2 l3 1 σ
theorem w_X7_weigh_46 {S : Sp} (hS : Sys S) {Φ : Rs} {v : Kt} (hv : Cl S Φ k_X7_weigh v) (hw : Wk v) (s : Nat) (h_s : isSh s) (l1 : Int32) (l2 : Int32) (l3 : Int32) (σ : St) (h : vc_X7_weigh_46 S Φ v s l1 l2 l3 σ) : v 46 [some (aR s), some (aI l1), some (aI l2), some (aI l3), none] [] σ := by
  unfold vc_X7_weigh_46 at h
  refine r_iconst (pc := 46) hv 28 rfl  ?_
  refine r_goto (pc := 47) hv 29 rfl  ?_
  exact (w_X7_weigh_51 hS hv hw s h_s l1 l2 l3 1  σ h)
def vc_X7_weigh_17 (S : Sp) (Φ : Rs) (v : Kt) (s : Nat) (l1 : Int32) (l2 : Int32) (l3 : Int32) (σ : St) : Prop := ((σ.1 s 3 : Int32) ≤ l3 → (Φ [] σ)) ∧ (¬ ((σ.1 s 3 : Int32) ≤ l3) → (((l3 : Int32) = 0 → (vc_X7_weigh_46 S Φ v s l1 l2 l3 σ)) ∧ (¬ ((l3 : Int32) = 0) → (vp_in l3 40 ∧ (vp_in (l3 - 1) 40 ∧ (((σ.1 (s + 1) (l3 : Int32).toNatClampNeg : Int32) = (σ.1 (s + 1) (l3 - 1 : Int32).toNatClampNeg) → (vc_X7_weigh_51 S Φ v s l1 l2 l3 0 σ)) ∧ (¬ ((σ.1 (s + 1) (l3 : Int32).toNatClampNeg : Int32) = (σ.1 (s + 1) (l3 - 1 : Int32).toNatClampNeg)) → (vc_X7_weigh_46 S Φ v s l1 l2 l3 σ))))))))
theorem w_X7_weigh_17 {S : Sp} (hS : Sys S) {Φ : Rs} {v : Kt} (hv : Cl S Φ k_X7_weigh v) (hw : Wk v) (s : Nat) (h_s : isSh s) (l1 : Int32) (l2 : Int32) (l3 : Int32) (σ : St) (h : vc_X7_weigh_17 S Φ v s l1 l2 l3 σ) : v 17 [some (aR s), some (aI l1), some (aI l2), some (aI l3), none] [] σ := by
  unfold vc_X7_weigh_17 at h
  refine r_iload_n (pc := 17) hv 11 rfl rfl ?_
  refine r_aload_n (pc := 18) hv 12 rfl rfl ?_
  refine r_getI (pc := 19) hv 13 rfl rfl (isSh_oc h_s) ?_
  refine r_icmp_ge (pc := 22) hv 14 rfl (fun c => ?_) (fun c => ?_)
  · replace h := h.1 c
    exact r_return (pc := 76) hv 44 rfl h
  · replace h := h.2 c
    refine r_iload_n (pc := 25) hv 15 rfl rfl ?_
    refine r_if_eq (pc := 26) hv 16 rfl (fun c => ?_) (fun c => ?_)
    · replace h := h.1 c
      exact (w_X7_weigh_46 hS hv hw s h_s l1 l2 l3  σ h)
    · replace h := h.2 c
      refine r_aload_n (pc := 29) hv 17 rfl rfl ?_
      refine r_getR (pc := 30) (b := s + 1) hv 18 rfl rfl (isSh_oc h_s) (isSh_c0 h_s) ?_
      refine r_iload_n (pc := 33) hv 19 rfl rfl ?_
      refine r_iaload (pc := 34) (N := 40) hv 20 rfl (isSh_t1 h_s) (isSh_l1 h_s) (isSh_lt1 h_s) h.1 ?_
      replace h := h.2
      refine r_aload_n (pc := 35) hv 21 rfl rfl ?_
      refine r_getR (pc := 36) (b := s + 1) hv 22 rfl rfl (isSh_oc h_s) (isSh_c0 h_s) ?_
      refine r_iload_n (pc := 39) hv 23 rfl rfl ?_
      refine r_iconst (pc := 40) hv 24 rfl  ?_
      refine r_isub (pc := 41) hv 25 rfl  ?_
      refine r_iaload (pc := 42) (N := 40) hv 26 rfl (isSh_t1 h_s) (isSh_l1 h_s) (isSh_lt1 h_s) h.1 ?_
      replace h := h.2
      refine r_icmp_eq (pc := 43) hv 27 rfl (fun c => ?_) (fun c => ?_)
      · replace h := h.1 c
        refine r_iconst (pc := 50) hv 30 rfl  ?_
        exact (w_X7_weigh_51 hS hv hw s h_s l1 l2 l3 0  σ h)
      · replace h := h.2 c
        exact (w_X7_weigh_46 hS hv hw s h_s l1 l2 l3  σ h)
def vc_X7_weigh_0 (S : Sp) (Φ : Rs) (v : Kt) (s : Nat) (l1 : Int32) (l2 : Int32) (σ : St) : Prop := ∀ σ1 : St, σ1 = upI σ s 4 0 → (∀ σ2 : St, σ2 = upI σ1 s 5 (-1) → (∀ σ3 : St, σ3 = upI σ2 s 6 0 → (v 17 [some (aR s), some (aI l1), some (aI l2), some (aI 0), none] [] σ3)))
theorem w_X7_weigh_0 {S : Sp} (hS : Sys S) {Φ : Rs} {v : Kt} (hv : Cl S Φ k_X7_weigh v) (hw : Wk v) (s : Nat) (h_s : isSh s) (l1 : Int32) (l2 : Int32) (σ : St) (h : vc_X7_weigh_0 S Φ v s l1 l2 σ) : v 0 [some (aR s), some (aI l1), some (aI l2), none, none] [] σ := by
  unfold vc_X7_weigh_0 at h
  refine r_aload_n (pc := 0) hv 0 rfl rfl ?_
  refine r_iconst (pc := 1) hv 1 rfl  ?_
  refine r_putI (pc := 2) hv 2 rfl rfl (isSh_oc h_s) ?_
  obtain ⟨σ1, e_σ1⟩ : ∃ y : St, y = upI σ s 4 0 := ⟨_, rfl⟩
  rw [← e_σ1]
  replace h := h σ1 e_σ1
  refine r_aload_n (pc := 5) hv 3 rfl rfl ?_
  refine r_iconst (pc := 6) hv 4 rfl  ?_
  refine r_putI (pc := 7) hv 5 rfl rfl (isSh_oc h_s) ?_
  obtain ⟨σ2, e_σ2⟩ : ∃ y : St, y = upI σ1 s 5 (-1) := ⟨_, rfl⟩
  rw [← e_σ2]
  replace h := h σ2 e_σ2
  refine r_aload_n (pc := 10) hv 6 rfl rfl ?_
  refine r_iconst (pc := 11) hv 7 rfl  ?_
  refine r_putI (pc := 12) hv 8 rfl rfl (isSh_oc h_s) ?_
  obtain ⟨σ3, e_σ3⟩ : ∃ y : St, y = upI σ2 s 6 0 := ⟨_, rfl⟩
  rw [← e_σ3]
  replace h := h σ3 e_σ3
  refine r_iconst (pc := 15) hv 9 rfl  ?_
  refine r_istore_n (pc := 16) (lo' := [some (aR s), some (aI l1), some (aI l2), some (aI 0), none]) hv 10 rfl rfl ?_
  exact h
theorem m_X7_weigh {S : Sp} (hS : Sys S) {s : Nat} (h_s : isSh s) {l1 : Int32} {l2 : Int32} {σ : St} {Φ : Rs} (h : ∀ v : Kt, Cl S Φ k_X7_weigh v → Wk v → vc_X7_weigh_0 S Φ v s l1 l2 σ) : S 86 [aR s, aI l1, aI l2] σ Φ :=
  hS.2 86 M_X7_weigh k_X7_weigh _ _ _ mkt_X7_weigh (Nat.le_of_ble_eq_true rfl) (fun v hv hw => w_X7_weigh_0 hS hv hw s h_s l1 l2 σ (h v hv hw))
def vc_X7_weighAt_24 (S : Sp) (Φ : Rs) (v : Kt) (s : Nat) (l1 : Int32) (l2 : Int32) (l3 : Int32) (l4 : Int32) (σ : St) : Prop := ((l4 : Int32) ≤ (σ.1 s 4) → (Φ [] σ)) ∧ (¬ ((l4 : Int32) ≤ (σ.1 s 4)) → (∀ σ1 : St, σ1 = upI σ s 4 l4 → (∀ σ2 : St, σ2 = upI σ1 s 5 l1 → (Φ [] σ2))))
theorem w_X7_weighAt_24 {S : Sp} (hS : Sys S) {Φ : Rs} {v : Kt} (hv : Cl S Φ k_X7_weighAt v) (hw : Wk v) (s : Nat) (h_s : isSh s) (l1 : Int32) (l2 : Int32) (l3 : Int32) (l4 : Int32) (σ : St) (h : vc_X7_weighAt_24 S Φ v s l1 l2 l3 l4 σ) : v 24 [some (aR s), some (aI l1), some (aI l2), some (aI l3), some (aI l4)] [] σ := by
  unfold vc_X7_weighAt_24 at h
  refine r_iload (pc := 24) hv 14 rfl rfl ?_
  refine r_aload_n (pc := 26) hv 15 rfl rfl ?_
  refine r_getI (pc := 27) hv 16 rfl rfl (isSh_oc h_s) ?_
  refine r_icmp_le (pc := 30) hv 17 rfl (fun c => ?_) (fun c => ?_)
  · replace h := h.1 c
    exact r_return (pc := 44) hv 24 rfl h
  · replace h := h.2 c
    refine r_aload_n (pc := 33) hv 18 rfl rfl ?_
    refine r_iload (pc := 34) hv 19 rfl rfl ?_
    refine r_putI (pc := 36) hv 20 rfl rfl (isSh_oc h_s) ?_
    obtain ⟨σ1, e_σ1⟩ : ∃ y : St, y = upI σ s 4 l4 := ⟨_, rfl⟩
    rw [← e_σ1]
    replace h := h σ1 e_σ1
    refine r_aload_n (pc := 39) hv 21 rfl rfl ?_
    refine r_iload_n (pc := 40) hv 22 rfl rfl ?_
    refine r_putI (pc := 41) hv 23 rfl rfl (isSh_oc h_s) ?_
    obtain ⟨σ2, e_σ2⟩ : ∃ y : St, y = upI σ1 s 5 l1 := ⟨_, rfl⟩
    rw [← e_σ2]
    replace h := h σ2 e_σ2
    exact r_return (pc := 44) hv 24 rfl h
def vc_X7_weighAt_0 (S : Sp) (Φ : Rs) (v : Kt) (s : Nat) (l1 : Int32) (l2 : Int32) (l3 : Int32) (σ : St) : Prop := S 85 [aR s, aI l1, aI l2] σ (fun r σ1 => ∃ x2 : Int32, r = [aI x2] ∧ (((x2 : Int32) ≤ l3 → (vc_X7_weighAt_24 S Φ v s l1 l2 l3 x2 σ1)) ∧ (¬ ((x2 : Int32) ≤ l3) → (∀ σ3 : St, σ3 = upI σ1 s 6 ((σ1.1 s 6) + 1) → (vc_X7_weighAt_24 S Φ v s l1 l2 l3 x2 σ3)))))
theorem w_X7_weighAt_0 {S : Sp} (hS : Sys S) {Φ : Rs} {v : Kt} (hv : Cl S Φ k_X7_weighAt v) (hw : Wk v) (s : Nat) (h_s : isSh s) (l1 : Int32) (l2 : Int32) (l3 : Int32) (σ : St) (h : vc_X7_weighAt_0 S Φ v s l1 l2 l3 σ) : v 0 [some (aR s), some (aI l1), some (aI l2), some (aI l3), none] [] σ := by
  unfold vc_X7_weighAt_0 at h
  refine r_aload_n (pc := 0) hv 0 rfl rfl ?_
  refine r_iload_n (pc := 1) hv 1 rfl rfl ?_
  refine r_iload_n (pc := 2) hv 2 rfl rfl ?_
  refine r_callV (pc := 3) (l := [aI l2, aI l1]) (av := [aI l1, aI l2]) (a := s) (t := []) hv 3 rfl rfl rfl rfl (rcv_o (by decide) (isSh_oc h_s)) trivial (hS.1 _ _ _ _ _ (fun r σ1 h => ?_) h)
  obtain ⟨x2, rfl, h⟩ := h
  show v 6 [some (aR s), some (aI l1), some (aI l2), some (aI l3), none] [aI x2] σ1
  refine r_istore (pc := 6) (lo' := [some (aR s), some (aI l1), some (aI l2), some (aI l3), some (aI x2)]) hv 4 rfl rfl ?_
  refine r_iload (pc := 8) hv 5 rfl rfl ?_
  refine r_iload_n (pc := 10) hv 6 rfl rfl ?_
  refine r_icmp_le (pc := 11) hv 7 rfl (fun c => ?_) (fun c => ?_)
  · replace h := h.1 c
    exact (w_X7_weighAt_24 hS hv hw s h_s l1 l2 l3 x2  σ1 h)
  · replace h := h.2 c
    refine r_aload_n (pc := 14) hv 8 rfl rfl ?_
    refine r_dup (pc := 15) hv 9 rfl trivial ?_
    refine r_getI (pc := 16) hv 10 rfl rfl (isSh_oc h_s) ?_
    refine r_iconst (pc := 19) hv 11 rfl  ?_
    refine r_iadd (pc := 20) hv 12 rfl  ?_
    refine r_putI (pc := 21) hv 13 rfl rfl (isSh_oc h_s) ?_
    obtain ⟨σ3, e_σ3⟩ : ∃ y : St, y = upI σ1 s 6 ((σ1.1 s 6) + 1) := ⟨_, rfl⟩
    rw [← e_σ3]
    replace h := h σ3 e_σ3
    exact (w_X7_weighAt_24 hS hv hw s h_s l1 l2 l3 x2  σ3 h)
theorem m_X7_weighAt {S : Sp} (hS : Sys S) {s : Nat} (h_s : isSh s) {l1 : Int32} {l2 : Int32} {l3 : Int32} {σ : St} {Φ : Rs} (h : ∀ v : Kt, Cl S Φ k_X7_weighAt v → Wk v → vc_X7_weighAt_0 S Φ v s l1 l2 l3 σ) : S 87 [aR s, aI l1, aI l2, aI l3] σ Φ :=
  hS.2 87 M_X7_weighAt k_X7_weighAt _ _ _ mkt_X7_weighAt (Nat.le_of_ble_eq_true rfl) (fun v hv hw => w_X7_weighAt_0 hS hv hw s h_s l1 l2 l3 σ (h v hv hw))
def vc_X7_weightOfFirst_4 (S : Sp) (Φ : Rs) (v : Kt) (s : Nat) (l1 : Int32) (l2 : Int32) (l3 : Int32) (σ : St) : Prop := ((l1 : Int32) ≤ l3 → (Φ [aI l2] σ)) ∧ (¬ ((l1 : Int32) ≤ l3) → (((σ.1 s 3 : Int32) ≤ l3 → (Φ [aI l2] σ)) ∧ (¬ ((σ.1 s 3 : Int32) ≤ l3) → (vp_in l3 40 ∧ (v 4 [some (aR s), some (aI l1), some (aI (l2 + (σ.1 (s + 2) (l3 : Int32).toNatClampNeg))), some (aI (l3 + 1))] [] σ)))))
theorem w_X7_weightOfFirst_4 {S : Sp} (hS : Sys S) {Φ : Rs} {v : Kt} (hv : Cl S Φ k_X7_weightOfFirst v) (hw : Wk v) (s : Nat) (h_s : isSh s) (l1 : Int32) (l2 : Int32) (l3 : Int32) (σ : St) (h : vc_X7_weightOfFirst_4 S Φ v s l1 l2 l3 σ) : v 4 [some (aR s), some (aI l1), some (aI l2), some (aI l3)] [] σ := by
  unfold vc_X7_weightOfFirst_4 at h
  refine r_iload_n (pc := 4) hv 4 rfl rfl ?_
  refine r_iload_n (pc := 5) hv 5 rfl rfl ?_
  refine r_icmp_ge (pc := 6) hv 6 rfl (fun c => ?_) (fun c => ?_)
  · replace h := h.1 c
    refine r_iload_n (pc := 32) hv 20 rfl rfl ?_
    exact r_ireturn (pc := 33) hv 21 rfl rfl h
  · replace h := h.2 c
    refine r_iload_n (pc := 9) hv 7 rfl rfl ?_
    refine r_aload_n (pc := 10) hv 8 rfl rfl ?_
    refine r_getI (pc := 11) hv 9 rfl rfl (isSh_oc h_s) ?_
    refine r_icmp_ge (pc := 14) hv 10 rfl (fun c => ?_) (fun c => ?_)
    · replace h := h.1 c
      refine r_iload_n (pc := 32) hv 20 rfl rfl ?_
      exact r_ireturn (pc := 33) hv 21 rfl rfl h
    · replace h := h.2 c
      refine r_iload_n (pc := 17) hv 11 rfl rfl ?_
      refine r_aload_n (pc := 18) hv 12 rfl rfl ?_
      refine r_getR (pc := 19) (b := s + 2) hv 13 rfl rfl (isSh_oc h_s) (isSh_c1 h_s) ?_
      refine r_iload_n (pc := 22) hv 14 rfl rfl ?_
      refine r_iaload (pc := 23) (N := 40) hv 15 rfl (isSh_t2 h_s) (isSh_l2 h_s) (isSh_lt2 h_s) h.1 ?_
      replace h := h.2
      refine r_iadd (pc := 24) hv 16 rfl  ?_
      refine r_istore_n (pc := 25) (lo' := [some (aR s), some (aI l1), some (aI (l2 + (σ.1 (s + 2) (l3 : Int32).toNatClampNeg))), some (aI l3)]) hv 17 rfl rfl ?_
      refine r_iinc (pc := 26) (lo' := [some (aR s), some (aI l1), some (aI (l2 + (σ.1 (s + 2) (l3 : Int32).toNatClampNeg))), some (aI (l3 + 1))]) hv 18 rfl rfl rfl ?_
      refine r_goto (pc := 29) hv 19 rfl  ?_
      exact h
def vc_X7_weightOfFirst_0 (S : Sp) (Φ : Rs) (v : Kt) (s : Nat) (l1 : Int32) (σ : St) : Prop := v 4 [some (aR s), some (aI l1), some (aI 0), some (aI 0)] [] σ
theorem w_X7_weightOfFirst_0 {S : Sp} (hS : Sys S) {Φ : Rs} {v : Kt} (hv : Cl S Φ k_X7_weightOfFirst v) (hw : Wk v) (s : Nat) (h_s : isSh s) (l1 : Int32) (σ : St) (h : vc_X7_weightOfFirst_0 S Φ v s l1 σ) : v 0 [some (aR s), some (aI l1), none, none] [] σ := by
  unfold vc_X7_weightOfFirst_0 at h
  refine r_iconst (pc := 0) hv 0 rfl  ?_
  refine r_istore_n (pc := 1) (lo' := [some (aR s), some (aI l1), some (aI 0), none]) hv 1 rfl rfl ?_
  refine r_iconst (pc := 2) hv 2 rfl  ?_
  refine r_istore_n (pc := 3) (lo' := [some (aR s), some (aI l1), some (aI 0), some (aI 0)]) hv 3 rfl rfl ?_
  exact h
theorem m_X7_weightOfFirst {S : Sp} (hS : Sys S) {s : Nat} (h_s : isSh s) {l1 : Int32} {σ : St} {Φ : Rs} (h : ∀ v : Kt, Cl S Φ k_X7_weightOfFirst v → Wk v → vc_X7_weightOfFirst_0 S Φ v s l1 σ) : S 88 [aR s, aI l1] σ Φ :=
  hS.2 88 M_X7_weightOfFirst k_X7_weightOfFirst _ _ _ mkt_X7_weightOfFirst (Nat.le_of_ble_eq_true rfl) (fun v hv hw => w_X7_weightOfFirst_0 hS hv hw s h_s l1 σ (h v hv hw))
def vc_X7_lastTimeOfFirst_0 (S : Sp) (Φ : Rs) (v : Kt) (s : Nat) (l1 : Int32) (σ : St) : Prop := ((l1 : Int32) ≤ 0 → (Φ [aI (-1)] σ)) ∧ (¬ ((l1 : Int32) ≤ 0) → (((σ.1 s 3 : Int32) < l1 → (Φ [aI (-1)] σ)) ∧ (¬ ((σ.1 s 3 : Int32) < l1) → (vp_in (l1 - 1) 40 ∧ (Φ [aI (σ.1 (s + 1) (l1 - 1 : Int32).toNatClampNeg)] σ)))))
theorem w_X7_lastTimeOfFirst_0 {S : Sp} (hS : Sys S) {Φ : Rs} {v : Kt} (hv : Cl S Φ k_X7_lastTimeOfFirst v) (hw : Wk v) (s : Nat) (h_s : isSh s) (l1 : Int32) (σ : St) (h : vc_X7_lastTimeOfFirst_0 S Φ v s l1 σ) : v 0 [some (aR s), some (aI l1)] [] σ := by
  unfold vc_X7_lastTimeOfFirst_0 at h
  refine r_iload_n (pc := 0) hv 0 rfl rfl ?_
  refine r_if_le (pc := 1) hv 1 rfl (fun c => ?_) (fun c => ?_)
  · replace h := h.1 c
    refine r_iconst (pc := 23) hv 13 rfl  ?_
    exact r_ireturn (pc := 24) hv 14 rfl rfl h
  · replace h := h.2 c
    refine r_iload_n (pc := 4) hv 2 rfl rfl ?_
    refine r_aload_n (pc := 5) hv 3 rfl rfl ?_
    refine r_getI (pc := 6) hv 4 rfl rfl (isSh_oc h_s) ?_
    refine r_icmp_gt (pc := 9) hv 5 rfl (fun c => ?_) (fun c => ?_)
    · replace h := h.1 c
      refine r_iconst (pc := 23) hv 13 rfl  ?_
      exact r_ireturn (pc := 24) hv 14 rfl rfl h
    · replace h := h.2 c
      refine r_aload_n (pc := 12) hv 6 rfl rfl ?_
      refine r_getR (pc := 13) (b := s + 1) hv 7 rfl rfl (isSh_oc h_s) (isSh_c0 h_s) ?_
      refine r_iload_n (pc := 16) hv 8 rfl rfl ?_
      refine r_iconst (pc := 17) hv 9 rfl  ?_
      refine r_isub (pc := 18) hv 10 rfl  ?_
      refine r_iaload (pc := 19) (N := 40) hv 11 rfl (isSh_t1 h_s) (isSh_l1 h_s) (isSh_lt1 h_s) h.1 ?_
      replace h := h.2
      refine r_goto (pc := 20) hv 12 rfl  ?_
      exact r_ireturn (pc := 24) hv 14 rfl rfl h
theorem m_X7_lastTimeOfFirst {S : Sp} (hS : Sys S) {s : Nat} (h_s : isSh s) {l1 : Int32} {σ : St} {Φ : Rs} (h : ∀ v : Kt, Cl S Φ k_X7_lastTimeOfFirst v → Wk v → vc_X7_lastTimeOfFirst_0 S Φ v s l1 σ) : S 89 [aR s, aI l1] σ Φ :=
  hS.2 89 M_X7_lastTimeOfFirst k_X7_lastTimeOfFirst _ _ _ mkt_X7_lastTimeOfFirst (Nat.le_of_ble_eq_true rfl) (fun v hv hw => w_X7_lastTimeOfFirst_0 hS hv hw s h_s l1 σ (h v hv hw))
def vc_X7_holesBehind_8 (S : Sp) (Φ : Rs) (v : Kt) (s : Nat) (l1 : Int32) (l2 : Int32) (l3 : Int32) (σ : St) : Prop := ((σ.1 s 3 : Int32) ≤ l3 → (Φ [aI l2] σ)) ∧ (¬ ((σ.1 s 3 : Int32) ≤ l3) → (vp_in l3 40 ∧ (v 8 [some (aR s), some (aI l1), some (aI (l2 ||| (bitO (σ.1 (s + 3) (l3 : Int32).toNatClampNeg)))), some (aI (l3 + 1))] [] σ)))
theorem w_X7_holesBehind_8 {S : Sp} (hS : Sys S) {Φ : Rs} {v : Kt} (hv : Cl S Φ k_X7_holesBehind v) (hw : Wk v) (s : Nat) (h_s : isSh s) (l1 : Int32) (l2 : Int32) (l3 : Int32) (σ : St) (h : vc_X7_holesBehind_8 S Φ v s l1 l2 l3 σ) : v 8 [some (aR s), some (aI l1), some (aI l2), some (aI l3)] [] σ := by
  unfold vc_X7_holesBehind_8 at h
  refine r_iload_n (pc := 8) hv 6 rfl rfl ?_
  refine r_aload_n (pc := 9) hv 7 rfl rfl ?_
  refine r_getI (pc := 10) hv 8 rfl rfl (isSh_oc h_s) ?_
  refine r_icmp_ge (pc := 13) hv 9 rfl (fun c => ?_) (fun c => ?_)
  · replace h := h.1 c
    refine r_iload_n (pc := 34) hv 20 rfl rfl ?_
    exact r_ireturn (pc := 35) hv 21 rfl rfl h
  · replace h := h.2 c
    refine r_iload_n (pc := 16) hv 10 rfl rfl ?_
    refine r_aload_n (pc := 17) hv 11 rfl rfl ?_
    refine r_getR (pc := 18) (b := s + 3) hv 12 rfl rfl (isSh_oc h_s) (isSh_c2 h_s) ?_
    refine r_iload_n (pc := 21) hv 13 rfl rfl ?_
    refine r_iaload (pc := 22) (N := 40) hv 14 rfl (isSh_t3 h_s) (isSh_l3 h_s) (isSh_lt3 h_s) h.1 ?_
    replace h := h.2
    refine r_callS (pc := 23) (l := [aI (σ.1 (s + 3) (l3 : Int32).toNatClampNeg)]) (av := [aI (σ.1 (s + 3) (l3 : Int32).toNatClampNeg)]) (t := [aI l2]) hv 15 rfl (Or.inr rfl) rfl rfl rfl trivial (t_X8_bitOf hS ?_)
    show v 26 [some (aR s), some (aI l1), some (aI l2), some (aI l3)] [aI (bitO (σ.1 (s + 3) (l3 : Int32).toNatClampNeg)), aI l2] σ
    refine r_ior (pc := 26) hv 16 rfl  ?_
    refine r_istore_n (pc := 27) (lo' := [some (aR s), some (aI l1), some (aI (l2 ||| (bitO (σ.1 (s + 3) (l3 : Int32).toNatClampNeg)))), some (aI l3)]) hv 17 rfl rfl ?_
    refine r_iinc (pc := 28) (lo' := [some (aR s), some (aI l1), some (aI (l2 ||| (bitO (σ.1 (s + 3) (l3 : Int32).toNatClampNeg)))), some (aI (l3 + 1))]) hv 18 rfl rfl rfl ?_
    refine r_goto (pc := 31) hv 19 rfl  ?_
    exact h
def vc_X7_holesBehind_0 (S : Sp) (Φ : Rs) (v : Kt) (s : Nat) (l1 : Int32) (σ : St) : Prop := v 8 [some (aR s), some (aI l1), some (aI 0), some (aI (if (l1 : Int32) < 0 then 0 else l1))] [] σ
theorem w_X7_holesBehind_0 {S : Sp} (hS : Sys S) {Φ : Rs} {v : Kt} (hv : Cl S Φ k_X7_holesBehind v) (hw : Wk v) (s : Nat) (h_s : isSh s) (l1 : Int32) (σ : St) (h : vc_X7_holesBehind_0 S Φ v s l1 σ) : v 0 [some (aR s), some (aI l1), none, none] [] σ := by
  unfold vc_X7_holesBehind_0 at h
  refine r_iconst (pc := 0) hv 0 rfl  ?_
  refine r_istore_n (pc := 1) (lo' := [some (aR s), some (aI l1), some (aI 0), none]) hv 1 rfl rfl ?_
  refine r_iload_n (pc := 2) hv 2 rfl rfl ?_
  refine r_iconst (pc := 3) hv 3 rfl  ?_
  refine r_max (pc := 4) hv 4 rfl rfl trivial ?_
  refine r_istore_n (pc := 7) (lo' := [some (aR s), some (aI l1), some (aI 0), some (aI (if (l1 : Int32) < 0 then 0 else l1))]) hv 5 rfl rfl ?_
  exact h
theorem m_X7_holesBehind {S : Sp} (hS : Sys S) {s : Nat} (h_s : isSh s) {l1 : Int32} {σ : St} {Φ : Rs} (h : ∀ v : Kt, Cl S Φ k_X7_holesBehind v → Wk v → vc_X7_holesBehind_0 S Φ v s l1 σ) : S 90 [aR s, aI l1] σ Φ :=
  hS.2 90 M_X7_holesBehind k_X7_holesBehind _ _ _ mkt_X7_holesBehind (Nat.le_of_ble_eq_true rfl) (fun v hv hw => w_X7_holesBehind_0 hS hv hw s h_s l1 σ (h v hv hw))
