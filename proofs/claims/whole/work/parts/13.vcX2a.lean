def vc_X2_copyFrom_0 (S : Sp) (Φ : Rs) (v : Kt) (p : Nat) (q : Nat) (σ : St) : Prop := (¬ (0 : Int32) < 0 ∧ ¬ (0 : Int32) < 0 ∧ ¬ (Int32.ofNat 180 : Int32) < 0 ∧ (0 : Int32).toNatClampNeg + (Int32.ofNat 180 : Int32).toNatClampNeg ≤ 180 ∧ (0 : Int32).toNatClampNeg + (Int32.ofNat 180 : Int32).toNatClampNeg ≤ 180) ∧ (∀ σ1 : St, σ1 = cpI σ (q + 1) (p + 1) (0 : Int32).toNatClampNeg (0 : Int32).toNatClampNeg (Int32.ofNat 180 : Int32).toNatClampNeg → ((¬ (0 : Int32) < 0 ∧ ¬ (0 : Int32) < 0 ∧ ¬ (Int32.ofNat 120 : Int32) < 0 ∧ (0 : Int32).toNatClampNeg + (Int32.ofNat 120 : Int32).toNatClampNeg ≤ 120 ∧ (0 : Int32).toNatClampNeg + (Int32.ofNat 120 : Int32).toNatClampNeg ≤ 120) ∧ (∀ σ2 : St, σ2 = cpI σ1 (q + 2) (p + 2) (0 : Int32).toNatClampNeg (0 : Int32).toNatClampNeg (Int32.ofNat 120 : Int32).toNatClampNeg → ((¬ (0 : Int32) < 0 ∧ ¬ (0 : Int32) < 0 ∧ ¬ (3 : Int32) < 0 ∧ (0 : Int32).toNatClampNeg + (3 : Int32).toNatClampNeg ≤ 3 ∧ (0 : Int32).toNatClampNeg + (3 : Int32).toNatClampNeg ≤ 3) ∧ (∀ σ3 : St, σ3 = cpI σ2 (q + 3) (p + 3) (0 : Int32).toNatClampNeg (0 : Int32).toNatClampNeg (3 : Int32).toNatClampNeg → (∀ σ4 : St, σ4 = upI σ3 p 3 (σ3.1 q 3) → (∀ σ5 : St, σ5 = upI σ4 p 4 (σ4.1 q 4) → (∀ σ6 : St, σ6 = upI σ5 p 5 (σ5.1 q 5) → (Φ [] σ6)))))))))
theorem w_X2_copyFrom_0 {S : Sp} (hS : Sys S) {Φ : Rs} {v : Kt} (hv : Cl S Φ k_X2_copyFrom v) (hw : Wk v) (p : Nat) (q : Nat) (h_p : isPat p) (h_q : isPat q) (σ : St) (h : vc_X2_copyFrom_0 S Φ v p q σ) : v 0 [some (aR p), some (aR q)] [] σ := by
  unfold vc_X2_copyFrom_0 at h
  refine r_aload_n (pc := 0) hv 0 rfl rfl ?_
  refine r_getR (pc := 1) (b := q + 1) hv 1 rfl rfl (isPat_oc h_q) (isPat_c0 h_q) ?_
  refine r_iconst (pc := 4) hv 2 rfl  ?_
  refine r_aload_n (pc := 5) hv 3 rfl rfl ?_
  refine r_getR (pc := 6) (b := p + 1) hv 4 rfl rfl (isPat_oc h_p) (isPat_c0 h_p) ?_
  refine r_iconst (pc := 9) hv 5 rfl  ?_
  refine r_aload_n (pc := 10) hv 6 rfl rfl ?_
  refine r_getR (pc := 11) (b := p + 1) hv 7 rfl rfl (isPat_oc h_p) (isPat_c0 h_p) ?_
  refine r_alen (pc := 14) (N := 180) hv 8 rfl (by rw [(isPat_t1 h_p)]; decide) (isPat_l1 h_p) ?_
  refine r_copyI (pc := 15) hv 9 rfl rfl (isPat_t1 h_q) (isPat_t1 h_p) (isPat_l1 h_q) (isPat_l1 h_p) trivial h.1.1 h.1.2.1 h.1.2.2.1 h.1.2.2.2.1 h.1.2.2.2.2 ?_
  replace h := h.2
  obtain ⟨σ1, e_σ1⟩ : ∃ y : St, y = cpI σ (q + 1) (p + 1) (0 : Int32).toNatClampNeg (0 : Int32).toNatClampNeg (Int32.ofNat 180 : Int32).toNatClampNeg := ⟨_, rfl⟩
  rw [← e_σ1]
  replace h := h σ1 e_σ1
  refine r_aload_n (pc := 18) hv 10 rfl rfl ?_
  refine r_getR (pc := 19) (b := q + 2) hv 11 rfl rfl (isPat_oc h_q) (isPat_c1 h_q) ?_
  refine r_iconst (pc := 22) hv 12 rfl  ?_
  refine r_aload_n (pc := 23) hv 13 rfl rfl ?_
  refine r_getR (pc := 24) (b := p + 2) hv 14 rfl rfl (isPat_oc h_p) (isPat_c1 h_p) ?_
  refine r_iconst (pc := 27) hv 15 rfl  ?_
  refine r_aload_n (pc := 28) hv 16 rfl rfl ?_
  refine r_getR (pc := 29) (b := p + 2) hv 17 rfl rfl (isPat_oc h_p) (isPat_c1 h_p) ?_
  refine r_alen (pc := 32) (N := 120) hv 18 rfl (by rw [(isPat_t2 h_p)]; decide) (isPat_l2 h_p) ?_
  refine r_copyI (pc := 33) hv 19 rfl rfl (isPat_t2 h_q) (isPat_t2 h_p) (isPat_l2 h_q) (isPat_l2 h_p) trivial h.1.1 h.1.2.1 h.1.2.2.1 h.1.2.2.2.1 h.1.2.2.2.2 ?_
  replace h := h.2
  obtain ⟨σ2, e_σ2⟩ : ∃ y : St, y = cpI σ1 (q + 2) (p + 2) (0 : Int32).toNatClampNeg (0 : Int32).toNatClampNeg (Int32.ofNat 120 : Int32).toNatClampNeg := ⟨_, rfl⟩
  rw [← e_σ2]
  replace h := h σ2 e_σ2
  refine r_aload_n (pc := 36) hv 20 rfl rfl ?_
  refine r_getR (pc := 37) (b := q + 3) hv 21 rfl rfl (isPat_oc h_q) (isPat_c2 h_q) ?_
  refine r_iconst (pc := 40) hv 22 rfl  ?_
  refine r_aload_n (pc := 41) hv 23 rfl rfl ?_
  refine r_getR (pc := 42) (b := p + 3) hv 24 rfl rfl (isPat_oc h_p) (isPat_c2 h_p) ?_
  refine r_iconst (pc := 45) hv 25 rfl  ?_
  refine r_iconst (pc := 46) hv 26 rfl  ?_
  refine r_copyI (pc := 47) hv 27 rfl rfl (isPat_t3 h_q) (isPat_t3 h_p) (isPat_l3 h_q) (isPat_l3 h_p) trivial h.1.1 h.1.2.1 h.1.2.2.1 h.1.2.2.2.1 h.1.2.2.2.2 ?_
  replace h := h.2
  obtain ⟨σ3, e_σ3⟩ : ∃ y : St, y = cpI σ2 (q + 3) (p + 3) (0 : Int32).toNatClampNeg (0 : Int32).toNatClampNeg (3 : Int32).toNatClampNeg := ⟨_, rfl⟩
  rw [← e_σ3]
  replace h := h σ3 e_σ3
  refine r_aload_n (pc := 50) hv 28 rfl rfl ?_
  refine r_aload_n (pc := 51) hv 29 rfl rfl ?_
  refine r_getI (pc := 52) hv 30 rfl rfl (isPat_oc h_q) ?_
  refine r_putI (pc := 55) hv 31 rfl rfl (isPat_oc h_p) ?_
  obtain ⟨σ4, e_σ4⟩ : ∃ y : St, y = upI σ3 p 3 (σ3.1 q 3) := ⟨_, rfl⟩
  rw [← e_σ4]
  replace h := h σ4 e_σ4
  refine r_aload_n (pc := 58) hv 32 rfl rfl ?_
  refine r_aload_n (pc := 59) hv 33 rfl rfl ?_
  refine r_getI (pc := 60) hv 34 rfl rfl (isPat_oc h_q) ?_
  refine r_putI (pc := 63) hv 35 rfl rfl (isPat_oc h_p) ?_
  obtain ⟨σ5, e_σ5⟩ : ∃ y : St, y = upI σ4 p 4 (σ4.1 q 4) := ⟨_, rfl⟩
  rw [← e_σ5]
  replace h := h σ5 e_σ5
  refine r_aload_n (pc := 66) hv 36 rfl rfl ?_
  refine r_aload_n (pc := 67) hv 37 rfl rfl ?_
  refine r_getI (pc := 68) hv 38 rfl rfl (isPat_oc h_q) ?_
  refine r_putI (pc := 71) hv 39 rfl rfl (isPat_oc h_p) ?_
  obtain ⟨σ6, e_σ6⟩ : ∃ y : St, y = upI σ5 p 5 (σ5.1 q 5) := ⟨_, rfl⟩
  rw [← e_σ6]
  replace h := h σ6 e_σ6
  exact r_return (pc := 74) hv 40 rfl h
def vc_X2_fits_0 (S : Sp) (Φ : Rs) (v : Kt) (l0 : Int32) (l1 : Int32) (σ : St) : Prop := ((l0 : Int32) < 0 → (Φ [aI 0] σ)) ∧ (¬ ((l0 : Int32) < 0) → (((6 : Int32) < l0 → (Φ [aI 0] σ)) ∧ (¬ ((6 : Int32) < l0) → (vp_in l0 7 ∧ (((l1 : Int32) < (sv 101 (l0 : Int32).toNatClampNeg) → (Φ [aI 0] σ)) ∧ (¬ ((l1 : Int32) < (sv 101 (l0 : Int32).toNatClampNeg)) → (vp_in l0 7 ∧ (((sv 102 (l0 : Int32).toNatClampNeg : Int32) < l1 → (Φ [aI 0] σ)) ∧ (¬ ((sv 102 (l0 : Int32).toNatClampNeg : Int32) < l1) → (Φ [aI 1] σ))))))))))
theorem w_X2_fits_0 {S : Sp} (hS : Sys S) {Φ : Rs} {v : Kt} (hv : Cl S Φ k_X2_fits v) (hw : Wk v) (l0 : Int32) (l1 : Int32) (σ : St) (h : vc_X2_fits_0 S Φ v l0 l1 σ) : v 0 [some (aI l0), some (aI l1)] [] σ := by
  unfold vc_X2_fits_0 at h
  refine r_iload_n (pc := 0) hv 0 rfl rfl ?_
  refine r_if_lt (pc := 1) hv 1 rfl (fun c => ?_) (fun c => ?_)
  · replace h := h.1 c
    refine r_iconst (pc := 32) hv 17 rfl  ?_
    exact r_zreturn (pc := 33) hv 18 rfl rfl (Or.inl rfl) h
  · replace h := h.2 c
    refine r_iload_n (pc := 4) hv 2 rfl rfl ?_
    refine r_bipush (pc := 5) hv 3 rfl  ?_
    refine r_icmp_gt (pc := 7) hv 4 rfl (fun c => ?_) (fun c => ?_)
    · replace h := h.1 c
      refine r_iconst (pc := 32) hv 17 rfl  ?_
      exact r_zreturn (pc := 33) hv 18 rfl rfl (Or.inl rfl) h
    · replace h := h.2 c
      refine r_iload_n (pc := 10) hv 5 rfl rfl ?_
      refine r_gets (pc := 11) hv 6 rfl  ?_
      refine r_iload_n (pc := 14) hv 7 rfl rfl ?_
      refine r_ialoadS (pc := 15) (N := 7) hv 8 rfl rfl rfl (by decide) h.1 ?_
      replace h := h.2
      refine r_icmp_lt (pc := 16) hv 9 rfl (fun c => ?_) (fun c => ?_)
      · replace h := h.1 c
        refine r_iconst (pc := 32) hv 17 rfl  ?_
        exact r_zreturn (pc := 33) hv 18 rfl rfl (Or.inl rfl) h
      · replace h := h.2 c
        refine r_iload_n (pc := 19) hv 10 rfl rfl ?_
        refine r_gets (pc := 20) hv 11 rfl  ?_
        refine r_iload_n (pc := 23) hv 12 rfl rfl ?_
        refine r_ialoadS (pc := 24) (N := 7) hv 13 rfl rfl rfl (by decide) h.1 ?_
        replace h := h.2
        refine r_icmp_gt (pc := 25) hv 14 rfl (fun c => ?_) (fun c => ?_)
        · replace h := h.1 c
          refine r_iconst (pc := 32) hv 17 rfl  ?_
          exact r_zreturn (pc := 33) hv 18 rfl rfl (Or.inl rfl) h
        · replace h := h.2 c
          refine r_iconst (pc := 28) hv 15 rfl  ?_
          refine r_goto (pc := 29) hv 16 rfl  ?_
          exact r_zreturn (pc := 33) hv 18 rfl rfl (Or.inr rfl) h
def vc_X2_isHole_0 (S : Sp) (Φ : Rs) (v : Kt) (p : Nat) (l1 : Int32) (σ : St) : Prop := ((l1 : Int32) < 0 → (Φ [aI 0] σ)) ∧ (¬ ((l1 : Int32) < 0) → (((σ.1 p 3 : Int32) ≤ l1 → (Φ [aI 0] σ)) ∧ (¬ ((σ.1 p 3 : Int32) ≤ l1) → (Φ [aI 1] σ))))
theorem w_X2_isHole_0 {S : Sp} (hS : Sys S) {Φ : Rs} {v : Kt} (hv : Cl S Φ k_X2_isHole v) (hw : Wk v) (p : Nat) (h_p : isPat p) (l1 : Int32) (σ : St) (h : vc_X2_isHole_0 S Φ v p l1 σ) : v 0 [some (aR p), some (aI l1)] [] σ := by
  unfold vc_X2_isHole_0 at h
  refine r_iload_n (pc := 0) hv 0 rfl rfl ?_
  refine r_if_lt (pc := 1) hv 1 rfl (fun c => ?_) (fun c => ?_)
  · replace h := h.1 c
    refine r_iconst (pc := 16) hv 8 rfl  ?_
    exact r_zreturn (pc := 17) hv 9 rfl rfl (Or.inl rfl) h
  · replace h := h.2 c
    refine r_iload_n (pc := 4) hv 2 rfl rfl ?_
    refine r_aload_n (pc := 5) hv 3 rfl rfl ?_
    refine r_getI (pc := 6) hv 4 rfl rfl (isPat_oc h_p) ?_
    refine r_icmp_ge (pc := 9) hv 5 rfl (fun c => ?_) (fun c => ?_)
    · replace h := h.1 c
      refine r_iconst (pc := 16) hv 8 rfl  ?_
      exact r_zreturn (pc := 17) hv 9 rfl rfl (Or.inl rfl) h
    · replace h := h.2 c
      refine r_iconst (pc := 12) hv 6 rfl  ?_
      refine r_goto (pc := 13) hv 7 rfl  ?_
      exact r_zreturn (pc := 17) hv 9 rfl rfl (Or.inr rfl) h
def vc_X2_isWire_0 (S : Sp) (Φ : Rs) (v : Kt) (p : Nat) (l1 : Int32) (σ : St) : Prop := ((l1 : Int32) < 0 → (Φ [aI 0] σ)) ∧ (¬ ((l1 : Int32) < 0) → (((σ.1 p 4 : Int32) ≤ l1 → (Φ [aI 0] σ)) ∧ (¬ ((σ.1 p 4 : Int32) ≤ l1) → (Φ [aI 1] σ))))
theorem w_X2_isWire_0 {S : Sp} (hS : Sys S) {Φ : Rs} {v : Kt} (hv : Cl S Φ k_X2_isWire v) (hw : Wk v) (p : Nat) (h_p : isPat p) (l1 : Int32) (σ : St) (h : vc_X2_isWire_0 S Φ v p l1 σ) : v 0 [some (aR p), some (aI l1)] [] σ := by
  unfold vc_X2_isWire_0 at h
  refine r_iload_n (pc := 0) hv 0 rfl rfl ?_
  refine r_if_lt (pc := 1) hv 1 rfl (fun c => ?_) (fun c => ?_)
  · replace h := h.1 c
    refine r_iconst (pc := 16) hv 8 rfl  ?_
    exact r_zreturn (pc := 17) hv 9 rfl rfl (Or.inl rfl) h
  · replace h := h.2 c
    refine r_iload_n (pc := 4) hv 2 rfl rfl ?_
    refine r_aload_n (pc := 5) hv 3 rfl rfl ?_
    refine r_getI (pc := 6) hv 4 rfl rfl (isPat_oc h_p) ?_
    refine r_icmp_ge (pc := 9) hv 5 rfl (fun c => ?_) (fun c => ?_)
    · replace h := h.1 c
      refine r_iconst (pc := 16) hv 8 rfl  ?_
      exact r_zreturn (pc := 17) hv 9 rfl rfl (Or.inl rfl) h
    · replace h := h.2 c
      refine r_iconst (pc := 12) hv 6 rfl  ?_
      refine r_goto (pc := 13) hv 7 rfl  ?_
      exact r_zreturn (pc := 17) hv 9 rfl rfl (Or.inr rfl) h
def vc_X2_mark_0 (S : Sp) (Φ : Rs) (v : Kt) (p : Nat) (l1 : Int32) (l2 : Int32) (σ : St) : Prop := vp_in ((l1 * 9) + l2) 180 ∧ (Φ [aI (σ.1 (p + 1) ((l1 * 9) + l2 : Int32).toNatClampNeg)] σ)
theorem w_X2_mark_0 {S : Sp} (hS : Sys S) {Φ : Rs} {v : Kt} (hv : Cl S Φ k_X2_mark v) (hw : Wk v) (p : Nat) (h_p : isPat p) (l1 : Int32) (l2 : Int32) (σ : St) (h : vc_X2_mark_0 S Φ v p l1 l2 σ) : v 0 [some (aR p), some (aI l1), some (aI l2)] [] σ := by
  unfold vc_X2_mark_0 at h
  refine r_aload_n (pc := 0) hv 0 rfl rfl ?_
  refine r_getR (pc := 1) (b := p + 1) hv 1 rfl rfl (isPat_oc h_p) (isPat_c0 h_p) ?_
  refine r_iload_n (pc := 4) hv 2 rfl rfl ?_
  refine r_bipush (pc := 5) hv 3 rfl  ?_
  refine r_imul (pc := 7) hv 4 rfl  ?_
  refine r_iload_n (pc := 8) hv 5 rfl rfl ?_
  refine r_iadd (pc := 9) hv 6 rfl  ?_
  refine r_iaload (pc := 10) (N := 180) hv 7 rfl (isPat_t1 h_p) (isPat_l1 h_p) (isPat_lt1 h_p) h.1 ?_
  replace h := h.2
  exact r_ireturn (pc := 11) hv 8 rfl rfl h
def vc_X2_cord_0 (S : Sp) (Φ : Rs) (v : Kt) (p : Nat) (l1 : Int32) (l2 : Int32) (σ : St) : Prop := vp_in ((l1 * 3) + l2) 120 ∧ (Φ [aI (σ.1 (p + 2) ((l1 * 3) + l2 : Int32).toNatClampNeg)] σ)
theorem w_X2_cord_0 {S : Sp} (hS : Sys S) {Φ : Rs} {v : Kt} (hv : Cl S Φ k_X2_cord v) (hw : Wk v) (p : Nat) (h_p : isPat p) (l1 : Int32) (l2 : Int32) (σ : St) (h : vc_X2_cord_0 S Φ v p l1 l2 σ) : v 0 [some (aR p), some (aI l1), some (aI l2)] [] σ := by
  unfold vc_X2_cord_0 at h
  refine r_aload_n (pc := 0) hv 0 rfl rfl ?_
  refine r_getR (pc := 1) (b := p + 2) hv 1 rfl rfl (isPat_oc h_p) (isPat_c1 h_p) ?_
  refine r_iload_n (pc := 4) hv 2 rfl rfl ?_
  refine r_iconst (pc := 5) hv 3 rfl  ?_
  refine r_imul (pc := 6) hv 4 rfl  ?_
  refine r_iload_n (pc := 7) hv 5 rfl rfl ?_
  refine r_iadd (pc := 8) hv 6 rfl  ?_
  refine r_iaload (pc := 9) (N := 120) hv 7 rfl (isPat_t2 h_p) (isPat_l2 h_p) (isPat_lt2 h_p) h.1 ?_
  replace h := h.2
  exact r_ireturn (pc := 10) hv 8 rfl rfl h
def vc_X2_addHole_0 (S : Sp) (Φ : Rs) (v : Kt) (p : Nat) (l1 : Int32) (l2 : Int32) (l3 : Int32) (l4 : Int32) (l5 : Int32) (l6 : Int32) (σ : St) : Prop := S 24 [aI 0, aI l1] σ (fun r σ1 => ∃ x2 : Int32, r = [aI x2] ∧ (((x2 : Int32) = 0 → (Φ [aI (-2)] σ1)) ∧ (¬ ((x2 : Int32) = 0) → (S 24 [aI 1, aI l2] σ1 (fun r σ3 => ∃ x4 : Int32, r = [aI x4] ∧ (((x4 : Int32) = 0 → (Φ [aI (-2)] σ3)) ∧ (¬ ((x4 : Int32) = 0) → (S 24 [aI 2, aI l3] σ3 (fun r σ5 => ∃ x6 : Int32, r = [aI x6] ∧ ((¬ (x6 : Int32) = 0 → (S 24 [aI 3, aI l4] σ5 (fun r σ7 => ∃ x8 : Int32, r = [aI x8] ∧ (((x8 : Int32) = 0 → (Φ [aI (-2)] σ7)) ∧ (¬ ((x8 : Int32) = 0) → (S 24 [aI 4, aI l5] σ7 (fun r σ9 => ∃ x10 : Int32, r = [aI x10] ∧ (((x10 : Int32) = 0 → (Φ [aI (-2)] σ9)) ∧ (¬ ((x10 : Int32) = 0) → (S 24 [aI 5, aI l6] σ9 (fun r σ11 => ∃ x12 : Int32, r = [aI x12] ∧ ((¬ (x12 : Int32) = 0 → (S 37 [aR p, aI l1, aI l2] σ11 (fun r σ13 => ∃ x14 : Int32, r = [aI x14] ∧ (((x14 : Int32) = (-1) → (((σ13.1 p 3 : Int32) < 20 → (vp_in (((σ13.1 p 3) * 9) + 0) 180 ∧ (∀ σ15 : St, σ15 = upI σ13 (p + 1) (((σ13.1 p 3) * 9) + 0 : Int32).toNatClampNeg l1 → (vp_in (((σ13.1 p 3) * 9) + 1) 180 ∧ (∀ σ16 : St, σ16 = upI σ15 (p + 1) (((σ13.1 p 3) * 9) + 1 : Int32).toNatClampNeg l2 → (vp_in (((σ13.1 p 3) * 9) + 2) 180 ∧ (∀ σ17 : St, σ17 = upI σ16 (p + 1) (((σ13.1 p 3) * 9) + 2 : Int32).toNatClampNeg l3 → (vp_in (((σ13.1 p 3) * 9) + 3) 180 ∧ (∀ σ18 : St, σ18 = upI σ17 (p + 1) (((σ13.1 p 3) * 9) + 3 : Int32).toNatClampNeg l4 → (vp_in (((σ13.1 p 3) * 9) + 4) 180 ∧ (∀ σ19 : St, σ19 = upI σ18 (p + 1) (((σ13.1 p 3) * 9) + 4 : Int32).toNatClampNeg l5 → (vp_in (((σ13.1 p 3) * 9) + 5) 180 ∧ (∀ σ20 : St, σ20 = upI σ19 (p + 1) (((σ13.1 p 3) * 9) + 5 : Int32).toNatClampNeg l6 → (vp_in (((σ13.1 p 3) * 9) + 6) 180 ∧ (∀ σ21 : St, σ21 = upI σ20 (p + 1) (((σ13.1 p 3) * 9) + 6 : Int32).toNatClampNeg 0 → (S 21 [aI l1, aI l3, aI l5] σ21 (fun r σ22 => ∃ x23 : Int32, r = [aI x23] ∧ (vp_in (((σ13.1 p 3) * 9) + 7) 180 ∧ (∀ σ24 : St, σ24 = upI σ22 (p + 1) (((σ13.1 p 3) * 9) + 7 : Int32).toNatClampNeg x23 → (vp_in (((σ13.1 p 3) * 9) + 8) 180 ∧ (∀ σ25 : St, σ25 = upI σ24 (p + 1) (((σ13.1 p 3) * 9) + 8 : Int32).toNatClampNeg 0 → (S 30 [aR p, aI (σ25.1 p 3)] σ25 (fun r σ26 => r = [] ∧ (∀ σ27 : St, σ27 = upI σ26 p 3 ((σ26.1 p 3) + 1) → (Φ [aI ((σ27.1 p 3) - 1)] σ27))))))))))))))))))))))))) ∧ (¬ ((σ13.1 p 3 : Int32) < 20) → (Φ [aI (-4)] σ13)))) ∧ (¬ ((x14 : Int32) = (-1)) → (Φ [aI (-3)] σ13)))))) ∧ ((x12 : Int32) = 0 → (Φ [aI (-2)] σ11)))))))))))))) ∧ ((x6 : Int32) = 0 → (Φ [aI (-2)] σ5))))))))))))
theorem w_X2_addHole_0 {S : Sp} (hS : Sys S) {Φ : Rs} {v : Kt} (hv : Cl S Φ k_X2_addHole v) (hw : Wk v) (p : Nat) (h_p : isPat p) (l1 : Int32) (l2 : Int32) (l3 : Int32) (l4 : Int32) (l5 : Int32) (l6 : Int32) (σ : St) (h : vc_X2_addHole_0 S Φ v p l1 l2 l3 l4 l5 l6 σ) : v 0 [some (aR p), some (aI l1), some (aI l2), some (aI l3), some (aI l4), some (aI l5), some (aI l6), none] [] σ := by
  unfold vc_X2_addHole_0 at h
  refine r_iconst (pc := 0) hv 0 rfl  ?_
  refine r_iload_n (pc := 1) hv 1 rfl rfl ?_
  refine r_callS (pc := 2) (l := [aI l1, aI 0]) (av := [aI 0, aI l1]) (t := []) hv 2 rfl (Or.inl rfl) rfl rfl rfl trivial (hS.1 _ _ _ _ _ (fun r σ1 h => ?_) h)
  obtain ⟨x2, rfl, h⟩ := h
  show v 5 [some (aR p), some (aI l1), some (aI l2), some (aI l3), some (aI l4), some (aI l5), some (aI l6), none] [aI x2] σ1
  refine r_if_eq (pc := 5) hv 3 rfl (fun c => ?_) (fun c => ?_)
  · replace h := h.1 c
    refine r_bipush (pc := 24) hv 12 rfl  ?_
    exact r_ireturn (pc := 26) hv 13 rfl rfl h
  · replace h := h.2 c
    refine r_iconst (pc := 8) hv 4 rfl  ?_
    refine r_iload_n (pc := 9) hv 5 rfl rfl ?_
    refine r_callS (pc := 10) (l := [aI l2, aI 1]) (av := [aI 1, aI l2]) (t := []) hv 6 rfl (Or.inl rfl) rfl rfl rfl trivial (hS.1 _ _ _ _ _ (fun r σ3 h => ?_) h)
    obtain ⟨x4, rfl, h⟩ := h
    show v 13 [some (aR p), some (aI l1), some (aI l2), some (aI l3), some (aI l4), some (aI l5), some (aI l6), none] [aI x4] σ3
    refine r_if_eq (pc := 13) hv 7 rfl (fun c => ?_) (fun c => ?_)
    · replace h := h.1 c
      refine r_bipush (pc := 24) hv 12 rfl  ?_
      exact r_ireturn (pc := 26) hv 13 rfl rfl h
    · replace h := h.2 c
      refine r_iconst (pc := 16) hv 8 rfl  ?_
      refine r_iload_n (pc := 17) hv 9 rfl rfl ?_
      refine r_callS (pc := 18) (l := [aI l3, aI 2]) (av := [aI 2, aI l3]) (t := []) hv 10 rfl (Or.inl rfl) rfl rfl rfl trivial (hS.1 _ _ _ _ _ (fun r σ5 h => ?_) h)
      obtain ⟨x6, rfl, h⟩ := h
      show v 21 [some (aR p), some (aI l1), some (aI l2), some (aI l3), some (aI l4), some (aI l5), some (aI l6), none] [aI x6] σ5
      refine r_if_ne (pc := 21) hv 11 rfl (fun c => ?_) (fun c => ?_)
      · replace h := h.1 c
        refine r_iconst (pc := 27) hv 14 rfl  ?_
        refine r_iload (pc := 28) hv 15 rfl rfl ?_
        refine r_callS (pc := 30) (l := [aI l4, aI 3]) (av := [aI 3, aI l4]) (t := []) hv 16 rfl (Or.inl rfl) rfl rfl rfl trivial (hS.1 _ _ _ _ _ (fun r σ7 h => ?_) h)
        obtain ⟨x8, rfl, h⟩ := h
        show v 33 [some (aR p), some (aI l1), some (aI l2), some (aI l3), some (aI l4), some (aI l5), some (aI l6), none] [aI x8] σ7
        refine r_if_eq (pc := 33) hv 17 rfl (fun c => ?_) (fun c => ?_)
        · replace h := h.1 c
          refine r_bipush (pc := 54) hv 26 rfl  ?_
          exact r_ireturn (pc := 56) hv 27 rfl rfl h
        · replace h := h.2 c
          refine r_iconst (pc := 36) hv 18 rfl  ?_
          refine r_iload (pc := 37) hv 19 rfl rfl ?_
          refine r_callS (pc := 39) (l := [aI l5, aI 4]) (av := [aI 4, aI l5]) (t := []) hv 20 rfl (Or.inl rfl) rfl rfl rfl trivial (hS.1 _ _ _ _ _ (fun r σ9 h => ?_) h)
          obtain ⟨x10, rfl, h⟩ := h
          show v 42 [some (aR p), some (aI l1), some (aI l2), some (aI l3), some (aI l4), some (aI l5), some (aI l6), none] [aI x10] σ9
          refine r_if_eq (pc := 42) hv 21 rfl (fun c => ?_) (fun c => ?_)
          · replace h := h.1 c
            refine r_bipush (pc := 54) hv 26 rfl  ?_
            exact r_ireturn (pc := 56) hv 27 rfl rfl h
          · replace h := h.2 c
            refine r_iconst (pc := 45) hv 22 rfl  ?_
            refine r_iload (pc := 46) hv 23 rfl rfl ?_
            refine r_callS (pc := 48) (l := [aI l6, aI 5]) (av := [aI 5, aI l6]) (t := []) hv 24 rfl (Or.inl rfl) rfl rfl rfl trivial (hS.1 _ _ _ _ _ (fun r σ11 h => ?_) h)
            obtain ⟨x12, rfl, h⟩ := h
            show v 51 [some (aR p), some (aI l1), some (aI l2), some (aI l3), some (aI l4), some (aI l5), some (aI l6), none] [aI x12] σ11
            refine r_if_ne (pc := 51) hv 25 rfl (fun c => ?_) (fun c => ?_)
            · replace h := h.1 c
              refine r_aload_n (pc := 57) hv 28 rfl rfl ?_
              refine r_iload_n (pc := 58) hv 29 rfl rfl ?_
              refine r_iload_n (pc := 59) hv 30 rfl rfl ?_
              refine r_callV (pc := 60) (l := [aI l2, aI l1]) (av := [aI l1, aI l2]) (a := p) (t := []) hv 31 rfl rfl rfl rfl (rcv_o (by decide) (isPat_oc h_p)) trivial (hS.1 _ _ _ _ _ (fun r σ13 h => ?_) h)
              obtain ⟨x14, rfl, h⟩ := h
              show v 63 [some (aR p), some (aI l1), some (aI l2), some (aI l3), some (aI l4), some (aI l5), some (aI l6), none] [aI x14] σ13
              refine r_iconst (pc := 63) hv 32 rfl  ?_
              refine r_icmp_eq (pc := 64) hv 33 rfl (fun c => ?_) (fun c => ?_)
              · replace h := h.1 c
                refine r_aload_n (pc := 70) hv 36 rfl rfl ?_
                refine r_getI (pc := 71) hv 37 rfl rfl (isPat_oc h_p) ?_
                refine r_bipush (pc := 74) hv 38 rfl  ?_
                refine r_icmp_lt (pc := 76) hv 39 rfl (fun c => ?_) (fun c => ?_)
                · replace h := h.1 c
                  refine r_aload_n (pc := 82) hv 42 rfl rfl ?_
                  refine r_getI (pc := 83) hv 43 rfl rfl (isPat_oc h_p) ?_
                  refine r_bipush (pc := 86) hv 44 rfl  ?_
                  refine r_imul (pc := 88) hv 45 rfl  ?_
                  refine r_istore (pc := 89) (lo' := [some (aR p), some (aI l1), some (aI l2), some (aI l3), some (aI l4), some (aI l5), some (aI l6), some (aI ((σ13.1 p 3) * 9))]) hv 46 rfl rfl ?_
                  refine r_aload_n (pc := 91) hv 47 rfl rfl ?_
                  refine r_getR (pc := 92) (b := p + 1) hv 48 rfl rfl (isPat_oc h_p) (isPat_c0 h_p) ?_
                  refine r_iload (pc := 95) hv 49 rfl rfl ?_
                  refine r_iconst (pc := 97) hv 50 rfl  ?_
                  refine r_iadd (pc := 98) hv 51 rfl  ?_
                  refine r_iload_n (pc := 99) hv 52 rfl rfl ?_
                  refine r_iastore (pc := 100) (N := 180) hv 53 rfl (isPat_t1 h_p) (isPat_l1 h_p) h.1 ?_
                  replace h := h.2
                  obtain ⟨σ15, e_σ15⟩ : ∃ y : St, y = upI σ13 (p + 1) (((σ13.1 p 3) * 9) + 0 : Int32).toNatClampNeg l1 := ⟨_, rfl⟩
                  rw [← e_σ15]
                  replace h := h σ15 e_σ15
                  refine r_aload_n (pc := 101) hv 54 rfl rfl ?_
                  refine r_getR (pc := 102) (b := p + 1) hv 55 rfl rfl (isPat_oc h_p) (isPat_c0 h_p) ?_
                  refine r_iload (pc := 105) hv 56 rfl rfl ?_
                  refine r_iconst (pc := 107) hv 57 rfl  ?_
                  refine r_iadd (pc := 108) hv 58 rfl  ?_
                  refine r_iload_n (pc := 109) hv 59 rfl rfl ?_
                  refine r_iastore (pc := 110) (N := 180) hv 60 rfl (isPat_t1 h_p) (isPat_l1 h_p) h.1 ?_
                  replace h := h.2
                  obtain ⟨σ16, e_σ16⟩ : ∃ y : St, y = upI σ15 (p + 1) (((σ13.1 p 3) * 9) + 1 : Int32).toNatClampNeg l2 := ⟨_, rfl⟩
                  rw [← e_σ16]
                  replace h := h σ16 e_σ16
                  refine r_aload_n (pc := 111) hv 61 rfl rfl ?_
                  refine r_getR (pc := 112) (b := p + 1) hv 62 rfl rfl (isPat_oc h_p) (isPat_c0 h_p) ?_
                  refine r_iload (pc := 115) hv 63 rfl rfl ?_
                  refine r_iconst (pc := 117) hv 64 rfl  ?_
                  refine r_iadd (pc := 118) hv 65 rfl  ?_
                  refine r_iload_n (pc := 119) hv 66 rfl rfl ?_
                  refine r_iastore (pc := 120) (N := 180) hv 67 rfl (isPat_t1 h_p) (isPat_l1 h_p) h.1 ?_
                  replace h := h.2
                  obtain ⟨σ17, e_σ17⟩ : ∃ y : St, y = upI σ16 (p + 1) (((σ13.1 p 3) * 9) + 2 : Int32).toNatClampNeg l3 := ⟨_, rfl⟩
                  rw [← e_σ17]
                  replace h := h σ17 e_σ17
                  refine r_aload_n (pc := 121) hv 68 rfl rfl ?_
                  refine r_getR (pc := 122) (b := p + 1) hv 69 rfl rfl (isPat_oc h_p) (isPat_c0 h_p) ?_
                  refine r_iload (pc := 125) hv 70 rfl rfl ?_
                  refine r_iconst (pc := 127) hv 71 rfl  ?_
                  refine r_iadd (pc := 128) hv 72 rfl  ?_
                  refine r_iload (pc := 129) hv 73 rfl rfl ?_
                  refine r_iastore (pc := 131) (N := 180) hv 74 rfl (isPat_t1 h_p) (isPat_l1 h_p) h.1 ?_
                  replace h := h.2
                  obtain ⟨σ18, e_σ18⟩ : ∃ y : St, y = upI σ17 (p + 1) (((σ13.1 p 3) * 9) + 3 : Int32).toNatClampNeg l4 := ⟨_, rfl⟩
                  rw [← e_σ18]
                  replace h := h σ18 e_σ18
                  refine r_aload_n (pc := 132) hv 75 rfl rfl ?_
                  refine r_getR (pc := 133) (b := p + 1) hv 76 rfl rfl (isPat_oc h_p) (isPat_c0 h_p) ?_
                  refine r_iload (pc := 136) hv 77 rfl rfl ?_
                  refine r_iconst (pc := 138) hv 78 rfl  ?_
                  refine r_iadd (pc := 139) hv 79 rfl  ?_
                  refine r_iload (pc := 140) hv 80 rfl rfl ?_
                  refine r_iastore (pc := 142) (N := 180) hv 81 rfl (isPat_t1 h_p) (isPat_l1 h_p) h.1 ?_
                  replace h := h.2
                  obtain ⟨σ19, e_σ19⟩ : ∃ y : St, y = upI σ18 (p + 1) (((σ13.1 p 3) * 9) + 4 : Int32).toNatClampNeg l5 := ⟨_, rfl⟩
                  rw [← e_σ19]
                  replace h := h σ19 e_σ19
                  refine r_aload_n (pc := 143) hv 82 rfl rfl ?_
                  refine r_getR (pc := 144) (b := p + 1) hv 83 rfl rfl (isPat_oc h_p) (isPat_c0 h_p) ?_
                  refine r_iload (pc := 147) hv 84 rfl rfl ?_
                  refine r_iconst (pc := 149) hv 85 rfl  ?_
                  refine r_iadd (pc := 150) hv 86 rfl  ?_
                  refine r_iload (pc := 151) hv 87 rfl rfl ?_
                  refine r_iastore (pc := 153) (N := 180) hv 88 rfl (isPat_t1 h_p) (isPat_l1 h_p) h.1 ?_
                  replace h := h.2
                  obtain ⟨σ20, e_σ20⟩ : ∃ y : St, y = upI σ19 (p + 1) (((σ13.1 p 3) * 9) + 5 : Int32).toNatClampNeg l6 := ⟨_, rfl⟩
                  rw [← e_σ20]
                  replace h := h σ20 e_σ20
                  refine r_aload_n (pc := 154) hv 89 rfl rfl ?_
                  refine r_getR (pc := 155) (b := p + 1) hv 90 rfl rfl (isPat_oc h_p) (isPat_c0 h_p) ?_
                  refine r_iload (pc := 158) hv 91 rfl rfl ?_
                  refine r_bipush (pc := 160) hv 92 rfl  ?_
                  refine r_iadd (pc := 162) hv 93 rfl  ?_
                  refine r_iconst (pc := 163) hv 94 rfl  ?_
                  refine r_iastore (pc := 164) (N := 180) hv 95 rfl (isPat_t1 h_p) (isPat_l1 h_p) h.1 ?_
                  replace h := h.2
                  obtain ⟨σ21, e_σ21⟩ : ∃ y : St, y = upI σ20 (p + 1) (((σ13.1 p 3) * 9) + 6 : Int32).toNatClampNeg 0 := ⟨_, rfl⟩
                  rw [← e_σ21]
                  replace h := h σ21 e_σ21
                  refine r_aload_n (pc := 165) hv 96 rfl rfl ?_
                  refine r_getR (pc := 166) (b := p + 1) hv 97 rfl rfl (isPat_oc h_p) (isPat_c0 h_p) ?_
                  refine r_iload (pc := 169) hv 98 rfl rfl ?_
                  refine r_bipush (pc := 171) hv 99 rfl  ?_
                  refine r_iadd (pc := 173) hv 100 rfl  ?_
                  refine r_iload_n (pc := 174) hv 101 rfl rfl ?_
                  refine r_iload_n (pc := 175) hv 102 rfl rfl ?_
                  refine r_iload (pc := 176) hv 103 rfl rfl ?_
                  refine r_callS (pc := 178) (l := [aI l5, aI l3, aI l1]) (av := [aI l1, aI l3, aI l5]) (t := [aI (((σ13.1 p 3) * 9) + 7), aR (p + 1)]) hv 104 rfl (Or.inl rfl) rfl rfl rfl trivial (hS.1 _ _ _ _ _ (fun r σ22 h => ?_) h)
                  obtain ⟨x23, rfl, h⟩ := h
                  show v 181 [some (aR p), some (aI l1), some (aI l2), some (aI l3), some (aI l4), some (aI l5), some (aI l6), some (aI ((σ13.1 p 3) * 9))] [aI x23, aI (((σ13.1 p 3) * 9) + 7), aR (p + 1)] σ22
                  refine r_iastore (pc := 181) (N := 180) hv 105 rfl (isPat_t1 h_p) (isPat_l1 h_p) h.1 ?_
                  replace h := h.2
                  obtain ⟨σ24, e_σ24⟩ : ∃ y : St, y = upI σ22 (p + 1) (((σ13.1 p 3) * 9) + 7 : Int32).toNatClampNeg x23 := ⟨_, rfl⟩
                  rw [← e_σ24]
                  replace h := h σ24 e_σ24
                  refine r_aload_n (pc := 182) hv 106 rfl rfl ?_
                  refine r_getR (pc := 183) (b := p + 1) hv 107 rfl rfl (isPat_oc h_p) (isPat_c0 h_p) ?_
                  refine r_iload (pc := 186) hv 108 rfl rfl ?_
                  refine r_bipush (pc := 188) hv 109 rfl  ?_
                  refine r_iadd (pc := 190) hv 110 rfl  ?_
                  refine r_iconst (pc := 191) hv 111 rfl  ?_
                  refine r_iastore (pc := 192) (N := 180) hv 112 rfl (isPat_t1 h_p) (isPat_l1 h_p) h.1 ?_
                  replace h := h.2
                  obtain ⟨σ25, e_σ25⟩ : ∃ y : St, y = upI σ24 (p + 1) (((σ13.1 p 3) * 9) + 8 : Int32).toNatClampNeg 0 := ⟨_, rfl⟩
                  rw [← e_σ25]
                  replace h := h σ25 e_σ25
                  refine r_aload_n (pc := 193) hv 113 rfl rfl ?_
                  refine r_aload_n (pc := 194) hv 114 rfl rfl ?_
                  refine r_getI (pc := 195) hv 115 rfl rfl (isPat_oc h_p) ?_
                  refine r_callV (pc := 198) (l := [aI (σ25.1 p 3)]) (av := [aI (σ25.1 p 3)]) (a := p) (t := []) hv 116 rfl rfl rfl rfl (rcv_o (by decide) (isPat_oc h_p)) trivial (hS.1 _ _ _ _ _ (fun r σ26 h => ?_) h)
                  obtain ⟨rfl, h⟩ := h
                  show v 201 [some (aR p), some (aI l1), some (aI l2), some (aI l3), some (aI l4), some (aI l5), some (aI l6), some (aI ((σ13.1 p 3) * 9))] [] σ26
                  refine r_aload_n (pc := 201) hv 117 rfl rfl ?_
                  refine r_dup (pc := 202) hv 118 rfl trivial ?_
                  refine r_getI (pc := 203) hv 119 rfl rfl (isPat_oc h_p) ?_
                  refine r_iconst (pc := 206) hv 120 rfl  ?_
                  refine r_iadd (pc := 207) hv 121 rfl  ?_
                  refine r_putI (pc := 208) hv 122 rfl rfl (isPat_oc h_p) ?_
                  obtain ⟨σ27, e_σ27⟩ : ∃ y : St, y = upI σ26 p 3 ((σ26.1 p 3) + 1) := ⟨_, rfl⟩
                  rw [← e_σ27]
                  replace h := h σ27 e_σ27
                  refine r_aload_n (pc := 211) hv 123 rfl rfl ?_
                  refine r_getI (pc := 212) hv 124 rfl rfl (isPat_oc h_p) ?_
                  refine r_iconst (pc := 215) hv 125 rfl  ?_
                  refine r_isub (pc := 216) hv 126 rfl  ?_
                  exact r_ireturn (pc := 217) hv 127 rfl rfl h
                · replace h := h.2 c
                  refine r_bipush (pc := 79) hv 40 rfl  ?_
                  exact r_ireturn (pc := 81) hv 41 rfl rfl h
              · replace h := h.2 c
                refine r_bipush (pc := 67) hv 34 rfl  ?_
                exact r_ireturn (pc := 69) hv 35 rfl rfl h
            · replace h := h.2 c
              refine r_bipush (pc := 54) hv 26 rfl  ?_
              exact r_ireturn (pc := 56) hv 27 rfl rfl h
      · replace h := h.2 c
        refine r_bipush (pc := 24) hv 12 rfl  ?_
        exact r_ireturn (pc := 26) hv 13 rfl rfl h
def vc_X2_markAhead_35 (S : Sp) (Φ : Rs) (v : Kt) (p : Nat) (l1 : Int32) (l2 : Int32) (σ : St) : Prop := S 31 [aR p, aI l1, aI l2] σ (fun r σ1 => ∃ x2 : Int32, r = [aI x2] ∧ (((x2 : Int32) = 0 → (v 2 [some (aR p), some (aI l1), some (aI (l2 + 1))] [] σ1)) ∧ (¬ ((x2 : Int32) = 0) → (vp_in ((l2 * 9) + 8) 180 ∧ (S 140 [aI l1] σ1 (fun r σ3 => ∃ x4 : Int32, r = [aI x4] ∧ (vp_in ((l2 * 9) + 8) 180 ∧ (∀ σ5 : St, σ5 = upI σ3 (p + 1) ((l2 * 9) + 8 : Int32).toNatClampNeg ((σ1.1 (p + 1) ((l2 * 9) + 8 : Int32).toNatClampNeg) ||| x4) → (v 2 [some (aR p), some (aI l1), some (aI (l2 + 1))] [] σ5)))))))))
theorem w_X2_markAhead_35 {S : Sp} (hS : Sys S) {Φ : Rs} {v : Kt} (hv : Cl S Φ k_X2_markAhead v) (hw : Wk v) (p : Nat) (h_p : isPat p) (l1 : Int32) (l2 : Int32) (σ : St) (h : vc_X2_markAhead_35 S Φ v p l1 l2 σ) : v 35 [some (aR p), some (aI l1), some (aI l2)] [] σ := by
  unfold vc_X2_markAhead_35 at h
  refine r_aload_n (pc := 35) hv 23 rfl rfl ?_
  refine r_iload_n (pc := 36) hv 24 rfl rfl ?_
  refine r_iload_n (pc := 37) hv 25 rfl rfl ?_
  refine r_callV (pc := 38) (l := [aI l2, aI l1]) (av := [aI l1, aI l2]) (a := p) (t := []) hv 26 rfl rfl rfl rfl (rcv_o (by decide) (isPat_oc h_p)) trivial (hS.1 _ _ _ _ _ (fun r σ1 h => ?_) h)
  obtain ⟨x2, rfl, h⟩ := h
  show v 41 [some (aR p), some (aI l1), some (aI l2)] [aI x2] σ1
  refine r_if_eq (pc := 41) hv 27 rfl (fun c => ?_) (fun c => ?_)
  · replace h := h.1 c
    refine r_iinc (pc := 63) (lo' := [some (aR p), some (aI l1), some (aI (l2 + 1))]) hv 41 rfl rfl rfl ?_
    refine r_goto (pc := 66) hv 42 rfl  ?_
    exact h
  · replace h := h.2 c
    refine r_aload_n (pc := 44) hv 28 rfl rfl ?_
    refine r_getR (pc := 45) (b := p + 1) hv 29 rfl rfl (isPat_oc h_p) (isPat_c0 h_p) ?_
    refine r_iload_n (pc := 48) hv 30 rfl rfl ?_
    refine r_bipush (pc := 49) hv 31 rfl  ?_
    refine r_imul (pc := 51) hv 32 rfl  ?_
    refine r_bipush (pc := 52) hv 33 rfl  ?_
    refine r_iadd (pc := 54) hv 34 rfl  ?_
    refine r_dup2 (pc := 55) hv 35 rfl trivial trivial ?_
    refine r_iaload (pc := 56) (N := 180) hv 36 rfl (isPat_t1 h_p) (isPat_l1 h_p) (isPat_lt1 h_p) h.1 ?_
    replace h := h.2
    refine r_iload_n (pc := 57) hv 37 rfl rfl ?_
    refine r_callS (pc := 58) (l := [aI l1]) (av := [aI l1]) (t := [aI (σ1.1 (p + 1) ((l2 * 9) + 8 : Int32).toNatClampNeg), aI ((l2 * 9) + 8), aR (p + 1)]) hv 38 rfl (Or.inr rfl) rfl rfl rfl trivial (hS.1 _ _ _ _ _ (fun r σ3 h => ?_) h)
    obtain ⟨x4, rfl, h⟩ := h
    show v 61 [some (aR p), some (aI l1), some (aI l2)] [aI x4, aI (σ1.1 (p + 1) ((l2 * 9) + 8 : Int32).toNatClampNeg), aI ((l2 * 9) + 8), aR (p + 1)] σ3
    refine r_ior (pc := 61) hv 39 rfl  ?_
    refine r_iastore (pc := 62) (N := 180) hv 40 rfl (isPat_t1 h_p) (isPat_l1 h_p) h.1 ?_
    replace h := h.2
    obtain ⟨σ5, e_σ5⟩ : ∃ y : St, y = upI σ3 (p + 1) ((l2 * 9) + 8 : Int32).toNatClampNeg ((σ1.1 (p + 1) ((l2 * 9) + 8 : Int32).toNatClampNeg) ||| x4) := ⟨_, rfl⟩
    rw [← e_σ5]
    replace h := h σ5 e_σ5
    refine r_iinc (pc := 63) (lo' := [some (aR p), some (aI l1), some (aI (l2 + 1))]) hv 41 rfl rfl rfl ?_
    refine r_goto (pc := 66) hv 42 rfl  ?_
    exact h
def vc_X2_markAhead_2 (S : Sp) (Φ : Rs) (v : Kt) (p : Nat) (l1 : Int32) (l2 : Int32) (σ : St) : Prop := ((l1 : Int32) ≤ l2 → (Φ [] σ)) ∧ (¬ ((l1 : Int32) ≤ l2) → (S 31 [aR p, aI l2, aI l1] σ (fun r σ1 => ∃ x2 : Int32, r = [aI x2] ∧ (((x2 : Int32) = 0 → (vc_X2_markAhead_35 S Φ v p l1 l2 σ1)) ∧ (¬ ((x2 : Int32) = 0) → (vp_in ((l1 * 9) + 8) 180 ∧ (S 140 [aI l2] σ1 (fun r σ3 => ∃ x4 : Int32, r = [aI x4] ∧ (vp_in ((l1 * 9) + 8) 180 ∧ (∀ σ5 : St, σ5 = upI σ3 (p + 1) ((l1 * 9) + 8 : Int32).toNatClampNeg ((σ1.1 (p + 1) ((l1 * 9) + 8 : Int32).toNatClampNeg) ||| x4) → (vc_X2_markAhead_35 S Φ v p l1 l2 σ5)))))))))))
theorem w_X2_markAhead_2 {S : Sp} (hS : Sys S) {Φ : Rs} {v : Kt} (hv : Cl S Φ k_X2_markAhead v) (hw : Wk v) (p : Nat) (h_p : isPat p) (l1 : Int32) (l2 : Int32) (σ : St) (h : vc_X2_markAhead_2 S Φ v p l1 l2 σ) : v 2 [some (aR p), some (aI l1), some (aI l2)] [] σ := by
  unfold vc_X2_markAhead_2 at h
  refine r_iload_n (pc := 2) hv 2 rfl rfl ?_
  refine r_iload_n (pc := 3) hv 3 rfl rfl ?_
  refine r_icmp_ge (pc := 4) hv 4 rfl (fun c => ?_) (fun c => ?_)
  · replace h := h.1 c
    exact r_return (pc := 69) hv 43 rfl h
  · replace h := h.2 c
    refine r_aload_n (pc := 7) hv 5 rfl rfl ?_
    refine r_iload_n (pc := 8) hv 6 rfl rfl ?_
    refine r_iload_n (pc := 9) hv 7 rfl rfl ?_
    refine r_callV (pc := 10) (l := [aI l1, aI l2]) (av := [aI l2, aI l1]) (a := p) (t := []) hv 8 rfl rfl rfl rfl (rcv_o (by decide) (isPat_oc h_p)) trivial (hS.1 _ _ _ _ _ (fun r σ1 h => ?_) h)
    obtain ⟨x2, rfl, h⟩ := h
    show v 13 [some (aR p), some (aI l1), some (aI l2)] [aI x2] σ1
    refine r_if_eq (pc := 13) hv 9 rfl (fun c => ?_) (fun c => ?_)
    · replace h := h.1 c
      exact (w_X2_markAhead_35 hS hv hw p h_p l1 l2  σ1 h)
    · replace h := h.2 c
      refine r_aload_n (pc := 16) hv 10 rfl rfl ?_
      refine r_getR (pc := 17) (b := p + 1) hv 11 rfl rfl (isPat_oc h_p) (isPat_c0 h_p) ?_
      refine r_iload_n (pc := 20) hv 12 rfl rfl ?_
      refine r_bipush (pc := 21) hv 13 rfl  ?_
      refine r_imul (pc := 23) hv 14 rfl  ?_
      refine r_bipush (pc := 24) hv 15 rfl  ?_
      refine r_iadd (pc := 26) hv 16 rfl  ?_
      refine r_dup2 (pc := 27) hv 17 rfl trivial trivial ?_
      refine r_iaload (pc := 28) (N := 180) hv 18 rfl (isPat_t1 h_p) (isPat_l1 h_p) (isPat_lt1 h_p) h.1 ?_
      replace h := h.2
      refine r_iload_n (pc := 29) hv 19 rfl rfl ?_
      refine r_callS (pc := 30) (l := [aI l2]) (av := [aI l2]) (t := [aI (σ1.1 (p + 1) ((l1 * 9) + 8 : Int32).toNatClampNeg), aI ((l1 * 9) + 8), aR (p + 1)]) hv 20 rfl (Or.inr rfl) rfl rfl rfl trivial (hS.1 _ _ _ _ _ (fun r σ3 h => ?_) h)
      obtain ⟨x4, rfl, h⟩ := h
      show v 33 [some (aR p), some (aI l1), some (aI l2)] [aI x4, aI (σ1.1 (p + 1) ((l1 * 9) + 8 : Int32).toNatClampNeg), aI ((l1 * 9) + 8), aR (p + 1)] σ3
      refine r_ior (pc := 33) hv 21 rfl  ?_
      refine r_iastore (pc := 34) (N := 180) hv 22 rfl (isPat_t1 h_p) (isPat_l1 h_p) h.1 ?_
      replace h := h.2
      obtain ⟨σ5, e_σ5⟩ : ∃ y : St, y = upI σ3 (p + 1) ((l1 * 9) + 8 : Int32).toNatClampNeg ((σ1.1 (p + 1) ((l1 * 9) + 8 : Int32).toNatClampNeg) ||| x4) := ⟨_, rfl⟩
      rw [← e_σ5]
      replace h := h σ5 e_σ5
      exact (w_X2_markAhead_35 hS hv hw p h_p l1 l2  σ5 h)
def vc_X2_markAhead_0 (S : Sp) (Φ : Rs) (v : Kt) (p : Nat) (l1 : Int32) (σ : St) : Prop := v 2 [some (aR p), some (aI l1), some (aI 0)] [] σ
theorem w_X2_markAhead_0 {S : Sp} (hS : Sys S) {Φ : Rs} {v : Kt} (hv : Cl S Φ k_X2_markAhead v) (hw : Wk v) (p : Nat) (h_p : isPat p) (l1 : Int32) (σ : St) (h : vc_X2_markAhead_0 S Φ v p l1 σ) : v 0 [some (aR p), some (aI l1), none] [] σ := by
  unfold vc_X2_markAhead_0 at h
  refine r_iconst (pc := 0) hv 0 rfl  ?_
  refine r_istore_n (pc := 1) (lo' := [some (aR p), some (aI l1), some (aI 0)]) hv 1 rfl rfl ?_
  exact h
def vc_X2_isAhead_22 (S : Sp) (Φ : Rs) (v : Kt) (p : Nat) (l1 : Int32) (l2 : Int32) (s0 : Int32) (σ : St) : Prop := ((s0 : Int32) = 0 → (Φ [aI 0] σ)) ∧ (¬ ((s0 : Int32) = 0) → (S 40 [aR p, aI l1, aI l2] σ (fun r σ1 => ∃ x2 : Int32, r = [aI x2] ∧ (((1 : Int32) < x2 → (Φ [aI 0] σ1)) ∧ (¬ ((1 : Int32) < x2) → (S 27 [aR p, aI l1, aI 2] σ1 (fun r σ3 => ∃ x4 : Int32, r = [aI x4] ∧ (((x4 : Int32) = 5 → (Φ [aI 0] σ3)) ∧ (¬ ((x4 : Int32) = 5) → (Φ [aI 1] σ3))))))))))
theorem w_X2_isAhead_22 {S : Sp} (hS : Sys S) {Φ : Rs} {v : Kt} (hv : Cl S Φ k_X2_isAhead v) (hw : Wk v) (p : Nat) (h_p : isPat p) (l1 : Int32) (l2 : Int32) (s0 : Int32) (σ : St) (h : vc_X2_isAhead_22 S Φ v p l1 l2 s0 σ) : v 22 [some (aR p), some (aI l1), some (aI l2), none] [aI s0] σ := by
  unfold vc_X2_isAhead_22 at h
  refine r_istore_n (pc := 22) (lo' := [some (aR p), some (aI l1), some (aI l2), some (aI s0)]) hv 14 rfl rfl ?_
  refine r_iload_n (pc := 23) hv 15 rfl rfl ?_
  refine r_if_eq (pc := 24) hv 16 rfl (fun c => ?_) (fun c => ?_)
  · replace h := h.1 c
    refine r_iconst (pc := 51) hv 31 rfl  ?_
    exact r_zreturn (pc := 52) hv 32 rfl rfl (Or.inl rfl) h
  · replace h := h.2 c
    refine r_aload_n (pc := 27) hv 17 rfl rfl ?_
    refine r_iload_n (pc := 28) hv 18 rfl rfl ?_
    refine r_iload_n (pc := 29) hv 19 rfl rfl ?_
    refine r_callV (pc := 30) (l := [aI l2, aI l1]) (av := [aI l1, aI l2]) (a := p) (t := []) hv 20 rfl rfl rfl rfl (rcv_o (by decide) (isPat_oc h_p)) trivial (hS.1 _ _ _ _ _ (fun r σ1 h => ?_) h)
    obtain ⟨x2, rfl, h⟩ := h
    show v 33 [some (aR p), some (aI l1), some (aI l2), some (aI s0)] [aI x2] σ1
    refine r_iconst (pc := 33) hv 21 rfl  ?_
    refine r_icmp_gt (pc := 34) hv 22 rfl (fun c => ?_) (fun c => ?_)
    · replace h := h.1 c
      refine r_iconst (pc := 51) hv 31 rfl  ?_
      exact r_zreturn (pc := 52) hv 32 rfl rfl (Or.inl rfl) h
    · replace h := h.2 c
      refine r_aload_n (pc := 37) hv 23 rfl rfl ?_
      refine r_iload_n (pc := 38) hv 24 rfl rfl ?_
      refine r_iconst (pc := 39) hv 25 rfl  ?_
      refine r_callV (pc := 40) (l := [aI 2, aI l1]) (av := [aI l1, aI 2]) (a := p) (t := []) hv 26 rfl rfl rfl rfl (rcv_o (by decide) (isPat_oc h_p)) trivial (hS.1 _ _ _ _ _ (fun r σ3 h => ?_) h)
      obtain ⟨x4, rfl, h⟩ := h
      show v 43 [some (aR p), some (aI l1), some (aI l2), some (aI s0)] [aI x4] σ3
      refine r_iconst (pc := 43) hv 27 rfl  ?_
      refine r_icmp_eq (pc := 44) hv 28 rfl (fun c => ?_) (fun c => ?_)
      · replace h := h.1 c
        refine r_iconst (pc := 51) hv 31 rfl  ?_
        exact r_zreturn (pc := 52) hv 32 rfl rfl (Or.inl rfl) h
      · replace h := h.2 c
        refine r_iconst (pc := 47) hv 29 rfl  ?_
        refine r_goto (pc := 48) hv 30 rfl  ?_
        exact r_zreturn (pc := 52) hv 32 rfl rfl (Or.inr rfl) h
def vc_X2_isAhead_0 (S : Sp) (Φ : Rs) (v : Kt) (p : Nat) (l1 : Int32) (l2 : Int32) (σ : St) : Prop := S 27 [aR p, aI l1, aI 0] σ (fun r σ1 => ∃ x2 : Int32, r = [aI x2] ∧ (S 27 [aR p, aI l2, aI 0] σ1 (fun r σ3 => ∃ x4 : Int32, r = [aI x4] ∧ ((¬ (x2 : Int32) = (x4 - 1) → (vc_X2_isAhead_22 S Φ v p l1 l2 0 σ3)) ∧ ((x2 : Int32) = (x4 - 1) → (vc_X2_isAhead_22 S Φ v p l1 l2 1 σ3))))))
theorem w_X2_isAhead_0 {S : Sp} (hS : Sys S) {Φ : Rs} {v : Kt} (hv : Cl S Φ k_X2_isAhead v) (hw : Wk v) (p : Nat) (h_p : isPat p) (l1 : Int32) (l2 : Int32) (σ : St) (h : vc_X2_isAhead_0 S Φ v p l1 l2 σ) : v 0 [some (aR p), some (aI l1), some (aI l2), none] [] σ := by
  unfold vc_X2_isAhead_0 at h
  refine r_aload_n (pc := 0) hv 0 rfl rfl ?_
  refine r_iload_n (pc := 1) hv 1 rfl rfl ?_
  refine r_iconst (pc := 2) hv 2 rfl  ?_
  refine r_callV (pc := 3) (l := [aI 0, aI l1]) (av := [aI l1, aI 0]) (a := p) (t := []) hv 3 rfl rfl rfl rfl (rcv_o (by decide) (isPat_oc h_p)) trivial (hS.1 _ _ _ _ _ (fun r σ1 h => ?_) h)
  obtain ⟨x2, rfl, h⟩ := h
  show v 6 [some (aR p), some (aI l1), some (aI l2), none] [aI x2] σ1
  refine r_aload_n (pc := 6) hv 4 rfl rfl ?_
  refine r_iload_n (pc := 7) hv 5 rfl rfl ?_
  refine r_iconst (pc := 8) hv 6 rfl  ?_
  refine r_callV (pc := 9) (l := [aI 0, aI l2]) (av := [aI l2, aI 0]) (a := p) (t := [aI x2]) hv 7 rfl rfl rfl rfl (rcv_o (by decide) (isPat_oc h_p)) trivial (hS.1 _ _ _ _ _ (fun r σ3 h => ?_) h)
  obtain ⟨x4, rfl, h⟩ := h
  show v 12 [some (aR p), some (aI l1), some (aI l2), none] [aI x4, aI x2] σ3
  refine r_iconst (pc := 12) hv 8 rfl  ?_
  refine r_isub (pc := 13) hv 9 rfl  ?_
  refine r_icmp_ne (pc := 14) hv 10 rfl (fun c => ?_) (fun c => ?_)
  · replace h := h.1 c
    refine r_iconst (pc := 21) hv 13 rfl  ?_
    exact (w_X2_isAhead_22 hS hv hw p h_p l1 l2 0  σ3 h)
  · replace h := h.2 c
    refine r_iconst (pc := 17) hv 11 rfl  ?_
    refine r_goto (pc := 18) hv 12 rfl  ?_
    exact (w_X2_isAhead_22 hS hv hw p h_p l1 l2 1  σ3 h)
def vc_X2_changeMark_0 (S : Sp) (Φ : Rs) (v : Kt) (p : Nat) (l1 : Int32) (l2 : Int32) (l3 : Int32) (σ : St) : Prop := S 25 [aR p, aI l1] σ (fun r σ1 => ∃ x2 : Int32, r = [aI x2] ∧ ((¬ (x2 : Int32) = 0 → (((l2 : Int32) < 3 → (Φ [aI (-2)] σ1)) ∧ (¬ ((l2 : Int32) < 3) → (S 24 [aI l2, aI l3] σ1 (fun r σ3 => ∃ x4 : Int32, r = [aI x4] ∧ ((¬ (x4 : Int32) = 0 → (S 27 [aR p, aI l1, aI l2] σ3 (fun r σ5 => ∃ x6 : Int32, r = [aI x6] ∧ (vp_in ((l1 * 9) + l2) 180 ∧ (∀ σ7 : St, σ7 = upI σ5 (p + 1) ((l1 * 9) + l2 : Int32).toNatClampNeg l3 → (Φ [aI x6] σ7)))))) ∧ ((x4 : Int32) = 0 → (Φ [aI (-2)] σ3)))))))) ∧ ((x2 : Int32) = 0 → (Φ [aI (-1)] σ1))))
theorem w_X2_changeMark_0 {S : Sp} (hS : Sys S) {Φ : Rs} {v : Kt} (hv : Cl S Φ k_X2_changeMark v) (hw : Wk v) (p : Nat) (h_p : isPat p) (l1 : Int32) (l2 : Int32) (l3 : Int32) (σ : St) (h : vc_X2_changeMark_0 S Φ v p l1 l2 l3 σ) : v 0 [some (aR p), some (aI l1), some (aI l2), some (aI l3), none] [] σ := by
  unfold vc_X2_changeMark_0 at h
  refine r_aload_n (pc := 0) hv 0 rfl rfl ?_
  refine r_iload_n (pc := 1) hv 1 rfl rfl ?_
  refine r_callV (pc := 2) (l := [aI l1]) (av := [aI l1]) (a := p) (t := []) hv 2 rfl rfl rfl rfl (rcv_o (by decide) (isPat_oc h_p)) trivial (hS.1 _ _ _ _ _ (fun r σ1 h => ?_) h)
  obtain ⟨x2, rfl, h⟩ := h
  show v 5 [some (aR p), some (aI l1), some (aI l2), some (aI l3), none] [aI x2] σ1
  refine r_if_ne (pc := 5) hv 3 rfl (fun c => ?_) (fun c => ?_)
  · replace h := h.1 c
    refine r_iload_n (pc := 10) hv 6 rfl rfl ?_
    refine r_iconst (pc := 11) hv 7 rfl  ?_
    refine r_icmp_lt (pc := 12) hv 8 rfl (fun c => ?_) (fun c => ?_)
    · replace h := h.1 c
      refine r_bipush (pc := 23) hv 13 rfl  ?_
      exact r_ireturn (pc := 25) hv 14 rfl rfl h
    · replace h := h.2 c
      refine r_iload_n (pc := 15) hv 9 rfl rfl ?_
      refine r_iload_n (pc := 16) hv 10 rfl rfl ?_
      refine r_callS (pc := 17) (l := [aI l3, aI l2]) (av := [aI l2, aI l3]) (t := []) hv 11 rfl (Or.inl rfl) rfl rfl rfl trivial (hS.1 _ _ _ _ _ (fun r σ3 h => ?_) h)
      obtain ⟨x4, rfl, h⟩ := h
      show v 20 [some (aR p), some (aI l1), some (aI l2), some (aI l3), none] [aI x4] σ3
      refine r_if_ne (pc := 20) hv 12 rfl (fun c => ?_) (fun c => ?_)
      · replace h := h.1 c
        refine r_aload_n (pc := 26) hv 15 rfl rfl ?_
        refine r_iload_n (pc := 27) hv 16 rfl rfl ?_
        refine r_iload_n (pc := 28) hv 17 rfl rfl ?_
        refine r_callV (pc := 29) (l := [aI l2, aI l1]) (av := [aI l1, aI l2]) (a := p) (t := []) hv 18 rfl rfl rfl rfl (rcv_o (by decide) (isPat_oc h_p)) trivial (hS.1 _ _ _ _ _ (fun r σ5 h => ?_) h)
        obtain ⟨x6, rfl, h⟩ := h
        show v 32 [some (aR p), some (aI l1), some (aI l2), some (aI l3), none] [aI x6] σ5
        refine r_istore (pc := 32) (lo' := [some (aR p), some (aI l1), some (aI l2), some (aI l3), some (aI x6)]) hv 19 rfl rfl ?_
        refine r_aload_n (pc := 34) hv 20 rfl rfl ?_
        refine r_getR (pc := 35) (b := p + 1) hv 21 rfl rfl (isPat_oc h_p) (isPat_c0 h_p) ?_
        refine r_iload_n (pc := 38) hv 22 rfl rfl ?_
        refine r_bipush (pc := 39) hv 23 rfl  ?_
        refine r_imul (pc := 41) hv 24 rfl  ?_
        refine r_iload_n (pc := 42) hv 25 rfl rfl ?_
        refine r_iadd (pc := 43) hv 26 rfl  ?_
        refine r_iload_n (pc := 44) hv 27 rfl rfl ?_
        refine r_iastore (pc := 45) (N := 180) hv 28 rfl (isPat_t1 h_p) (isPat_l1 h_p) h.1 ?_
        replace h := h.2
        obtain ⟨σ7, e_σ7⟩ : ∃ y : St, y = upI σ5 (p + 1) ((l1 * 9) + l2 : Int32).toNatClampNeg l3 := ⟨_, rfl⟩
        rw [← e_σ7]
        replace h := h σ7 e_σ7
        refine r_iload (pc := 46) hv 29 rfl rfl ?_
        exact r_ireturn (pc := 48) hv 30 rfl rfl h
      · replace h := h.2 c
        refine r_bipush (pc := 23) hv 13 rfl  ?_
        exact r_ireturn (pc := 25) hv 14 rfl rfl h
  · replace h := h.2 c
    refine r_iconst (pc := 8) hv 4 rfl  ?_
    exact r_ireturn (pc := 9) hv 5 rfl rfl h
def vc_X2_addWire_15 (S : Sp) (Φ : Rs) (v : Kt) (p : Nat) (l1 : Int32) (l2 : Int32) (l3 : Int32) (σ : St) : Prop := S 25 [aR p, aI l2] σ (fun r σ1 => ∃ x2 : Int32, r = [aI x2] ∧ (((x2 : Int32) = 0 → (Φ [aI (-1)] σ1)) ∧ (¬ ((x2 : Int32) = 0) → ((¬ (l1 : Int32) = l2 → (((l3 : Int32) < 0 → (Φ [aI (-2)] σ1)) ∧ (¬ ((l3 : Int32) < 0) → (((l3 : Int32) ≤ 500 → (((σ1.1 p 4 : Int32) < 40 → (vp_in (((σ1.1 p 4) * 3) + 0) 120 ∧ (∀ σ3 : St, σ3 = upI σ1 (p + 2) (((σ1.1 p 4) * 3) + 0 : Int32).toNatClampNeg l1 → (vp_in (((σ1.1 p 4) * 3) + 1) 120 ∧ (∀ σ4 : St, σ4 = upI σ3 (p + 2) (((σ1.1 p 4) * 3) + 1 : Int32).toNatClampNeg l2 → (vp_in (((σ1.1 p 4) * 3) + 2) 120 ∧ (∀ σ5 : St, σ5 = upI σ4 (p + 2) (((σ1.1 p 4) * 3) + 2 : Int32).toNatClampNeg l3 → (∀ σ6 : St, σ6 = upI σ5 p 4 ((σ5.1 p 4) + 1) → (Φ [aI ((σ6.1 p 4) - 1)] σ6))))))))) ∧ (¬ ((σ1.1 p 4 : Int32) < 40) → (Φ [aI (-4)] σ1)))) ∧ (¬ ((l3 : Int32) ≤ 500) → (Φ [aI (-2)] σ1)))))) ∧ ((l1 : Int32) = l2 → (Φ [aI (-1)] σ1))))))
theorem w_X2_addWire_15 {S : Sp} (hS : Sys S) {Φ : Rs} {v : Kt} (hv : Cl S Φ k_X2_addWire v) (hw : Wk v) (p : Nat) (h_p : isPat p) (l1 : Int32) (l2 : Int32) (l3 : Int32) (σ : St) (h : vc_X2_addWire_15 S Φ v p l1 l2 l3 σ) : v 15 [some (aR p), some (aI l1), some (aI l2), some (aI l3), none] [] σ := by
  unfold vc_X2_addWire_15 at h
  refine r_aload_n (pc := 15) hv 9 rfl rfl ?_
  refine r_iload_n (pc := 16) hv 10 rfl rfl ?_
  refine r_callV (pc := 17) (l := [aI l2]) (av := [aI l2]) (a := p) (t := []) hv 11 rfl rfl rfl rfl (rcv_o (by decide) (isPat_oc h_p)) trivial (hS.1 _ _ _ _ _ (fun r σ1 h => ?_) h)
  obtain ⟨x2, rfl, h⟩ := h
  show v 20 [some (aR p), some (aI l1), some (aI l2), some (aI l3), none] [aI x2] σ1
  refine r_if_eq (pc := 20) hv 12 rfl (fun c => ?_) (fun c => ?_)
  · replace h := h.1 c
    refine r_iconst (pc := 28) hv 16 rfl  ?_
    exact r_ireturn (pc := 29) hv 17 rfl rfl h
  · replace h := h.2 c
    refine r_iload_n (pc := 23) hv 13 rfl rfl ?_
    refine r_iload_n (pc := 24) hv 14 rfl rfl ?_
    refine r_icmp_ne (pc := 25) hv 15 rfl (fun c => ?_) (fun c => ?_)
    · replace h := h.1 c
      refine r_iload_n (pc := 30) hv 18 rfl rfl ?_
      refine r_if_lt (pc := 31) hv 19 rfl (fun c => ?_) (fun c => ?_)
      · replace h := h.1 c
        refine r_bipush (pc := 41) hv 23 rfl  ?_
        exact r_ireturn (pc := 43) hv 24 rfl rfl h
      · replace h := h.2 c
        refine r_iload_n (pc := 34) hv 20 rfl rfl ?_
        refine r_sipush (pc := 35) hv 21 rfl  ?_
        refine r_icmp_le (pc := 38) hv 22 rfl (fun c => ?_) (fun c => ?_)
        · replace h := h.1 c
          refine r_aload_n (pc := 44) hv 25 rfl rfl ?_
          refine r_getI (pc := 45) hv 26 rfl rfl (isPat_oc h_p) ?_
          refine r_bipush (pc := 48) hv 27 rfl  ?_
          refine r_icmp_lt (pc := 50) hv 28 rfl (fun c => ?_) (fun c => ?_)
          · replace h := h.1 c
            refine r_aload_n (pc := 56) hv 31 rfl rfl ?_
            refine r_getI (pc := 57) hv 32 rfl rfl (isPat_oc h_p) ?_
            refine r_iconst (pc := 60) hv 33 rfl  ?_
            refine r_imul (pc := 61) hv 34 rfl  ?_
            refine r_istore (pc := 62) (lo' := [some (aR p), some (aI l1), some (aI l2), some (aI l3), some (aI ((σ1.1 p 4) * 3))]) hv 35 rfl rfl ?_
            refine r_aload_n (pc := 64) hv 36 rfl rfl ?_
            refine r_getR (pc := 65) (b := p + 2) hv 37 rfl rfl (isPat_oc h_p) (isPat_c1 h_p) ?_
            refine r_iload (pc := 68) hv 38 rfl rfl ?_
            refine r_iconst (pc := 70) hv 39 rfl  ?_
            refine r_iadd (pc := 71) hv 40 rfl  ?_
            refine r_iload_n (pc := 72) hv 41 rfl rfl ?_
            refine r_iastore (pc := 73) (N := 120) hv 42 rfl (isPat_t2 h_p) (isPat_l2 h_p) h.1 ?_
            replace h := h.2
            obtain ⟨σ3, e_σ3⟩ : ∃ y : St, y = upI σ1 (p + 2) (((σ1.1 p 4) * 3) + 0 : Int32).toNatClampNeg l1 := ⟨_, rfl⟩
            rw [← e_σ3]
            replace h := h σ3 e_σ3
            refine r_aload_n (pc := 74) hv 43 rfl rfl ?_
            refine r_getR (pc := 75) (b := p + 2) hv 44 rfl rfl (isPat_oc h_p) (isPat_c1 h_p) ?_
            refine r_iload (pc := 78) hv 45 rfl rfl ?_
            refine r_iconst (pc := 80) hv 46 rfl  ?_
            refine r_iadd (pc := 81) hv 47 rfl  ?_
            refine r_iload_n (pc := 82) hv 48 rfl rfl ?_
            refine r_iastore (pc := 83) (N := 120) hv 49 rfl (isPat_t2 h_p) (isPat_l2 h_p) h.1 ?_
            replace h := h.2
            obtain ⟨σ4, e_σ4⟩ : ∃ y : St, y = upI σ3 (p + 2) (((σ1.1 p 4) * 3) + 1 : Int32).toNatClampNeg l2 := ⟨_, rfl⟩
            rw [← e_σ4]
            replace h := h σ4 e_σ4
            refine r_aload_n (pc := 84) hv 50 rfl rfl ?_
            refine r_getR (pc := 85) (b := p + 2) hv 51 rfl rfl (isPat_oc h_p) (isPat_c1 h_p) ?_
            refine r_iload (pc := 88) hv 52 rfl rfl ?_
            refine r_iconst (pc := 90) hv 53 rfl  ?_
            refine r_iadd (pc := 91) hv 54 rfl  ?_
            refine r_iload_n (pc := 92) hv 55 rfl rfl ?_
            refine r_iastore (pc := 93) (N := 120) hv 56 rfl (isPat_t2 h_p) (isPat_l2 h_p) h.1 ?_
            replace h := h.2
            obtain ⟨σ5, e_σ5⟩ : ∃ y : St, y = upI σ4 (p + 2) (((σ1.1 p 4) * 3) + 2 : Int32).toNatClampNeg l3 := ⟨_, rfl⟩
            rw [← e_σ5]
            replace h := h σ5 e_σ5
            refine r_aload_n (pc := 94) hv 57 rfl rfl ?_
            refine r_dup (pc := 95) hv 58 rfl trivial ?_
            refine r_getI (pc := 96) hv 59 rfl rfl (isPat_oc h_p) ?_
            refine r_iconst (pc := 99) hv 60 rfl  ?_
            refine r_iadd (pc := 100) hv 61 rfl  ?_
            refine r_putI (pc := 101) hv 62 rfl rfl (isPat_oc h_p) ?_
            obtain ⟨σ6, e_σ6⟩ : ∃ y : St, y = upI σ5 p 4 ((σ5.1 p 4) + 1) := ⟨_, rfl⟩
            rw [← e_σ6]
            replace h := h σ6 e_σ6
            refine r_aload_n (pc := 104) hv 63 rfl rfl ?_
            refine r_getI (pc := 105) hv 64 rfl rfl (isPat_oc h_p) ?_
            refine r_iconst (pc := 108) hv 65 rfl  ?_
            refine r_isub (pc := 109) hv 66 rfl  ?_
            exact r_ireturn (pc := 110) hv 67 rfl rfl h
          · replace h := h.2 c
            refine r_bipush (pc := 53) hv 29 rfl  ?_
            exact r_ireturn (pc := 55) hv 30 rfl rfl h
        · replace h := h.2 c
          refine r_bipush (pc := 41) hv 23 rfl  ?_
          exact r_ireturn (pc := 43) hv 24 rfl rfl h
    · replace h := h.2 c
      refine r_iconst (pc := 28) hv 16 rfl  ?_
      exact r_ireturn (pc := 29) hv 17 rfl rfl h
def vc_X2_addWire_0 (S : Sp) (Φ : Rs) (v : Kt) (p : Nat) (l1 : Int32) (l2 : Int32) (l3 : Int32) (σ : St) : Prop := ((l1 : Int32) = (-1) → (vc_X2_addWire_15 S Φ v p l1 l2 l3 σ)) ∧ (¬ ((l1 : Int32) = (-1)) → (S 25 [aR p, aI l1] σ (fun r σ1 => ∃ x2 : Int32, r = [aI x2] ∧ ((¬ (x2 : Int32) = 0 → (vc_X2_addWire_15 S Φ v p l1 l2 l3 σ1)) ∧ ((x2 : Int32) = 0 → (Φ [aI (-1)] σ1))))))
theorem w_X2_addWire_0 {S : Sp} (hS : Sys S) {Φ : Rs} {v : Kt} (hv : Cl S Φ k_X2_addWire v) (hw : Wk v) (p : Nat) (h_p : isPat p) (l1 : Int32) (l2 : Int32) (l3 : Int32) (σ : St) (h : vc_X2_addWire_0 S Φ v p l1 l2 l3 σ) : v 0 [some (aR p), some (aI l1), some (aI l2), some (aI l3), none] [] σ := by
  unfold vc_X2_addWire_0 at h
  refine r_iload_n (pc := 0) hv 0 rfl rfl ?_
  refine r_iconst (pc := 1) hv 1 rfl  ?_
  refine r_icmp_eq (pc := 2) hv 2 rfl (fun c => ?_) (fun c => ?_)
  · replace h := h.1 c
    exact (w_X2_addWire_15 hS hv hw p h_p l1 l2 l3  σ h)
  · replace h := h.2 c
    refine r_aload_n (pc := 5) hv 3 rfl rfl ?_
    refine r_iload_n (pc := 6) hv 4 rfl rfl ?_
    refine r_callV (pc := 7) (l := [aI l1]) (av := [aI l1]) (a := p) (t := []) hv 5 rfl rfl rfl rfl (rcv_o (by decide) (isPat_oc h_p)) trivial (hS.1 _ _ _ _ _ (fun r σ1 h => ?_) h)
    obtain ⟨x2, rfl, h⟩ := h
    show v 10 [some (aR p), some (aI l1), some (aI l2), some (aI l3), none] [aI x2] σ1
    refine r_if_ne (pc := 10) hv 6 rfl (fun c => ?_) (fun c => ?_)
    · replace h := h.1 c
      exact (w_X2_addWire_15 hS hv hw p h_p l1 l2 l3  σ1 h)
    · replace h := h.2 c
      refine r_iconst (pc := 13) hv 7 rfl  ?_
      exact r_ireturn (pc := 14) hv 8 rfl rfl h
def vc_X2_removeWire_0 (S : Sp) (Φ : Rs) (v : Kt) (p : Nat) (l1 : Int32) (σ : St) : Prop := S 26 [aR p, aI l1] σ (fun r σ1 => ∃ x2 : Int32, r = [aI x2] ∧ ((¬ (x2 : Int32) = 0 → ((¬ ((l1 * 3) + 3 : Int32) < 0 ∧ ¬ (l1 * 3 : Int32) < 0 ∧ ¬ ((((σ1.1 p 4) * 3) - (l1 * 3)) - 3 : Int32) < 0 ∧ ((l1 * 3) + 3 : Int32).toNatClampNeg + ((((σ1.1 p 4) * 3) - (l1 * 3)) - 3 : Int32).toNatClampNeg ≤ 120 ∧ (l1 * 3 : Int32).toNatClampNeg + ((((σ1.1 p 4) * 3) - (l1 * 3)) - 3 : Int32).toNatClampNeg ≤ 120) ∧ (∀ σ3 : St, σ3 = cpI σ1 (p + 2) (p + 2) ((l1 * 3) + 3 : Int32).toNatClampNeg (l1 * 3 : Int32).toNatClampNeg ((((σ1.1 p 4) * 3) - (l1 * 3)) - 3 : Int32).toNatClampNeg → (∀ σ4 : St, σ4 = upI σ3 p 4 ((σ3.1 p 4) - 1) → (Φ [aI (σ4.1 p 4)] σ4))))) ∧ ((x2 : Int32) = 0 → (Φ [aI (-1)] σ1))))
theorem w_X2_removeWire_0 {S : Sp} (hS : Sys S) {Φ : Rs} {v : Kt} (hv : Cl S Φ k_X2_removeWire v) (hw : Wk v) (p : Nat) (h_p : isPat p) (l1 : Int32) (σ : St) (h : vc_X2_removeWire_0 S Φ v p l1 σ) : v 0 [some (aR p), some (aI l1), none] [] σ := by
  unfold vc_X2_removeWire_0 at h
  refine r_aload_n (pc := 0) hv 0 rfl rfl ?_
  refine r_iload_n (pc := 1) hv 1 rfl rfl ?_
  refine r_callV (pc := 2) (l := [aI l1]) (av := [aI l1]) (a := p) (t := []) hv 2 rfl rfl rfl rfl (rcv_o (by decide) (isPat_oc h_p)) trivial (hS.1 _ _ _ _ _ (fun r σ1 h => ?_) h)
  obtain ⟨x2, rfl, h⟩ := h
  show v 5 [some (aR p), some (aI l1), none] [aI x2] σ1
  refine r_if_ne (pc := 5) hv 3 rfl (fun c => ?_) (fun c => ?_)
  · replace h := h.1 c
    refine r_iload_n (pc := 10) hv 6 rfl rfl ?_
    refine r_iconst (pc := 11) hv 7 rfl  ?_
    refine r_imul (pc := 12) hv 8 rfl  ?_
    refine r_istore_n (pc := 13) (lo' := [some (aR p), some (aI l1), some (aI (l1 * 3))]) hv 9 rfl rfl ?_
    refine r_aload_n (pc := 14) hv 10 rfl rfl ?_
    refine r_getR (pc := 15) (b := p + 2) hv 11 rfl rfl (isPat_oc h_p) (isPat_c1 h_p) ?_
    refine r_iload_n (pc := 18) hv 12 rfl rfl ?_
    refine r_iconst (pc := 19) hv 13 rfl  ?_
    refine r_iadd (pc := 20) hv 14 rfl  ?_
    refine r_aload_n (pc := 21) hv 15 rfl rfl ?_
    refine r_getR (pc := 22) (b := p + 2) hv 16 rfl rfl (isPat_oc h_p) (isPat_c1 h_p) ?_
    refine r_iload_n (pc := 25) hv 17 rfl rfl ?_
    refine r_aload_n (pc := 26) hv 18 rfl rfl ?_
    refine r_getI (pc := 27) hv 19 rfl rfl (isPat_oc h_p) ?_
    refine r_iconst (pc := 30) hv 20 rfl  ?_
    refine r_imul (pc := 31) hv 21 rfl  ?_
    refine r_iload_n (pc := 32) hv 22 rfl rfl ?_
    refine r_isub (pc := 33) hv 23 rfl  ?_
    refine r_iconst (pc := 34) hv 24 rfl  ?_
    refine r_isub (pc := 35) hv 25 rfl  ?_
    refine r_copyI (pc := 36) hv 26 rfl rfl (isPat_t2 h_p) (isPat_t2 h_p) (isPat_l2 h_p) (isPat_l2 h_p) trivial h.1.1 h.1.2.1 h.1.2.2.1 h.1.2.2.2.1 h.1.2.2.2.2 ?_
    replace h := h.2
    obtain ⟨σ3, e_σ3⟩ : ∃ y : St, y = cpI σ1 (p + 2) (p + 2) ((l1 * 3) + 3 : Int32).toNatClampNeg (l1 * 3 : Int32).toNatClampNeg ((((σ1.1 p 4) * 3) - (l1 * 3)) - 3 : Int32).toNatClampNeg := ⟨_, rfl⟩
    rw [← e_σ3]
    replace h := h σ3 e_σ3
    refine r_aload_n (pc := 39) hv 27 rfl rfl ?_
    refine r_dup (pc := 40) hv 28 rfl trivial ?_
    refine r_getI (pc := 41) hv 29 rfl rfl (isPat_oc h_p) ?_
    refine r_iconst (pc := 44) hv 30 rfl  ?_
    refine r_isub (pc := 45) hv 31 rfl  ?_
    refine r_putI (pc := 46) hv 32 rfl rfl (isPat_oc h_p) ?_
    obtain ⟨σ4, e_σ4⟩ : ∃ y : St, y = upI σ3 p 4 ((σ3.1 p 4) - 1) := ⟨_, rfl⟩
    rw [← e_σ4]
    replace h := h σ4 e_σ4
    refine r_aload_n (pc := 49) hv 33 rfl rfl ?_
    refine r_getI (pc := 50) hv 34 rfl rfl (isPat_oc h_p) ?_
    exact r_ireturn (pc := 53) hv 35 rfl rfl h
  · replace h := h.2 c
    refine r_iconst (pc := 8) hv 4 rfl  ?_
    exact r_ireturn (pc := 9) hv 5 rfl rfl h
def vc_X2_removeLastHole_97 (S : Sp) (Φ : Rs) (v : Kt) (p : Nat) (l1 : Int32) (σ : St) : Prop := S 34 [aR p, aI l1] σ (fun r σ1 => ∃ x2 : Int32, r = [aI x2] ∧ (v 67 [some (aR p), some (aI (l1 + (-1)))] [] σ1))
theorem w_X2_removeLastHole_97 {S : Sp} (hS : Sys S) {Φ : Rs} {v : Kt} (hv : Cl S Φ k_X2_removeLastHole v) (hw : Wk v) (p : Nat) (h_p : isPat p) (l1 : Int32) (σ : St) (h : vc_X2_removeLastHole_97 S Φ v p l1 σ) : v 97 [some (aR p), some (aI l1)] [] σ := by
  unfold vc_X2_removeLastHole_97 at h
  refine r_aload_n (pc := 97) hv 56 rfl rfl ?_
  refine r_iload_n (pc := 98) hv 57 rfl rfl ?_
  refine r_callV (pc := 99) (l := [aI l1]) (av := [aI l1]) (a := p) (t := []) hv 58 rfl rfl rfl rfl (rcv_o (by decide) (isPat_oc h_p)) trivial (hS.1 _ _ _ _ _ (fun r σ1 h => ?_) h)
  obtain ⟨x2, rfl, h⟩ := h
  show v 102 [some (aR p), some (aI l1)] [aI x2] σ1
  refine r_pop (pc := 102) hv 59 rfl trivial ?_
  refine r_iinc (pc := 103) (lo' := [some (aR p), some (aI (l1 + (-1)))]) hv 60 rfl rfl rfl ?_
  refine r_goto (pc := 106) hv 61 rfl  ?_
  exact h
def vc_X2_removeLastHole_67 (S : Sp) (Φ : Rs) (v : Kt) (p : Nat) (l1 : Int32) (σ : St) : Prop := ((l1 : Int32) < 0 → (Φ [aI (σ.1 p 3)] σ)) ∧ (¬ ((l1 : Int32) < 0) → (S 28 [aR p, aI l1, aI 0] σ (fun r σ1 => ∃ x2 : Int32, r = [aI x2] ∧ (((x2 : Int32) = (σ1.1 p 3) → (vc_X2_removeLastHole_97 S Φ v p l1 σ1)) ∧ (¬ ((x2 : Int32) = (σ1.1 p 3)) → (S 28 [aR p, aI l1, aI 1] σ1 (fun r σ3 => ∃ x4 : Int32, r = [aI x4] ∧ ((¬ (x4 : Int32) = (σ3.1 p 3) → (v 67 [some (aR p), some (aI (l1 + (-1)))] [] σ3)) ∧ ((x4 : Int32) = (σ3.1 p 3) → (vc_X2_removeLastHole_97 S Φ v p l1 σ3))))))))))
theorem w_X2_removeLastHole_67 {S : Sp} (hS : Sys S) {Φ : Rs} {v : Kt} (hv : Cl S Φ k_X2_removeLastHole v) (hw : Wk v) (p : Nat) (h_p : isPat p) (l1 : Int32) (σ : St) (h : vc_X2_removeLastHole_67 S Φ v p l1 σ) : v 67 [some (aR p), some (aI l1)] [] σ := by
  unfold vc_X2_removeLastHole_67 at h
  refine r_iload_n (pc := 67) hv 40 rfl rfl ?_
  refine r_if_lt (pc := 68) hv 41 rfl (fun c => ?_) (fun c => ?_)
  · replace h := h.1 c
    refine r_aload_n (pc := 109) hv 62 rfl rfl ?_
    refine r_getI (pc := 110) hv 63 rfl rfl (isPat_oc h_p) ?_
    exact r_ireturn (pc := 113) hv 64 rfl rfl h
  · replace h := h.2 c
    refine r_aload_n (pc := 71) hv 42 rfl rfl ?_
    refine r_iload_n (pc := 72) hv 43 rfl rfl ?_
    refine r_iconst (pc := 73) hv 44 rfl  ?_
    refine r_callV (pc := 74) (l := [aI 0, aI l1]) (av := [aI l1, aI 0]) (a := p) (t := []) hv 45 rfl rfl rfl rfl (rcv_o (by decide) (isPat_oc h_p)) trivial (hS.1 _ _ _ _ _ (fun r σ1 h => ?_) h)
    obtain ⟨x2, rfl, h⟩ := h
    show v 77 [some (aR p), some (aI l1)] [aI x2] σ1
    refine r_aload_n (pc := 77) hv 46 rfl rfl ?_
    refine r_getI (pc := 78) hv 47 rfl rfl (isPat_oc h_p) ?_
    refine r_icmp_eq (pc := 81) hv 48 rfl (fun c => ?_) (fun c => ?_)
    · replace h := h.1 c
      exact (w_X2_removeLastHole_97 hS hv hw p h_p l1  σ1 h)
    · replace h := h.2 c
      refine r_aload_n (pc := 84) hv 49 rfl rfl ?_
      refine r_iload_n (pc := 85) hv 50 rfl rfl ?_
      refine r_iconst (pc := 86) hv 51 rfl  ?_
      refine r_callV (pc := 87) (l := [aI 1, aI l1]) (av := [aI l1, aI 1]) (a := p) (t := []) hv 52 rfl rfl rfl rfl (rcv_o (by decide) (isPat_oc h_p)) trivial (hS.1 _ _ _ _ _ (fun r σ3 h => ?_) h)
      obtain ⟨x4, rfl, h⟩ := h
      show v 90 [some (aR p), some (aI l1)] [aI x4] σ3
      refine r_aload_n (pc := 90) hv 53 rfl rfl ?_
      refine r_getI (pc := 91) hv 54 rfl rfl (isPat_oc h_p) ?_
      refine r_icmp_ne (pc := 94) hv 55 rfl (fun c => ?_) (fun c => ?_)
      · replace h := h.1 c
        refine r_iinc (pc := 103) (lo' := [some (aR p), some (aI (l1 + (-1)))]) hv 60 rfl rfl rfl ?_
        refine r_goto (pc := 106) hv 61 rfl  ?_
        exact h
      · replace h := h.2 c
        exact (w_X2_removeLastHole_97 hS hv hw p h_p l1  σ3 h)
def vc_X2_removeLastHole_22 (S : Sp) (Φ : Rs) (v : Kt) (p : Nat) (l1 : Int32) (σ : St) : Prop := ((σ.1 p 3 : Int32) ≤ l1 → (v 67 [some (aR p), some (aI ((σ.1 p 4) - 1))] [] σ)) ∧ (¬ ((σ.1 p 3 : Int32) ≤ l1) → (vp_in ((l1 * 9) + 8) 180 ∧ (S 140 [aI (σ.1 p 3)] σ (fun r σ1 => ∃ x2 : Int32, r = [aI x2] ∧ (vp_in ((l1 * 9) + 8) 180 ∧ (∀ σ3 : St, σ3 = upI σ1 (p + 1) ((l1 * 9) + 8 : Int32).toNatClampNeg ((σ.1 (p + 1) ((l1 * 9) + 8 : Int32).toNatClampNeg) &&& (x2 ^^^ (-1))) → (v 22 [some (aR p), some (aI (l1 + 1))] [] σ3)))))))
theorem w_X2_removeLastHole_22 {S : Sp} (hS : Sys S) {Φ : Rs} {v : Kt} (hv : Cl S Φ k_X2_removeLastHole v) (hw : Wk v) (p : Nat) (h_p : isPat p) (l1 : Int32) (σ : St) (h : vc_X2_removeLastHole_22 S Φ v p l1 σ) : v 22 [some (aR p), some (aI l1)] [] σ := by
  unfold vc_X2_removeLastHole_22 at h
  refine r_iload_n (pc := 22) hv 13 rfl rfl ?_
  refine r_aload_n (pc := 23) hv 14 rfl rfl ?_
  refine r_getI (pc := 24) hv 15 rfl rfl (isPat_oc h_p) ?_
  refine r_icmp_ge (pc := 27) hv 16 rfl (fun c => ?_) (fun c => ?_)
  · replace h := h.1 c
    refine r_aload_n (pc := 60) hv 35 rfl rfl ?_
    refine r_getI (pc := 61) hv 36 rfl rfl (isPat_oc h_p) ?_
    refine r_iconst (pc := 64) hv 37 rfl  ?_
    refine r_isub (pc := 65) hv 38 rfl  ?_
    refine r_istore_n (pc := 66) (lo' := [some (aR p), some (aI ((σ.1 p 4) - 1))]) hv 39 rfl rfl ?_
    exact h
  · replace h := h.2 c
    refine r_aload_n (pc := 30) hv 17 rfl rfl ?_
    refine r_getR (pc := 31) (b := p + 1) hv 18 rfl rfl (isPat_oc h_p) (isPat_c0 h_p) ?_
    refine r_iload_n (pc := 34) hv 19 rfl rfl ?_
    refine r_bipush (pc := 35) hv 20 rfl  ?_
    refine r_imul (pc := 37) hv 21 rfl  ?_
    refine r_bipush (pc := 38) hv 22 rfl  ?_
    refine r_iadd (pc := 40) hv 23 rfl  ?_
    refine r_dup2 (pc := 41) hv 24 rfl trivial trivial ?_
    refine r_iaload (pc := 42) (N := 180) hv 25 rfl (isPat_t1 h_p) (isPat_l1 h_p) (isPat_lt1 h_p) h.1 ?_
    replace h := h.2
    refine r_aload_n (pc := 43) hv 26 rfl rfl ?_
    refine r_getI (pc := 44) hv 27 rfl rfl (isPat_oc h_p) ?_
    refine r_callS (pc := 47) (l := [aI (σ.1 p 3)]) (av := [aI (σ.1 p 3)]) (t := [aI (σ.1 (p + 1) ((l1 * 9) + 8 : Int32).toNatClampNeg), aI ((l1 * 9) + 8), aR (p + 1)]) hv 28 rfl (Or.inr rfl) rfl rfl rfl trivial (hS.1 _ _ _ _ _ (fun r σ1 h => ?_) h)
    obtain ⟨x2, rfl, h⟩ := h
    show v 50 [some (aR p), some (aI l1)] [aI x2, aI (σ.1 (p + 1) ((l1 * 9) + 8 : Int32).toNatClampNeg), aI ((l1 * 9) + 8), aR (p + 1)] σ1
    refine r_iconst (pc := 50) hv 29 rfl  ?_
    refine r_ixor (pc := 51) hv 30 rfl  ?_
    refine r_iand (pc := 52) hv 31 rfl  ?_
    refine r_iastore (pc := 53) (N := 180) hv 32 rfl (isPat_t1 h_p) (isPat_l1 h_p) h.1 ?_
    replace h := h.2
    obtain ⟨σ3, e_σ3⟩ : ∃ y : St, y = upI σ1 (p + 1) ((l1 * 9) + 8 : Int32).toNatClampNeg ((σ.1 (p + 1) ((l1 * 9) + 8 : Int32).toNatClampNeg) &&& (x2 ^^^ (-1))) := ⟨_, rfl⟩
    rw [← e_σ3]
    replace h := h σ3 e_σ3
    refine r_iinc (pc := 54) (lo' := [some (aR p), some (aI (l1 + 1))]) hv 33 rfl rfl rfl ?_
    refine r_goto (pc := 57) hv 34 rfl  ?_
    exact h
def vc_X2_removeLastHole_0 (S : Sp) (Φ : Rs) (v : Kt) (p : Nat) (σ : St) : Prop := (¬ (σ.1 p 3 : Int32) = 0 → (∀ σ1 : St, σ1 = upI σ p 3 ((σ.1 p 3) - 1) → (v 22 [some (aR p), some (aI 0)] [] σ1))) ∧ ((σ.1 p 3 : Int32) = 0 → (Φ [aI (-3)] σ))
theorem w_X2_removeLastHole_0 {S : Sp} (hS : Sys S) {Φ : Rs} {v : Kt} (hv : Cl S Φ k_X2_removeLastHole v) (hw : Wk v) (p : Nat) (h_p : isPat p) (σ : St) (h : vc_X2_removeLastHole_0 S Φ v p σ) : v 0 [some (aR p), none] [] σ := by
  unfold vc_X2_removeLastHole_0 at h
  refine r_aload_n (pc := 0) hv 0 rfl rfl ?_
  refine r_getI (pc := 1) hv 1 rfl rfl (isPat_oc h_p) ?_
  refine r_if_ne (pc := 4) hv 2 rfl (fun c => ?_) (fun c => ?_)
  · replace h := h.1 c
    refine r_aload_n (pc := 10) hv 5 rfl rfl ?_
    refine r_dup (pc := 11) hv 6 rfl trivial ?_
    refine r_getI (pc := 12) hv 7 rfl rfl (isPat_oc h_p) ?_
    refine r_iconst (pc := 15) hv 8 rfl  ?_
    refine r_isub (pc := 16) hv 9 rfl  ?_
    refine r_putI (pc := 17) hv 10 rfl rfl (isPat_oc h_p) ?_
    obtain ⟨σ1, e_σ1⟩ : ∃ y : St, y = upI σ p 3 ((σ.1 p 3) - 1) := ⟨_, rfl⟩
    rw [← e_σ1]
    replace h := h σ1 e_σ1
    refine r_iconst (pc := 20) hv 11 rfl  ?_
    refine r_istore_n (pc := 21) (lo' := [some (aR p), some (aI 0)]) hv 12 rfl rfl ?_
    exact h
  · replace h := h.2 c
    refine r_bipush (pc := 7) hv 3 rfl  ?_
    exact r_ireturn (pc := 9) hv 4 rfl rfl h
def vc_X2_changeRule_0 (S : Sp) (Φ : Rs) (v : Kt) (p : Nat) (l1 : Int32) (l2 : Int32) (σ : St) : Prop := ((l1 : Int32) < 0 → (Φ [aI (-1)] σ)) ∧ (¬ ((l1 : Int32) < 0) → (((l1 : Int32) < 3 → (vp_in l1 3 ∧ (((l2 : Int32) < (sv 104 (l1 : Int32).toNatClampNeg) → (Φ [aI (-2)] σ)) ∧ (¬ ((l2 : Int32) < (sv 104 (l1 : Int32).toNatClampNeg)) → (vp_in l1 3 ∧ (((l2 : Int32) ≤ (sv 105 (l1 : Int32).toNatClampNeg) → (vp_in l1 3 ∧ (vp_in l1 3 ∧ (∀ σ1 : St, σ1 = upI σ (p + 3) (l1 : Int32).toNatClampNeg l2 → (Φ [aI (σ.1 (p + 3) (l1 : Int32).toNatClampNeg)] σ1))))) ∧ (¬ ((l2 : Int32) ≤ (sv 105 (l1 : Int32).toNatClampNeg)) → (Φ [aI (-2)] σ)))))))) ∧ (¬ ((l1 : Int32) < 3) → (Φ [aI (-1)] σ))))
theorem w_X2_changeRule_0 {S : Sp} (hS : Sys S) {Φ : Rs} {v : Kt} (hv : Cl S Φ k_X2_changeRule v) (hw : Wk v) (p : Nat) (h_p : isPat p) (l1 : Int32) (l2 : Int32) (σ : St) (h : vc_X2_changeRule_0 S Φ v p l1 l2 σ) : v 0 [some (aR p), some (aI l1), some (aI l2), none] [] σ := by
  unfold vc_X2_changeRule_0 at h
  refine r_iload_n (pc := 0) hv 0 rfl rfl ?_
  refine r_if_lt (pc := 1) hv 1 rfl (fun c => ?_) (fun c => ?_)
  · replace h := h.1 c
    refine r_iconst (pc := 9) hv 5 rfl  ?_
    exact r_ireturn (pc := 10) hv 6 rfl rfl h
  · replace h := h.2 c
    refine r_iload_n (pc := 4) hv 2 rfl rfl ?_
    refine r_iconst (pc := 5) hv 3 rfl  ?_
    refine r_icmp_lt (pc := 6) hv 4 rfl (fun c => ?_) (fun c => ?_)
    · replace h := h.1 c
      refine r_iload_n (pc := 11) hv 7 rfl rfl ?_
      refine r_gets (pc := 12) hv 8 rfl  ?_
      refine r_iload_n (pc := 15) hv 9 rfl rfl ?_
      refine r_ialoadS (pc := 16) (N := 3) hv 10 rfl rfl rfl (by decide) h.1 ?_
      replace h := h.2
      refine r_icmp_lt (pc := 17) hv 11 rfl (fun c => ?_) (fun c => ?_)
      · replace h := h.1 c
        refine r_bipush (pc := 29) hv 17 rfl  ?_
        exact r_ireturn (pc := 31) hv 18 rfl rfl h
      · replace h := h.2 c
        refine r_iload_n (pc := 20) hv 12 rfl rfl ?_
        refine r_gets (pc := 21) hv 13 rfl  ?_
        refine r_iload_n (pc := 24) hv 14 rfl rfl ?_
        refine r_ialoadS (pc := 25) (N := 3) hv 15 rfl rfl rfl (by decide) h.1 ?_
        replace h := h.2
        refine r_icmp_le (pc := 26) hv 16 rfl (fun c => ?_) (fun c => ?_)
        · replace h := h.1 c
          refine r_aload_n (pc := 32) hv 19 rfl rfl ?_
          refine r_getR (pc := 33) (b := p + 3) hv 20 rfl rfl (isPat_oc h_p) (isPat_c2 h_p) ?_
          refine r_iload_n (pc := 36) hv 21 rfl rfl ?_
          refine r_iaload (pc := 37) (N := 3) hv 22 rfl (isPat_t3 h_p) (isPat_l3 h_p) (isPat_lt3 h_p) h.1 ?_
          replace h := h.2
          refine r_istore_n (pc := 38) (lo' := [some (aR p), some (aI l1), some (aI l2), some (aI (σ.1 (p + 3) (l1 : Int32).toNatClampNeg))]) hv 23 rfl rfl ?_
          refine r_aload_n (pc := 39) hv 24 rfl rfl ?_
          refine r_getR (pc := 40) (b := p + 3) hv 25 rfl rfl (isPat_oc h_p) (isPat_c2 h_p) ?_
          refine r_iload_n (pc := 43) hv 26 rfl rfl ?_
          refine r_iload_n (pc := 44) hv 27 rfl rfl ?_
          refine r_iastore (pc := 45) (N := 3) hv 28 rfl (isPat_t3 h_p) (isPat_l3 h_p) h.1 ?_
          replace h := h.2
          obtain ⟨σ1, e_σ1⟩ : ∃ y : St, y = upI σ (p + 3) (l1 : Int32).toNatClampNeg l2 := ⟨_, rfl⟩
          rw [← e_σ1]
          replace h := h σ1 e_σ1
          refine r_iload_n (pc := 46) hv 29 rfl rfl ?_
          exact r_ireturn (pc := 47) hv 30 rfl rfl h
        · replace h := h.2 c
          refine r_bipush (pc := 29) hv 17 rfl  ?_
          exact r_ireturn (pc := 31) hv 18 rfl rfl h
    · replace h := h.2 c
      refine r_iconst (pc := 9) hv 5 rfl  ?_
      exact r_ireturn (pc := 10) hv 6 rfl rfl h
def vc_X2_holeAt_2 (S : Sp) (Φ : Rs) (v : Kt) (p : Nat) (l1 : Int32) (l2 : Int32) (l3 : Int32) (σ : St) : Prop := ((σ.1 p 3 : Int32) ≤ l3 → (Φ [aI (-1)] σ)) ∧ (¬ ((σ.1 p 3 : Int32) ≤ l3) → (S 27 [aR p, aI l3, aI 0] σ (fun r σ1 => ∃ x2 : Int32, r = [aI x2] ∧ ((¬ (x2 : Int32) = l1 → (v 2 [some (aR p), some (aI l1), some (aI l2), some (aI (l3 + 1))] [] σ1)) ∧ ((x2 : Int32) = l1 → (S 27 [aR p, aI l3, aI 1] σ1 (fun r σ3 => ∃ x4 : Int32, r = [aI x4] ∧ ((¬ (x4 : Int32) = l2 → (v 2 [some (aR p), some (aI l1), some (aI l2), some (aI (l3 + 1))] [] σ3)) ∧ ((x4 : Int32) = l2 → (Φ [aI l3] σ3))))))))))
theorem w_X2_holeAt_2 {S : Sp} (hS : Sys S) {Φ : Rs} {v : Kt} (hv : Cl S Φ k_X2_holeAt v) (hw : Wk v) (p : Nat) (h_p : isPat p) (l1 : Int32) (l2 : Int32) (l3 : Int32) (σ : St) (h : vc_X2_holeAt_2 S Φ v p l1 l2 l3 σ) : v 2 [some (aR p), some (aI l1), some (aI l2), some (aI l3)] [] σ := by
  unfold vc_X2_holeAt_2 at h
  refine r_iload_n (pc := 2) hv 2 rfl rfl ?_
  refine r_aload_n (pc := 3) hv 3 rfl rfl ?_
  refine r_getI (pc := 4) hv 4 rfl rfl (isPat_oc h_p) ?_
  refine r_icmp_ge (pc := 7) hv 5 rfl (fun c => ?_) (fun c => ?_)
  · replace h := h.1 c
    refine r_iconst (pc := 38) hv 22 rfl  ?_
    exact r_ireturn (pc := 39) hv 23 rfl rfl h
  · replace h := h.2 c
    refine r_aload_n (pc := 10) hv 6 rfl rfl ?_
    refine r_iload_n (pc := 11) hv 7 rfl rfl ?_
    refine r_iconst (pc := 12) hv 8 rfl  ?_
    refine r_callV (pc := 13) (l := [aI 0, aI l3]) (av := [aI l3, aI 0]) (a := p) (t := []) hv 9 rfl rfl rfl rfl (rcv_o (by decide) (isPat_oc h_p)) trivial (hS.1 _ _ _ _ _ (fun r σ1 h => ?_) h)
    obtain ⟨x2, rfl, h⟩ := h
    show v 16 [some (aR p), some (aI l1), some (aI l2), some (aI l3)] [aI x2] σ1
    refine r_iload_n (pc := 16) hv 10 rfl rfl ?_
    refine r_icmp_ne (pc := 17) hv 11 rfl (fun c => ?_) (fun c => ?_)
    · replace h := h.1 c
      refine r_iinc (pc := 32) (lo' := [some (aR p), some (aI l1), some (aI l2), some (aI (l3 + 1))]) hv 20 rfl rfl rfl ?_
      refine r_goto (pc := 35) hv 21 rfl  ?_
      exact h
    · replace h := h.2 c
      refine r_aload_n (pc := 20) hv 12 rfl rfl ?_
      refine r_iload_n (pc := 21) hv 13 rfl rfl ?_
      refine r_iconst (pc := 22) hv 14 rfl  ?_
      refine r_callV (pc := 23) (l := [aI 1, aI l3]) (av := [aI l3, aI 1]) (a := p) (t := []) hv 15 rfl rfl rfl rfl (rcv_o (by decide) (isPat_oc h_p)) trivial (hS.1 _ _ _ _ _ (fun r σ3 h => ?_) h)
      obtain ⟨x4, rfl, h⟩ := h
      show v 26 [some (aR p), some (aI l1), some (aI l2), some (aI l3)] [aI x4] σ3
      refine r_iload_n (pc := 26) hv 16 rfl rfl ?_
      refine r_icmp_ne (pc := 27) hv 17 rfl (fun c => ?_) (fun c => ?_)
      · replace h := h.1 c
        refine r_iinc (pc := 32) (lo' := [some (aR p), some (aI l1), some (aI l2), some (aI (l3 + 1))]) hv 20 rfl rfl rfl ?_
        refine r_goto (pc := 35) hv 21 rfl  ?_
        exact h
      · replace h := h.2 c
        refine r_iload_n (pc := 30) hv 18 rfl rfl ?_
        exact r_ireturn (pc := 31) hv 19 rfl rfl h
def vc_X2_holeAt_0 (S : Sp) (Φ : Rs) (v : Kt) (p : Nat) (l1 : Int32) (l2 : Int32) (σ : St) : Prop := v 2 [some (aR p), some (aI l1), some (aI l2), some (aI 0)] [] σ
theorem w_X2_holeAt_0 {S : Sp} (hS : Sys S) {Φ : Rs} {v : Kt} (hv : Cl S Φ k_X2_holeAt v) (hw : Wk v) (p : Nat) (h_p : isPat p) (l1 : Int32) (l2 : Int32) (σ : St) (h : vc_X2_holeAt_0 S Φ v p l1 l2 σ) : v 0 [some (aR p), some (aI l1), some (aI l2), none] [] σ := by
  unfold vc_X2_holeAt_0 at h
  refine r_iconst (pc := 0) hv 0 rfl  ?_
  refine r_istore_n (pc := 1) (lo' := [some (aR p), some (aI l1), some (aI l2), some (aI 0)]) hv 1 rfl rfl ?_
  exact h
def vc_X2_deadBits_4 (S : Sp) (Φ : Rs) (v : Kt) (p : Nat) (l1 : Int32) (l2 : Int32) (σ : St) : Prop := ((σ.1 p 3 : Int32) ≤ l2 → (Φ [aI l1] σ)) ∧ (¬ ((σ.1 p 3 : Int32) ≤ l2) → (S 27 [aR p, aI l2, aI 6] σ (fun r σ1 => ∃ x2 : Int32, r = [aI x2] ∧ (((x2 : Int32) = 0 → (v 4 [some (aR p), some (aI l1), some (aI (l2 + 1))] [] σ1)) ∧ (¬ ((x2 : Int32) = 0) → (S 140 [aI l2] σ1 (fun r σ3 => ∃ x4 : Int32, r = [aI x4] ∧ (v 4 [some (aR p), some (aI (l1 ||| x4)), some (aI (l2 + 1))] [] σ3))))))))
theorem w_X2_deadBits_4 {S : Sp} (hS : Sys S) {Φ : Rs} {v : Kt} (hv : Cl S Φ k_X2_deadBits v) (hw : Wk v) (p : Nat) (h_p : isPat p) (l1 : Int32) (l2 : Int32) (σ : St) (h : vc_X2_deadBits_4 S Φ v p l1 l2 σ) : v 4 [some (aR p), some (aI l1), some (aI l2)] [] σ := by
  unfold vc_X2_deadBits_4 at h
  refine r_iload_n (pc := 4) hv 4 rfl rfl ?_
  refine r_aload_n (pc := 5) hv 5 rfl rfl ?_
  refine r_getI (pc := 6) hv 6 rfl rfl (isPat_oc h_p) ?_
  refine r_icmp_ge (pc := 9) hv 7 rfl (fun c => ?_) (fun c => ?_)
  · replace h := h.1 c
    refine r_iload_n (pc := 35) hv 20 rfl rfl ?_
    exact r_ireturn (pc := 36) hv 21 rfl rfl h
  · replace h := h.2 c
    refine r_aload_n (pc := 12) hv 8 rfl rfl ?_
    refine r_iload_n (pc := 13) hv 9 rfl rfl ?_
    refine r_bipush (pc := 14) hv 10 rfl  ?_
    refine r_callV (pc := 16) (l := [aI 6, aI l2]) (av := [aI l2, aI 6]) (a := p) (t := []) hv 11 rfl rfl rfl rfl (rcv_o (by decide) (isPat_oc h_p)) trivial (hS.1 _ _ _ _ _ (fun r σ1 h => ?_) h)
    obtain ⟨x2, rfl, h⟩ := h
    show v 19 [some (aR p), some (aI l1), some (aI l2)] [aI x2] σ1
    refine r_if_eq (pc := 19) hv 12 rfl (fun c => ?_) (fun c => ?_)
    · replace h := h.1 c
      refine r_iinc (pc := 29) (lo' := [some (aR p), some (aI l1), some (aI (l2 + 1))]) hv 18 rfl rfl rfl ?_
      refine r_goto (pc := 32) hv 19 rfl  ?_
      exact h
    · replace h := h.2 c
      refine r_iload_n (pc := 22) hv 13 rfl rfl ?_
      refine r_iload_n (pc := 23) hv 14 rfl rfl ?_
      refine r_callS (pc := 24) (l := [aI l2]) (av := [aI l2]) (t := [aI l1]) hv 15 rfl (Or.inr rfl) rfl rfl rfl trivial (hS.1 _ _ _ _ _ (fun r σ3 h => ?_) h)
      obtain ⟨x4, rfl, h⟩ := h
      show v 27 [some (aR p), some (aI l1), some (aI l2)] [aI x4, aI l1] σ3
      refine r_ior (pc := 27) hv 16 rfl  ?_
      refine r_istore_n (pc := 28) (lo' := [some (aR p), some (aI (l1 ||| x4)), some (aI l2)]) hv 17 rfl rfl ?_
      refine r_iinc (pc := 29) (lo' := [some (aR p), some (aI (l1 ||| x4)), some (aI (l2 + 1))]) hv 18 rfl rfl rfl ?_
      refine r_goto (pc := 32) hv 19 rfl  ?_
      exact h
def vc_X2_deadBits_0 (S : Sp) (Φ : Rs) (v : Kt) (p : Nat) (σ : St) : Prop := v 4 [some (aR p), some (aI 0), some (aI 0)] [] σ
theorem w_X2_deadBits_0 {S : Sp} (hS : Sys S) {Φ : Rs} {v : Kt} (hv : Cl S Φ k_X2_deadBits v) (hw : Wk v) (p : Nat) (h_p : isPat p) (σ : St) (h : vc_X2_deadBits_0 S Φ v p σ) : v 0 [some (aR p), none, none] [] σ := by
  unfold vc_X2_deadBits_0 at h
  refine r_iconst (pc := 0) hv 0 rfl  ?_
  refine r_istore_n (pc := 1) (lo' := [some (aR p), some (aI 0), none]) hv 1 rfl rfl ?_
  refine r_iconst (pc := 2) hv 2 rfl  ?_
  refine r_istore_n (pc := 3) (lo' := [some (aR p), some (aI 0), some (aI 0)]) hv 3 rfl rfl ?_
  exact h
def vc_X2_areNear_0 (S : Sp) (Φ : Rs) (v : Kt) (p : Nat) (l1 : Int32) (l2 : Int32) (σ : St) : Prop := S 27 [aR p, aI l1, aI 0] σ (fun r σ1 => ∃ x2 : Int32, r = [aI x2] ∧ (S 27 [aR p, aI l2, aI 0] σ1 (fun r σ3 => ∃ x4 : Int32, r = [aI x4] ∧ (((1 : Int32) < (if (0 : Int32) ≤ x2 - x4 then x2 - x4 else 0 - (x2 - x4)) → (Φ [aI 0] σ3)) ∧ (¬ ((1 : Int32) < (if (0 : Int32) ≤ x2 - x4 then x2 - x4 else 0 - (x2 - x4))) → (S 40 [aR p, aI l1, aI l2] σ3 (fun r σ5 => ∃ x6 : Int32, r = [aI x6] ∧ (((1 : Int32) < x6 → (Φ [aI 0] σ5)) ∧ (¬ ((1 : Int32) < x6) → (Φ [aI 1] σ5))))))))))
theorem w_X2_areNear_0 {S : Sp} (hS : Sys S) {Φ : Rs} {v : Kt} (hv : Cl S Φ k_X2_areNear v) (hw : Wk v) (p : Nat) (h_p : isPat p) (l1 : Int32) (l2 : Int32) (σ : St) (h : vc_X2_areNear_0 S Φ v p l1 l2 σ) : v 0 [some (aR p), some (aI l1), some (aI l2)] [] σ := by
  unfold vc_X2_areNear_0 at h
  refine r_aload_n (pc := 0) hv 0 rfl rfl ?_
  refine r_iload_n (pc := 1) hv 1 rfl rfl ?_
  refine r_iconst (pc := 2) hv 2 rfl  ?_
  refine r_callV (pc := 3) (l := [aI 0, aI l1]) (av := [aI l1, aI 0]) (a := p) (t := []) hv 3 rfl rfl rfl rfl (rcv_o (by decide) (isPat_oc h_p)) trivial (hS.1 _ _ _ _ _ (fun r σ1 h => ?_) h)
  obtain ⟨x2, rfl, h⟩ := h
  show v 6 [some (aR p), some (aI l1), some (aI l2)] [aI x2] σ1
  refine r_aload_n (pc := 6) hv 4 rfl rfl ?_
  refine r_iload_n (pc := 7) hv 5 rfl rfl ?_
  refine r_iconst (pc := 8) hv 6 rfl  ?_
  refine r_callV (pc := 9) (l := [aI 0, aI l2]) (av := [aI l2, aI 0]) (a := p) (t := [aI x2]) hv 7 rfl rfl rfl rfl (rcv_o (by decide) (isPat_oc h_p)) trivial (hS.1 _ _ _ _ _ (fun r σ3 h => ?_) h)
  obtain ⟨x4, rfl, h⟩ := h
  show v 12 [some (aR p), some (aI l1), some (aI l2)] [aI x4, aI x2] σ3
  refine r_isub (pc := 12) hv 8 rfl  ?_
  refine r_abs (pc := 13) hv 9 rfl rfl trivial ?_
  refine r_iconst (pc := 16) hv 10 rfl  ?_
  refine r_icmp_gt (pc := 17) hv 11 rfl (fun c => ?_) (fun c => ?_)
  · replace h := h.1 c
    refine r_iconst (pc := 34) hv 20 rfl  ?_
    exact r_zreturn (pc := 35) hv 21 rfl rfl (Or.inl rfl) h
  · replace h := h.2 c
    refine r_aload_n (pc := 20) hv 12 rfl rfl ?_
    refine r_iload_n (pc := 21) hv 13 rfl rfl ?_
    refine r_iload_n (pc := 22) hv 14 rfl rfl ?_
    refine r_callV (pc := 23) (l := [aI l2, aI l1]) (av := [aI l1, aI l2]) (a := p) (t := []) hv 15 rfl rfl rfl rfl (rcv_o (by decide) (isPat_oc h_p)) trivial (hS.1 _ _ _ _ _ (fun r σ5 h => ?_) h)
    obtain ⟨x6, rfl, h⟩ := h
    show v 26 [some (aR p), some (aI l1), some (aI l2)] [aI x6] σ5
    refine r_iconst (pc := 26) hv 16 rfl  ?_
    refine r_icmp_gt (pc := 27) hv 17 rfl (fun c => ?_) (fun c => ?_)
    · replace h := h.1 c
      refine r_iconst (pc := 34) hv 20 rfl  ?_
      exact r_zreturn (pc := 35) hv 21 rfl rfl (Or.inl rfl) h
    · replace h := h.2 c
      refine r_iconst (pc := 30) hv 18 rfl  ?_
      refine r_goto (pc := 31) hv 19 rfl  ?_
      exact r_zreturn (pc := 35) hv 21 rfl rfl (Or.inr rfl) h
def vc_X2_columnsOff_0 (S : Sp) (Φ : Rs) (v : Kt) (p : Nat) (l1 : Int32) (l2 : Int32) (σ : St) : Prop := S 27 [aR p, aI l1, aI 1] σ (fun r σ1 => ∃ x2 : Int32, r = [aI x2] ∧ (S 27 [aR p, aI l2, aI 1] σ1 (fun r σ3 => ∃ x4 : Int32, r = [aI x4] ∧ (Φ [aI (if (0 : Int32) ≤ x2 - x4 then x2 - x4 else 0 - (x2 - x4))] σ3))))
theorem w_X2_columnsOff_0 {S : Sp} (hS : Sys S) {Φ : Rs} {v : Kt} (hv : Cl S Φ k_X2_columnsOff v) (hw : Wk v) (p : Nat) (h_p : isPat p) (l1 : Int32) (l2 : Int32) (σ : St) (h : vc_X2_columnsOff_0 S Φ v p l1 l2 σ) : v 0 [some (aR p), some (aI l1), some (aI l2)] [] σ := by
  unfold vc_X2_columnsOff_0 at h
  refine r_aload_n (pc := 0) hv 0 rfl rfl ?_
  refine r_iload_n (pc := 1) hv 1 rfl rfl ?_
  refine r_iconst (pc := 2) hv 2 rfl  ?_
  refine r_callV (pc := 3) (l := [aI 1, aI l1]) (av := [aI l1, aI 1]) (a := p) (t := []) hv 3 rfl rfl rfl rfl (rcv_o (by decide) (isPat_oc h_p)) trivial (hS.1 _ _ _ _ _ (fun r σ1 h => ?_) h)
  obtain ⟨x2, rfl, h⟩ := h
  show v 6 [some (aR p), some (aI l1), some (aI l2)] [aI x2] σ1
  refine r_aload_n (pc := 6) hv 4 rfl rfl ?_
  refine r_iload_n (pc := 7) hv 5 rfl rfl ?_
  refine r_iconst (pc := 8) hv 6 rfl  ?_
  refine r_callV (pc := 9) (l := [aI 1, aI l2]) (av := [aI l2, aI 1]) (a := p) (t := [aI x2]) hv 7 rfl rfl rfl rfl (rcv_o (by decide) (isPat_oc h_p)) trivial (hS.1 _ _ _ _ _ (fun r σ3 h => ?_) h)
  obtain ⟨x4, rfl, h⟩ := h
  show v 12 [some (aR p), some (aI l1), some (aI l2)] [aI x4, aI x2] σ3
  refine r_isub (pc := 12) hv 8 rfl  ?_
  refine r_abs (pc := 13) hv 9 rfl rfl trivial ?_
  exact r_ireturn (pc := 16) hv 10 rfl rfl h
def vc_X2_firstLoadOf_0 (S : Sp) (Φ : Rs) (v : Kt) (p : Nat) (l1 : Int32) (σ : St) : Prop := S 27 [aR p, aI l1, aI 2] σ (fun r σ1 => ∃ x2 : Int32, r = [aI x2] ∧ (S 27 [aR p, aI l1, aI 3] σ1 (fun r σ3 => ∃ x4 : Int32, r = [aI x4] ∧ (S 17 [aI x2, aI x4] σ3 (fun r σ5 => ∃ x6 : Int32, r = [aI x6] ∧ (Φ [aI x6] σ5))))))
theorem w_X2_firstLoadOf_0 {S : Sp} (hS : Sys S) {Φ : Rs} {v : Kt} (hv : Cl S Φ k_X2_firstLoadOf v) (hw : Wk v) (p : Nat) (h_p : isPat p) (l1 : Int32) (σ : St) (h : vc_X2_firstLoadOf_0 S Φ v p l1 σ) : v 0 [some (aR p), some (aI l1)] [] σ := by
  unfold vc_X2_firstLoadOf_0 at h
  refine r_aload_n (pc := 0) hv 0 rfl rfl ?_
  refine r_iload_n (pc := 1) hv 1 rfl rfl ?_
  refine r_iconst (pc := 2) hv 2 rfl  ?_
  refine r_callV (pc := 3) (l := [aI 2, aI l1]) (av := [aI l1, aI 2]) (a := p) (t := []) hv 3 rfl rfl rfl rfl (rcv_o (by decide) (isPat_oc h_p)) trivial (hS.1 _ _ _ _ _ (fun r σ1 h => ?_) h)
  obtain ⟨x2, rfl, h⟩ := h
  show v 6 [some (aR p), some (aI l1)] [aI x2] σ1
  refine r_aload_n (pc := 6) hv 4 rfl rfl ?_
  refine r_iload_n (pc := 7) hv 5 rfl rfl ?_
  refine r_iconst (pc := 8) hv 6 rfl  ?_
  refine r_callV (pc := 9) (l := [aI 3, aI l1]) (av := [aI l1, aI 3]) (a := p) (t := [aI x2]) hv 7 rfl rfl rfl rfl (rcv_o (by decide) (isPat_oc h_p)) trivial (hS.1 _ _ _ _ _ (fun r σ3 h => ?_) h)
  obtain ⟨x4, rfl, h⟩ := h
  show v 12 [some (aR p), some (aI l1)] [aI x4, aI x2] σ3
  refine r_callS (pc := 12) (l := [aI x4, aI x2]) (av := [aI x2, aI x4]) (t := []) hv 8 rfl (Or.inl rfl) rfl rfl rfl trivial (hS.1 _ _ _ _ _ (fun r σ5 h => ?_) h)
  obtain ⟨x6, rfl, h⟩ := h
  show v 15 [some (aR p), some (aI l1)] [aI x6] σ5
  exact r_ireturn (pc := 15) hv 9 rfl rfl h
def vc_X2_secondLoadOf_0 (S : Sp) (Φ : Rs) (v : Kt) (p : Nat) (l1 : Int32) (σ : St) : Prop := S 27 [aR p, aI l1, aI 2] σ (fun r σ1 => ∃ x2 : Int32, r = [aI x2] ∧ (S 27 [aR p, aI l1, aI 3] σ1 (fun r σ3 => ∃ x4 : Int32, r = [aI x4] ∧ (S 18 [aI x2, aI x4] σ3 (fun r σ5 => ∃ x6 : Int32, r = [aI x6] ∧ (Φ [aI x6] σ5))))))
theorem w_X2_secondLoadOf_0 {S : Sp} (hS : Sys S) {Φ : Rs} {v : Kt} (hv : Cl S Φ k_X2_secondLoadOf v) (hw : Wk v) (p : Nat) (h_p : isPat p) (l1 : Int32) (σ : St) (h : vc_X2_secondLoadOf_0 S Φ v p l1 σ) : v 0 [some (aR p), some (aI l1)] [] σ := by
  unfold vc_X2_secondLoadOf_0 at h
  refine r_aload_n (pc := 0) hv 0 rfl rfl ?_
  refine r_iload_n (pc := 1) hv 1 rfl rfl ?_
  refine r_iconst (pc := 2) hv 2 rfl  ?_
  refine r_callV (pc := 3) (l := [aI 2, aI l1]) (av := [aI l1, aI 2]) (a := p) (t := []) hv 3 rfl rfl rfl rfl (rcv_o (by decide) (isPat_oc h_p)) trivial (hS.1 _ _ _ _ _ (fun r σ1 h => ?_) h)
  obtain ⟨x2, rfl, h⟩ := h
  show v 6 [some (aR p), some (aI l1)] [aI x2] σ1
  refine r_aload_n (pc := 6) hv 4 rfl rfl ?_
  refine r_iload_n (pc := 7) hv 5 rfl rfl ?_
  refine r_iconst (pc := 8) hv 6 rfl  ?_
  refine r_callV (pc := 9) (l := [aI 3, aI l1]) (av := [aI l1, aI 3]) (a := p) (t := [aI x2]) hv 7 rfl rfl rfl rfl (rcv_o (by decide) (isPat_oc h_p)) trivial (hS.1 _ _ _ _ _ (fun r σ3 h => ?_) h)
  obtain ⟨x4, rfl, h⟩ := h
  show v 12 [some (aR p), some (aI l1)] [aI x4, aI x2] σ3
  refine r_callS (pc := 12) (l := [aI x4, aI x2]) (av := [aI x2, aI x4]) (t := []) hv 8 rfl (Or.inl rfl) rfl rfl rfl trivial (hS.1 _ _ _ _ _ (fun r σ5 h => ?_) h)
  obtain ⟨x6, rfl, h⟩ := h
  show v 15 [some (aR p), some (aI l1)] [aI x6] σ5
  exact r_ireturn (pc := 15) hv 9 rfl rfl h
def vc_X2_loadsOf_0 (S : Sp) (Φ : Rs) (v : Kt) (p : Nat) (l1 : Int32) (σ : St) : Prop := S 41 [aR p, aI l1] σ (fun r σ1 => ∃ x2 : Int32, r = [aI x2] ∧ (S 42 [aR p, aI l1] σ1 (fun r σ3 => ∃ x4 : Int32, r = [aI x4] ∧ (Φ [aI (x2 + x4)] σ3))))
theorem w_X2_loadsOf_0 {S : Sp} (hS : Sys S) {Φ : Rs} {v : Kt} (hv : Cl S Φ k_X2_loadsOf v) (hw : Wk v) (p : Nat) (h_p : isPat p) (l1 : Int32) (σ : St) (h : vc_X2_loadsOf_0 S Φ v p l1 σ) : v 0 [some (aR p), some (aI l1)] [] σ := by
  unfold vc_X2_loadsOf_0 at h
  refine r_aload_n (pc := 0) hv 0 rfl rfl ?_
  refine r_iload_n (pc := 1) hv 1 rfl rfl ?_
  refine r_callV (pc := 2) (l := [aI l1]) (av := [aI l1]) (a := p) (t := []) hv 2 rfl rfl rfl rfl (rcv_o (by decide) (isPat_oc h_p)) trivial (hS.1 _ _ _ _ _ (fun r σ1 h => ?_) h)
  obtain ⟨x2, rfl, h⟩ := h
  show v 5 [some (aR p), some (aI l1)] [aI x2] σ1
  refine r_aload_n (pc := 5) hv 3 rfl rfl ?_
  refine r_iload_n (pc := 6) hv 4 rfl rfl ?_
  refine r_callV (pc := 7) (l := [aI l1]) (av := [aI l1]) (a := p) (t := [aI x2]) hv 5 rfl rfl rfl rfl (rcv_o (by decide) (isPat_oc h_p)) trivial (hS.1 _ _ _ _ _ (fun r σ3 h => ?_) h)
  obtain ⟨x4, rfl, h⟩ := h
  show v 10 [some (aR p), some (aI l1)] [aI x4, aI x2] σ3
  refine r_iadd (pc := 10) hv 6 rfl  ?_
  exact r_ireturn (pc := 11) hv 7 rfl rfl h
def vc_X2_hasShots_0 (S : Sp) (Φ : Rs) (v : Kt) (p : Nat) (l1 : Int32) (σ : St) : Prop := S 27 [aR p, aI l1, aI 2] σ (fun r σ1 => ∃ x2 : Int32, r = [aI x2] ∧ (((x2 : Int32) = 5 → (Φ [aI 0] σ1)) ∧ (¬ ((x2 : Int32) = 5) → (Φ [aI 1] σ1))))
theorem w_X2_hasShots_0 {S : Sp} (hS : Sys S) {Φ : Rs} {v : Kt} (hv : Cl S Φ k_X2_hasShots v) (hw : Wk v) (p : Nat) (h_p : isPat p) (l1 : Int32) (σ : St) (h : vc_X2_hasShots_0 S Φ v p l1 σ) : v 0 [some (aR p), some (aI l1)] [] σ := by
  unfold vc_X2_hasShots_0 at h
  refine r_aload_n (pc := 0) hv 0 rfl rfl ?_
  refine r_iload_n (pc := 1) hv 1 rfl rfl ?_
  refine r_iconst (pc := 2) hv 2 rfl  ?_
  refine r_callV (pc := 3) (l := [aI 2, aI l1]) (av := [aI l1, aI 2]) (a := p) (t := []) hv 3 rfl rfl rfl rfl (rcv_o (by decide) (isPat_oc h_p)) trivial (hS.1 _ _ _ _ _ (fun r σ1 h => ?_) h)
  obtain ⟨x2, rfl, h⟩ := h
  show v 6 [some (aR p), some (aI l1)] [aI x2] σ1
  refine r_iconst (pc := 6) hv 4 rfl  ?_
  refine r_icmp_eq (pc := 7) hv 5 rfl (fun c => ?_) (fun c => ?_)
  · replace h := h.1 c
    refine r_iconst (pc := 14) hv 8 rfl  ?_
    exact r_zreturn (pc := 15) hv 9 rfl rfl (Or.inl rfl) h
  · replace h := h.2 c
    refine r_iconst (pc := 10) hv 6 rfl  ?_
    refine r_goto (pc := 11) hv 7 rfl  ?_
    exact r_zreturn (pc := 15) hv 9 rfl rfl (Or.inr rfl) h
def vc_X2_rockOf_0 (S : Sp) (Φ : Rs) (v : Kt) (p : Nat) (l1 : Int32) (σ : St) : Prop := S 27 [aR p, aI l1, aI 2] σ (fun r σ1 => ∃ x2 : Int32, r = [aI x2] ∧ (S 27 [aR p, aI l1, aI 4] σ1 (fun r σ3 => ∃ x4 : Int32, r = [aI x4] ∧ (S 19 [aI x2, aI x4] σ3 (fun r σ5 => ∃ x6 : Int32, r = [aI x6] ∧ (Φ [aI x6] σ5))))))
theorem w_X2_rockOf_0 {S : Sp} (hS : Sys S) {Φ : Rs} {v : Kt} (hv : Cl S Φ k_X2_rockOf v) (hw : Wk v) (p : Nat) (h_p : isPat p) (l1 : Int32) (σ : St) (h : vc_X2_rockOf_0 S Φ v p l1 σ) : v 0 [some (aR p), some (aI l1)] [] σ := by
  unfold vc_X2_rockOf_0 at h
  refine r_aload_n (pc := 0) hv 0 rfl rfl ?_
  refine r_iload_n (pc := 1) hv 1 rfl rfl ?_
  refine r_iconst (pc := 2) hv 2 rfl  ?_
  refine r_callV (pc := 3) (l := [aI 2, aI l1]) (av := [aI l1, aI 2]) (a := p) (t := []) hv 3 rfl rfl rfl rfl (rcv_o (by decide) (isPat_oc h_p)) trivial (hS.1 _ _ _ _ _ (fun r σ1 h => ?_) h)
  obtain ⟨x2, rfl, h⟩ := h
  show v 6 [some (aR p), some (aI l1)] [aI x2] σ1
  refine r_aload_n (pc := 6) hv 4 rfl rfl ?_
  refine r_iload_n (pc := 7) hv 5 rfl rfl ?_
  refine r_iconst (pc := 8) hv 6 rfl  ?_
  refine r_callV (pc := 9) (l := [aI 4, aI l1]) (av := [aI l1, aI 4]) (a := p) (t := [aI x2]) hv 7 rfl rfl rfl rfl (rcv_o (by decide) (isPat_oc h_p)) trivial (hS.1 _ _ _ _ _ (fun r σ3 h => ?_) h)
  obtain ⟨x4, rfl, h⟩ := h
  show v 12 [some (aR p), some (aI l1)] [aI x4, aI x2] σ3
  refine r_callS (pc := 12) (l := [aI x4, aI x2]) (av := [aI x2, aI x4]) (t := []) hv 8 rfl (Or.inl rfl) rfl rfl rfl trivial (hS.1 _ _ _ _ _ (fun r σ5 h => ?_) h)
  obtain ⟨x6, rfl, h⟩ := h
  show v 15 [some (aR p), some (aI l1)] [aI x6] σ5
  exact r_ireturn (pc := 15) hv 9 rfl rfl h
def vc_X2_needsOf_0 (S : Sp) (Φ : Rs) (v : Kt) (p : Nat) (l1 : Int32) (σ : St) : Prop := S 27 [aR p, aI l1, aI 2] σ (fun r σ1 => ∃ x2 : Int32, r = [aI x2] ∧ (S 27 [aR p, aI l1, aI 4] σ1 (fun r σ3 => ∃ x4 : Int32, r = [aI x4] ∧ (S 20 [aI x2, aI x4] σ3 (fun r σ5 => ∃ x6 : Int32, r = [aI x6] ∧ (Φ [aI x6] σ5))))))
theorem w_X2_needsOf_0 {S : Sp} (hS : Sys S) {Φ : Rs} {v : Kt} (hv : Cl S Φ k_X2_needsOf v) (hw : Wk v) (p : Nat) (h_p : isPat p) (l1 : Int32) (σ : St) (h : vc_X2_needsOf_0 S Φ v p l1 σ) : v 0 [some (aR p), some (aI l1)] [] σ := by
  unfold vc_X2_needsOf_0 at h
  refine r_aload_n (pc := 0) hv 0 rfl rfl ?_
  refine r_iload_n (pc := 1) hv 1 rfl rfl ?_
  refine r_iconst (pc := 2) hv 2 rfl  ?_
  refine r_callV (pc := 3) (l := [aI 2, aI l1]) (av := [aI l1, aI 2]) (a := p) (t := []) hv 3 rfl rfl rfl rfl (rcv_o (by decide) (isPat_oc h_p)) trivial (hS.1 _ _ _ _ _ (fun r σ1 h => ?_) h)
  obtain ⟨x2, rfl, h⟩ := h
  show v 6 [some (aR p), some (aI l1)] [aI x2] σ1
  refine r_aload_n (pc := 6) hv 4 rfl rfl ?_
  refine r_iload_n (pc := 7) hv 5 rfl rfl ?_
  refine r_iconst (pc := 8) hv 6 rfl  ?_
  refine r_callV (pc := 9) (l := [aI 4, aI l1]) (av := [aI l1, aI 4]) (a := p) (t := [aI x2]) hv 7 rfl rfl rfl rfl (rcv_o (by decide) (isPat_oc h_p)) trivial (hS.1 _ _ _ _ _ (fun r σ3 h => ?_) h)
  obtain ⟨x4, rfl, h⟩ := h
  show v 12 [some (aR p), some (aI l1)] [aI x4, aI x2] σ3
  refine r_callS (pc := 12) (l := [aI x4, aI x2]) (av := [aI x2, aI x4]) (t := []) hv 8 rfl (Or.inl rfl) rfl rfl rfl trivial (hS.1 _ _ _ _ _ (fun r σ5 h => ?_) h)
  obtain ⟨x6, rfl, h⟩ := h
  show v 15 [some (aR p), some (aI l1)] [aI x6] σ5
  exact r_ireturn (pc := 15) hv 9 rfl rfl h
