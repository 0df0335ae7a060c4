def vc_X2_copyFrom_0 (S : Sp) (Φ : Rs) (v : Kt) (p : Nat) (q : Nat) (σ : St) : Prop := (¬ (0 : Int32) < 0 ∧ ¬ (0 : Int32) < 0 ∧ ¬ (Int32.ofNat 180 : Int32) < 0 ∧ (0 : Int32).toNatClampNeg + (Int32.ofNat 180 : Int32).toNatClampNeg ≤ 180 ∧ (0 : Int32).toNatClampNeg + (Int32.ofNat 180 : Int32).toNatClampNeg ≤ 180) ∧ (∀ σ1 : St, σ1 = cpI σ (q + 1) (p + 1) (0 : Int32).toNatClampNeg (0 : Int32).toNatClampNeg (Int32.ofNat 180 : Int32).toNatClampNeg → ((¬ (0 : Int32) < 0 ∧ ¬ (0 : Int32) < 0 ∧ ¬ (Int32.ofNat 120 : Int32) < 0 ∧ (0 : Int32).toNatClampNeg + (Int32.ofNat 120 : Int32).toNatClampNeg ≤ 120 ∧ (0 : Int32).toNatClampNeg + (Int32.ofNat 120 : Int32).toNatClampNeg ≤ 120) ∧ (∀ σ2 : St, σ2 = cpI σ1 (q + 2) (p + 2) (0 : Int32).toNatClampNeg (0 : Int32).toNatClampNeg (Int32.ofNat 120 : Int32).toNatClampNeg → ((¬ (0 : Int32) < 0 ∧ ¬ (0 : Int32) < 0 ∧ ¬ (3 : Int32) < 0 ∧ (0 : Int32).toNatClampNeg + (3 : Int32).toNatClampNeg ≤ 3 ∧ (0 : Int32).toNatClampNeg + (3 : Int32).toNatClampNeg ≤ 3) ∧ (∀ σ3 : St, σ3 = cpI σ2 (q + 3) (p + 3) (0 : Int32).toNatClampNeg (0 : Int32).toNatClampNeg (3 : Int32).toNatClampNeg → (∀ σ4 : St, σ4 = upI σ3 p 3 (σ3.1 q 3) → (∀ σ5 : St, σ5 = upI σ4 p 4 (σ4.1 q 4) → (∀ σ6 : St, σ6 = upI σ5 p 5 (σ5.1 q 5) → (Φ [] σ6)))))))))
theorem w_X2_copyFrom_0 {S : Sp} (hS : Sys S) {Φ : Rs} {v : Kt} (hv : Cl S Φ k_X2_copyFrom v) (hw : Wk v) (p : Nat) (q : Nat) (h_p : isPat p) (h_q : isPat q) (σ : St) (h : vc_X2_copyFrom_0 S Φ v p q σ) : v 0 [some (aR p), some (aR q)] [] σ := by
  unfold vc_X2_copyFrom_0 at h
  refine r_aload_n (pc := 0) hv 0 rfl rfl ?_
  refine r_getR (pc := 1) (b := q + 1) hv 1 rfl rfl (isPat_oc h_q) (isPat_c0 h_q) ?_
  refine r_iconst (pc := 4) hv 2 rfl  ?_
  refine r_aload_n (pc := 5) hv 3 rfl rfl ?_
  refine r_getR (pc := 6) (b := p + 1) hv 4 rfl rfl (isPat_oc h_p) (isPat_c0 h_p) ?_
  refine r_iconst (pc := 9) hv 5 rfl  ?_
  refine r_aload_n (pc := 10) hv 6 rfl rfl ?_
  refine r_getR (pc := 11) (b := p + 1) hv 7 rfl rfl (isPat_oc h_p) (isPat_c0 h_p) ?_
  refine r_alen (pc := 14) (N := 180) hv 8 rfl (by rw [(isPat_t1 h_p)]; decide) (isPat_l1 h_p) ?_
  refine r_copyI (pc := 15) hv 9 rfl rfl (isPat_t1 h_q) (isPat_t1 h_p) (isPat_l1 h_q) (isPat_l1 h_p) trivial h.1.1 h.1.2.1 h.1.2.2.1 h.1.2.2.2.1 h.1.2.2.2.2 ?_
  replace h := h.2
  obtain ⟨σ1, e_σ1⟩ : ∃ y : St, y = cpI σ (q + 1) (p + 1) (0 : Int32).toNatClampNeg (0 : Int32).toNatClampNeg (Int32.ofNat 180 : Int32).toNatClampNeg := ⟨_, rfl⟩
  rw [← e_σ1]
  replace h := h σ1 e_σ1
  refine r_aload_n (pc := 18) hv 10 rfl rfl ?_
  refine r_getR (pc := 19) (b := q + 2) hv 11 rfl rfl (isPat_oc h_q) (isPat_c1 h_q) ?_
  refine r_iconst (pc := 22) hv 12 rfl  ?_
  refine r_aload_n (pc := 23) hv 13 rfl rfl ?_
  refine r_getR (pc := 24) (b := p + 2) hv 14 rfl rfl (isPat_oc h_p) (isPat_c1 h_p) ?_
  refine r_iconst (pc := 27) hv 15 rfl  ?_
  refine r_aload_n (pc := 28) hv 16 rfl rfl ?_
  refine r_getR (pc := 29) (b := p + 2) hv 17 rfl rfl (isPat_oc h_p) (isPat_c1 h_p) ?_
  refine r_alen (pc := 32) (N := 120) hv 18 rfl (by rw [(isPat_t2 h_p)]; decide) (isPat_l2 h_p) ?_
  refine r_copyI (pc := 33) hv 19 rfl rfl (isPat_t2 h_q) (isPat_t2 h_p) (isPat_l2 h_q) (isPat_l2 h_p) trivial h.1.1 h.1.2.1 h.1.2.2.1 h.1.2.2.2.1 h.1.2.2.2.2 ?_
  replace h := h.2
  obtain ⟨σ2, e_σ2⟩ : ∃ y : St, y = cpI σ1 (q + 2) (p + 2) (0 : Int32).toNatClampNeg (0 : Int32).toNatClampNeg (Int32.ofNat 120 : Int32).toNatClampNeg := ⟨_, rfl⟩
  rw [← e_σ2]
  replace h := h σ2 e_σ2
  refine r_aload_n (pc := 36) hv 20 rfl rfl ?_
  refine r_getR (pc := 37) (b := q + 3) hv 21 rfl rfl (isPat_oc h_q) (isPat_c2 h_q) ?_
  refine r_iconst (pc := 40) hv 22 rfl  ?_
  refine r_aload_n (pc := 41) hv 23 rfl rfl ?_
  refine r_getR (pc := 42) (b := p + 3) hv 24 rfl rfl (isPat_oc h_p) (isPat_c2 h_p) ?_
  refine r_iconst (pc := 45) hv 25 rfl  ?_
  refine r_iconst (pc := 46) hv 26 rfl  ?_
  refine r_copyI (pc := 47) hv 27 rfl rfl (isPat_t3 h_q) (isPat_t3 h_p) (isPat_l3 h_q) (isPat_l3 h_p) trivial h.1.1 h.1.2.1 h.1.2.2.1 h.1.2.2.2.1 h.1.2.2.2.2 ?_
  replace h := h.2
  obtain ⟨σ3, e_σ3⟩ : ∃ y : St, y = cpI σ2 (q + 3) (p + 3) (0 : Int32).toNatClampNeg (0 : Int32).toNatClampNeg (3 : Int32).toNatClampNeg := ⟨_, rfl⟩
  rw [← e_σ3]
  replace h := h σ3 e_σ3
  refine r_aload_n (pc := 50) hv 28 rfl rfl ?_
  refine r_aload_n (pc := 51) hv 29 rfl rfl ?_
  refine r_getI (pc := 52) hv 30 rfl rfl (isPat_oc h_q) ?_
  refine r_putI (pc := 55) hv 31 rfl rfl (isPat_oc h_p) ?_
  obtain ⟨σ4, e_σ4⟩ : ∃ y : St, y = upI σ3 p 3 (σ3.1 q 3) := ⟨_, rfl⟩
  rw [← e_σ4]
  replace h := h σ4 e_σ4
  refine r_aload_n (pc := 58) hv 32 rfl rfl ?_
  refine r_aload_n (pc := 59) hv 33 rfl rfl ?_
  refine r_getI (pc := 60) hv 34 rfl rfl (isPat_oc h_q) ?_
  refine r_putI (pc := 63) hv 35 rfl rfl (isPat_oc h_p) ?_
  obtain ⟨σ5, e_σ5⟩ : ∃ y : St, y = upI σ4 p 4 (σ4.1 q 4) := ⟨_, rfl⟩
  rw [← e_σ5]
  replace h := h σ5 e_σ5
  refine r_aload_n (pc := 66) hv 36 rfl rfl ?_
  refine r_aload_n (pc := 67) hv 37 rfl rfl ?_
  refine r_getI (pc := 68) hv 38 rfl rfl (isPat_oc h_q) ?_
  refine r_putI (pc := 71) hv 39 rfl rfl (isPat_oc h_p) ?_
  obtain ⟨σ6, e_σ6⟩ : ∃ y : St, y = upI σ5 p 5 (σ5.1 q 5) := ⟨_, rfl⟩
  rw [← e_σ6]
  replace h := h σ6 e_σ6
  exact r_return (pc := 74) hv 40 rfl h
theorem m_X2_copyFrom {S : Sp} (hS : Sys S) {p : Nat} (h_p : isPat p) {q : Nat} (h_q : isPat q) {σ : St} {Φ : Rs} (h : ∀ v : Kt, Cl S Φ k_X2_copyFrom v → Wk v → vc_X2_copyFrom_0 S Φ v p q σ) : S 23 [aR p, aR q] σ Φ :=
  hS.2 23 M_X2_copyFrom k_X2_copyFrom _ _ _ mkt_X2_copyFrom (Nat.le_of_ble_eq_true rfl) (fun v hv hw => w_X2_copyFrom_0 hS hv hw p q h_p h_q  σ (h v hv hw))
def vc_X2_addHole_0 (S : Sp) (Φ : Rs) (v : Kt) (p : Nat) (l1 : Int32) (l2 : Int32) (l3 : Int32) (l4 : Int32) (l5 : Int32) (l6 : Int32) (σ : St) : Prop := ((b2 (¬ (0 : Int32) < 0 ∧ ¬ 6 < (0 : Int32) ∧ ¬ (l1 : Int32) < sv 101 (0 : Int32).toNatClampNeg ∧ ¬ sv 102 (0 : Int32).toNatClampNeg < (l1 : Int32)) : Int32) = 0 → (Φ [aI (-2)] σ)) ∧ (¬ ((b2 (¬ (0 : Int32) < 0 ∧ ¬ 6 < (0 : Int32) ∧ ¬ (l1 : Int32) < sv 101 (0 : Int32).toNatClampNeg ∧ ¬ sv 102 (0 : Int32).toNatClampNeg < (l1 : Int32)) : Int32) = 0) → (((b2 (¬ (1 : Int32) < 0 ∧ ¬ 6 < (1 : Int32) ∧ ¬ (l2 : Int32) < sv 101 (1 : Int32).toNatClampNeg ∧ ¬ sv 102 (1 : Int32).toNatClampNeg < (l2 : Int32)) : Int32) = 0 → (Φ [aI (-2)] σ)) ∧ (¬ ((b2 (¬ (1 : Int32) < 0 ∧ ¬ 6 < (1 : Int32) ∧ ¬ (l2 : Int32) < sv 101 (1 : Int32).toNatClampNeg ∧ ¬ sv 102 (1 : Int32).toNatClampNeg < (l2 : Int32)) : Int32) = 0) → ((¬ (b2 (¬ (2 : Int32) < 0 ∧ ¬ 6 < (2 : Int32) ∧ ¬ (l3 : Int32) < sv 101 (2 : Int32).toNatClampNeg ∧ ¬ sv 102 (2 : Int32).toNatClampNeg < (l3 : Int32)) : Int32) = 0 → (((b2 (¬ (3 : Int32) < 0 ∧ ¬ 6 < (3 : Int32) ∧ ¬ (l4 : Int32) < sv 101 (3 : Int32).toNatClampNeg ∧ ¬ sv 102 (3 : Int32).toNatClampNeg < (l4 : Int32)) : Int32) = 0 → (Φ [aI (-2)] σ)) ∧ (¬ ((b2 (¬ (3 : Int32) < 0 ∧ ¬ 6 < (3 : Int32) ∧ ¬ (l4 : Int32) < sv 101 (3 : Int32).toNatClampNeg ∧ ¬ sv 102 (3 : Int32).toNatClampNeg < (l4 : Int32)) : Int32) = 0) → (((b2 (¬ (4 : Int32) < 0 ∧ ¬ 6 < (4 : Int32) ∧ ¬ (l5 : Int32) < sv 101 (4 : Int32).toNatClampNeg ∧ ¬ sv 102 (4 : Int32).toNatClampNeg < (l5 : Int32)) : Int32) = 0 → (Φ [aI (-2)] σ)) ∧ (¬ ((b2 (¬ (4 : Int32) < 0 ∧ ¬ 6 < (4 : Int32) ∧ ¬ (l5 : Int32) < sv 101 (4 : Int32).toNatClampNeg ∧ ¬ sv 102 (4 : Int32).toNatClampNeg < (l5 : Int32)) : Int32) = 0) → ((¬ (b2 (¬ (5 : Int32) < 0 ∧ ¬ 6 < (5 : Int32) ∧ ¬ (l6 : Int32) < sv 101 (5 : Int32).toNatClampNeg ∧ ¬ sv 102 (5 : Int32).toNatClampNeg < (l6 : Int32)) : Int32) = 0 → (S 37 [aR p, aI l1, aI l2] σ (fun r σ1 => ∃ x2 : Int32, r = [aI x2] ∧ (((x2 : Int32) = (-1) → (((σ1.1 p 3 : Int32) < 20 → (vp_in (((σ1.1 p 3) * 9) + 0) 180 ∧ (∀ σ3 : St, σ3 = upI σ1 (p + 1) (((σ1.1 p 3) * 9) + 0 : Int32).toNatClampNeg l1 → (vp_in (((σ1.1 p 3) * 9) + 1) 180 ∧ (∀ σ4 : St, σ4 = upI σ3 (p + 1) (((σ1.1 p 3) * 9) + 1 : Int32).toNatClampNeg l2 → (vp_in (((σ1.1 p 3) * 9) + 2) 180 ∧ (∀ σ5 : St, σ5 = upI σ4 (p + 1) (((σ1.1 p 3) * 9) + 2 : Int32).toNatClampNeg l3 → (vp_in (((σ1.1 p 3) * 9) + 3) 180 ∧ (∀ σ6 : St, σ6 = upI σ5 (p + 1) (((σ1.1 p 3) * 9) + 3 : Int32).toNatClampNeg l4 → (vp_in (((σ1.1 p 3) * 9) + 4) 180 ∧ (∀ σ7 : St, σ7 = upI σ6 (p + 1) (((σ1.1 p 3) * 9) + 4 : Int32).toNatClampNeg l5 → (vp_in (((σ1.1 p 3) * 9) + 5) 180 ∧ (∀ σ8 : St, σ8 = upI σ7 (p + 1) (((σ1.1 p 3) * 9) + 5 : Int32).toNatClampNeg l6 → (vp_in (((σ1.1 p 3) * 9) + 6) 180 ∧ (∀ σ9 : St, σ9 = upI σ8 (p + 1) (((σ1.1 p 3) * 9) + 6 : Int32).toNatClampNeg 0 → (S 21 [aI l1, aI l3, aI l5] σ9 (fun r σ10 => ∃ x11 : Int32, r = [aI x11] ∧ (vp_in (((σ1.1 p 3) * 9) + 7) 180 ∧ (∀ σ12 : St, σ12 = upI σ10 (p + 1) (((σ1.1 p 3) * 9) + 7 : Int32).toNatClampNeg x11 → (vp_in (((σ1.1 p 3) * 9) + 8) 180 ∧ (∀ σ13 : St, σ13 = upI σ12 (p + 1) (((σ1.1 p 3) * 9) + 8 : Int32).toNatClampNeg 0 → (S 30 [aR p, aI (σ13.1 p 3)] σ13 (fun r σ14 => r = [] ∧ (∀ σ15 : St, σ15 = upI σ14 p 3 ((σ14.1 p 3) + 1) → (Φ [aI ((σ15.1 p 3) - 1)] σ15))))))))))))))))))))))))) ∧ (¬ ((σ1.1 p 3 : Int32) < 20) → (Φ [aI (-4)] σ1)))) ∧ (¬ ((x2 : Int32) = (-1)) → (Φ [aI (-3)] σ1)))))) ∧ ((b2 (¬ (5 : Int32) < 0 ∧ ¬ 6 < (5 : Int32) ∧ ¬ (l6 : Int32) < sv 101 (5 : Int32).toNatClampNeg ∧ ¬ sv 102 (5 : Int32).toNatClampNeg < (l6 : Int32)) : Int32) = 0 → (Φ [aI (-2)] σ)))))))) ∧ ((b2 (¬ (2 : Int32) < 0 ∧ ¬ 6 < (2 : Int32) ∧ ¬ (l3 : Int32) < sv 101 (2 : Int32).toNatClampNeg ∧ ¬ sv 102 (2 : Int32).toNatClampNeg < (l3 : Int32)) : Int32) = 0 → (Φ [aI (-2)] σ))))))
theorem w_X2_addHole_0 {S : Sp} (hS : Sys S) {Φ : Rs} {v : Kt} (hv : Cl S Φ k_X2_addHole v) (hw : Wk v) (p : Nat) (h_p : isPat p) (l1 : Int32) (l2 : Int32) (l3 : Int32) (l4 : Int32) (l5 : Int32) (l6 : Int32) (σ : St) (h : vc_X2_addHole_0 S Φ v p l1 l2 l3 l4 l5 l6 σ) : v 0 [some (aR p), some (aI l1), some (aI l2), some (aI l3), some (aI l4), some (aI l5), some (aI l6), none] [] σ := by
  unfold vc_X2_addHole_0 at h
  refine r_iconst (pc := 0) hv 0 rfl  ?_
  refine r_iload_n (pc := 1) hv 1 rfl rfl ?_
  refine r_callS (pc := 2) (l := [aI l1, aI 0]) (av := [aI 0, aI l1]) (t := []) hv 2 rfl (Or.inl rfl) rfl rfl rfl trivial (t_X2_fits hS ?_)
  show v 5 [some (aR p), some (aI l1), some (aI l2), some (aI l3), some (aI l4), some (aI l5), some (aI l6), none] [aI (b2 (¬ (0 : Int32) < 0 ∧ ¬ 6 < (0 : Int32) ∧ ¬ (l1 : Int32) < sv 101 (0 : Int32).toNatClampNeg ∧ ¬ sv 102 (0 : Int32).toNatClampNeg < (l1 : Int32)))] σ
  refine r_if_eq (pc := 5) hv 3 rfl (fun c => ?_) (fun c => ?_)
  · replace h := h.1 c
    refine r_bipush (pc := 24) hv 12 rfl  ?_
    exact r_ireturn (pc := 26) hv 13 rfl rfl h
  · replace h := h.2 c
    refine r_iconst (pc := 8) hv 4 rfl  ?_
    refine r_iload_n (pc := 9) hv 5 rfl rfl ?_
    refine r_callS (pc := 10) (l := [aI l2, aI 1]) (av := [aI 1, aI l2]) (t := []) hv 6 rfl (Or.inl rfl) rfl rfl rfl trivial (t_X2_fits hS ?_)
    show v 13 [some (aR p), some (aI l1), some (aI l2), some (aI l3), some (aI l4), some (aI l5), some (aI l6), none] [aI (b2 (¬ (1 : Int32) < 0 ∧ ¬ 6 < (1 : Int32) ∧ ¬ (l2 : Int32) < sv 101 (1 : Int32).toNatClampNeg ∧ ¬ sv 102 (1 : Int32).toNatClampNeg < (l2 : Int32)))] σ
    refine r_if_eq (pc := 13) hv 7 rfl (fun c => ?_) (fun c => ?_)
    · replace h := h.1 c
      refine r_bipush (pc := 24) hv 12 rfl  ?_
      exact r_ireturn (pc := 26) hv 13 rfl rfl h
    · replace h := h.2 c
      refine r_iconst (pc := 16) hv 8 rfl  ?_
      refine r_iload_n (pc := 17) hv 9 rfl rfl ?_
      refine r_callS (pc := 18) (l := [aI l3, aI 2]) (av := [aI 2, aI l3]) (t := []) hv 10 rfl (Or.inl rfl) rfl rfl rfl trivial (t_X2_fits hS ?_)
      show v 21 [some (aR p), some (aI l1), some (aI l2), some (aI l3), some (aI l4), some (aI l5), some (aI l6), none] [aI (b2 (¬ (2 : Int32) < 0 ∧ ¬ 6 < (2 : Int32) ∧ ¬ (l3 : Int32) < sv 101 (2 : Int32).toNatClampNeg ∧ ¬ sv 102 (2 : Int32).toNatClampNeg < (l3 : Int32)))] σ
      refine r_if_ne (pc := 21) hv 11 rfl (fun c => ?_) (fun c => ?_)
      · replace h := h.1 c
        refine r_iconst (pc := 27) hv 14 rfl  ?_
        refine r_iload (pc := 28) hv 15 rfl rfl ?_
        refine r_callS (pc := 30) (l := [aI l4, aI 3]) (av := [aI 3, aI l4]) (t := []) hv 16 rfl (Or.inl rfl) rfl rfl rfl trivial (t_X2_fits hS ?_)
        show v 33 [some (aR p), some (aI l1), some (aI l2), some (aI l3), some (aI l4), some (aI l5), some (aI l6), none] [aI (b2 (¬ (3 : Int32) < 0 ∧ ¬ 6 < (3 : Int32) ∧ ¬ (l4 : Int32) < sv 101 (3 : Int32).toNatClampNeg ∧ ¬ sv 102 (3 : Int32).toNatClampNeg < (l4 : Int32)))] σ
        refine r_if_eq (pc := 33) hv 17 rfl (fun c => ?_) (fun c => ?_)
        · replace h := h.1 c
          refine r_bipush (pc := 54) hv 26 rfl  ?_
          exact r_ireturn (pc := 56) hv 27 rfl rfl h
        · replace h := h.2 c
          refine r_iconst (pc := 36) hv 18 rfl  ?_
          refine r_iload (pc := 37) hv 19 rfl rfl ?_
          refine r_callS (pc := 39) (l := [aI l5, aI 4]) (av := [aI 4, aI l5]) (t := []) hv 20 rfl (Or.inl rfl) rfl rfl rfl trivial (t_X2_fits hS ?_)
          show v 42 [some (aR p), some (aI l1), some (aI l2), some (aI l3), some (aI l4), some (aI l5), some (aI l6), none] [aI (b2 (¬ (4 : Int32) < 0 ∧ ¬ 6 < (4 : Int32) ∧ ¬ (l5 : Int32) < sv 101 (4 : Int32).toNatClampNeg ∧ ¬ sv 102 (4 : Int32).toNatClampNeg < (l5 : Int32)))] σ
          refine r_if_eq (pc := 42) hv 21 rfl (fun c => ?_) (fun c => ?_)
          · replace h := h.1 c
            refine r_bipush (pc := 54) hv 26 rfl  ?_
            exact r_ireturn (pc := 56) hv 27 rfl rfl h
          · replace h := h.2 c
            refine r_iconst (pc := 45) hv 22 rfl  ?_
            refine r_iload (pc := 46) hv 23 rfl rfl ?_
            refine r_callS (pc := 48) (l := [aI l6, aI 5]) (av := [aI 5, aI l6]) (t := []) hv 24 rfl (Or.inl rfl) rfl rfl rfl trivial (t_X2_fits hS ?_)
            show v 51 [some (aR p), some (aI l1), some (aI l2), some (aI l3), some (aI l4), some (aI l5), some (aI l6), none] [aI (b2 (¬ (5 : Int32) < 0 ∧ ¬ 6 < (5 : Int32) ∧ ¬ (l6 : Int32) < sv 101 (5 : Int32).toNatClampNeg ∧ ¬ sv 102 (5 : Int32).toNatClampNeg < (l6 : Int32)))] σ
            refine r_if_ne (pc := 51) hv 25 rfl (fun c => ?_) (fun c => ?_)
            · replace h := h.1 c
              refine r_aload_n (pc := 57) hv 28 rfl rfl ?_
              refine r_iload_n (pc := 58) hv 29 rfl rfl ?_
              refine r_iload_n (pc := 59) hv 30 rfl rfl ?_
              refine r_callV (pc := 60) (l := [aI l2, aI l1]) (av := [aI l1, aI l2]) (a := p) (t := []) hv 31 rfl rfl rfl rfl (rcv_o (by decide) (isPat_oc h_p)) trivial (hS.1 _ _ _ _ _ (fun r σ1 h => ?_) h)
              obtain ⟨x2, rfl, h⟩ := h
              show v 63 [some (aR p), some (aI l1), some (aI l2), some (aI l3), some (aI l4), some (aI l5), some (aI l6), none] [aI x2] σ1
              refine r_iconst (pc := 63) hv 32 rfl  ?_
              refine r_icmp_eq (pc := 64) hv 33 rfl (fun c => ?_) (fun c => ?_)
              · replace h := h.1 c
                refine r_aload_n (pc := 70) hv 36 rfl rfl ?_
                refine r_getI (pc := 71) hv 37 rfl rfl (isPat_oc h_p) ?_
                refine r_bipush (pc := 74) hv 38 rfl  ?_
                refine r_icmp_lt (pc := 76) hv 39 rfl (fun c => ?_) (fun c => ?_)
                · replace h := h.1 c
                  refine r_aload_n (pc := 82) hv 42 rfl rfl ?_
                  refine r_getI (pc := 83) hv 43 rfl rfl (isPat_oc h_p) ?_
                  refine r_bipush (pc := 86) hv 44 rfl  ?_
                  refine r_imul (pc := 88) hv 45 rfl  ?_
                  refine r_istore (pc := 89) (lo' := [some (aR p), some (aI l1), some (aI l2), some (aI l3), some (aI l4), some (aI l5), some (aI l6), some (aI ((σ1.1 p 3) * 9))]) hv 46 rfl rfl ?_
                  refine r_aload_n (pc := 91) hv 47 rfl rfl ?_
                  refine r_getR (pc := 92) (b := p + 1) hv 48 rfl rfl (isPat_oc h_p) (isPat_c0 h_p) ?_
                  refine r_iload (pc := 95) hv 49 rfl rfl ?_
                  refine r_iconst (pc := 97) hv 50 rfl  ?_
                  refine r_iadd (pc := 98) hv 51 rfl  ?_
                  refine r_iload_n (pc := 99) hv 52 rfl rfl ?_
                  refine r_iastore (pc := 100) (N := 180) hv 53 rfl (isPat_t1 h_p) (isPat_l1 h_p) h.1 ?_
                  replace h := h.2
                  obtain ⟨σ3, e_σ3⟩ : ∃ y : St, y = upI σ1 (p + 1) (((σ1.1 p 3) * 9) + 0 : Int32).toNatClampNeg l1 := ⟨_, rfl⟩
                  rw [← e_σ3]
                  replace h := h σ3 e_σ3
                  refine r_aload_n (pc := 101) hv 54 rfl rfl ?_
                  refine r_getR (pc := 102) (b := p + 1) hv 55 rfl rfl (isPat_oc h_p) (isPat_c0 h_p) ?_
                  refine r_iload (pc := 105) hv 56 rfl rfl ?_
                  refine r_iconst (pc := 107) hv 57 rfl  ?_
                  refine r_iadd (pc := 108) hv 58 rfl  ?_
                  refine r_iload_n (pc := 109) hv 59 rfl rfl ?_
                  refine r_iastore (pc := 110) (N := 180) hv 60 rfl (isPat_t1 h_p) (isPat_l1 h_p) h.1 ?_
                  replace h := h.2
                  obtain ⟨σ4, e_σ4⟩ : ∃ y : St, y = upI σ3 (p + 1) (((σ1.1 p 3) * 9) + 1 : Int32).toNatClampNeg l2 := ⟨_, rfl⟩
                  rw [← e_σ4]
                  replace h := h σ4 e_σ4
                  refine r_aload_n (pc := 111) hv 61 rfl rfl ?_
                  refine r_getR (pc := 112) (b := p + 1) hv 62 rfl rfl (isPat_oc h_p) (isPat_c0 h_p) ?_
                  refine r_iload (pc := 115) hv 63 rfl rfl ?_
                  refine r_iconst (pc := 117) hv 64 rfl  ?_
                  refine r_iadd (pc := 118) hv 65 rfl  ?_
                  refine r_iload_n (pc := 119) hv 66 rfl rfl ?_
                  refine r_iastore (pc := 120) (N := 180) hv 67 rfl (isPat_t1 h_p) (isPat_l1 h_p) h.1 ?_
                  replace h := h.2
                  obtain ⟨σ5, e_σ5⟩ : ∃ y : St, y = upI σ4 (p + 1) (((σ1.1 p 3) * 9) + 2 : Int32).toNatClampNeg l3 := ⟨_, rfl⟩
                  rw [← e_σ5]
                  replace h := h σ5 e_σ5
                  refine r_aload_n (pc := 121) hv 68 rfl rfl ?_
                  refine r_getR (pc := 122) (b := p + 1) hv 69 rfl rfl (isPat_oc h_p) (isPat_c0 h_p) ?_
                  refine r_iload (pc := 125) hv 70 rfl rfl ?_
                  refine r_iconst (pc := 127) hv 71 rfl  ?_
                  refine r_iadd (pc := 128) hv 72 rfl  ?_
                  refine r_iload (pc := 129) hv 73 rfl rfl ?_
                  refine r_iastore (pc := 131) (N := 180) hv 74 rfl (isPat_t1 h_p) (isPat_l1 h_p) h.1 ?_
                  replace h := h.2
                  obtain ⟨σ6, e_σ6⟩ : ∃ y : St, y = upI σ5 (p + 1) (((σ1.1 p 3) * 9) + 3 : Int32).toNatClampNeg l4 := ⟨_, rfl⟩
                  rw [← e_σ6]
                  replace h := h σ6 e_σ6
                  refine r_aload_n (pc := 132) hv 75 rfl rfl ?_
                  refine r_getR (pc := 133) (b := p + 1) hv 76 rfl rfl (isPat_oc h_p) (isPat_c0 h_p) ?_
                  refine r_iload (pc := 136) hv 77 rfl rfl ?_
                  refine r_iconst (pc := 138) hv 78 rfl  ?_
                  refine r_iadd (pc := 139) hv 79 rfl  ?_
                  refine r_iload (pc := 140) hv 80 rfl rfl ?_
                  refine r_iastore (pc := 142) (N := 180) hv 81 rfl (isPat_t1 h_p) (isPat_l1 h_p) h.1 ?_
                  replace h := h.2
                  obtain ⟨σ7, e_σ7⟩ : ∃ y : St, y = upI σ6 (p + 1) (((σ1.1 p 3) * 9) + 4 : Int32).toNatClampNeg l5 := ⟨_, rfl⟩
                  rw [← e_σ7]
                  replace h := h σ7 e_σ7
                  refine r_aload_n (pc := 143) hv 82 rfl rfl ?_
                  refine r_getR (pc := 144) (b := p + 1) hv 83 rfl rfl (isPat_oc h_p) (isPat_c0 h_p) ?_
                  refine r_iload (pc := 147) hv 84 rfl rfl ?_
                  refine r_iconst (pc := 149) hv 85 rfl  ?_
                  refine r_iadd (pc := 150) hv 86 rfl  ?_
                  refine r_iload (pc := 151) hv 87 rfl rfl ?_
                  refine r_iastore (pc := 153) (N := 180) hv 88 rfl (isPat_t1 h_p) (isPat_l1 h_p) h.1 ?_
                  replace h := h.2
                  obtain ⟨σ8, e_σ8⟩ : ∃ y : St, y = upI σ7 (p + 1) (((σ1.1 p 3) * 9) + 5 : Int32).toNatClampNeg l6 := ⟨_, rfl⟩
                  rw [← e_σ8]
                  replace h := h σ8 e_σ8
                  refine r_aload_n (pc := 154) hv 89 rfl rfl ?_
                  refine r_getR (pc := 155) (b := p + 1) hv 90 rfl rfl (isPat_oc h_p) (isPat_c0 h_p) ?_
                  refine r_iload (pc := 158) hv 91 rfl rfl ?_
                  refine r_bipush (pc := 160) hv 92 rfl  ?_
                  refine r_iadd (pc := 162) hv 93 rfl  ?_
                  refine r_iconst (pc := 163) hv 94 rfl  ?_
                  refine r_iastore (pc := 164) (N := 180) hv 95 rfl (isPat_t1 h_p) (isPat_l1 h_p) h.1 ?_
                  replace h := h.2
                  obtain ⟨σ9, e_σ9⟩ : ∃ y : St, y = upI σ8 (p + 1) (((σ1.1 p 3) * 9) + 6 : Int32).toNatClampNeg 0 := ⟨_, rfl⟩
                  rw [← e_σ9]
                  replace h := h σ9 e_σ9
                  refine r_aload_n (pc := 165) hv 96 rfl rfl ?_
                  refine r_getR (pc := 166) (b := p + 1) hv 97 rfl rfl (isPat_oc h_p) (isPat_c0 h_p) ?_
                  refine r_iload (pc := 169) hv 98 rfl rfl ?_
                  refine r_bipush (pc := 171) hv 99 rfl  ?_
                  refine r_iadd (pc := 173) hv 100 rfl  ?_
                  refine r_iload_n (pc := 174) hv 101 rfl rfl ?_
                  refine r_iload_n (pc := 175) hv 102 rfl rfl ?_
                  refine r_iload (pc := 176) hv 103 rfl rfl ?_
                  refine r_callS (pc := 178) (l := [aI l5, aI l3, aI l1]) (av := [aI l1, aI l3, aI l5]) (t := [aI (((σ1.1 p 3) * 9) + 7), aR (p + 1)]) hv 104 rfl (Or.inl rfl) rfl rfl rfl trivial (hS.1 _ _ _ _ _ (fun r σ10 h => ?_) h)
                  obtain ⟨x11, rfl, h⟩ := h
                  show v 181 [some (aR p), some (aI l1), some (aI l2), some (aI l3), some (aI l4), some (aI l5), some (aI l6), some (aI ((σ1.1 p 3) * 9))] [aI x11, aI (((σ1.1 p 3) * 9) + 7), aR (p + 1)] σ10
                  refine r_iastore (pc := 181) (N := 180) hv 105 rfl (isPat_t1 h_p) (isPat_l1 h_p) h.1 ?_
                  replace h := h.2
                  obtain ⟨σ12, e_σ12⟩ : ∃ y : St, y = upI σ10 (p + 1) (((σ1.1 p 3) * 9) + 7 : Int32).toNatClampNeg x11 := ⟨_, rfl⟩
                  rw [← e_σ12]
                  replace h := h σ12 e_σ12
                  refine r_aload_n (pc := 182) hv 106 rfl rfl ?_
                  refine r_getR (pc := 183) (b := p + 1) hv 107 rfl rfl (isPat_oc h_p) (isPat_c0 h_p) ?_
                  refine r_iload (pc := 186) hv 108 rfl rfl ?_
                  refine r_bipush (pc := 188) hv 109 rfl  ?_
                  refine r_iadd (pc := 190) hv 110 rfl  ?_
                  refine r_iconst (pc := 191) hv 111 rfl  ?_
                  refine r_iastore (pc := 192) (N := 180) hv 112 rfl (isPat_t1 h_p) (isPat_l1 h_p) h.1 ?_
                  replace h := h.2
                  obtain ⟨σ13, e_σ13⟩ : ∃ y : St, y = upI σ12 (p + 1) (((σ1.1 p 3) * 9) + 8 : Int32).toNatClampNeg 0 := ⟨_, rfl⟩
                  rw [← e_σ13]
                  replace h := h σ13 e_σ13
                  refine r_aload_n (pc := 193) hv 113 rfl rfl ?_
                  refine r_aload_n (pc := 194) hv 114 rfl rfl ?_
                  refine r_getI (pc := 195) hv 115 rfl rfl (isPat_oc h_p) ?_
                  refine r_callV (pc := 198) (l := [aI (σ13.1 p 3)]) (av := [aI (σ13.1 p 3)]) (a := p) (t := []) hv 116 rfl rfl rfl rfl (rcv_o (by decide) (isPat_oc h_p)) trivial (hS.1 _ _ _ _ _ (fun r σ14 h => ?_) h)
                  obtain ⟨rfl, h⟩ := h
                  show v 201 [some (aR p), some (aI l1), some (aI l2), some (aI l3), some (aI l4), some (aI l5), some (aI l6), some (aI ((σ1.1 p 3) * 9))] [] σ14
                  refine r_aload_n (pc := 201) hv 117 rfl rfl ?_
                  refine r_dup (pc := 202) hv 118 rfl trivial ?_
                  refine r_getI (pc := 203) hv 119 rfl rfl (isPat_oc h_p) ?_
                  refine r_iconst (pc := 206) hv 120 rfl  ?_
                  refine r_iadd (pc := 207) hv 121 rfl  ?_
                  refine r_putI (pc := 208) hv 122 rfl rfl (isPat_oc h_p) ?_
                  obtain ⟨σ15, e_σ15⟩ : ∃ y : St, y = upI σ14 p 3 ((σ14.1 p 3) + 1) := ⟨_, rfl⟩
                  rw [← e_σ15]
                  replace h := h σ15 e_σ15
                  refine r_aload_n (pc := 211) hv 123 rfl rfl ?_
                  refine r_getI (pc := 212) hv 124 rfl rfl (isPat_oc h_p) ?_
                  refine r_iconst (pc := 215) hv 125 rfl  ?_
                  refine r_isub (pc := 216) hv 126 rfl  ?_
                  exact r_ireturn (pc := 217) hv 127 rfl rfl h
                · replace h := h.2 c
                  refine r_bipush (pc := 79) hv 40 rfl  ?_
                  exact r_ireturn (pc := 81) hv 41 rfl rfl h
              · replace h := h.2 c
                refine r_bipush (pc := 67) hv 34 rfl  ?_
                exact r_ireturn (pc := 69) hv 35 rfl rfl h
            · replace h := h.2 c
              refine r_bipush (pc := 54) hv 26 rfl  ?_
              exact r_ireturn (pc := 56) hv 27 rfl rfl h
      · replace h := h.2 c
        refine r_bipush (pc := 24) hv 12 rfl  ?_
        exact r_ireturn (pc := 26) hv 13 rfl rfl h
theorem m_X2_addHole {S : Sp} (hS : Sys S) {p : Nat} (h_p : isPat p) {l1 : Int32} {l2 : Int32} {l3 : Int32} {l4 : Int32} {l5 : Int32} {l6 : Int32} {σ : St} {Φ : Rs} (h : ∀ v : Kt, Cl S Φ k_X2_addHole v → Wk v → vc_X2_addHole_0 S Φ v p l1 l2 l3 l4 l5 l6 σ) : S 29 [aR p, aI l1, aI l2, aI l3, aI l4, aI l5, aI l6] σ Φ :=
  hS.2 29 M_X2_addHole k_X2_addHole _ _ _ mkt_X2_addHole (Nat.le_of_ble_eq_true rfl) (fun v hv hw => w_X2_addHole_0 hS hv hw p h_p l1 l2 l3 l4 l5 l6 σ (h v hv hw))
def vc_X2_markAhead_35 (S : Sp) (Φ : Rs) (v : Kt) (p : Nat) (l1 : Int32) (l2 : Int32) (σ : St) : Prop := S 31 [aR p, aI l1, aI l2] σ (fun r σ1 => ∃ x2 : Int32, r = [aI x2] ∧ (((x2 : Int32) = 0 → (v 2 [some (aR p), some (aI l1), some (aI (l2 + 1))] [] σ1)) ∧ (¬ ((x2 : Int32) = 0) → (vp_in ((l2 * 9) + 8) 180 ∧ (vp_in ((l2 * 9) + 8) 180 ∧ (∀ σ3 : St, σ3 = upI σ1 (p + 1) ((l2 * 9) + 8 : Int32).toNatClampNeg ((σ1.1 (p + 1) ((l2 * 9) + 8 : Int32).toNatClampNeg) ||| (bitO l1)) → (v 2 [some (aR p), some (aI l1), some (aI (l2 + 1))] [] σ3)))))))
theorem w_X2_markAhead_35 {S : Sp} (hS : Sys S) {Φ : Rs} {v : Kt} (hv : Cl S Φ k_X2_markAhead v) (hw : Wk v) (p : Nat) (h_p : isPat p) (l1 : Int32) (l2 : Int32) (σ : St) (h : vc_X2_markAhead_35 S Φ v p l1 l2 σ) : v 35 [some (aR p), some (aI l1), some (aI l2)] [] σ := by
  unfold vc_X2_markAhead_35 at h
  refine r_aload_n (pc := 35) hv 23 rfl rfl ?_
  refine r_iload_n (pc := 36) hv 24 rfl rfl ?_
  refine r_iload_n (pc := 37) hv 25 rfl rfl ?_
  refine r_callV (pc := 38) (l := [aI l2, aI l1]) (av := [aI l1, aI l2]) (a := p) (t := []) hv 26 rfl rfl rfl rfl (rcv_o (by decide) (isPat_oc h_p)) trivial (hS.1 _ _ _ _ _ (fun r σ1 h => ?_) h)
  obtain ⟨x2, rfl, h⟩ := h
  show v 41 [some (aR p), some (aI l1), some (aI l2)] [aI x2] σ1
  refine r_if_eq (pc := 41) hv 27 rfl (fun c => ?_) (fun c => ?_)
  · replace h := h.1 c
    refine r_iinc (pc := 63) (lo' := [some (aR p), some (aI l1), some (aI (l2 + 1))]) hv 41 rfl rfl rfl ?_
    refine r_goto (pc := 66) hv 42 rfl  ?_
    exact h
  · replace h := h.2 c
    refine r_aload_n (pc := 44) hv 28 rfl rfl ?_
    refine r_getR (pc := 45) (b := p + 1) hv 29 rfl rfl (isPat_oc h_p) (isPat_c0 h_p) ?_
    refine r_iload_n (pc := 48) hv 30 rfl rfl ?_
    refine r_bipush (pc := 49) hv 31 rfl  ?_
    refine r_imul (pc := 51) hv 32 rfl  ?_
    refine r_bipush (pc := 52) hv 33 rfl  ?_
    refine r_iadd (pc := 54) hv 34 rfl  ?_
    refine r_dup2 (pc := 55) hv 35 rfl trivial trivial ?_
    refine r_iaload (pc := 56) (N := 180) hv 36 rfl (isPat_t1 h_p) (isPat_l1 h_p) (isPat_lt1 h_p) h.1 ?_
    replace h := h.2
    refine r_iload_n (pc := 57) hv 37 rfl rfl ?_
    refine r_callS (pc := 58) (l := [aI l1]) (av := [aI l1]) (t := [aI (σ1.1 (p + 1) ((l2 * 9) + 8 : Int32).toNatClampNeg), aI ((l2 * 9) + 8), aR (p + 1)]) hv 38 rfl (Or.inr rfl) rfl rfl rfl trivial (t_X8_bitOf hS ?_)
    show v 61 [some (aR p), some (aI l1), some (aI l2)] [aI (bitO l1), aI (σ1.1 (p + 1) ((l2 * 9) + 8 : Int32).toNatClampNeg), aI ((l2 * 9) + 8), aR (p + 1)] σ1
    refine r_ior (pc := 61) hv 39 rfl  ?_
    refine r_iastore (pc := 62) (N := 180) hv 40 rfl (isPat_t1 h_p) (isPat_l1 h_p) h.1 ?_
    replace h := h.2
    obtain ⟨σ3, e_σ3⟩ : ∃ y : St, y = upI σ1 (p + 1) ((l2 * 9) + 8 : Int32).toNatClampNeg ((σ1.1 (p + 1) ((l2 * 9) + 8 : Int32).toNatClampNeg) ||| (bitO l1)) := ⟨_, rfl⟩
    rw [← e_σ3]
    replace h := h σ3 e_σ3
    refine r_iinc (pc := 63) (lo' := [some (aR p), some (aI l1), some (aI (l2 + 1))]) hv 41 rfl rfl rfl ?_
    refine r_goto (pc := 66) hv 42 rfl  ?_
    exact h
def vc_X2_markAhead_2 (S : Sp) (Φ : Rs) (v : Kt) (p : Nat) (l1 : Int32) (l2 : Int32) (σ : St) : Prop := ((l1 : Int32) ≤ l2 → (Φ [] σ)) ∧ (¬ ((l1 : Int32) ≤ l2) → (S 31 [aR p, aI l2, aI l1] σ (fun r σ1 => ∃ x2 : Int32, r = [aI x2] ∧ (((x2 : Int32) = 0 → (vc_X2_markAhead_35 S Φ v p l1 l2 σ1)) ∧ (¬ ((x2 : Int32) = 0) → (vp_in ((l1 * 9) + 8) 180 ∧ (vp_in ((l1 * 9) + 8) 180 ∧ (∀ σ3 : St, σ3 = upI σ1 (p + 1) ((l1 * 9) + 8 : Int32).toNatClampNeg ((σ1.1 (p + 1) ((l1 * 9) + 8 : Int32).toNatClampNeg) ||| (bitO l2)) → (vc_X2_markAhead_35 S Φ v p l1 l2 σ3)))))))))
theorem w_X2_markAhead_2 {S : Sp} (hS : Sys S) {Φ : Rs} {v : Kt} (hv : Cl S Φ k_X2_markAhead v) (hw : Wk v) (p : Nat) (h_p : isPat p) (l1 : Int32) (l2 : Int32) (σ : St) (h : vc_X2_markAhead_2 S Φ v p l1 l2 σ) : v 2 [some (aR p), some (aI l1), some (aI l2)] [] σ := by
  unfold vc_X2_markAhead_2 at h
  refine r_iload_n (pc := 2) hv 2 rfl rfl ?_
  refine r_iload_n (pc := 3) hv 3 rfl rfl ?_
  refine r_icmp_ge (pc := 4) hv 4 rfl (fun c => ?_) (fun c => ?_)
  · replace h := h.1 c
    exact r_return (pc := 69) hv 43 rfl h
  · replace h := h.2 c
    refine r_aload_n (pc := 7) hv 5 rfl rfl ?_
    refine r_iload_n (pc := 8) hv 6 rfl rfl ?_
    refine r_iload_n (pc := 9) hv 7 rfl rfl ?_
    refine r_callV (pc := 10) (l := [aI l1, aI l2]) (av := [aI l2, aI l1]) (a := p) (t := []) hv 8 rfl rfl rfl rfl (rcv_o (by decide) (isPat_oc h_p)) trivial (hS.1 _ _ _ _ _ (fun r σ1 h => ?_) h)
    obtain ⟨x2, rfl, h⟩ := h
    show v 13 [some (aR p), some (aI l1), some (aI l2)] [aI x2] σ1
    refine r_if_eq (pc := 13) hv 9 rfl (fun c => ?_) (fun c => ?_)
    · replace h := h.1 c
      exact (w_X2_markAhead_35 hS hv hw p h_p l1 l2  σ1 h)
    · replace h := h.2 c
      refine r_aload_n (pc := 16) hv 10 rfl rfl ?_
      refine r_getR (pc := 17) (b := p + 1) hv 11 rfl rfl (isPat_oc h_p) (isPat_c0 h_p) ?_
      refine r_iload_n (pc := 20) hv 12 rfl rfl ?_
      refine r_bipush (pc := 21) hv 13 rfl  ?_
      refine r_imul (pc := 23) hv 14 rfl  ?_
      refine r_bipush (pc := 24) hv 15 rfl  ?_
      refine r_iadd (pc := 26) hv 16 rfl  ?_
      refine r_dup2 (pc := 27) hv 17 rfl trivial trivial ?_
      refine r_iaload (pc := 28) (N := 180) hv 18 rfl (isPat_t1 h_p) (isPat_l1 h_p) (isPat_lt1 h_p) h.1 ?_
      replace h := h.2
      refine r_iload_n (pc := 29) hv 19 rfl rfl ?_
      refine r_callS (pc := 30) (l := [aI l2]) (av := [aI l2]) (t := [aI (σ1.1 (p + 1) ((l1 * 9) + 8 : Int32).toNatClampNeg), aI ((l1 * 9) + 8), aR (p + 1)]) hv 20 rfl (Or.inr rfl) rfl rfl rfl trivial (t_X8_bitOf hS ?_)
      show v 33 [some (aR p), some (aI l1), some (aI l2)] [aI (bitO l2), aI (σ1.1 (p + 1) ((l1 * 9) + 8 : Int32).toNatClampNeg), aI ((l1 * 9) + 8), aR (p + 1)] σ1
      refine r_ior (pc := 33) hv 21 rfl  ?_
      refine r_iastore (pc := 34) (N := 180) hv 22 rfl (isPat_t1 h_p) (isPat_l1 h_p) h.1 ?_
      replace h := h.2
      obtain ⟨σ3, e_σ3⟩ : ∃ y : St, y = upI σ1 (p + 1) ((l1 * 9) + 8 : Int32).toNatClampNeg ((σ1.1 (p + 1) ((l1 * 9) + 8 : Int32).toNatClampNeg) ||| (bitO l2)) := ⟨_, rfl⟩
      rw [← e_σ3]
      replace h := h σ3 e_σ3
      exact (w_X2_markAhead_35 hS hv hw p h_p l1 l2  σ3 h)
def vc_X2_markAhead_0 (S : Sp) (Φ : Rs) (v : Kt) (p : Nat) (l1 : Int32) (σ : St) : Prop := v 2 [some (aR p), some (aI l1), some (aI 0)] [] σ
theorem w_X2_markAhead_0 {S : Sp} (hS : Sys S) {Φ : Rs} {v : Kt} (hv : Cl S Φ k_X2_markAhead v) (hw : Wk v) (p : Nat) (h_p : isPat p) (l1 : Int32) (σ : St) (h : vc_X2_markAhead_0 S Φ v p l1 σ) : v 0 [some (aR p), some (aI l1), none] [] σ := by
  unfold vc_X2_markAhead_0 at h
  refine r_iconst (pc := 0) hv 0 rfl  ?_
  refine r_istore_n (pc := 1) (lo' := [some (aR p), some (aI l1), some (aI 0)]) hv 1 rfl rfl ?_
  exact h
theorem m_X2_markAhead {S : Sp} (hS : Sys S) {p : Nat} (h_p : isPat p) {l1 : Int32} {σ : St} {Φ : Rs} (h : ∀ v : Kt, Cl S Φ k_X2_markAhead v → Wk v → vc_X2_markAhead_0 S Φ v p l1 σ) : S 30 [aR p, aI l1] σ Φ :=
  hS.2 30 M_X2_markAhead k_X2_markAhead _ _ _ mkt_X2_markAhead (Nat.le_of_ble_eq_true rfl) (fun v hv hw => w_X2_markAhead_0 hS hv hw p h_p l1 σ (h v hv hw))
def vc_X2_isAhead_22 (S : Sp) (Φ : Rs) (v : Kt) (p : Nat) (l1 : Int32) (l2 : Int32) (s0 : Int32) (σ : St) : Prop := ((s0 : Int32) = 0 → (Φ [aI 0] σ)) ∧ (¬ ((s0 : Int32) = 0) → (S 40 [aR p, aI l1, aI l2] σ (fun r σ1 => ∃ x2 : Int32, r = [aI x2] ∧ (((1 : Int32) < x2 → (Φ [aI 0] σ1)) ∧ (¬ ((1 : Int32) < x2) → (vp_in (l1 * 9 + 2) 180 ∧ (((σ1.1 (p + 1) (l1 * 9 + 2 : Int32).toNatClampNeg : Int32) = 5 → (Φ [aI 0] σ1)) ∧ (¬ ((σ1.1 (p + 1) (l1 * 9 + 2 : Int32).toNatClampNeg : Int32) = 5) → (Φ [aI 1] σ1)))))))))
theorem w_X2_isAhead_22 {S : Sp} (hS : Sys S) {Φ : Rs} {v : Kt} (hv : Cl S Φ k_X2_isAhead v) (hw : Wk v) (p : Nat) (h_p : isPat p) (l1 : Int32) (l2 : Int32) (s0 : Int32) (σ : St) (h : vc_X2_isAhead_22 S Φ v p l1 l2 s0 σ) : v 22 [some (aR p), some (aI l1), some (aI l2), none] [aI s0] σ := by
  unfold vc_X2_isAhead_22 at h
  refine r_istore_n (pc := 22) (lo' := [some (aR p), some (aI l1), some (aI l2), some (aI s0)]) hv 14 rfl rfl ?_
  refine r_iload_n (pc := 23) hv 15 rfl rfl ?_
  refine r_if_eq (pc := 24) hv 16 rfl (fun c => ?_) (fun c => ?_)
  · replace h := h.1 c
    refine r_iconst (pc := 51) hv 31 rfl  ?_
    exact r_zreturn (pc := 52) hv 32 rfl rfl (Or.inl rfl) h
  · replace h := h.2 c
    refine r_aload_n (pc := 27) hv 17 rfl rfl ?_
    refine r_iload_n (pc := 28) hv 18 rfl rfl ?_
    refine r_iload_n (pc := 29) hv 19 rfl rfl ?_
    refine r_callV (pc := 30) (l := [aI l2, aI l1]) (av := [aI l1, aI l2]) (a := p) (t := []) hv 20 rfl rfl rfl rfl (rcv_o (by decide) (isPat_oc h_p)) trivial (hS.1 _ _ _ _ _ (fun r σ1 h => ?_) h)
    obtain ⟨x2, rfl, h⟩ := h
    show v 33 [some (aR p), some (aI l1), some (aI l2), some (aI s0)] [aI x2] σ1
    refine r_iconst (pc := 33) hv 21 rfl  ?_
    refine r_icmp_gt (pc := 34) hv 22 rfl (fun c => ?_) (fun c => ?_)
    · replace h := h.1 c
      refine r_iconst (pc := 51) hv 31 rfl  ?_
      exact r_zreturn (pc := 52) hv 32 rfl rfl (Or.inl rfl) h
    · replace h := h.2 c
      refine r_aload_n (pc := 37) hv 23 rfl rfl ?_
      refine r_iload_n (pc := 38) hv 24 rfl rfl ?_
      refine r_iconst (pc := 39) hv 25 rfl  ?_
      refine r_callV (pc := 40) (l := [aI 2, aI l1]) (av := [aI l1, aI 2]) (a := p) (t := []) hv 26 rfl rfl rfl rfl (rcv_o (by decide) (isPat_oc h_p)) trivial (t_X2_mark hS h_p h.1 ?_)
      replace h := h.2
      show v 43 [some (aR p), some (aI l1), some (aI l2), some (aI s0)] [aI (σ1.1 (p + 1) (l1 * 9 + 2 : Int32).toNatClampNeg)] σ1
      refine r_iconst (pc := 43) hv 27 rfl  ?_
      refine r_icmp_eq (pc := 44) hv 28 rfl (fun c => ?_) (fun c => ?_)
      · replace h := h.1 c
        refine r_iconst (pc := 51) hv 31 rfl  ?_
        exact r_zreturn (pc := 52) hv 32 rfl rfl (Or.inl rfl) h
      · replace h := h.2 c
        refine r_iconst (pc := 47) hv 29 rfl  ?_
        refine r_goto (pc := 48) hv 30 rfl  ?_
        exact r_zreturn (pc := 52) hv 32 rfl rfl (Or.inr rfl) h
def vc_X2_isAhead_0 (S : Sp) (Φ : Rs) (v : Kt) (p : Nat) (l1 : Int32) (l2 : Int32) (σ : St) : Prop := vp_in (l1 * 9 + 0) 180 ∧ (vp_in (l2 * 9 + 0) 180 ∧ ((¬ (σ.1 (p + 1) (l1 * 9 + 0 : Int32).toNatClampNeg : Int32) = ((σ.1 (p + 1) (l2 * 9 + 0 : Int32).toNatClampNeg) - 1) → (vc_X2_isAhead_22 S Φ v p l1 l2 0 σ)) ∧ ((σ.1 (p + 1) (l1 * 9 + 0 : Int32).toNatClampNeg : Int32) = ((σ.1 (p + 1) (l2 * 9 + 0 : Int32).toNatClampNeg) - 1) → (vc_X2_isAhead_22 S Φ v p l1 l2 1 σ))))
theorem w_X2_isAhead_0 {S : Sp} (hS : Sys S) {Φ : Rs} {v : Kt} (hv : Cl S Φ k_X2_isAhead v) (hw : Wk v) (p : Nat) (h_p : isPat p) (l1 : Int32) (l2 : Int32) (σ : St) (h : vc_X2_isAhead_0 S Φ v p l1 l2 σ) : v 0 [some (aR p), some (aI l1), some (aI l2), none] [] σ := by
  unfold vc_X2_isAhead_0 at h
  refine r_aload_n (pc := 0) hv 0 rfl rfl ?_
  refine r_iload_n (pc := 1) hv 1 rfl rfl ?_
  refine r_iconst (pc := 2) hv 2 rfl  ?_
  refine r_callV (pc := 3) (l := [aI 0, aI l1]) (av := [aI l1, aI 0]) (a := p) (t := []) hv 3 rfl rfl rfl rfl (rcv_o (by decide) (isPat_oc h_p)) trivial (t_X2_mark hS h_p h.1 ?_)
  replace h := h.2
  show v 6 [some (aR p), some (aI l1), some (aI l2), none] [aI (σ.1 (p + 1) (l1 * 9 + 0 : Int32).toNatClampNeg)] σ
  refine r_aload_n (pc := 6) hv 4 rfl rfl ?_
  refine r_iload_n (pc := 7) hv 5 rfl rfl ?_
  refine r_iconst (pc := 8) hv 6 rfl  ?_
  refine r_callV (pc := 9) (l := [aI 0, aI l2]) (av := [aI l2, aI 0]) (a := p) (t := [aI (σ.1 (p + 1) (l1 * 9 + 0 : Int32).toNatClampNeg)]) hv 7 rfl rfl rfl rfl (rcv_o (by decide) (isPat_oc h_p)) trivial (t_X2_mark hS h_p h.1 ?_)
  replace h := h.2
  show v 12 [some (aR p), some (aI l1), some (aI l2), none] [aI (σ.1 (p + 1) (l2 * 9 + 0 : Int32).toNatClampNeg), aI (σ.1 (p + 1) (l1 * 9 + 0 : Int32).toNatClampNeg)] σ
  refine r_iconst (pc := 12) hv 8 rfl  ?_
  refine r_isub (pc := 13) hv 9 rfl  ?_
  refine r_icmp_ne (pc := 14) hv 10 rfl (fun c => ?_) (fun c => ?_)
  · replace h := h.1 c
    refine r_iconst (pc := 21) hv 13 rfl  ?_
    exact (w_X2_isAhead_22 hS hv hw p h_p l1 l2 0  σ h)
  · replace h := h.2 c
    refine r_iconst (pc := 17) hv 11 rfl  ?_
    refine r_goto (pc := 18) hv 12 rfl  ?_
    exact (w_X2_isAhead_22 hS hv hw p h_p l1 l2 1  σ h)
theorem m_X2_isAhead {S : Sp} (hS : Sys S) {p : Nat} (h_p : isPat p) {l1 : Int32} {l2 : Int32} {σ : St} {Φ : Rs} (h : ∀ v : Kt, Cl S Φ k_X2_isAhead v → Wk v → vc_X2_isAhead_0 S Φ v p l1 l2 σ) : S 31 [aR p, aI l1, aI l2] σ Φ :=
  hS.2 31 M_X2_isAhead k_X2_isAhead _ _ _ mkt_X2_isAhead (Nat.le_of_ble_eq_true rfl) (fun v hv hw => w_X2_isAhead_0 hS hv hw p h_p l1 l2 σ (h v hv hw))
def vc_X2_changeMark_0 (S : Sp) (Φ : Rs) (v : Kt) (p : Nat) (l1 : Int32) (l2 : Int32) (l3 : Int32) (σ : St) : Prop := (¬ (b2 (¬ (l1 : Int32) < 0 ∧ ¬ σ.1 p 3 ≤ l1) : Int32) = 0 → (((l2 : Int32) < 3 → (Φ [aI (-2)] σ)) ∧ (¬ ((l2 : Int32) < 3) → ((¬ (b2 (¬ (l2 : Int32) < 0 ∧ ¬ 6 < (l2 : Int32) ∧ ¬ (l3 : Int32) < sv 101 (l2 : Int32).toNatClampNeg ∧ ¬ sv 102 (l2 : Int32).toNatClampNeg < (l3 : Int32)) : Int32) = 0 → (vp_in (l1 * 9 + l2) 180 ∧ (vp_in ((l1 * 9) + l2) 180 ∧ (∀ σ1 : St, σ1 = upI σ (p + 1) ((l1 * 9) + l2 : Int32).toNatClampNeg l3 → (Φ [aI (σ.1 (p + 1) (l1 * 9 + l2 : Int32).toNatClampNeg)] σ1))))) ∧ ((b2 (¬ (l2 : Int32) < 0 ∧ ¬ 6 < (l2 : Int32) ∧ ¬ (l3 : Int32) < sv 101 (l2 : Int32).toNatClampNeg ∧ ¬ sv 102 (l2 : Int32).toNatClampNeg < (l3 : Int32)) : Int32) = 0 → (Φ [aI (-2)] σ)))))) ∧ ((b2 (¬ (l1 : Int32) < 0 ∧ ¬ σ.1 p 3 ≤ l1) : Int32) = 0 → (Φ [aI (-1)] σ))
theorem w_X2_changeMark_0 {S : Sp} (hS : Sys S) {Φ : Rs} {v : Kt} (hv : Cl S Φ k_X2_changeMark v) (hw : Wk v) (p : Nat) (h_p : isPat p) (l1 : Int32) (l2 : Int32) (l3 : Int32) (σ : St) (h : vc_X2_changeMark_0 S Φ v p l1 l2 l3 σ) : v 0 [some (aR p), some (aI l1), some (aI l2), some (aI l3), none] [] σ := by
  unfold vc_X2_changeMark_0 at h
  refine r_aload_n (pc := 0) hv 0 rfl rfl ?_
  refine r_iload_n (pc := 1) hv 1 rfl rfl ?_
  refine r_callV (pc := 2) (l := [aI l1]) (av := [aI l1]) (a := p) (t := []) hv 2 rfl rfl rfl rfl (rcv_o (by decide) (isPat_oc h_p)) trivial (t_X2_isHole hS h_p ?_)
  show v 5 [some (aR p), some (aI l1), some (aI l2), some (aI l3), none] [aI (b2 (¬ (l1 : Int32) < 0 ∧ ¬ σ.1 p 3 ≤ l1))] σ
  refine r_if_ne (pc := 5) hv 3 rfl (fun c => ?_) (fun c => ?_)
  · replace h := h.1 c
    refine r_iload_n (pc := 10) hv 6 rfl rfl ?_
    refine r_iconst (pc := 11) hv 7 rfl  ?_
    refine r_icmp_lt (pc := 12) hv 8 rfl (fun c => ?_) (fun c => ?_)
    · replace h := h.1 c
      refine r_bipush (pc := 23) hv 13 rfl  ?_
      exact r_ireturn (pc := 25) hv 14 rfl rfl h
    · replace h := h.2 c
      refine r_iload_n (pc := 15) hv 9 rfl rfl ?_
      refine r_iload_n (pc := 16) hv 10 rfl rfl ?_
      refine r_callS (pc := 17) (l := [aI l3, aI l2]) (av := [aI l2, aI l3]) (t := []) hv 11 rfl (Or.inl rfl) rfl rfl rfl trivial (t_X2_fits hS ?_)
      show v 20 [some (aR p), some (aI l1), some (aI l2), some (aI l3), none] [aI (b2 (¬ (l2 : Int32) < 0 ∧ ¬ 6 < (l2 : Int32) ∧ ¬ (l3 : Int32) < sv 101 (l2 : Int32).toNatClampNeg ∧ ¬ sv 102 (l2 : Int32).toNatClampNeg < (l3 : Int32)))] σ
      refine r_if_ne (pc := 20) hv 12 rfl (fun c => ?_) (fun c => ?_)
      · replace h := h.1 c
        refine r_aload_n (pc := 26) hv 15 rfl rfl ?_
        refine r_iload_n (pc := 27) hv 16 rfl rfl ?_
        refine r_iload_n (pc := 28) hv 17 rfl rfl ?_
        refine r_callV (pc := 29) (l := [aI l2, aI l1]) (av := [aI l1, aI l2]) (a := p) (t := []) hv 18 rfl rfl rfl rfl (rcv_o (by decide) (isPat_oc h_p)) trivial (t_X2_mark hS h_p h.1 ?_)
        replace h := h.2
        show v 32 [some (aR p), some (aI l1), some (aI l2), some (aI l3), none] [aI (σ.1 (p + 1) (l1 * 9 + l2 : Int32).toNatClampNeg)] σ
        refine r_istore (pc := 32) (lo' := [some (aR p), some (aI l1), some (aI l2), some (aI l3), some (aI (σ.1 (p + 1) (l1 * 9 + l2 : Int32).toNatClampNeg))]) hv 19 rfl rfl ?_
        refine r_aload_n (pc := 34) hv 20 rfl rfl ?_
        refine r_getR (pc := 35) (b := p + 1) hv 21 rfl rfl (isPat_oc h_p) (isPat_c0 h_p) ?_
        refine r_iload_n (pc := 38) hv 22 rfl rfl ?_
        refine r_bipush (pc := 39) hv 23 rfl  ?_
        refine r_imul (pc := 41) hv 24 rfl  ?_
        refine r_iload_n (pc := 42) hv 25 rfl rfl ?_
        refine r_iadd (pc := 43) hv 26 rfl  ?_
        refine r_iload_n (pc := 44) hv 27 rfl rfl ?_
        refine r_iastore (pc := 45) (N := 180) hv 28 rfl (isPat_t1 h_p) (isPat_l1 h_p) h.1 ?_
        replace h := h.2
        obtain ⟨σ1, e_σ1⟩ : ∃ y : St, y = upI σ (p + 1) ((l1 * 9) + l2 : Int32).toNatClampNeg l3 := ⟨_, rfl⟩
        rw [← e_σ1]
        replace h := h σ1 e_σ1
        refine r_iload (pc := 46) hv 29 rfl rfl ?_
        exact r_ireturn (pc := 48) hv 30 rfl rfl h
      · replace h := h.2 c
        refine r_bipush (pc := 23) hv 13 rfl  ?_
        exact r_ireturn (pc := 25) hv 14 rfl rfl h
  · replace h := h.2 c
    refine r_iconst (pc := 8) hv 4 rfl  ?_
    exact r_ireturn (pc := 9) hv 5 rfl rfl h
theorem m_X2_changeMark {S : Sp} (hS : Sys S) {p : Nat} (h_p : isPat p) {l1 : Int32} {l2 : Int32} {l3 : Int32} {σ : St} {Φ : Rs} (h : ∀ v : Kt, Cl S Φ k_X2_changeMark v → Wk v → vc_X2_changeMark_0 S Φ v p l1 l2 l3 σ) : S 32 [aR p, aI l1, aI l2, aI l3] σ Φ :=
  hS.2 32 M_X2_changeMark k_X2_changeMark _ _ _ mkt_X2_changeMark (Nat.le_of_ble_eq_true rfl) (fun v hv hw => w_X2_changeMark_0 hS hv hw p h_p l1 l2 l3 σ (h v hv hw))
def vc_X2_addWire_15 (S : Sp) (Φ : Rs) (v : Kt) (p : Nat) (l1 : Int32) (l2 : Int32) (l3 : Int32) (σ : St) : Prop := ((b2 (¬ (l2 : Int32) < 0 ∧ ¬ σ.1 p 3 ≤ l2) : Int32) = 0 → (Φ [aI (-1)] σ)) ∧ (¬ ((b2 (¬ (l2 : Int32) < 0 ∧ ¬ σ.1 p 3 ≤ l2) : Int32) = 0) → ((¬ (l1 : Int32) = l2 → (((l3 : Int32) < 0 → (Φ [aI (-2)] σ)) ∧ (¬ ((l3 : Int32) < 0) → (((l3 : Int32) ≤ 500 → (((σ.1 p 4 : Int32) < 40 → (vp_in (((σ.1 p 4) * 3) + 0) 120 ∧ (∀ σ1 : St, σ1 = upI σ (p + 2) (((σ.1 p 4) * 3) + 0 : Int32).toNatClampNeg l1 → (vp_in (((σ.1 p 4) * 3) + 1) 120 ∧ (∀ σ2 : St, σ2 = upI σ1 (p + 2) (((σ.1 p 4) * 3) + 1 : Int32).toNatClampNeg l2 → (vp_in (((σ.1 p 4) * 3) + 2) 120 ∧ (∀ σ3 : St, σ3 = upI σ2 (p + 2) (((σ.1 p 4) * 3) + 2 : Int32).toNatClampNeg l3 → (∀ σ4 : St, σ4 = upI σ3 p 4 ((σ3.1 p 4) + 1) → (Φ [aI ((σ4.1 p 4) - 1)] σ4))))))))) ∧ (¬ ((σ.1 p 4 : Int32) < 40) → (Φ [aI (-4)] σ)))) ∧ (¬ ((l3 : Int32) ≤ 500) → (Φ [aI (-2)] σ)))))) ∧ ((l1 : Int32) = l2 → (Φ [aI (-1)] σ))))
theorem w_X2_addWire_15 {S : Sp} (hS : Sys S) {Φ : Rs} {v : Kt} (hv : Cl S Φ k_X2_addWire v) (hw : Wk v) (p : Nat) (h_p : isPat p) (l1 : Int32) (l2 : Int32) (l3 : Int32) (σ : St) (h : vc_X2_addWire_15 S Φ v p l1 l2 l3 σ) : v 15 [some (aR p), some (aI l1), some (aI l2), some (aI l3), none] [] σ := by
  unfold vc_X2_addWire_15 at h
  refine r_aload_n (pc := 15) hv 9 rfl rfl ?_
  refine r_iload_n (pc := 16) hv 10 rfl rfl ?_
  refine r_callV (pc := 17) (l := [aI l2]) (av := [aI l2]) (a := p) (t := []) hv 11 rfl rfl rfl rfl (rcv_o (by decide) (isPat_oc h_p)) trivial (t_X2_isHole hS h_p ?_)
  show v 20 [some (aR p), some (aI l1), some (aI l2), some (aI l3), none] [aI (b2 (¬ (l2 : Int32) < 0 ∧ ¬ σ.1 p 3 ≤ l2))] σ
  refine r_if_eq (pc := 20) hv 12 rfl (fun c => ?_) (fun c => ?_)
  · replace h := h.1 c
    refine r_iconst (pc := 28) hv 16 rfl  ?_
    exact r_ireturn (pc := 29) hv 17 rfl rfl h
  · replace h := h.2 c
    refine r_iload_n (pc := 23) hv 13 rfl rfl ?_
    refine r_iload_n (pc := 24) hv 14 rfl rfl ?_
    refine r_icmp_ne (pc := 25) hv 15 rfl (fun c => ?_) (fun c => ?_)
    · replace h := h.1 c
      refine r_iload_n (pc := 30) hv 18 rfl rfl ?_
      refine r_if_lt (pc := 31) hv 19 rfl (fun c => ?_) (fun c => ?_)
      · replace h := h.1 c
        refine r_bipush (pc := 41) hv 23 rfl  ?_
        exact r_ireturn (pc := 43) hv 24 rfl rfl h
      · replace h := h.2 c
        refine r_iload_n (pc := 34) hv 20 rfl rfl ?_
        refine r_sipush (pc := 35) hv 21 rfl  ?_
        refine r_icmp_le (pc := 38) hv 22 rfl (fun c => ?_) (fun c => ?_)
        · replace h := h.1 c
          refine r_aload_n (pc := 44) hv 25 rfl rfl ?_
          refine r_getI (pc := 45) hv 26 rfl rfl (isPat_oc h_p) ?_
          refine r_bipush (pc := 48) hv 27 rfl  ?_
          refine r_icmp_lt (pc := 50) hv 28 rfl (fun c => ?_) (fun c => ?_)
          · replace h := h.1 c
            refine r_aload_n (pc := 56) hv 31 rfl rfl ?_
            refine r_getI (pc := 57) hv 32 rfl rfl (isPat_oc h_p) ?_
            refine r_iconst (pc := 60) hv 33 rfl  ?_
            refine r_imul (pc := 61) hv 34 rfl  ?_
            refine r_istore (pc := 62) (lo' := [some (aR p), some (aI l1), some (aI l2), some (aI l3), some (aI ((σ.1 p 4) * 3))]) hv 35 rfl rfl ?_
            refine r_aload_n (pc := 64) hv 36 rfl rfl ?_
            refine r_getR (pc := 65) (b := p + 2) hv 37 rfl rfl (isPat_oc h_p) (isPat_c1 h_p) ?_
            refine r_iload (pc := 68) hv 38 rfl rfl ?_
            refine r_iconst (pc := 70) hv 39 rfl  ?_
            refine r_iadd (pc := 71) hv 40 rfl  ?_
            refine r_iload_n (pc := 72) hv 41 rfl rfl ?_
            refine r_iastore (pc := 73) (N := 120) hv 42 rfl (isPat_t2 h_p) (isPat_l2 h_p) h.1 ?_
            replace h := h.2
            obtain ⟨σ1, e_σ1⟩ : ∃ y : St, y = upI σ (p + 2) (((σ.1 p 4) * 3) + 0 : Int32).toNatClampNeg l1 := ⟨_, rfl⟩
            rw [← e_σ1]
            replace h := h σ1 e_σ1
            refine r_aload_n (pc := 74) hv 43 rfl rfl ?_
            refine r_getR (pc := 75) (b := p + 2) hv 44 rfl rfl (isPat_oc h_p) (isPat_c1 h_p) ?_
            refine r_iload (pc := 78) hv 45 rfl rfl ?_
            refine r_iconst (pc := 80) hv 46 rfl  ?_
            refine r_iadd (pc := 81) hv 47 rfl  ?_
            refine r_iload_n (pc := 82) hv 48 rfl rfl ?_
            refine r_iastore (pc := 83) (N := 120) hv 49 rfl (isPat_t2 h_p) (isPat_l2 h_p) h.1 ?_
            replace h := h.2
            obtain ⟨σ2, e_σ2⟩ : ∃ y : St, y = upI σ1 (p + 2) (((σ.1 p 4) * 3) + 1 : Int32).toNatClampNeg l2 := ⟨_, rfl⟩
            rw [← e_σ2]
            replace h := h σ2 e_σ2
            refine r_aload_n (pc := 84) hv 50 rfl rfl ?_
            refine r_getR (pc := 85) (b := p + 2) hv 51 rfl rfl (isPat_oc h_p) (isPat_c1 h_p) ?_
            refine r_iload (pc := 88) hv 52 rfl rfl ?_
            refine r_iconst (pc := 90) hv 53 rfl  ?_
            refine r_iadd (pc := 91) hv 54 rfl  ?_
            refine r_iload_n (pc := 92) hv 55 rfl rfl ?_
            refine r_iastore (pc := 93) (N := 120) hv 56 rfl (isPat_t2 h_p) (isPat_l2 h_p) h.1 ?_
            replace h := h.2
            obtain ⟨σ3, e_σ3⟩ : ∃ y : St, y = upI σ2 (p + 2) (((σ.1 p 4) * 3) + 2 : Int32).toNatClampNeg l3 := ⟨_, rfl⟩
            rw [← e_σ3]
            replace h := h σ3 e_σ3
            refine r_aload_n (pc := 94) hv 57 rfl rfl ?_
            refine r_dup (pc := 95) hv 58 rfl trivial ?_
            refine r_getI (pc := 96) hv 59 rfl rfl (isPat_oc h_p) ?_
            refine r_iconst (pc := 99) hv 60 rfl  ?_
            refine r_iadd (pc := 100) hv 61 rfl  ?_
            refine r_putI (pc := 101) hv 62 rfl rfl (isPat_oc h_p) ?_
            obtain ⟨σ4, e_σ4⟩ : ∃ y : St, y = upI σ3 p 4 ((σ3.1 p 4) + 1) := ⟨_, rfl⟩
            rw [← e_σ4]
            replace h := h σ4 e_σ4
            refine r_aload_n (pc := 104) hv 63 rfl rfl ?_
            refine r_getI (pc := 105) hv 64 rfl rfl (isPat_oc h_p) ?_
            refine r_iconst (pc := 108) hv 65 rfl  ?_
            refine r_isub (pc := 109) hv 66 rfl  ?_
            exact r_ireturn (pc := 110) hv 67 rfl rfl h
          · replace h := h.2 c
            refine r_bipush (pc := 53) hv 29 rfl  ?_
            exact r_ireturn (pc := 55) hv 30 rfl rfl h
        · replace h := h.2 c
          refine r_bipush (pc := 41) hv 23 rfl  ?_
          exact r_ireturn (pc := 43) hv 24 rfl rfl h
    · replace h := h.2 c
      refine r_iconst (pc := 28) hv 16 rfl  ?_
      exact r_ireturn (pc := 29) hv 17 rfl rfl h
def vc_X2_addWire_0 (S : Sp) (Φ : Rs) (v : Kt) (p : Nat) (l1 : Int32) (l2 : Int32) (l3 : Int32) (σ : St) : Prop := ((l1 : Int32) = (-1) → (vc_X2_addWire_15 S Φ v p l1 l2 l3 σ)) ∧ (¬ ((l1 : Int32) = (-1)) → ((¬ (b2 (¬ (l1 : Int32) < 0 ∧ ¬ σ.1 p 3 ≤ l1) : Int32) = 0 → (vc_X2_addWire_15 S Φ v p l1 l2 l3 σ)) ∧ ((b2 (¬ (l1 : Int32) < 0 ∧ ¬ σ.1 p 3 ≤ l1) : Int32) = 0 → (Φ [aI (-1)] σ))))
theorem w_X2_addWire_0 {S : Sp} (hS : Sys S) {Φ : Rs} {v : Kt} (hv : Cl S Φ k_X2_addWire v) (hw : Wk v) (p : Nat) (h_p : isPat p) (l1 : Int32) (l2 : Int32) (l3 : Int32) (σ : St) (h : vc_X2_addWire_0 S Φ v p l1 l2 l3 σ) : v 0 [some (aR p), some (aI l1), some (aI l2), some (aI l3), none] [] σ := by
  unfold vc_X2_addWire_0 at h
  refine r_iload_n (pc := 0) hv 0 rfl rfl ?_
  refine r_iconst (pc := 1) hv 1 rfl  ?_
  refine r_icmp_eq (pc := 2) hv 2 rfl (fun c => ?_) (fun c => ?_)
  · replace h := h.1 c
    exact (w_X2_addWire_15 hS hv hw p h_p l1 l2 l3  σ h)
  · replace h := h.2 c
    refine r_aload_n (pc := 5) hv 3 rfl rfl ?_
    refine r_iload_n (pc := 6) hv 4 rfl rfl ?_
    refine r_callV (pc := 7) (l := [aI l1]) (av := [aI l1]) (a := p) (t := []) hv 5 rfl rfl rfl rfl (rcv_o (by decide) (isPat_oc h_p)) trivial (t_X2_isHole hS h_p ?_)
    show v 10 [some (aR p), some (aI l1), some (aI l2), some (aI l3), none] [aI (b2 (¬ (l1 : Int32) < 0 ∧ ¬ σ.1 p 3 ≤ l1))] σ
    refine r_if_ne (pc := 10) hv 6 rfl (fun c => ?_) (fun c => ?_)
    · replace h := h.1 c
      exact (w_X2_addWire_15 hS hv hw p h_p l1 l2 l3  σ h)
    · replace h := h.2 c
      refine r_iconst (pc := 13) hv 7 rfl  ?_
      exact r_ireturn (pc := 14) hv 8 rfl rfl h
theorem m_X2_addWire {S : Sp} (hS : Sys S) {p : Nat} (h_p : isPat p) {l1 : Int32} {l2 : Int32} {l3 : Int32} {σ : St} {Φ : Rs} (h : ∀ v : Kt, Cl S Φ k_X2_addWire v → Wk v → vc_X2_addWire_0 S Φ v p l1 l2 l3 σ) : S 33 [aR p, aI l1, aI l2, aI l3] σ Φ :=
  hS.2 33 M_X2_addWire k_X2_addWire _ _ _ mkt_X2_addWire (Nat.le_of_ble_eq_true rfl) (fun v hv hw => w_X2_addWire_0 hS hv hw p h_p l1 l2 l3 σ (h v hv hw))
def vc_X2_removeWire_0 (S : Sp) (Φ : Rs) (v : Kt) (p : Nat) (l1 : Int32) (σ : St) : Prop := (¬ (b2 (¬ (l1 : Int32) < 0 ∧ ¬ σ.1 p 4 ≤ l1) : Int32) = 0 → ((¬ ((l1 * 3) + 3 : Int32) < 0 ∧ ¬ (l1 * 3 : Int32) < 0 ∧ ¬ ((((σ.1 p 4) * 3) - (l1 * 3)) - 3 : Int32) < 0 ∧ ((l1 * 3) + 3 : Int32).toNatClampNeg + ((((σ.1 p 4) * 3) - (l1 * 3)) - 3 : Int32).toNatClampNeg ≤ 120 ∧ (l1 * 3 : Int32).toNatClampNeg + ((((σ.1 p 4) * 3) - (l1 * 3)) - 3 : Int32).toNatClampNeg ≤ 120) ∧ (∀ σ1 : St, σ1 = cpI σ (p + 2) (p + 2) ((l1 * 3) + 3 : Int32).toNatClampNeg (l1 * 3 : Int32).toNatClampNeg ((((σ.1 p 4) * 3) - (l1 * 3)) - 3 : Int32).toNatClampNeg → (∀ σ2 : St, σ2 = upI σ1 p 4 ((σ1.1 p 4) - 1) → (Φ [aI (σ2.1 p 4)] σ2))))) ∧ ((b2 (¬ (l1 : Int32) < 0 ∧ ¬ σ.1 p 4 ≤ l1) : Int32) = 0 → (Φ [aI (-1)] σ))
theorem w_X2_removeWire_0 {S : Sp} (hS : Sys S) {Φ : Rs} {v : Kt} (hv : Cl S Φ k_X2_removeWire v) (hw : Wk v) (p : Nat) (h_p : isPat p) (l1 : Int32) (σ : St) (h : vc_X2_removeWire_0 S Φ v p l1 σ) : v 0 [some (aR p), some (aI l1), none] [] σ := by
  unfold vc_X2_removeWire_0 at h
  refine r_aload_n (pc := 0) hv 0 rfl rfl ?_
  refine r_iload_n (pc := 1) hv 1 rfl rfl ?_
  refine r_callV (pc := 2) (l := [aI l1]) (av := [aI l1]) (a := p) (t := []) hv 2 rfl rfl rfl rfl (rcv_o (by decide) (isPat_oc h_p)) trivial (t_X2_isWire hS h_p ?_)
  show v 5 [some (aR p), some (aI l1), none] [aI (b2 (¬ (l1 : Int32) < 0 ∧ ¬ σ.1 p 4 ≤ l1))] σ
  refine r_if_ne (pc := 5) hv 3 rfl (fun c => ?_) (fun c => ?_)
  · replace h := h.1 c
    refine r_iload_n (pc := 10) hv 6 rfl rfl ?_
    refine r_iconst (pc := 11) hv 7 rfl  ?_
    refine r_imul (pc := 12) hv 8 rfl  ?_
    refine r_istore_n (pc := 13) (lo' := [some (aR p), some (aI l1), some (aI (l1 * 3))]) hv 9 rfl rfl ?_
    refine r_aload_n (pc := 14) hv 10 rfl rfl ?_
    refine r_getR (pc := 15) (b := p + 2) hv 11 rfl rfl (isPat_oc h_p) (isPat_c1 h_p) ?_
    refine r_iload_n (pc := 18) hv 12 rfl rfl ?_
    refine r_iconst (pc := 19) hv 13 rfl  ?_
    refine r_iadd (pc := 20) hv 14 rfl  ?_
    refine r_aload_n (pc := 21) hv 15 rfl rfl ?_
    refine r_getR (pc := 22) (b := p + 2) hv 16 rfl rfl (isPat_oc h_p) (isPat_c1 h_p) ?_
    refine r_iload_n (pc := 25) hv 17 rfl rfl ?_
    refine r_aload_n (pc := 26) hv 18 rfl rfl ?_
    refine r_getI (pc := 27) hv 19 rfl rfl (isPat_oc h_p) ?_
    refine r_iconst (pc := 30) hv 20 rfl  ?_
    refine r_imul (pc := 31) hv 21 rfl  ?_
    refine r_iload_n (pc := 32) hv 22 rfl rfl ?_
    refine r_isub (pc := 33) hv 23 rfl  ?_
    refine r_iconst (pc := 34) hv 24 rfl  ?_
    refine r_isub (pc := 35) hv 25 rfl  ?_
    refine r_copyI (pc := 36) hv 26 rfl rfl (isPat_t2 h_p) (isPat_t2 h_p) (isPat_l2 h_p) (isPat_l2 h_p) trivial h.1.1 h.1.2.1 h.1.2.2.1 h.1.2.2.2.1 h.1.2.2.2.2 ?_
    replace h := h.2
    obtain ⟨σ1, e_σ1⟩ : ∃ y : St, y = cpI σ (p + 2) (p + 2) ((l1 * 3) + 3 : Int32).toNatClampNeg (l1 * 3 : Int32).toNatClampNeg ((((σ.1 p 4) * 3) - (l1 * 3)) - 3 : Int32).toNatClampNeg := ⟨_, rfl⟩
    rw [← e_σ1]
    replace h := h σ1 e_σ1
    refine r_aload_n (pc := 39) hv 27 rfl rfl ?_
    refine r_dup (pc := 40) hv 28 rfl trivial ?_
    refine r_getI (pc := 41) hv 29 rfl rfl (isPat_oc h_p) ?_
    refine r_iconst (pc := 44) hv 30 rfl  ?_
    refine r_isub (pc := 45) hv 31 rfl  ?_
    refine r_putI (pc := 46) hv 32 rfl rfl (isPat_oc h_p) ?_
    obtain ⟨σ2, e_σ2⟩ : ∃ y : St, y = upI σ1 p 4 ((σ1.1 p 4) - 1) := ⟨_, rfl⟩
    rw [← e_σ2]
    replace h := h σ2 e_σ2
    refine r_aload_n (pc := 49) hv 33 rfl rfl ?_
    refine r_getI (pc := 50) hv 34 rfl rfl (isPat_oc h_p) ?_
    exact r_ireturn (pc := 53) hv 35 rfl rfl h
  · replace h := h.2 c
    refine r_iconst (pc := 8) hv 4 rfl  ?_
    exact r_ireturn (pc := 9) hv 5 rfl rfl h
theorem m_X2_removeWire {S : Sp} (hS : Sys S) {p : Nat} (h_p : isPat p) {l1 : Int32} {σ : St} {Φ : Rs} (h : ∀ v : Kt, Cl S Φ k_X2_removeWire v → Wk v → vc_X2_removeWire_0 S Φ v p l1 σ) : S 34 [aR p, aI l1] σ Φ :=
  hS.2 34 M_X2_removeWire k_X2_removeWire _ _ _ mkt_X2_removeWire (Nat.le_of_ble_eq_true rfl) (fun v hv hw => w_X2_removeWire_0 hS hv hw p h_p l1 σ (h v hv hw))
def vc_X2_removeLastHole_97 (S : Sp) (Φ : Rs) (v : Kt) (p : Nat) (l1 : Int32) (σ : St) : Prop := S 34 [aR p, aI l1] σ (fun r σ1 => ∃ x2 : Int32, r = [aI x2] ∧ (v 67 [some (aR p), some (aI (l1 + (-1)))] [] σ1))
theorem w_X2_removeLastHole_97 {S : Sp} (hS : Sys S) {Φ : Rs} {v : Kt} (hv : Cl S Φ k_X2_removeLastHole v) (hw : Wk v) (p : Nat) (h_p : isPat p) (l1 : Int32) (σ : St) (h : vc_X2_removeLastHole_97 S Φ v p l1 σ) : v 97 [some (aR p), some (aI l1)] [] σ := by
  unfold vc_X2_removeLastHole_97 at h
  refine r_aload_n (pc := 97) hv 56 rfl rfl ?_
  refine r_iload_n (pc := 98) hv 57 rfl rfl ?_
  refine r_callV (pc := 99) (l := [aI l1]) (av := [aI l1]) (a := p) (t := []) hv 58 rfl rfl rfl rfl (rcv_o (by decide) (isPat_oc h_p)) trivial (hS.1 _ _ _ _ _ (fun r σ1 h => ?_) h)
  obtain ⟨x2, rfl, h⟩ := h
  show v 102 [some (aR p), some (aI l1)] [aI x2] σ1
  refine r_pop (pc := 102) hv 59 rfl trivial ?_
  refine r_iinc (pc := 103) (lo' := [some (aR p), some (aI (l1 + (-1)))]) hv 60 rfl rfl rfl ?_
  refine r_goto (pc := 106) hv 61 rfl  ?_
  exact h
def vc_X2_removeLastHole_67 (S : Sp) (Φ : Rs) (v : Kt) (p : Nat) (l1 : Int32) (σ : St) : Prop := ((l1 : Int32) < 0 → (Φ [aI (σ.1 p 3)] σ)) ∧ (¬ ((l1 : Int32) < 0) → (vp_in (l1 * 3 + 0) 120 ∧ (((σ.1 (p + 2) (l1 * 3 + 0 : Int32).toNatClampNeg : Int32) = (σ.1 p 3) → (vc_X2_removeLastHole_97 S Φ v p l1 σ)) ∧ (¬ ((σ.1 (p + 2) (l1 * 3 + 0 : Int32).toNatClampNeg : Int32) = (σ.1 p 3)) → (vp_in (l1 * 3 + 1) 120 ∧ ((¬ (σ.1 (p + 2) (l1 * 3 + 1 : Int32).toNatClampNeg : Int32) = (σ.1 p 3) → (v 67 [some (aR p), some (aI (l1 + (-1)))] [] σ)) ∧ ((σ.1 (p + 2) (l1 * 3 + 1 : Int32).toNatClampNeg : Int32) = (σ.1 p 3) → (vc_X2_removeLastHole_97 S Φ v p l1 σ))))))))
theorem w_X2_removeLastHole_67 {S : Sp} (hS : Sys S) {Φ : Rs} {v : Kt} (hv : Cl S Φ k_X2_removeLastHole v) (hw : Wk v) (p : Nat) (h_p : isPat p) (l1 : Int32) (σ : St) (h : vc_X2_removeLastHole_67 S Φ v p l1 σ) : v 67 [some (aR p), some (aI l1)] [] σ := by
  unfold vc_X2_removeLastHole_67 at h
  refine r_iload_n (pc := 67) hv 40 rfl rfl ?_
  refine r_if_lt (pc := 68) hv 41 rfl (fun c => ?_) (fun c => ?_)
  · replace h := h.1 c
    refine r_aload_n (pc := 109) hv 62 rfl rfl ?_
    refine r_getI (pc := 110) hv 63 rfl rfl (isPat_oc h_p) ?_
    exact r_ireturn (pc := 113) hv 64 rfl rfl h
  · replace h := h.2 c
    refine r_aload_n (pc := 71) hv 42 rfl rfl ?_
    refine r_iload_n (pc := 72) hv 43 rfl rfl ?_
    refine r_iconst (pc := 73) hv 44 rfl  ?_
    refine r_callV (pc := 74) (l := [aI 0, aI l1]) (av := [aI l1, aI 0]) (a := p) (t := []) hv 45 rfl rfl rfl rfl (rcv_o (by decide) (isPat_oc h_p)) trivial (t_X2_cord hS h_p h.1 ?_)
    replace h := h.2
    show v 77 [some (aR p), some (aI l1)] [aI (σ.1 (p + 2) (l1 * 3 + 0 : Int32).toNatClampNeg)] σ
    refine r_aload_n (pc := 77) hv 46 rfl rfl ?_
    refine r_getI (pc := 78) hv 47 rfl rfl (isPat_oc h_p) ?_
    refine r_icmp_eq (pc := 81) hv 48 rfl (fun c => ?_) (fun c => ?_)
    · replace h := h.1 c
      exact (w_X2_removeLastHole_97 hS hv hw p h_p l1  σ h)
    · replace h := h.2 c
      refine r_aload_n (pc := 84) hv 49 rfl rfl ?_
      refine r_iload_n (pc := 85) hv 50 rfl rfl ?_
      refine r_iconst (pc := 86) hv 51 rfl  ?_
      refine r_callV (pc := 87) (l := [aI 1, aI l1]) (av := [aI l1, aI 1]) (a := p) (t := []) hv 52 rfl rfl rfl rfl (rcv_o (by decide) (isPat_oc h_p)) trivial (t_X2_cord hS h_p h.1 ?_)
      replace h := h.2
      show v 90 [some (aR p), some (aI l1)] [aI (σ.1 (p + 2) (l1 * 3 + 1 : Int32).toNatClampNeg)] σ
      refine r_aload_n (pc := 90) hv 53 rfl rfl ?_
      refine r_getI (pc := 91) hv 54 rfl rfl (isPat_oc h_p) ?_
      refine r_icmp_ne (pc := 94) hv 55 rfl (fun c => ?_) (fun c => ?_)
      · replace h := h.1 c
        refine r_iinc (pc := 103) (lo' := [some (aR p), some (aI (l1 + (-1)))]) hv 60 rfl rfl rfl ?_
        refine r_goto (pc := 106) hv 61 rfl  ?_
        exact h
      · replace h := h.2 c
        exact (w_X2_removeLastHole_97 hS hv hw p h_p l1  σ h)
def vc_X2_removeLastHole_22 (S : Sp) (Φ : Rs) (v : Kt) (p : Nat) (l1 : Int32) (σ : St) : Prop := ((σ.1 p 3 : Int32) ≤ l1 → (v 67 [some (aR p), some (aI ((σ.1 p 4) - 1))] [] σ)) ∧ (¬ ((σ.1 p 3 : Int32) ≤ l1) → (vp_in ((l1 * 9) + 8) 180 ∧ (vp_in ((l1 * 9) + 8) 180 ∧ (∀ σ1 : St, σ1 = upI σ (p + 1) ((l1 * 9) + 8 : Int32).toNatClampNeg ((σ.1 (p + 1) ((l1 * 9) + 8 : Int32).toNatClampNeg) &&& ((bitO (σ.1 p 3)) ^^^ (-1))) → (v 22 [some (aR p), some (aI (l1 + 1))] [] σ1)))))
theorem w_X2_removeLastHole_22 {S : Sp} (hS : Sys S) {Φ : Rs} {v : Kt} (hv : Cl S Φ k_X2_removeLastHole v) (hw : Wk v) (p : Nat) (h_p : isPat p) (l1 : Int32) (σ : St) (h : vc_X2_removeLastHole_22 S Φ v p l1 σ) : v 22 [some (aR p), some (aI l1)] [] σ := by
  unfold vc_X2_removeLastHole_22 at h
  refine r_iload_n (pc := 22) hv 13 rfl rfl ?_
  refine r_aload_n (pc := 23) hv 14 rfl rfl ?_
  refine r_getI (pc := 24) hv 15 rfl rfl (isPat_oc h_p) ?_
  refine r_icmp_ge (pc := 27) hv 16 rfl (fun c => ?_) (fun c => ?_)
  · replace h := h.1 c
    refine r_aload_n (pc := 60) hv 35 rfl rfl ?_
    refine r_getI (pc := 61) hv 36 rfl rfl (isPat_oc h_p) ?_
    refine r_iconst (pc := 64) hv 37 rfl  ?_
    refine r_isub (pc := 65) hv 38 rfl  ?_
    refine r_istore_n (pc := 66) (lo' := [some (aR p), some (aI ((σ.1 p 4) - 1))]) hv 39 rfl rfl ?_
    exact h
  · replace h := h.2 c
    refine r_aload_n (pc := 30) hv 17 rfl rfl ?_
    refine r_getR (pc := 31) (b := p + 1) hv 18 rfl rfl (isPat_oc h_p) (isPat_c0 h_p) ?_
    refine r_iload_n (pc := 34) hv 19 rfl rfl ?_
    refine r_bipush (pc := 35) hv 20 rfl  ?_
    refine r_imul (pc := 37) hv 21 rfl  ?_
    refine r_bipush (pc := 38) hv 22 rfl  ?_
    refine r_iadd (pc := 40) hv 23 rfl  ?_
    refine r_dup2 (pc := 41) hv 24 rfl trivial trivial ?_
    refine r_iaload (pc := 42) (N := 180) hv 25 rfl (isPat_t1 h_p) (isPat_l1 h_p) (isPat_lt1 h_p) h.1 ?_
    replace h := h.2
    refine r_aload_n (pc := 43) hv 26 rfl rfl ?_
    refine r_getI (pc := 44) hv 27 rfl rfl (isPat_oc h_p) ?_
    refine r_callS (pc := 47) (l := [aI (σ.1 p 3)]) (av := [aI (σ.1 p 3)]) (t := [aI (σ.1 (p + 1) ((l1 * 9) + 8 : Int32).toNatClampNeg), aI ((l1 * 9) + 8), aR (p + 1)]) hv 28 rfl (Or.inr rfl) rfl rfl rfl trivial (t_X8_bitOf hS ?_)
    show v 50 [some (aR p), some (aI l1)] [aI (bitO (σ.1 p 3)), aI (σ.1 (p + 1) ((l1 * 9) + 8 : Int32).toNatClampNeg), aI ((l1 * 9) + 8), aR (p + 1)] σ
    refine r_iconst (pc := 50) hv 29 rfl  ?_
    refine r_ixor (pc := 51) hv 30 rfl  ?_
    refine r_iand (pc := 52) hv 31 rfl  ?_
    refine r_iastore (pc := 53) (N := 180) hv 32 rfl (isPat_t1 h_p) (isPat_l1 h_p) h.1 ?_
    replace h := h.2
    obtain ⟨σ1, e_σ1⟩ : ∃ y : St, y = upI σ (p + 1) ((l1 * 9) + 8 : Int32).toNatClampNeg ((σ.1 (p + 1) ((l1 * 9) + 8 : Int32).toNatClampNeg) &&& ((bitO (σ.1 p 3)) ^^^ (-1))) := ⟨_, rfl⟩
    rw [← e_σ1]
    replace h := h σ1 e_σ1
    refine r_iinc (pc := 54) (lo' := [some (aR p), some (aI (l1 + 1))]) hv 33 rfl rfl rfl ?_
    refine r_goto (pc := 57) hv 34 rfl  ?_
    exact h
def vc_X2_removeLastHole_0 (S : Sp) (Φ : Rs) (v : Kt) (p : Nat) (σ : St) : Prop := (¬ (σ.1 p 3 : Int32) = 0 → (∀ σ1 : St, σ1 = upI σ p 3 ((σ.1 p 3) - 1) → (v 22 [some (aR p), some (aI 0)] [] σ1))) ∧ ((σ.1 p 3 : Int32) = 0 → (Φ [aI (-3)] σ))
theorem w_X2_removeLastHole_0 {S : Sp} (hS : Sys S) {Φ : Rs} {v : Kt} (hv : Cl S Φ k_X2_removeLastHole v) (hw : Wk v) (p : Nat) (h_p : isPat p) (σ : St) (h : vc_X2_removeLastHole_0 S Φ v p σ) : v 0 [some (aR p), none] [] σ := by
  unfold vc_X2_removeLastHole_0 at h
  refine r_aload_n (pc := 0) hv 0 rfl rfl ?_
  refine r_getI (pc := 1) hv 1 rfl rfl (isPat_oc h_p) ?_
  refine r_if_ne (pc := 4) hv 2 rfl (fun c => ?_) (fun c => ?_)
  · replace h := h.1 c
    refine r_aload_n (pc := 10) hv 5 rfl rfl ?_
    refine r_dup (pc := 11) hv 6 rfl trivial ?_
    refine r_getI (pc := 12) hv 7 rfl rfl (isPat_oc h_p) ?_
    refine r_iconst (pc := 15) hv 8 rfl  ?_
    refine r_isub (pc := 16) hv 9 rfl  ?_
    refine r_putI (pc := 17) hv 10 rfl rfl (isPat_oc h_p) ?_
    obtain ⟨σ1, e_σ1⟩ : ∃ y : St, y = upI σ p 3 ((σ.1 p 3) - 1) := ⟨_, rfl⟩
    rw [← e_σ1]
    replace h := h σ1 e_σ1
    refine r_iconst (pc := 20) hv 11 rfl  ?_
    refine r_istore_n (pc := 21) (lo' := [some (aR p), some (aI 0)]) hv 12 rfl rfl ?_
    exact h
  · replace h := h.2 c
    refine r_bipush (pc := 7) hv 3 rfl  ?_
    exact r_ireturn (pc := 9) hv 4 rfl rfl h
theorem m_X2_removeLastHole {S : Sp} (hS : Sys S) {p : Nat} (h_p : isPat p) {σ : St} {Φ : Rs} (h : ∀ v : Kt, Cl S Φ k_X2_removeLastHole v → Wk v → vc_X2_removeLastHole_0 S Φ v p σ) : S 35 [aR p] σ Φ :=
  hS.2 35 M_X2_removeLastHole k_X2_removeLastHole _ _ _ mkt_X2_removeLastHole (Nat.le_of_ble_eq_true rfl) (fun v hv hw => w_X2_removeLastHole_0 hS hv hw p h_p  σ (h v hv hw))
def vc_X2_changeRule_0 (S : Sp) (Φ : Rs) (v : Kt) (p : Nat) (l1 : Int32) (l2 : Int32) (σ : St) : Prop := ((l1 : Int32) < 0 → (Φ [aI (-1)] σ)) ∧ (¬ ((l1 : Int32) < 0) → (((l1 : Int32) < 3 → (vp_in l1 3 ∧ (((l2 : Int32) < (sv 104 (l1 : Int32).toNatClampNeg) → (Φ [aI (-2)] σ)) ∧ (¬ ((l2 : Int32) < (sv 104 (l1 : Int32).toNatClampNeg)) → (vp_in l1 3 ∧ (((l2 : Int32) ≤ (sv 105 (l1 : Int32).toNatClampNeg) → (vp_in l1 3 ∧ (vp_in l1 3 ∧ (∀ σ1 : St, σ1 = upI σ (p + 3) (l1 : Int32).toNatClampNeg l2 → (Φ [aI (σ.1 (p + 3) (l1 : Int32).toNatClampNeg)] σ1))))) ∧ (¬ ((l2 : Int32) ≤ (sv 105 (l1 : Int32).toNatClampNeg)) → (Φ [aI (-2)] σ)))))))) ∧ (¬ ((l1 : Int32) < 3) → (Φ [aI (-1)] σ))))
theorem w_X2_changeRule_0 {S : Sp} (hS : Sys S) {Φ : Rs} {v : Kt} (hv : Cl S Φ k_X2_changeRule v) (hw : Wk v) (p : Nat) (h_p : isPat p) (l1 : Int32) (l2 : Int32) (σ : St) (h : vc_X2_changeRule_0 S Φ v p l1 l2 σ) : v 0 [some (aR p), some (aI l1), some (aI l2), none] [] σ := by
  unfold vc_X2_changeRule_0 at h
  refine r_iload_n (pc := 0) hv 0 rfl rfl ?_
  refine r_if_lt (pc := 1) hv 1 rfl (fun c => ?_) (fun c => ?_)
  · replace h := h.1 c
    refine r_iconst (pc := 9) hv 5 rfl  ?_
    exact r_ireturn (pc := 10) hv 6 rfl rfl h
  · replace h := h.2 c
    refine r_iload_n (pc := 4) hv 2 rfl rfl ?_
    refine r_iconst (pc := 5) hv 3 rfl  ?_
    refine r_icmp_lt (pc := 6) hv 4 rfl (fun c => ?_) (fun c => ?_)
    · replace h := h.1 c
      refine r_iload_n (pc := 11) hv 7 rfl rfl ?_
      refine r_gets (pc := 12) hv 8 rfl  ?_
      refine r_iload_n (pc := 15) hv 9 rfl rfl ?_
      refine r_ialoadS (pc := 16) (N := 3) hv 10 rfl rfl rfl (by decide) h.1 ?_
      replace h := h.2
      refine r_icmp_lt (pc := 17) hv 11 rfl (fun c => ?_) (fun c => ?_)
      · replace h := h.1 c
        refine r_bipush (pc := 29) hv 17 rfl  ?_
        exact r_ireturn (pc := 31) hv 18 rfl rfl h
      · replace h := h.2 c
        refine r_iload_n (pc := 20) hv 12 rfl rfl ?_
        refine r_gets (pc := 21) hv 13 rfl  ?_
        refine r_iload_n (pc := 24) hv 14 rfl rfl ?_
        refine r_ialoadS (pc := 25) (N := 3) hv 15 rfl rfl rfl (by decide) h.1 ?_
        replace h := h.2
        refine r_icmp_le (pc := 26) hv 16 rfl (fun c => ?_) (fun c => ?_)
        · replace h := h.1 c
          refine r_aload_n (pc := 32) hv 19 rfl rfl ?_
          refine r_getR (pc := 33) (b := p + 3) hv 20 rfl rfl (isPat_oc h_p) (isPat_c2 h_p) ?_
          refine r_iload_n (pc := 36) hv 21 rfl rfl ?_
          refine r_iaload (pc := 37) (N := 3) hv 22 rfl (isPat_t3 h_p) (isPat_l3 h_p) (isPat_lt3 h_p) h.1 ?_
          replace h := h.2
          refine r_istore_n (pc := 38) (lo' := [some (aR p), some (aI l1), some (aI l2), some (aI (σ.1 (p + 3) (l1 : Int32).toNatClampNeg))]) hv 23 rfl rfl ?_
          refine r_aload_n (pc := 39) hv 24 rfl rfl ?_
          refine r_getR (pc := 40) (b := p + 3) hv 25 rfl rfl (isPat_oc h_p) (isPat_c2 h_p) ?_
          refine r_iload_n (pc := 43) hv 26 rfl rfl ?_
          refine r_iload_n (pc := 44) hv 27 rfl rfl ?_
          refine r_iastore (pc := 45) (N := 3) hv 28 rfl (isPat_t3 h_p) (isPat_l3 h_p) h.1 ?_
          replace h := h.2
          obtain ⟨σ1, e_σ1⟩ : ∃ y : St, y = upI σ (p + 3) (l1 : Int32).toNatClampNeg l2 := ⟨_, rfl⟩
          rw [← e_σ1]
          replace h := h σ1 e_σ1
          refine r_iload_n (pc := 46) hv 29 rfl rfl ?_
          exact r_ireturn (pc := 47) hv 30 rfl rfl h
        · replace h := h.2 c
          refine r_bipush (pc := 29) hv 17 rfl  ?_
          exact r_ireturn (pc := 31) hv 18 rfl rfl h
    · replace h := h.2 c
      refine r_iconst (pc := 9) hv 5 rfl  ?_
      exact r_ireturn (pc := 10) hv 6 rfl rfl h
theorem m_X2_changeRule {S : Sp} (hS : Sys S) {p : Nat} (h_p : isPat p) {l1 : Int32} {l2 : Int32} {σ : St} {Φ : Rs} (h : ∀ v : Kt, Cl S Φ k_X2_changeRule v → Wk v → vc_X2_changeRule_0 S Φ v p l1 l2 σ) : S 36 [aR p, aI l1, aI l2] σ Φ :=
  hS.2 36 M_X2_changeRule k_X2_changeRule _ _ _ mkt_X2_changeRule (Nat.le_of_ble_eq_true rfl) (fun v hv hw => w_X2_changeRule_0 hS hv hw p h_p l1 l2 σ (h v hv hw))
def vc_X2_holeAt_2 (S : Sp) (Φ : Rs) (v : Kt) (p : Nat) (l1 : Int32) (l2 : Int32) (l3 : Int32) (σ : St) : Prop := ((σ.1 p 3 : Int32) ≤ l3 → (Φ [aI (-1)] σ)) ∧ (¬ ((σ.1 p 3 : Int32) ≤ l3) → (vp_in (l3 * 9 + 0) 180 ∧ ((¬ (σ.1 (p + 1) (l3 * 9 + 0 : Int32).toNatClampNeg : Int32) = l1 → (v 2 [some (aR p), some (aI l1), some (aI l2), some (aI (l3 + 1))] [] σ)) ∧ ((σ.1 (p + 1) (l3 * 9 + 0 : Int32).toNatClampNeg : Int32) = l1 → (vp_in (l3 * 9 + 1) 180 ∧ ((¬ (σ.1 (p + 1) (l3 * 9 + 1 : Int32).toNatClampNeg : Int32) = l2 → (v 2 [some (aR p), some (aI l1), some (aI l2), some (aI (l3 + 1))] [] σ)) ∧ ((σ.1 (p + 1) (l3 * 9 + 1 : Int32).toNatClampNeg : Int32) = l2 → (Φ [aI l3] σ))))))))
theorem w_X2_holeAt_2 {S : Sp} (hS : Sys S) {Φ : Rs} {v : Kt} (hv : Cl S Φ k_X2_holeAt v) (hw : Wk v) (p : Nat) (h_p : isPat p) (l1 : Int32) (l2 : Int32) (l3 : Int32) (σ : St) (h : vc_X2_holeAt_2 S Φ v p l1 l2 l3 σ) : v 2 [some (aR p), some (aI l1), some (aI l2), some (aI l3)] [] σ := by
  unfold vc_X2_holeAt_2 at h
  refine r_iload_n (pc := 2) hv 2 rfl rfl ?_
  refine r_aload_n (pc := 3) hv 3 rfl rfl ?_
  refine r_getI (pc := 4) hv 4 rfl rfl (isPat_oc h_p) ?_
  refine r_icmp_ge (pc := 7) hv 5 rfl (fun c => ?_) (fun c => ?_)
  · replace h := h.1 c
    refine r_iconst (pc := 38) hv 22 rfl  ?_
    exact r_ireturn (pc := 39) hv 23 rfl rfl h
  · replace h := h.2 c
    refine r_aload_n (pc := 10) hv 6 rfl rfl ?_
    refine r_iload_n (pc := 11) hv 7 rfl rfl ?_
    refine r_iconst (pc := 12) hv 8 rfl  ?_
    refine r_callV (pc := 13) (l := [aI 0, aI l3]) (av := [aI l3, aI 0]) (a := p) (t := []) hv 9 rfl rfl rfl rfl (rcv_o (by decide) (isPat_oc h_p)) trivial (t_X2_mark hS h_p h.1 ?_)
    replace h := h.2
    show v 16 [some (aR p), some (aI l1), some (aI l2), some (aI l3)] [aI (σ.1 (p + 1) (l3 * 9 + 0 : Int32).toNatClampNeg)] σ
    refine r_iload_n (pc := 16) hv 10 rfl rfl ?_
    refine r_icmp_ne (pc := 17) hv 11 rfl (fun c => ?_) (fun c => ?_)
    · replace h := h.1 c
      refine r_iinc (pc := 32) (lo' := [some (aR p), some (aI l1), some (aI l2), some (aI (l3 + 1))]) hv 20 rfl rfl rfl ?_
      refine r_goto (pc := 35) hv 21 rfl  ?_
      exact h
    · replace h := h.2 c
      refine r_aload_n (pc := 20) hv 12 rfl rfl ?_
      refine r_iload_n (pc := 21) hv 13 rfl rfl ?_
      refine r_iconst (pc := 22) hv 14 rfl  ?_
      refine r_callV (pc := 23) (l := [aI 1, aI l3]) (av := [aI l3, aI 1]) (a := p) (t := []) hv 15 rfl rfl rfl rfl (rcv_o (by decide) (isPat_oc h_p)) trivial (t_X2_mark hS h_p h.1 ?_)
      replace h := h.2
      show v 26 [some (aR p), some (aI l1), some (aI l2), some (aI l3)] [aI (σ.1 (p + 1) (l3 * 9 + 1 : Int32).toNatClampNeg)] σ
      refine r_iload_n (pc := 26) hv 16 rfl rfl ?_
      refine r_icmp_ne (pc := 27) hv 17 rfl (fun c => ?_) (fun c => ?_)
      · replace h := h.1 c
        refine r_iinc (pc := 32) (lo' := [some (aR p), some (aI l1), some (aI l2), some (aI (l3 + 1))]) hv 20 rfl rfl rfl ?_
        refine r_goto (pc := 35) hv 21 rfl  ?_
        exact h
      · replace h := h.2 c
        refine r_iload_n (pc := 30) hv 18 rfl rfl ?_
        exact r_ireturn (pc := 31) hv 19 rfl rfl h
def vc_X2_holeAt_0 (S : Sp) (Φ : Rs) (v : Kt) (p : Nat) (l1 : Int32) (l2 : Int32) (σ : St) : Prop := v 2 [some (aR p), some (aI l1), some (aI l2), some (aI 0)] [] σ
theorem w_X2_holeAt_0 {S : Sp} (hS : Sys S) {Φ : Rs} {v : Kt} (hv : Cl S Φ k_X2_holeAt v) (hw : Wk v) (p : Nat) (h_p : isPat p) (l1 : Int32) (l2 : Int32) (σ : St) (h : vc_X2_holeAt_0 S Φ v p l1 l2 σ) : v 0 [some (aR p), some (aI l1), some (aI l2), none] [] σ := by
  unfold vc_X2_holeAt_0 at h
  refine r_iconst (pc := 0) hv 0 rfl  ?_
  refine r_istore_n (pc := 1) (lo' := [some (aR p), some (aI l1), some (aI l2), some (aI 0)]) hv 1 rfl rfl ?_
  exact h
theorem m_X2_holeAt {S : Sp} (hS : Sys S) {p : Nat} (h_p : isPat p) {l1 : Int32} {l2 : Int32} {σ : St} {Φ : Rs} (h : ∀ v : Kt, Cl S Φ k_X2_holeAt v → Wk v → vc_X2_holeAt_0 S Φ v p l1 l2 σ) : S 37 [aR p, aI l1, aI l2] σ Φ :=
  hS.2 37 M_X2_holeAt k_X2_holeAt _ _ _ mkt_X2_holeAt (Nat.le_of_ble_eq_true rfl) (fun v hv hw => w_X2_holeAt_0 hS hv hw p h_p l1 l2 σ (h v hv hw))
def vc_X2_deadBits_4 (S : Sp) (Φ : Rs) (v : Kt) (p : Nat) (l1 : Int32) (l2 : Int32) (σ : St) : Prop := ((σ.1 p 3 : Int32) ≤ l2 → (Φ [aI l1] σ)) ∧ (¬ ((σ.1 p 3 : Int32) ≤ l2) → (vp_in (l2 * 9 + 6) 180 ∧ (((σ.1 (p + 1) (l2 * 9 + 6 : Int32).toNatClampNeg : Int32) = 0 → (v 4 [some (aR p), some (aI l1), some (aI (l2 + 1))] [] σ)) ∧ (¬ ((σ.1 (p + 1) (l2 * 9 + 6 : Int32).toNatClampNeg : Int32) = 0) → (v 4 [some (aR p), some (aI (l1 ||| (bitO l2))), some (aI (l2 + 1))] [] σ)))))
theorem w_X2_deadBits_4 {S : Sp} (hS : Sys S) {Φ : Rs} {v : Kt} (hv : Cl S Φ k_X2_deadBits v) (hw : Wk v) (p : Nat) (h_p : isPat p) (l1 : Int32) (l2 : Int32) (σ : St) (h : vc_X2_deadBits_4 S Φ v p l1 l2 σ) : v 4 [some (aR p), some (aI l1), some (aI l2)] [] σ := by
  unfold vc_X2_deadBits_4 at h
  refine r_iload_n (pc := 4) hv 4 rfl rfl ?_
  refine r_aload_n (pc := 5) hv 5 rfl rfl ?_
  refine r_getI (pc := 6) hv 6 rfl rfl (isPat_oc h_p) ?_
  refine r_icmp_ge (pc := 9) hv 7 rfl (fun c => ?_) (fun c => ?_)
  · replace h := h.1 c
    refine r_iload_n (pc := 35) hv 20 rfl rfl ?_
    exact r_ireturn (pc := 36) hv 21 rfl rfl h
  · replace h := h.2 c
    refine r_aload_n (pc := 12) hv 8 rfl rfl ?_
    refine r_iload_n (pc := 13) hv 9 rfl rfl ?_
    refine r_bipush (pc := 14) hv 10 rfl  ?_
    refine r_callV (pc := 16) (l := [aI 6, aI l2]) (av := [aI l2, aI 6]) (a := p) (t := []) hv 11 rfl rfl rfl rfl (rcv_o (by decide) (isPat_oc h_p)) trivial (t_X2_mark hS h_p h.1 ?_)
    replace h := h.2
    show v 19 [some (aR p), some (aI l1), some (aI l2)] [aI (σ.1 (p + 1) (l2 * 9 + 6 : Int32).toNatClampNeg)] σ
    refine r_if_eq (pc := 19) hv 12 rfl (fun c => ?_) (fun c => ?_)
    · replace h := h.1 c
      refine r_iinc (pc := 29) (lo' := [some (aR p), some (aI l1), some (aI (l2 + 1))]) hv 18 rfl rfl rfl ?_
      refine r_goto (pc := 32) hv 19 rfl  ?_
      exact h
    · replace h := h.2 c
      refine r_iload_n (pc := 22) hv 13 rfl rfl ?_
      refine r_iload_n (pc := 23) hv 14 rfl rfl ?_
      refine r_callS (pc := 24) (l := [aI l2]) (av := [aI l2]) (t := [aI l1]) hv 15 rfl (Or.inr rfl) rfl rfl rfl trivial (t_X8_bitOf hS ?_)
      show v 27 [some (aR p), some (aI l1), some (aI l2)] [aI (bitO l2), aI l1] σ
      refine r_ior (pc := 27) hv 16 rfl  ?_
      refine r_istore_n (pc := 28) (lo' := [some (aR p), some (aI (l1 ||| (bitO l2))), some (aI l2)]) hv 17 rfl rfl ?_
      refine r_iinc (pc := 29) (lo' := [some (aR p), some (aI (l1 ||| (bitO l2))), some (aI (l2 + 1))]) hv 18 rfl rfl rfl ?_
      refine r_goto (pc := 32) hv 19 rfl  ?_
      exact h
def vc_X2_deadBits_0 (S : Sp) (Φ : Rs) (v : Kt) (p : Nat) (σ : St) : Prop := v 4 [some (aR p), some (aI 0), some (aI 0)] [] σ
theorem w_X2_deadBits_0 {S : Sp} (hS : Sys S) {Φ : Rs} {v : Kt} (hv : Cl S Φ k_X2_deadBits v) (hw : Wk v) (p : Nat) (h_p : isPat p) (σ : St) (h : vc_X2_deadBits_0 S Φ v p σ) : v 0 [some (aR p), none, none] [] σ := by
  unfold vc_X2_deadBits_0 at h
  refine r_iconst (pc := 0) hv 0 rfl  ?_
  refine r_istore_n (pc := 1) (lo' := [some (aR p), some (aI 0), none]) hv 1 rfl rfl ?_
  refine r_iconst (pc := 2) hv 2 rfl  ?_
  refine r_istore_n (pc := 3) (lo' := [some (aR p), some (aI 0), some (aI 0)]) hv 3 rfl rfl ?_
  exact h
theorem m_X2_deadBits {S : Sp} (hS : Sys S) {p : Nat} (h_p : isPat p) {σ : St} {Φ : Rs} (h : ∀ v : Kt, Cl S Φ k_X2_deadBits v → Wk v → vc_X2_deadBits_0 S Φ v p σ) : S 38 [aR p] σ Φ :=
  hS.2 38 M_X2_deadBits k_X2_deadBits _ _ _ mkt_X2_deadBits (Nat.le_of_ble_eq_true rfl) (fun v hv hw => w_X2_deadBits_0 hS hv hw p h_p  σ (h v hv hw))
def vc_X2_areNear_0 (S : Sp) (Φ : Rs) (v : Kt) (p : Nat) (l1 : Int32) (l2 : Int32) (σ : St) : Prop := vp_in (l1 * 9 + 0) 180 ∧ (vp_in (l2 * 9 + 0) 180 ∧ (((1 : Int32) < (if (0 : Int32) ≤ (σ.1 (p + 1) (l1 * 9 + 0 : Int32).toNatClampNeg) - (σ.1 (p + 1) (l2 * 9 + 0 : Int32).toNatClampNeg) then (σ.1 (p + 1) (l1 * 9 + 0 : Int32).toNatClampNeg) - (σ.1 (p + 1) (l2 * 9 + 0 : Int32).toNatClampNeg) else 0 - ((σ.1 (p + 1) (l1 * 9 + 0 : Int32).toNatClampNeg) - (σ.1 (p + 1) (l2 * 9 + 0 : Int32).toNatClampNeg))) → (Φ [aI 0] σ)) ∧ (¬ ((1 : Int32) < (if (0 : Int32) ≤ (σ.1 (p + 1) (l1 * 9 + 0 : Int32).toNatClampNeg) - (σ.1 (p + 1) (l2 * 9 + 0 : Int32).toNatClampNeg) then (σ.1 (p + 1) (l1 * 9 + 0 : Int32).toNatClampNeg) - (σ.1 (p + 1) (l2 * 9 + 0 : Int32).toNatClampNeg) else 0 - ((σ.1 (p + 1) (l1 * 9 + 0 : Int32).toNatClampNeg) - (σ.1 (p + 1) (l2 * 9 + 0 : Int32).toNatClampNeg)))) → (S 40 [aR p, aI l1, aI l2] σ (fun r σ1 => ∃ x2 : Int32, r = [aI x2] ∧ (((1 : Int32) < x2 → (Φ [aI 0] σ1)) ∧ (¬ ((1 : Int32) < x2) → (Φ [aI 1] σ1))))))))
theorem w_X2_areNear_0 {S : Sp} (hS : Sys S) {Φ : Rs} {v : Kt} (hv : Cl S Φ k_X2_areNear v) (hw : Wk v) (p : Nat) (h_p : isPat p) (l1 : Int32) (l2 : Int32) (σ : St) (h : vc_X2_areNear_0 S Φ v p l1 l2 σ) : v 0 [some (aR p), some (aI l1), some (aI l2)] [] σ := by
  unfold vc_X2_areNear_0 at h
  refine r_aload_n (pc := 0) hv 0 rfl rfl ?_
  refine r_iload_n (pc := 1) hv 1 rfl rfl ?_
  refine r_iconst (pc := 2) hv 2 rfl  ?_
  refine r_callV (pc := 3) (l := [aI 0, aI l1]) (av := [aI l1, aI 0]) (a := p) (t := []) hv 3 rfl rfl rfl rfl (rcv_o (by decide) (isPat_oc h_p)) trivial (t_X2_mark hS h_p h.1 ?_)
  replace h := h.2
  show v 6 [some (aR p), some (aI l1), some (aI l2)] [aI (σ.1 (p + 1) (l1 * 9 + 0 : Int32).toNatClampNeg)] σ
  refine r_aload_n (pc := 6) hv 4 rfl rfl ?_
  refine r_iload_n (pc := 7) hv 5 rfl rfl ?_
  refine r_iconst (pc := 8) hv 6 rfl  ?_
  refine r_callV (pc := 9) (l := [aI 0, aI l2]) (av := [aI l2, aI 0]) (a := p) (t := [aI (σ.1 (p + 1) (l1 * 9 + 0 : Int32).toNatClampNeg)]) hv 7 rfl rfl rfl rfl (rcv_o (by decide) (isPat_oc h_p)) trivial (t_X2_mark hS h_p h.1 ?_)
  replace h := h.2
  show v 12 [some (aR p), some (aI l1), some (aI l2)] [aI (σ.1 (p + 1) (l2 * 9 + 0 : Int32).toNatClampNeg), aI (σ.1 (p + 1) (l1 * 9 + 0 : Int32).toNatClampNeg)] σ
  refine r_isub (pc := 12) hv 8 rfl  ?_
  refine r_abs (pc := 13) hv 9 rfl rfl trivial ?_
  refine r_iconst (pc := 16) hv 10 rfl  ?_
  refine r_icmp_gt (pc := 17) hv 11 rfl (fun c => ?_) (fun c => ?_)
  · replace h := h.1 c
    refine r_iconst (pc := 34) hv 20 rfl  ?_
    exact r_zreturn (pc := 35) hv 21 rfl rfl (Or.inl rfl) h
  · replace h := h.2 c
    refine r_aload_n (pc := 20) hv 12 rfl rfl ?_
    refine r_iload_n (pc := 21) hv 13 rfl rfl ?_
    refine r_iload_n (pc := 22) hv 14 rfl rfl ?_
    refine r_callV (pc := 23) (l := [aI l2, aI l1]) (av := [aI l1, aI l2]) (a := p) (t := []) hv 15 rfl rfl rfl rfl (rcv_o (by decide) (isPat_oc h_p)) trivial (hS.1 _ _ _ _ _ (fun r σ1 h => ?_) h)
    obtain ⟨x2, rfl, h⟩ := h
    show v 26 [some (aR p), some (aI l1), some (aI l2)] [aI x2] σ1
    refine r_iconst (pc := 26) hv 16 rfl  ?_
    refine r_icmp_gt (pc := 27) hv 17 rfl (fun c => ?_) (fun c => ?_)
    · replace h := h.1 c
      refine r_iconst (pc := 34) hv 20 rfl  ?_
      exact r_zreturn (pc := 35) hv 21 rfl rfl (Or.inl rfl) h
    · replace h := h.2 c
      refine r_iconst (pc := 30) hv 18 rfl  ?_
      refine r_goto (pc := 31) hv 19 rfl  ?_
      exact r_zreturn (pc := 35) hv 21 rfl rfl (Or.inr rfl) h
theorem m_X2_areNear {S : Sp} (hS : Sys S) {p : Nat} (h_p : isPat p) {l1 : Int32} {l2 : Int32} {σ : St} {Φ : Rs} (h : ∀ v : Kt, Cl S Φ k_X2_areNear v → Wk v → vc_X2_areNear_0 S Φ v p l1 l2 σ) : S 39 [aR p, aI l1, aI l2] σ Φ :=
  hS.2 39 M_X2_areNear k_X2_areNear _ _ _ mkt_X2_areNear (Nat.le_of_ble_eq_true rfl) (fun v hv hw => w_X2_areNear_0 hS hv hw p h_p l1 l2 σ (h v hv hw))
def vc_X2_columnsOff_0 (S : Sp) (Φ : Rs) (v : Kt) (p : Nat) (l1 : Int32) (l2 : Int32) (σ : St) : Prop := vp_in (l1 * 9 + 1) 180 ∧ (vp_in (l2 * 9 + 1) 180 ∧ (Φ [aI (if (0 : Int32) ≤ (σ.1 (p + 1) (l1 * 9 + 1 : Int32).toNatClampNeg) - (σ.1 (p + 1) (l2 * 9 + 1 : Int32).toNatClampNeg) then (σ.1 (p + 1) (l1 * 9 + 1 : Int32).toNatClampNeg) - (σ.1 (p + 1) (l2 * 9 + 1 : Int32).toNatClampNeg) else 0 - ((σ.1 (p + 1) (l1 * 9 + 1 : Int32).toNatClampNeg) - (σ.1 (p + 1) (l2 * 9 + 1 : Int32).toNatClampNeg)))] σ))
theorem w_X2_columnsOff_0 {S : Sp} (hS : Sys S) {Φ : Rs} {v : Kt} (hv : Cl S Φ k_X2_columnsOff v) (hw : Wk v) (p : Nat) (h_p : isPat p) (l1 : Int32) (l2 : Int32) (σ : St) (h : vc_X2_columnsOff_0 S Φ v p l1 l2 σ) : v 0 [some (aR p), some (aI l1), some (aI l2)] [] σ := by
  unfold vc_X2_columnsOff_0 at h
  refine r_aload_n (pc := 0) hv 0 rfl rfl ?_
  refine r_iload_n (pc := 1) hv 1 rfl rfl ?_
  refine r_iconst (pc := 2) hv 2 rfl  ?_
  refine r_callV (pc := 3) (l := [aI 1, aI l1]) (av := [aI l1, aI 1]) (a := p) (t := []) hv 3 rfl rfl rfl rfl (rcv_o (by decide) (isPat_oc h_p)) trivial (t_X2_mark hS h_p h.1 ?_)
  replace h := h.2
  show v 6 [some (aR p), some (aI l1), some (aI l2)] [aI (σ.1 (p + 1) (l1 * 9 + 1 : Int32).toNatClampNeg)] σ
  refine r_aload_n (pc := 6) hv 4 rfl rfl ?_
  refine r_iload_n (pc := 7) hv 5 rfl rfl ?_
  refine r_iconst (pc := 8) hv 6 rfl  ?_
  refine r_callV (pc := 9) (l := [aI 1, aI l2]) (av := [aI l2, aI 1]) (a := p) (t := [aI (σ.1 (p + 1) (l1 * 9 + 1 : Int32).toNatClampNeg)]) hv 7 rfl rfl rfl rfl (rcv_o (by decide) (isPat_oc h_p)) trivial (t_X2_mark hS h_p h.1 ?_)
  replace h := h.2
  show v 12 [some (aR p), some (aI l1), some (aI l2)] [aI (σ.1 (p + 1) (l2 * 9 + 1 : Int32).toNatClampNeg), aI (σ.1 (p + 1) (l1 * 9 + 1 : Int32).toNatClampNeg)] σ
  refine r_isub (pc := 12) hv 8 rfl  ?_
  refine r_abs (pc := 13) hv 9 rfl rfl trivial ?_
  exact r_ireturn (pc := 16) hv 10 rfl rfl h
theorem m_X2_columnsOff {S : Sp} (hS : Sys S) {p : Nat} (h_p : isPat p) {l1 : Int32} {l2 : Int32} {σ : St} {Φ : Rs} (h : ∀ v : Kt, Cl S Φ k_X2_columnsOff v → Wk v → vc_X2_columnsOff_0 S Φ v p l1 l2 σ) : S 40 [aR p, aI l1, aI l2] σ Φ :=
  hS.2 40 M_X2_columnsOff k_X2_columnsOff _ _ _ mkt_X2_columnsOff (Nat.le_of_ble_eq_true rfl) (fun v hv hw => w_X2_columnsOff_0 hS hv hw p h_p l1 l2 σ (h v hv hw))
def vc_X2_firstLoadOf_0 (S : Sp) (Φ : Rs) (v : Kt) (p : Nat) (l1 : Int32) (σ : St) : Prop := vp_in (l1 * 9 + 2) 180 ∧ (vp_in (l1 * 9 + 3) 180 ∧ (Φ [aI (kFirst (σ.1 (p + 1) (l1 * 9 + 2 : Int32).toNatClampNeg) (σ.1 (p + 1) (l1 * 9 + 3 : Int32).toNatClampNeg))] σ))
theorem w_X2_firstLoadOf_0 {S : Sp} (hS : Sys S) {Φ : Rs} {v : Kt} (hv : Cl S Φ k_X2_firstLoadOf v) (hw : Wk v) (p : Nat) (h_p : isPat p) (l1 : Int32) (σ : St) (h : vc_X2_firstLoadOf_0 S Φ v p l1 σ) : v 0 [some (aR p), some (aI l1)] [] σ := by
  unfold vc_X2_firstLoadOf_0 at h
  refine r_aload_n (pc := 0) hv 0 rfl rfl ?_
  refine r_iload_n (pc := 1) hv 1 rfl rfl ?_
  refine r_iconst (pc := 2) hv 2 rfl  ?_
  refine r_callV (pc := 3) (l := [aI 2, aI l1]) (av := [aI l1, aI 2]) (a := p) (t := []) hv 3 rfl rfl rfl rfl (rcv_o (by decide) (isPat_oc h_p)) trivial (t_X2_mark hS h_p h.1 ?_)
  replace h := h.2
  show v 6 [some (aR p), some (aI l1)] [aI (σ.1 (p + 1) (l1 * 9 + 2 : Int32).toNatClampNeg)] σ
  refine r_aload_n (pc := 6) hv 4 rfl rfl ?_
  refine r_iload_n (pc := 7) hv 5 rfl rfl ?_
  refine r_iconst (pc := 8) hv 6 rfl  ?_
  refine r_callV (pc := 9) (l := [aI 3, aI l1]) (av := [aI l1, aI 3]) (a := p) (t := [aI (σ.1 (p + 1) (l1 * 9 + 2 : Int32).toNatClampNeg)]) hv 7 rfl rfl rfl rfl (rcv_o (by decide) (isPat_oc h_p)) trivial (t_X2_mark hS h_p h.1 ?_)
  replace h := h.2
  show v 12 [some (aR p), some (aI l1)] [aI (σ.1 (p + 1) (l1 * 9 + 3 : Int32).toNatClampNeg), aI (σ.1 (p + 1) (l1 * 9 + 2 : Int32).toNatClampNeg)] σ
  refine r_callS (pc := 12) (l := [aI (σ.1 (p + 1) (l1 * 9 + 3 : Int32).toNatClampNeg), aI (σ.1 (p + 1) (l1 * 9 + 2 : Int32).toNatClampNeg)]) (av := [aI (σ.1 (p + 1) (l1 * 9 + 2 : Int32).toNatClampNeg), aI (σ.1 (p + 1) (l1 * 9 + 3 : Int32).toNatClampNeg)]) (t := []) hv 8 rfl (Or.inl rfl) rfl rfl rfl trivial (t_X1_firstLoad hS ?_)
  show v 15 [some (aR p), some (aI l1)] [aI (kFirst (σ.1 (p + 1) (l1 * 9 + 2 : Int32).toNatClampNeg) (σ.1 (p + 1) (l1 * 9 + 3 : Int32).toNatClampNeg))] σ
  exact r_ireturn (pc := 15) hv 9 rfl rfl h
theorem m_X2_firstLoadOf {S : Sp} (hS : Sys S) {p : Nat} (h_p : isPat p) {l1 : Int32} {σ : St} {Φ : Rs} (h : ∀ v : Kt, Cl S Φ k_X2_firstLoadOf v → Wk v → vc_X2_firstLoadOf_0 S Φ v p l1 σ) : S 41 [aR p, aI l1] σ Φ :=
  hS.2 41 M_X2_firstLoadOf k_X2_firstLoadOf _ _ _ mkt_X2_firstLoadOf (Nat.le_of_ble_eq_true rfl) (fun v hv hw => w_X2_firstLoadOf_0 hS hv hw p h_p l1 σ (h v hv hw))
def vc_X2_secondLoadOf_0 (S : Sp) (Φ : Rs) (v : Kt) (p : Nat) (l1 : Int32) (σ : St) : Prop := vp_in (l1 * 9 + 2) 180 ∧ (vp_in (l1 * 9 + 3) 180 ∧ (Φ [aI (kSecond (σ.1 (p + 1) (l1 * 9 + 2 : Int32).toNatClampNeg) (σ.1 (p + 1) (l1 * 9 + 3 : Int32).toNatClampNeg))] σ))
theorem w_X2_secondLoadOf_0 {S : Sp} (hS : Sys S) {Φ : Rs} {v : Kt} (hv : Cl S Φ k_X2_secondLoadOf v) (hw : Wk v) (p : Nat) (h_p : isPat p) (l1 : Int32) (σ : St) (h : vc_X2_secondLoadOf_0 S Φ v p l1 σ) : v 0 [some (aR p), some (aI l1)] [] σ := by
  unfold vc_X2_secondLoadOf_0 at h
  refine r_aload_n (pc := 0) hv 0 rfl rfl ?_
  refine r_iload_n (pc := 1) hv 1 rfl rfl ?_
  refine r_iconst (pc := 2) hv 2 rfl  ?_
  refine r_callV (pc := 3) (l := [aI 2, aI l1]) (av := [aI l1, aI 2]) (a := p) (t := []) hv 3 rfl rfl rfl rfl (rcv_o (by decide) (isPat_oc h_p)) trivial (t_X2_mark hS h_p h.1 ?_)
  replace h := h.2
  show v 6 [some (aR p), some (aI l1)] [aI (σ.1 (p + 1) (l1 * 9 + 2 : Int32).toNatClampNeg)] σ
  refine r_aload_n (pc := 6) hv 4 rfl rfl ?_
  refine r_iload_n (pc := 7) hv 5 rfl rfl ?_
  refine r_iconst (pc := 8) hv 6 rfl  ?_
  refine r_callV (pc := 9) (l := [aI 3, aI l1]) (av := [aI l1, aI 3]) (a := p) (t := [aI (σ.1 (p + 1) (l1 * 9 + 2 : Int32).toNatClampNeg)]) hv 7 rfl rfl rfl rfl (rcv_o (by decide) (isPat_oc h_p)) trivial (t_X2_mark hS h_p h.1 ?_)
  replace h := h.2
  show v 12 [some (aR p), some (aI l1)] [aI (σ.1 (p + 1) (l1 * 9 + 3 : Int32).toNatClampNeg), aI (σ.1 (p + 1) (l1 * 9 + 2 : Int32).toNatClampNeg)] σ
  refine r_callS (pc := 12) (l := [aI (σ.1 (p + 1) (l1 * 9 + 3 : Int32).toNatClampNeg), aI (σ.1 (p + 1) (l1 * 9 + 2 : Int32).toNatClampNeg)]) (av := [aI (σ.1 (p + 1) (l1 * 9 + 2 : Int32).toNatClampNeg), aI (σ.1 (p + 1) (l1 * 9 + 3 : Int32).toNatClampNeg)]) (t := []) hv 8 rfl (Or.inl rfl) rfl rfl rfl trivial (t_X1_secondLoad hS ?_)
  show v 15 [some (aR p), some (aI l1)] [aI (kSecond (σ.1 (p + 1) (l1 * 9 + 2 : Int32).toNatClampNeg) (σ.1 (p + 1) (l1 * 9 + 3 : Int32).toNatClampNeg))] σ
  exact r_ireturn (pc := 15) hv 9 rfl rfl h
theorem m_X2_secondLoadOf {S : Sp} (hS : Sys S) {p : Nat} (h_p : isPat p) {l1 : Int32} {σ : St} {Φ : Rs} (h : ∀ v : Kt, Cl S Φ k_X2_secondLoadOf v → Wk v → vc_X2_secondLoadOf_0 S Φ v p l1 σ) : S 42 [aR p, aI l1] σ Φ :=
  hS.2 42 M_X2_secondLoadOf k_X2_secondLoadOf _ _ _ mkt_X2_secondLoadOf (Nat.le_of_ble_eq_true rfl) (fun v hv hw => w_X2_secondLoadOf_0 hS hv hw p h_p l1 σ (h v hv hw))
def vc_X2_loadsOf_0 (S : Sp) (Φ : Rs) (v : Kt) (p : Nat) (l1 : Int32) (σ : St) : Prop := S 41 [aR p, aI l1] σ (fun r σ1 => ∃ x2 : Int32, r = [aI x2] ∧ (S 42 [aR p, aI l1] σ1 (fun r σ3 => ∃ x4 : Int32, r = [aI x4] ∧ (Φ [aI (x2 + x4)] σ3))))
theorem w_X2_loadsOf_0 {S : Sp} (hS : Sys S) {Φ : Rs} {v : Kt} (hv : Cl S Φ k_X2_loadsOf v) (hw : Wk v) (p : Nat) (h_p : isPat p) (l1 : Int32) (σ : St) (h : vc_X2_loadsOf_0 S Φ v p l1 σ) : v 0 [some (aR p), some (aI l1)] [] σ := by
  unfold vc_X2_loadsOf_0 at h
  refine r_aload_n (pc := 0) hv 0 rfl rfl ?_
  refine r_iload_n (pc := 1) hv 1 rfl rfl ?_
  refine r_callV (pc := 2) (l := [aI l1]) (av := [aI l1]) (a := p) (t := []) hv 2 rfl rfl rfl rfl (rcv_o (by decide) (isPat_oc h_p)) trivial (hS.1 _ _ _ _ _ (fun r σ1 h => ?_) h)
  obtain ⟨x2, rfl, h⟩ := h
  show v 5 [some (aR p), some (aI l1)] [aI x2] σ1
  refine r_aload_n (pc := 5) hv 3 rfl rfl ?_
  refine r_iload_n (pc := 6) hv 4 rfl rfl ?_
  refine r_callV (pc := 7) (l := [aI l1]) (av := [aI l1]) (a := p) (t := [aI x2]) hv 5 rfl rfl rfl rfl (rcv_o (by decide) (isPat_oc h_p)) trivial (hS.1 _ _ _ _ _ (fun r σ3 h => ?_) h)
  obtain ⟨x4, rfl, h⟩ := h
  show v 10 [some (aR p), some (aI l1)] [aI x4, aI x2] σ3
  refine r_iadd (pc := 10) hv 6 rfl  ?_
  exact r_ireturn (pc := 11) hv 7 rfl rfl h
theorem m_X2_loadsOf {S : Sp} (hS : Sys S) {p : Nat} (h_p : isPat p) {l1 : Int32} {σ : St} {Φ : Rs} (h : ∀ v : Kt, Cl S Φ k_X2_loadsOf v → Wk v → vc_X2_loadsOf_0 S Φ v p l1 σ) : S 43 [aR p, aI l1] σ Φ :=
  hS.2 43 M_X2_loadsOf k_X2_loadsOf _ _ _ mkt_X2_loadsOf (Nat.le_of_ble_eq_true rfl) (fun v hv hw => w_X2_loadsOf_0 hS hv hw p h_p l1 σ (h v hv hw))
def vc_X2_rockOf_0 (S : Sp) (Φ : Rs) (v : Kt) (p : Nat) (l1 : Int32) (σ : St) : Prop := vp_in (l1 * 9 + 2) 180 ∧ (vp_in (l1 * 9 + 4) 180 ∧ (S 19 [aI (σ.1 (p + 1) (l1 * 9 + 2 : Int32).toNatClampNeg), aI (σ.1 (p + 1) (l1 * 9 + 4 : Int32).toNatClampNeg)] σ (fun r σ1 => ∃ x2 : Int32, r = [aI x2] ∧ (Φ [aI x2] σ1))))
theorem w_X2_rockOf_0 {S : Sp} (hS : Sys S) {Φ : Rs} {v : Kt} (hv : Cl S Φ k_X2_rockOf v) (hw : Wk v) (p : Nat) (h_p : isPat p) (l1 : Int32) (σ : St) (h : vc_X2_rockOf_0 S Φ v p l1 σ) : v 0 [some (aR p), some (aI l1)] [] σ := by
  unfold vc_X2_rockOf_0 at h
  refine r_aload_n (pc := 0) hv 0 rfl rfl ?_
  refine r_iload_n (pc := 1) hv 1 rfl rfl ?_
  refine r_iconst (pc := 2) hv 2 rfl  ?_
  refine r_callV (pc := 3) (l := [aI 2, aI l1]) (av := [aI l1, aI 2]) (a := p) (t := []) hv 3 rfl rfl rfl rfl (rcv_o (by decide) (isPat_oc h_p)) trivial (t_X2_mark hS h_p h.1 ?_)
  replace h := h.2
  show v 6 [some (aR p), some (aI l1)] [aI (σ.1 (p + 1) (l1 * 9 + 2 : Int32).toNatClampNeg)] σ
  refine r_aload_n (pc := 6) hv 4 rfl rfl ?_
  refine r_iload_n (pc := 7) hv 5 rfl rfl ?_
  refine r_iconst (pc := 8) hv 6 rfl  ?_
  refine r_callV (pc := 9) (l := [aI 4, aI l1]) (av := [aI l1, aI 4]) (a := p) (t := [aI (σ.1 (p + 1) (l1 * 9 + 2 : Int32).toNatClampNeg)]) hv 7 rfl rfl rfl rfl (rcv_o (by decide) (isPat_oc h_p)) trivial (t_X2_mark hS h_p h.1 ?_)
  replace h := h.2
  show v 12 [some (aR p), some (aI l1)] [aI (σ.1 (p + 1) (l1 * 9 + 4 : Int32).toNatClampNeg), aI (σ.1 (p + 1) (l1 * 9 + 2 : Int32).toNatClampNeg)] σ
  refine r_callS (pc := 12) (l := [aI (σ.1 (p + 1) (l1 * 9 + 4 : Int32).toNatClampNeg), aI (σ.1 (p + 1) (l1 * 9 + 2 : Int32).toNatClampNeg)]) (av := [aI (σ.1 (p + 1) (l1 * 9 + 2 : Int32).toNatClampNeg), aI (σ.1 (p + 1) (l1 * 9 + 4 : Int32).toNatClampNeg)]) (t := []) hv 8 rfl (Or.inl rfl) rfl rfl rfl trivial (hS.1 _ _ _ _ _ (fun r σ1 h => ?_) h)
  obtain ⟨x2, rfl, h⟩ := h
  show v 15 [some (aR p), some (aI l1)] [aI x2] σ1
  exact r_ireturn (pc := 15) hv 9 rfl rfl h
theorem m_X2_rockOf {S : Sp} (hS : Sys S) {p : Nat} (h_p : isPat p) {l1 : Int32} {σ : St} {Φ : Rs} (h : ∀ v : Kt, Cl S Φ k_X2_rockOf v → Wk v → vc_X2_rockOf_0 S Φ v p l1 σ) : S 45 [aR p, aI l1] σ Φ :=
  hS.2 45 M_X2_rockOf k_X2_rockOf _ _ _ mkt_X2_rockOf (Nat.le_of_ble_eq_true rfl) (fun v hv hw => w_X2_rockOf_0 hS hv hw p h_p l1 σ (h v hv hw))
def vc_X2_needsOf_0 (S : Sp) (Φ : Rs) (v : Kt) (p : Nat) (l1 : Int32) (σ : St) : Prop := vp_in (l1 * 9 + 2) 180 ∧ (vp_in (l1 * 9 + 4) 180 ∧ (Φ [aI (kNeeds (σ.1 (p + 1) (l1 * 9 + 2 : Int32).toNatClampNeg) (σ.1 (p + 1) (l1 * 9 + 4 : Int32).toNatClampNeg))] σ))
theorem w_X2_needsOf_0 {S : Sp} (hS : Sys S) {Φ : Rs} {v : Kt} (hv : Cl S Φ k_X2_needsOf v) (hw : Wk v) (p : Nat) (h_p : isPat p) (l1 : Int32) (σ : St) (h : vc_X2_needsOf_0 S Φ v p l1 σ) : v 0 [some (aR p), some (aI l1)] [] σ := by
  unfold vc_X2_needsOf_0 at h
  refine r_aload_n (pc := 0) hv 0 rfl rfl ?_
  refine r_iload_n (pc := 1) hv 1 rfl rfl ?_
  refine r_iconst (pc := 2) hv 2 rfl  ?_
  refine r_callV (pc := 3) (l := [aI 2, aI l1]) (av := [aI l1, aI 2]) (a := p) (t := []) hv 3 rfl rfl rfl rfl (rcv_o (by decide) (isPat_oc h_p)) trivial (t_X2_mark hS h_p h.1 ?_)
  replace h := h.2
  show v 6 [some (aR p), some (aI l1)] [aI (σ.1 (p + 1) (l1 * 9 + 2 : Int32).toNatClampNeg)] σ
  refine r_aload_n (pc := 6) hv 4 rfl rfl ?_
  refine r_iload_n (pc := 7) hv 5 rfl rfl ?_
  refine r_iconst (pc := 8) hv 6 rfl  ?_
  refine r_callV (pc := 9) (l := [aI 4, aI l1]) (av := [aI l1, aI 4]) (a := p) (t := [aI (σ.1 (p + 1) (l1 * 9 + 2 : Int32).toNatClampNeg)]) hv 7 rfl rfl rfl rfl (rcv_o (by decide) (isPat_oc h_p)) trivial (t_X2_mark hS h_p h.1 ?_)
  replace h := h.2
  show v 12 [some (aR p), some (aI l1)] [aI (σ.1 (p + 1) (l1 * 9 + 4 : Int32).toNatClampNeg), aI (σ.1 (p + 1) (l1 * 9 + 2 : Int32).toNatClampNeg)] σ
  refine r_callS (pc := 12) (l := [aI (σ.1 (p + 1) (l1 * 9 + 4 : Int32).toNatClampNeg), aI (σ.1 (p + 1) (l1 * 9 + 2 : Int32).toNatClampNeg)]) (av := [aI (σ.1 (p + 1) (l1 * 9 + 2 : Int32).toNatClampNeg), aI (σ.1 (p + 1) (l1 * 9 + 4 : Int32).toNatClampNeg)]) (t := []) hv 8 rfl (Or.inl rfl) rfl rfl rfl trivial (t_X1_needs hS ?_)
  show v 15 [some (aR p), some (aI l1)] [aI (kNeeds (σ.1 (p + 1) (l1 * 9 + 2 : Int32).toNatClampNeg) (σ.1 (p + 1) (l1 * 9 + 4 : Int32).toNatClampNeg))] σ
  exact r_ireturn (pc := 15) hv 9 rfl rfl h
theorem m_X2_needsOf {S : Sp} (hS : Sys S) {p : Nat} (h_p : isPat p) {l1 : Int32} {σ : St} {Φ : Rs} (h : ∀ v : Kt, Cl S Φ k_X2_needsOf v → Wk v → vc_X2_needsOf_0 S Φ v p l1 σ) : S 46 [aR p, aI l1] σ Φ :=
  hS.2 46 M_X2_needsOf k_X2_needsOf _ _ _ mkt_X2_needsOf (Nat.le_of_ble_eq_true rfl) (fun v hv hw => w_X2_needsOf_0 hS hv hw p h_p l1 σ (h v hv hw))
def vc_X2_reliefOf_42 (S : Sp) (Φ : Rs) (v : Kt) (a : Nat) (p : Nat) (l1 : Int32) (l2 : Int32) (l4 : Int32) (l5 : Int32) (l6 : Int32) (σ : St) : Prop := ((σ.1 p 3 : Int32) ≤ l6 → (vp_in (l1 * 9 + 2) 180 ∧ (vp_in (l1 * 9 + 4) 180 ∧ (Φ [aI (l5 + (kNeeds (σ.1 (p + 1) (l1 * 9 + 2 : Int32).toNatClampNeg) (σ.1 (p + 1) (l1 * 9 + 4 : Int32).toNatClampNeg)))] σ)))) ∧ (¬ ((σ.1 p 3 : Int32) ≤ l6) → (((b2 (¬ (l6 : Int32) < 0 ∧ ¬ 20 ≤ (l6 : Int32) ∧ ¬ ((l4 : Int32) >>> (l6 &&& 31)) &&& 1 = 0) : Int32) = 0 → (v 42 [some (aR p), some (aI l1), some (aI l2), some (aR a), some (aI l4), some (aI l5), some (aI (l6 + 1))] [] σ)) ∧ (¬ ((b2 (¬ (l6 : Int32) < 0 ∧ ¬ 20 ≤ (l6 : Int32) ∧ ¬ ((l4 : Int32) >>> (l6 &&& 31)) &&& 1 = 0) : Int32) = 0) → (vp_in l6 20 ∧ (v 42 [some (aR p), some (aI l1), some (aI l2), some (aR a), some (aI l4), some (aI (if (l5 : Int32) < (σ.1 a (l6 : Int32).toNatClampNeg) then (σ.1 a (l6 : Int32).toNatClampNeg) else l5)), some (aI (l6 + 1))] [] σ)))))
theorem w_X2_reliefOf_42 {S : Sp} (hS : Sys S) {Φ : Rs} {v : Kt} (hv : Cl S Φ k_X2_reliefOf v) (hw : Wk v) (a : Nat) (p : Nat) (h_a : isArr 1 a 20) (h_p : isPat p) (l1 : Int32) (l2 : Int32) (l4 : Int32) (l5 : Int32) (l6 : Int32) (σ : St) (h : vc_X2_reliefOf_42 S Φ v a p l1 l2 l4 l5 l6 σ) : v 42 [some (aR p), some (aI l1), some (aI l2), some (aR a), some (aI l4), some (aI l5), some (aI l6)] [] σ := by
  unfold vc_X2_reliefOf_42 at h
  refine r_iload (pc := 42) hv 26 rfl rfl ?_
  refine r_aload_n (pc := 44) hv 27 rfl rfl ?_
  refine r_getI (pc := 45) hv 28 rfl rfl (isPat_oc h_p) ?_
  refine r_icmp_ge (pc := 48) hv 29 rfl (fun c => ?_) (fun c => ?_)
  · replace h := h.1 c
    refine r_iload (pc := 78) hv 42 rfl rfl ?_
    refine r_aload_n (pc := 80) hv 43 rfl rfl ?_
    refine r_iload_n (pc := 81) hv 44 rfl rfl ?_
    refine r_iconst (pc := 82) hv 45 rfl  ?_
    refine r_callV (pc := 83) (l := [aI 2, aI l1]) (av := [aI l1, aI 2]) (a := p) (t := [aI l5]) hv 46 rfl rfl rfl rfl (rcv_o (by decide) (isPat_oc h_p)) trivial (t_X2_mark hS h_p h.1 ?_)
    replace h := h.2
    show v 86 [some (aR p), some (aI l1), some (aI l2), some (aR a), some (aI l4), some (aI l5), some (aI l6)] [aI (σ.1 (p + 1) (l1 * 9 + 2 : Int32).toNatClampNeg), aI l5] σ
    refine r_aload_n (pc := 86) hv 47 rfl rfl ?_
    refine r_iload_n (pc := 87) hv 48 rfl rfl ?_
    refine r_iconst (pc := 88) hv 49 rfl  ?_
    refine r_callV (pc := 89) (l := [aI 4, aI l1]) (av := [aI l1, aI 4]) (a := p) (t := [aI (σ.1 (p + 1) (l1 * 9 + 2 : Int32).toNatClampNeg), aI l5]) hv 50 rfl rfl rfl rfl (rcv_o (by decide) (isPat_oc h_p)) trivial (t_X2_mark hS h_p h.1 ?_)
    replace h := h.2
    show v 92 [some (aR p), some (aI l1), some (aI l2), some (aR a), some (aI l4), some (aI l5), some (aI l6)] [aI (σ.1 (p + 1) (l1 * 9 + 4 : Int32).toNatClampNeg), aI (σ.1 (p + 1) (l1 * 9 + 2 : Int32).toNatClampNeg), aI l5] σ
    refine r_callS (pc := 92) (l := [aI (σ.1 (p + 1) (l1 * 9 + 4 : Int32).toNatClampNeg), aI (σ.1 (p + 1) (l1 * 9 + 2 : Int32).toNatClampNeg)]) (av := [aI (σ.1 (p + 1) (l1 * 9 + 2 : Int32).toNatClampNeg), aI (σ.1 (p + 1) (l1 * 9 + 4 : Int32).toNatClampNeg)]) (t := [aI l5]) hv 51 rfl (Or.inl rfl) rfl rfl rfl trivial (t_X1_needs hS ?_)
    show v 95 [some (aR p), some (aI l1), some (aI l2), some (aR a), some (aI l4), some (aI l5), some (aI l6)] [aI (kNeeds (σ.1 (p + 1) (l1 * 9 + 2 : Int32).toNatClampNeg) (σ.1 (p + 1) (l1 * 9 + 4 : Int32).toNatClampNeg)), aI l5] σ
    refine r_iadd (pc := 95) hv 52 rfl  ?_
    exact r_ireturn (pc := 96) hv 53 rfl rfl h
  · replace h := h.2 c
    refine r_iload (pc := 51) hv 30 rfl rfl ?_
    refine r_iload (pc := 53) hv 31 rfl rfl ?_
    refine r_callS (pc := 55) (l := [aI l6, aI l4]) (av := [aI l4, aI l6]) (t := []) hv 32 rfl (Or.inr rfl) rfl rfl rfl trivial (t_X8_hasBit hS ?_)
    show v 58 [some (aR p), some (aI l1), some (aI l2), some (aR a), some (aI l4), some (aI l5), some (aI l6)] [aI (b2 (¬ (l6 : Int32) < 0 ∧ ¬ 20 ≤ (l6 : Int32) ∧ ¬ ((l4 : Int32) >>> (l6 &&& 31)) &&& 1 = 0))] σ
    refine r_if_eq (pc := 58) hv 33 rfl (fun c => ?_) (fun c => ?_)
    · replace h := h.1 c
      refine r_iinc (pc := 72) (lo' := [some (aR p), some (aI l1), some (aI l2), some (aR a), some (aI l4), some (aI l5), some (aI (l6 + 1))]) hv 40 rfl rfl rfl ?_
      refine r_goto (pc := 75) hv 41 rfl  ?_
      exact h
    · replace h := h.2 c
      refine r_iload (pc := 61) hv 34 rfl rfl ?_
      refine r_aload_n (pc := 63) hv 35 rfl rfl ?_
      refine r_iload (pc := 64) hv 36 rfl rfl ?_
      refine r_iaload (pc := 66) (N := 20) hv 37 rfl h_a.1 h_a.2.1 h_a.2.2 h.1 ?_
      replace h := h.2
      refine r_max (pc := 67) hv 38 rfl rfl trivial ?_
      refine r_istore (pc := 70) (lo' := [some (aR p), some (aI l1), some (aI l2), some (aR a), some (aI l4), some (aI (if (l5 : Int32) < (σ.1 a (l6 : Int32).toNatClampNeg) then (σ.1 a (l6 : Int32).toNatClampNeg) else l5)), some (aI l6)]) hv 39 rfl rfl ?_
      refine r_iinc (pc := 72) (lo' := [some (aR p), some (aI l1), some (aI l2), some (aR a), some (aI l4), some (aI (if (l5 : Int32) < (σ.1 a (l6 : Int32).toNatClampNeg) then (σ.1 a (l6 : Int32).toNatClampNeg) else l5)), some (aI (l6 + 1))]) hv 40 rfl rfl rfl ?_
      refine r_goto (pc := 75) hv 41 rfl  ?_
      exact h
def vc_X2_reliefOf_0 (S : Sp) (Φ : Rs) (v : Kt) (a : Nat) (p : Nat) (l1 : Int32) (l2 : Int32) (σ : St) : Prop := vp_in (l1 * 9 + 0) 180 ∧ ((¬ (σ.1 (p + 1) (l1 * 9 + 0 : Int32).toNatClampNeg : Int32) = 0 → (vp_in (l1 * 9 + 8) 180 ∧ (((σ.1 (p + 1) (l1 * 9 + 8 : Int32).toNatClampNeg : Int32) = 0 → (Φ [aI (-1)] σ)) ∧ (¬ ((σ.1 (p + 1) (l1 * 9 + 8 : Int32).toNatClampNeg : Int32) = 0) → ((((σ.1 (p + 1) (l1 * 9 + 8 : Int32).toNatClampNeg) &&& (l2 ^^^ (-1)) : Int32) = 0 → (v 42 [some (aR p), some (aI l1), some (aI l2), some (aR a), some (aI (σ.1 (p + 1) (l1 * 9 + 8 : Int32).toNatClampNeg)), some (aI 0), some (aI 0)] [] σ)) ∧ (¬ (((σ.1 (p + 1) (l1 * 9 + 8 : Int32).toNatClampNeg) &&& (l2 ^^^ (-1)) : Int32) = 0) → (Φ [aI (-1)] σ))))))) ∧ ((σ.1 (p + 1) (l1 * 9 + 0 : Int32).toNatClampNeg : Int32) = 0 → (Φ [aI 0] σ)))
theorem w_X2_reliefOf_0 {S : Sp} (hS : Sys S) {Φ : Rs} {v : Kt} (hv : Cl S Φ k_X2_reliefOf v) (hw : Wk v) (a : Nat) (p : Nat) (h_a : isArr 1 a 20) (h_p : isPat p) (l1 : Int32) (l2 : Int32) (σ : St) (h : vc_X2_reliefOf_0 S Φ v a p l1 l2 σ) : v 0 [some (aR p), some (aI l1), some (aI l2), some (aR a), none, none, none] [] σ := by
  unfold vc_X2_reliefOf_0 at h
  refine r_aload_n (pc := 0) hv 0 rfl rfl ?_
  refine r_iload_n (pc := 1) hv 1 rfl rfl ?_
  refine r_iconst (pc := 2) hv 2 rfl  ?_
  refine r_callV (pc := 3) (l := [aI 0, aI l1]) (av := [aI l1, aI 0]) (a := p) (t := []) hv 3 rfl rfl rfl rfl (rcv_o (by decide) (isPat_oc h_p)) trivial (t_X2_mark hS h_p h.1 ?_)
  replace h := h.2
  show v 6 [some (aR p), some (aI l1), some (aI l2), some (aR a), none, none, none] [aI (σ.1 (p + 1) (l1 * 9 + 0 : Int32).toNatClampNeg)] σ
  refine r_if_ne (pc := 6) hv 4 rfl (fun c => ?_) (fun c => ?_)
  · replace h := h.1 c
    refine r_aload_n (pc := 11) hv 7 rfl rfl ?_
    refine r_iload_n (pc := 12) hv 8 rfl rfl ?_
    refine r_bipush (pc := 13) hv 9 rfl  ?_
    refine r_callV (pc := 15) (l := [aI 8, aI l1]) (av := [aI l1, aI 8]) (a := p) (t := []) hv 10 rfl rfl rfl rfl (rcv_o (by decide) (isPat_oc h_p)) trivial (t_X2_mark hS h_p h.1 ?_)
    replace h := h.2
    show v 18 [some (aR p), some (aI l1), some (aI l2), some (aR a), none, none, none] [aI (σ.1 (p + 1) (l1 * 9 + 8 : Int32).toNatClampNeg)] σ
    refine r_istore (pc := 18) (lo' := [some (aR p), some (aI l1), some (aI l2), some (aR a), some (aI (σ.1 (p + 1) (l1 * 9 + 8 : Int32).toNatClampNeg)), none, none]) hv 11 rfl rfl ?_
    refine r_iload (pc := 20) hv 12 rfl rfl ?_
    refine r_if_eq (pc := 22) hv 13 rfl (fun c => ?_) (fun c => ?_)
    · replace h := h.1 c
      refine r_iconst (pc := 34) hv 20 rfl  ?_
      exact r_ireturn (pc := 35) hv 21 rfl rfl h
    · replace h := h.2 c
      refine r_iload (pc := 25) hv 14 rfl rfl ?_
      refine r_iload_n (pc := 27) hv 15 rfl rfl ?_
      refine r_iconst (pc := 28) hv 16 rfl  ?_
      refine r_ixor (pc := 29) hv 17 rfl  ?_
      refine r_iand (pc := 30) hv 18 rfl  ?_
      refine r_if_eq (pc := 31) hv 19 rfl (fun c => ?_) (fun c => ?_)
      · replace h := h.1 c
        refine r_iconst (pc := 36) hv 22 rfl  ?_
        refine r_istore (pc := 37) (lo' := [some (aR p), some (aI l1), some (aI l2), some (aR a), some (aI (σ.1 (p + 1) (l1 * 9 + 8 : Int32).toNatClampNeg)), some (aI 0), none]) hv 23 rfl rfl ?_
        refine r_iconst (pc := 39) hv 24 rfl  ?_
        refine r_istore (pc := 40) (lo' := [some (aR p), some (aI l1), some (aI l2), some (aR a), some (aI (σ.1 (p + 1) (l1 * 9 + 8 : Int32).toNatClampNeg)), some (aI 0), some (aI 0)]) hv 25 rfl rfl ?_
        exact h
      · replace h := h.2 c
        refine r_iconst (pc := 34) hv 20 rfl  ?_
        exact r_ireturn (pc := 35) hv 21 rfl rfl h
  · replace h := h.2 c
    refine r_iconst (pc := 9) hv 5 rfl  ?_
    exact r_ireturn (pc := 10) hv 6 rfl rfl h
theorem m_X2_reliefOf {S : Sp} (hS : Sys S) {a : Nat} (h_a : isArr 1 a 20) {p : Nat} (h_p : isPat p) {l1 : Int32} {l2 : Int32} {σ : St} {Φ : Rs} (h : ∀ v : Kt, Cl S Φ k_X2_reliefOf v → Wk v → vc_X2_reliefOf_0 S Φ v a p l1 l2 σ) : S 47 [aR p, aI l1, aI l2, aR a] σ Φ :=
  hS.2 47 M_X2_reliefOf k_X2_reliefOf _ _ _ mkt_X2_reliefOf (Nat.le_of_ble_eq_true rfl) (fun v hv hw => w_X2_reliefOf_0 hS hv hw a p h_a h_p l1 l2 σ (h v hv hw))
