def vc_X9_get_0 (S : Sp) (Φ : Rs) (v : Kt) (l1 : Int32) (l2 : Int32) (σ : St) : Prop := ((b2 ((0 : Int64) ≤ (l1 : Int32).toInt64 ∧ ((l1 : Int32).toInt64 : Int64) ≤ 3) : Int32) = 0 → (Φ [aL (-9223372036854775808)] σ)) ∧ (¬ ((b2 ((0 : Int64) ≤ (l1 : Int32).toInt64 ∧ ((l1 : Int32).toInt64 : Int64) ≤ 3) : Int32) = 0) → (vp_in l1 4 ∧ (((b2 ((0 : Int64) ≤ ((l2 : Int32).toInt64) ∧ ((l2 : Int32).toInt64 : Int64) ≤ (((σ.1 65 (l1 : Int32).toNatClampNeg) - 1 : Int32).toInt64)) : Int32) = 0 → (Φ [aL (-9223372036854775808)] σ)) ∧ (¬ ((b2 ((0 : Int64) ≤ ((l2 : Int32).toInt64) ∧ ((l2 : Int32).toInt64 : Int64) ≤ (((σ.1 65 (l1 : Int32).toNatClampNeg) - 1 : Int32).toInt64)) : Int32) = 0) → (vp_in ((40 * l1) + l2) 160 ∧ (Φ [aL (σ.2 64 ((40 * l1) + l2 : Int32).toNatClampNeg)] σ))))))
theorem w_X9_get_0 {S : Sp} (hS : Sys S) {Φ : Rs} {v : Kt} (hv : Cl S Φ k_X9_get v) (hw : Wk v) (l1 : Int32) (l2 : Int32) (σ : St) (h : vc_X9_get_0 S Φ v l1 l2 σ) : v 0 [some (aR 49), some (aI l1), some (aI l2)] [] σ := by
  unfold vc_X9_get_0 at h
  refine r_iload_n (pc := 0) hv 0 rfl rfl ?_
  refine r_callS (pc := 1) (l := [aI l1]) (av := [aI l1]) (t := []) hv 1 rfl (Or.inl rfl) rfl rfl rfl trivial (t_X9_isList hS ?_)
  show v 4 [some (aR 49), some (aI l1), some (aI l2)] [aI (b2 ((0 : Int64) ≤ (l1 : Int32).toInt64 ∧ ((l1 : Int32).toInt64 : Int64) ≤ 3))] σ
  refine r_if_eq (pc := 4) hv 2 rfl (fun c => ?_) (fun c => ?_)
  · replace h := h.1 c
    refine r_ldc2_w (pc := 39) hv 24 rfl  ?_
    exact r_lreturn (pc := 42) hv 25 rfl h
  · replace h := h.2 c
    refine r_iload_n (pc := 7) hv 3 rfl rfl ?_
    refine r_i2l (pc := 8) hv 4 rfl  ?_
    refine r_lconst (pc := 9) hv 5 rfl  ?_
    refine r_aload_n (pc := 10) hv 6 rfl rfl ?_
    refine r_getR (pc := 11) (b := 65) hv 7 rfl rfl rfl rfl ?_
    refine r_iload_n (pc := 14) hv 8 rfl rfl ?_
    refine r_iaload (pc := 15) (N := 4) hv 9 rfl rfl rfl (by decide) h.1 ?_
    replace h := h.2
    refine r_iconst (pc := 16) hv 10 rfl  ?_
    refine r_isub (pc := 17) hv 11 rfl  ?_
    refine r_i2l (pc := 18) hv 12 rfl  ?_
    refine r_callS (pc := 19) (l := [aL (((σ.1 65 (l1 : Int32).toNatClampNeg) - 1 : Int32).toInt64), aL 0, aL ((l2 : Int32).toInt64)]) (av := [aL ((l2 : Int32).toInt64), aL 0, aL (((σ.1 65 (l1 : Int32).toNatClampNeg) - 1 : Int32).toInt64)]) (t := []) hv 13 rfl (Or.inl rfl) rfl rfl rfl trivial (t_X9_in hS ?_)
    show v 22 [some (aR 49), some (aI l1), some (aI l2)] [aI (b2 ((0 : Int64) ≤ ((l2 : Int32).toInt64) ∧ ((l2 : Int32).toInt64 : Int64) ≤ (((σ.1 65 (l1 : Int32).toNatClampNeg) - 1 : Int32).toInt64)))] σ
    refine r_if_eq (pc := 22) hv 14 rfl (fun c => ?_) (fun c => ?_)
    · replace h := h.1 c
      refine r_ldc2_w (pc := 39) hv 24 rfl  ?_
      exact r_lreturn (pc := 42) hv 25 rfl h
    · replace h := h.2 c
      refine r_aload_n (pc := 25) hv 15 rfl rfl ?_
      refine r_getR (pc := 26) (b := 64) hv 16 rfl rfl rfl rfl ?_
      refine r_bipush (pc := 29) hv 17 rfl  ?_
      refine r_iload_n (pc := 31) hv 18 rfl rfl ?_
      refine r_imul (pc := 32) hv 19 rfl  ?_
      refine r_iload_n (pc := 33) hv 20 rfl rfl ?_
      refine r_iadd (pc := 34) hv 21 rfl  ?_
      refine r_laload (pc := 35) (N := 160) hv 22 rfl rfl rfl h.1 ?_
      replace h := h.2
      refine r_goto (pc := 36) hv 23 rfl  ?_
      exact r_lreturn (pc := 42) hv 25 rfl h
theorem m_X9_get {S : Sp} (hS : Sys S) {l1 : Int32} {l2 : Int32} {σ : St} {Φ : Rs} (h : ∀ v : Kt, Cl S Φ k_X9_get v → Wk v → vc_X9_get_0 S Φ v l1 l2 σ) : S 229 [aR 49, aI l1, aI l2] σ Φ :=
  hS.2 229 M_X9_get k_X9_get _ _ _ mkt_X9_get (Nat.le_of_ble_eq_true rfl) (fun v hv hw => w_X9_get_0 hS hv hw   l1 l2 σ (h v hv hw))
def vc_X9_layable_49 (S : Sp) (Φ : Rs) (v : Kt) (l1 : Int32) (l2 : Int32) (l3 : Int32) (σ : St) : Prop := (¬ (l1 : Int32) = 0 → ((¬ (l1 : Int32) = 1 → (vp_in l3 40 ∧ (vp_in l2 40 ∧ (∀ σ1 : St, σ1 = upI σ 66 (l2 : Int32).toNatClampNeg (σ.1 55 (l3 : Int32).toNatClampNeg) → (v 8 [some (aR 49), some (aI l1), some (aI (l2 + 1)), some (aI (l3 + 1))] [] σ1))))) ∧ ((l1 : Int32) = 1 → (S 156 [aR 49, aI l3] σ (fun r σ2 => ∃ x3 : Int32, r = [aI x3] ∧ (vp_in l2 40 ∧ (∀ σ4 : St, σ4 = upI σ2 66 (l2 : Int32).toNatClampNeg x3 → (v 8 [some (aR 49), some (aI l1), some (aI (l2 + 1)), some (aI (l3 + 1))] [] σ4)))))))) ∧ ((l1 : Int32) = 0 → (vp_in l3 20 ∧ (vp_in l2 40 ∧ (∀ σ5 : St, σ5 = upI σ 66 (l2 : Int32).toNatClampNeg (σ.1 54 (l3 : Int32).toNatClampNeg) → (v 8 [some (aR 49), some (aI l1), some (aI (l2 + 1)), some (aI (l3 + 1))] [] σ5)))))
theorem w_X9_layable_49 {S : Sp} (hS : Sys S) {Φ : Rs} {v : Kt} (hv : Cl S Φ k_X9_layable v) (hw : Wk v) (l1 : Int32) (l2 : Int32) (l3 : Int32) (σ : St) (h : vc_X9_layable_49 S Φ v l1 l2 l3 σ) : v 49 [some (aR 49), some (aI l1), some (aI l2), some (aI l3)] [] σ := by
  unfold vc_X9_layable_49 at h
  refine r_aload_n (pc := 49) hv 27 rfl rfl ?_
  refine r_getR (pc := 50) (b := 66) hv 28 rfl rfl rfl rfl ?_
  refine r_iload_n (pc := 53) hv 29 rfl rfl ?_
  refine r_iload_n (pc := 54) hv 30 rfl rfl ?_
  refine r_if_ne (pc := 55) hv 31 rfl (fun c => ?_) (fun c => ?_)
  · replace h := h.1 c
    refine r_iload_n (pc := 67) hv 37 rfl rfl ?_
    refine r_iconst (pc := 68) hv 38 rfl  ?_
    refine r_icmp_ne (pc := 69) hv 39 rfl (fun c => ?_) (fun c => ?_)
    · replace h := h.1 c
      refine r_aload_n (pc := 80) hv 44 rfl rfl ?_
      refine r_getR (pc := 81) (b := 55) hv 45 rfl rfl rfl rfl ?_
      refine r_iload_n (pc := 84) hv 46 rfl rfl ?_
      refine r_iaload (pc := 85) (N := 40) hv 47 rfl rfl rfl (by decide) h.1 ?_
      replace h := h.2
      refine r_iastore (pc := 86) (N := 40) hv 48 rfl rfl rfl h.1 ?_
      replace h := h.2
      obtain ⟨σ1, e_σ1⟩ : ∃ y : St, y = upI σ 66 (l2 : Int32).toNatClampNeg (σ.1 55 (l3 : Int32).toNatClampNeg) := ⟨_, rfl⟩
      rw [← e_σ1]
      replace h := h σ1 e_σ1
      refine r_iinc (pc := 87) (lo' := [some (aR 49), some (aI l1), some (aI (l2 + 1)), some (aI l3)]) hv 49 rfl rfl rfl ?_
      refine r_iinc (pc := 90) (lo' := [some (aR 49), some (aI l1), some (aI (l2 + 1)), some (aI (l3 + 1))]) hv 50 rfl rfl rfl ?_
      refine r_goto (pc := 93) hv 51 rfl  ?_
      exact h
    · replace h := h.2 c
      refine r_aload_n (pc := 72) hv 40 rfl rfl ?_
      refine r_iload_n (pc := 73) hv 41 rfl rfl ?_
      refine r_callV (pc := 74) (l := [aI l3]) (av := [aI l3]) (a := 49) (t := [aI l2, aR 66]) hv 42 rfl rfl rfl rfl (rcv_o (by decide) rfl) trivial (hS.1 _ _ _ _ _ (fun r σ2 h => ?_) h)
      obtain ⟨x3, rfl, h⟩ := h
      show v 77 [some (aR 49), some (aI l1), some (aI l2), some (aI l3)] [aI x3, aI l2, aR 66] σ2
      refine r_goto (pc := 77) hv 43 rfl  ?_
      refine r_iastore (pc := 86) (N := 40) hv 48 rfl rfl rfl h.1 ?_
      replace h := h.2
      obtain ⟨σ4, e_σ4⟩ : ∃ y : St, y = upI σ2 66 (l2 : Int32).toNatClampNeg x3 := ⟨_, rfl⟩
      rw [← e_σ4]
      replace h := h σ4 e_σ4
      refine r_iinc (pc := 87) (lo' := [some (aR 49), some (aI l1), some (aI (l2 + 1)), some (aI l3)]) hv 49 rfl rfl rfl ?_
      refine r_iinc (pc := 90) (lo' := [some (aR 49), some (aI l1), some (aI (l2 + 1)), some (aI (l3 + 1))]) hv 50 rfl rfl rfl ?_
      refine r_goto (pc := 93) hv 51 rfl  ?_
      exact h
  · replace h := h.2 c
    refine r_aload_n (pc := 58) hv 32 rfl rfl ?_
    refine r_getR (pc := 59) (b := 54) hv 33 rfl rfl rfl rfl ?_
    refine r_iload_n (pc := 62) hv 34 rfl rfl ?_
    refine r_iaload (pc := 63) (N := 20) hv 35 rfl rfl rfl (by decide) h.1 ?_
    replace h := h.2
    refine r_goto (pc := 64) hv 36 rfl  ?_
    refine r_iastore (pc := 86) (N := 40) hv 48 rfl rfl rfl h.1 ?_
    replace h := h.2
    obtain ⟨σ5, e_σ5⟩ : ∃ y : St, y = upI σ 66 (l2 : Int32).toNatClampNeg (σ.1 54 (l3 : Int32).toNatClampNeg) := ⟨_, rfl⟩
    rw [← e_σ5]
    replace h := h σ5 e_σ5
    refine r_iinc (pc := 87) (lo' := [some (aR 49), some (aI l1), some (aI (l2 + 1)), some (aI l3)]) hv 49 rfl rfl rfl ?_
    refine r_iinc (pc := 90) (lo' := [some (aR 49), some (aI l1), some (aI (l2 + 1)), some (aI (l3 + 1))]) hv 50 rfl rfl rfl ?_
    refine r_goto (pc := 93) hv 51 rfl  ?_
    exact h
def vc_X9_layable_29 (S : Sp) (Φ : Rs) (v : Kt) (l1 : Int32) (l2 : Int32) (l3 : Int32) (s0 : Int32) (s1 : Int32) (σ : St) : Prop := ((s0 : Int32) ≤ s1 → (Φ [aI l2] σ)) ∧ (¬ ((s0 : Int32) ≤ s1) → (((l1 : Int32) = 2 → (vc_X9_layable_49 S Φ v  l1 l2 l3 σ)) ∧ (¬ ((l1 : Int32) = 2) → (((b2 (((σ.1 49 7 : Int32) >>> (l3 &&& 31)) &&& 1 = 1) : Int32) = 0 → (v 8 [some (aR 49), some (aI l1), some (aI l2), some (aI (l3 + 1))] [] σ)) ∧ (¬ ((b2 (((σ.1 49 7 : Int32) >>> (l3 &&& 31)) &&& 1 = 1) : Int32) = 0) → (vc_X9_layable_49 S Φ v  l1 l2 l3 σ))))))
theorem w_X9_layable_29 {S : Sp} (hS : Sys S) {Φ : Rs} {v : Kt} (hv : Cl S Φ k_X9_layable v) (hw : Wk v) (l1 : Int32) (l2 : Int32) (l3 : Int32) (s0 : Int32) (s1 : Int32) (σ : St) (h : vc_X9_layable_29 S Φ v l1 l2 l3 s0 s1 σ) : v 29 [some (aR 49), some (aI l1), some (aI l2), some (aI l3)] [aI s0, aI s1] σ := by
  unfold vc_X9_layable_29 at h
  refine r_icmp_ge (pc := 29) hv 17 rfl (fun c => ?_) (fun c => ?_)
  · replace h := h.1 c
    refine r_iload_n (pc := 96) hv 52 rfl rfl ?_
    exact r_ireturn (pc := 97) hv 53 rfl rfl h
  · replace h := h.2 c
    refine r_iload_n (pc := 32) hv 18 rfl rfl ?_
    refine r_iconst (pc := 33) hv 19 rfl  ?_
    refine r_icmp_eq (pc := 34) hv 20 rfl (fun c => ?_) (fun c => ?_)
    · replace h := h.1 c
      exact (w_X9_layable_49 hS hv hw   l1 l2 l3  σ h)
    · replace h := h.2 c
      refine r_aload_n (pc := 37) hv 21 rfl rfl ?_
      refine r_aload_n (pc := 38) hv 22 rfl rfl ?_
      refine r_getI (pc := 39) hv 23 rfl rfl rfl ?_
      refine r_iload_n (pc := 42) hv 24 rfl rfl ?_
      refine r_callV (pc := 43) (l := [aI l3, aI (σ.1 49 7)]) (av := [aI (σ.1 49 7), aI l3]) (a := 49) (t := []) hv 25 rfl rfl rfl rfl (rcv_o (by decide) rfl) trivial (t_X9_has hS ?_)
      show v 46 [some (aR 49), some (aI l1), some (aI l2), some (aI l3)] [aI (b2 (((σ.1 49 7 : Int32) >>> (l3 &&& 31)) &&& 1 = 1))] σ
      refine r_if_eq (pc := 46) hv 26 rfl (fun c => ?_) (fun c => ?_)
      · replace h := h.1 c
        refine r_iinc (pc := 90) (lo' := [some (aR 49), some (aI l1), some (aI l2), some (aI (l3 + 1))]) hv 50 rfl rfl rfl ?_
        refine r_goto (pc := 93) hv 51 rfl  ?_
        exact h
      · replace h := h.2 c
        exact (w_X9_layable_49 hS hv hw   l1 l2 l3  σ h)
def vc_X9_layable_8 (S : Sp) (Φ : Rs) (v : Kt) (l1 : Int32) (l2 : Int32) (l3 : Int32) (σ : St) : Prop := (¬ (l1 : Int32) = 2 → (vp_in 280 286 ∧ (vc_X9_layable_29 S Φ v  l1 l2 l3 (σ.1 50 (280 : Int32).toNatClampNeg) l3 σ))) ∧ ((l1 : Int32) = 2 → (vc_X9_layable_29 S Φ v  l1 l2 l3 (σ.1 49 12) l3 σ))
theorem w_X9_layable_8 {S : Sp} (hS : Sys S) {Φ : Rs} {v : Kt} (hv : Cl S Φ k_X9_layable v) (hw : Wk v) (l1 : Int32) (l2 : Int32) (l3 : Int32) (σ : St) (h : vc_X9_layable_8 S Φ v l1 l2 l3 σ) : v 8 [some (aR 49), some (aI l1), some (aI l2), some (aI l3)] [] σ := by
  unfold vc_X9_layable_8 at h
  refine r_iload_n (pc := 8) hv 6 rfl rfl ?_
  refine r_iload_n (pc := 9) hv 7 rfl rfl ?_
  refine r_iconst (pc := 10) hv 8 rfl  ?_
  refine r_icmp_ne (pc := 11) hv 9 rfl (fun c => ?_) (fun c => ?_)
  · replace h := h.1 c
    refine r_aload_n (pc := 21) hv 13 rfl rfl ?_
    refine r_getR (pc := 22) (b := 50) hv 14 rfl rfl rfl rfl ?_
    refine r_sipush (pc := 25) hv 15 rfl  ?_
    refine r_iaload (pc := 28) (N := 286) hv 16 rfl rfl rfl (by decide) h.1 ?_
    replace h := h.2
    exact (w_X9_layable_29 hS hv hw   l1 l2 l3 (σ.1 50 (280 : Int32).toNatClampNeg) l3  σ h)
  · replace h := h.2 c
    refine r_aload_n (pc := 14) hv 10 rfl rfl ?_
    refine r_getI (pc := 15) hv 11 rfl rfl rfl ?_
    refine r_goto (pc := 18) hv 12 rfl  ?_
    exact (w_X9_layable_29 hS hv hw   l1 l2 l3 (σ.1 49 12) l3  σ h)
def vc_X9_layable_0 (S : Sp) (Φ : Rs) (v : Kt) (l1 : Int32) (σ : St) : Prop := S 186 [aR 49] σ (fun r σ1 => r = [] ∧ (v 8 [some (aR 49), some (aI l1), some (aI 0), some (aI 0)] [] σ1))
theorem w_X9_layable_0 {S : Sp} (hS : Sys S) {Φ : Rs} {v : Kt} (hv : Cl S Φ k_X9_layable v) (hw : Wk v) (l1 : Int32) (σ : St) (h : vc_X9_layable_0 S Φ v l1 σ) : v 0 [some (aR 49), some (aI l1), none, none] [] σ := by
  unfold vc_X9_layable_0 at h
  refine r_aload_n (pc := 0) hv 0 rfl rfl ?_
  refine r_callV (pc := 1) (l := []) (av := []) (a := 49) (t := []) hv 1 rfl rfl rfl rfl (rcv_o (by decide) rfl) trivial (hS.1 _ _ _ _ _ (fun r σ1 h => ?_) h)
  obtain ⟨rfl, h⟩ := h
  show v 4 [some (aR 49), some (aI l1), none, none] [] σ1
  refine r_iconst (pc := 4) hv 2 rfl  ?_
  refine r_istore_n (pc := 5) (lo' := [some (aR 49), some (aI l1), some (aI 0), none]) hv 3 rfl rfl ?_
  refine r_iconst (pc := 6) hv 4 rfl  ?_
  refine r_istore_n (pc := 7) (lo' := [some (aR 49), some (aI l1), some (aI 0), some (aI 0)]) hv 5 rfl rfl ?_
  exact h
theorem m_X9_layable {S : Sp} (hS : Sys S) {l1 : Int32} {σ : St} {Φ : Rs} (h : ∀ v : Kt, Cl S Φ k_X9_layable v → Wk v → vc_X9_layable_0 S Φ v l1 σ) : S 230 [aR 49, aI l1] σ Φ :=
  hS.2 230 M_X9_layable k_X9_layable _ _ _ mkt_X9_layable (Nat.le_of_ble_eq_true rfl) (fun v hv hw => w_X9_layable_0 hS hv hw   l1 σ (h v hv hw))
def vc_X9_fill_51 (S : Sp) (Φ : Rs) (v : Kt) (l1 : Int32) (l2 : Int32) (l3 : Int32) (l4 : Int32) (σ : St) : Prop := ((l3 : Int32) ≤ l4 → (Φ [aI l3] σ)) ∧ (¬ ((l3 : Int32) ≤ l4) → (vp_in l4 40 ∧ (vp_in ((40 * l1) + l4) 160 ∧ (∀ σ1 : St, σ1 = upJ σ 64 ((40 * l1) + l4 : Int32).toNatClampNeg ((σ.1 66 (l4 : Int32).toNatClampNeg : Int32).toInt64) → (v 51 [some (aR 49), some (aI l1), some (aI l2), some (aI l3), some (aI (l4 + 1))] [] σ1)))))
theorem w_X9_fill_51 {S : Sp} (hS : Sys S) {Φ : Rs} {v : Kt} (hv : Cl S Φ k_X9_fill v) (hw : Wk v) (l1 : Int32) (l2 : Int32) (l3 : Int32) (l4 : Int32) (σ : St) (h : vc_X9_fill_51 S Φ v l1 l2 l3 l4 σ) : v 51 [some (aR 49), some (aI l1), some (aI l2), some (aI l3), some (aI l4)] [] σ := by
  unfold vc_X9_fill_51 at h
  refine r_iload (pc := 51) hv 29 rfl rfl ?_
  refine r_iload_n (pc := 53) hv 30 rfl rfl ?_
  refine r_icmp_ge (pc := 54) hv 31 rfl (fun c => ?_) (fun c => ?_)
  · replace h := h.1 c
    refine r_iload_n (pc := 83) hv 47 rfl rfl ?_
    exact r_ireturn (pc := 84) hv 48 rfl rfl h
  · replace h := h.2 c
    refine r_aload_n (pc := 57) hv 32 rfl rfl ?_
    refine r_getR (pc := 58) (b := 64) hv 33 rfl rfl rfl rfl ?_
    refine r_bipush (pc := 61) hv 34 rfl  ?_
    refine r_iload_n (pc := 63) hv 35 rfl rfl ?_
    refine r_imul (pc := 64) hv 36 rfl  ?_
    refine r_iload (pc := 65) hv 37 rfl rfl ?_
    refine r_iadd (pc := 67) hv 38 rfl  ?_
    refine r_aload_n (pc := 68) hv 39 rfl rfl ?_
    refine r_getR (pc := 69) (b := 66) hv 40 rfl rfl rfl rfl ?_
    refine r_iload (pc := 72) hv 41 rfl rfl ?_
    refine r_iaload (pc := 74) (N := 40) hv 42 rfl rfl rfl (by decide) h.1 ?_
    replace h := h.2
    refine r_i2l (pc := 75) hv 43 rfl  ?_
    refine r_lastore (pc := 76) (N := 160) hv 44 rfl rfl rfl h.1 ?_
    replace h := h.2
    obtain ⟨σ1, e_σ1⟩ : ∃ y : St, y = upJ σ 64 ((40 * l1) + l4 : Int32).toNatClampNeg ((σ.1 66 (l4 : Int32).toNatClampNeg : Int32).toInt64) := ⟨_, rfl⟩
    rw [← e_σ1]
    replace h := h σ1 e_σ1
    refine r_iinc (pc := 77) (lo' := [some (aR 49), some (aI l1), some (aI l2), some (aI l3), some (aI (l4 + 1))]) hv 45 rfl rfl rfl ?_
    refine r_goto (pc := 80) hv 46 rfl  ?_
    exact h
def vc_X9_fill_0 (S : Sp) (Φ : Rs) (v : Kt) (l1 : Int32) (l2 : Int32) (σ : St) : Prop := ((b2 ((0 : Int64) ≤ (l1 : Int32).toInt64 ∧ ((l1 : Int32).toInt64 : Int64) ≤ 3) : Int32) = 0 → (Φ [aI (-1)] σ)) ∧ (¬ ((b2 ((0 : Int64) ≤ (l1 : Int32).toInt64 ∧ ((l1 : Int32).toInt64 : Int64) ≤ 3) : Int32) = 0) → ((¬ (b2 ((0 : Int64) ≤ ((l2 : Int32).toInt64) ∧ ((l2 : Int32).toInt64 : Int64) ≤ 2) : Int32) = 0 → (vp_in l1 4 ∧ (((0 : Int32) ≤ (σ.1 65 (l1 : Int32).toNatClampNeg) → (S 230 [aR 49, aI l2] σ (fun r σ1 => ∃ x2 : Int32, r = [aI x2] ∧ (vp_in l1 4 ∧ (v 51 [some (aR 49), some (aI l1), some (aI l2), some (aI (if (σ1.1 65 (l1 : Int32).toNatClampNeg : Int32) ≤ x2 then (σ1.1 65 (l1 : Int32).toNatClampNeg) else x2)), some (aI 0)] [] σ1))))) ∧ (¬ ((0 : Int32) ≤ (σ.1 65 (l1 : Int32).toNatClampNeg)) → (Φ [aI (-11)] σ))))) ∧ ((b2 ((0 : Int64) ≤ ((l2 : Int32).toInt64) ∧ ((l2 : Int32).toInt64 : Int64) ≤ 2) : Int32) = 0 → (Φ [aI (-1)] σ))))
theorem w_X9_fill_0 {S : Sp} (hS : Sys S) {Φ : Rs} {v : Kt} (hv : Cl S Φ k_X9_fill v) (hw : Wk v) (l1 : Int32) (l2 : Int32) (σ : St) (h : vc_X9_fill_0 S Φ v l1 l2 σ) : v 0 [some (aR 49), some (aI l1), some (aI l2), none, none] [] σ := by
  unfold vc_X9_fill_0 at h
  refine r_iload_n (pc := 0) hv 0 rfl rfl ?_
  refine r_callS (pc := 1) (l := [aI l1]) (av := [aI l1]) (t := []) hv 1 rfl (Or.inl rfl) rfl rfl rfl trivial (t_X9_isList hS ?_)
  show v 4 [some (aR 49), some (aI l1), some (aI l2), none, none] [aI (b2 ((0 : Int64) ≤ (l1 : Int32).toInt64 ∧ ((l1 : Int32).toInt64 : Int64) ≤ 3))] σ
  refine r_if_eq (pc := 4) hv 2 rfl (fun c => ?_) (fun c => ?_)
  · replace h := h.1 c
    refine r_iconst (pc := 19) hv 9 rfl  ?_
    exact r_ireturn (pc := 20) hv 10 rfl rfl h
  · replace h := h.2 c
    refine r_iload_n (pc := 7) hv 3 rfl rfl ?_
    refine r_i2l (pc := 8) hv 4 rfl  ?_
    refine r_lconst (pc := 9) hv 5 rfl  ?_
    refine r_ldc2_w (pc := 10) hv 6 rfl  ?_
    refine r_callS (pc := 13) (l := [aL 2, aL 0, aL ((l2 : Int32).toInt64)]) (av := [aL ((l2 : Int32).toInt64), aL 0, aL 2]) (t := []) hv 7 rfl (Or.inl rfl) rfl rfl rfl trivial (t_X9_in hS ?_)
    show v 16 [some (aR 49), some (aI l1), some (aI l2), none, none] [aI (b2 ((0 : Int64) ≤ ((l2 : Int32).toInt64) ∧ ((l2 : Int32).toInt64 : Int64) ≤ 2))] σ
    refine r_if_ne (pc := 16) hv 8 rfl (fun c => ?_) (fun c => ?_)
    · replace h := h.1 c
      refine r_aload_n (pc := 21) hv 11 rfl rfl ?_
      refine r_getR (pc := 22) (b := 65) hv 12 rfl rfl rfl rfl ?_
      refine r_iload_n (pc := 25) hv 13 rfl rfl ?_
      refine r_iaload (pc := 26) (N := 4) hv 14 rfl rfl rfl (by decide) h.1 ?_
      replace h := h.2
      refine r_if_ge (pc := 27) hv 15 rfl (fun c => ?_) (fun c => ?_)
      · replace h := h.1 c
        refine r_aload_n (pc := 33) hv 18 rfl rfl ?_
        refine r_iload_n (pc := 34) hv 19 rfl rfl ?_
        refine r_callV (pc := 35) (l := [aI l2]) (av := [aI l2]) (a := 49) (t := []) hv 20 rfl rfl rfl rfl (rcv_o (by decide) rfl) trivial (hS.1 _ _ _ _ _ (fun r σ1 h => ?_) h)
        obtain ⟨x2, rfl, h⟩ := h
        show v 38 [some (aR 49), some (aI l1), some (aI l2), none, none] [aI x2] σ1
        refine r_aload_n (pc := 38) hv 21 rfl rfl ?_
        refine r_getR (pc := 39) (b := 65) hv 22 rfl rfl rfl rfl ?_
        refine r_iload_n (pc := 42) hv 23 rfl rfl ?_
        refine r_iaload (pc := 43) (N := 4) hv 24 rfl rfl rfl (by decide) h.1 ?_
        replace h := h.2
        refine r_callS (pc := 44) (l := [aI (σ1.1 65 (l1 : Int32).toNatClampNeg), aI x2]) (av := [aI x2, aI (σ1.1 65 (l1 : Int32).toNatClampNeg)]) (t := []) hv 25 rfl (Or.inl rfl) rfl rfl rfl trivial (t_X9_less hS ?_)
        show v 47 [some (aR 49), some (aI l1), some (aI l2), none, none] [aI (if (σ1.1 65 (l1 : Int32).toNatClampNeg : Int32) ≤ x2 then (σ1.1 65 (l1 : Int32).toNatClampNeg) else x2)] σ1
        refine r_istore_n (pc := 47) (lo' := [some (aR 49), some (aI l1), some (aI l2), some (aI (if (σ1.1 65 (l1 : Int32).toNatClampNeg : Int32) ≤ x2 then (σ1.1 65 (l1 : Int32).toNatClampNeg) else x2)), none]) hv 26 rfl rfl ?_
        refine r_iconst (pc := 48) hv 27 rfl  ?_
        refine r_istore (pc := 49) (lo' := [some (aR 49), some (aI l1), some (aI l2), some (aI (if (σ1.1 65 (l1 : Int32).toNatClampNeg : Int32) ≤ x2 then (σ1.1 65 (l1 : Int32).toNatClampNeg) else x2)), some (aI 0)]) hv 28 rfl rfl ?_
        exact h
      · replace h := h.2 c
        refine r_bipush (pc := 30) hv 16 rfl  ?_
        exact r_ireturn (pc := 32) hv 17 rfl rfl h
    · replace h := h.2 c
      refine r_iconst (pc := 19) hv 9 rfl  ?_
      exact r_ireturn (pc := 20) hv 10 rfl rfl h
theorem m_X9_fill {S : Sp} (hS : Sys S) {l1 : Int32} {l2 : Int32} {σ : St} {Φ : Rs} (h : ∀ v : Kt, Cl S Φ k_X9_fill v → Wk v → vc_X9_fill_0 S Φ v l1 l2 σ) : S 231 [aR 49, aI l1, aI l2] σ Φ :=
  hS.2 231 M_X9_fill k_X9_fill _ _ _ mkt_X9_fill (Nat.le_of_ble_eq_true rfl) (fun v hv hw => w_X9_fill_0 hS hv hw   l1 l2 σ (h v hv hw))
def vc_X9_judge_42 (S : Sp) (Φ : Rs) (v : Kt) (l1 : Int32) (l2 : Int32) (l3 : Int32) (l4 : Int32) (σ : St) : Prop := vp_in l1 4 ∧ (((σ.1 65 (l1 : Int32).toNatClampNeg : Int32) ≤ l4 → (Φ [aI (-1)] σ)) ∧ (¬ ((σ.1 65 (l1 : Int32).toNatClampNeg : Int32) ≤ l4) → (((l3 : Int32) ≤ l4 → (Φ [aI l4] σ)) ∧ (¬ ((l3 : Int32) ≤ l4) → (vp_in ((40 * l1) + l4) 160 ∧ (vp_in l4 40 ∧ (((lg_cmp (σ.2 64 ((40 * l1) + l4 : Int32).toNatClampNeg) ((σ.1 66 (l4 : Int32).toNatClampNeg : Int32).toInt64) : Int32) = 0 → (v 42 [some (aR 49), some (aI l1), some (aI l2), some (aI l3), some (aI (l4 + 1))] [] σ)) ∧ (¬ ((lg_cmp (σ.2 64 ((40 * l1) + l4 : Int32).toNatClampNeg) ((σ.1 66 (l4 : Int32).toNatClampNeg : Int32).toInt64) : Int32) = 0) → (Φ [aI l4] σ)))))))))
theorem w_X9_judge_42 {S : Sp} (hS : Sys S) {Φ : Rs} {v : Kt} (hv : Cl S Φ k_X9_judge v) (hw : Wk v) (l1 : Int32) (l2 : Int32) (l3 : Int32) (l4 : Int32) (σ : St) (h : vc_X9_judge_42 S Φ v l1 l2 l3 l4 σ) : v 42 [some (aR 49), some (aI l1), some (aI l2), some (aI l3), some (aI l4)] [] σ := by
  unfold vc_X9_judge_42 at h
  refine r_iload (pc := 42) hv 24 rfl rfl ?_
  refine r_aload_n (pc := 44) hv 25 rfl rfl ?_
  refine r_getR (pc := 45) (b := 65) hv 26 rfl rfl rfl rfl ?_
  refine r_iload_n (pc := 48) hv 27 rfl rfl ?_
  refine r_iaload (pc := 49) (N := 4) hv 28 rfl rfl rfl (by decide) h.1 ?_
  replace h := h.2
  refine r_icmp_ge (pc := 50) hv 29 rfl (fun c => ?_) (fun c => ?_)
  · replace h := h.1 c
    refine r_iconst (pc := 92) hv 52 rfl  ?_
    exact r_ireturn (pc := 93) hv 53 rfl rfl h
  · replace h := h.2 c
    refine r_iload (pc := 53) hv 30 rfl rfl ?_
    refine r_iload_n (pc := 55) hv 31 rfl rfl ?_
    refine r_icmp_ge (pc := 56) hv 32 rfl (fun c => ?_) (fun c => ?_)
    · replace h := h.1 c
      refine r_iload (pc := 83) hv 48 rfl rfl ?_
      exact r_ireturn (pc := 85) hv 49 rfl rfl h
    · replace h := h.2 c
      refine r_aload_n (pc := 59) hv 33 rfl rfl ?_
      refine r_getR (pc := 60) (b := 64) hv 34 rfl rfl rfl rfl ?_
      refine r_bipush (pc := 63) hv 35 rfl  ?_
      refine r_iload_n (pc := 65) hv 36 rfl rfl ?_
      refine r_imul (pc := 66) hv 37 rfl  ?_
      refine r_iload (pc := 67) hv 38 rfl rfl ?_
      refine r_iadd (pc := 69) hv 39 rfl  ?_
      refine r_laload (pc := 70) (N := 160) hv 40 rfl rfl rfl h.1 ?_
      replace h := h.2
      refine r_aload_n (pc := 71) hv 41 rfl rfl ?_
      refine r_getR (pc := 72) (b := 66) hv 42 rfl rfl rfl rfl ?_
      refine r_iload (pc := 75) hv 43 rfl rfl ?_
      refine r_iaload (pc := 77) (N := 40) hv 44 rfl rfl rfl (by decide) h.1 ?_
      replace h := h.2
      refine r_i2l (pc := 78) hv 45 rfl  ?_
      refine r_lcmp (pc := 79) hv 46 rfl  ?_
      refine r_if_eq (pc := 80) hv 47 rfl (fun c => ?_) (fun c => ?_)
      · replace h := h.1 c
        refine r_iinc (pc := 86) (lo' := [some (aR 49), some (aI l1), some (aI l2), some (aI l3), some (aI (l4 + 1))]) hv 50 rfl rfl rfl ?_
        refine r_goto (pc := 89) hv 51 rfl  ?_
        exact h
      · replace h := h.2 c
        refine r_iload (pc := 83) hv 48 rfl rfl ?_
        exact r_ireturn (pc := 85) hv 49 rfl rfl h
def vc_X9_judge_0 (S : Sp) (Φ : Rs) (v : Kt) (l1 : Int32) (l2 : Int32) (σ : St) : Prop := ((b2 ((0 : Int64) ≤ (l1 : Int32).toInt64 ∧ ((l1 : Int32).toInt64 : Int64) ≤ 3) : Int32) = 0 → (Φ [aI (-1)] σ)) ∧ (¬ ((b2 ((0 : Int64) ≤ (l1 : Int32).toInt64 ∧ ((l1 : Int32).toInt64 : Int64) ≤ 3) : Int32) = 0) → ((¬ (b2 ((0 : Int64) ≤ ((l2 : Int32).toInt64) ∧ ((l2 : Int32).toInt64 : Int64) ≤ 2) : Int32) = 0 → (vp_in l1 4 ∧ (((0 : Int32) ≤ (σ.1 65 (l1 : Int32).toNatClampNeg) → (S 230 [aR 49, aI l2] σ (fun r σ1 => ∃ x2 : Int32, r = [aI x2] ∧ (v 42 [some (aR 49), some (aI l1), some (aI l2), some (aI x2), some (aI 0)] [] σ1)))) ∧ (¬ ((0 : Int32) ≤ (σ.1 65 (l1 : Int32).toNatClampNeg)) → (Φ [aI (-11)] σ))))) ∧ ((b2 ((0 : Int64) ≤ ((l2 : Int32).toInt64) ∧ ((l2 : Int32).toInt64 : Int64) ≤ 2) : Int32) = 0 → (Φ [aI (-1)] σ))))
theorem w_X9_judge_0 {S : Sp} (hS : Sys S) {Φ : Rs} {v : Kt} (hv : Cl S Φ k_X9_judge v) (hw : Wk v) (l1 : Int32) (l2 : Int32) (σ : St) (h : vc_X9_judge_0 S Φ v l1 l2 σ) : v 0 [some (aR 49), some (aI l1), some (aI l2), none, none] [] σ := by
  unfold vc_X9_judge_0 at h
  refine r_iload_n (pc := 0) hv 0 rfl rfl ?_
  refine r_callS (pc := 1) (l := [aI l1]) (av := [aI l1]) (t := []) hv 1 rfl (Or.inl rfl) rfl rfl rfl trivial (t_X9_isList hS ?_)
  show v 4 [some (aR 49), some (aI l1), some (aI l2), none, none] [aI (b2 ((0 : Int64) ≤ (l1 : Int32).toInt64 ∧ ((l1 : Int32).toInt64 : Int64) ≤ 3))] σ
  refine r_if_eq (pc := 4) hv 2 rfl (fun c => ?_) (fun c => ?_)
  · replace h := h.1 c
    refine r_iconst (pc := 19) hv 9 rfl  ?_
    exact r_ireturn (pc := 20) hv 10 rfl rfl h
  · replace h := h.2 c
    refine r_iload_n (pc := 7) hv 3 rfl rfl ?_
    refine r_i2l (pc := 8) hv 4 rfl  ?_
    refine r_lconst (pc := 9) hv 5 rfl  ?_
    refine r_ldc2_w (pc := 10) hv 6 rfl  ?_
    refine r_callS (pc := 13) (l := [aL 2, aL 0, aL ((l2 : Int32).toInt64)]) (av := [aL ((l2 : Int32).toInt64), aL 0, aL 2]) (t := []) hv 7 rfl (Or.inl rfl) rfl rfl rfl trivial (t_X9_in hS ?_)
    show v 16 [some (aR 49), some (aI l1), some (aI l2), none, none] [aI (b2 ((0 : Int64) ≤ ((l2 : Int32).toInt64) ∧ ((l2 : Int32).toInt64 : Int64) ≤ 2))] σ
    refine r_if_ne (pc := 16) hv 8 rfl (fun c => ?_) (fun c => ?_)
    · replace h := h.1 c
      refine r_aload_n (pc := 21) hv 11 rfl rfl ?_
      refine r_getR (pc := 22) (b := 65) hv 12 rfl rfl rfl rfl ?_
      refine r_iload_n (pc := 25) hv 13 rfl rfl ?_
      refine r_iaload (pc := 26) (N := 4) hv 14 rfl rfl rfl (by decide) h.1 ?_
      replace h := h.2
      refine r_if_ge (pc := 27) hv 15 rfl (fun c => ?_) (fun c => ?_)
      · replace h := h.1 c
        refine r_aload_n (pc := 33) hv 18 rfl rfl ?_
        refine r_iload_n (pc := 34) hv 19 rfl rfl ?_
        refine r_callV (pc := 35) (l := [aI l2]) (av := [aI l2]) (a := 49) (t := []) hv 20 rfl rfl rfl rfl (rcv_o (by decide) rfl) trivial (hS.1 _ _ _ _ _ (fun r σ1 h => ?_) h)
        obtain ⟨x2, rfl, h⟩ := h
        show v 38 [some (aR 49), some (aI l1), some (aI l2), none, none] [aI x2] σ1
        refine r_istore_n (pc := 38) (lo' := [some (aR 49), some (aI l1), some (aI l2), some (aI x2), none]) hv 21 rfl rfl ?_
        refine r_iconst (pc := 39) hv 22 rfl  ?_
        refine r_istore (pc := 40) (lo' := [some (aR 49), some (aI l1), some (aI l2), some (aI x2), some (aI 0)]) hv 23 rfl rfl ?_
        exact h
      · replace h := h.2 c
        refine r_bipush (pc := 30) hv 16 rfl  ?_
        exact r_ireturn (pc := 32) hv 17 rfl rfl h
    · replace h := h.2 c
      refine r_iconst (pc := 19) hv 9 rfl  ?_
      exact r_ireturn (pc := 20) hv 10 rfl rfl h
theorem m_X9_judge {S : Sp} (hS : Sys S) {l1 : Int32} {l2 : Int32} {σ : St} {Φ : Rs} (h : ∀ v : Kt, Cl S Φ k_X9_judge v → Wk v → vc_X9_judge_0 S Φ v l1 l2 σ) : S 232 [aR 49, aI l1, aI l2] σ Φ :=
  hS.2 232 M_X9_judge k_X9_judge _ _ _ mkt_X9_judge (Nat.le_of_ble_eq_true rfl) (fun v hv hw => w_X9_judge_0 hS hv hw   l1 l2 σ (h v hv hw))
def vc_X9_move_129 (S : Sp) (Φ : Rs) (v : Kt) (l1 : Int32) (l2 : Int32) (l3 : Int32) (l4 : Int32) (l5 : Int32) (l6 : Int32) (σ : St) : Prop := ((l5 : Int32) ≤ l6 → (Φ [aI l5] σ)) ∧ (¬ ((l5 : Int32) ≤ l6) → (vp_in l6 40 ∧ (vp_in (((40 * l3) + l4) + l6) 160 ∧ (∀ σ1 : St, σ1 = upJ σ 64 (((40 * l3) + l4) + l6 : Int32).toNatClampNeg (σ.2 67 (l6 : Int32).toNatClampNeg) → (v 129 [some (aR 49), some (aI l1), some (aI l2), some (aI l3), some (aI l4), some (aI l5), some (aI (l6 + 1))] [] σ1)))))
theorem w_X9_move_129 {S : Sp} (hS : Sys S) {Φ : Rs} {v : Kt} (hv : Cl S Φ k_X9_move v) (hw : Wk v) (l1 : Int32) (l2 : Int32) (l3 : Int32) (l4 : Int32) (l5 : Int32) (l6 : Int32) (σ : St) (h : vc_X9_move_129 S Φ v l1 l2 l3 l4 l5 l6 σ) : v 129 [some (aR 49), some (aI l1), some (aI l2), some (aI l3), some (aI l4), some (aI l5), some (aI l6)] [] σ := by
  unfold vc_X9_move_129 at h
  refine r_iload (pc := 129) hv 75 rfl rfl ?_
  refine r_iload (pc := 131) hv 76 rfl rfl ?_
  refine r_icmp_ge (pc := 133) hv 77 rfl (fun c => ?_) (fun c => ?_)
  · replace h := h.1 c
    refine r_iload (pc := 164) hv 94 rfl rfl ?_
    exact r_ireturn (pc := 166) hv 95 rfl rfl h
  · replace h := h.2 c
    refine r_aload_n (pc := 136) hv 78 rfl rfl ?_
    refine r_getR (pc := 137) (b := 64) hv 79 rfl rfl rfl rfl ?_
    refine r_bipush (pc := 140) hv 80 rfl  ?_
    refine r_iload_n (pc := 142) hv 81 rfl rfl ?_
    refine r_imul (pc := 143) hv 82 rfl  ?_
    refine r_iload (pc := 144) hv 83 rfl rfl ?_
    refine r_iadd (pc := 146) hv 84 rfl  ?_
    refine r_iload (pc := 147) hv 85 rfl rfl ?_
    refine r_iadd (pc := 149) hv 86 rfl  ?_
    refine r_aload_n (pc := 150) hv 87 rfl rfl ?_
    refine r_getR (pc := 151) (b := 67) hv 88 rfl rfl rfl rfl ?_
    refine r_iload (pc := 154) hv 89 rfl rfl ?_
    refine r_laload (pc := 156) (N := 40) hv 90 rfl rfl rfl h.1 ?_
    replace h := h.2
    refine r_lastore (pc := 157) (N := 160) hv 91 rfl rfl rfl h.1 ?_
    replace h := h.2
    obtain ⟨σ1, e_σ1⟩ : ∃ y : St, y = upJ σ 64 (((40 * l3) + l4) + l6 : Int32).toNatClampNeg (σ.2 67 (l6 : Int32).toNatClampNeg) := ⟨_, rfl⟩
    rw [← e_σ1]
    replace h := h σ1 e_σ1
    refine r_iinc (pc := 158) (lo' := [some (aR 49), some (aI l1), some (aI l2), some (aI l3), some (aI l4), some (aI l5), some (aI (l6 + 1))]) hv 92 rfl rfl rfl ?_
    refine r_goto (pc := 161) hv 93 rfl  ?_
    exact h
def vc_X9_move_92 (S : Sp) (Φ : Rs) (v : Kt) (l1 : Int32) (l2 : Int32) (l3 : Int32) (l4 : Int32) (l5 : Int32) (l6 : Int32) (σ : St) : Prop := ((l5 : Int32) ≤ l6 → (v 129 [some (aR 49), some (aI l1), some (aI l2), some (aI l3), some (aI l4), some (aI l5), some (aI 0)] [] σ)) ∧ (¬ ((l5 : Int32) ≤ l6) → (vp_in (((40 * l1) + l2) + l6) 160 ∧ (vp_in l6 40 ∧ (∀ σ1 : St, σ1 = upJ σ 67 (l6 : Int32).toNatClampNeg (σ.2 64 (((40 * l1) + l2) + l6 : Int32).toNatClampNeg) → (v 92 [some (aR 49), some (aI l1), some (aI l2), some (aI l3), some (aI l4), some (aI l5), some (aI (l6 + 1))] [] σ1)))))
theorem w_X9_move_92 {S : Sp} (hS : Sys S) {Φ : Rs} {v : Kt} (hv : Cl S Φ k_X9_move v) (hw : Wk v) (l1 : Int32) (l2 : Int32) (l3 : Int32) (l4 : Int32) (l5 : Int32) (l6 : Int32) (σ : St) (h : vc_X9_move_92 S Φ v l1 l2 l3 l4 l5 l6 σ) : v 92 [some (aR 49), some (aI l1), some (aI l2), some (aI l3), some (aI l4), some (aI l5), some (aI l6)] [] σ := by
  unfold vc_X9_move_92 at h
  refine r_iload (pc := 92) hv 54 rfl rfl ?_
  refine r_iload (pc := 94) hv 55 rfl rfl ?_
  refine r_icmp_ge (pc := 96) hv 56 rfl (fun c => ?_) (fun c => ?_)
  · replace h := h.1 c
    refine r_iconst (pc := 126) hv 73 rfl  ?_
    refine r_istore (pc := 127) (lo' := [some (aR 49), some (aI l1), some (aI l2), some (aI l3), some (aI l4), some (aI l5), some (aI 0)]) hv 74 rfl rfl ?_
    exact h
  · replace h := h.2 c
    refine r_aload_n (pc := 99) hv 57 rfl rfl ?_
    refine r_getR (pc := 100) (b := 67) hv 58 rfl rfl rfl rfl ?_
    refine r_iload (pc := 103) hv 59 rfl rfl ?_
    refine r_aload_n (pc := 105) hv 60 rfl rfl ?_
    refine r_getR (pc := 106) (b := 64) hv 61 rfl rfl rfl rfl ?_
    refine r_bipush (pc := 109) hv 62 rfl  ?_
    refine r_iload_n (pc := 111) hv 63 rfl rfl ?_
    refine r_imul (pc := 112) hv 64 rfl  ?_
    refine r_iload_n (pc := 113) hv 65 rfl rfl ?_
    refine r_iadd (pc := 114) hv 66 rfl  ?_
    refine r_iload (pc := 115) hv 67 rfl rfl ?_
    refine r_iadd (pc := 117) hv 68 rfl  ?_
    refine r_laload (pc := 118) (N := 160) hv 69 rfl rfl rfl h.1 ?_
    replace h := h.2
    refine r_lastore (pc := 119) (N := 40) hv 70 rfl rfl rfl h.1 ?_
    replace h := h.2
    obtain ⟨σ1, e_σ1⟩ : ∃ y : St, y = upJ σ 67 (l6 : Int32).toNatClampNeg (σ.2 64 (((40 * l1) + l2) + l6 : Int32).toNatClampNeg) := ⟨_, rfl⟩
    rw [← e_σ1]
    replace h := h σ1 e_σ1
    refine r_iinc (pc := 120) (lo' := [some (aR 49), some (aI l1), some (aI l2), some (aI l3), some (aI l4), some (aI l5), some (aI (l6 + 1))]) hv 71 rfl rfl rfl ?_
    refine r_goto (pc := 123) hv 72 rfl  ?_
    exact h
def vc_X9_move_0 (S : Sp) (Φ : Rs) (v : Kt) (l1 : Int32) (l2 : Int32) (l3 : Int32) (l4 : Int32) (l5 : Int32) (σ : St) : Prop := ((b2 ((0 : Int64) ≤ (l1 : Int32).toInt64 ∧ ((l1 : Int32).toInt64 : Int64) ≤ 3) : Int32) = 0 → (Φ [aI (-1)] σ)) ∧ (¬ ((b2 ((0 : Int64) ≤ (l1 : Int32).toInt64 ∧ ((l1 : Int32).toInt64 : Int64) ≤ 3) : Int32) = 0) → ((¬ (b2 ((0 : Int64) ≤ (l3 : Int32).toInt64 ∧ ((l3 : Int32).toInt64 : Int64) ≤ 3) : Int32) = 0 → (vp_in l1 4 ∧ (((σ.1 65 (l1 : Int32).toNatClampNeg : Int32) < 0 → (Φ [aI (-11)] σ)) ∧ (¬ ((σ.1 65 (l1 : Int32).toNatClampNeg : Int32) < 0) → (vp_in l3 4 ∧ (((0 : Int32) ≤ (σ.1 65 (l3 : Int32).toNatClampNeg) → (((l5 : Int32) < 0 → (Φ [aI (-12)] σ)) ∧ (¬ ((l5 : Int32) < 0) → (((l2 : Int32) < 0 → (Φ [aI (-12)] σ)) ∧ (¬ ((l2 : Int32) < 0) → (((l4 : Int32) < 0 → (Φ [aI (-12)] σ)) ∧ (¬ ((l4 : Int32) < 0) → (vp_in l1 4 ∧ (((0 : Int32) < (lg_cmp (((l2 : Int32).toInt64) + ((l5 : Int32).toInt64)) ((σ.1 65 (l1 : Int32).toNatClampNeg : Int32).toInt64)) → (Φ [aI (-12)] σ)) ∧ (¬ ((0 : Int32) < (lg_cmp (((l2 : Int32).toInt64) + ((l5 : Int32).toInt64)) ((σ.1 65 (l1 : Int32).toNatClampNeg : Int32).toInt64))) → (vp_in l3 4 ∧ (((lg_cmp (((l4 : Int32).toInt64) + ((l5 : Int32).toInt64)) ((σ.1 65 (l3 : Int32).toNatClampNeg : Int32).toInt64) : Int32) ≤ 0 → (v 92 [some (aR 49), some (aI l1), some (aI l2), some (aI l3), some (aI l4), some (aI l5), some (aI 0)] [] σ)) ∧ (¬ ((lg_cmp (((l4 : Int32).toInt64) + ((l5 : Int32).toInt64)) ((σ.1 65 (l3 : Int32).toNatClampNeg : Int32).toInt64) : Int32) ≤ 0) → (Φ [aI (-12)] σ)))))))))))))) ∧ (¬ ((0 : Int32) ≤ (σ.1 65 (l3 : Int32).toNatClampNeg)) → (Φ [aI (-11)] σ)))))))) ∧ ((b2 ((0 : Int64) ≤ (l3 : Int32).toInt64 ∧ ((l3 : Int32).toInt64 : Int64) ≤ 3) : Int32) = 0 → (Φ [aI (-1)] σ))))
theorem w_X9_move_0 {S : Sp} (hS : Sys S) {Φ : Rs} {v : Kt} (hv : Cl S Φ k_X9_move v) (hw : Wk v) (l1 : Int32) (l2 : Int32) (l3 : Int32) (l4 : Int32) (l5 : Int32) (σ : St) (h : vc_X9_move_0 S Φ v l1 l2 l3 l4 l5 σ) : v 0 [some (aR 49), some (aI l1), some (aI l2), some (aI l3), some (aI l4), some (aI l5), none] [] σ := by
  unfold vc_X9_move_0 at h
  refine r_iload_n (pc := 0) hv 0 rfl rfl ?_
  refine r_callS (pc := 1) (l := [aI l1]) (av := [aI l1]) (t := []) hv 1 rfl (Or.inl rfl) rfl rfl rfl trivial (t_X9_isList hS ?_)
  show v 4 [some (aR 49), some (aI l1), some (aI l2), some (aI l3), some (aI l4), some (aI l5), none] [aI (b2 ((0 : Int64) ≤ (l1 : Int32).toInt64 ∧ ((l1 : Int32).toInt64 : Int64) ≤ 3))] σ
  refine r_if_eq (pc := 4) hv 2 rfl (fun c => ?_) (fun c => ?_)
  · replace h := h.1 c
    refine r_iconst (pc := 14) hv 6 rfl  ?_
    exact r_ireturn (pc := 15) hv 7 rfl rfl h
  · replace h := h.2 c
    refine r_iload_n (pc := 7) hv 3 rfl rfl ?_
    refine r_callS (pc := 8) (l := [aI l3]) (av := [aI l3]) (t := []) hv 4 rfl (Or.inl rfl) rfl rfl rfl trivial (t_X9_isList hS ?_)
    show v 11 [some (aR 49), some (aI l1), some (aI l2), some (aI l3), some (aI l4), some (aI l5), none] [aI (b2 ((0 : Int64) ≤ (l3 : Int32).toInt64 ∧ ((l3 : Int32).toInt64 : Int64) ≤ 3))] σ
    refine r_if_ne (pc := 11) hv 5 rfl (fun c => ?_) (fun c => ?_)
    · replace h := h.1 c
      refine r_aload_n (pc := 16) hv 8 rfl rfl ?_
      refine r_getR (pc := 17) (b := 65) hv 9 rfl rfl rfl rfl ?_
      refine r_iload_n (pc := 20) hv 10 rfl rfl ?_
      refine r_iaload (pc := 21) (N := 4) hv 11 rfl rfl rfl (by decide) h.1 ?_
      replace h := h.2
      refine r_if_lt (pc := 22) hv 12 rfl (fun c => ?_) (fun c => ?_)
      · replace h := h.1 c
        refine r_bipush (pc := 34) hv 18 rfl  ?_
        exact r_ireturn (pc := 36) hv 19 rfl rfl h
      · replace h := h.2 c
        refine r_aload_n (pc := 25) hv 13 rfl rfl ?_
        refine r_getR (pc := 26) (b := 65) hv 14 rfl rfl rfl rfl ?_
        refine r_iload_n (pc := 29) hv 15 rfl rfl ?_
        refine r_iaload (pc := 30) (N := 4) hv 16 rfl rfl rfl (by decide) h.1 ?_
        replace h := h.2
        refine r_if_ge (pc := 31) hv 17 rfl (fun c => ?_) (fun c => ?_)
        · replace h := h.1 c
          refine r_iload (pc := 37) hv 20 rfl rfl ?_
          refine r_if_lt (pc := 39) hv 21 rfl (fun c => ?_) (fun c => ?_)
          · replace h := h.1 c
            refine r_bipush (pc := 86) hv 50 rfl  ?_
            exact r_ireturn (pc := 88) hv 51 rfl rfl h
          · replace h := h.2 c
            refine r_iload_n (pc := 42) hv 22 rfl rfl ?_
            refine r_if_lt (pc := 43) hv 23 rfl (fun c => ?_) (fun c => ?_)
            · replace h := h.1 c
              refine r_bipush (pc := 86) hv 50 rfl  ?_
              exact r_ireturn (pc := 88) hv 51 rfl rfl h
            · replace h := h.2 c
              refine r_iload (pc := 46) hv 24 rfl rfl ?_
              refine r_if_lt (pc := 48) hv 25 rfl (fun c => ?_) (fun c => ?_)
              · replace h := h.1 c
                refine r_bipush (pc := 86) hv 50 rfl  ?_
                exact r_ireturn (pc := 88) hv 51 rfl rfl h
              · replace h := h.2 c
                refine r_iload_n (pc := 51) hv 26 rfl rfl ?_
                refine r_i2l (pc := 52) hv 27 rfl  ?_
                refine r_iload (pc := 53) hv 28 rfl rfl ?_
                refine r_i2l (pc := 55) hv 29 rfl  ?_
                refine r_ladd (pc := 56) hv 30 rfl  ?_
                refine r_aload_n (pc := 57) hv 31 rfl rfl ?_
                refine r_getR (pc := 58) (b := 65) hv 32 rfl rfl rfl rfl ?_
                refine r_iload_n (pc := 61) hv 33 rfl rfl ?_
                refine r_iaload (pc := 62) (N := 4) hv 34 rfl rfl rfl (by decide) h.1 ?_
                replace h := h.2
                refine r_i2l (pc := 63) hv 35 rfl  ?_
                refine r_lcmp (pc := 64) hv 36 rfl  ?_
                refine r_if_gt (pc := 65) hv 37 rfl (fun c => ?_) (fun c => ?_)
                · replace h := h.1 c
                  refine r_bipush (pc := 86) hv 50 rfl  ?_
                  exact r_ireturn (pc := 88) hv 51 rfl rfl h
                · replace h := h.2 c
                  refine r_iload (pc := 68) hv 38 rfl rfl ?_
                  refine r_i2l (pc := 70) hv 39 rfl  ?_
                  refine r_iload (pc := 71) hv 40 rfl rfl ?_
                  refine r_i2l (pc := 73) hv 41 rfl  ?_
                  refine r_ladd (pc := 74) hv 42 rfl  ?_
                  refine r_aload_n (pc := 75) hv 43 rfl rfl ?_
                  refine r_getR (pc := 76) (b := 65) hv 44 rfl rfl rfl rfl ?_
                  refine r_iload_n (pc := 79) hv 45 rfl rfl ?_
                  refine r_iaload (pc := 80) (N := 4) hv 46 rfl rfl rfl (by decide) h.1 ?_
                  replace h := h.2
                  refine r_i2l (pc := 81) hv 47 rfl  ?_
                  refine r_lcmp (pc := 82) hv 48 rfl  ?_
                  refine r_if_le (pc := 83) hv 49 rfl (fun c => ?_) (fun c => ?_)
                  · replace h := h.1 c
                    refine r_iconst (pc := 89) hv 52 rfl  ?_
                    refine r_istore (pc := 90) (lo' := [some (aR 49), some (aI l1), some (aI l2), some (aI l3), some (aI l4), some (aI l5), some (aI 0)]) hv 53 rfl rfl ?_
                    exact h
                  · replace h := h.2 c
                    refine r_bipush (pc := 86) hv 50 rfl  ?_
                    exact r_ireturn (pc := 88) hv 51 rfl rfl h
        · replace h := h.2 c
          refine r_bipush (pc := 34) hv 18 rfl  ?_
          exact r_ireturn (pc := 36) hv 19 rfl rfl h
    · replace h := h.2 c
      refine r_iconst (pc := 14) hv 6 rfl  ?_
      exact r_ireturn (pc := 15) hv 7 rfl rfl h
theorem m_X9_move {S : Sp} (hS : Sys S) {l1 : Int32} {l2 : Int32} {l3 : Int32} {l4 : Int32} {l5 : Int32} {σ : St} {Φ : Rs} (h : ∀ v : Kt, Cl S Φ k_X9_move v → Wk v → vc_X9_move_0 S Φ v l1 l2 l3 l4 l5 σ) : S 233 [aR 49, aI l1, aI l2, aI l3, aI l4, aI l5] σ Φ :=
  hS.2 233 M_X9_move k_X9_move _ _ _ mkt_X9_move (Nat.le_of_ble_eq_true rfl) (fun v hv hw => w_X9_move_0 hS hv hw   l1 l2 l3 l4 l5 σ (h v hv hw))
def vc_X9_count_0 (S : Sp) (Φ : Rs) (v : Kt) (l1 : Int32) (σ : St) : Prop := ((l1 : Int32) = 0 → (vp_in 280 286 ∧ (Φ [aI (σ.1 50 (280 : Int32).toNatClampNeg)] σ))) ∧ (¬ ((l1 : Int32) = 0) → (((l1 : Int32) = 1 → (vp_in 281 286 ∧ (Φ [aI (σ.1 50 (281 : Int32).toNatClampNeg)] σ))) ∧ (¬ ((l1 : Int32) = 1) → (((l1 : Int32) = 2 → (Φ [aI (σ.1 49 20)] σ)) ∧ (¬ ((l1 : Int32) = 2) → (((l1 : Int32) = 3 → (Φ [aI (σ.1 49 4)] σ)) ∧ (¬ ((l1 : Int32) = 3) → (((l1 : Int32) = 4 → (vp_in ((282 + l1) - 4) 286 ∧ (Φ [aI (σ.1 50 ((282 + l1) - 4 : Int32).toNatClampNeg)] σ))) ∧ (¬ ((l1 : Int32) = 4) → (((l1 : Int32) = 5 → (vp_in ((282 + l1) - 4) 286 ∧ (Φ [aI (σ.1 50 ((282 + l1) - 4 : Int32).toNatClampNeg)] σ))) ∧ (¬ ((l1 : Int32) = 5) → (((l1 : Int32) = 6 → (vp_in ((282 + l1) - 4) 286 ∧ (Φ [aI (σ.1 50 ((282 + l1) - 4 : Int32).toNatClampNeg)] σ))) ∧ (¬ ((l1 : Int32) = 6) → (Φ [aI (-1)] σ))))))))))))))
theorem w_X9_count_0 {S : Sp} (hS : Sys S) {Φ : Rs} {v : Kt} (hv : Cl S Φ k_X9_count v) (hw : Wk v) (l1 : Int32) (σ : St) (h : vc_X9_count_0 S Φ v l1 σ) : v 0 [some (aR 49), some (aI l1)] [] σ := by
  unfold vc_X9_count_0 at h
  refine r_iload_n (pc := 0) hv 0 rfl rfl ?_
  refine r_tab (pc := 1) hv 1 rfl ?_
  refine ⟨fun c => ?_, fun c => ?_⟩
  · replace h := h.1 c
    show v 44 [some (aR 49), some (aI l1)] [] σ
    refine r_aload_n (pc := 44) hv 2 rfl rfl ?_
    refine r_getR (pc := 45) (b := 50) hv 3 rfl rfl rfl rfl ?_
    refine r_sipush (pc := 48) hv 4 rfl  ?_
    refine r_iaload (pc := 51) (N := 286) hv 5 rfl rfl rfl (by decide) h.1 ?_
    replace h := h.2
    exact r_ireturn (pc := 52) hv 6 rfl rfl h
  · replace h := h.2 c
    refine ⟨fun c => ?_, fun c => ?_⟩
    · replace h := h.1 c
      show v 53 [some (aR 49), some (aI l1)] [] σ
      refine r_aload_n (pc := 53) hv 7 rfl rfl ?_
      refine r_getR (pc := 54) (b := 50) hv 8 rfl rfl rfl rfl ?_
      refine r_sipush (pc := 57) hv 9 rfl  ?_
      refine r_iaload (pc := 60) (N := 286) hv 10 rfl rfl rfl (by decide) h.1 ?_
      replace h := h.2
      exact r_ireturn (pc := 61) hv 11 rfl rfl h
    · replace h := h.2 c
      refine ⟨fun c => ?_, fun c => ?_⟩
      · replace h := h.1 c
        show v 62 [some (aR 49), some (aI l1)] [] σ
        refine r_aload_n (pc := 62) hv 12 rfl rfl ?_
        refine r_getI (pc := 63) hv 13 rfl rfl rfl ?_
        exact r_ireturn (pc := 66) hv 14 rfl rfl h
      · replace h := h.2 c
        refine ⟨fun c => ?_, fun c => ?_⟩
        · replace h := h.1 c
          show v 67 [some (aR 49), some (aI l1)] [] σ
          refine r_aload_n (pc := 67) hv 15 rfl rfl ?_
          refine r_getI (pc := 68) hv 16 rfl rfl rfl ?_
          exact r_ireturn (pc := 71) hv 17 rfl rfl h
        · replace h := h.2 c
          refine ⟨fun c => ?_, fun c => ?_⟩
          · replace h := h.1 c
            show v 72 [some (aR 49), some (aI l1)] [] σ
            refine r_aload_n (pc := 72) hv 18 rfl rfl ?_
            refine r_getR (pc := 73) (b := 50) hv 19 rfl rfl rfl rfl ?_
            refine r_sipush (pc := 76) hv 20 rfl  ?_
            refine r_iload_n (pc := 79) hv 21 rfl rfl ?_
            refine r_iadd (pc := 80) hv 22 rfl  ?_
            refine r_iconst (pc := 81) hv 23 rfl  ?_
            refine r_isub (pc := 82) hv 24 rfl  ?_
            refine r_iaload (pc := 83) (N := 286) hv 25 rfl rfl rfl (by decide) h.1 ?_
            replace h := h.2
            exact r_ireturn (pc := 84) hv 26 rfl rfl h
          · replace h := h.2 c
            refine ⟨fun c => ?_, fun c => ?_⟩
            · replace h := h.1 c
              show v 72 [some (aR 49), some (aI l1)] [] σ
              refine r_aload_n (pc := 72) hv 18 rfl rfl ?_
              refine r_getR (pc := 73) (b := 50) hv 19 rfl rfl rfl rfl ?_
              refine r_sipush (pc := 76) hv 20 rfl  ?_
              refine r_iload_n (pc := 79) hv 21 rfl rfl ?_
              refine r_iadd (pc := 80) hv 22 rfl  ?_
              refine r_iconst (pc := 81) hv 23 rfl  ?_
              refine r_isub (pc := 82) hv 24 rfl  ?_
              refine r_iaload (pc := 83) (N := 286) hv 25 rfl rfl rfl (by decide) h.1 ?_
              replace h := h.2
              exact r_ireturn (pc := 84) hv 26 rfl rfl h
            · replace h := h.2 c
              refine ⟨fun c => ?_, fun c => ?_⟩
              · replace h := h.1 c
                show v 72 [some (aR 49), some (aI l1)] [] σ
                refine r_aload_n (pc := 72) hv 18 rfl rfl ?_
                refine r_getR (pc := 73) (b := 50) hv 19 rfl rfl rfl rfl ?_
                refine r_sipush (pc := 76) hv 20 rfl  ?_
                refine r_iload_n (pc := 79) hv 21 rfl rfl ?_
                refine r_iadd (pc := 80) hv 22 rfl  ?_
                refine r_iconst (pc := 81) hv 23 rfl  ?_
                refine r_isub (pc := 82) hv 24 rfl  ?_
                refine r_iaload (pc := 83) (N := 286) hv 25 rfl rfl rfl (by decide) h.1 ?_
                replace h := h.2
                exact r_ireturn (pc := 84) hv 26 rfl rfl h
              · replace h := h.2 c
                show v 85 [some (aR 49), some (aI l1)] [] σ
                refine r_iconst (pc := 85) hv 27 rfl  ?_
                exact r_ireturn (pc := 86) hv 28 rfl rfl h
theorem m_X9_count {S : Sp} (hS : Sys S) {l1 : Int32} {σ : St} {Φ : Rs} (h : ∀ v : Kt, Cl S Φ k_X9_count v → Wk v → vc_X9_count_0 S Φ v l1 σ) : S 234 [aR 49, aI l1] σ Φ :=
  hS.2 234 M_X9_count k_X9_count _ _ _ mkt_X9_count (Nat.le_of_ble_eq_true rfl) (fun v hv hw => w_X9_count_0 hS hv hw   l1 σ (h v hv hw))
def vc_X9_image_0 (S : Sp) (Φ : Rs) (v : Kt) (σ : St) : Prop := ∀ σ1 : St, σ1 = upI σ 49 3 1 → (S 146 [aR 50, aR 51] σ1 (fun r σ2 => r = [] ∧ (vp_in 280 286 ∧ (Φ [aI (σ2.1 50 (280 : Int32).toNatClampNeg)] σ2))))
theorem w_X9_image_0 {S : Sp} (hS : Sys S) {Φ : Rs} {v : Kt} (hv : Cl S Φ k_X9_image v) (hw : Wk v) (σ : St) (h : vc_X9_image_0 S Φ v  σ) : v 0 [some (aR 49)] [] σ := by
  unfold vc_X9_image_0 at h
  refine r_aload_n (pc := 0) hv 0 rfl rfl ?_
  refine r_iconst (pc := 1) hv 1 rfl  ?_
  refine r_putZ (pc := 2) hv 2 rfl rfl rfl (Or.inr rfl) ?_
  obtain ⟨σ1, e_σ1⟩ : ∃ y : St, y = upI σ 49 3 1 := ⟨_, rfl⟩
  rw [← e_σ1]
  replace h := h σ1 e_σ1
  refine r_aload_n (pc := 5) hv 3 rfl rfl ?_
  refine r_getR (pc := 6) (b := 50) hv 4 rfl rfl rfl rfl ?_
  refine r_aload_n (pc := 9) hv 5 rfl rfl ?_
  refine r_getR (pc := 10) (b := 51) hv 6 rfl rfl rfl rfl ?_
  refine r_callS (pc := 13) (l := [aR 51, aR 50]) (av := [aR 50, aR 51]) (t := []) hv 7 rfl (Or.inl rfl) rfl rfl rfl trivial (hS.1 _ _ _ _ _ (fun r σ2 h => ?_) h)
  obtain ⟨rfl, h⟩ := h
  show v 16 [some (aR 49)] [] σ2
  refine r_aload_n (pc := 16) hv 8 rfl rfl ?_
  refine r_getR (pc := 17) (b := 50) hv 9 rfl rfl rfl rfl ?_
  refine r_sipush (pc := 20) hv 10 rfl  ?_
  refine r_iaload (pc := 23) (N := 286) hv 11 rfl rfl rfl (by decide) h.1 ?_
  replace h := h.2
  exact r_ireturn (pc := 24) hv 12 rfl rfl h
theorem m_X9_image {S : Sp} (hS : Sys S) {σ : St} {Φ : Rs} (h : ∀ v : Kt, Cl S Φ k_X9_image v → Wk v → vc_X9_image_0 S Φ v  σ) : S 235 [aR 49] σ Φ :=
  hS.2 235 M_X9_image k_X9_image _ _ _ mkt_X9_image (Nat.le_of_ble_eq_true rfl) (fun v hv hw => w_X9_image_0 hS hv hw    σ (h v hv hw))
def vc_X9_undo_0 (S : Sp) (Φ : Rs) (v : Kt) (σ : St) : Prop := (¬ (σ.1 49 3 : Int32) = 0 → (S 146 [aR 51, aR 50] σ (fun r σ1 => r = [] ∧ (vp_in 280 286 ∧ (Φ [aI (σ1.1 50 (280 : Int32).toNatClampNeg)] σ1))))) ∧ ((σ.1 49 3 : Int32) = 0 → (Φ [aI (-3)] σ))
theorem w_X9_undo_0 {S : Sp} (hS : Sys S) {Φ : Rs} {v : Kt} (hv : Cl S Φ k_X9_undo v) (hw : Wk v) (σ : St) (h : vc_X9_undo_0 S Φ v  σ) : v 0 [some (aR 49)] [] σ := by
  unfold vc_X9_undo_0 at h
  refine r_aload_n (pc := 0) hv 0 rfl rfl ?_
  refine r_getI (pc := 1) hv 1 rfl rfl rfl ?_
  refine r_if_ne (pc := 4) hv 2 rfl (fun c => ?_) (fun c => ?_)
  · replace h := h.1 c
    refine r_aload_n (pc := 10) hv 5 rfl rfl ?_
    refine r_getR (pc := 11) (b := 51) hv 6 rfl rfl rfl rfl ?_
    refine r_aload_n (pc := 14) hv 7 rfl rfl ?_
    refine r_getR (pc := 15) (b := 50) hv 8 rfl rfl rfl rfl ?_
    refine r_callS (pc := 18) (l := [aR 50, aR 51]) (av := [aR 51, aR 50]) (t := []) hv 9 rfl (Or.inl rfl) rfl rfl rfl trivial (hS.1 _ _ _ _ _ (fun r σ1 h => ?_) h)
    obtain ⟨rfl, h⟩ := h
    show v 21 [some (aR 49)] [] σ1
    refine r_aload_n (pc := 21) hv 10 rfl rfl ?_
    refine r_getR (pc := 22) (b := 50) hv 11 rfl rfl rfl rfl ?_
    refine r_sipush (pc := 25) hv 12 rfl  ?_
    refine r_iaload (pc := 28) (N := 286) hv 13 rfl rfl rfl (by decide) h.1 ?_
    replace h := h.2
    exact r_ireturn (pc := 29) hv 14 rfl rfl h
  · replace h := h.2 c
    refine r_bipush (pc := 7) hv 3 rfl  ?_
    exact r_ireturn (pc := 9) hv 4 rfl rfl h
theorem m_X9_undo {S : Sp} (hS : Sys S) {σ : St} {Φ : Rs} (h : ∀ v : Kt, Cl S Φ k_X9_undo v → Wk v → vc_X9_undo_0 S Φ v  σ) : S 236 [aR 49] σ Φ :=
  hS.2 236 M_X9_undo k_X9_undo _ _ _ mkt_X9_undo (Nat.le_of_ble_eq_true rfl) (fun v hv hw => w_X9_undo_0 hS hv hw    σ (h v hv hw))
