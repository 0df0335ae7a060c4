def vc_X9_cuts_20 (S : Sp) (Φ : Rs) (v : Kt) (l1 : Int32) (l2 : Int32) (σ : St) : Prop := vp_in 281 286 ∧ (((160 + (3 * (σ.1 50 (281 : Int32).toNatClampNeg)) : Int32) ≤ l2 → (Φ [] σ)) ∧ (¬ ((160 + (3 * (σ.1 50 (281 : Int32).toNatClampNeg)) : Int32) ≤ l2) → (vp_in (l2 + 3) 286 ∧ (vp_in l2 286 ∧ (∀ σ1 : St, σ1 = upI σ 50 (l2 : Int32).toNatClampNeg (σ.1 50 (l2 + 3 : Int32).toNatClampNeg) → (v 20 [some (aR 49), some (aI l1), some (aI (l2 + 1))] [] σ1))))))
theorem w_X9_cuts_20 {S : Sp} (hS : Sys S) {Φ : Rs} {v : Kt} (hv : Cl S Φ k_X9_cuts v) (hw : Wk v) (l1 : Int32) (l2 : Int32) (σ : St) (h : vc_X9_cuts_20 S Φ v l1 l2 σ) : v 20 [some (aR 49), some (aI l1), some (aI l2)] [] σ := by
  unfold vc_X9_cuts_20 at h
  refine r_iload_n (pc := 20) hv 14 rfl rfl ?_
  refine r_sipush (pc := 21) hv 15 rfl  ?_
  refine r_iconst (pc := 24) hv 16 rfl  ?_
  refine r_aload_n (pc := 25) hv 17 rfl rfl ?_
  refine r_getR (pc := 26) (b := 50) hv 18 rfl rfl rfl rfl ?_
  refine r_sipush (pc := 29) hv 19 rfl  ?_
  refine r_iaload (pc := 32) (N := 286) hv 20 rfl rfl rfl (by decide) h.1 ?_
  replace h := h.2
  refine r_imul (pc := 33) hv 21 rfl  ?_
  refine r_iadd (pc := 34) hv 22 rfl  ?_
  refine r_icmp_ge (pc := 35) hv 23 rfl (fun c => ?_) (fun c => ?_)
  · replace h := h.1 c
    exact r_return (pc := 58) hv 36 rfl h
  · replace h := h.2 c
    refine r_aload_n (pc := 38) hv 24 rfl rfl ?_
    refine r_getR (pc := 39) (b := 50) hv 25 rfl rfl rfl rfl ?_
    refine r_iload_n (pc := 42) hv 26 rfl rfl ?_
    refine r_aload_n (pc := 43) hv 27 rfl rfl ?_
    refine r_getR (pc := 44) (b := 50) hv 28 rfl rfl rfl rfl ?_
    refine r_iload_n (pc := 47) hv 29 rfl rfl ?_
    refine r_iconst (pc := 48) hv 30 rfl  ?_
    refine r_iadd (pc := 49) hv 31 rfl  ?_
    refine r_iaload (pc := 50) (N := 286) hv 32 rfl rfl rfl (by decide) h.1 ?_
    replace h := h.2
    refine r_iastore (pc := 51) (N := 286) hv 33 rfl rfl rfl h.1 ?_
    replace h := h.2
    obtain ⟨σ1, e_σ1⟩ : ∃ y : St, y = upI σ 50 (l2 : Int32).toNatClampNeg (σ.1 50 (l2 + 3 : Int32).toNatClampNeg) := ⟨_, rfl⟩
    rw [← e_σ1]
    replace h := h σ1 e_σ1
    refine r_iinc (pc := 52) (lo' := [some (aR 49), some (aI l1), some (aI (l2 + 1))]) hv 34 rfl rfl rfl ?_
    refine r_goto (pc := 55) hv 35 rfl  ?_
    exact h
def vc_X9_cuts_0 (S : Sp) (Φ : Rs) (v : Kt) (l1 : Int32) (σ : St) : Prop := vp_in 281 286 ∧ (vp_in 281 286 ∧ (∀ σ1 : St, σ1 = upI σ 50 (281 : Int32).toNatClampNeg ((σ.1 50 (281 : Int32).toNatClampNeg) - 1) → (v 20 [some (aR 49), some (aI l1), some (aI (160 + (3 * l1)))] [] σ1)))
theorem w_X9_cuts_0 {S : Sp} (hS : Sys S) {Φ : Rs} {v : Kt} (hv : Cl S Φ k_X9_cuts v) (hw : Wk v) (l1 : Int32) (σ : St) (h : vc_X9_cuts_0 S Φ v l1 σ) : v 0 [some (aR 49), some (aI l1), none] [] σ := by
  unfold vc_X9_cuts_0 at h
  refine r_aload_n (pc := 0) hv 0 rfl rfl ?_
  refine r_getR (pc := 1) (b := 50) hv 1 rfl rfl rfl rfl ?_
  refine r_sipush (pc := 4) hv 2 rfl  ?_
  refine r_dup2 (pc := 7) hv 3 rfl trivial trivial ?_
  refine r_iaload (pc := 8) (N := 286) hv 4 rfl rfl rfl (by decide) h.1 ?_
  replace h := h.2
  refine r_iconst (pc := 9) hv 5 rfl  ?_
  refine r_isub (pc := 10) hv 6 rfl  ?_
  refine r_iastore (pc := 11) (N := 286) hv 7 rfl rfl rfl h.1 ?_
  replace h := h.2
  obtain ⟨σ1, e_σ1⟩ : ∃ y : St, y = upI σ 50 (281 : Int32).toNatClampNeg ((σ.1 50 (281 : Int32).toNatClampNeg) - 1) := ⟨_, rfl⟩
  rw [← e_σ1]
  replace h := h σ1 e_σ1
  refine r_sipush (pc := 12) hv 8 rfl  ?_
  refine r_iconst (pc := 15) hv 9 rfl  ?_
  refine r_iload_n (pc := 16) hv 10 rfl rfl ?_
  refine r_imul (pc := 17) hv 11 rfl  ?_
  refine r_iadd (pc := 18) hv 12 rfl  ?_
  refine r_istore_n (pc := 19) (lo' := [some (aR 49), some (aI l1), some (aI (160 + (3 * l1)))]) hv 13 rfl rfl ?_
  exact h
def vc_X9_cut_0 (S : Sp) (Φ : Rs) (v : Kt) (l1 : Int32) (σ : St) : Prop := S 149 [aR 49, aI l1] σ (fun r σ1 => ∃ x2 : Int32, r = [aI x2] ∧ ((¬ (x2 : Int32) = 0 → (S 167 [aR 49, aI l1] σ1 (fun r σ3 => r = [] ∧ (vp_in 285 286 ∧ (∀ σ4 : St, σ4 = upI σ3 50 (285 : Int32).toNatClampNeg 0 → (vp_in 281 286 ∧ (Φ [aI (σ4.1 50 (281 : Int32).toNatClampNeg)] σ4))))))) ∧ ((x2 : Int32) = 0 → (Φ [aI (-1)] σ1))))
theorem w_X9_cut_0 {S : Sp} (hS : Sys S) {Φ : Rs} {v : Kt} (hv : Cl S Φ k_X9_cut v) (hw : Wk v) (l1 : Int32) (σ : St) (h : vc_X9_cut_0 S Φ v l1 σ) : v 0 [some (aR 49), some (aI l1)] [] σ := by
  unfold vc_X9_cut_0 at h
  refine r_aload_n (pc := 0) hv 0 rfl rfl ?_
  refine r_iload_n (pc := 1) hv 1 rfl rfl ?_
  refine r_callV (pc := 2) (l := [aI l1]) (av := [aI l1]) (a := 49) (t := []) hv 2 rfl rfl rfl rfl (rcv_o (by decide) rfl) trivial (hS.1 _ _ _ _ _ (fun r σ1 h => ?_) h)
  obtain ⟨x2, rfl, h⟩ := h
  show v 5 [some (aR 49), some (aI l1)] [aI x2] σ1
  refine r_if_ne (pc := 5) hv 3 rfl (fun c => ?_) (fun c => ?_)
  · replace h := h.1 c
    refine r_aload_n (pc := 10) hv 6 rfl rfl ?_
    refine r_iload_n (pc := 11) hv 7 rfl rfl ?_
    refine r_callV (pc := 12) (l := [aI l1]) (av := [aI l1]) (a := 49) (t := []) hv 8 rfl rfl rfl rfl (rcv_o (by decide) rfl) trivial (hS.1 _ _ _ _ _ (fun r σ3 h => ?_) h)
    obtain ⟨rfl, h⟩ := h
    show v 15 [some (aR 49), some (aI l1)] [] σ3
    refine r_aload_n (pc := 15) hv 9 rfl rfl ?_
    refine r_getR (pc := 16) (b := 50) hv 10 rfl rfl rfl rfl ?_
    refine r_sipush (pc := 19) hv 11 rfl  ?_
    refine r_iconst (pc := 22) hv 12 rfl  ?_
    refine r_iastore (pc := 23) (N := 286) hv 13 rfl rfl rfl h.1 ?_
    replace h := h.2
    obtain ⟨σ4, e_σ4⟩ : ∃ y : St, y = upI σ3 50 (285 : Int32).toNatClampNeg 0 := ⟨_, rfl⟩
    rw [← e_σ4]
    replace h := h σ4 e_σ4
    refine r_aload_n (pc := 24) hv 14 rfl rfl ?_
    refine r_getR (pc := 25) (b := 50) hv 15 rfl rfl rfl rfl ?_
    refine r_sipush (pc := 28) hv 16 rfl  ?_
    refine r_iaload (pc := 31) (N := 286) hv 17 rfl rfl rfl (by decide) h.1 ?_
    replace h := h.2
    exact r_ireturn (pc := 32) hv 18 rfl rfl h
  · replace h := h.2 c
    refine r_iconst (pc := 8) hv 4 rfl  ?_
    exact r_ireturn (pc := 9) hv 5 rfl rfl h
def vc_X9_rule_42 (S : Sp) (Φ : Rs) (v : Kt) (l1 : Int32) (l2 : Int32) (s0 : Int64) (s1 : Int64) (s2 : Int64) (σ : St) : Prop := S 143 [aL s2, aL s1, aL s0] σ (fun r σ1 => ∃ x2 : Int32, r = [aI x2] ∧ ((¬ (x2 : Int32) = 0 → (vp_in (282 + l1) 286 ∧ (vp_in (282 + l1) 286 ∧ (∀ σ3 : St, σ3 = upI σ1 50 (282 + l1 : Int32).toNatClampNeg l2 → (vp_in 285 286 ∧ (∀ σ4 : St, σ4 = upI σ3 50 (285 : Int32).toNatClampNeg 0 → (Φ [aI (σ1.1 50 (282 + l1 : Int32).toNatClampNeg)] σ4))))))) ∧ ((x2 : Int32) = 0 → (Φ [aI (-2)] σ1))))
theorem w_X9_rule_42 {S : Sp} (hS : Sys S) {Φ : Rs} {v : Kt} (hv : Cl S Φ k_X9_rule v) (hw : Wk v) (l1 : Int32) (l2 : Int32) (s0 : Int64) (s1 : Int64) (s2 : Int64) (σ : St) (h : vc_X9_rule_42 S Φ v l1 l2 s0 s1 s2 σ) : v 42 [some (aR 49), some (aI l1), some (aI l2), none] [aL s0, aL s1, aL s2] σ := by
  unfold vc_X9_rule_42 at h
  refine r_callS (pc := 42) (l := [aL s0, aL s1, aL s2]) (av := [aL s2, aL s1, aL s0]) (t := []) hv 22 rfl (Or.inl rfl) rfl rfl rfl trivial (hS.1 _ _ _ _ _ (fun r σ1 h => ?_) h)
  obtain ⟨x2, rfl, h⟩ := h
  show v 45 [some (aR 49), some (aI l1), some (aI l2), none] [aI x2] σ1
  refine r_if_ne (pc := 45) hv 23 rfl (fun c => ?_) (fun c => ?_)
  · replace h := h.1 c
    refine r_aload_n (pc := 51) hv 26 rfl rfl ?_
    refine r_getR (pc := 52) (b := 50) hv 27 rfl rfl rfl rfl ?_
    refine r_sipush (pc := 55) hv 28 rfl  ?_
    refine r_iload_n (pc := 58) hv 29 rfl rfl ?_
    refine r_iadd (pc := 59) hv 30 rfl  ?_
    refine r_iaload (pc := 60) (N := 286) hv 31 rfl rfl rfl (by decide) h.1 ?_
    replace h := h.2
    refine r_istore_n (pc := 61) (lo' := [some (aR 49), some (aI l1), some (aI l2), some (aI (σ1.1 50 (282 + l1 : Int32).toNatClampNeg))]) hv 32 rfl rfl ?_
    refine r_aload_n (pc := 62) hv 33 rfl rfl ?_
    refine r_getR (pc := 63) (b := 50) hv 34 rfl rfl rfl rfl ?_
    refine r_sipush (pc := 66) hv 35 rfl  ?_
    refine r_iload_n (pc := 69) hv 36 rfl rfl ?_
    refine r_iadd (pc := 70) hv 37 rfl  ?_
    refine r_iload_n (pc := 71) hv 38 rfl rfl ?_
    refine r_iastore (pc := 72) (N := 286) hv 39 rfl rfl rfl h.1 ?_
    replace h := h.2
    obtain ⟨σ3, e_σ3⟩ : ∃ y : St, y = upI σ1 50 (282 + l1 : Int32).toNatClampNeg l2 := ⟨_, rfl⟩
    rw [← e_σ3]
    replace h := h σ3 e_σ3
    refine r_aload_n (pc := 73) hv 40 rfl rfl ?_
    refine r_getR (pc := 74) (b := 50) hv 41 rfl rfl rfl rfl ?_
    refine r_sipush (pc := 77) hv 42 rfl  ?_
    refine r_iconst (pc := 80) hv 43 rfl  ?_
    refine r_iastore (pc := 81) (N := 286) hv 44 rfl rfl rfl h.1 ?_
    replace h := h.2
    obtain ⟨σ4, e_σ4⟩ : ∃ y : St, y = upI σ3 50 (285 : Int32).toNatClampNeg 0 := ⟨_, rfl⟩
    rw [← e_σ4]
    replace h := h σ4 e_σ4
    refine r_iload_n (pc := 82) hv 45 rfl rfl ?_
    exact r_ireturn (pc := 83) hv 46 rfl rfl h
  · replace h := h.2 c
    refine r_bipush (pc := 48) hv 24 rfl  ?_
    exact r_ireturn (pc := 50) hv 25 rfl rfl h
def vc_X9_rule_28 (S : Sp) (Φ : Rs) (v : Kt) (l1 : Int32) (l2 : Int32) (s0 : Int64) (s1 : Int64) (σ : St) : Prop := (¬ (l1 : Int32) = 1 → (vc_X9_rule_42 S Φ v  l1 l2 99 s0 s1 σ)) ∧ ((l1 : Int32) = 1 → (vc_X9_rule_42 S Φ v  l1 l2 9999 s0 s1 σ))
theorem w_X9_rule_28 {S : Sp} (hS : Sys S) {Φ : Rs} {v : Kt} (hv : Cl S Φ k_X9_rule v) (hw : Wk v) (l1 : Int32) (l2 : Int32) (s0 : Int64) (s1 : Int64) (σ : St) (h : vc_X9_rule_28 S Φ v l1 l2 s0 s1 σ) : v 28 [some (aR 49), some (aI l1), some (aI l2), none] [aL s0, aL s1] σ := by
  unfold vc_X9_rule_28 at h
  refine r_iload_n (pc := 28) hv 16 rfl rfl ?_
  refine r_iconst (pc := 29) hv 17 rfl  ?_
  refine r_icmp_ne (pc := 30) hv 18 rfl (fun c => ?_) (fun c => ?_)
  · replace h := h.1 c
    refine r_ldc2_w (pc := 39) hv 21 rfl  ?_
    exact (w_X9_rule_42 hS hv hw   l1 l2 99 s0 s1  σ h)
  · replace h := h.2 c
    refine r_ldc2_w (pc := 33) hv 19 rfl  ?_
    refine r_goto (pc := 36) hv 20 rfl  ?_
    exact (w_X9_rule_42 hS hv hw   l1 l2 9999 s0 s1  σ h)
def vc_X9_rule_0 (S : Sp) (Φ : Rs) (v : Kt) (l1 : Int32) (l2 : Int32) (σ : St) : Prop := S 143 [aL ((l1 : Int32).toInt64), aL 0, aL 2] σ (fun r σ1 => ∃ x2 : Int32, r = [aI x2] ∧ ((¬ (x2 : Int32) = 0 → ((¬ (l1 : Int32) = 2 → (vc_X9_rule_28 S Φ v  l1 l2 0 ((l2 : Int32).toInt64) σ1)) ∧ ((l1 : Int32) = 2 → (vc_X9_rule_28 S Φ v  l1 l2 5 ((l2 : Int32).toInt64) σ1)))) ∧ ((x2 : Int32) = 0 → (Φ [aI (-1)] σ1))))
theorem w_X9_rule_0 {S : Sp} (hS : Sys S) {Φ : Rs} {v : Kt} (hv : Cl S Φ k_X9_rule v) (hw : Wk v) (l1 : Int32) (l2 : Int32) (σ : St) (h : vc_X9_rule_0 S Φ v l1 l2 σ) : v 0 [some (aR 49), some (aI l1), some (aI l2), none] [] σ := by
  unfold vc_X9_rule_0 at h
  refine r_iload_n (pc := 0) hv 0 rfl rfl ?_
  refine r_i2l (pc := 1) hv 1 rfl  ?_
  refine r_lconst (pc := 2) hv 2 rfl  ?_
  refine r_ldc2_w (pc := 3) hv 3 rfl  ?_
  refine r_callS (pc := 6) (l := [aL 2, aL 0, aL ((l1 : Int32).toInt64)]) (av := [aL ((l1 : Int32).toInt64), aL 0, aL 2]) (t := []) hv 4 rfl (Or.inl rfl) rfl rfl rfl trivial (hS.1 _ _ _ _ _ (fun r σ1 h => ?_) h)
  obtain ⟨x2, rfl, h⟩ := h
  show v 9 [some (aR 49), some (aI l1), some (aI l2), none] [aI x2] σ1
  refine r_if_ne (pc := 9) hv 5 rfl (fun c => ?_) (fun c => ?_)
  · replace h := h.1 c
    refine r_iload_n (pc := 14) hv 8 rfl rfl ?_
    refine r_i2l (pc := 15) hv 9 rfl  ?_
    refine r_iload_n (pc := 16) hv 10 rfl rfl ?_
    refine r_iconst (pc := 17) hv 11 rfl  ?_
    refine r_icmp_ne (pc := 18) hv 12 rfl (fun c => ?_) (fun c => ?_)
    · replace h := h.1 c
      refine r_lconst (pc := 27) hv 15 rfl  ?_
      exact (w_X9_rule_28 hS hv hw   l1 l2 0 ((l2 : Int32).toInt64)  σ1 h)
    · replace h := h.2 c
      refine r_ldc2_w (pc := 21) hv 13 rfl  ?_
      refine r_goto (pc := 24) hv 14 rfl  ?_
      exact (w_X9_rule_28 hS hv hw   l1 l2 5 ((l2 : Int32).toInt64)  σ1 h)
  · replace h := h.2 c
    refine r_iconst (pc := 12) hv 6 rfl  ?_
    exact r_ireturn (pc := 13) hv 7 rfl rfl h
def vc_X9_drop_37 (S : Sp) (Φ : Rs) (v : Kt) (l1 : Int32) (σ : St) : Prop := ((l1 : Int32) < 0 → (vp_in 285 286 ∧ (∀ σ1 : St, σ1 = upI σ 50 (285 : Int32).toNatClampNeg 0 → (vp_in 280 286 ∧ (Φ [aI (σ1.1 50 (280 : Int32).toNatClampNeg)] σ1))))) ∧ (¬ ((l1 : Int32) < 0) → (S 151 [aR 49, aI l1, aI 0] σ (fun r σ2 => ∃ x3 : Int32, r = [aI x3] ∧ (vp_in 280 286 ∧ (((x3 : Int32) = (σ2.1 50 (280 : Int32).toNatClampNeg) → (S 167 [aR 49, aI l1] σ2 (fun r σ4 => r = [] ∧ (v 37 [some (aR 49), some (aI (l1 + (-1)))] [] σ4)))) ∧ (¬ ((x3 : Int32) = (σ2.1 50 (280 : Int32).toNatClampNeg)) → (S 151 [aR 49, aI l1, aI 1] σ2 (fun r σ5 => ∃ x6 : Int32, r = [aI x6] ∧ (vp_in 280 286 ∧ ((¬ (x6 : Int32) = (σ5.1 50 (280 : Int32).toNatClampNeg) → (v 37 [some (aR 49), some (aI (l1 + (-1)))] [] σ5)) ∧ ((x6 : Int32) = (σ5.1 50 (280 : Int32).toNatClampNeg) → (S 167 [aR 49, aI l1] σ5 (fun r σ7 => r = [] ∧ (v 37 [some (aR 49), some (aI (l1 + (-1)))] [] σ7))))))))))))))
theorem w_X9_drop_37 {S : Sp} (hS : Sys S) {Φ : Rs} {v : Kt} (hv : Cl S Φ k_X9_drop v) (hw : Wk v) (l1 : Int32) (σ : St) (h : vc_X9_drop_37 S Φ v l1 σ) : v 37 [some (aR 49), some (aI l1)] [] σ := by
  unfold vc_X9_drop_37 at h
  refine r_iload_n (pc := 37) hv 22 rfl rfl ?_
  refine r_if_lt (pc := 38) hv 23 rfl (fun c => ?_) (fun c => ?_)
  · replace h := h.1 c
    refine r_aload_n (pc := 86) hv 47 rfl rfl ?_
    refine r_getR (pc := 87) (b := 50) hv 48 rfl rfl rfl rfl ?_
    refine r_sipush (pc := 90) hv 49 rfl  ?_
    refine r_iconst (pc := 93) hv 50 rfl  ?_
    refine r_iastore (pc := 94) (N := 286) hv 51 rfl rfl rfl h.1 ?_
    replace h := h.2
    obtain ⟨σ1, e_σ1⟩ : ∃ y : St, y = upI σ 50 (285 : Int32).toNatClampNeg 0 := ⟨_, rfl⟩
    rw [← e_σ1]
    replace h := h σ1 e_σ1
    refine r_aload_n (pc := 95) hv 52 rfl rfl ?_
    refine r_getR (pc := 96) (b := 50) hv 53 rfl rfl rfl rfl ?_
    refine r_sipush (pc := 99) hv 54 rfl  ?_
    refine r_iaload (pc := 102) (N := 286) hv 55 rfl rfl rfl (by decide) h.1 ?_
    replace h := h.2
    exact r_ireturn (pc := 103) hv 56 rfl rfl h
  · replace h := h.2 c
    refine r_aload_n (pc := 41) hv 24 rfl rfl ?_
    refine r_iload_n (pc := 42) hv 25 rfl rfl ?_
    refine r_iconst (pc := 43) hv 26 rfl  ?_
    refine r_callV (pc := 44) (l := [aI 0, aI l1]) (av := [aI l1, aI 0]) (a := 49) (t := []) hv 27 rfl rfl rfl rfl (rcv_o (by decide) rfl) trivial (hS.1 _ _ _ _ _ (fun r σ2 h => ?_) h)
    obtain ⟨x3, rfl, h⟩ := h
    show v 47 [some (aR 49), some (aI l1)] [aI x3] σ2
    refine r_aload_n (pc := 47) hv 28 rfl rfl ?_
    refine r_getR (pc := 48) (b := 50) hv 29 rfl rfl rfl rfl ?_
    refine r_sipush (pc := 51) hv 30 rfl  ?_
    refine r_iaload (pc := 54) (N := 286) hv 31 rfl rfl rfl (by decide) h.1 ?_
    replace h := h.2
    refine r_icmp_eq (pc := 55) hv 32 rfl (fun c => ?_) (fun c => ?_)
    · replace h := h.1 c
      refine r_aload_n (pc := 75) hv 42 rfl rfl ?_
      refine r_iload_n (pc := 76) hv 43 rfl rfl ?_
      refine r_callV (pc := 77) (l := [aI l1]) (av := [aI l1]) (a := 49) (t := []) hv 44 rfl rfl rfl rfl (rcv_o (by decide) rfl) trivial (hS.1 _ _ _ _ _ (fun r σ4 h => ?_) h)
      obtain ⟨rfl, h⟩ := h
      show v 80 [some (aR 49), some (aI l1)] [] σ4
      refine r_iinc (pc := 80) (lo' := [some (aR 49), some (aI (l1 + (-1)))]) hv 45 rfl rfl rfl ?_
      refine r_goto (pc := 83) hv 46 rfl  ?_
      exact h
    · replace h := h.2 c
      refine r_aload_n (pc := 58) hv 33 rfl rfl ?_
      refine r_iload_n (pc := 59) hv 34 rfl rfl ?_
      refine r_iconst (pc := 60) hv 35 rfl  ?_
      refine r_callV (pc := 61) (l := [aI 1, aI l1]) (av := [aI l1, aI 1]) (a := 49) (t := []) hv 36 rfl rfl rfl rfl (rcv_o (by decide) rfl) trivial (hS.1 _ _ _ _ _ (fun r σ5 h => ?_) h)
      obtain ⟨x6, rfl, h⟩ := h
      show v 64 [some (aR 49), some (aI l1)] [aI x6] σ5
      refine r_aload_n (pc := 64) hv 37 rfl rfl ?_
      refine r_getR (pc := 65) (b := 50) hv 38 rfl rfl rfl rfl ?_
      refine r_sipush (pc := 68) hv 39 rfl  ?_
      refine r_iaload (pc := 71) (N := 286) hv 40 rfl rfl rfl (by decide) h.1 ?_
      replace h := h.2
      refine r_icmp_ne (pc := 72) hv 41 rfl (fun c => ?_) (fun c => ?_)
      · replace h := h.1 c
        refine r_iinc (pc := 80) (lo' := [some (aR 49), some (aI (l1 + (-1)))]) hv 45 rfl rfl rfl ?_
        refine r_goto (pc := 83) hv 46 rfl  ?_
        exact h
      · replace h := h.2 c
        refine r_aload_n (pc := 75) hv 42 rfl rfl ?_
        refine r_iload_n (pc := 76) hv 43 rfl rfl ?_
        refine r_callV (pc := 77) (l := [aI l1]) (av := [aI l1]) (a := 49) (t := []) hv 44 rfl rfl rfl rfl (rcv_o (by decide) rfl) trivial (hS.1 _ _ _ _ _ (fun r σ7 h => ?_) h)
        obtain ⟨rfl, h⟩ := h
        show v 80 [some (aR 49), some (aI l1)] [] σ7
        refine r_iinc (pc := 80) (lo' := [some (aR 49), some (aI (l1 + (-1)))]) hv 45 rfl rfl rfl ?_
        refine r_goto (pc := 83) hv 46 rfl  ?_
        exact h
def vc_X9_drop_0 (S : Sp) (Φ : Rs) (v : Kt) (σ : St) : Prop := vp_in 280 286 ∧ ((¬ (σ.1 50 (280 : Int32).toNatClampNeg : Int32) = 0 → (vp_in 280 286 ∧ (vp_in 280 286 ∧ (∀ σ1 : St, σ1 = upI σ 50 (280 : Int32).toNatClampNeg ((σ.1 50 (280 : Int32).toNatClampNeg) - 1) → (vp_in 281 286 ∧ (v 37 [some (aR 49), some (aI ((σ1.1 50 (281 : Int32).toNatClampNeg) - 1))] [] σ1)))))) ∧ ((σ.1 50 (280 : Int32).toNatClampNeg : Int32) = 0 → (Φ [aI (-3)] σ)))
theorem w_X9_drop_0 {S : Sp} (hS : Sys S) {Φ : Rs} {v : Kt} (hv : Cl S Φ k_X9_drop v) (hw : Wk v) (σ : St) (h : vc_X9_drop_0 S Φ v  σ) : v 0 [some (aR 49), none] [] σ := by
  unfold vc_X9_drop_0 at h
  refine r_aload_n (pc := 0) hv 0 rfl rfl ?_
  refine r_getR (pc := 1) (b := 50) hv 1 rfl rfl rfl rfl ?_
  refine r_sipush (pc := 4) hv 2 rfl  ?_
  refine r_iaload (pc := 7) (N := 286) hv 3 rfl rfl rfl (by decide) h.1 ?_
  replace h := h.2
  refine r_if_ne (pc := 8) hv 4 rfl (fun c => ?_) (fun c => ?_)
  · replace h := h.1 c
    refine r_aload_n (pc := 14) hv 7 rfl rfl ?_
    refine r_getR (pc := 15) (b := 50) hv 8 rfl rfl rfl rfl ?_
    refine r_sipush (pc := 18) hv 9 rfl  ?_
    refine r_dup2 (pc := 21) hv 10 rfl trivial trivial ?_
    refine r_iaload (pc := 22) (N := 286) hv 11 rfl rfl rfl (by decide) h.1 ?_
    replace h := h.2
    refine r_iconst (pc := 23) hv 12 rfl  ?_
    refine r_isub (pc := 24) hv 13 rfl  ?_
    refine r_iastore (pc := 25) (N := 286) hv 14 rfl rfl rfl h.1 ?_
    replace h := h.2
    obtain ⟨σ1, e_σ1⟩ : ∃ y : St, y = upI σ 50 (280 : Int32).toNatClampNeg ((σ.1 50 (280 : Int32).toNatClampNeg) - 1) := ⟨_, rfl⟩
    rw [← e_σ1]
    replace h := h σ1 e_σ1
    refine r_aload_n (pc := 26) hv 15 rfl rfl ?_
    refine r_getR (pc := 27) (b := 50) hv 16 rfl rfl rfl rfl ?_
    refine r_sipush (pc := 30) hv 17 rfl  ?_
    refine r_iaload (pc := 33) (N := 286) hv 18 rfl rfl rfl (by decide) h.1 ?_
    replace h := h.2
    refine r_iconst (pc := 34) hv 19 rfl  ?_
    refine r_isub (pc := 35) hv 20 rfl  ?_
    refine r_istore_n (pc := 36) (lo' := [some (aR 49), some (aI ((σ1.1 50 (281 : Int32).toNatClampNeg) - 1))]) hv 21 rfl rfl ?_
    exact h
  · replace h := h.2 c
    refine r_bipush (pc := 11) hv 5 rfl  ?_
    exact r_ireturn (pc := 13) hv 6 rfl rfl h
def vc_X9_endOf_0 (S : Sp) (Φ : Rs) (v : Kt) (l1 : Int32) (σ : St) : Prop := S 151 [aR 49, aI l1, aI 0] σ (fun r σ1 => ∃ x2 : Int32, r = [aI x2] ∧ (((0 : Int32) ≤ x2 → (vp_in x2 20 ∧ (((σ1.1 53 (x2 : Int32).toNatClampNeg : Int32) = 1000000 → (Φ [aI 1000000] σ1)) ∧ (¬ ((σ1.1 53 (x2 : Int32).toNatClampNeg : Int32) = 1000000) → (S 152 [aR 49, aI x2] σ1 (fun r σ3 => ∃ x4 : Int32, r = [aI x4] ∧ (((x4 : Int32) = 0 → (vp_in x2 20 ∧ (S 151 [aR 49, aI l1, aI 2] σ3 (fun r σ5 => ∃ x6 : Int32, r = [aI x6] ∧ (Φ [aI ((σ3.1 53 (x2 : Int32).toNatClampNeg) + x6)] σ5))))) ∧ (¬ ((x4 : Int32) = 0) → (Φ [aI 1000000] σ3))))))))) ∧ (¬ ((0 : Int32) ≤ x2) → (S 151 [aR 49, aI l1, aI 2] σ1 (fun r σ7 => ∃ x8 : Int32, r = [aI x8] ∧ (Φ [aI x8] σ7))))))
theorem w_X9_endOf_0 {S : Sp} (hS : Sys S) {Φ : Rs} {v : Kt} (hv : Cl S Φ k_X9_endOf v) (hw : Wk v) (l1 : Int32) (σ : St) (h : vc_X9_endOf_0 S Φ v l1 σ) : v 0 [some (aR 49), some (aI l1), none] [] σ := by
  unfold vc_X9_endOf_0 at h
  refine r_aload_n (pc := 0) hv 0 rfl rfl ?_
  refine r_iload_n (pc := 1) hv 1 rfl rfl ?_
  refine r_iconst (pc := 2) hv 2 rfl  ?_
  refine r_callV (pc := 3) (l := [aI 0, aI l1]) (av := [aI l1, aI 0]) (a := 49) (t := []) hv 3 rfl rfl rfl rfl (rcv_o (by decide) rfl) trivial (hS.1 _ _ _ _ _ (fun r σ1 h => ?_) h)
  obtain ⟨x2, rfl, h⟩ := h
  show v 6 [some (aR 49), some (aI l1), none] [aI x2] σ1
  refine r_istore_n (pc := 6) (lo' := [some (aR 49), some (aI l1), some (aI x2)]) hv 4 rfl rfl ?_
  refine r_iload_n (pc := 7) hv 5 rfl rfl ?_
  refine r_if_ge (pc := 8) hv 6 rfl (fun c => ?_) (fun c => ?_)
  · replace h := h.1 c
    refine r_aload_n (pc := 18) hv 12 rfl rfl ?_
    refine r_getR (pc := 19) (b := 53) hv 13 rfl rfl rfl rfl ?_
    refine r_iload_n (pc := 22) hv 14 rfl rfl ?_
    refine r_iaload (pc := 23) (N := 20) hv 15 rfl rfl rfl (by decide) h.1 ?_
    replace h := h.2
    refine r_ldc (pc := 24) hv 16 rfl rfl ?_
    refine r_icmp_eq (pc := 26) hv 17 rfl (fun c => ?_) (fun c => ?_)
    · replace h := h.1 c
      refine r_ldc (pc := 37) hv 22 rfl rfl ?_
      refine r_goto (pc := 39) hv 23 rfl  ?_
      exact r_ireturn (pc := 55) hv 33 rfl rfl h
    · replace h := h.2 c
      refine r_aload_n (pc := 29) hv 18 rfl rfl ?_
      refine r_iload_n (pc := 30) hv 19 rfl rfl ?_
      refine r_callV (pc := 31) (l := [aI x2]) (av := [aI x2]) (a := 49) (t := []) hv 20 rfl rfl rfl rfl (rcv_o (by decide) rfl) trivial (hS.1 _ _ _ _ _ (fun r σ3 h => ?_) h)
      obtain ⟨x4, rfl, h⟩ := h
      show v 34 [some (aR 49), some (aI l1), some (aI x2)] [aI x4] σ3
      refine r_if_eq (pc := 34) hv 21 rfl (fun c => ?_) (fun c => ?_)
      · replace h := h.1 c
        refine r_aload_n (pc := 42) hv 24 rfl rfl ?_
        refine r_getR (pc := 43) (b := 53) hv 25 rfl rfl rfl rfl ?_
        refine r_iload_n (pc := 46) hv 26 rfl rfl ?_
        refine r_iaload (pc := 47) (N := 20) hv 27 rfl rfl rfl (by decide) h.1 ?_
        replace h := h.2
        refine r_aload_n (pc := 48) hv 28 rfl rfl ?_
        refine r_iload_n (pc := 49) hv 29 rfl rfl ?_
        refine r_iconst (pc := 50) hv 30 rfl  ?_
        refine r_callV (pc := 51) (l := [aI 2, aI l1]) (av := [aI l1, aI 2]) (a := 49) (t := [aI (σ3.1 53 (x2 : Int32).toNatClampNeg)]) hv 31 rfl rfl rfl rfl (rcv_o (by decide) rfl) trivial (hS.1 _ _ _ _ _ (fun r σ5 h => ?_) h)
        obtain ⟨x6, rfl, h⟩ := h
        show v 54 [some (aR 49), some (aI l1), some (aI x2)] [aI x6, aI (σ3.1 53 (x2 : Int32).toNatClampNeg)] σ5
        refine r_iadd (pc := 54) hv 32 rfl  ?_
        exact r_ireturn (pc := 55) hv 33 rfl rfl h
      · replace h := h.2 c
        refine r_ldc (pc := 37) hv 22 rfl rfl ?_
        refine r_goto (pc := 39) hv 23 rfl  ?_
        exact r_ireturn (pc := 55) hv 33 rfl rfl h
  · replace h := h.2 c
    refine r_aload_n (pc := 11) hv 7 rfl rfl ?_
    refine r_iload_n (pc := 12) hv 8 rfl rfl ?_
    refine r_iconst (pc := 13) hv 9 rfl  ?_
    refine r_callV (pc := 14) (l := [aI 2, aI l1]) (av := [aI l1, aI 2]) (a := 49) (t := []) hv 10 rfl rfl rfl rfl (rcv_o (by decide) rfl) trivial (hS.1 _ _ _ _ _ (fun r σ7 h => ?_) h)
    obtain ⟨x8, rfl, h⟩ := h
    show v 17 [some (aR 49), some (aI l1), some (aI x2)] [aI x8] σ7
    exact r_ireturn (pc := 17) hv 11 rfl rfl h
def vc_X9_signals_32 (S : Sp) (Φ : Rs) (v : Kt) (l1 : Int32) (l2 : Int32) (σ : St) : Prop := vp_in 281 286 ∧ (((σ.1 50 (281 : Int32).toNatClampNeg : Int32) ≤ l2 → (v 24 [some (aR 49), some (aI l1), none, none] [] σ)) ∧ (¬ ((σ.1 50 (281 : Int32).toNatClampNeg : Int32) ≤ l2) → (S 171 [aR 49, aI l2] σ (fun r σ1 => ∃ x2 : Int32, r = [aI x2] ∧ (S 151 [aR 49, aI l2, aI 1] σ1 (fun r σ3 => ∃ x4 : Int32, r = [aI x4] ∧ (vp_in x4 20 ∧ (((σ3.1 53 (x4 : Int32).toNatClampNeg : Int32) ≤ x2 → (v 32 [some (aR 49), some (aI l1), some (aI (l2 + 1)), none] [] σ3)) ∧ (¬ ((σ3.1 53 (x4 : Int32).toNatClampNeg : Int32) ≤ x2) → (S 151 [aR 49, aI l2, aI 1] σ3 (fun r σ5 => ∃ x6 : Int32, r = [aI x6] ∧ (vp_in x6 20 ∧ (∀ σ7 : St, σ7 = upI σ5 53 (x6 : Int32).toNatClampNeg x2 → (v 32 [some (aR 49), some (aI 1), some (aI (l2 + 1)), none] [] σ7))))))))))))))
theorem w_X9_signals_32 {S : Sp} (hS : Sys S) {Φ : Rs} {v : Kt} (hv : Cl S Φ k_X9_signals v) (hw : Wk v) (l1 : Int32) (l2 : Int32) (σ : St) (h : vc_X9_signals_32 S Φ v l1 l2 σ) : v 32 [some (aR 49), some (aI l1), some (aI l2), none] [] σ := by
  unfold vc_X9_signals_32 at h
  refine r_iload_n (pc := 32) hv 20 rfl rfl ?_
  refine r_aload_n (pc := 33) hv 21 rfl rfl ?_
  refine r_getR (pc := 34) (b := 50) hv 22 rfl rfl rfl rfl ?_
  refine r_sipush (pc := 37) hv 23 rfl  ?_
  refine r_iaload (pc := 40) (N := 286) hv 24 rfl rfl rfl (by decide) h.1 ?_
  replace h := h.2
  refine r_icmp_ge (pc := 41) hv 25 rfl (fun c => ?_) (fun c => ?_)
  · replace h := h.1 c
    refine r_goto (pc := 85) hv 51 rfl  ?_
    exact hw 24 [some (aR 49), some (aI l1), none, none] _ _ _ ⟨rfl, ⟨rfl, trivial⟩⟩ h
  · replace h := h.2 c
    refine r_aload_n (pc := 44) hv 26 rfl rfl ?_
    refine r_iload_n (pc := 45) hv 27 rfl rfl ?_
    refine r_callV (pc := 46) (l := [aI l2]) (av := [aI l2]) (a := 49) (t := []) hv 28 rfl rfl rfl rfl (rcv_o (by decide) rfl) trivial (hS.1 _ _ _ _ _ (fun r σ1 h => ?_) h)
    obtain ⟨x2, rfl, h⟩ := h
    show v 49 [some (aR 49), some (aI l1), some (aI l2), none] [aI x2] σ1
    refine r_istore_n (pc := 49) (lo' := [some (aR 49), some (aI l1), some (aI l2), some (aI x2)]) hv 29 rfl rfl ?_
    refine r_iload_n (pc := 50) hv 30 rfl rfl ?_
    refine r_aload_n (pc := 51) hv 31 rfl rfl ?_
    refine r_getR (pc := 52) (b := 53) hv 32 rfl rfl rfl rfl ?_
    refine r_aload_n (pc := 55) hv 33 rfl rfl ?_
    refine r_iload_n (pc := 56) hv 34 rfl rfl ?_
    refine r_iconst (pc := 57) hv 35 rfl  ?_
    refine r_callV (pc := 58) (l := [aI 1, aI l2]) (av := [aI l2, aI 1]) (a := 49) (t := [aR 53, aI x2]) hv 36 rfl rfl rfl rfl (rcv_o (by decide) rfl) trivial (hS.1 _ _ _ _ _ (fun r σ3 h => ?_) h)
    obtain ⟨x4, rfl, h⟩ := h
    show v 61 [some (aR 49), some (aI l1), some (aI l2), some (aI x2)] [aI x4, aR 53, aI x2] σ3
    refine r_iaload (pc := 61) (N := 20) hv 37 rfl rfl rfl (by decide) h.1 ?_
    replace h := h.2
    refine r_icmp_ge (pc := 62) hv 38 rfl (fun c => ?_) (fun c => ?_)
    · replace h := h.1 c
      refine r_iinc (pc := 79) (lo' := [some (aR 49), some (aI l1), some (aI (l2 + 1)), some (aI x2)]) hv 49 rfl rfl rfl ?_
      refine r_goto (pc := 82) hv 50 rfl  ?_
      exact hw 32 [some (aR 49), some (aI l1), some (aI (l2 + 1)), none] _ _ _ ⟨rfl, ⟨rfl, ⟨rfl, trivial⟩⟩⟩ h
    · replace h := h.2 c
      refine r_aload_n (pc := 65) hv 39 rfl rfl ?_
      refine r_getR (pc := 66) (b := 53) hv 40 rfl rfl rfl rfl ?_
      refine r_aload_n (pc := 69) hv 41 rfl rfl ?_
      refine r_iload_n (pc := 70) hv 42 rfl rfl ?_
      refine r_iconst (pc := 71) hv 43 rfl  ?_
      refine r_callV (pc := 72) (l := [aI 1, aI l2]) (av := [aI l2, aI 1]) (a := 49) (t := [aR 53]) hv 44 rfl rfl rfl rfl (rcv_o (by decide) rfl) trivial (hS.1 _ _ _ _ _ (fun r σ5 h => ?_) h)
      obtain ⟨x6, rfl, h⟩ := h
      show v 75 [some (aR 49), some (aI l1), some (aI l2), some (aI x2)] [aI x6, aR 53] σ5
      refine r_iload_n (pc := 75) hv 45 rfl rfl ?_
      refine r_iastore (pc := 76) (N := 20) hv 46 rfl rfl rfl h.1 ?_
      replace h := h.2
      obtain ⟨σ7, e_σ7⟩ : ∃ y : St, y = upI σ5 53 (x6 : Int32).toNatClampNeg x2 := ⟨_, rfl⟩
      rw [← e_σ7]
      replace h := h σ7 e_σ7
      refine r_iconst (pc := 77) hv 47 rfl  ?_
      refine r_istore_n (pc := 78) (lo' := [some (aR 49), some (aI 1), some (aI l2), some (aI x2)]) hv 48 rfl rfl ?_
      refine r_iinc (pc := 79) (lo' := [some (aR 49), some (aI 1), some (aI (l2 + 1)), some (aI x2)]) hv 49 rfl rfl rfl ?_
      refine r_goto (pc := 82) hv 50 rfl  ?_
      exact hw 32 [some (aR 49), some (aI 1), some (aI (l2 + 1)), none] _ _ _ ⟨rfl, ⟨rfl, ⟨rfl, trivial⟩⟩⟩ h
def vc_X9_signals_24 (S : Sp) (Φ : Rs) (v : Kt) (l1 : Int32) (σ : St) : Prop := ((l1 : Int32) = 0 → (Φ [] σ)) ∧ (¬ ((l1 : Int32) = 0) → (v 32 [some (aR 49), some (aI 0), some (aI 0), none] [] σ))
theorem w_X9_signals_24 {S : Sp} (hS : Sys S) {Φ : Rs} {v : Kt} (hv : Cl S Φ k_X9_signals v) (hw : Wk v) (l1 : Int32) (σ : St) (h : vc_X9_signals_24 S Φ v l1 σ) : v 24 [some (aR 49), some (aI l1), none, none] [] σ := by
  unfold vc_X9_signals_24 at h
  refine r_iload_n (pc := 24) hv 14 rfl rfl ?_
  refine r_if_eq (pc := 25) hv 15 rfl (fun c => ?_) (fun c => ?_)
  · replace h := h.1 c
    exact r_return (pc := 88) hv 52 rfl h
  · replace h := h.2 c
    refine r_iconst (pc := 28) hv 16 rfl  ?_
    refine r_istore_n (pc := 29) (lo' := [some (aR 49), some (aI 0), none, none]) hv 17 rfl rfl ?_
    refine r_iconst (pc := 30) hv 18 rfl  ?_
    refine r_istore_n (pc := 31) (lo' := [some (aR 49), some (aI 0), some (aI 0), none]) hv 19 rfl rfl ?_
    exact h
def vc_X9_signals_2 (S : Sp) (Φ : Rs) (v : Kt) (l1 : Int32) (σ : St) : Prop := ((20 : Int32) ≤ l1 → (v 24 [some (aR 49), some (aI 1), none, none] [] σ)) ∧ (¬ ((20 : Int32) ≤ l1) → (vp_in l1 20 ∧ (∀ σ1 : St, σ1 = upI σ 53 (l1 : Int32).toNatClampNeg 1000000 → (v 2 [some (aR 49), some (aI (l1 + 1)), none, none] [] σ1))))
theorem w_X9_signals_2 {S : Sp} (hS : Sys S) {Φ : Rs} {v : Kt} (hv : Cl S Φ k_X9_signals v) (hw : Wk v) (l1 : Int32) (σ : St) (h : vc_X9_signals_2 S Φ v l1 σ) : v 2 [some (aR 49), some (aI l1), none, none] [] σ := by
  unfold vc_X9_signals_2 at h
  refine r_iload_n (pc := 2) hv 2 rfl rfl ?_
  refine r_bipush (pc := 3) hv 3 rfl  ?_
  refine r_icmp_ge (pc := 5) hv 4 rfl (fun c => ?_) (fun c => ?_)
  · replace h := h.1 c
    refine r_iconst (pc := 22) hv 12 rfl  ?_
    refine r_istore_n (pc := 23) (lo' := [some (aR 49), some (aI 1), none, none]) hv 13 rfl rfl ?_
    exact h
  · replace h := h.2 c
    refine r_aload_n (pc := 8) hv 5 rfl rfl ?_
    refine r_getR (pc := 9) (b := 53) hv 6 rfl rfl rfl rfl ?_
    refine r_iload_n (pc := 12) hv 7 rfl rfl ?_
    refine r_ldc (pc := 13) hv 8 rfl rfl ?_
    refine r_iastore (pc := 15) (N := 20) hv 9 rfl rfl rfl h.1 ?_
    replace h := h.2
    obtain ⟨σ1, e_σ1⟩ : ∃ y : St, y = upI σ 53 (l1 : Int32).toNatClampNeg 1000000 := ⟨_, rfl⟩
    rw [← e_σ1]
    replace h := h σ1 e_σ1
    refine r_iinc (pc := 16) (lo' := [some (aR 49), some (aI (l1 + 1)), none, none]) hv 10 rfl rfl rfl ?_
    refine r_goto (pc := 19) hv 11 rfl  ?_
    exact h
def vc_X9_signals_0 (S : Sp) (Φ : Rs) (v : Kt) (σ : St) : Prop := v 2 [some (aR 49), some (aI 0), none, none] [] σ
theorem w_X9_signals_0 {S : Sp} (hS : Sys S) {Φ : Rs} {v : Kt} (hv : Cl S Φ k_X9_signals v) (hw : Wk v) (σ : St) (h : vc_X9_signals_0 S Φ v  σ) : v 0 [some (aR 49), none, none, none] [] σ := by
  unfold vc_X9_signals_0 at h
  refine r_iconst (pc := 0) hv 0 rfl  ?_
  refine r_istore_n (pc := 1) (lo' := [some (aR 49), some (aI 0), none, none]) hv 1 rfl rfl ?_
  exact h
def vc_X9_has_0 (S : Sp) (Φ : Rs) (v : Kt) (l1 : Int32) (l2 : Int32) (σ : St) : Prop := (¬ ((l1 >>> (l2 &&& 31)) &&& 1 : Int32) = 1 → (Φ [aI 0] σ)) ∧ (((l1 >>> (l2 &&& 31)) &&& 1 : Int32) = 1 → (Φ [aI 1] σ))
theorem w_X9_has_0 {S : Sp} (hS : Sys S) {Φ : Rs} {v : Kt} (hv : Cl S Φ k_X9_has v) (hw : Wk v) (l1 : Int32) (l2 : Int32) (σ : St) (h : vc_X9_has_0 S Φ v l1 l2 σ) : v 0 [some (aR 49), some (aI l1), some (aI l2)] [] σ := by
  unfold vc_X9_has_0 at h
  refine r_iload_n (pc := 0) hv 0 rfl rfl ?_
  refine r_iload_n (pc := 1) hv 1 rfl rfl ?_
  refine r_ishr (pc := 2) hv 2 rfl  ?_
  refine r_iconst (pc := 3) hv 3 rfl  ?_
  refine r_iand (pc := 4) hv 4 rfl  ?_
  refine r_iconst (pc := 5) hv 5 rfl  ?_
  refine r_icmp_ne (pc := 6) hv 6 rfl (fun c => ?_) (fun c => ?_)
  · replace h := h.1 c
    refine r_iconst (pc := 13) hv 9 rfl  ?_
    exact r_zreturn (pc := 14) hv 10 rfl rfl (Or.inl rfl) h
  · replace h := h.2 c
    refine r_iconst (pc := 9) hv 7 rfl  ?_
    refine r_goto (pc := 10) hv 8 rfl  ?_
    exact r_zreturn (pc := 14) hv 10 rfl rfl (Or.inr rfl) h
def vc_X9_isRelieved_31 (S : Sp) (Φ : Rs) (v : Kt) (l1 : Int32) (l2 : Int32) (l3 : Int32) (l4 : Int32) (l5 : Int32) (σ : St) : Prop := vp_in 280 286 ∧ (((σ.1 50 (280 : Int32).toNatClampNeg : Int32) ≤ l5 → ((l4 = 0 ∨ l4 = 1) ∧ Φ [aI l4] σ)) ∧ (¬ ((σ.1 50 (280 : Int32).toNatClampNeg : Int32) ≤ l5) → (((l4 : Int32) = 0 → (v 31 [some (aR 49), some (aI l1), some (aI l2), some (aI l3), some (aI 0), some (aI (l5 + 1))] [] σ)) ∧ (¬ ((l4 : Int32) = 0) → (S 173 [aR 49, aI l3, aI l5] σ (fun r σ1 => ∃ x2 : Int32, r = [aI x2] ∧ (((x2 : Int32) = 0 → (v 31 [some (aR 49), some (aI l1), some (aI l2), some (aI l3), some (aI 1), some (aI (l5 + 1))] [] σ1)) ∧ (¬ ((x2 : Int32) = 0) → (S 173 [aR 49, aI l2, aI l5] σ1 (fun r σ3 => ∃ x4 : Int32, r = [aI x4] ∧ (((x4 : Int32) = 0 → (v 31 [some (aR 49), some (aI l1), some (aI l2), some (aI l3), some (aI 0), some (aI (l5 + 1))] [] σ3)) ∧ (¬ ((x4 : Int32) = 0) → (vp_in l5 20 ∧ (vp_in l1 20 ∧ (S 158 [aR 49, aI l1] σ3 (fun r σ5 => ∃ x6 : Int32, r = [aI x6] ∧ ((((σ3.1 54 (l1 : Int32).toNatClampNeg) - x6 : Int32) < (σ3.1 54 (l5 : Int32).toNatClampNeg) → (v 31 [some (aR 49), some (aI l1), some (aI l2), some (aI l3), some (aI 0), some (aI (l5 + 1))] [] σ5)) ∧ (¬ (((σ3.1 54 (l1 : Int32).toNatClampNeg) - x6 : Int32) < (σ3.1 54 (l5 : Int32).toNatClampNeg)) → (v 31 [some (aR 49), some (aI l1), some (aI l2), some (aI l3), some (aI 1), some (aI (l5 + 1))] [] σ5)))))))))))))))))))
theorem w_X9_isRelieved_31 {S : Sp} (hS : Sys S) {Φ : Rs} {v : Kt} (hv : Cl S Φ k_X9_isRelieved v) (hw : Wk v) (l1 : Int32) (l2 : Int32) (l3 : Int32) (l4 : Int32) (l5 : Int32) (σ : St) (h : vc_X9_isRelieved_31 S Φ v l1 l2 l3 l4 l5 σ) : v 31 [some (aR 49), some (aI l1), some (aI l2), some (aI l3), some (aI l4), some (aI l5)] [] σ := by
  unfold vc_X9_isRelieved_31 at h
  refine r_iload (pc := 31) hv 19 rfl rfl ?_
  refine r_aload_n (pc := 33) hv 20 rfl rfl ?_
  refine r_getR (pc := 34) (b := 50) hv 21 rfl rfl rfl rfl ?_
  refine r_sipush (pc := 37) hv 22 rfl  ?_
  refine r_iaload (pc := 40) (N := 286) hv 23 rfl rfl rfl (by decide) h.1 ?_
  replace h := h.2
  refine r_icmp_ge (pc := 41) hv 24 rfl (fun c => ?_) (fun c => ?_)
  · replace h := h.1 c
    refine r_iload (pc := 104) hv 56 rfl rfl ?_
    exact r_zreturn (pc := 106) hv 57 rfl rfl h.1 h.2
  · replace h := h.2 c
    refine r_iload (pc := 44) hv 25 rfl rfl ?_
    refine r_if_eq (pc := 46) hv 26 rfl (fun c => ?_) (fun c => ?_)
    · replace h := h.1 c
      refine r_iconst (pc := 95) hv 52 rfl  ?_
      refine r_istore (pc := 96) (lo' := [some (aR 49), some (aI l1), some (aI l2), some (aI l3), some (aI 0), some (aI l5)]) hv 53 rfl rfl ?_
      refine r_iinc (pc := 98) (lo' := [some (aR 49), some (aI l1), some (aI l2), some (aI l3), some (aI 0), some (aI (l5 + 1))]) hv 54 rfl rfl rfl ?_
      refine r_goto (pc := 101) hv 55 rfl  ?_
      exact h
    · replace h := h.2 c
      refine r_aload_n (pc := 49) hv 27 rfl rfl ?_
      refine r_iload_n (pc := 50) hv 28 rfl rfl ?_
      refine r_iload (pc := 51) hv 29 rfl rfl ?_
      refine r_callV (pc := 53) (l := [aI l5, aI l3]) (av := [aI l3, aI l5]) (a := 49) (t := []) hv 30 rfl rfl rfl rfl (rcv_o (by decide) rfl) trivial (hS.1 _ _ _ _ _ (fun r σ1 h => ?_) h)
      obtain ⟨x2, rfl, h⟩ := h
      show v 56 [some (aR 49), some (aI l1), some (aI l2), some (aI l3), some (aI l4), some (aI l5)] [aI x2] σ1
      refine r_if_eq (pc := 56) hv 31 rfl (fun c => ?_) (fun c => ?_)
      · replace h := h.1 c
        refine r_iconst (pc := 91) hv 50 rfl  ?_
        refine r_goto (pc := 92) hv 51 rfl  ?_
        refine r_istore (pc := 96) (lo' := [some (aR 49), some (aI l1), some (aI l2), some (aI l3), some (aI 1), some (aI l5)]) hv 53 rfl rfl ?_
        refine r_iinc (pc := 98) (lo' := [some (aR 49), some (aI l1), some (aI l2), some (aI l3), some (aI 1), some (aI (l5 + 1))]) hv 54 rfl rfl rfl ?_
        refine r_goto (pc := 101) hv 55 rfl  ?_
        exact h
      · replace h := h.2 c
        refine r_aload_n (pc := 59) hv 32 rfl rfl ?_
        refine r_iload_n (pc := 60) hv 33 rfl rfl ?_
        refine r_iload (pc := 61) hv 34 rfl rfl ?_
        refine r_callV (pc := 63) (l := [aI l5, aI l2]) (av := [aI l2, aI l5]) (a := 49) (t := []) hv 35 rfl rfl rfl rfl (rcv_o (by decide) rfl) trivial (hS.1 _ _ _ _ _ (fun r σ3 h => ?_) h)
        obtain ⟨x4, rfl, h⟩ := h
        show v 66 [some (aR 49), some (aI l1), some (aI l2), some (aI l3), some (aI l4), some (aI l5)] [aI x4] σ3
        refine r_if_eq (pc := 66) hv 36 rfl (fun c => ?_) (fun c => ?_)
        · replace h := h.1 c
          refine r_iconst (pc := 95) hv 52 rfl  ?_
          refine r_istore (pc := 96) (lo' := [some (aR 49), some (aI l1), some (aI l2), some (aI l3), some (aI 0), some (aI l5)]) hv 53 rfl rfl ?_
          refine r_iinc (pc := 98) (lo' := [some (aR 49), some (aI l1), some (aI l2), some (aI l3), some (aI 0), some (aI (l5 + 1))]) hv 54 rfl rfl rfl ?_
          refine r_goto (pc := 101) hv 55 rfl  ?_
          exact h
        · replace h := h.2 c
          refine r_aload_n (pc := 69) hv 37 rfl rfl ?_
          refine r_getR (pc := 70) (b := 54) hv 38 rfl rfl rfl rfl ?_
          refine r_iload (pc := 73) hv 39 rfl rfl ?_
          refine r_iaload (pc := 75) (N := 20) hv 40 rfl rfl rfl (by decide) h.1 ?_
          replace h := h.2
          refine r_aload_n (pc := 76) hv 41 rfl rfl ?_
          refine r_getR (pc := 77) (b := 54) hv 42 rfl rfl rfl rfl ?_
          refine r_iload_n (pc := 80) hv 43 rfl rfl ?_
          refine r_iaload (pc := 81) (N := 20) hv 44 rfl rfl rfl (by decide) h.1 ?_
          replace h := h.2
          refine r_aload_n (pc := 82) hv 45 rfl rfl ?_
          refine r_iload_n (pc := 83) hv 46 rfl rfl ?_
          refine r_callV (pc := 84) (l := [aI l1]) (av := [aI l1]) (a := 49) (t := [aI (σ3.1 54 (l1 : Int32).toNatClampNeg), aI (σ3.1 54 (l5 : Int32).toNatClampNeg)]) hv 47 rfl rfl rfl rfl (rcv_o (by decide) rfl) trivial (hS.1 _ _ _ _ _ (fun r σ5 h => ?_) h)
          obtain ⟨x6, rfl, h⟩ := h
          show v 87 [some (aR 49), some (aI l1), some (aI l2), some (aI l3), some (aI l4), some (aI l5)] [aI x6, aI (σ3.1 54 (l1 : Int32).toNatClampNeg), aI (σ3.1 54 (l5 : Int32).toNatClampNeg)] σ5
          refine r_isub (pc := 87) hv 48 rfl  ?_
          refine r_icmp_gt (pc := 88) hv 49 rfl (fun c => ?_) (fun c => ?_)
          · replace h := h.1 c
            refine r_iconst (pc := 95) hv 52 rfl  ?_
            refine r_istore (pc := 96) (lo' := [some (aR 49), some (aI l1), some (aI l2), some (aI l3), some (aI 0), some (aI l5)]) hv 53 rfl rfl ?_
            refine r_iinc (pc := 98) (lo' := [some (aR 49), some (aI l1), some (aI l2), some (aI l3), some (aI 0), some (aI (l5 + 1))]) hv 54 rfl rfl rfl ?_
            refine r_goto (pc := 101) hv 55 rfl  ?_
            exact h
          · replace h := h.2 c
            refine r_iconst (pc := 91) hv 50 rfl  ?_
            refine r_goto (pc := 92) hv 51 rfl  ?_
            refine r_istore (pc := 96) (lo' := [some (aR 49), some (aI l1), some (aI l2), some (aI l3), some (aI 1), some (aI l5)]) hv 53 rfl rfl ?_
            refine r_iinc (pc := 98) (lo' := [some (aR 49), some (aI l1), some (aI l2), some (aI l3), some (aI 1), some (aI (l5 + 1))]) hv 54 rfl rfl rfl ?_
            refine r_goto (pc := 101) hv 55 rfl  ?_
            exact h
def vc_X9_isRelieved_26 (S : Sp) (Φ : Rs) (v : Kt) (l1 : Int32) (l2 : Int32) (l3 : Int32) (s0 : Int32) (σ : St) : Prop := v 31 [some (aR 49), some (aI l1), some (aI l2), some (aI l3), some (aI s0), some (aI 0)] [] σ
theorem w_X9_isRelieved_26 {S : Sp} (hS : Sys S) {Φ : Rs} {v : Kt} (hv : Cl S Φ k_X9_isRelieved v) (hw : Wk v) (l1 : Int32) (l2 : Int32) (l3 : Int32) (s0 : Int32) (σ : St) (h : vc_X9_isRelieved_26 S Φ v l1 l2 l3 s0 σ) : v 26 [some (aR 49), some (aI l1), some (aI l2), some (aI l3), none, none] [aI s0] σ := by
  unfold vc_X9_isRelieved_26 at h
  refine r_istore (pc := 26) (lo' := [some (aR 49), some (aI l1), some (aI l2), some (aI l3), some (aI s0), none]) hv 16 rfl rfl ?_
  refine r_iconst (pc := 28) hv 17 rfl  ?_
  refine r_istore (pc := 29) (lo' := [some (aR 49), some (aI l1), some (aI l2), some (aI l3), some (aI s0), some (aI 0)]) hv 18 rfl rfl ?_
  exact h
def vc_X9_isRelieved_0 (S : Sp) (Φ : Rs) (v : Kt) (l1 : Int32) (l2 : Int32) (σ : St) : Prop := S 150 [aR 49, aI l1, aI 0] σ (fun r σ1 => ∃ x2 : Int32, r = [aI x2] ∧ ((¬ (x2 : Int32) = 0 → (S 162 [aR 49, aI l1] σ1 (fun r σ3 => ∃ x4 : Int32, r = [aI x4] ∧ (((x4 : Int32) = 0 → (vc_X9_isRelieved_26 S Φ v  l1 l2 x4 0 σ3)) ∧ (¬ ((x4 : Int32) = 0) → (vc_X9_isRelieved_26 S Φ v  l1 l2 x4 1 σ3)))))) ∧ ((x2 : Int32) = 0 → (Φ [aI 1] σ1))))
theorem w_X9_isRelieved_0 {S : Sp} (hS : Sys S) {Φ : Rs} {v : Kt} (hv : Cl S Φ k_X9_isRelieved v) (hw : Wk v) (l1 : Int32) (l2 : Int32) (σ : St) (h : vc_X9_isRelieved_0 S Φ v l1 l2 σ) : v 0 [some (aR 49), some (aI l1), some (aI l2), none, none, none] [] σ := by
  unfold vc_X9_isRelieved_0 at h
  refine r_aload_n (pc := 0) hv 0 rfl rfl ?_
  refine r_iload_n (pc := 1) hv 1 rfl rfl ?_
  refine r_iconst (pc := 2) hv 2 rfl  ?_
  refine r_callV (pc := 3) (l := [aI 0, aI l1]) (av := [aI l1, aI 0]) (a := 49) (t := []) hv 3 rfl rfl rfl rfl (rcv_o (by decide) rfl) trivial (hS.1 _ _ _ _ _ (fun r σ1 h => ?_) h)
  obtain ⟨x2, rfl, h⟩ := h
  show v 6 [some (aR 49), some (aI l1), some (aI l2), none, none, none] [aI x2] σ1
  refine r_if_ne (pc := 6) hv 4 rfl (fun c => ?_) (fun c => ?_)
  · replace h := h.1 c
    refine r_aload_n (pc := 11) hv 7 rfl rfl ?_
    refine r_iload_n (pc := 12) hv 8 rfl rfl ?_
    refine r_callV (pc := 13) (l := [aI l1]) (av := [aI l1]) (a := 49) (t := []) hv 9 rfl rfl rfl rfl (rcv_o (by decide) rfl) trivial (hS.1 _ _ _ _ _ (fun r σ3 h => ?_) h)
    obtain ⟨x4, rfl, h⟩ := h
    show v 16 [some (aR 49), some (aI l1), some (aI l2), none, none, none] [aI x4] σ3
    refine r_istore_n (pc := 16) (lo' := [some (aR 49), some (aI l1), some (aI l2), some (aI x4), none, none]) hv 10 rfl rfl ?_
    refine r_iload_n (pc := 17) hv 11 rfl rfl ?_
    refine r_if_eq (pc := 18) hv 12 rfl (fun c => ?_) (fun c => ?_)
    · replace h := h.1 c
      refine r_iconst (pc := 25) hv 15 rfl  ?_
      exact (w_X9_isRelieved_26 hS hv hw   l1 l2 x4 0  σ3 h)
    · replace h := h.2 c
      refine r_iconst (pc := 21) hv 13 rfl  ?_
      refine r_goto (pc := 22) hv 14 rfl  ?_
      exact (w_X9_isRelieved_26 hS hv hw   l1 l2 x4 1  σ3 h)
  · replace h := h.2 c
    refine r_iconst (pc := 9) hv 5 rfl  ?_
    exact r_zreturn (pc := 10) hv 6 rfl rfl (Or.inr rfl) h
def vc_X9_fires_94 (S : Sp) (Φ : Rs) (v : Kt) (l1 : Int32) (σ : St) : Prop := vp_in 280 286 ∧ (((σ.1 50 (280 : Int32).toNatClampNeg : Int32) ≤ l1 → (Φ [] σ)) ∧ (¬ ((σ.1 50 (280 : Int32).toNatClampNeg : Int32) ≤ l1) → (S 173 [aR 49, aI (σ.1 49 7), aI l1] σ (fun r σ1 => ∃ x2 : Int32, r = [aI x2] ∧ (((x2 : Int32) = 0 → (∀ σ3 : St, σ3 = upI σ1 49 8 ((σ.1 49 8) ||| 0) → (v 94 [some (aR 49), some (aI (l1 + 1))] [] σ3))) ∧ (¬ ((x2 : Int32) = 0) → (S 174 [aR 49, aI l1, aI (σ1.1 49 7)] σ1 (fun r σ4 => ∃ x5 : Int32, r = [aI x5] ∧ ((¬ (x5 : Int32) = 0 → (∀ σ6 : St, σ6 = upI σ4 49 8 ((σ.1 49 8) ||| 0) → (v 94 [some (aR 49), some (aI (l1 + 1))] [] σ6))) ∧ ((x5 : Int32) = 0 → (∀ σ7 : St, σ7 = upI σ4 49 8 ((σ.1 49 8) ||| (1 <<< (l1 &&& 31))) → (v 94 [some (aR 49), some (aI (l1 + 1))] [] σ7))))))))))))
theorem w_X9_fires_94 {S : Sp} (hS : Sys S) {Φ : Rs} {v : Kt} (hv : Cl S Φ k_X9_fires v) (hw : Wk v) (l1 : Int32) (σ : St) (h : vc_X9_fires_94 S Φ v l1 σ) : v 94 [some (aR 49), some (aI l1)] [] σ := by
  unfold vc_X9_fires_94 at h
  refine r_iload_n (pc := 94) hv 55 rfl rfl ?_
  refine r_aload_n (pc := 95) hv 56 rfl rfl ?_
  refine r_getR (pc := 96) (b := 50) hv 57 rfl rfl rfl rfl ?_
  refine r_sipush (pc := 99) hv 58 rfl  ?_
  refine r_iaload (pc := 102) (N := 286) hv 59 rfl rfl rfl (by decide) h.1 ?_
  replace h := h.2
  refine r_icmp_ge (pc := 103) hv 60 rfl (fun c => ?_) (fun c => ?_)
  · replace h := h.1 c
    exact r_return (pc := 152) hv 85 rfl h
  · replace h := h.2 c
    refine r_aload_n (pc := 106) hv 61 rfl rfl ?_
    refine r_dup (pc := 107) hv 62 rfl trivial ?_
    refine r_getI (pc := 108) hv 63 rfl rfl rfl ?_
    refine r_aload_n (pc := 111) hv 64 rfl rfl ?_
    refine r_aload_n (pc := 112) hv 65 rfl rfl ?_
    refine r_getI (pc := 113) hv 66 rfl rfl rfl ?_
    refine r_iload_n (pc := 116) hv 67 rfl rfl ?_
    refine r_callV (pc := 117) (l := [aI l1, aI (σ.1 49 7)]) (av := [aI (σ.1 49 7), aI l1]) (a := 49) (t := [aI (σ.1 49 8), aR 49]) hv 68 rfl rfl rfl rfl (rcv_o (by decide) rfl) trivial (hS.1 _ _ _ _ _ (fun r σ1 h => ?_) h)
    obtain ⟨x2, rfl, h⟩ := h
    show v 120 [some (aR 49), some (aI l1)] [aI x2, aI (σ.1 49 8), aR 49] σ1
    refine r_if_eq (pc := 120) hv 69 rfl (fun c => ?_) (fun c => ?_)
    · replace h := h.1 c
      refine r_iconst (pc := 141) hv 80 rfl  ?_
      refine r_ior (pc := 142) hv 81 rfl  ?_
      refine r_putI (pc := 143) hv 82 rfl rfl rfl ?_
      obtain ⟨σ3, e_σ3⟩ : ∃ y : St, y = upI σ1 49 8 ((σ.1 49 8) ||| 0) := ⟨_, rfl⟩
      rw [← e_σ3]
      replace h := h σ3 e_σ3
      refine r_iinc (pc := 146) (lo' := [some (aR 49), some (aI (l1 + 1))]) hv 83 rfl rfl rfl ?_
      refine r_goto (pc := 149) hv 84 rfl  ?_
      exact h
    · replace h := h.2 c
      refine r_aload_n (pc := 123) hv 70 rfl rfl ?_
      refine r_iload_n (pc := 124) hv 71 rfl rfl ?_
      refine r_aload_n (pc := 125) hv 72 rfl rfl ?_
      refine r_getI (pc := 126) hv 73 rfl rfl rfl ?_
      refine r_callV (pc := 129) (l := [aI (σ1.1 49 7), aI l1]) (av := [aI l1, aI (σ1.1 49 7)]) (a := 49) (t := [aI (σ.1 49 8), aR 49]) hv 74 rfl rfl rfl rfl (rcv_o (by decide) rfl) trivial (hS.1 _ _ _ _ _ (fun r σ4 h => ?_) h)
      obtain ⟨x5, rfl, h⟩ := h
      show v 132 [some (aR 49), some (aI l1)] [aI x5, aI (σ.1 49 8), aR 49] σ4
      refine r_if_ne (pc := 132) hv 75 rfl (fun c => ?_) (fun c => ?_)
      · replace h := h.1 c
        refine r_iconst (pc := 141) hv 80 rfl  ?_
        refine r_ior (pc := 142) hv 81 rfl  ?_
        refine r_putI (pc := 143) hv 82 rfl rfl rfl ?_
        obtain ⟨σ6, e_σ6⟩ : ∃ y : St, y = upI σ4 49 8 ((σ.1 49 8) ||| 0) := ⟨_, rfl⟩
        rw [← e_σ6]
        replace h := h σ6 e_σ6
        refine r_iinc (pc := 146) (lo' := [some (aR 49), some (aI (l1 + 1))]) hv 83 rfl rfl rfl ?_
        refine r_goto (pc := 149) hv 84 rfl  ?_
        exact h
      · replace h := h.2 c
        refine r_iconst (pc := 135) hv 76 rfl  ?_
        refine r_iload_n (pc := 136) hv 77 rfl rfl ?_
        refine r_ishl (pc := 137) hv 78 rfl  ?_
        refine r_goto (pc := 138) hv 79 rfl  ?_
        refine r_ior (pc := 142) hv 81 rfl  ?_
        refine r_putI (pc := 143) hv 82 rfl rfl rfl ?_
        obtain ⟨σ7, e_σ7⟩ : ∃ y : St, y = upI σ4 49 8 ((σ.1 49 8) ||| (1 <<< (l1 &&& 31))) := ⟨_, rfl⟩
        rw [← e_σ7]
        replace h := h σ7 e_σ7
        refine r_iinc (pc := 146) (lo' := [some (aR 49), some (aI (l1 + 1))]) hv 83 rfl rfl rfl ?_
        refine r_goto (pc := 149) hv 84 rfl  ?_
        exact h
def vc_X9_fires_11 (S : Sp) (Φ : Rs) (v : Kt) (l1 : Int32) (σ : St) : Prop := vp_in 280 286 ∧ (((σ.1 50 (280 : Int32).toNatClampNeg : Int32) ≤ l1 → (∀ σ1 : St, σ1 = upI σ 49 8 0 → (v 94 [some (aR 49), some (aI 0)] [] σ1))) ∧ (¬ ((σ.1 50 (280 : Int32).toNatClampNeg : Int32) ≤ l1) → (vp_in l1 20 ∧ (((1000000 : Int32) ≤ (σ.1 53 (l1 : Int32).toNatClampNeg) → (v 11 [some (aR 49), some (aI (l1 + 1))] [] σ)) ∧ (¬ ((1000000 : Int32) ≤ (σ.1 53 (l1 : Int32).toNatClampNeg)) → (S 152 [aR 49, aI l1] σ (fun r σ2 => ∃ x3 : Int32, r = [aI x3] ∧ ((¬ (x3 : Int32) = 0 → (v 11 [some (aR 49), some (aI (l1 + 1))] [] σ2)) ∧ ((x3 : Int32) = 0 → (S 154 [aR 49, aI l1] σ2 (fun r σ4 => ∃ x5 : Int32, r = [aI x5] ∧ (((x5 : Int32) ≤ 0 → (v 11 [some (aR 49), some (aI (l1 + 1))] [] σ4)) ∧ (¬ ((x5 : Int32) ≤ 0) → (∀ σ6 : St, σ6 = upI σ4 49 7 ((σ4.1 49 7) ||| (1 <<< (l1 &&& 31))) → (vp_in l1 20 ∧ (S 150 [aR 49, aI l1, aI 5] σ6 (fun r σ7 => ∃ x8 : Int32, r = [aI x8] ∧ (vp_in l1 20 ∧ (∀ σ9 : St, σ9 = upI σ7 54 (l1 : Int32).toNatClampNeg ((σ6.1 53 (l1 : Int32).toNatClampNeg) + x8) → (v 11 [some (aR 49), some (aI (l1 + 1))] [] σ9))))))))))))))))))))
theorem w_X9_fires_11 {S : Sp} (hS : Sys S) {Φ : Rs} {v : Kt} (hv : Cl S Φ k_X9_fires v) (hw : Wk v) (l1 : Int32) (σ : St) (h : vc_X9_fires_11 S Φ v l1 σ) : v 11 [some (aR 49), some (aI l1)] [] σ := by
  unfold vc_X9_fires_11 at h
  refine r_iload_n (pc := 11) hv 7 rfl rfl ?_
  refine r_aload_n (pc := 12) hv 8 rfl rfl ?_
  refine r_getR (pc := 13) (b := 50) hv 9 rfl rfl rfl rfl ?_
  refine r_sipush (pc := 16) hv 10 rfl  ?_
  refine r_iaload (pc := 19) (N := 286) hv 11 rfl rfl rfl (by decide) h.1 ?_
  replace h := h.2
  refine r_icmp_ge (pc := 20) hv 12 rfl (fun c => ?_) (fun c => ?_)
  · replace h := h.1 c
    refine r_aload_n (pc := 87) hv 50 rfl rfl ?_
    refine r_iconst (pc := 88) hv 51 rfl  ?_
    refine r_putI (pc := 89) hv 52 rfl rfl rfl ?_
    obtain ⟨σ1, e_σ1⟩ : ∃ y : St, y = upI σ 49 8 0 := ⟨_, rfl⟩
    rw [← e_σ1]
    replace h := h σ1 e_σ1
    refine r_iconst (pc := 92) hv 53 rfl  ?_
    refine r_istore_n (pc := 93) (lo' := [some (aR 49), some (aI 0)]) hv 54 rfl rfl ?_
    exact h
  · replace h := h.2 c
    refine r_aload_n (pc := 23) hv 13 rfl rfl ?_
    refine r_getR (pc := 24) (b := 53) hv 14 rfl rfl rfl rfl ?_
    refine r_iload_n (pc := 27) hv 15 rfl rfl ?_
    refine r_iaload (pc := 28) (N := 20) hv 16 rfl rfl rfl (by decide) h.1 ?_
    replace h := h.2
    refine r_ldc (pc := 29) hv 17 rfl rfl ?_
    refine r_icmp_ge (pc := 31) hv 18 rfl (fun c => ?_) (fun c => ?_)
    · replace h := h.1 c
      refine r_iinc (pc := 81) (lo' := [some (aR 49), some (aI (l1 + 1))]) hv 48 rfl rfl rfl ?_
      refine r_goto (pc := 84) hv 49 rfl  ?_
      exact h
    · replace h := h.2 c
      refine r_aload_n (pc := 34) hv 19 rfl rfl ?_
      refine r_iload_n (pc := 35) hv 20 rfl rfl ?_
      refine r_callV (pc := 36) (l := [aI l1]) (av := [aI l1]) (a := 49) (t := []) hv 21 rfl rfl rfl rfl (rcv_o (by decide) rfl) trivial (hS.1 _ _ _ _ _ (fun r σ2 h => ?_) h)
      obtain ⟨x3, rfl, h⟩ := h
      show v 39 [some (aR 49), some (aI l1)] [aI x3] σ2
      refine r_if_ne (pc := 39) hv 22 rfl (fun c => ?_) (fun c => ?_)
      · replace h := h.1 c
        refine r_iinc (pc := 81) (lo' := [some (aR 49), some (aI (l1 + 1))]) hv 48 rfl rfl rfl ?_
        refine r_goto (pc := 84) hv 49 rfl  ?_
        exact h
      · replace h := h.2 c
        refine r_aload_n (pc := 42) hv 23 rfl rfl ?_
        refine r_iload_n (pc := 43) hv 24 rfl rfl ?_
        refine r_callV (pc := 44) (l := [aI l1]) (av := [aI l1]) (a := 49) (t := []) hv 25 rfl rfl rfl rfl (rcv_o (by decide) rfl) trivial (hS.1 _ _ _ _ _ (fun r σ4 h => ?_) h)
        obtain ⟨x5, rfl, h⟩ := h
        show v 47 [some (aR 49), some (aI l1)] [aI x5] σ4
        refine r_if_le (pc := 47) hv 26 rfl (fun c => ?_) (fun c => ?_)
        · replace h := h.1 c
          refine r_iinc (pc := 81) (lo' := [some (aR 49), some (aI (l1 + 1))]) hv 48 rfl rfl rfl ?_
          refine r_goto (pc := 84) hv 49 rfl  ?_
          exact h
        · replace h := h.2 c
          refine r_aload_n (pc := 50) hv 27 rfl rfl ?_
          refine r_dup (pc := 51) hv 28 rfl trivial ?_
          refine r_getI (pc := 52) hv 29 rfl rfl rfl ?_
          refine r_iconst (pc := 55) hv 30 rfl  ?_
          refine r_iload_n (pc := 56) hv 31 rfl rfl ?_
          refine r_ishl (pc := 57) hv 32 rfl  ?_
          refine r_ior (pc := 58) hv 33 rfl  ?_
          refine r_putI (pc := 59) hv 34 rfl rfl rfl ?_
          obtain ⟨σ6, e_σ6⟩ : ∃ y : St, y = upI σ4 49 7 ((σ4.1 49 7) ||| (1 <<< (l1 &&& 31))) := ⟨_, rfl⟩
          rw [← e_σ6]
          replace h := h σ6 e_σ6
          refine r_aload_n (pc := 62) hv 35 rfl rfl ?_
          refine r_getR (pc := 63) (b := 54) hv 36 rfl rfl rfl rfl ?_
          refine r_iload_n (pc := 66) hv 37 rfl rfl ?_
          refine r_aload_n (pc := 67) hv 38 rfl rfl ?_
          refine r_getR (pc := 68) (b := 53) hv 39 rfl rfl rfl rfl ?_
          refine r_iload_n (pc := 71) hv 40 rfl rfl ?_
          refine r_iaload (pc := 72) (N := 20) hv 41 rfl rfl rfl (by decide) h.1 ?_
          replace h := h.2
          refine r_aload_n (pc := 73) hv 42 rfl rfl ?_
          refine r_iload_n (pc := 74) hv 43 rfl rfl ?_
          refine r_iconst (pc := 75) hv 44 rfl  ?_
          refine r_callV (pc := 76) (l := [aI 5, aI l1]) (av := [aI l1, aI 5]) (a := 49) (t := [aI (σ6.1 53 (l1 : Int32).toNatClampNeg), aI l1, aR 54]) hv 45 rfl rfl rfl rfl (rcv_o (by decide) rfl) trivial (hS.1 _ _ _ _ _ (fun r σ7 h => ?_) h)
          obtain ⟨x8, rfl, h⟩ := h
          show v 79 [some (aR 49), some (aI l1)] [aI x8, aI (σ6.1 53 (l1 : Int32).toNatClampNeg), aI l1, aR 54] σ7
          refine r_iadd (pc := 79) hv 46 rfl  ?_
          refine r_iastore (pc := 80) (N := 20) hv 47 rfl rfl rfl h.1 ?_
          replace h := h.2
          obtain ⟨σ9, e_σ9⟩ : ∃ y : St, y = upI σ7 54 (l1 : Int32).toNatClampNeg ((σ6.1 53 (l1 : Int32).toNatClampNeg) + x8) := ⟨_, rfl⟩
          rw [← e_σ9]
          replace h := h σ9 e_σ9
          refine r_iinc (pc := 81) (lo' := [some (aR 49), some (aI (l1 + 1))]) hv 48 rfl rfl rfl ?_
          refine r_goto (pc := 84) hv 49 rfl  ?_
          exact h
def vc_X9_fires_0 (S : Sp) (Φ : Rs) (v : Kt) (σ : St) : Prop := S 172 [aR 49] σ (fun r σ1 => r = [] ∧ (∀ σ2 : St, σ2 = upI σ1 49 7 0 → (v 11 [some (aR 49), some (aI 0)] [] σ2)))
theorem w_X9_fires_0 {S : Sp} (hS : Sys S) {Φ : Rs} {v : Kt} (hv : Cl S Φ k_X9_fires v) (hw : Wk v) (σ : St) (h : vc_X9_fires_0 S Φ v  σ) : v 0 [some (aR 49), none] [] σ := by
  unfold vc_X9_fires_0 at h
  refine r_aload_n (pc := 0) hv 0 rfl rfl ?_
  refine r_callV (pc := 1) (l := []) (av := []) (a := 49) (t := []) hv 1 rfl rfl rfl rfl (rcv_o (by decide) rfl) trivial (hS.1 _ _ _ _ _ (fun r σ1 h => ?_) h)
  obtain ⟨rfl, h⟩ := h
  show v 4 [some (aR 49), none] [] σ1
  refine r_aload_n (pc := 4) hv 2 rfl rfl ?_
  refine r_iconst (pc := 5) hv 3 rfl  ?_
  refine r_putI (pc := 6) hv 4 rfl rfl rfl ?_
  obtain ⟨σ2, e_σ2⟩ : ∃ y : St, y = upI σ1 49 7 0 := ⟨_, rfl⟩
  rw [← e_σ2]
  replace h := h σ2 e_σ2
  refine r_iconst (pc := 9) hv 5 rfl  ?_
  refine r_istore_n (pc := 10) (lo' := [some (aR 49), some (aI 0)]) hv 6 rfl rfl ?_
  exact h
def vc_X9_isTorn_88 (S : Sp) (Φ : Rs) (v : Kt) (l1 : Int32) (l2 : Int32) (l3 : Int32) (l4 : Int32) (s0 : Int32) (σ : St) : Prop := ((s0 : Int32) = 0 → (v 16 [some (aR 49), some (aI l1), some (aI l2), some (aI l3), some (aI (l4 + 1)), none] [] σ)) ∧ (¬ ((s0 : Int32) = 0) → (S 173 [aR 49, aI (σ.1 49 7), aI l4] σ (fun r σ1 => ∃ x2 : Int32, r = [aI x2] ∧ (((x2 : Int32) = 0 → (v 16 [some (aR 49), some (aI l1), some (aI l2), some (aI l3), some (aI (l4 + 1)), none] [] σ1)) ∧ (¬ ((x2 : Int32) = 0) → (vp_in l4 20 ∧ (((l2 : Int32) ≤ (σ1.1 54 (l4 : Int32).toNatClampNeg) → (v 16 [some (aR 49), some (aI l1), some (aI l2), some (aI l3), some (aI (l4 + 1)), none] [] σ1)) ∧ (¬ ((l2 : Int32) ≤ (σ1.1 54 (l4 : Int32).toNatClampNeg)) → (Φ [aI 1] σ1)))))))))
theorem w_X9_isTorn_88 {S : Sp} (hS : Sys S) {Φ : Rs} {v : Kt} (hv : Cl S Φ k_X9_isTorn v) (hw : Wk v) (l1 : Int32) (l2 : Int32) (l3 : Int32) (l4 : Int32) (s0 : Int32) (σ : St) (h : vc_X9_isTorn_88 S Φ v l1 l2 l3 l4 s0 σ) : v 88 [some (aR 49), some (aI l1), some (aI l2), some (aI l3), some (aI l4), none] [aI s0] σ := by
  unfold vc_X9_isTorn_88 at h
  refine r_istore (pc := 88) (lo' := [some (aR 49), some (aI l1), some (aI l2), some (aI l3), some (aI l4), some (aI s0)]) hv 50 rfl rfl ?_
  refine r_iload (pc := 90) hv 51 rfl rfl ?_
  refine r_if_eq (pc := 92) hv 52 rfl (fun c => ?_) (fun c => ?_)
  · replace h := h.1 c
    refine r_iinc (pc := 121) (lo' := [some (aR 49), some (aI l1), some (aI l2), some (aI l3), some (aI (l4 + 1)), some (aI s0)]) hv 67 rfl rfl rfl ?_
    refine r_goto (pc := 124) hv 68 rfl  ?_
    exact hw 16 [some (aR 49), some (aI l1), some (aI l2), some (aI l3), some (aI (l4 + 1)), none] _ _ _ ⟨rfl, ⟨rfl, ⟨rfl, ⟨rfl, ⟨rfl, trivial⟩⟩⟩⟩⟩ h
  · replace h := h.2 c
    refine r_aload_n (pc := 95) hv 53 rfl rfl ?_
    refine r_aload_n (pc := 96) hv 54 rfl rfl ?_
    refine r_getI (pc := 97) hv 55 rfl rfl rfl ?_
    refine r_iload (pc := 100) hv 56 rfl rfl ?_
    refine r_callV (pc := 102) (l := [aI l4, aI (σ.1 49 7)]) (av := [aI (σ.1 49 7), aI l4]) (a := 49) (t := []) hv 57 rfl rfl rfl rfl (rcv_o (by decide) rfl) trivial (hS.1 _ _ _ _ _ (fun r σ1 h => ?_) h)
    obtain ⟨x2, rfl, h⟩ := h
    show v 105 [some (aR 49), some (aI l1), some (aI l2), some (aI l3), some (aI l4), some (aI s0)] [aI x2] σ1
    refine r_if_eq (pc := 105) hv 58 rfl (fun c => ?_) (fun c => ?_)
    · replace h := h.1 c
      refine r_iinc (pc := 121) (lo' := [some (aR 49), some (aI l1), some (aI l2), some (aI l3), some (aI (l4 + 1)), some (aI s0)]) hv 67 rfl rfl rfl ?_
      refine r_goto (pc := 124) hv 68 rfl  ?_
      exact hw 16 [some (aR 49), some (aI l1), some (aI l2), some (aI l3), some (aI (l4 + 1)), none] _ _ _ ⟨rfl, ⟨rfl, ⟨rfl, ⟨rfl, ⟨rfl, trivial⟩⟩⟩⟩⟩ h
    · replace h := h.2 c
      refine r_aload_n (pc := 108) hv 59 rfl rfl ?_
      refine r_getR (pc := 109) (b := 54) hv 60 rfl rfl rfl rfl ?_
      refine r_iload (pc := 112) hv 61 rfl rfl ?_
      refine r_iaload (pc := 114) (N := 20) hv 62 rfl rfl rfl (by decide) h.1 ?_
      replace h := h.2
      refine r_iload_n (pc := 115) hv 63 rfl rfl ?_
      refine r_icmp_ge (pc := 116) hv 64 rfl (fun c => ?_) (fun c => ?_)
      · replace h := h.1 c
        refine r_iinc (pc := 121) (lo' := [some (aR 49), some (aI l1), some (aI l2), some (aI l3), some (aI (l4 + 1)), some (aI s0)]) hv 67 rfl rfl rfl ?_
        refine r_goto (pc := 124) hv 68 rfl  ?_
        exact hw 16 [some (aR 49), some (aI l1), some (aI l2), some (aI l3), some (aI (l4 + 1)), none] _ _ _ ⟨rfl, ⟨rfl, ⟨rfl, ⟨rfl, ⟨rfl, trivial⟩⟩⟩⟩⟩ h
      · replace h := h.2 c
        refine r_iconst (pc := 119) hv 65 rfl  ?_
        exact r_zreturn (pc := 120) hv 66 rfl rfl (Or.inr rfl) h
def vc_X9_isTorn_87 (S : Sp) (Φ : Rs) (v : Kt) (l1 : Int32) (l2 : Int32) (l3 : Int32) (l4 : Int32) (σ : St) : Prop := vc_X9_isTorn_88 S Φ v  l1 l2 l3 l4 0 σ
theorem w_X9_isTorn_87 {S : Sp} (hS : Sys S) {Φ : Rs} {v : Kt} (hv : Cl S Φ k_X9_isTorn v) (hw : Wk v) (l1 : Int32) (l2 : Int32) (l3 : Int32) (l4 : Int32) (σ : St) (h : vc_X9_isTorn_87 S Φ v l1 l2 l3 l4 σ) : v 87 [some (aR 49), some (aI l1), some (aI l2), some (aI l3), some (aI l4), none] [] σ := by
  unfold vc_X9_isTorn_87 at h
  refine r_iconst (pc := 87) hv 49 rfl  ?_
  exact (w_X9_isTorn_88 hS hv hw   l1 l2 l3 l4 0  σ h)
def vc_X9_isTorn_16 (S : Sp) (Φ : Rs) (v : Kt) (l1 : Int32) (l2 : Int32) (l3 : Int32) (l4 : Int32) (σ : St) : Prop := vp_in 280 286 ∧ (((σ.1 50 (280 : Int32).toNatClampNeg : Int32) ≤ l4 → (Φ [aI 0] σ)) ∧ (¬ ((σ.1 50 (280 : Int32).toNatClampNeg : Int32) ≤ l4) → (((1000000 : Int32) ≤ l2 → (Φ [aI 0] σ)) ∧ (¬ ((1000000 : Int32) ≤ l2) → (((l4 : Int32) = l3 → (vc_X9_isTorn_87 S Φ v  l1 l2 l3 l4 σ)) ∧ (¬ ((l4 : Int32) = l3) → (S 150 [aR 49, aI l4, aI 0] σ (fun r σ1 => ∃ x2 : Int32, r = [aI x2] ∧ (S 150 [aR 49, aI l3, aI 0] σ1 (fun r σ3 => ∃ x4 : Int32, r = [aI x4] ∧ (S 145 [aI (x2 - x4)] σ3 (fun r σ5 => ∃ x6 : Int32, r = [aI x6] ∧ (((2 : Int32) ≤ x6 → (vc_X9_isTorn_87 S Φ v  l1 l2 l3 l4 σ5)) ∧ (¬ ((2 : Int32) ≤ x6) → (S 150 [aR 49, aI l4, aI 1] σ5 (fun r σ7 => ∃ x8 : Int32, r = [aI x8] ∧ (S 150 [aR 49, aI l3, aI 1] σ7 (fun r σ9 => ∃ x10 : Int32, r = [aI x10] ∧ (S 145 [aI (x8 - x10)] σ9 (fun r σ11 => ∃ x12 : Int32, r = [aI x12] ∧ (((2 : Int32) ≤ x12 → (vc_X9_isTorn_87 S Φ v  l1 l2 l3 l4 σ11)) ∧ (¬ ((2 : Int32) ≤ x12) → (vc_X9_isTorn_88 S Φ v  l1 l2 l3 l4 1 σ11)))))))))))))))))))))))
theorem w_X9_isTorn_16 {S : Sp} (hS : Sys S) {Φ : Rs} {v : Kt} (hv : Cl S Φ k_X9_isTorn v) (hw : Wk v) (l1 : Int32) (l2 : Int32) (l3 : Int32) (l4 : Int32) (σ : St) (h : vc_X9_isTorn_16 S Φ v l1 l2 l3 l4 σ) : v 16 [some (aR 49), some (aI l1), some (aI l2), some (aI l3), some (aI l4), none] [] σ := by
  unfold vc_X9_isTorn_16 at h
  refine r_iload (pc := 16) hv 11 rfl rfl ?_
  refine r_aload_n (pc := 18) hv 12 rfl rfl ?_
  refine r_getR (pc := 19) (b := 50) hv 13 rfl rfl rfl rfl ?_
  refine r_sipush (pc := 22) hv 14 rfl  ?_
  refine r_iaload (pc := 25) (N := 286) hv 15 rfl rfl rfl (by decide) h.1 ?_
  replace h := h.2
  refine r_icmp_ge (pc := 26) hv 16 rfl (fun c => ?_) (fun c => ?_)
  · replace h := h.1 c
    refine r_iconst (pc := 127) hv 69 rfl  ?_
    exact r_zreturn (pc := 128) hv 70 rfl rfl (Or.inl rfl) h
  · replace h := h.2 c
    refine r_iload_n (pc := 29) hv 17 rfl rfl ?_
    refine r_ldc (pc := 30) hv 18 rfl rfl ?_
    refine r_icmp_ge (pc := 32) hv 19 rfl (fun c => ?_) (fun c => ?_)
    · replace h := h.1 c
      refine r_iconst (pc := 127) hv 69 rfl  ?_
      exact r_zreturn (pc := 128) hv 70 rfl rfl (Or.inl rfl) h
    · replace h := h.2 c
      refine r_iload (pc := 35) hv 20 rfl rfl ?_
      refine r_iload_n (pc := 37) hv 21 rfl rfl ?_
      refine r_icmp_eq (pc := 38) hv 22 rfl (fun c => ?_) (fun c => ?_)
      · replace h := h.1 c
        exact (w_X9_isTorn_87 hS hv hw   l1 l2 l3 l4  σ h)
      · replace h := h.2 c
        refine r_aload_n (pc := 41) hv 23 rfl rfl ?_
        refine r_iload (pc := 42) hv 24 rfl rfl ?_
        refine r_iconst (pc := 44) hv 25 rfl  ?_
        refine r_callV (pc := 45) (l := [aI 0, aI l4]) (av := [aI l4, aI 0]) (a := 49) (t := []) hv 26 rfl rfl rfl rfl (rcv_o (by decide) rfl) trivial (hS.1 _ _ _ _ _ (fun r σ1 h => ?_) h)
        obtain ⟨x2, rfl, h⟩ := h
        show v 48 [some (aR 49), some (aI l1), some (aI l2), some (aI l3), some (aI l4), none] [aI x2] σ1
        refine r_aload_n (pc := 48) hv 27 rfl rfl ?_
        refine r_iload_n (pc := 49) hv 28 rfl rfl ?_
        refine r_iconst (pc := 50) hv 29 rfl  ?_
        refine r_callV (pc := 51) (l := [aI 0, aI l3]) (av := [aI l3, aI 0]) (a := 49) (t := [aI x2]) hv 30 rfl rfl rfl rfl (rcv_o (by decide) rfl) trivial (hS.1 _ _ _ _ _ (fun r σ3 h => ?_) h)
        obtain ⟨x4, rfl, h⟩ := h
        show v 54 [some (aR 49), some (aI l1), some (aI l2), some (aI l3), some (aI l4), none] [aI x4, aI x2] σ3
        refine r_isub (pc := 54) hv 31 rfl  ?_
        refine r_callS (pc := 55) (l := [aI (x2 - x4)]) (av := [aI (x2 - x4)]) (t := []) hv 32 rfl (Or.inl rfl) rfl rfl rfl trivial (hS.1 _ _ _ _ _ (fun r σ5 h => ?_) h)
        obtain ⟨x6, rfl, h⟩ := h
        show v 58 [some (aR 49), some (aI l1), some (aI l2), some (aI l3), some (aI l4), none] [aI x6] σ5
        refine r_iconst (pc := 58) hv 33 rfl  ?_
        refine r_icmp_ge (pc := 59) hv 34 rfl (fun c => ?_) (fun c => ?_)
        · replace h := h.1 c
          exact (w_X9_isTorn_87 hS hv hw   l1 l2 l3 l4  σ5 h)
        · replace h := h.2 c
          refine r_aload_n (pc := 62) hv 35 rfl rfl ?_
          refine r_iload (pc := 63) hv 36 rfl rfl ?_
          refine r_iconst (pc := 65) hv 37 rfl  ?_
          refine r_callV (pc := 66) (l := [aI 1, aI l4]) (av := [aI l4, aI 1]) (a := 49) (t := []) hv 38 rfl rfl rfl rfl (rcv_o (by decide) rfl) trivial (hS.1 _ _ _ _ _ (fun r σ7 h => ?_) h)
          obtain ⟨x8, rfl, h⟩ := h
          show v 69 [some (aR 49), some (aI l1), some (aI l2), some (aI l3), some (aI l4), none] [aI x8] σ7
          refine r_aload_n (pc := 69) hv 39 rfl rfl ?_
          refine r_iload_n (pc := 70) hv 40 rfl rfl ?_
          refine r_iconst (pc := 71) hv 41 rfl  ?_
          refine r_callV (pc := 72) (l := [aI 1, aI l3]) (av := [aI l3, aI 1]) (a := 49) (t := [aI x8]) hv 42 rfl rfl rfl rfl (rcv_o (by decide) rfl) trivial (hS.1 _ _ _ _ _ (fun r σ9 h => ?_) h)
          obtain ⟨x10, rfl, h⟩ := h
          show v 75 [some (aR 49), some (aI l1), some (aI l2), some (aI l3), some (aI l4), none] [aI x10, aI x8] σ9
          refine r_isub (pc := 75) hv 43 rfl  ?_
          refine r_callS (pc := 76) (l := [aI (x8 - x10)]) (av := [aI (x8 - x10)]) (t := []) hv 44 rfl (Or.inl rfl) rfl rfl rfl trivial (hS.1 _ _ _ _ _ (fun r σ11 h => ?_) h)
          obtain ⟨x12, rfl, h⟩ := h
          show v 79 [some (aR 49), some (aI l1), some (aI l2), some (aI l3), some (aI l4), none] [aI x12] σ11
          refine r_iconst (pc := 79) hv 45 rfl  ?_
          refine r_icmp_ge (pc := 80) hv 46 rfl (fun c => ?_) (fun c => ?_)
          · replace h := h.1 c
            exact (w_X9_isTorn_87 hS hv hw   l1 l2 l3 l4  σ11 h)
          · replace h := h.2 c
            refine r_iconst (pc := 83) hv 47 rfl  ?_
            refine r_goto (pc := 84) hv 48 rfl  ?_
            exact (w_X9_isTorn_88 hS hv hw   l1 l2 l3 l4 1  σ11 h)
def vc_X9_isTorn_0 (S : Sp) (Φ : Rs) (v : Kt) (l1 : Int32) (σ : St) : Prop := S 171 [aR 49, aI l1] σ (fun r σ1 => ∃ x2 : Int32, r = [aI x2] ∧ (S 151 [aR 49, aI l1, aI 1] σ1 (fun r σ3 => ∃ x4 : Int32, r = [aI x4] ∧ (v 16 [some (aR 49), some (aI l1), some (aI x2), some (aI x4), some (aI 0), none] [] σ3))))
theorem w_X9_isTorn_0 {S : Sp} (hS : Sys S) {Φ : Rs} {v : Kt} (hv : Cl S Φ k_X9_isTorn v) (hw : Wk v) (l1 : Int32) (σ : St) (h : vc_X9_isTorn_0 S Φ v l1 σ) : v 0 [some (aR 49), some (aI l1), none, none, none, none] [] σ := by
  unfold vc_X9_isTorn_0 at h
  refine r_aload_n (pc := 0) hv 0 rfl rfl ?_
  refine r_iload_n (pc := 1) hv 1 rfl rfl ?_
  refine r_callV (pc := 2) (l := [aI l1]) (av := [aI l1]) (a := 49) (t := []) hv 2 rfl rfl rfl rfl (rcv_o (by decide) rfl) trivial (hS.1 _ _ _ _ _ (fun r σ1 h => ?_) h)
  obtain ⟨x2, rfl, h⟩ := h
  show v 5 [some (aR 49), some (aI l1), none, none, none, none] [aI x2] σ1
  refine r_istore_n (pc := 5) (lo' := [some (aR 49), some (aI l1), some (aI x2), none, none, none]) hv 3 rfl rfl ?_
  refine r_aload_n (pc := 6) hv 4 rfl rfl ?_
  refine r_iload_n (pc := 7) hv 5 rfl rfl ?_
  refine r_iconst (pc := 8) hv 6 rfl  ?_
  refine r_callV (pc := 9) (l := [aI 1, aI l1]) (av := [aI l1, aI 1]) (a := 49) (t := []) hv 7 rfl rfl rfl rfl (rcv_o (by decide) rfl) trivial (hS.1 _ _ _ _ _ (fun r σ3 h => ?_) h)
  obtain ⟨x4, rfl, h⟩ := h
  show v 12 [some (aR 49), some (aI l1), some (aI x2), none, none, none] [aI x4] σ3
  refine r_istore_n (pc := 12) (lo' := [some (aR 49), some (aI l1), some (aI x2), some (aI x4), none, none]) hv 8 rfl rfl ?_
  refine r_iconst (pc := 13) hv 9 rfl  ?_
  refine r_istore (pc := 14) (lo' := [some (aR 49), some (aI l1), some (aI x2), some (aI x4), some (aI 0), none]) hv 10 rfl rfl ?_
  exact h
def vc_X9_wired_0 (S : Sp) (Φ : Rs) (v : Kt) (l1 : Int32) (l2 : Int32) (σ : St) : Prop := S 149 [aR 49, aI l1] σ (fun r σ1 => ∃ x2 : Int32, r = [aI x2] ∧ (((x2 : Int32) = 0 → (Φ [aI (-1)] σ1)) ∧ (¬ ((x2 : Int32) = 0) → (S 143 [aL ((l2 : Int32).toInt64), aL 0, aL 4] σ1 (fun r σ3 => ∃ x4 : Int32, r = [aI x4] ∧ ((¬ (x4 : Int32) = 0 → (S 175 [aR 49] σ3 (fun r σ5 => r = [] ∧ (((l2 : Int32) = 0 → (S 151 [aR 49, aI l1, aI 0] σ5 (fun r σ6 => ∃ x7 : Int32, r = [aI x7] ∧ (((0 : Int32) ≤ x7 → (S 151 [aR 49, aI l1, aI 0] σ6 (fun r σ8 => ∃ x9 : Int32, r = [aI x9] ∧ (Φ [aI x9] σ8)))) ∧ (¬ ((0 : Int32) ≤ x7) → (Φ [aI 99] σ6)))))) ∧ (¬ ((l2 : Int32) = 0) → (((l2 : Int32) = 1 → (S 151 [aR 49, aI l1, aI l2] σ5 (fun r σ10 => ∃ x11 : Int32, r = [aI x11] ∧ (Φ [aI x11] σ10)))) ∧ (¬ ((l2 : Int32) = 1) → (((l2 : Int32) = 2 → (S 151 [aR 49, aI l1, aI l2] σ5 (fun r σ12 => ∃ x13 : Int32, r = [aI x13] ∧ (Φ [aI x13] σ12)))) ∧ (¬ ((l2 : Int32) = 2) → (((l2 : Int32) = 3 → (S 171 [aR 49, aI l1] σ5 (fun r σ14 => ∃ x15 : Int32, r = [aI x15] ∧ ((¬ (x15 : Int32) = 1000000 → (S 171 [aR 49, aI l1] σ14 (fun r σ16 => ∃ x17 : Int32, r = [aI x17] ∧ (Φ [aI x17] σ16)))) ∧ ((x15 : Int32) = 1000000 → (Φ [aI (-1)] σ14)))))) ∧ (¬ ((l2 : Int32) = 3) → (((l2 : Int32) = 4 → (S 176 [aR 49, aI l1] σ5 (fun r σ18 => ∃ x19 : Int32, r = [aI x19] ∧ (((x19 : Int32) = 0 → (Φ [aI 0] σ18)) ∧ (¬ ((x19 : Int32) = 0) → (Φ [aI 1] σ18)))))) ∧ (¬ ((l2 : Int32) = 4) → (S 151 [aR 49, aI l1, aI l2] σ5 (fun r σ20 => ∃ x21 : Int32, r = [aI x21] ∧ (Φ [aI x21] σ20)))))))))))))))) ∧ ((x4 : Int32) = 0 → (Φ [aI (-1)] σ3))))))))
theorem w_X9_wired_0 {S : Sp} (hS : Sys S) {Φ : Rs} {v : Kt} (hv : Cl S Φ k_X9_wired v) (hw : Wk v) (l1 : Int32) (l2 : Int32) (σ : St) (h : vc_X9_wired_0 S Φ v l1 l2 σ) : v 0 [some (aR 49), some (aI l1), some (aI l2)] [] σ := by
  unfold vc_X9_wired_0 at h
  refine r_aload_n (pc := 0) hv 0 rfl rfl ?_
  refine r_iload_n (pc := 1) hv 1 rfl rfl ?_
  refine r_callV (pc := 2) (l := [aI l1]) (av := [aI l1]) (a := 49) (t := []) hv 2 rfl rfl rfl rfl (rcv_o (by decide) rfl) trivial (hS.1 _ _ _ _ _ (fun r σ1 h => ?_) h)
  obtain ⟨x2, rfl, h⟩ := h
  show v 5 [some (aR 49), some (aI l1), some (aI l2)] [aI x2] σ1
  refine r_if_eq (pc := 5) hv 3 rfl (fun c => ?_) (fun c => ?_)
  · replace h := h.1 c
    refine r_iconst (pc := 20) hv 10 rfl  ?_
    exact r_ireturn (pc := 21) hv 11 rfl rfl h
  · replace h := h.2 c
    refine r_iload_n (pc := 8) hv 4 rfl rfl ?_
    refine r_i2l (pc := 9) hv 5 rfl  ?_
    refine r_lconst (pc := 10) hv 6 rfl  ?_
    refine r_ldc2_w (pc := 11) hv 7 rfl  ?_
    refine r_callS (pc := 14) (l := [aL 4, aL 0, aL ((l2 : Int32).toInt64)]) (av := [aL ((l2 : Int32).toInt64), aL 0, aL 4]) (t := []) hv 8 rfl (Or.inl rfl) rfl rfl rfl trivial (hS.1 _ _ _ _ _ (fun r σ3 h => ?_) h)
    obtain ⟨x4, rfl, h⟩ := h
    show v 17 [some (aR 49), some (aI l1), some (aI l2)] [aI x4] σ3
    refine r_if_ne (pc := 17) hv 9 rfl (fun c => ?_) (fun c => ?_)
    · replace h := h.1 c
      refine r_aload_n (pc := 22) hv 12 rfl rfl ?_
      refine r_callV (pc := 23) (l := []) (av := []) (a := 49) (t := []) hv 13 rfl rfl rfl rfl (rcv_o (by decide) rfl) trivial (hS.1 _ _ _ _ _ (fun r σ5 h => ?_) h)
      obtain ⟨rfl, h⟩ := h
      show v 26 [some (aR 49), some (aI l1), some (aI l2)] [] σ5
      refine r_iload_n (pc := 26) hv 14 rfl rfl ?_
      refine r_tab (pc := 27) hv 15 rfl ?_
      refine ⟨fun c => ?_, fun c => ?_⟩
      · replace h := h.1 c
        show v 60 [some (aR 49), some (aI l1), some (aI l2)] [] σ5
        refine r_aload_n (pc := 60) hv 16 rfl rfl ?_
        refine r_iload_n (pc := 61) hv 17 rfl rfl ?_
        refine r_iconst (pc := 62) hv 18 rfl  ?_
        refine r_callV (pc := 63) (l := [aI 0, aI l1]) (av := [aI l1, aI 0]) (a := 49) (t := []) hv 19 rfl rfl rfl rfl (rcv_o (by decide) rfl) trivial (hS.1 _ _ _ _ _ (fun r σ6 h => ?_) h)
        obtain ⟨x7, rfl, h⟩ := h
        show v 66 [some (aR 49), some (aI l1), some (aI l2)] [aI x7] σ6
        refine r_if_ge (pc := 66) hv 20 rfl (fun c => ?_) (fun c => ?_)
        · replace h := h.1 c
          refine r_aload_n (pc := 74) hv 23 rfl rfl ?_
          refine r_iload_n (pc := 75) hv 24 rfl rfl ?_
          refine r_iconst (pc := 76) hv 25 rfl  ?_
          refine r_callV (pc := 77) (l := [aI 0, aI l1]) (av := [aI l1, aI 0]) (a := 49) (t := []) hv 26 rfl rfl rfl rfl (rcv_o (by decide) rfl) trivial (hS.1 _ _ _ _ _ (fun r σ8 h => ?_) h)
          obtain ⟨x9, rfl, h⟩ := h
          show v 80 [some (aR 49), some (aI l1), some (aI l2)] [aI x9] σ8
          exact r_ireturn (pc := 80) hv 27 rfl rfl h
        · replace h := h.2 c
          refine r_bipush (pc := 69) hv 21 rfl  ?_
          refine r_goto (pc := 71) hv 22 rfl  ?_
          exact r_ireturn (pc := 80) hv 27 rfl rfl h
      · replace h := h.2 c
        refine ⟨fun c => ?_, fun c => ?_⟩
        · replace h := h.1 c
          show v 115 [some (aR 49), some (aI l1), some (aI l2)] [] σ5
          refine r_aload_n (pc := 115) hv 47 rfl rfl ?_
          refine r_iload_n (pc := 116) hv 48 rfl rfl ?_
          refine r_iload_n (pc := 117) hv 49 rfl rfl ?_
          refine r_callV (pc := 118) (l := [aI l2, aI l1]) (av := [aI l1, aI l2]) (a := 49) (t := []) hv 50 rfl rfl rfl rfl (rcv_o (by decide) rfl) trivial (hS.1 _ _ _ _ _ (fun r σ10 h => ?_) h)
          obtain ⟨x11, rfl, h⟩ := h
          show v 121 [some (aR 49), some (aI l1), some (aI l2)] [aI x11] σ10
          exact r_ireturn (pc := 121) hv 51 rfl rfl h
        · replace h := h.2 c
          refine ⟨fun c => ?_, fun c => ?_⟩
          · replace h := h.1 c
            show v 115 [some (aR 49), some (aI l1), some (aI l2)] [] σ5
            refine r_aload_n (pc := 115) hv 47 rfl rfl ?_
            refine r_iload_n (pc := 116) hv 48 rfl rfl ?_
            refine r_iload_n (pc := 117) hv 49 rfl rfl ?_
            refine r_callV (pc := 118) (l := [aI l2, aI l1]) (av := [aI l1, aI l2]) (a := 49) (t := []) hv 50 rfl rfl rfl rfl (rcv_o (by decide) rfl) trivial (hS.1 _ _ _ _ _ (fun r σ12 h => ?_) h)
            obtain ⟨x13, rfl, h⟩ := h
            show v 121 [some (aR 49), some (aI l1), some (aI l2)] [aI x13] σ12
            exact r_ireturn (pc := 121) hv 51 rfl rfl h
          · replace h := h.2 c
            refine ⟨fun c => ?_, fun c => ?_⟩
            · replace h := h.1 c
              show v 81 [some (aR 49), some (aI l1), some (aI l2)] [] σ5
              refine r_aload_n (pc := 81) hv 28 rfl rfl ?_
              refine r_iload_n (pc := 82) hv 29 rfl rfl ?_
              refine r_callV (pc := 83) (l := [aI l1]) (av := [aI l1]) (a := 49) (t := []) hv 30 rfl rfl rfl rfl (rcv_o (by decide) rfl) trivial (hS.1 _ _ _ _ _ (fun r σ14 h => ?_) h)
              obtain ⟨x15, rfl, h⟩ := h
              show v 86 [some (aR 49), some (aI l1), some (aI l2)] [aI x15] σ14
              refine r_ldc (pc := 86) hv 31 rfl rfl ?_
              refine r_icmp_ne (pc := 88) hv 32 rfl (fun c => ?_) (fun c => ?_)
              · replace h := h.1 c
                refine r_aload_n (pc := 95) hv 35 rfl rfl ?_
                refine r_iload_n (pc := 96) hv 36 rfl rfl ?_
                refine r_callV (pc := 97) (l := [aI l1]) (av := [aI l1]) (a := 49) (t := []) hv 37 rfl rfl rfl rfl (rcv_o (by decide) rfl) trivial (hS.1 _ _ _ _ _ (fun r σ16 h => ?_) h)
                obtain ⟨x17, rfl, h⟩ := h
                show v 100 [some (aR 49), some (aI l1), some (aI l2)] [aI x17] σ16
                exact r_ireturn (pc := 100) hv 38 rfl rfl h
              · replace h := h.2 c
                refine r_iconst (pc := 91) hv 33 rfl  ?_
                refine r_goto (pc := 92) hv 34 rfl  ?_
                exact r_ireturn (pc := 100) hv 38 rfl rfl h
            · replace h := h.2 c
              refine ⟨fun c => ?_, fun c => ?_⟩
              · replace h := h.1 c
                show v 101 [some (aR 49), some (aI l1), some (aI l2)] [] σ5
                refine r_aload_n (pc := 101) hv 39 rfl rfl ?_
                refine r_iload_n (pc := 102) hv 40 rfl rfl ?_
                refine r_callV (pc := 103) (l := [aI l1]) (av := [aI l1]) (a := 49) (t := []) hv 41 rfl rfl rfl rfl (rcv_o (by decide) rfl) trivial (hS.1 _ _ _ _ _ (fun r σ18 h => ?_) h)
                obtain ⟨x19, rfl, h⟩ := h
                show v 106 [some (aR 49), some (aI l1), some (aI l2)] [aI x19] σ18
                refine r_if_eq (pc := 106) hv 42 rfl (fun c => ?_) (fun c => ?_)
                · replace h := h.1 c
                  refine r_iconst (pc := 113) hv 45 rfl  ?_
                  exact r_ireturn (pc := 114) hv 46 rfl rfl h
                · replace h := h.2 c
                  refine r_iconst (pc := 109) hv 43 rfl  ?_
                  refine r_goto (pc := 110) hv 44 rfl  ?_
                  exact r_ireturn (pc := 114) hv 46 rfl rfl h
              · replace h := h.2 c
                show v 115 [some (aR 49), some (aI l1), some (aI l2)] [] σ5
                refine r_aload_n (pc := 115) hv 47 rfl rfl ?_
                refine r_iload_n (pc := 116) hv 48 rfl rfl ?_
                refine r_iload_n (pc := 117) hv 49 rfl rfl ?_
                refine r_callV (pc := 118) (l := [aI l2, aI l1]) (av := [aI l1, aI l2]) (a := 49) (t := []) hv 50 rfl rfl rfl rfl (rcv_o (by decide) rfl) trivial (hS.1 _ _ _ _ _ (fun r σ20 h => ?_) h)
                obtain ⟨x21, rfl, h⟩ := h
                show v 121 [some (aR 49), some (aI l1), some (aI l2)] [aI x21] σ20
                exact r_ireturn (pc := 121) hv 51 rfl rfl h
    · replace h := h.2 c
      refine r_iconst (pc := 20) hv 10 rfl  ?_
      exact r_ireturn (pc := 21) hv 11 rfl rfl h
def vc_X9_ringOf_0 (S : Sp) (Φ : Rs) (v : Kt) (l1 : Int32) (σ : St) : Prop := S 156 [aR 49, aI l1] σ (fun r σ1 => ∃ x2 : Int32, r = [aI x2] ∧ (S 150 [aR 49, aI l1, aI 4] σ1 (fun r σ3 => ∃ x4 : Int32, r = [aI x4] ∧ (¬ (x4 : Int32) = 0 ∧ (S 173 [aR 49, aI (σ3.1 49 8), aI l1] σ3 (fun r σ5 => ∃ x6 : Int32, r = [aI x6] ∧ (((x6 : Int32) = 0 → (S 144 [aI 9, aI (x2 / x4)] σ5 (fun r σ7 => ∃ x8 : Int32, r = [aI x8] ∧ (Φ [aI x8] σ7)))) ∧ (¬ ((x6 : Int32) = 0) → (S 144 [aI 9, aI (2 * (x2 / x4))] σ5 (fun r σ9 => ∃ x10 : Int32, r = [aI x10] ∧ (Φ [aI x10] σ9)))))))))))
theorem w_X9_ringOf_0 {S : Sp} (hS : Sys S) {Φ : Rs} {v : Kt} (hv : Cl S Φ k_X9_ringOf v) (hw : Wk v) (l1 : Int32) (σ : St) (h : vc_X9_ringOf_0 S Φ v l1 σ) : v 0 [some (aR 49), some (aI l1), none] [] σ := by
  unfold vc_X9_ringOf_0 at h
  refine r_aload_n (pc := 0) hv 0 rfl rfl ?_
  refine r_iload_n (pc := 1) hv 1 rfl rfl ?_
  refine r_callV (pc := 2) (l := [aI l1]) (av := [aI l1]) (a := 49) (t := []) hv 2 rfl rfl rfl rfl (rcv_o (by decide) rfl) trivial (hS.1 _ _ _ _ _ (fun r σ1 h => ?_) h)
  obtain ⟨x2, rfl, h⟩ := h
  show v 5 [some (aR 49), some (aI l1), none] [aI x2] σ1
  refine r_aload_n (pc := 5) hv 3 rfl rfl ?_
  refine r_iload_n (pc := 6) hv 4 rfl rfl ?_
  refine r_iconst (pc := 7) hv 5 rfl  ?_
  refine r_callV (pc := 8) (l := [aI 4, aI l1]) (av := [aI l1, aI 4]) (a := 49) (t := [aI x2]) hv 6 rfl rfl rfl rfl (rcv_o (by decide) rfl) trivial (hS.1 _ _ _ _ _ (fun r σ3 h => ?_) h)
  obtain ⟨x4, rfl, h⟩ := h
  show v 11 [some (aR 49), some (aI l1), none] [aI x4, aI x2] σ3
  refine r_idiv (pc := 11) hv 7 rfl h.1 ?_
  replace h := h.2
  refine r_istore_n (pc := 12) (lo' := [some (aR 49), some (aI l1), some (aI (x2 / x4))]) hv 8 rfl rfl ?_
  refine r_bipush (pc := 13) hv 9 rfl  ?_
  refine r_aload_n (pc := 15) hv 10 rfl rfl ?_
  refine r_aload_n (pc := 16) hv 11 rfl rfl ?_
  refine r_getI (pc := 17) hv 12 rfl rfl rfl ?_
  refine r_iload_n (pc := 20) hv 13 rfl rfl ?_
  refine r_callV (pc := 21) (l := [aI l1, aI (σ3.1 49 8)]) (av := [aI (σ3.1 49 8), aI l1]) (a := 49) (t := [aI 9]) hv 14 rfl rfl rfl rfl (rcv_o (by decide) rfl) trivial (hS.1 _ _ _ _ _ (fun r σ5 h => ?_) h)
  obtain ⟨x6, rfl, h⟩ := h
  show v 24 [some (aR 49), some (aI l1), some (aI (x2 / x4))] [aI x6, aI 9] σ5
  refine r_if_eq (pc := 24) hv 15 rfl (fun c => ?_) (fun c => ?_)
  · replace h := h.1 c
    refine r_iload_n (pc := 33) hv 20 rfl rfl ?_
    refine r_callS (pc := 34) (l := [aI (x2 / x4), aI 9]) (av := [aI 9, aI (x2 / x4)]) (t := []) hv 21 rfl (Or.inl rfl) rfl rfl rfl trivial (hS.1 _ _ _ _ _ (fun r σ7 h => ?_) h)
    obtain ⟨x8, rfl, h⟩ := h
    show v 37 [some (aR 49), some (aI l1), some (aI (x2 / x4))] [aI x8] σ7
    exact r_ireturn (pc := 37) hv 22 rfl rfl h
  · replace h := h.2 c
    refine r_iconst (pc := 27) hv 16 rfl  ?_
    refine r_iload_n (pc := 28) hv 17 rfl rfl ?_
    refine r_imul (pc := 29) hv 18 rfl  ?_
    refine r_goto (pc := 30) hv 19 rfl  ?_
    refine r_callS (pc := 34) (l := [aI (2 * (x2 / x4)), aI 9]) (av := [aI 9, aI (2 * (x2 / x4))]) (t := []) hv 21 rfl (Or.inl rfl) rfl rfl rfl trivial (hS.1 _ _ _ _ _ (fun r σ9 h => ?_) h)
    obtain ⟨x10, rfl, h⟩ := h
    show v 37 [some (aR 49), some (aI l1), some (aI (x2 / x4))] [aI x10] σ9
    exact r_ireturn (pc := 37) hv 22 rfl rfl h
def vc_X9_time_0 (S : Sp) (Φ : Rs) (v : Kt) (l1 : Int32) (l2 : Int32) (σ : St) : Prop := S 148 [aR 49, aI l1] σ (fun r σ1 => ∃ x2 : Int32, r = [aI x2] ∧ (((x2 : Int32) = 0 → (Φ [aI (-1)] σ1)) ∧ (¬ ((x2 : Int32) = 0) → (S 143 [aL ((l2 : Int32).toInt64), aL 0, aL 3] σ1 (fun r σ3 => ∃ x4 : Int32, r = [aI x4] ∧ ((¬ (x4 : Int32) = 0 → (S 175 [aR 49] σ3 (fun r σ5 => r = [] ∧ ((¬ (l2 : Int32) = 0 → (S 173 [aR 49, aI (σ5.1 49 7), aI l1] σ5 (fun r σ6 => ∃ x7 : Int32, r = [aI x7] ∧ ((¬ (x7 : Int32) = 0 → ((¬ (l2 : Int32) = 1 → ((¬ (l2 : Int32) = 2 → (S 178 [aR 49, aI l1] σ6 (fun r σ8 => ∃ x9 : Int32, r = [aI x9] ∧ (Φ [aI x9] σ8)))) ∧ ((l2 : Int32) = 2 → (S 173 [aR 49, aI (σ6.1 49 8), aI l1] σ6 (fun r σ10 => ∃ x11 : Int32, r = [aI x11] ∧ (((x11 : Int32) = 0 → (Φ [aI 1] σ10)) ∧ (¬ ((x11 : Int32) = 0) → (Φ [aI 0] σ10)))))))) ∧ ((l2 : Int32) = 1 → (vp_in l1 20 ∧ (Φ [aI (σ6.1 54 (l1 : Int32).toNatClampNeg)] σ6))))) ∧ ((x7 : Int32) = 0 → (Φ [aI (-1)] σ6)))))) ∧ ((l2 : Int32) = 0 → (vp_in l1 20 ∧ ((¬ (σ5.1 53 (l1 : Int32).toNatClampNeg : Int32) = 1000000 → (vp_in l1 20 ∧ (Φ [aI (σ5.1 53 (l1 : Int32).toNatClampNeg)] σ5))) ∧ ((σ5.1 53 (l1 : Int32).toNatClampNeg : Int32) = 1000000 → (Φ [aI (-1)] σ5))))))))) ∧ ((x4 : Int32) = 0 → (Φ [aI (-1)] σ3))))))))
theorem w_X9_time_0 {S : Sp} (hS : Sys S) {Φ : Rs} {v : Kt} (hv : Cl S Φ k_X9_time v) (hw : Wk v) (l1 : Int32) (l2 : Int32) (σ : St) (h : vc_X9_time_0 S Φ v l1 l2 σ) : v 0 [some (aR 49), some (aI l1), some (aI l2)] [] σ := by
  unfold vc_X9_time_0 at h
  refine r_aload_n (pc := 0) hv 0 rfl rfl ?_
  refine r_iload_n (pc := 1) hv 1 rfl rfl ?_
  refine r_callV (pc := 2) (l := [aI l1]) (av := [aI l1]) (a := 49) (t := []) hv 2 rfl rfl rfl rfl (rcv_o (by decide) rfl) trivial (hS.1 _ _ _ _ _ (fun r σ1 h => ?_) h)
  obtain ⟨x2, rfl, h⟩ := h
  show v 5 [some (aR 49), some (aI l1), some (aI l2)] [aI x2] σ1
  refine r_if_eq (pc := 5) hv 3 rfl (fun c => ?_) (fun c => ?_)
  · replace h := h.1 c
    refine r_iconst (pc := 20) hv 10 rfl  ?_
    exact r_ireturn (pc := 21) hv 11 rfl rfl h
  · replace h := h.2 c
    refine r_iload_n (pc := 8) hv 4 rfl rfl ?_
    refine r_i2l (pc := 9) hv 5 rfl  ?_
    refine r_lconst (pc := 10) hv 6 rfl  ?_
    refine r_ldc2_w (pc := 11) hv 7 rfl  ?_
    refine r_callS (pc := 14) (l := [aL 3, aL 0, aL ((l2 : Int32).toInt64)]) (av := [aL ((l2 : Int32).toInt64), aL 0, aL 3]) (t := []) hv 8 rfl (Or.inl rfl) rfl rfl rfl trivial (hS.1 _ _ _ _ _ (fun r σ3 h => ?_) h)
    obtain ⟨x4, rfl, h⟩ := h
    show v 17 [some (aR 49), some (aI l1), some (aI l2)] [aI x4] σ3
    refine r_if_ne (pc := 17) hv 9 rfl (fun c => ?_) (fun c => ?_)
    · replace h := h.1 c
      refine r_aload_n (pc := 22) hv 12 rfl rfl ?_
      refine r_callV (pc := 23) (l := []) (av := []) (a := 49) (t := []) hv 13 rfl rfl rfl rfl (rcv_o (by decide) rfl) trivial (hS.1 _ _ _ _ _ (fun r σ5 h => ?_) h)
      obtain ⟨rfl, h⟩ := h
      show v 26 [some (aR 49), some (aI l1), some (aI l2)] [] σ5
      refine r_iload_n (pc := 26) hv 14 rfl rfl ?_
      refine r_if_ne (pc := 27) hv 15 rfl (fun c => ?_) (fun c => ?_)
      · replace h := h.1 c
        refine r_aload_n (pc := 52) hv 29 rfl rfl ?_
        refine r_aload_n (pc := 53) hv 30 rfl rfl ?_
        refine r_getI (pc := 54) hv 31 rfl rfl rfl ?_
        refine r_iload_n (pc := 57) hv 32 rfl rfl ?_
        refine r_callV (pc := 58) (l := [aI l1, aI (σ5.1 49 7)]) (av := [aI (σ5.1 49 7), aI l1]) (a := 49) (t := []) hv 33 rfl rfl rfl rfl (rcv_o (by decide) rfl) trivial (hS.1 _ _ _ _ _ (fun r σ6 h => ?_) h)
        obtain ⟨x7, rfl, h⟩ := h
        show v 61 [some (aR 49), some (aI l1), some (aI l2)] [aI x7] σ6
        refine r_if_ne (pc := 61) hv 34 rfl (fun c => ?_) (fun c => ?_)
        · replace h := h.1 c
          refine r_iload_n (pc := 66) hv 37 rfl rfl ?_
          refine r_iconst (pc := 67) hv 38 rfl  ?_
          refine r_icmp_ne (pc := 68) hv 39 rfl (fun c => ?_) (fun c => ?_)
          · replace h := h.1 c
            refine r_iload_n (pc := 80) hv 45 rfl rfl ?_
            refine r_iconst (pc := 81) hv 46 rfl  ?_
            refine r_icmp_ne (pc := 82) hv 47 rfl (fun c => ?_) (fun c => ?_)
            · replace h := h.1 c
              refine r_aload_n (pc := 105) hv 58 rfl rfl ?_
              refine r_iload_n (pc := 106) hv 59 rfl rfl ?_
              refine r_callV (pc := 107) (l := [aI l1]) (av := [aI l1]) (a := 49) (t := []) hv 60 rfl rfl rfl rfl (rcv_o (by decide) rfl) trivial (hS.1 _ _ _ _ _ (fun r σ8 h => ?_) h)
              obtain ⟨x9, rfl, h⟩ := h
              show v 110 [some (aR 49), some (aI l1), some (aI l2)] [aI x9] σ8
              exact r_ireturn (pc := 110) hv 61 rfl rfl h
            · replace h := h.2 c
              refine r_aload_n (pc := 85) hv 48 rfl rfl ?_
              refine r_aload_n (pc := 86) hv 49 rfl rfl ?_
              refine r_getI (pc := 87) hv 50 rfl rfl rfl ?_
              refine r_iload_n (pc := 90) hv 51 rfl rfl ?_
              refine r_callV (pc := 91) (l := [aI l1, aI (σ6.1 49 8)]) (av := [aI (σ6.1 49 8), aI l1]) (a := 49) (t := []) hv 52 rfl rfl rfl rfl (rcv_o (by decide) rfl) trivial (hS.1 _ _ _ _ _ (fun r σ10 h => ?_) h)
              obtain ⟨x11, rfl, h⟩ := h
              show v 94 [some (aR 49), some (aI l1), some (aI l2)] [aI x11] σ10
              refine r_if_eq (pc := 94) hv 53 rfl (fun c => ?_) (fun c => ?_)
              · replace h := h.1 c
                refine r_iconst (pc := 101) hv 56 rfl  ?_
                refine r_goto (pc := 102) hv 57 rfl  ?_
                exact r_ireturn (pc := 110) hv 61 rfl rfl h
              · replace h := h.2 c
                refine r_iconst (pc := 97) hv 54 rfl  ?_
                refine r_goto (pc := 98) hv 55 rfl  ?_
                exact r_ireturn (pc := 110) hv 61 rfl rfl h
          · replace h := h.2 c
            refine r_aload_n (pc := 71) hv 40 rfl rfl ?_
            refine r_getR (pc := 72) (b := 54) hv 41 rfl rfl rfl rfl ?_
            refine r_iload_n (pc := 75) hv 42 rfl rfl ?_
            refine r_iaload (pc := 76) (N := 20) hv 43 rfl rfl rfl (by decide) h.1 ?_
            replace h := h.2
            refine r_goto (pc := 77) hv 44 rfl  ?_
            exact r_ireturn (pc := 110) hv 61 rfl rfl h
        · replace h := h.2 c
          refine r_iconst (pc := 64) hv 35 rfl  ?_
          exact r_ireturn (pc := 65) hv 36 rfl rfl h
      · replace h := h.2 c
        refine r_aload_n (pc := 30) hv 16 rfl rfl ?_
        refine r_getR (pc := 31) (b := 53) hv 17 rfl rfl rfl rfl ?_
        refine r_iload_n (pc := 34) hv 18 rfl rfl ?_
        refine r_iaload (pc := 35) (N := 20) hv 19 rfl rfl rfl (by decide) h.1 ?_
        replace h := h.2
        refine r_ldc (pc := 36) hv 20 rfl rfl ?_
        refine r_icmp_ne (pc := 38) hv 21 rfl (fun c => ?_) (fun c => ?_)
        · replace h := h.1 c
          refine r_aload_n (pc := 45) hv 24 rfl rfl ?_
          refine r_getR (pc := 46) (b := 53) hv 25 rfl rfl rfl rfl ?_
          refine r_iload_n (pc := 49) hv 26 rfl rfl ?_
          refine r_iaload (pc := 50) (N := 20) hv 27 rfl rfl rfl (by decide) h.1 ?_
          replace h := h.2
          exact r_ireturn (pc := 51) hv 28 rfl rfl h
        · replace h := h.2 c
          refine r_iconst (pc := 41) hv 22 rfl  ?_
          refine r_goto (pc := 42) hv 23 rfl  ?_
          exact r_ireturn (pc := 51) hv 28 rfl rfl h
    · replace h := h.2 c
      refine r_iconst (pc := 20) hv 10 rfl  ?_
      exact r_ireturn (pc := 21) hv 11 rfl rfl h
def vc_X9_shoots_78 (S : Sp) (Φ : Rs) (v : Kt) (l1 : Int32) (l2 : Int32) (l3 : Int32) (l4 : Int32) (σ : St) : Prop := vp_in l4 40 ∧ (∀ σ1 : St, σ1 = upI σ 55 (l4 : Int32).toNatClampNeg l2 → (vp_in l4 40 ∧ (∀ σ2 : St, σ2 = upI σ1 56 (l4 : Int32).toNatClampNeg l3 → (vp_in l4 40 ∧ (∀ σ3 : St, σ3 = upI σ2 57 (l4 : Int32).toNatClampNeg l1 → (∀ σ4 : St, σ4 = upI σ3 49 12 ((σ3.1 49 12) + 1) → (Φ [] σ4)))))))
theorem w_X9_shoots_78 {S : Sp} (hS : Sys S) {Φ : Rs} {v : Kt} (hv : Cl S Φ k_X9_shoots v) (hw : Wk v) (l1 : Int32) (l2 : Int32) (l3 : Int32) (l4 : Int32) (σ : St) (h : vc_X9_shoots_78 S Φ v l1 l2 l3 l4 σ) : v 78 [some (aR 49), some (aI l1), some (aI l2), some (aI l3), some (aI l4)] [] σ := by
  unfold vc_X9_shoots_78 at h
  refine r_aload_n (pc := 78) hv 45 rfl rfl ?_
  refine r_getR (pc := 79) (b := 55) hv 46 rfl rfl rfl rfl ?_
  refine r_iload (pc := 82) hv 47 rfl rfl ?_
  refine r_iload_n (pc := 84) hv 48 rfl rfl ?_
  refine r_iastore (pc := 85) (N := 40) hv 49 rfl rfl rfl h.1 ?_
  replace h := h.2
  obtain ⟨σ1, e_σ1⟩ : ∃ y : St, y = upI σ 55 (l4 : Int32).toNatClampNeg l2 := ⟨_, rfl⟩
  rw [← e_σ1]
  replace h := h σ1 e_σ1
  refine r_aload_n (pc := 86) hv 50 rfl rfl ?_
  refine r_getR (pc := 87) (b := 56) hv 51 rfl rfl rfl rfl ?_
  refine r_iload (pc := 90) hv 52 rfl rfl ?_
  refine r_iload_n (pc := 92) hv 53 rfl rfl ?_
  refine r_iastore (pc := 93) (N := 40) hv 54 rfl rfl rfl h.1 ?_
  replace h := h.2
  obtain ⟨σ2, e_σ2⟩ : ∃ y : St, y = upI σ1 56 (l4 : Int32).toNatClampNeg l3 := ⟨_, rfl⟩
  rw [← e_σ2]
  replace h := h σ2 e_σ2
  refine r_aload_n (pc := 94) hv 55 rfl rfl ?_
  refine r_getR (pc := 95) (b := 57) hv 56 rfl rfl rfl rfl ?_
  refine r_iload (pc := 98) hv 57 rfl rfl ?_
  refine r_iload_n (pc := 100) hv 58 rfl rfl ?_
  refine r_iastore (pc := 101) (N := 40) hv 59 rfl rfl rfl h.1 ?_
  replace h := h.2
  obtain ⟨σ3, e_σ3⟩ : ∃ y : St, y = upI σ2 57 (l4 : Int32).toNatClampNeg l1 := ⟨_, rfl⟩
  rw [← e_σ3]
  replace h := h σ3 e_σ3
  refine r_aload_n (pc := 102) hv 60 rfl rfl ?_
  refine r_dup (pc := 103) hv 61 rfl trivial ?_
  refine r_getI (pc := 104) hv 62 rfl rfl rfl ?_
  refine r_iconst (pc := 107) hv 63 rfl  ?_
  refine r_iadd (pc := 108) hv 64 rfl  ?_
  refine r_putI (pc := 109) hv 65 rfl rfl rfl ?_
  obtain ⟨σ4, e_σ4⟩ : ∃ y : St, y = upI σ3 49 12 ((σ3.1 49 12) + 1) := ⟨_, rfl⟩
  rw [← e_σ4]
  replace h := h σ4 e_σ4
  exact r_return (pc := 112) hv 66 rfl h
def vc_X9_shoots_6 (S : Sp) (Φ : Rs) (v : Kt) (l1 : Int32) (l2 : Int32) (l3 : Int32) (l4 : Int32) (σ : St) : Prop := ((l4 : Int32) ≤ 0 → (vc_X9_shoots_78 S Φ v  l1 l2 l3 l4 σ)) ∧ (¬ ((l4 : Int32) ≤ 0) → (vp_in (l4 - 1) 40 ∧ (((σ.1 55 (l4 - 1 : Int32).toNatClampNeg : Int32) ≤ l2 → (vc_X9_shoots_78 S Φ v  l1 l2 l3 l4 σ)) ∧ (¬ ((σ.1 55 (l4 - 1 : Int32).toNatClampNeg : Int32) ≤ l2) → (vp_in (l4 - 1) 40 ∧ (vp_in l4 40 ∧ (∀ σ1 : St, σ1 = upI σ 55 (l4 : Int32).toNatClampNeg (σ.1 55 (l4 - 1 : Int32).toNatClampNeg) → (vp_in (l4 - 1) 40 ∧ (vp_in l4 40 ∧ (∀ σ2 : St, σ2 = upI σ1 56 (l4 : Int32).toNatClampNeg (σ1.1 56 (l4 - 1 : Int32).toNatClampNeg) → (vp_in (l4 - 1) 40 ∧ (vp_in l4 40 ∧ (∀ σ3 : St, σ3 = upI σ2 57 (l4 : Int32).toNatClampNeg (σ2.1 57 (l4 - 1 : Int32).toNatClampNeg) → (v 6 [some (aR 49), some (aI l1), some (aI l2), some (aI l3), some (aI (l4 + (-1)))] [] σ3))))))))))))))
theorem w_X9_shoots_6 {S : Sp} (hS : Sys S) {Φ : Rs} {v : Kt} (hv : Cl S Φ k_X9_shoots v) (hw : Wk v) (l1 : Int32) (l2 : Int32) (l3 : Int32) (l4 : Int32) (σ : St) (h : vc_X9_shoots_6 S Φ v l1 l2 l3 l4 σ) : v 6 [some (aR 49), some (aI l1), some (aI l2), some (aI l3), some (aI l4)] [] σ := by
  unfold vc_X9_shoots_6 at h
  refine r_iload (pc := 6) hv 3 rfl rfl ?_
  refine r_if_le (pc := 8) hv 4 rfl (fun c => ?_) (fun c => ?_)
  · replace h := h.1 c
    exact (w_X9_shoots_78 hS hv hw   l1 l2 l3 l4  σ h)
  · replace h := h.2 c
    refine r_aload_n (pc := 11) hv 5 rfl rfl ?_
    refine r_getR (pc := 12) (b := 55) hv 6 rfl rfl rfl rfl ?_
    refine r_iload (pc := 15) hv 7 rfl rfl ?_
    refine r_iconst (pc := 17) hv 8 rfl  ?_
    refine r_isub (pc := 18) hv 9 rfl  ?_
    refine r_iaload (pc := 19) (N := 40) hv 10 rfl rfl rfl (by decide) h.1 ?_
    replace h := h.2
    refine r_iload_n (pc := 20) hv 11 rfl rfl ?_
    refine r_icmp_le (pc := 21) hv 12 rfl (fun c => ?_) (fun c => ?_)
    · replace h := h.1 c
      exact (w_X9_shoots_78 hS hv hw   l1 l2 l3 l4  σ h)
    · replace h := h.2 c
      refine r_aload_n (pc := 24) hv 13 rfl rfl ?_
      refine r_getR (pc := 25) (b := 55) hv 14 rfl rfl rfl rfl ?_
      refine r_iload (pc := 28) hv 15 rfl rfl ?_
      refine r_aload_n (pc := 30) hv 16 rfl rfl ?_
      refine r_getR (pc := 31) (b := 55) hv 17 rfl rfl rfl rfl ?_
      refine r_iload (pc := 34) hv 18 rfl rfl ?_
      refine r_iconst (pc := 36) hv 19 rfl  ?_
      refine r_isub (pc := 37) hv 20 rfl  ?_
      refine r_iaload (pc := 38) (N := 40) hv 21 rfl rfl rfl (by decide) h.1 ?_
      replace h := h.2
      refine r_iastore (pc := 39) (N := 40) hv 22 rfl rfl rfl h.1 ?_
      replace h := h.2
      obtain ⟨σ1, e_σ1⟩ : ∃ y : St, y = upI σ 55 (l4 : Int32).toNatClampNeg (σ.1 55 (l4 - 1 : Int32).toNatClampNeg) := ⟨_, rfl⟩
      rw [← e_σ1]
      replace h := h σ1 e_σ1
      refine r_aload_n (pc := 40) hv 23 rfl rfl ?_
      refine r_getR (pc := 41) (b := 56) hv 24 rfl rfl rfl rfl ?_
      refine r_iload (pc := 44) hv 25 rfl rfl ?_
      refine r_aload_n (pc := 46) hv 26 rfl rfl ?_
      refine r_getR (pc := 47) (b := 56) hv 27 rfl rfl rfl rfl ?_
      refine r_iload (pc := 50) hv 28 rfl rfl ?_
      refine r_iconst (pc := 52) hv 29 rfl  ?_
      refine r_isub (pc := 53) hv 30 rfl  ?_
      refine r_iaload (pc := 54) (N := 40) hv 31 rfl rfl rfl (by decide) h.1 ?_
      replace h := h.2
      refine r_iastore (pc := 55) (N := 40) hv 32 rfl rfl rfl h.1 ?_
      replace h := h.2
      obtain ⟨σ2, e_σ2⟩ : ∃ y : St, y = upI σ1 56 (l4 : Int32).toNatClampNeg (σ1.1 56 (l4 - 1 : Int32).toNatClampNeg) := ⟨_, rfl⟩
      rw [← e_σ2]
      replace h := h σ2 e_σ2
      refine r_aload_n (pc := 56) hv 33 rfl rfl ?_
      refine r_getR (pc := 57) (b := 57) hv 34 rfl rfl rfl rfl ?_
      refine r_iload (pc := 60) hv 35 rfl rfl ?_
      refine r_aload_n (pc := 62) hv 36 rfl rfl ?_
      refine r_getR (pc := 63) (b := 57) hv 37 rfl rfl rfl rfl ?_
      refine r_iload (pc := 66) hv 38 rfl rfl ?_
      refine r_iconst (pc := 68) hv 39 rfl  ?_
      refine r_isub (pc := 69) hv 40 rfl  ?_
      refine r_iaload (pc := 70) (N := 40) hv 41 rfl rfl rfl (by decide) h.1 ?_
      replace h := h.2
      refine r_iastore (pc := 71) (N := 40) hv 42 rfl rfl rfl h.1 ?_
      replace h := h.2
      obtain ⟨σ3, e_σ3⟩ : ∃ y : St, y = upI σ2 57 (l4 : Int32).toNatClampNeg (σ2.1 57 (l4 - 1 : Int32).toNatClampNeg) := ⟨_, rfl⟩
      rw [← e_σ3]
      replace h := h σ3 e_σ3
      refine r_iinc (pc := 72) (lo' := [some (aR 49), some (aI l1), some (aI l2), some (aI l3), some (aI (l4 + (-1)))]) hv 43 rfl rfl rfl ?_
      refine r_goto (pc := 75) hv 44 rfl  ?_
      exact h
def vc_X9_shoots_0 (S : Sp) (Φ : Rs) (v : Kt) (l1 : Int32) (l2 : Int32) (l3 : Int32) (σ : St) : Prop := v 6 [some (aR 49), some (aI l1), some (aI l2), some (aI l3), some (aI (σ.1 49 12))] [] σ
theorem w_X9_shoots_0 {S : Sp} (hS : Sys S) {Φ : Rs} {v : Kt} (hv : Cl S Φ k_X9_shoots v) (hw : Wk v) (l1 : Int32) (l2 : Int32) (l3 : Int32) (σ : St) (h : vc_X9_shoots_0 S Φ v l1 l2 l3 σ) : v 0 [some (aR 49), some (aI l1), some (aI l2), some (aI l3), none] [] σ := by
  unfold vc_X9_shoots_0 at h
  refine r_aload_n (pc := 0) hv 0 rfl rfl ?_
  refine r_getI (pc := 1) hv 1 rfl rfl rfl ?_
  refine r_istore (pc := 4) (lo' := [some (aR 49), some (aI l1), some (aI l2), some (aI l3), some (aI (σ.1 49 12))]) hv 2 rfl rfl ?_
  exact h
def vc_X9_laysShots_7 (S : Sp) (Φ : Rs) (v : Kt) (l1 : Int32) (l2 : Int32) (σ : St) : Prop := vp_in 280 286 ∧ (((σ.1 50 (280 : Int32).toNatClampNeg : Int32) ≤ l2 → (Φ [] σ)) ∧ (¬ ((σ.1 50 (280 : Int32).toNatClampNeg : Int32) ≤ l2) → (S 173 [aR 49, aI l1, aI l2] σ (fun r σ1 => ∃ x2 : Int32, r = [aI x2] ∧ (((x2 : Int32) = 0 → (v 7 [some (aR 49), some (aI l1), some (aI (l2 + 1))] [] σ1)) ∧ (¬ ((x2 : Int32) = 0) → (vp_in l2 20 ∧ (S 154 [aR 49, aI l2] σ1 (fun r σ3 => ∃ x4 : Int32, r = [aI x4] ∧ (S 180 [aR 49, aI l2, aI (σ1.1 54 (l2 : Int32).toNatClampNeg), aI x4] σ3 (fun r σ5 => r = [] ∧ (S 155 [aR 49, aI l2] σ5 (fun r σ6 => ∃ x7 : Int32, r = [aI x7] ∧ (((x7 : Int32) ≤ 0 → (v 7 [some (aR 49), some (aI l1), some (aI (l2 + 1))] [] σ6)) ∧ (¬ ((x7 : Int32) ≤ 0) → (vp_in l2 20 ∧ (S 155 [aR 49, aI l2] σ6 (fun r σ8 => ∃ x9 : Int32, r = [aI x9] ∧ (S 180 [aR 49, aI l2, aI ((σ6.1 54 (l2 : Int32).toNatClampNeg) + 17), aI x9] σ8 (fun r σ10 => r = [] ∧ (v 7 [some (aR 49), some (aI l1), some (aI (l2 + 1))] [] σ10)))))))))))))))))))))
theorem w_X9_laysShots_7 {S : Sp} (hS : Sys S) {Φ : Rs} {v : Kt} (hv : Cl S Φ k_X9_laysShots v) (hw : Wk v) (l1 : Int32) (l2 : Int32) (σ : St) (h : vc_X9_laysShots_7 S Φ v l1 l2 σ) : v 7 [some (aR 49), some (aI l1), some (aI l2)] [] σ := by
  unfold vc_X9_laysShots_7 at h
  refine r_iload_n (pc := 7) hv 5 rfl rfl ?_
  refine r_aload_n (pc := 8) hv 6 rfl rfl ?_
  refine r_getR (pc := 9) (b := 50) hv 7 rfl rfl rfl rfl ?_
  refine r_sipush (pc := 12) hv 8 rfl  ?_
  refine r_iaload (pc := 15) (N := 286) hv 9 rfl rfl rfl (by decide) h.1 ?_
  replace h := h.2
  refine r_icmp_ge (pc := 16) hv 10 rfl (fun c => ?_) (fun c => ?_)
  · replace h := h.1 c
    exact r_return (pc := 77) hv 44 rfl h
  · replace h := h.2 c
    refine r_aload_n (pc := 19) hv 11 rfl rfl ?_
    refine r_iload_n (pc := 20) hv 12 rfl rfl ?_
    refine r_iload_n (pc := 21) hv 13 rfl rfl ?_
    refine r_callV (pc := 22) (l := [aI l2, aI l1]) (av := [aI l1, aI l2]) (a := 49) (t := []) hv 14 rfl rfl rfl rfl (rcv_o (by decide) rfl) trivial (hS.1 _ _ _ _ _ (fun r σ1 h => ?_) h)
    obtain ⟨x2, rfl, h⟩ := h
    show v 25 [some (aR 49), some (aI l1), some (aI l2)] [aI x2] σ1
    refine r_if_eq (pc := 25) hv 15 rfl (fun c => ?_) (fun c => ?_)
    · replace h := h.1 c
      refine r_iinc (pc := 71) (lo' := [some (aR 49), some (aI l1), some (aI (l2 + 1))]) hv 42 rfl rfl rfl ?_
      refine r_goto (pc := 74) hv 43 rfl  ?_
      exact h
    · replace h := h.2 c
      refine r_aload_n (pc := 28) hv 16 rfl rfl ?_
      refine r_iload_n (pc := 29) hv 17 rfl rfl ?_
      refine r_aload_n (pc := 30) hv 18 rfl rfl ?_
      refine r_getR (pc := 31) (b := 54) hv 19 rfl rfl rfl rfl ?_
      refine r_iload_n (pc := 34) hv 20 rfl rfl ?_
      refine r_iaload (pc := 35) (N := 20) hv 21 rfl rfl rfl (by decide) h.1 ?_
      replace h := h.2
      refine r_aload_n (pc := 36) hv 22 rfl rfl ?_
      refine r_iload_n (pc := 37) hv 23 rfl rfl ?_
      refine r_callV (pc := 38) (l := [aI l2]) (av := [aI l2]) (a := 49) (t := [aI (σ1.1 54 (l2 : Int32).toNatClampNeg), aI l2, aR 49]) hv 24 rfl rfl rfl rfl (rcv_o (by decide) rfl) trivial (hS.1 _ _ _ _ _ (fun r σ3 h => ?_) h)
      obtain ⟨x4, rfl, h⟩ := h
      show v 41 [some (aR 49), some (aI l1), some (aI l2)] [aI x4, aI (σ1.1 54 (l2 : Int32).toNatClampNeg), aI l2, aR 49] σ3
      refine r_callV (pc := 41) (l := [aI x4, aI (σ1.1 54 (l2 : Int32).toNatClampNeg), aI l2]) (av := [aI l2, aI (σ1.1 54 (l2 : Int32).toNatClampNeg), aI x4]) (a := 49) (t := []) hv 25 rfl rfl rfl rfl (rcv_o (by decide) rfl) trivial (hS.1 _ _ _ _ _ (fun r σ5 h => ?_) h)
      obtain ⟨rfl, h⟩ := h
      show v 44 [some (aR 49), some (aI l1), some (aI l2)] [] σ5
      refine r_aload_n (pc := 44) hv 26 rfl rfl ?_
      refine r_iload_n (pc := 45) hv 27 rfl rfl ?_
      refine r_callV (pc := 46) (l := [aI l2]) (av := [aI l2]) (a := 49) (t := []) hv 28 rfl rfl rfl rfl (rcv_o (by decide) rfl) trivial (hS.1 _ _ _ _ _ (fun r σ6 h => ?_) h)
      obtain ⟨x7, rfl, h⟩ := h
      show v 49 [some (aR 49), some (aI l1), some (aI l2)] [aI x7] σ6
      refine r_if_le (pc := 49) hv 29 rfl (fun c => ?_) (fun c => ?_)
      · replace h := h.1 c
        refine r_iinc (pc := 71) (lo' := [some (aR 49), some (aI l1), some (aI (l2 + 1))]) hv 42 rfl rfl rfl ?_
        refine r_goto (pc := 74) hv 43 rfl  ?_
        exact h
      · replace h := h.2 c
        refine r_aload_n (pc := 52) hv 30 rfl rfl ?_
        refine r_iload_n (pc := 53) hv 31 rfl rfl ?_
        refine r_aload_n (pc := 54) hv 32 rfl rfl ?_
        refine r_getR (pc := 55) (b := 54) hv 33 rfl rfl rfl rfl ?_
        refine r_iload_n (pc := 58) hv 34 rfl rfl ?_
        refine r_iaload (pc := 59) (N := 20) hv 35 rfl rfl rfl (by decide) h.1 ?_
        replace h := h.2
        refine r_bipush (pc := 60) hv 36 rfl  ?_
        refine r_iadd (pc := 62) hv 37 rfl  ?_
        refine r_aload_n (pc := 63) hv 38 rfl rfl ?_
        refine r_iload_n (pc := 64) hv 39 rfl rfl ?_
        refine r_callV (pc := 65) (l := [aI l2]) (av := [aI l2]) (a := 49) (t := [aI ((σ6.1 54 (l2 : Int32).toNatClampNeg) + 17), aI l2, aR 49]) hv 40 rfl rfl rfl rfl (rcv_o (by decide) rfl) trivial (hS.1 _ _ _ _ _ (fun r σ8 h => ?_) h)
        obtain ⟨x9, rfl, h⟩ := h
        show v 68 [some (aR 49), some (aI l1), some (aI l2)] [aI x9, aI ((σ6.1 54 (l2 : Int32).toNatClampNeg) + 17), aI l2, aR 49] σ8
        refine r_callV (pc := 68) (l := [aI x9, aI ((σ6.1 54 (l2 : Int32).toNatClampNeg) + 17), aI l2]) (av := [aI l2, aI ((σ6.1 54 (l2 : Int32).toNatClampNeg) + 17), aI x9]) (a := 49) (t := []) hv 41 rfl rfl rfl rfl (rcv_o (by decide) rfl) trivial (hS.1 _ _ _ _ _ (fun r σ10 h => ?_) h)
        obtain ⟨rfl, h⟩ := h
        show v 71 [some (aR 49), some (aI l1), some (aI l2)] [] σ10
        refine r_iinc (pc := 71) (lo' := [some (aR 49), some (aI l1), some (aI (l2 + 1))]) hv 42 rfl rfl rfl ?_
        refine r_goto (pc := 74) hv 43 rfl  ?_
        exact h
def vc_X9_laysShots_0 (S : Sp) (Φ : Rs) (v : Kt) (l1 : Int32) (σ : St) : Prop := ∀ σ1 : St, σ1 = upI σ 49 12 0 → (v 7 [some (aR 49), some (aI l1), some (aI 0)] [] σ1)
theorem w_X9_laysShots_0 {S : Sp} (hS : Sys S) {Φ : Rs} {v : Kt} (hv : Cl S Φ k_X9_laysShots v) (hw : Wk v) (l1 : Int32) (σ : St) (h : vc_X9_laysShots_0 S Φ v l1 σ) : v 0 [some (aR 49), some (aI l1), none] [] σ := by
  unfold vc_X9_laysShots_0 at h
  refine r_aload_n (pc := 0) hv 0 rfl rfl ?_
  refine r_iconst (pc := 1) hv 1 rfl  ?_
  refine r_putI (pc := 2) hv 2 rfl rfl rfl ?_
  obtain ⟨σ1, e_σ1⟩ : ∃ y : St, y = upI σ 49 12 0 := ⟨_, rfl⟩
  rw [← e_σ1]
  replace h := h σ1 e_σ1
  refine r_iconst (pc := 5) hv 3 rfl  ?_
  refine r_istore_n (pc := 6) (lo' := [some (aR 49), some (aI l1), some (aI 0)]) hv 4 rfl rfl ?_
  exact h
def vc_X9_shakeAt_4 (S : Sp) (Φ : Rs) (v : Kt) (l1 : Int32) (l2 : Int32) (l3 : Int32) (σ : St) : Prop := ((σ.1 49 12 : Int32) ≤ l3 → (Φ [aI l2] σ)) ∧ (¬ ((σ.1 49 12 : Int32) ≤ l3) → (vp_in l3 40 ∧ (((σ.1 55 (l3 : Int32).toNatClampNeg : Int32) < l1 → (v 4 [some (aR 49), some (aI l1), some (aI (l2 + 0)), some (aI (l3 + 1))] [] σ)) ∧ (¬ ((σ.1 55 (l3 : Int32).toNatClampNeg : Int32) < l1) → (vp_in l3 40 ∧ (vp_in 282 286 ∧ (((l1 + (σ.1 50 (282 : Int32).toNatClampNeg) : Int32) ≤ (σ.1 55 (l3 : Int32).toNatClampNeg) → (v 4 [some (aR 49), some (aI l1), some (aI (l2 + 0)), some (aI (l3 + 1))] [] σ)) ∧ (¬ ((l1 + (σ.1 50 (282 : Int32).toNatClampNeg) : Int32) ≤ (σ.1 55 (l3 : Int32).toNatClampNeg)) → (vp_in l3 40 ∧ (v 4 [some (aR 49), some (aI l1), some (aI (l2 + (σ.1 56 (l3 : Int32).toNatClampNeg))), some (aI (l3 + 1))] [] σ))))))))))
theorem w_X9_shakeAt_4 {S : Sp} (hS : Sys S) {Φ : Rs} {v : Kt} (hv : Cl S Φ k_X9_shakeAt v) (hw : Wk v) (l1 : Int32) (l2 : Int32) (l3 : Int32) (σ : St) (h : vc_X9_shakeAt_4 S Φ v l1 l2 l3 σ) : v 4 [some (aR 49), some (aI l1), some (aI l2), some (aI l3)] [] σ := by
  unfold vc_X9_shakeAt_4 at h
  refine r_iload_n (pc := 4) hv 4 rfl rfl ?_
  refine r_aload_n (pc := 5) hv 5 rfl rfl ?_
  refine r_getI (pc := 6) hv 6 rfl rfl rfl ?_
  refine r_icmp_ge (pc := 9) hv 7 rfl (fun c => ?_) (fun c => ?_)
  · replace h := h.1 c
    refine r_iload_n (pc := 60) hv 36 rfl rfl ?_
    exact r_ireturn (pc := 61) hv 37 rfl rfl h
  · replace h := h.2 c
    refine r_iload_n (pc := 12) hv 8 rfl rfl ?_
    refine r_aload_n (pc := 13) hv 9 rfl rfl ?_
    refine r_getR (pc := 14) (b := 55) hv 10 rfl rfl rfl rfl ?_
    refine r_iload_n (pc := 17) hv 11 rfl rfl ?_
    refine r_iaload (pc := 18) (N := 40) hv 12 rfl rfl rfl (by decide) h.1 ?_
    replace h := h.2
    refine r_iload_n (pc := 19) hv 13 rfl rfl ?_
    refine r_icmp_lt (pc := 20) hv 14 rfl (fun c => ?_) (fun c => ?_)
    · replace h := h.1 c
      refine r_iconst (pc := 51) hv 31 rfl  ?_
      refine r_iadd (pc := 52) hv 32 rfl  ?_
      refine r_istore_n (pc := 53) (lo' := [some (aR 49), some (aI l1), some (aI (l2 + 0)), some (aI l3)]) hv 33 rfl rfl ?_
      refine r_iinc (pc := 54) (lo' := [some (aR 49), some (aI l1), some (aI (l2 + 0)), some (aI (l3 + 1))]) hv 34 rfl rfl rfl ?_
      refine r_goto (pc := 57) hv 35 rfl  ?_
      exact h
    · replace h := h.2 c
      refine r_aload_n (pc := 23) hv 15 rfl rfl ?_
      refine r_getR (pc := 24) (b := 55) hv 16 rfl rfl rfl rfl ?_
      refine r_iload_n (pc := 27) hv 17 rfl rfl ?_
      refine r_iaload (pc := 28) (N := 40) hv 18 rfl rfl rfl (by decide) h.1 ?_
      replace h := h.2
      refine r_iload_n (pc := 29) hv 19 rfl rfl ?_
      refine r_aload_n (pc := 30) hv 20 rfl rfl ?_
      refine r_getR (pc := 31) (b := 50) hv 21 rfl rfl rfl rfl ?_
      refine r_sipush (pc := 34) hv 22 rfl  ?_
      refine r_iaload (pc := 37) (N := 286) hv 23 rfl rfl rfl (by decide) h.1 ?_
      replace h := h.2
      refine r_iadd (pc := 38) hv 24 rfl  ?_
      refine r_icmp_ge (pc := 39) hv 25 rfl (fun c => ?_) (fun c => ?_)
      · replace h := h.1 c
        refine r_iconst (pc := 51) hv 31 rfl  ?_
        refine r_iadd (pc := 52) hv 32 rfl  ?_
        refine r_istore_n (pc := 53) (lo' := [some (aR 49), some (aI l1), some (aI (l2 + 0)), some (aI l3)]) hv 33 rfl rfl ?_
        refine r_iinc (pc := 54) (lo' := [some (aR 49), some (aI l1), some (aI (l2 + 0)), some (aI (l3 + 1))]) hv 34 rfl rfl rfl ?_
        refine r_goto (pc := 57) hv 35 rfl  ?_
        exact h
      · replace h := h.2 c
        refine r_aload_n (pc := 42) hv 26 rfl rfl ?_
        refine r_getR (pc := 43) (b := 56) hv 27 rfl rfl rfl rfl ?_
        refine r_iload_n (pc := 46) hv 28 rfl rfl ?_
        refine r_iaload (pc := 47) (N := 40) hv 29 rfl rfl rfl (by decide) h.1 ?_
        replace h := h.2
        refine r_goto (pc := 48) hv 30 rfl  ?_
        refine r_iadd (pc := 52) hv 32 rfl  ?_
        refine r_istore_n (pc := 53) (lo' := [some (aR 49), some (aI l1), some (aI (l2 + (σ.1 56 (l3 : Int32).toNatClampNeg))), some (aI l3)]) hv 33 rfl rfl ?_
        refine r_iinc (pc := 54) (lo' := [some (aR 49), some (aI l1), some (aI (l2 + (σ.1 56 (l3 : Int32).toNatClampNeg))), some (aI (l3 + 1))]) hv 34 rfl rfl rfl ?_
        refine r_goto (pc := 57) hv 35 rfl  ?_
        exact h
def vc_X9_shakeAt_0 (S : Sp) (Φ : Rs) (v : Kt) (l1 : Int32) (σ : St) : Prop := v 4 [some (aR 49), some (aI l1), some (aI 0), some (aI 0)] [] σ
theorem w_X9_shakeAt_0 {S : Sp} (hS : Sys S) {Φ : Rs} {v : Kt} (hv : Cl S Φ k_X9_shakeAt v) (hw : Wk v) (l1 : Int32) (σ : St) (h : vc_X9_shakeAt_0 S Φ v l1 σ) : v 0 [some (aR 49), some (aI l1), none, none] [] σ := by
  unfold vc_X9_shakeAt_0 at h
  refine r_iconst (pc := 0) hv 0 rfl  ?_
  refine r_istore_n (pc := 1) (lo' := [some (aR 49), some (aI l1), some (aI 0), none]) hv 1 rfl rfl ?_
  refine r_iconst (pc := 2) hv 2 rfl  ?_
  refine r_istore_n (pc := 3) (lo' := [some (aR 49), some (aI l1), some (aI 0), some (aI 0)]) hv 3 rfl rfl ?_
  exact h
def vc_X9_worstTime_34 (S : Sp) (Φ : Rs) (v : Kt) (l1 : Int32) (l2 : Int32) (σ : St) : Prop := vp_in l2 40 ∧ (v 4 [some (aR 49), some (aI (σ.1 55 (l2 : Int32).toNatClampNeg)), some (aI (l2 + 1))] [] σ)
theorem w_X9_worstTime_34 {S : Sp} (hS : Sys S) {Φ : Rs} {v : Kt} (hv : Cl S Φ k_X9_worstTime v) (hw : Wk v) (l1 : Int32) (l2 : Int32) (σ : St) (h : vc_X9_worstTime_34 S Φ v l1 l2 σ) : v 34 [some (aR 49), some (aI l1), some (aI l2)] [] σ := by
  unfold vc_X9_worstTime_34 at h
  refine r_aload_n (pc := 34) hv 20 rfl rfl ?_
  refine r_getR (pc := 35) (b := 55) hv 21 rfl rfl rfl rfl ?_
  refine r_iload_n (pc := 38) hv 22 rfl rfl ?_
  refine r_iaload (pc := 39) (N := 40) hv 23 rfl rfl rfl (by decide) h.1 ?_
  replace h := h.2
  refine r_goto (pc := 40) hv 24 rfl  ?_
  refine r_istore_n (pc := 44) (lo' := [some (aR 49), some (aI (σ.1 55 (l2 : Int32).toNatClampNeg)), some (aI l2)]) hv 26 rfl rfl ?_
  refine r_iinc (pc := 45) (lo' := [some (aR 49), some (aI (σ.1 55 (l2 : Int32).toNatClampNeg)), some (aI (l2 + 1))]) hv 27 rfl rfl rfl ?_
  refine r_goto (pc := 48) hv 28 rfl  ?_
  exact h
def vc_X9_worstTime_4 (S : Sp) (Φ : Rs) (v : Kt) (l1 : Int32) (l2 : Int32) (σ : St) : Prop := ((σ.1 49 12 : Int32) ≤ l2 → (Φ [aI l1] σ)) ∧ (¬ ((σ.1 49 12 : Int32) ≤ l2) → (((l1 : Int32) < 0 → (vc_X9_worstTime_34 S Φ v  l1 l2 σ)) ∧ (¬ ((l1 : Int32) < 0) → (vp_in l2 40 ∧ (S 182 [aR 49, aI (σ.1 55 (l2 : Int32).toNatClampNeg)] σ (fun r σ1 => ∃ x2 : Int32, r = [aI x2] ∧ (S 182 [aR 49, aI l1] σ1 (fun r σ3 => ∃ x4 : Int32, r = [aI x4] ∧ (((x2 : Int32) ≤ x4 → (v 4 [some (aR 49), some (aI l1), some (aI (l2 + 1))] [] σ3)) ∧ (¬ ((x2 : Int32) ≤ x4) → (vc_X9_worstTime_34 S Φ v  l1 l2 σ3)))))))))))
theorem w_X9_worstTime_4 {S : Sp} (hS : Sys S) {Φ : Rs} {v : Kt} (hv : Cl S Φ k_X9_worstTime v) (hw : Wk v) (l1 : Int32) (l2 : Int32) (σ : St) (h : vc_X9_worstTime_4 S Φ v l1 l2 σ) : v 4 [some (aR 49), some (aI l1), some (aI l2)] [] σ := by
  unfold vc_X9_worstTime_4 at h
  refine r_iload_n (pc := 4) hv 4 rfl rfl ?_
  refine r_aload_n (pc := 5) hv 5 rfl rfl ?_
  refine r_getI (pc := 6) hv 6 rfl rfl rfl ?_
  refine r_icmp_ge (pc := 9) hv 7 rfl (fun c => ?_) (fun c => ?_)
  · replace h := h.1 c
    refine r_iload_n (pc := 51) hv 29 rfl rfl ?_
    exact r_ireturn (pc := 52) hv 30 rfl rfl h
  · replace h := h.2 c
    refine r_iload_n (pc := 12) hv 8 rfl rfl ?_
    refine r_if_lt (pc := 13) hv 9 rfl (fun c => ?_) (fun c => ?_)
    · replace h := h.1 c
      exact (w_X9_worstTime_34 hS hv hw   l1 l2  σ h)
    · replace h := h.2 c
      refine r_aload_n (pc := 16) hv 10 rfl rfl ?_
      refine r_aload_n (pc := 17) hv 11 rfl rfl ?_
      refine r_getR (pc := 18) (b := 55) hv 12 rfl rfl rfl rfl ?_
      refine r_iload_n (pc := 21) hv 13 rfl rfl ?_
      refine r_iaload (pc := 22) (N := 40) hv 14 rfl rfl rfl (by decide) h.1 ?_
      replace h := h.2
      refine r_callV (pc := 23) (l := [aI (σ.1 55 (l2 : Int32).toNatClampNeg)]) (av := [aI (σ.1 55 (l2 : Int32).toNatClampNeg)]) (a := 49) (t := []) hv 15 rfl rfl rfl rfl (rcv_o (by decide) rfl) trivial (hS.1 _ _ _ _ _ (fun r σ1 h => ?_) h)
      obtain ⟨x2, rfl, h⟩ := h
      show v 26 [some (aR 49), some (aI l1), some (aI l2)] [aI x2] σ1
      refine r_aload_n (pc := 26) hv 16 rfl rfl ?_
      refine r_iload_n (pc := 27) hv 17 rfl rfl ?_
      refine r_callV (pc := 28) (l := [aI l1]) (av := [aI l1]) (a := 49) (t := [aI x2]) hv 18 rfl rfl rfl rfl (rcv_o (by decide) rfl) trivial (hS.1 _ _ _ _ _ (fun r σ3 h => ?_) h)
      obtain ⟨x4, rfl, h⟩ := h
      show v 31 [some (aR 49), some (aI l1), some (aI l2)] [aI x4, aI x2] σ3
      refine r_icmp_le (pc := 31) hv 19 rfl (fun c => ?_) (fun c => ?_)
      · replace h := h.1 c
        refine r_iload_n (pc := 43) hv 25 rfl rfl ?_
        refine r_istore_n (pc := 44) (lo' := [some (aR 49), some (aI l1), some (aI l2)]) hv 26 rfl rfl ?_
        refine r_iinc (pc := 45) (lo' := [some (aR 49), some (aI l1), some (aI (l2 + 1))]) hv 27 rfl rfl rfl ?_
        refine r_goto (pc := 48) hv 28 rfl  ?_
        exact h
      · replace h := h.2 c
        exact (w_X9_worstTime_34 hS hv hw   l1 l2  σ3 h)
def vc_X9_worstTime_0 (S : Sp) (Φ : Rs) (v : Kt) (σ : St) : Prop := v 4 [some (aR 49), some (aI (-1)), some (aI 0)] [] σ
theorem w_X9_worstTime_0 {S : Sp} (hS : Sys S) {Φ : Rs} {v : Kt} (hv : Cl S Φ k_X9_worstTime v) (hw : Wk v) (σ : St) (h : vc_X9_worstTime_0 S Φ v  σ) : v 0 [some (aR 49), none, none] [] σ := by
  unfold vc_X9_worstTime_0 at h
  refine r_iconst (pc := 0) hv 0 rfl  ?_
  refine r_istore_n (pc := 1) (lo' := [some (aR 49), some (aI (-1)), none]) hv 1 rfl rfl ?_
  refine r_iconst (pc := 2) hv 2 rfl  ?_
  refine r_istore_n (pc := 3) (lo' := [some (aR 49), some (aI (-1)), some (aI 0)]) hv 3 rfl rfl ?_
  exact h
def vc_X9_worstShake_0 (S : Sp) (Φ : Rs) (v : Kt) (σ : St) : Prop := (¬ (σ.1 49 12 : Int32) = 0 → (S 183 [aR 49] σ (fun r σ1 => ∃ x2 : Int32, r = [aI x2] ∧ (S 182 [aR 49, aI x2] σ1 (fun r σ3 => ∃ x4 : Int32, r = [aI x4] ∧ (Φ [aI x4] σ3)))))) ∧ ((σ.1 49 12 : Int32) = 0 → (Φ [aI 0] σ))
theorem w_X9_worstShake_0 {S : Sp} (hS : Sys S) {Φ : Rs} {v : Kt} (hv : Cl S Φ k_X9_worstShake v) (hw : Wk v) (σ : St) (h : vc_X9_worstShake_0 S Φ v  σ) : v 0 [some (aR 49)] [] σ := by
  unfold vc_X9_worstShake_0 at h
  refine r_aload_n (pc := 0) hv 0 rfl rfl ?_
  refine r_getI (pc := 1) hv 1 rfl rfl rfl ?_
  refine r_if_ne (pc := 4) hv 2 rfl (fun c => ?_) (fun c => ?_)
  · replace h := h.1 c
    refine r_aload_n (pc := 11) hv 5 rfl rfl ?_
    refine r_aload_n (pc := 12) hv 6 rfl rfl ?_
    refine r_callV (pc := 13) (l := []) (av := []) (a := 49) (t := [aR 49]) hv 7 rfl rfl rfl rfl (rcv_o (by decide) rfl) trivial (hS.1 _ _ _ _ _ (fun r σ1 h => ?_) h)
    obtain ⟨x2, rfl, h⟩ := h
    show v 16 [some (aR 49)] [aI x2, aR 49] σ1
    refine r_callV (pc := 16) (l := [aI x2]) (av := [aI x2]) (a := 49) (t := []) hv 8 rfl rfl rfl rfl (rcv_o (by decide) rfl) trivial (hS.1 _ _ _ _ _ (fun r σ3 h => ?_) h)
    obtain ⟨x4, rfl, h⟩ := h
    show v 19 [some (aR 49)] [aI x4] σ3
    exact r_ireturn (pc := 19) hv 9 rfl rfl h
  · replace h := h.2 c
    refine r_iconst (pc := 7) hv 3 rfl  ?_
    refine r_goto (pc := 8) hv 4 rfl  ?_
    exact r_ireturn (pc := 19) hv 9 rfl rfl h
def vc_X9_over_38 (S : Sp) (Φ : Rs) (v : Kt) (l1 : Int32) (l2 : Int32) (s0 : Int32) (σ : St) : Prop := ((s0 : Int32) = 0 → (v 4 [some (aR 49), some (aI (l1 + 0)), some (aI (l2 + 1)), none] [] σ)) ∧ (¬ ((s0 : Int32) = 0) → (vp_in l2 40 ∧ (S 182 [aR 49, aI (σ.1 55 (l2 : Int32).toNatClampNeg)] σ (fun r σ1 => ∃ x2 : Int32, r = [aI x2] ∧ (vp_in 283 286 ∧ (((x2 : Int32) ≤ (σ1.1 50 (283 : Int32).toNatClampNeg) → (v 4 [some (aR 49), some (aI (l1 + 0)), some (aI (l2 + 1)), none] [] σ1)) ∧ (¬ ((x2 : Int32) ≤ (σ1.1 50 (283 : Int32).toNatClampNeg)) → (v 4 [some (aR 49), some (aI (l1 + 1)), some (aI (l2 + 1)), none] [] σ1))))))))
theorem w_X9_over_38 {S : Sp} (hS : Sys S) {Φ : Rs} {v : Kt} (hv : Cl S Φ k_X9_over v) (hw : Wk v) (l1 : Int32) (l2 : Int32) (s0 : Int32) (σ : St) (h : vc_X9_over_38 S Φ v l1 l2 s0 σ) : v 38 [some (aR 49), some (aI l1), some (aI l2), none] [aI s0] σ := by
  unfold vc_X9_over_38 at h
  refine r_istore_n (pc := 38) (lo' := [some (aR 49), some (aI l1), some (aI l2), some (aI s0)]) hv 24 rfl rfl ?_
  refine r_iload_n (pc := 39) hv 25 rfl rfl ?_
  refine r_iload_n (pc := 40) hv 26 rfl rfl ?_
  refine r_if_eq (pc := 41) hv 27 rfl (fun c => ?_) (fun c => ?_)
  · replace h := h.1 c
    refine r_iconst (pc := 69) hv 41 rfl  ?_
    refine r_iadd (pc := 70) hv 42 rfl  ?_
    refine r_istore_n (pc := 71) (lo' := [some (aR 49), some (aI (l1 + 0)), some (aI l2), some (aI s0)]) hv 43 rfl rfl ?_
    refine r_iinc (pc := 72) (lo' := [some (aR 49), some (aI (l1 + 0)), some (aI (l2 + 1)), some (aI s0)]) hv 44 rfl rfl rfl ?_
    refine r_goto (pc := 75) hv 45 rfl  ?_
    exact hw 4 [some (aR 49), some (aI (l1 + 0)), some (aI (l2 + 1)), none] _ _ _ ⟨rfl, ⟨rfl, ⟨rfl, trivial⟩⟩⟩ h
  · replace h := h.2 c
    refine r_aload_n (pc := 44) hv 28 rfl rfl ?_
    refine r_aload_n (pc := 45) hv 29 rfl rfl ?_
    refine r_getR (pc := 46) (b := 55) hv 30 rfl rfl rfl rfl ?_
    refine r_iload_n (pc := 49) hv 31 rfl rfl ?_
    refine r_iaload (pc := 50) (N := 40) hv 32 rfl rfl rfl (by decide) h.1 ?_
    replace h := h.2
    refine r_callV (pc := 51) (l := [aI (σ.1 55 (l2 : Int32).toNatClampNeg)]) (av := [aI (σ.1 55 (l2 : Int32).toNatClampNeg)]) (a := 49) (t := [aI l1]) hv 33 rfl rfl rfl rfl (rcv_o (by decide) rfl) trivial (hS.1 _ _ _ _ _ (fun r σ1 h => ?_) h)
    obtain ⟨x2, rfl, h⟩ := h
    show v 54 [some (aR 49), some (aI l1), some (aI l2), some (aI s0)] [aI x2, aI l1] σ1
    refine r_aload_n (pc := 54) hv 34 rfl rfl ?_
    refine r_getR (pc := 55) (b := 50) hv 35 rfl rfl rfl rfl ?_
    refine r_sipush (pc := 58) hv 36 rfl  ?_
    refine r_iaload (pc := 61) (N := 286) hv 37 rfl rfl rfl (by decide) h.1 ?_
    replace h := h.2
    refine r_icmp_le (pc := 62) hv 38 rfl (fun c => ?_) (fun c => ?_)
    · replace h := h.1 c
      refine r_iconst (pc := 69) hv 41 rfl  ?_
      refine r_iadd (pc := 70) hv 42 rfl  ?_
      refine r_istore_n (pc := 71) (lo' := [some (aR 49), some (aI (l1 + 0)), some (aI l2), some (aI s0)]) hv 43 rfl rfl ?_
      refine r_iinc (pc := 72) (lo' := [some (aR 49), some (aI (l1 + 0)), some (aI (l2 + 1)), some (aI s0)]) hv 44 rfl rfl rfl ?_
      refine r_goto (pc := 75) hv 45 rfl  ?_
      exact hw 4 [some (aR 49), some (aI (l1 + 0)), some (aI (l2 + 1)), none] _ _ _ ⟨rfl, ⟨rfl, ⟨rfl, trivial⟩⟩⟩ h
    · replace h := h.2 c
      refine r_iconst (pc := 65) hv 39 rfl  ?_
      refine r_goto (pc := 66) hv 40 rfl  ?_
      refine r_iadd (pc := 70) hv 42 rfl  ?_
      refine r_istore_n (pc := 71) (lo' := [some (aR 49), some (aI (l1 + 1)), some (aI l2), some (aI s0)]) hv 43 rfl rfl ?_
      refine r_iinc (pc := 72) (lo' := [some (aR 49), some (aI (l1 + 1)), some (aI (l2 + 1)), some (aI s0)]) hv 44 rfl rfl rfl ?_
      refine r_goto (pc := 75) hv 45 rfl  ?_
      exact hw 4 [some (aR 49), some (aI (l1 + 1)), some (aI (l2 + 1)), none] _ _ _ ⟨rfl, ⟨rfl, ⟨rfl, trivial⟩⟩⟩ h
def vc_X9_over_33 (S : Sp) (Φ : Rs) (v : Kt) (l1 : Int32) (l2 : Int32) (σ : St) : Prop := vc_X9_over_38 S Φ v  l1 l2 1 σ
theorem w_X9_over_33 {S : Sp} (hS : Sys S) {Φ : Rs} {v : Kt} (hv : Cl S Φ k_X9_over v) (hw : Wk v) (l1 : Int32) (l2 : Int32) (σ : St) (h : vc_X9_over_33 S Φ v l1 l2 σ) : v 33 [some (aR 49), some (aI l1), some (aI l2), none] [] σ := by
  unfold vc_X9_over_33 at h
  refine r_iconst (pc := 33) hv 21 rfl  ?_
  refine r_goto (pc := 34) hv 22 rfl  ?_
  exact (w_X9_over_38 hS hv hw   l1 l2 1  σ h)
def vc_X9_over_4 (S : Sp) (Φ : Rs) (v : Kt) (l1 : Int32) (l2 : Int32) (σ : St) : Prop := ((σ.1 49 12 : Int32) ≤ l2 → (Φ [aI l1] σ)) ∧ (¬ ((σ.1 49 12 : Int32) ≤ l2) → (((l2 : Int32) = 0 → (vc_X9_over_33 S Φ v  l1 l2 σ)) ∧ (¬ ((l2 : Int32) = 0) → (vp_in l2 40 ∧ (vp_in (l2 - 1) 40 ∧ (((σ.1 55 (l2 : Int32).toNatClampNeg : Int32) = (σ.1 55 (l2 - 1 : Int32).toNatClampNeg) → (vc_X9_over_38 S Φ v  l1 l2 0 σ)) ∧ (¬ ((σ.1 55 (l2 : Int32).toNatClampNeg : Int32) = (σ.1 55 (l2 - 1 : Int32).toNatClampNeg)) → (vc_X9_over_33 S Φ v  l1 l2 σ))))))))
theorem w_X9_over_4 {S : Sp} (hS : Sys S) {Φ : Rs} {v : Kt} (hv : Cl S Φ k_X9_over v) (hw : Wk v) (l1 : Int32) (l2 : Int32) (σ : St) (h : vc_X9_over_4 S Φ v l1 l2 σ) : v 4 [some (aR 49), some (aI l1), some (aI l2), none] [] σ := by
  unfold vc_X9_over_4 at h
  refine r_iload_n (pc := 4) hv 4 rfl rfl ?_
  refine r_aload_n (pc := 5) hv 5 rfl rfl ?_
  refine r_getI (pc := 6) hv 6 rfl rfl rfl ?_
  refine r_icmp_ge (pc := 9) hv 7 rfl (fun c => ?_) (fun c => ?_)
  · replace h := h.1 c
    refine r_iload_n (pc := 78) hv 46 rfl rfl ?_
    exact r_ireturn (pc := 79) hv 47 rfl rfl h
  · replace h := h.2 c
    refine r_iload_n (pc := 12) hv 8 rfl rfl ?_
    refine r_if_eq (pc := 13) hv 9 rfl (fun c => ?_) (fun c => ?_)
    · replace h := h.1 c
      exact (w_X9_over_33 hS hv hw   l1 l2  σ h)
    · replace h := h.2 c
      refine r_aload_n (pc := 16) hv 10 rfl rfl ?_
      refine r_getR (pc := 17) (b := 55) hv 11 rfl rfl rfl rfl ?_
      refine r_iload_n (pc := 20) hv 12 rfl rfl ?_
      refine r_iaload (pc := 21) (N := 40) hv 13 rfl rfl rfl (by decide) h.1 ?_
      replace h := h.2
      refine r_aload_n (pc := 22) hv 14 rfl rfl ?_
      refine r_getR (pc := 23) (b := 55) hv 15 rfl rfl rfl rfl ?_
      refine r_iload_n (pc := 26) hv 16 rfl rfl ?_
      refine r_iconst (pc := 27) hv 17 rfl  ?_
      refine r_isub (pc := 28) hv 18 rfl  ?_
      refine r_iaload (pc := 29) (N := 40) hv 19 rfl rfl rfl (by decide) h.1 ?_
      replace h := h.2
      refine r_icmp_eq (pc := 30) hv 20 rfl (fun c => ?_) (fun c => ?_)
      · replace h := h.1 c
        refine r_iconst (pc := 37) hv 23 rfl  ?_
        exact (w_X9_over_38 hS hv hw   l1 l2 0  σ h)
      · replace h := h.2 c
        exact (w_X9_over_33 hS hv hw   l1 l2  σ h)
def vc_X9_over_0 (S : Sp) (Φ : Rs) (v : Kt) (σ : St) : Prop := v 4 [some (aR 49), some (aI 0), some (aI 0), none] [] σ
theorem w_X9_over_0 {S : Sp} (hS : Sys S) {Φ : Rs} {v : Kt} (hv : Cl S Φ k_X9_over v) (hw : Wk v) (σ : St) (h : vc_X9_over_0 S Φ v  σ) : v 0 [some (aR 49), none, none, none] [] σ := by
  unfold vc_X9_over_0 at h
  refine r_iconst (pc := 0) hv 0 rfl  ?_
  refine r_istore_n (pc := 1) (lo' := [some (aR 49), some (aI 0), none, none]) hv 1 rfl rfl ?_
  refine r_iconst (pc := 2) hv 2 rfl  ?_
  refine r_istore_n (pc := 3) (lo' := [some (aR 49), some (aI 0), some (aI 0), none]) hv 3 rfl rfl ?_
  exact h
def vc_X9_lays_0 (S : Sp) (Φ : Rs) (v : Kt) (σ : St) : Prop := S 175 [aR 49] σ (fun r σ1 => r = [] ∧ (S 181 [aR 49, aI (σ1.1 49 7)] σ1 (fun r σ2 => r = [] ∧ (Φ [] σ2))))
theorem w_X9_lays_0 {S : Sp} (hS : Sys S) {Φ : Rs} {v : Kt} (hv : Cl S Φ k_X9_lays v) (hw : Wk v) (σ : St) (h : vc_X9_lays_0 S Φ v  σ) : v 0 [some (aR 49)] [] σ := by
  unfold vc_X9_lays_0 at h
  refine r_aload_n (pc := 0) hv 0 rfl rfl ?_
  refine r_callV (pc := 1) (l := []) (av := []) (a := 49) (t := []) hv 1 rfl rfl rfl rfl (rcv_o (by decide) rfl) trivial (hS.1 _ _ _ _ _ (fun r σ1 h => ?_) h)
  obtain ⟨rfl, h⟩ := h
  show v 4 [some (aR 49)] [] σ1
  refine r_aload_n (pc := 4) hv 2 rfl rfl ?_
  refine r_aload_n (pc := 5) hv 3 rfl rfl ?_
  refine r_getI (pc := 6) hv 4 rfl rfl rfl ?_
  refine r_callV (pc := 9) (l := [aI (σ1.1 49 7)]) (av := [aI (σ1.1 49 7)]) (a := 49) (t := []) hv 5 rfl rfl rfl rfl (rcv_o (by decide) rfl) trivial (hS.1 _ _ _ _ _ (fun r σ2 h => ?_) h)
  obtain ⟨rfl, h⟩ := h
  show v 12 [some (aR 49)] [] σ2
  exact r_return (pc := 12) hv 6 rfl h
def vc_X9_shot_0 (S : Sp) (Φ : Rs) (v : Kt) (l1 : Int32) (l2 : Int32) (σ : St) : Prop := S 186 [aR 49] σ (fun r σ1 => r = [] ∧ (S 143 [aL ((l1 : Int32).toInt64), aL 0, aL (((σ1.1 49 12) - 1 : Int32).toInt64)] σ1 (fun r σ2 => ∃ x3 : Int32, r = [aI x3] ∧ (((x3 : Int32) = 0 → (Φ [aI (-1)] σ2)) ∧ (¬ ((x3 : Int32) = 0) → (S 143 [aL ((l2 : Int32).toInt64), aL 0, aL 2] σ2 (fun r σ4 => ∃ x5 : Int32, r = [aI x5] ∧ ((¬ (x5 : Int32) = 0 → ((¬ (l2 : Int32) = 0 → ((¬ (l2 : Int32) = 1 → (vp_in l1 40 ∧ (Φ [aI (σ4.1 57 (l1 : Int32).toNatClampNeg)] σ4))) ∧ ((l2 : Int32) = 1 → (vp_in l1 40 ∧ (Φ [aI (σ4.1 56 (l1 : Int32).toNatClampNeg)] σ4))))) ∧ ((l2 : Int32) = 0 → (vp_in l1 40 ∧ (Φ [aI (σ4.1 55 (l1 : Int32).toNatClampNeg)] σ4))))) ∧ ((x5 : Int32) = 0 → (Φ [aI (-1)] σ4))))))))))
theorem w_X9_shot_0 {S : Sp} (hS : Sys S) {Φ : Rs} {v : Kt} (hv : Cl S Φ k_X9_shot v) (hw : Wk v) (l1 : Int32) (l2 : Int32) (σ : St) (h : vc_X9_shot_0 S Φ v l1 l2 σ) : v 0 [some (aR 49), some (aI l1), some (aI l2)] [] σ := by
  unfold vc_X9_shot_0 at h
  refine r_aload_n (pc := 0) hv 0 rfl rfl ?_
  refine r_callV (pc := 1) (l := []) (av := []) (a := 49) (t := []) hv 1 rfl rfl rfl rfl (rcv_o (by decide) rfl) trivial (hS.1 _ _ _ _ _ (fun r σ1 h => ?_) h)
  obtain ⟨rfl, h⟩ := h
  show v 4 [some (aR 49), some (aI l1), some (aI l2)] [] σ1
  refine r_iload_n (pc := 4) hv 2 rfl rfl ?_
  refine r_i2l (pc := 5) hv 3 rfl  ?_
  refine r_lconst (pc := 6) hv 4 rfl  ?_
  refine r_aload_n (pc := 7) hv 5 rfl rfl ?_
  refine r_getI (pc := 8) hv 6 rfl rfl rfl ?_
  refine r_iconst (pc := 11) hv 7 rfl  ?_
  refine r_isub (pc := 12) hv 8 rfl  ?_
  refine r_i2l (pc := 13) hv 9 rfl  ?_
  refine r_callS (pc := 14) (l := [aL (((σ1.1 49 12) - 1 : Int32).toInt64), aL 0, aL ((l1 : Int32).toInt64)]) (av := [aL ((l1 : Int32).toInt64), aL 0, aL (((σ1.1 49 12) - 1 : Int32).toInt64)]) (t := []) hv 10 rfl (Or.inl rfl) rfl rfl rfl trivial (hS.1 _ _ _ _ _ (fun r σ2 h => ?_) h)
  obtain ⟨x3, rfl, h⟩ := h
  show v 17 [some (aR 49), some (aI l1), some (aI l2)] [aI x3] σ2
  refine r_if_eq (pc := 17) hv 11 rfl (fun c => ?_) (fun c => ?_)
  · replace h := h.1 c
    refine r_iconst (pc := 32) hv 18 rfl  ?_
    exact r_ireturn (pc := 33) hv 19 rfl rfl h
  · replace h := h.2 c
    refine r_iload_n (pc := 20) hv 12 rfl rfl ?_
    refine r_i2l (pc := 21) hv 13 rfl  ?_
    refine r_lconst (pc := 22) hv 14 rfl  ?_
    refine r_ldc2_w (pc := 23) hv 15 rfl  ?_
    refine r_callS (pc := 26) (l := [aL 2, aL 0, aL ((l2 : Int32).toInt64)]) (av := [aL ((l2 : Int32).toInt64), aL 0, aL 2]) (t := []) hv 16 rfl (Or.inl rfl) rfl rfl rfl trivial (hS.1 _ _ _ _ _ (fun r σ4 h => ?_) h)
    obtain ⟨x5, rfl, h⟩ := h
    show v 29 [some (aR 49), some (aI l1), some (aI l2)] [aI x5] σ4
    refine r_if_ne (pc := 29) hv 17 rfl (fun c => ?_) (fun c => ?_)
    · replace h := h.1 c
      refine r_iload_n (pc := 34) hv 20 rfl rfl ?_
      refine r_if_ne (pc := 35) hv 21 rfl (fun c => ?_) (fun c => ?_)
      · replace h := h.1 c
        refine r_iload_n (pc := 47) hv 27 rfl rfl ?_
        refine r_iconst (pc := 48) hv 28 rfl  ?_
        refine r_icmp_ne (pc := 49) hv 29 rfl (fun c => ?_) (fun c => ?_)
        · replace h := h.1 c
          refine r_aload_n (pc := 61) hv 35 rfl rfl ?_
          refine r_getR (pc := 62) (b := 57) hv 36 rfl rfl rfl rfl ?_
          refine r_iload_n (pc := 65) hv 37 rfl rfl ?_
          refine r_iaload (pc := 66) (N := 40) hv 38 rfl rfl rfl (by decide) h.1 ?_
          replace h := h.2
          exact r_ireturn (pc := 67) hv 39 rfl rfl h
        · replace h := h.2 c
          refine r_aload_n (pc := 52) hv 30 rfl rfl ?_
          refine r_getR (pc := 53) (b := 56) hv 31 rfl rfl rfl rfl ?_
          refine r_iload_n (pc := 56) hv 32 rfl rfl ?_
          refine r_iaload (pc := 57) (N := 40) hv 33 rfl rfl rfl (by decide) h.1 ?_
          replace h := h.2
          refine r_goto (pc := 58) hv 34 rfl  ?_
          exact r_ireturn (pc := 67) hv 39 rfl rfl h
      · replace h := h.2 c
        refine r_aload_n (pc := 38) hv 22 rfl rfl ?_
        refine r_getR (pc := 39) (b := 55) hv 23 rfl rfl rfl rfl ?_
        refine r_iload_n (pc := 42) hv 24 rfl rfl ?_
        refine r_iaload (pc := 43) (N := 40) hv 25 rfl rfl rfl (by decide) h.1 ?_
        replace h := h.2
        refine r_goto (pc := 44) hv 26 rfl  ?_
        exact r_ireturn (pc := 67) hv 39 rfl rfl h
    · replace h := h.2 c
      refine r_iconst (pc := 32) hv 18 rfl  ?_
      exact r_ireturn (pc := 33) hv 19 rfl rfl h
def vc_X9_shake_0 (S : Sp) (Φ : Rs) (v : Kt) (l1 : Int32) (σ : St) : Prop := S 143 [aL ((l1 : Int32).toInt64), aL 0, aL 99999] σ (fun r σ1 => ∃ x2 : Int32, r = [aI x2] ∧ ((¬ (x2 : Int32) = 0 → (S 186 [aR 49] σ1 (fun r σ3 => r = [] ∧ (S 182 [aR 49, aI l1] σ3 (fun r σ4 => ∃ x5 : Int32, r = [aI x5] ∧ (Φ [aI x5] σ4)))))) ∧ ((x2 : Int32) = 0 → (Φ [aI (-2)] σ1))))
theorem w_X9_shake_0 {S : Sp} (hS : Sys S) {Φ : Rs} {v : Kt} (hv : Cl S Φ k_X9_shake v) (hw : Wk v) (l1 : Int32) (σ : St) (h : vc_X9_shake_0 S Φ v l1 σ) : v 0 [some (aR 49), some (aI l1)] [] σ := by
  unfold vc_X9_shake_0 at h
  refine r_iload_n (pc := 0) hv 0 rfl rfl ?_
  refine r_i2l (pc := 1) hv 1 rfl  ?_
  refine r_lconst (pc := 2) hv 2 rfl  ?_
  refine r_ldc2_w (pc := 3) hv 3 rfl  ?_
  refine r_callS (pc := 6) (l := [aL 99999, aL 0, aL ((l1 : Int32).toInt64)]) (av := [aL ((l1 : Int32).toInt64), aL 0, aL 99999]) (t := []) hv 4 rfl (Or.inl rfl) rfl rfl rfl trivial (hS.1 _ _ _ _ _ (fun r σ1 h => ?_) h)
  obtain ⟨x2, rfl, h⟩ := h
  show v 9 [some (aR 49), some (aI l1)] [aI x2] σ1
  refine r_if_ne (pc := 9) hv 5 rfl (fun c => ?_) (fun c => ?_)
  · replace h := h.1 c
    refine r_aload_n (pc := 15) hv 8 rfl rfl ?_
    refine r_callV (pc := 16) (l := []) (av := []) (a := 49) (t := []) hv 9 rfl rfl rfl rfl (rcv_o (by decide) rfl) trivial (hS.1 _ _ _ _ _ (fun r σ3 h => ?_) h)
    obtain ⟨rfl, h⟩ := h
    show v 19 [some (aR 49), some (aI l1)] [] σ3
    refine r_aload_n (pc := 19) hv 10 rfl rfl ?_
    refine r_iload_n (pc := 20) hv 11 rfl rfl ?_
    refine r_callV (pc := 21) (l := [aI l1]) (av := [aI l1]) (a := 49) (t := []) hv 12 rfl rfl rfl rfl (rcv_o (by decide) rfl) trivial (hS.1 _ _ _ _ _ (fun r σ4 h => ?_) h)
    obtain ⟨x5, rfl, h⟩ := h
    show v 24 [some (aR 49), some (aI l1)] [aI x5] σ4
    exact r_ireturn (pc := 24) hv 13 rfl rfl h
  · replace h := h.2 c
    refine r_bipush (pc := 12) hv 6 rfl  ?_
    exact r_ireturn (pc := 14) hv 7 rfl rfl h
def vc_X9_worst_0 (S : Sp) (Φ : Rs) (v : Kt) (l1 : Int32) (σ : St) : Prop := S 143 [aL ((l1 : Int32).toInt64), aL 0, aL 3] σ (fun r σ1 => ∃ x2 : Int32, r = [aI x2] ∧ ((¬ (x2 : Int32) = 0 → (S 186 [aR 49] σ1 (fun r σ3 => r = [] ∧ ((¬ (l1 : Int32) = 0 → ((¬ (l1 : Int32) = 1 → ((¬ (l1 : Int32) = 2 → (Φ [aI (σ3.1 49 12)] σ3)) ∧ ((l1 : Int32) = 2 → (S 185 [aR 49] σ3 (fun r σ4 => ∃ x5 : Int32, r = [aI x5] ∧ (Φ [aI x5] σ4)))))) ∧ ((l1 : Int32) = 1 → (S 183 [aR 49] σ3 (fun r σ6 => ∃ x7 : Int32, r = [aI x7] ∧ (Φ [aI x7] σ6)))))) ∧ ((l1 : Int32) = 0 → (S 184 [aR 49] σ3 (fun r σ8 => ∃ x9 : Int32, r = [aI x9] ∧ (Φ [aI x9] σ8)))))))) ∧ ((x2 : Int32) = 0 → (Φ [aI (-1)] σ1))))
theorem w_X9_worst_0 {S : Sp} (hS : Sys S) {Φ : Rs} {v : Kt} (hv : Cl S Φ k_X9_worst v) (hw : Wk v) (l1 : Int32) (σ : St) (h : vc_X9_worst_0 S Φ v l1 σ) : v 0 [some (aR 49), some (aI l1)] [] σ := by
  unfold vc_X9_worst_0 at h
  refine r_iload_n (pc := 0) hv 0 rfl rfl ?_
  refine r_i2l (pc := 1) hv 1 rfl  ?_
  refine r_lconst (pc := 2) hv 2 rfl  ?_
  refine r_ldc2_w (pc := 3) hv 3 rfl  ?_
  refine r_callS (pc := 6) (l := [aL 3, aL 0, aL ((l1 : Int32).toInt64)]) (av := [aL ((l1 : Int32).toInt64), aL 0, aL 3]) (t := []) hv 4 rfl (Or.inl rfl) rfl rfl rfl trivial (hS.1 _ _ _ _ _ (fun r σ1 h => ?_) h)
  obtain ⟨x2, rfl, h⟩ := h
  show v 9 [some (aR 49), some (aI l1)] [aI x2] σ1
  refine r_if_ne (pc := 9) hv 5 rfl (fun c => ?_) (fun c => ?_)
  · replace h := h.1 c
    refine r_aload_n (pc := 14) hv 8 rfl rfl ?_
    refine r_callV (pc := 15) (l := []) (av := []) (a := 49) (t := []) hv 9 rfl rfl rfl rfl (rcv_o (by decide) rfl) trivial (hS.1 _ _ _ _ _ (fun r σ3 h => ?_) h)
    obtain ⟨rfl, h⟩ := h
    show v 18 [some (aR 49), some (aI l1)] [] σ3
    refine r_iload_n (pc := 18) hv 10 rfl rfl ?_
    refine r_if_ne (pc := 19) hv 11 rfl (fun c => ?_) (fun c => ?_)
    · replace h := h.1 c
      refine r_iload_n (pc := 29) hv 15 rfl rfl ?_
      refine r_iconst (pc := 30) hv 16 rfl  ?_
      refine r_icmp_ne (pc := 31) hv 17 rfl (fun c => ?_) (fun c => ?_)
      · replace h := h.1 c
        refine r_iload_n (pc := 41) hv 21 rfl rfl ?_
        refine r_iconst (pc := 42) hv 22 rfl  ?_
        refine r_icmp_ne (pc := 43) hv 23 rfl (fun c => ?_) (fun c => ?_)
        · replace h := h.1 c
          refine r_aload_n (pc := 53) hv 27 rfl rfl ?_
          refine r_getI (pc := 54) hv 28 rfl rfl rfl ?_
          exact r_ireturn (pc := 57) hv 29 rfl rfl h
        · replace h := h.2 c
          refine r_aload_n (pc := 46) hv 24 rfl rfl ?_
          refine r_callV (pc := 47) (l := []) (av := []) (a := 49) (t := []) hv 25 rfl rfl rfl rfl (rcv_o (by decide) rfl) trivial (hS.1 _ _ _ _ _ (fun r σ4 h => ?_) h)
          obtain ⟨x5, rfl, h⟩ := h
          show v 50 [some (aR 49), some (aI l1)] [aI x5] σ4
          refine r_goto (pc := 50) hv 26 rfl  ?_
          exact r_ireturn (pc := 57) hv 29 rfl rfl h
      · replace h := h.2 c
        refine r_aload_n (pc := 34) hv 18 rfl rfl ?_
        refine r_callV (pc := 35) (l := []) (av := []) (a := 49) (t := []) hv 19 rfl rfl rfl rfl (rcv_o (by decide) rfl) trivial (hS.1 _ _ _ _ _ (fun r σ6 h => ?_) h)
        obtain ⟨x7, rfl, h⟩ := h
        show v 38 [some (aR 49), some (aI l1)] [aI x7] σ6
        refine r_goto (pc := 38) hv 20 rfl  ?_
        exact r_ireturn (pc := 57) hv 29 rfl rfl h
    · replace h := h.2 c
      refine r_aload_n (pc := 22) hv 12 rfl rfl ?_
      refine r_callV (pc := 23) (l := []) (av := []) (a := 49) (t := []) hv 13 rfl rfl rfl rfl (rcv_o (by decide) rfl) trivial (hS.1 _ _ _ _ _ (fun r σ8 h => ?_) h)
      obtain ⟨x9, rfl, h⟩ := h
      show v 26 [some (aR 49), some (aI l1)] [aI x9] σ8
      refine r_goto (pc := 26) hv 14 rfl  ?_
      exact r_ireturn (pc := 57) hv 29 rfl rfl h
  · replace h := h.2 c
    refine r_iconst (pc := 12) hv 6 rfl  ?_
    exact r_ireturn (pc := 13) hv 7 rfl rfl h
def vc_X9_safe_21 (S : Sp) (Φ : Rs) (v : Kt) (l1 : Int32) (l2 : Int32) (σ : St) : Prop := S 184 [aR 49] σ (fun r σ1 => ∃ x2 : Int32, r = [aI x2] ∧ (((l1 * x2 : Int32) ≤ (l2 * l2) → (Φ [aI l2] σ1)) ∧ (¬ ((l1 * x2 : Int32) ≤ (l2 * l2)) → (v 21 [some (aR 49), some (aI l1), some (aI (l2 + 1))] [] σ1))))
theorem w_X9_safe_21 {S : Sp} (hS : Sys S) {Φ : Rs} {v : Kt} (hv : Cl S Φ k_X9_safe v) (hw : Wk v) (l1 : Int32) (l2 : Int32) (σ : St) (h : vc_X9_safe_21 S Φ v l1 l2 σ) : v 21 [some (aR 49), some (aI l1), some (aI l2)] [] σ := by
  unfold vc_X9_safe_21 at h
  refine r_iload_n (pc := 21) hv 12 rfl rfl ?_
  refine r_iload_n (pc := 22) hv 13 rfl rfl ?_
  refine r_imul (pc := 23) hv 14 rfl  ?_
  refine r_iload_n (pc := 24) hv 15 rfl rfl ?_
  refine r_aload_n (pc := 25) hv 16 rfl rfl ?_
  refine r_callV (pc := 26) (l := []) (av := []) (a := 49) (t := [aI l1, aI (l2 * l2)]) hv 17 rfl rfl rfl rfl (rcv_o (by decide) rfl) trivial (hS.1 _ _ _ _ _ (fun r σ1 h => ?_) h)
  obtain ⟨x2, rfl, h⟩ := h
  show v 29 [some (aR 49), some (aI l1), some (aI l2)] [aI x2, aI l1, aI (l2 * l2)] σ1
  refine r_imul (pc := 29) hv 18 rfl  ?_
  refine r_icmp_ge (pc := 30) hv 19 rfl (fun c => ?_) (fun c => ?_)
  · replace h := h.1 c
    refine r_iload_n (pc := 39) hv 22 rfl rfl ?_
    exact r_ireturn (pc := 40) hv 23 rfl rfl h
  · replace h := h.2 c
    refine r_iinc (pc := 33) (lo' := [some (aR 49), some (aI l1), some (aI (l2 + 1))]) hv 20 rfl rfl rfl ?_
    refine r_goto (pc := 36) hv 21 rfl  ?_
    exact h
def vc_X9_safe_0 (S : Sp) (Φ : Rs) (v : Kt) (l1 : Int32) (σ : St) : Prop := S 143 [aL ((l1 : Int32).toInt64), aL 0, aL 1000] σ (fun r σ1 => ∃ x2 : Int32, r = [aI x2] ∧ ((¬ (x2 : Int32) = 0 → (S 186 [aR 49] σ1 (fun r σ3 => r = [] ∧ (v 21 [some (aR 49), some (aI l1), some (aI 0)] [] σ3)))) ∧ ((x2 : Int32) = 0 → (Φ [aI (-2)] σ1))))
theorem w_X9_safe_0 {S : Sp} (hS : Sys S) {Φ : Rs} {v : Kt} (hv : Cl S Φ k_X9_safe v) (hw : Wk v) (l1 : Int32) (σ : St) (h : vc_X9_safe_0 S Φ v l1 σ) : v 0 [some (aR 49), some (aI l1), none] [] σ := by
  unfold vc_X9_safe_0 at h
  refine r_iload_n (pc := 0) hv 0 rfl rfl ?_
  refine r_i2l (pc := 1) hv 1 rfl  ?_
  refine r_lconst (pc := 2) hv 2 rfl  ?_
  refine r_ldc2_w (pc := 3) hv 3 rfl  ?_
  refine r_callS (pc := 6) (l := [aL 1000, aL 0, aL ((l1 : Int32).toInt64)]) (av := [aL ((l1 : Int32).toInt64), aL 0, aL 1000]) (t := []) hv 4 rfl (Or.inl rfl) rfl rfl rfl trivial (hS.1 _ _ _ _ _ (fun r σ1 h => ?_) h)
  obtain ⟨x2, rfl, h⟩ := h
  show v 9 [some (aR 49), some (aI l1), none] [aI x2] σ1
  refine r_if_ne (pc := 9) hv 5 rfl (fun c => ?_) (fun c => ?_)
  · replace h := h.1 c
    refine r_aload_n (pc := 15) hv 8 rfl rfl ?_
    refine r_callV (pc := 16) (l := []) (av := []) (a := 49) (t := []) hv 9 rfl rfl rfl rfl (rcv_o (by decide) rfl) trivial (hS.1 _ _ _ _ _ (fun r σ3 h => ?_) h)
    obtain ⟨rfl, h⟩ := h
    show v 19 [some (aR 49), some (aI l1), none] [] σ3
    refine r_iconst (pc := 19) hv 10 rfl  ?_
    refine r_istore_n (pc := 20) (lo' := [some (aR 49), some (aI l1), some (aI 0)]) hv 11 rfl rfl ?_
    exact h
  · replace h := h.2 c
    refine r_bipush (pc := 12) hv 6 rfl  ?_
    exact r_ireturn (pc := 14) hv 7 rfl rfl h
