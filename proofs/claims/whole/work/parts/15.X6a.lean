def vc_X6_renew_0 (S : Sp) (Φ : Rs) (v : Kt) (l1 : Int32) (l2 : Int32) (σ : St) : Prop := vp_in l1 4 ∧ (∀ σ1 : St, σ1 = upI σ 47 (l1 : Int32).toNatClampNeg l2 → (vp_in l1 4 ∧ (S 240 [aR (43 + (l1 : Int32).toNatClampNeg), aL 0] σ1 (fun r σ2 => r = [] ∧ (Φ [] σ2)))))
theorem w_X6_renew_0 {S : Sp} (hS : Sys S) {Φ : Rs} {v : Kt} (hv : Cl S Φ k_X6_renew v) (hw : Wk v) (l1 : Int32) (l2 : Int32) (σ : St) (h : vc_X6_renew_0 S Φ v l1 l2 σ) : v 0 [some (aR 41), some (aI l1), some (aI l2)] [] σ := by
  unfold vc_X6_renew_0 at h
  refine r_aload_n (pc := 0) hv 0 rfl rfl ?_
  refine r_getR (pc := 1) (b := 47) hv 1 rfl rfl rfl rfl ?_
  refine r_iload_n (pc := 4) hv 2 rfl rfl ?_
  refine r_iload_n (pc := 5) hv 3 rfl rfl ?_
  refine r_iastore (pc := 6) (N := 4) hv 4 rfl rfl rfl h.1 ?_
  replace h := h.2
  obtain ⟨σ1, e_σ1⟩ : ∃ y : St, y = upI σ 47 (l1 : Int32).toNatClampNeg l2 := ⟨_, rfl⟩
  rw [← e_σ1]
  replace h := h σ1 e_σ1
  refine r_aload_n (pc := 7) hv 5 rfl rfl ?_
  refine r_getR (pc := 8) (b := 42) hv 6 rfl rfl rfl rfl ?_
  refine r_iload_n (pc := 11) hv 7 rfl rfl ?_
  have hrow12 := h.1
  refine r_aaload (pc := 12) hv 8 rfl rfl h.1 ?_
  replace h := h.2
  refine r_lconst (pc := 13) hv 9 rfl  ?_
  refine r_callS (pc := 14) (l := [aL 0, aR (43 + (l1 : Int32).toNatClampNeg)]) (av := [aR (43 + (l1 : Int32).toNatClampNeg), aL 0]) (t := []) hv 10 rfl (Or.inl rfl) rfl rfl rfl trivial (hS.1 _ _ _ _ _ (fun r σ2 h => ?_) h)
  obtain ⟨rfl, h⟩ := h
  show v 17 [some (aR 41), some (aI l1), some (aI l2)] [] σ2
  exact r_return (pc := 17) hv 11 rfl h
theorem m_X6_renew {S : Sp} (hS : Sys S) {l1 : Int32} {l2 : Int32} {σ : St} {Φ : Rs} (h : ∀ v : Kt, Cl S Φ k_X6_renew v → Wk v → vc_X6_renew_0 S Φ v l1 l2 σ) : S 79 [aR 41, aI l1, aI l2] σ Φ :=
  hS.2 79 M_X6_renew k_X6_renew _ _ _ mkt_X6_renew (Nat.le_of_ble_eq_true rfl) (fun v hv hw => w_X6_renew_0 hS hv hw   l1 l2 σ (h v hv hw))
def vc_X6_copyIn_15 (S : Sp) (Φ : Rs) (v : Kt) (l1 : Int32) (l3 : Int32) (l4 : Int32) (l5 : Int32) (σ : St) : Prop := ((l4 : Int32) ≤ l5 → (Φ [aI l4] σ)) ∧ (¬ ((l4 : Int32) ≤ l5) → (vp_in l1 4 ∧ (vp_in l5 40 ∧ (vp_in l5 40 ∧ (∀ σ1 : St, σ1 = upJ σ (43 + (l1 : Int32).toNatClampNeg) (l5 : Int32).toNatClampNeg ((σ.1 48 (l5 : Int32).toNatClampNeg : Int32).toInt64) → (v 15 [some (aR 41), some (aI l1), some (aR 48), some (aI l3), some (aI l4), some (aI (l5 + 1))] [] σ1))))))
theorem w_X6_copyIn_15 {S : Sp} (hS : Sys S) {Φ : Rs} {v : Kt} (hv : Cl S Φ k_X6_copyIn v) (hw : Wk v) (l1 : Int32) (l3 : Int32) (l4 : Int32) (l5 : Int32) (σ : St) (h : vc_X6_copyIn_15 S Φ v l1 l3 l4 l5 σ) : v 15 [some (aR 41), some (aI l1), some (aR 48), some (aI l3), some (aI l4), some (aI l5)] [] σ := by
  unfold vc_X6_copyIn_15 at h
  refine r_iload (pc := 15) hv 9 rfl rfl ?_
  refine r_iload (pc := 17) hv 10 rfl rfl ?_
  refine r_icmp_ge (pc := 19) hv 11 rfl (fun c => ?_) (fun c => ?_)
  · replace h := h.1 c
    refine r_iload (pc := 42) hv 24 rfl rfl ?_
    exact r_ireturn (pc := 44) hv 25 rfl rfl h
  · replace h := h.2 c
    refine r_aload_n (pc := 22) hv 12 rfl rfl ?_
    refine r_getR (pc := 23) (b := 42) hv 13 rfl rfl rfl rfl ?_
    refine r_iload_n (pc := 26) hv 14 rfl rfl ?_
    have hrow27 := h.1
    refine r_aaload (pc := 27) hv 15 rfl rfl h.1 ?_
    replace h := h.2
    refine r_iload (pc := 28) hv 16 rfl rfl ?_
    refine r_aload_n (pc := 30) hv 17 rfl rfl ?_
    refine r_iload (pc := 31) hv 18 rfl rfl ?_
    refine r_iaload (pc := 33) (N := 40) hv 19 rfl rfl rfl (by decide) h.1 ?_
    replace h := h.2
    refine r_i2l (pc := 34) hv 20 rfl  ?_
    refine r_lastore (pc := 35) (N := 40) hv 21 rfl (row_t hrow27) (row_l hrow27) h.1 ?_
    replace h := h.2
    obtain ⟨σ1, e_σ1⟩ : ∃ y : St, y = upJ σ (43 + (l1 : Int32).toNatClampNeg) (l5 : Int32).toNatClampNeg ((σ.1 48 (l5 : Int32).toNatClampNeg : Int32).toInt64) := ⟨_, rfl⟩
    rw [← e_σ1]
    replace h := h σ1 e_σ1
    refine r_iinc (pc := 36) (lo' := [some (aR 41), some (aI l1), some (aR 48), some (aI l3), some (aI l4), some (aI (l5 + 1))]) hv 22 rfl rfl rfl ?_
    refine r_goto (pc := 39) hv 23 rfl  ?_
    exact h
def vc_X6_copyIn_0 (S : Sp) (Φ : Rs) (v : Kt) (l1 : Int32) (l3 : Int32) (σ : St) : Prop := vp_in l1 4 ∧ (v 15 [some (aR 41), some (aI l1), some (aR 48), some (aI l3), some (aI (if (σ.1 47 (l1 : Int32).toNatClampNeg : Int32) < l3 then (σ.1 47 (l1 : Int32).toNatClampNeg) else l3)), some (aI 0)] [] σ)
theorem w_X6_copyIn_0 {S : Sp} (hS : Sys S) {Φ : Rs} {v : Kt} (hv : Cl S Φ k_X6_copyIn v) (hw : Wk v) (l1 : Int32) (l3 : Int32) (σ : St) (h : vc_X6_copyIn_0 S Φ v l1 l3 σ) : v 0 [some (aR 41), some (aI l1), some (aR 48), some (aI l3), none, none] [] σ := by
  unfold vc_X6_copyIn_0 at h
  refine r_iload_n (pc := 0) hv 0 rfl rfl ?_
  refine r_aload_n (pc := 1) hv 1 rfl rfl ?_
  refine r_getR (pc := 2) (b := 47) hv 2 rfl rfl rfl rfl ?_
  refine r_iload_n (pc := 5) hv 3 rfl rfl ?_
  refine r_iaload (pc := 6) (N := 4) hv 4 rfl rfl rfl (by decide) h.1 ?_
  replace h := h.2
  refine r_min (pc := 7) hv 5 rfl rfl trivial ?_
  refine r_istore (pc := 10) (lo' := [some (aR 41), some (aI l1), some (aR 48), some (aI l3), some (aI (if (σ.1 47 (l1 : Int32).toNatClampNeg : Int32) < l3 then (σ.1 47 (l1 : Int32).toNatClampNeg) else l3)), none]) hv 6 rfl rfl ?_
  refine r_iconst (pc := 12) hv 7 rfl  ?_
  refine r_istore (pc := 13) (lo' := [some (aR 41), some (aI l1), some (aR 48), some (aI l3), some (aI (if (σ.1 47 (l1 : Int32).toNatClampNeg : Int32) < l3 then (σ.1 47 (l1 : Int32).toNatClampNeg) else l3)), some (aI 0)]) hv 8 rfl rfl ?_
  exact h
theorem m_X6_copyIn {S : Sp} (hS : Sys S) {l1 : Int32} {l3 : Int32} {σ : St} {Φ : Rs} (h : ∀ v : Kt, Cl S Φ k_X6_copyIn v → Wk v → vc_X6_copyIn_0 S Φ v l1 l3 σ) : S 80 [aR 41, aI l1, aR 48, aI l3] σ Φ :=
  hS.2 80 M_X6_copyIn k_X6_copyIn _ _ _ mkt_X6_copyIn (Nat.le_of_ble_eq_true rfl) (fun v hv hw => w_X6_copyIn_0 hS hv hw   l1 l3 σ (h v hv hw))
def vc_X6_firstOther_3 (S : Sp) (Φ : Rs) (v : Kt) (l1 : Int32) (l3 : Int32) (l4 : Int32) (σ : St) : Prop := vp_in l1 4 ∧ (((σ.1 47 (l1 : Int32).toNatClampNeg : Int32) ≤ l4 → (Φ [aI (-1)] σ)) ∧ (¬ ((σ.1 47 (l1 : Int32).toNatClampNeg : Int32) ≤ l4) → (((l3 : Int32) ≤ l4 → (Φ [aI l4] σ)) ∧ (¬ ((l3 : Int32) ≤ l4) → (vp_in l1 4 ∧ (vp_in l4 40 ∧ (vp_in l4 40 ∧ (((lg_cmp (σ.2 (43 + (l1 : Int32).toNatClampNeg) (l4 : Int32).toNatClampNeg) ((σ.1 48 (l4 : Int32).toNatClampNeg : Int32).toInt64) : Int32) = 0 → (v 3 [some (aR 41), some (aI l1), some (aR 48), some (aI l3), some (aI (l4 + 1))] [] σ)) ∧ (¬ ((lg_cmp (σ.2 (43 + (l1 : Int32).toNatClampNeg) (l4 : Int32).toNatClampNeg) ((σ.1 48 (l4 : Int32).toNatClampNeg : Int32).toInt64) : Int32) = 0) → (Φ [aI l4] σ))))))))))
theorem w_X6_firstOther_3 {S : Sp} (hS : Sys S) {Φ : Rs} {v : Kt} (hv : Cl S Φ k_X6_firstOther v) (hw : Wk v) (l1 : Int32) (l3 : Int32) (l4 : Int32) (σ : St) (h : vc_X6_firstOther_3 S Φ v l1 l3 l4 σ) : v 3 [some (aR 41), some (aI l1), some (aR 48), some (aI l3), some (aI l4)] [] σ := by
  unfold vc_X6_firstOther_3 at h
  refine r_iload (pc := 3) hv 2 rfl rfl ?_
  refine r_aload_n (pc := 5) hv 3 rfl rfl ?_
  refine r_getR (pc := 6) (b := 47) hv 4 rfl rfl rfl rfl ?_
  refine r_iload_n (pc := 9) hv 5 rfl rfl ?_
  refine r_iaload (pc := 10) (N := 4) hv 6 rfl rfl rfl (by decide) h.1 ?_
  replace h := h.2
  refine r_icmp_ge (pc := 11) hv 7 rfl (fun c => ?_) (fun c => ?_)
  · replace h := h.1 c
    refine r_iconst (pc := 47) hv 27 rfl  ?_
    exact r_ireturn (pc := 48) hv 28 rfl rfl h
  · replace h := h.2 c
    refine r_iload (pc := 14) hv 8 rfl rfl ?_
    refine r_iload_n (pc := 16) hv 9 rfl rfl ?_
    refine r_icmp_ge (pc := 17) hv 10 rfl (fun c => ?_) (fun c => ?_)
    · replace h := h.1 c
      refine r_iload (pc := 38) hv 23 rfl rfl ?_
      exact r_ireturn (pc := 40) hv 24 rfl rfl h
    · replace h := h.2 c
      refine r_aload_n (pc := 20) hv 11 rfl rfl ?_
      refine r_getR (pc := 21) (b := 42) hv 12 rfl rfl rfl rfl ?_
      refine r_iload_n (pc := 24) hv 13 rfl rfl ?_
      have hrow25 := h.1
      refine r_aaload (pc := 25) hv 14 rfl rfl h.1 ?_
      replace h := h.2
      refine r_iload (pc := 26) hv 15 rfl rfl ?_
      refine r_laload (pc := 28) (N := 40) hv 16 rfl (row_t hrow25) (row_l hrow25) h.1 ?_
      replace h := h.2
      refine r_aload_n (pc := 29) hv 17 rfl rfl ?_
      refine r_iload (pc := 30) hv 18 rfl rfl ?_
      refine r_iaload (pc := 32) (N := 40) hv 19 rfl rfl rfl (by decide) h.1 ?_
      replace h := h.2
      refine r_i2l (pc := 33) hv 20 rfl  ?_
      refine r_lcmp (pc := 34) hv 21 rfl  ?_
      refine r_if_eq (pc := 35) hv 22 rfl (fun c => ?_) (fun c => ?_)
      · replace h := h.1 c
        refine r_iinc (pc := 41) (lo' := [some (aR 41), some (aI l1), some (aR 48), some (aI l3), some (aI (l4 + 1))]) hv 25 rfl rfl rfl ?_
        refine r_goto (pc := 44) hv 26 rfl  ?_
        exact h
      · replace h := h.2 c
        refine r_iload (pc := 38) hv 23 rfl rfl ?_
        exact r_ireturn (pc := 40) hv 24 rfl rfl h
def vc_X6_firstOther_0 (S : Sp) (Φ : Rs) (v : Kt) (l1 : Int32) (l3 : Int32) (σ : St) : Prop := v 3 [some (aR 41), some (aI l1), some (aR 48), some (aI l3), some (aI 0)] [] σ
theorem w_X6_firstOther_0 {S : Sp} (hS : Sys S) {Φ : Rs} {v : Kt} (hv : Cl S Φ k_X6_firstOther v) (hw : Wk v) (l1 : Int32) (l3 : Int32) (σ : St) (h : vc_X6_firstOther_0 S Φ v l1 l3 σ) : v 0 [some (aR 41), some (aI l1), some (aR 48), some (aI l3), none] [] σ := by
  unfold vc_X6_firstOther_0 at h
  refine r_iconst (pc := 0) hv 0 rfl  ?_
  refine r_istore (pc := 1) (lo' := [some (aR 41), some (aI l1), some (aR 48), some (aI l3), some (aI 0)]) hv 1 rfl rfl ?_
  exact h
theorem m_X6_firstOther {S : Sp} (hS : Sys S) {l1 : Int32} {l3 : Int32} {σ : St} {Φ : Rs} (h : ∀ v : Kt, Cl S Φ k_X6_firstOther v → Wk v → vc_X6_firstOther_0 S Φ v l1 l3 σ) : S 81 [aR 41, aI l1, aR 48, aI l3] σ Φ :=
  hS.2 81 M_X6_firstOther k_X6_firstOther _ _ _ mkt_X6_firstOther (Nat.le_of_ble_eq_true rfl) (fun v hv hw => w_X6_firstOther_0 hS hv hw   l1 l3 σ (h v hv hw))
