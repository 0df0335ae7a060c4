def vc_X9_plans__19 (S : Sp) (Φ : Rs) (v : Kt) (l1 : Int32) (l2 : Int32) (σ : St) : Prop := vp_in 280 286 ∧ (((σ.1 50 (280 : Int32).toNatClampNeg : Int32) ≤ l2 → (v 11 [some (aR 49), some (aI (l1 + 1)), none] [] σ)) ∧ (¬ ((σ.1 50 (280 : Int32).toNatClampNeg : Int32) ≤ l2) → (((b2 (((σ.1 49 7 : Int32) >>> (l2 &&& 31)) &&& 1 = 1) : Int32) = 0 → (v 19 [some (aR 49), some (aI l1), some (aI (l2 + 1))] [] σ)) ∧ (¬ ((b2 (((σ.1 49 7 : Int32) >>> (l2 &&& 31)) &&& 1 = 1) : Int32) = 0) → (vp_in (8 * l2 + 0) 286 ∧ (vp_in (8 * l2 + 1) 286 ∧ ((¬ ((10 * (σ.1 50 (8 * l2 + 0 : Int32).toNatClampNeg)) + (σ.1 50 (8 * l2 + 1 : Int32).toNatClampNeg) : Int32) = l1 → (v 19 [some (aR 49), some (aI l1), some (aI (l2 + 1))] [] σ)) ∧ (((10 * (σ.1 50 (8 * l2 + 0 : Int32).toNatClampNeg)) + (σ.1 50 (8 * l2 + 1 : Int32).toNatClampNeg) : Int32) = l1 → (S 202 [aR 49, aI l2] σ (fun r σ1 => r = [] ∧ (v 19 [some (aR 49), some (aI l1), some (aI (l2 + 1))] [] σ1)))))))))))
theorem w_X9_plans__19 {S : Sp} (hS : Sys S) {Φ : Rs} {v : Kt} (hv : Cl S Φ k_X9_plans_ v) (hw : Wk v) (l1 : Int32) (l2 : Int32) (σ : St) (h : vc_X9_plans__19 S Φ v l1 l2 σ) : v 19 [some (aR 49), some (aI l1), some (aI l2)] [] σ := by
  unfold vc_X9_plans__19 at h
  refine r_iload_n (pc := 19) hv 12 rfl rfl ?_
  refine r_aload_n (pc := 20) hv 13 rfl rfl ?_
  refine r_getR (pc := 21) (b := 50) hv 14 rfl rfl rfl rfl ?_
  refine r_sipush (pc := 24) hv 15 rfl  ?_
  refine r_iaload (pc := 27) (N := 286) hv 16 rfl rfl rfl (by decide) h.1 ?_
  replace h := h.2
  refine r_icmp_ge (pc := 28) hv 17 rfl (fun c => ?_) (fun c => ?_)
  · replace h := h.1 c
    refine r_iinc (pc := 74) (lo' := [some (aR 49), some (aI (l1 + 1)), some (aI l2)]) hv 42 rfl rfl rfl ?_
    refine r_goto (pc := 77) hv 43 rfl  ?_
    exact hw 11 [some (aR 49), some (aI (l1 + 1)), none] _ _ _ ⟨rfl, ⟨rfl, trivial⟩⟩ h
  · replace h := h.2 c
    refine r_aload_n (pc := 31) hv 18 rfl rfl ?_
    refine r_aload_n (pc := 32) hv 19 rfl rfl ?_
    refine r_getI (pc := 33) hv 20 rfl rfl rfl ?_
    refine r_iload_n (pc := 36) hv 21 rfl rfl ?_
    refine r_callV (pc := 37) (l := [aI l2, aI (σ.1 49 7)]) (av := [aI (σ.1 49 7), aI l2]) (a := 49) (t := []) hv 22 rfl rfl rfl rfl (rcv_o (by decide) rfl) trivial (t_X9_has hS ?_)
    show v 40 [some (aR 49), some (aI l1), some (aI l2)] [aI (b2 (((σ.1 49 7 : Int32) >>> (l2 &&& 31)) &&& 1 = 1))] σ
    refine r_if_eq (pc := 40) hv 23 rfl (fun c => ?_) (fun c => ?_)
    · replace h := h.1 c
      refine r_iinc (pc := 68) (lo' := [some (aR 49), some (aI l1), some (aI (l2 + 1))]) hv 40 rfl rfl rfl ?_
      refine r_goto (pc := 71) hv 41 rfl  ?_
      exact h
    · replace h := h.2 c
      refine r_bipush (pc := 43) hv 24 rfl  ?_
      refine r_aload_n (pc := 45) hv 25 rfl rfl ?_
      refine r_iload_n (pc := 46) hv 26 rfl rfl ?_
      refine r_iconst (pc := 47) hv 27 rfl  ?_
      refine r_callV (pc := 48) (l := [aI 0, aI l2]) (av := [aI l2, aI 0]) (a := 49) (t := [aI 10]) hv 28 rfl rfl rfl rfl (rcv_o (by decide) rfl) trivial (t_X9_its hS h.1 ?_)
      replace h := h.2
      show v 51 [some (aR 49), some (aI l1), some (aI l2)] [aI (σ.1 50 (8 * l2 + 0 : Int32).toNatClampNeg), aI 10] σ
      refine r_imul (pc := 51) hv 29 rfl  ?_
      refine r_aload_n (pc := 52) hv 30 rfl rfl ?_
      refine r_iload_n (pc := 53) hv 31 rfl rfl ?_
      refine r_iconst (pc := 54) hv 32 rfl  ?_
      refine r_callV (pc := 55) (l := [aI 1, aI l2]) (av := [aI l2, aI 1]) (a := 49) (t := [aI (10 * (σ.1 50 (8 * l2 + 0 : Int32).toNatClampNeg))]) hv 33 rfl rfl rfl rfl (rcv_o (by decide) rfl) trivial (t_X9_its hS h.1 ?_)
      replace h := h.2
      show v 58 [some (aR 49), some (aI l1), some (aI l2)] [aI (σ.1 50 (8 * l2 + 1 : Int32).toNatClampNeg), aI (10 * (σ.1 50 (8 * l2 + 0 : Int32).toNatClampNeg))] σ
      refine r_iadd (pc := 58) hv 34 rfl  ?_
      refine r_iload_n (pc := 59) hv 35 rfl rfl ?_
      refine r_icmp_ne (pc := 60) hv 36 rfl (fun c => ?_) (fun c => ?_)
      · replace h := h.1 c
        refine r_iinc (pc := 68) (lo' := [some (aR 49), some (aI l1), some (aI (l2 + 1))]) hv 40 rfl rfl rfl ?_
        refine r_goto (pc := 71) hv 41 rfl  ?_
        exact h
      · replace h := h.2 c
        refine r_aload_n (pc := 63) hv 37 rfl rfl ?_
        refine r_iload_n (pc := 64) hv 38 rfl rfl ?_
        refine r_callV (pc := 65) (l := [aI l2]) (av := [aI l2]) (a := 49) (t := []) hv 39 rfl rfl rfl rfl (rcv_o (by decide) rfl) trivial (hS.1 _ _ _ _ _ (fun r σ1 h => ?_) h)
        obtain ⟨rfl, h⟩ := h
        show v 68 [some (aR 49), some (aI l1), some (aI l2)] [] σ1
        refine r_iinc (pc := 68) (lo' := [some (aR 49), some (aI l1), some (aI (l2 + 1))]) hv 40 rfl rfl rfl ?_
        refine r_goto (pc := 71) hv 41 rfl  ?_
        exact h
def vc_X9_plans__11 (S : Sp) (Φ : Rs) (v : Kt) (l1 : Int32) (σ : St) : Prop := ((50 : Int32) ≤ l1 → (Φ [] σ)) ∧ (¬ ((50 : Int32) ≤ l1) → (v 19 [some (aR 49), some (aI l1), some (aI 0)] [] σ))
theorem w_X9_plans__11 {S : Sp} (hS : Sys S) {Φ : Rs} {v : Kt} (hv : Cl S Φ k_X9_plans_ v) (hw : Wk v) (l1 : Int32) (σ : St) (h : vc_X9_plans__11 S Φ v l1 σ) : v 11 [some (aR 49), some (aI l1), none] [] σ := by
  unfold vc_X9_plans__11 at h
  refine r_iload_n (pc := 11) hv 7 rfl rfl ?_
  refine r_bipush (pc := 12) hv 8 rfl  ?_
  refine r_icmp_ge (pc := 14) hv 9 rfl (fun c => ?_) (fun c => ?_)
  · replace h := h.1 c
    exact r_return (pc := 80) hv 44 rfl h
  · replace h := h.2 c
    refine r_iconst (pc := 17) hv 10 rfl  ?_
    refine r_istore_n (pc := 18) (lo' := [some (aR 49), some (aI l1), some (aI 0)]) hv 11 rfl rfl ?_
    exact h
def vc_X9_plans__0 (S : Sp) (Φ : Rs) (v : Kt) (σ : St) : Prop := S 175 [aR 49] σ (fun r σ1 => r = [] ∧ (∀ σ2 : St, σ2 = upI σ1 49 18 0 → (v 11 [some (aR 49), some (aI 0), none] [] σ2)))
theorem w_X9_plans__0 {S : Sp} (hS : Sys S) {Φ : Rs} {v : Kt} (hv : Cl S Φ k_X9_plans_ v) (hw : Wk v) (σ : St) (h : vc_X9_plans__0 S Φ v  σ) : v 0 [some (aR 49), none, none] [] σ := by
  unfold vc_X9_plans__0 at h
  refine r_aload_n (pc := 0) hv 0 rfl rfl ?_
  refine r_callV (pc := 1) (l := []) (av := []) (a := 49) (t := []) hv 1 rfl rfl rfl rfl (rcv_o (by decide) rfl) trivial (hS.1 _ _ _ _ _ (fun r σ1 h => ?_) h)
  obtain ⟨rfl, h⟩ := h
  show v 4 [some (aR 49), none, none] [] σ1
  refine r_aload_n (pc := 4) hv 2 rfl rfl ?_
  refine r_iconst (pc := 5) hv 3 rfl  ?_
  refine r_putI (pc := 6) hv 4 rfl rfl rfl ?_
  obtain ⟨σ2, e_σ2⟩ : ∃ y : St, y = upI σ1 49 18 0 := ⟨_, rfl⟩
  rw [← e_σ2]
  replace h := h σ2 e_σ2
  refine r_iconst (pc := 9) hv 5 rfl  ?_
  refine r_istore_n (pc := 10) (lo' := [some (aR 49), some (aI 0), none]) hv 6 rfl rfl ?_
  exact h
theorem m_X9_plans_ {S : Sp} (hS : Sys S) {σ : St} {Φ : Rs} (h : ∀ v : Kt, Cl S Φ k_X9_plans_ v → Wk v → vc_X9_plans__0 S Φ v  σ) : S 203 [aR 49] σ Φ :=
  hS.2 203 M_X9_plans_ k_X9_plans_ _ _ _ mkt_X9_plans_ (Nat.le_of_ble_eq_true rfl) (fun v hv hw => w_X9_plans__0 hS hv hw    σ (h v hv hw))
def vc_X9_plan_0 (S : Sp) (Φ : Rs) (v : Kt) (l1 : Int32) (σ : St) : Prop := (¬ (b2 ((0 : Int64) ≤ (l1 : Int32).toInt64 ∧ ((l1 : Int32).toInt64 : Int64) ≤ (σ.1 50 (280 : Int32).toNatClampNeg - 1 : Int32).toInt64) : Int32) = 0 → (S 203 [aR 49] σ (fun r σ1 => r = [] ∧ (((b2 (((σ1.1 49 18 : Int32) >>> (l1 &&& 31)) &&& 1 = 1) : Int32) = 0 → (Φ [aI (-3)] σ1)) ∧ (¬ ((b2 (((σ1.1 49 18 : Int32) >>> (l1 &&& 31)) &&& 1 = 1) : Int32) = 0) → (vp_in l1 20 ∧ (Φ [aI (σ1.1 58 (l1 : Int32).toNatClampNeg)] σ1))))))) ∧ ((b2 ((0 : Int64) ≤ (l1 : Int32).toInt64 ∧ ((l1 : Int32).toInt64 : Int64) ≤ (σ.1 50 (280 : Int32).toNatClampNeg - 1 : Int32).toInt64) : Int32) = 0 → (Φ [aI (-1)] σ))
theorem w_X9_plan_0 {S : Sp} (hS : Sys S) {Φ : Rs} {v : Kt} (hv : Cl S Φ k_X9_plan v) (hw : Wk v) (l1 : Int32) (σ : St) (h : vc_X9_plan_0 S Φ v l1 σ) : v 0 [some (aR 49), some (aI l1)] [] σ := by
  unfold vc_X9_plan_0 at h
  refine r_aload_n (pc := 0) hv 0 rfl rfl ?_
  refine r_iload_n (pc := 1) hv 1 rfl rfl ?_
  refine r_callV (pc := 2) (l := [aI l1]) (av := [aI l1]) (a := 49) (t := []) hv 2 rfl rfl rfl rfl (rcv_o (by decide) rfl) trivial (t_X9_isHole hS ?_)
  show v 5 [some (aR 49), some (aI l1)] [aI (b2 ((0 : Int64) ≤ (l1 : Int32).toInt64 ∧ ((l1 : Int32).toInt64 : Int64) ≤ (σ.1 50 (280 : Int32).toNatClampNeg - 1 : Int32).toInt64))] σ
  refine r_if_ne (pc := 5) hv 3 rfl (fun c => ?_) (fun c => ?_)
  · replace h := h.1 c
    refine r_aload_n (pc := 10) hv 6 rfl rfl ?_
    refine r_callV (pc := 11) (l := []) (av := []) (a := 49) (t := []) hv 7 rfl rfl rfl rfl (rcv_o (by decide) rfl) trivial (hS.1 _ _ _ _ _ (fun r σ1 h => ?_) h)
    obtain ⟨rfl, h⟩ := h
    show v 14 [some (aR 49), some (aI l1)] [] σ1
    refine r_aload_n (pc := 14) hv 8 rfl rfl ?_
    refine r_aload_n (pc := 15) hv 9 rfl rfl ?_
    refine r_getI (pc := 16) hv 10 rfl rfl rfl ?_
    refine r_iload_n (pc := 19) hv 11 rfl rfl ?_
    refine r_callV (pc := 20) (l := [aI l1, aI (σ1.1 49 18)]) (av := [aI (σ1.1 49 18), aI l1]) (a := 49) (t := []) hv 12 rfl rfl rfl rfl (rcv_o (by decide) rfl) trivial (t_X9_has hS ?_)
    show v 23 [some (aR 49), some (aI l1)] [aI (b2 (((σ1.1 49 18 : Int32) >>> (l1 &&& 31)) &&& 1 = 1))] σ1
    refine r_if_eq (pc := 23) hv 13 rfl (fun c => ?_) (fun c => ?_)
    · replace h := h.1 c
      refine r_bipush (pc := 35) hv 19 rfl  ?_
      exact r_ireturn (pc := 37) hv 20 rfl rfl h
    · replace h := h.2 c
      refine r_aload_n (pc := 26) hv 14 rfl rfl ?_
      refine r_getR (pc := 27) (b := 58) hv 15 rfl rfl rfl rfl ?_
      refine r_iload_n (pc := 30) hv 16 rfl rfl ?_
      refine r_iaload (pc := 31) (N := 20) hv 17 rfl rfl rfl (by decide) h.1 ?_
      replace h := h.2
      refine r_goto (pc := 32) hv 18 rfl  ?_
      exact r_ireturn (pc := 37) hv 20 rfl rfl h
  · replace h := h.2 c
    refine r_iconst (pc := 8) hv 4 rfl  ?_
    exact r_ireturn (pc := 9) hv 5 rfl rfl h
theorem m_X9_plan {S : Sp} (hS : Sys S) {l1 : Int32} {σ : St} {Φ : Rs} (h : ∀ v : Kt, Cl S Φ k_X9_plan v → Wk v → vc_X9_plan_0 S Φ v l1 σ) : S 204 [aR 49, aI l1] σ Φ :=
  hS.2 204 M_X9_plan k_X9_plan _ _ _ mkt_X9_plan (Nat.le_of_ble_eq_true rfl) (fun v hv hw => w_X9_plan_0 hS hv hw   l1 σ (h v hv hw))
def vc_X9_planned_34 (S : Sp) (Φ : Rs) (v : Kt) (l1 : Int32) (l2 : Int32) (l3 : Int32) (σ : St) : Prop := vp_in 280 286 ∧ (((σ.1 50 (280 : Int32).toNatClampNeg : Int32) ≤ l3 → (S 181 [aR 49, aI (σ.1 49 18)] σ (fun r σ1 => r = [] ∧ ((¬ (l1 : Int32) = 1 → (S 184 [aR 49] σ1 (fun r σ2 => ∃ x3 : Int32, r = [aI x3] ∧ (Φ [aI x3] σ2)))) ∧ ((l1 : Int32) = 1 → (Φ [aI l2] σ1)))))) ∧ (¬ ((σ.1 50 (280 : Int32).toNatClampNeg : Int32) ≤ l3) → (((b2 (((σ.1 49 18 : Int32) >>> (l3 &&& 31)) &&& 1 = 1) : Int32) = 0 → (v 34 [some (aR 49), some (aI l1), some (aI l2), some (aI (l3 + 1))] [] σ)) ∧ (¬ ((b2 (((σ.1 49 18 : Int32) >>> (l3 &&& 31)) &&& 1 = 1) : Int32) = 0) → (vp_in l3 20 ∧ (((σ.1 54 (l3 : Int32).toNatClampNeg : Int32) ≤ l2 → (v 34 [some (aR 49), some (aI l1), some (aI l2), some (aI (l3 + 1))] [] σ)) ∧ (¬ ((σ.1 54 (l3 : Int32).toNatClampNeg : Int32) ≤ l2) → (vp_in l3 20 ∧ (v 34 [some (aR 49), some (aI l1), some (aI (σ.1 54 (l3 : Int32).toNatClampNeg)), some (aI (l3 + 1))] [] σ)))))))))
theorem w_X9_planned_34 {S : Sp} (hS : Sys S) {Φ : Rs} {v : Kt} (hv : Cl S Φ k_X9_planned v) (hw : Wk v) (l1 : Int32) (l2 : Int32) (l3 : Int32) (σ : St) (h : vc_X9_planned_34 S Φ v l1 l2 l3 σ) : v 34 [some (aR 49), some (aI l1), some (aI l2), some (aI l3)] [] σ := by
  unfold vc_X9_planned_34 at h
  refine r_iload_n (pc := 34) hv 20 rfl rfl ?_
  refine r_aload_n (pc := 35) hv 21 rfl rfl ?_
  refine r_getR (pc := 36) (b := 50) hv 22 rfl rfl rfl rfl ?_
  refine r_sipush (pc := 39) hv 23 rfl  ?_
  refine r_iaload (pc := 42) (N := 286) hv 24 rfl rfl rfl (by decide) h.1 ?_
  replace h := h.2
  refine r_icmp_ge (pc := 43) hv 25 rfl (fun c => ?_) (fun c => ?_)
  · replace h := h.1 c
    refine r_aload_n (pc := 85) hv 47 rfl rfl ?_
    refine r_aload_n (pc := 86) hv 48 rfl rfl ?_
    refine r_getI (pc := 87) hv 49 rfl rfl rfl ?_
    refine r_callV (pc := 90) (l := [aI (σ.1 49 18)]) (av := [aI (σ.1 49 18)]) (a := 49) (t := []) hv 50 rfl rfl rfl rfl (rcv_o (by decide) rfl) trivial (hS.1 _ _ _ _ _ (fun r σ1 h => ?_) h)
    obtain ⟨rfl, h⟩ := h
    show v 93 [some (aR 49), some (aI l1), some (aI l2), some (aI l3)] [] σ1
    refine r_iload_n (pc := 93) hv 51 rfl rfl ?_
    refine r_iconst (pc := 94) hv 52 rfl  ?_
    refine r_icmp_ne (pc := 95) hv 53 rfl (fun c => ?_) (fun c => ?_)
    · replace h := h.1 c
      refine r_aload_n (pc := 102) hv 56 rfl rfl ?_
      refine r_callV (pc := 103) (l := []) (av := []) (a := 49) (t := []) hv 57 rfl rfl rfl rfl (rcv_o (by decide) rfl) trivial (hS.1 _ _ _ _ _ (fun r σ2 h => ?_) h)
      obtain ⟨x3, rfl, h⟩ := h
      show v 106 [some (aR 49), some (aI l1), some (aI l2), some (aI l3)] [aI x3] σ2
      exact r_ireturn (pc := 106) hv 58 rfl rfl h
    · replace h := h.2 c
      refine r_iload_n (pc := 98) hv 54 rfl rfl ?_
      refine r_goto (pc := 99) hv 55 rfl  ?_
      exact r_ireturn (pc := 106) hv 58 rfl rfl h
  · replace h := h.2 c
    refine r_aload_n (pc := 46) hv 26 rfl rfl ?_
    refine r_aload_n (pc := 47) hv 27 rfl rfl ?_
    refine r_getI (pc := 48) hv 28 rfl rfl rfl ?_
    refine r_iload_n (pc := 51) hv 29 rfl rfl ?_
    refine r_callV (pc := 52) (l := [aI l3, aI (σ.1 49 18)]) (av := [aI (σ.1 49 18), aI l3]) (a := 49) (t := []) hv 30 rfl rfl rfl rfl (rcv_o (by decide) rfl) trivial (t_X9_has hS ?_)
    show v 55 [some (aR 49), some (aI l1), some (aI l2), some (aI l3)] [aI (b2 (((σ.1 49 18 : Int32) >>> (l3 &&& 31)) &&& 1 = 1))] σ
    refine r_if_eq (pc := 55) hv 31 rfl (fun c => ?_) (fun c => ?_)
    · replace h := h.1 c
      refine r_iload_n (pc := 77) hv 43 rfl rfl ?_
      refine r_istore_n (pc := 78) (lo' := [some (aR 49), some (aI l1), some (aI l2), some (aI l3)]) hv 44 rfl rfl ?_
      refine r_iinc (pc := 79) (lo' := [some (aR 49), some (aI l1), some (aI l2), some (aI (l3 + 1))]) hv 45 rfl rfl rfl ?_
      refine r_goto (pc := 82) hv 46 rfl  ?_
      exact h
    · replace h := h.2 c
      refine r_aload_n (pc := 58) hv 32 rfl rfl ?_
      refine r_getR (pc := 59) (b := 54) hv 33 rfl rfl rfl rfl ?_
      refine r_iload_n (pc := 62) hv 34 rfl rfl ?_
      refine r_iaload (pc := 63) (N := 20) hv 35 rfl rfl rfl (by decide) h.1 ?_
      replace h := h.2
      refine r_iload_n (pc := 64) hv 36 rfl rfl ?_
      refine r_icmp_le (pc := 65) hv 37 rfl (fun c => ?_) (fun c => ?_)
      · replace h := h.1 c
        refine r_iload_n (pc := 77) hv 43 rfl rfl ?_
        refine r_istore_n (pc := 78) (lo' := [some (aR 49), some (aI l1), some (aI l2), some (aI l3)]) hv 44 rfl rfl ?_
        refine r_iinc (pc := 79) (lo' := [some (aR 49), some (aI l1), some (aI l2), some (aI (l3 + 1))]) hv 45 rfl rfl rfl ?_
        refine r_goto (pc := 82) hv 46 rfl  ?_
        exact h
      · replace h := h.2 c
        refine r_aload_n (pc := 68) hv 38 rfl rfl ?_
        refine r_getR (pc := 69) (b := 54) hv 39 rfl rfl rfl rfl ?_
        refine r_iload_n (pc := 72) hv 40 rfl rfl ?_
        refine r_iaload (pc := 73) (N := 20) hv 41 rfl rfl rfl (by decide) h.1 ?_
        replace h := h.2
        refine r_goto (pc := 74) hv 42 rfl  ?_
        refine r_istore_n (pc := 78) (lo' := [some (aR 49), some (aI l1), some (aI (σ.1 54 (l3 : Int32).toNatClampNeg)), some (aI l3)]) hv 44 rfl rfl ?_
        refine r_iinc (pc := 79) (lo' := [some (aR 49), some (aI l1), some (aI (σ.1 54 (l3 : Int32).toNatClampNeg)), some (aI (l3 + 1))]) hv 45 rfl rfl rfl ?_
        refine r_goto (pc := 82) hv 46 rfl  ?_
        exact h
def vc_X9_planned_0 (S : Sp) (Φ : Rs) (v : Kt) (l1 : Int32) (σ : St) : Prop := (¬ (b2 ((0 : Int64) ≤ ((l1 : Int32).toInt64) ∧ ((l1 : Int32).toInt64 : Int64) ≤ 2) : Int32) = 0 → (S 203 [aR 49] σ (fun r σ1 => r = [] ∧ ((¬ (l1 : Int32) = 0 → (v 34 [some (aR 49), some (aI l1), some (aI (-1)), some (aI 0)] [] σ1)) ∧ ((l1 : Int32) = 0 → (S 147 [aI (σ1.1 49 18)] σ1 (fun r σ2 => ∃ x3 : Int32, r = [aI x3] ∧ (Φ [aI x3] σ2)))))))) ∧ ((b2 ((0 : Int64) ≤ ((l1 : Int32).toInt64) ∧ ((l1 : Int32).toInt64 : Int64) ≤ 2) : Int32) = 0 → (Φ [aI (-1)] σ))
theorem w_X9_planned_0 {S : Sp} (hS : Sys S) {Φ : Rs} {v : Kt} (hv : Cl S Φ k_X9_planned v) (hw : Wk v) (l1 : Int32) (σ : St) (h : vc_X9_planned_0 S Φ v l1 σ) : v 0 [some (aR 49), some (aI l1), none, none] [] σ := by
  unfold vc_X9_planned_0 at h
  refine r_iload_n (pc := 0) hv 0 rfl rfl ?_
  refine r_i2l (pc := 1) hv 1 rfl  ?_
  refine r_lconst (pc := 2) hv 2 rfl  ?_
  refine r_ldc2_w (pc := 3) hv 3 rfl  ?_
  refine r_callS (pc := 6) (l := [aL 2, aL 0, aL ((l1 : Int32).toInt64)]) (av := [aL ((l1 : Int32).toInt64), aL 0, aL 2]) (t := []) hv 4 rfl (Or.inl rfl) rfl rfl rfl trivial (t_X9_in hS ?_)
  show v 9 [some (aR 49), some (aI l1), none, none] [aI (b2 ((0 : Int64) ≤ ((l1 : Int32).toInt64) ∧ ((l1 : Int32).toInt64 : Int64) ≤ 2))] σ
  refine r_if_ne (pc := 9) hv 5 rfl (fun c => ?_) (fun c => ?_)
  · replace h := h.1 c
    refine r_aload_n (pc := 14) hv 8 rfl rfl ?_
    refine r_callV (pc := 15) (l := []) (av := []) (a := 49) (t := []) hv 9 rfl rfl rfl rfl (rcv_o (by decide) rfl) trivial (hS.1 _ _ _ _ _ (fun r σ1 h => ?_) h)
    obtain ⟨rfl, h⟩ := h
    show v 18 [some (aR 49), some (aI l1), none, none] [] σ1
    refine r_iload_n (pc := 18) hv 10 rfl rfl ?_
    refine r_if_ne (pc := 19) hv 11 rfl (fun c => ?_) (fun c => ?_)
    · replace h := h.1 c
      refine r_iconst (pc := 30) hv 16 rfl  ?_
      refine r_istore_n (pc := 31) (lo' := [some (aR 49), some (aI l1), some (aI (-1)), none]) hv 17 rfl rfl ?_
      refine r_iconst (pc := 32) hv 18 rfl  ?_
      refine r_istore_n (pc := 33) (lo' := [some (aR 49), some (aI l1), some (aI (-1)), some (aI 0)]) hv 19 rfl rfl ?_
      exact h
    · replace h := h.2 c
      refine r_aload_n (pc := 22) hv 12 rfl rfl ?_
      refine r_getI (pc := 23) hv 13 rfl rfl rfl ?_
      refine r_callS (pc := 26) (l := [aI (σ1.1 49 18)]) (av := [aI (σ1.1 49 18)]) (t := []) hv 14 rfl (Or.inl rfl) rfl rfl rfl trivial (hS.1 _ _ _ _ _ (fun r σ2 h => ?_) h)
      obtain ⟨x3, rfl, h⟩ := h
      show v 29 [some (aR 49), some (aI l1), none, none] [aI x3] σ2
      exact r_ireturn (pc := 29) hv 15 rfl rfl h
  · replace h := h.2 c
    refine r_iconst (pc := 12) hv 6 rfl  ?_
    exact r_ireturn (pc := 13) hv 7 rfl rfl h
theorem m_X9_planned {S : Sp} (hS : Sys S) {l1 : Int32} {σ : St} {Φ : Rs} (h : ∀ v : Kt, Cl S Φ k_X9_planned v → Wk v → vc_X9_planned_0 S Φ v l1 σ) : S 205 [aR 49, aI l1] σ Φ :=
  hS.2 205 M_X9_planned k_X9_planned _ _ _ mkt_X9_planned (Nat.le_of_ble_eq_true rfl) (fun v hv hw => w_X9_planned_0 hS hv hw   l1 σ (h v hv hw))
def vc_X9_adopt_6 (S : Sp) (Φ : Rs) (v : Kt) (l1 : Int32) (σ : St) : Prop := vp_in 280 286 ∧ (((σ.1 50 (280 : Int32).toNatClampNeg : Int32) ≤ l1 → (vp_in 285 286 ∧ (∀ σ1 : St, σ1 = upI σ 50 (285 : Int32).toNatClampNeg 0 → (S 147 [aI (σ1.1 49 18)] σ1 (fun r σ2 => ∃ x3 : Int32, r = [aI x3] ∧ (Φ [aI x3] σ2)))))) ∧ (¬ ((σ.1 50 (280 : Int32).toNatClampNeg : Int32) ≤ l1) → (((b2 (((σ.1 49 18 : Int32) >>> (l1 &&& 31)) &&& 1 = 1) : Int32) = 0 → (v 6 [some (aR 49), some (aI (l1 + 1))] [] σ)) ∧ (¬ ((b2 (((σ.1 49 18 : Int32) >>> (l1 &&& 31)) &&& 1 = 1) : Int32) = 0) → (vp_in l1 20 ∧ (vp_in ((8 * l1) + 5) 286 ∧ (∀ σ4 : St, σ4 = upI σ 50 ((8 * l1) + 5 : Int32).toNatClampNeg (σ.1 58 (l1 : Int32).toNatClampNeg) → (v 6 [some (aR 49), some (aI (l1 + 1))] [] σ4))))))))
theorem w_X9_adopt_6 {S : Sp} (hS : Sys S) {Φ : Rs} {v : Kt} (hv : Cl S Φ k_X9_adopt v) (hw : Wk v) (l1 : Int32) (σ : St) (h : vc_X9_adopt_6 S Φ v l1 σ) : v 6 [some (aR 49), some (aI l1)] [] σ := by
  unfold vc_X9_adopt_6 at h
  refine r_iload_n (pc := 6) hv 4 rfl rfl ?_
  refine r_aload_n (pc := 7) hv 5 rfl rfl ?_
  refine r_getR (pc := 8) (b := 50) hv 6 rfl rfl rfl rfl ?_
  refine r_sipush (pc := 11) hv 7 rfl  ?_
  refine r_iaload (pc := 14) (N := 286) hv 8 rfl rfl rfl (by decide) h.1 ?_
  replace h := h.2
  refine r_icmp_ge (pc := 15) hv 9 rfl (fun c => ?_) (fun c => ?_)
  · replace h := h.1 c
    refine r_aload_n (pc := 53) hv 30 rfl rfl ?_
    refine r_getR (pc := 54) (b := 50) hv 31 rfl rfl rfl rfl ?_
    refine r_sipush (pc := 57) hv 32 rfl  ?_
    refine r_iconst (pc := 60) hv 33 rfl  ?_
    refine r_iastore (pc := 61) (N := 286) hv 34 rfl rfl rfl h.1 ?_
    replace h := h.2
    obtain ⟨σ1, e_σ1⟩ : ∃ y : St, y = upI σ 50 (285 : Int32).toNatClampNeg 0 := ⟨_, rfl⟩
    rw [← e_σ1]
    replace h := h σ1 e_σ1
    refine r_aload_n (pc := 62) hv 35 rfl rfl ?_
    refine r_getI (pc := 63) hv 36 rfl rfl rfl ?_
    refine r_callS (pc := 66) (l := [aI (σ1.1 49 18)]) (av := [aI (σ1.1 49 18)]) (t := []) hv 37 rfl (Or.inl rfl) rfl rfl rfl trivial (hS.1 _ _ _ _ _ (fun r σ2 h => ?_) h)
    obtain ⟨x3, rfl, h⟩ := h
    show v 69 [some (aR 49), some (aI l1)] [aI x3] σ2
    exact r_ireturn (pc := 69) hv 38 rfl rfl h
  · replace h := h.2 c
    refine r_aload_n (pc := 18) hv 10 rfl rfl ?_
    refine r_aload_n (pc := 19) hv 11 rfl rfl ?_
    refine r_getI (pc := 20) hv 12 rfl rfl rfl ?_
    refine r_iload_n (pc := 23) hv 13 rfl rfl ?_
    refine r_callV (pc := 24) (l := [aI l1, aI (σ.1 49 18)]) (av := [aI (σ.1 49 18), aI l1]) (a := 49) (t := []) hv 14 rfl rfl rfl rfl (rcv_o (by decide) rfl) trivial (t_X9_has hS ?_)
    show v 27 [some (aR 49), some (aI l1)] [aI (b2 (((σ.1 49 18 : Int32) >>> (l1 &&& 31)) &&& 1 = 1))] σ
    refine r_if_eq (pc := 27) hv 15 rfl (fun c => ?_) (fun c => ?_)
    · replace h := h.1 c
      refine r_iinc (pc := 47) (lo' := [some (aR 49), some (aI (l1 + 1))]) hv 28 rfl rfl rfl ?_
      refine r_goto (pc := 50) hv 29 rfl  ?_
      exact h
    · replace h := h.2 c
      refine r_aload_n (pc := 30) hv 16 rfl rfl ?_
      refine r_getR (pc := 31) (b := 50) hv 17 rfl rfl rfl rfl ?_
      refine r_bipush (pc := 34) hv 18 rfl  ?_
      refine r_iload_n (pc := 36) hv 19 rfl rfl ?_
      refine r_imul (pc := 37) hv 20 rfl  ?_
      refine r_iconst (pc := 38) hv 21 rfl  ?_
      refine r_iadd (pc := 39) hv 22 rfl  ?_
      refine r_aload_n (pc := 40) hv 23 rfl rfl ?_
      refine r_getR (pc := 41) (b := 58) hv 24 rfl rfl rfl rfl ?_
      refine r_iload_n (pc := 44) hv 25 rfl rfl ?_
      refine r_iaload (pc := 45) (N := 20) hv 26 rfl rfl rfl (by decide) h.1 ?_
      replace h := h.2
      refine r_iastore (pc := 46) (N := 286) hv 27 rfl rfl rfl h.1 ?_
      replace h := h.2
      obtain ⟨σ4, e_σ4⟩ : ∃ y : St, y = upI σ 50 ((8 * l1) + 5 : Int32).toNatClampNeg (σ.1 58 (l1 : Int32).toNatClampNeg) := ⟨_, rfl⟩
      rw [← e_σ4]
      replace h := h σ4 e_σ4
      refine r_iinc (pc := 47) (lo' := [some (aR 49), some (aI (l1 + 1))]) hv 28 rfl rfl rfl ?_
      refine r_goto (pc := 50) hv 29 rfl  ?_
      exact h
def vc_X9_adopt_0 (S : Sp) (Φ : Rs) (v : Kt) (σ : St) : Prop := S 203 [aR 49] σ (fun r σ1 => r = [] ∧ (v 6 [some (aR 49), some (aI 0)] [] σ1))
theorem w_X9_adopt_0 {S : Sp} (hS : Sys S) {Φ : Rs} {v : Kt} (hv : Cl S Φ k_X9_adopt v) (hw : Wk v) (σ : St) (h : vc_X9_adopt_0 S Φ v  σ) : v 0 [some (aR 49), none] [] σ := by
  unfold vc_X9_adopt_0 at h
  refine r_aload_n (pc := 0) hv 0 rfl rfl ?_
  refine r_callV (pc := 1) (l := []) (av := []) (a := 49) (t := []) hv 1 rfl rfl rfl rfl (rcv_o (by decide) rfl) trivial (hS.1 _ _ _ _ _ (fun r σ1 h => ?_) h)
  obtain ⟨rfl, h⟩ := h
  show v 4 [some (aR 49), none] [] σ1
  refine r_iconst (pc := 4) hv 2 rfl  ?_
  refine r_istore_n (pc := 5) (lo' := [some (aR 49), some (aI 0)]) hv 3 rfl rfl ?_
  exact h
theorem m_X9_adopt {S : Sp} (hS : Sys S) {σ : St} {Φ : Rs} (h : ∀ v : Kt, Cl S Φ k_X9_adopt v → Wk v → vc_X9_adopt_0 S Φ v  σ) : S 206 [aR 49] σ Φ :=
  hS.2 206 M_X9_adopt k_X9_adopt _ _ _ mkt_X9_adopt (Nat.le_of_ble_eq_true rfl) (fun v hv hw => w_X9_adopt_0 hS hv hw    σ (h v hv hw))
def vc_X9_feed_0 (S : Sp) (Φ : Rs) (v : Kt) (l1 : Int32) (σ : St) : Prop := (¬ (b2 ((0 : Int64) ≤ ((l1 : Int32).toInt64) ∧ ((l1 : Int32).toInt64 : Int64) ≤ 127) : Int32) = 0 → ((¬ (σ.1 49 20 : Int32) = 80 → (vp_in (σ.1 49 20) 80 ∧ (∀ σ1 : St, σ1 = upI σ 59 (σ.1 49 20 : Int32).toNatClampNeg l1 → (∀ σ2 : St, σ2 = upI σ1 49 20 ((σ1.1 49 20) + 1) → (Φ [aI (σ2.1 49 20)] σ2))))) ∧ ((σ.1 49 20 : Int32) = 80 → (Φ [aI (-4)] σ)))) ∧ ((b2 ((0 : Int64) ≤ ((l1 : Int32).toInt64) ∧ ((l1 : Int32).toInt64 : Int64) ≤ 127) : Int32) = 0 → (Φ [aI (-2)] σ))
theorem w_X9_feed_0 {S : Sp} (hS : Sys S) {Φ : Rs} {v : Kt} (hv : Cl S Φ k_X9_feed v) (hw : Wk v) (l1 : Int32) (σ : St) (h : vc_X9_feed_0 S Φ v l1 σ) : v 0 [some (aR 49), some (aI l1)] [] σ := by
  unfold vc_X9_feed_0 at h
  refine r_iload_n (pc := 0) hv 0 rfl rfl ?_
  refine r_i2l (pc := 1) hv 1 rfl  ?_
  refine r_lconst (pc := 2) hv 2 rfl  ?_
  refine r_ldc2_w (pc := 3) hv 3 rfl  ?_
  refine r_callS (pc := 6) (l := [aL 127, aL 0, aL ((l1 : Int32).toInt64)]) (av := [aL ((l1 : Int32).toInt64), aL 0, aL 127]) (t := []) hv 4 rfl (Or.inl rfl) rfl rfl rfl trivial (t_X9_in hS ?_)
  show v 9 [some (aR 49), some (aI l1)] [aI (b2 ((0 : Int64) ≤ ((l1 : Int32).toInt64) ∧ ((l1 : Int32).toInt64 : Int64) ≤ 127))] σ
  refine r_if_ne (pc := 9) hv 5 rfl (fun c => ?_) (fun c => ?_)
  · replace h := h.1 c
    refine r_aload_n (pc := 15) hv 8 rfl rfl ?_
    refine r_getI (pc := 16) hv 9 rfl rfl rfl ?_
    refine r_bipush (pc := 19) hv 10 rfl  ?_
    refine r_icmp_ne (pc := 21) hv 11 rfl (fun c => ?_) (fun c => ?_)
    · replace h := h.1 c
      refine r_aload_n (pc := 27) hv 14 rfl rfl ?_
      refine r_getR (pc := 28) (b := 59) hv 15 rfl rfl rfl rfl ?_
      refine r_aload_n (pc := 31) hv 16 rfl rfl ?_
      refine r_getI (pc := 32) hv 17 rfl rfl rfl ?_
      refine r_iload_n (pc := 35) hv 18 rfl rfl ?_
      refine r_iastore (pc := 36) (N := 80) hv 19 rfl rfl rfl h.1 ?_
      replace h := h.2
      obtain ⟨σ1, e_σ1⟩ : ∃ y : St, y = upI σ 59 (σ.1 49 20 : Int32).toNatClampNeg l1 := ⟨_, rfl⟩
      rw [← e_σ1]
      replace h := h σ1 e_σ1
      refine r_aload_n (pc := 37) hv 20 rfl rfl ?_
      refine r_dup (pc := 38) hv 21 rfl trivial ?_
      refine r_getI (pc := 39) hv 22 rfl rfl rfl ?_
      refine r_iconst (pc := 42) hv 23 rfl  ?_
      refine r_iadd (pc := 43) hv 24 rfl  ?_
      refine r_putI (pc := 44) hv 25 rfl rfl rfl ?_
      obtain ⟨σ2, e_σ2⟩ : ∃ y : St, y = upI σ1 49 20 ((σ1.1 49 20) + 1) := ⟨_, rfl⟩
      rw [← e_σ2]
      replace h := h σ2 e_σ2
      refine r_aload_n (pc := 47) hv 26 rfl rfl ?_
      refine r_getI (pc := 48) hv 27 rfl rfl rfl ?_
      exact r_ireturn (pc := 51) hv 28 rfl rfl h
    · replace h := h.2 c
      refine r_bipush (pc := 24) hv 12 rfl  ?_
      exact r_ireturn (pc := 26) hv 13 rfl rfl h
  · replace h := h.2 c
    refine r_bipush (pc := 12) hv 6 rfl  ?_
    exact r_ireturn (pc := 14) hv 7 rfl rfl h
theorem m_X9_feed {S : Sp} (hS : Sys S) {l1 : Int32} {σ : St} {Φ : Rs} (h : ∀ v : Kt, Cl S Φ k_X9_feed v → Wk v → vc_X9_feed_0 S Φ v l1 σ) : S 207 [aR 49, aI l1] σ Φ :=
  hS.2 207 M_X9_feed k_X9_feed _ _ _ mkt_X9_feed (Nat.le_of_ble_eq_true rfl) (fun v hv hw => w_X9_feed_0 hS hv hw   l1 σ (h v hv hw))
def vc_X9_wordHere_127 (S : Sp) (Φ : Rs) (v : Kt) (l1 : Int32) (l2 : Int32) (l3 : Int32) (σ : St) : Prop := ((l2 : Int32) = 0 → (v 32 [some (aR 49), some (aI (l1 + 1)), none, none] [] σ)) ∧ (¬ ((l2 : Int32) = 0) → (Φ [aI l1] σ))
theorem w_X9_wordHere_127 {S : Sp} (hS : Sys S) {Φ : Rs} {v : Kt} (hv : Cl S Φ k_X9_wordHere v) (hw : Wk v) (l1 : Int32) (l2 : Int32) (l3 : Int32) (σ : St) (h : vc_X9_wordHere_127 S Φ v l1 l2 l3 σ) : v 127 [some (aR 49), some (aI l1), some (aI l2), some (aI l3)] [] σ := by
  unfold vc_X9_wordHere_127 at h
  refine r_iload_n (pc := 127) hv 72 rfl rfl ?_
  refine r_if_eq (pc := 128) hv 73 rfl (fun c => ?_) (fun c => ?_)
  · replace h := h.1 c
    refine r_iinc (pc := 133) (lo' := [some (aR 49), some (aI (l1 + 1)), some (aI l2), some (aI l3)]) hv 76 rfl rfl rfl ?_
    refine r_goto (pc := 136) hv 77 rfl  ?_
    exact hw 32 [some (aR 49), some (aI (l1 + 1)), none, none] _ _ _ ⟨rfl, ⟨rfl, trivial⟩⟩ h
  · replace h := h.2 c
    refine r_iload_n (pc := 131) hv 74 rfl rfl ?_
    exact r_ireturn (pc := 132) hv 75 rfl rfl h
def vc_X9_wordHere_76 (S : Sp) (Φ : Rs) (v : Kt) (l1 : Int32) (l2 : Int32) (l3 : Int32) (σ : St) : Prop := ((σ.1 49 23 : Int32) ≤ l3 → (vc_X9_wordHere_127 S Φ v  l1 l2 l3 σ)) ∧ (¬ ((σ.1 49 23 : Int32) ≤ l3) → (((l2 : Int32) = 0 → (vc_X9_wordHere_127 S Φ v  l1 l2 l3 σ)) ∧ (¬ ((l2 : Int32) = 0) → (vp_in l3 80 ∧ (vp_in l1 13 ∧ (vp_in (((σ.1 61 (l1 : Int32).toNatClampNeg) + l3) - (σ.1 49 24)) 56 ∧ ((¬ (σ.1 59 (l3 : Int32).toNatClampNeg : Int32) = (σ.1 60 (((σ.1 61 (l1 : Int32).toNatClampNeg) + l3) - (σ.1 49 24) : Int32).toNatClampNeg) → (v 76 [some (aR 49), some (aI l1), some (aI 0), some (aI (l3 + 1))] [] σ)) ∧ ((σ.1 59 (l3 : Int32).toNatClampNeg : Int32) = (σ.1 60 (((σ.1 61 (l1 : Int32).toNatClampNeg) + l3) - (σ.1 49 24) : Int32).toNatClampNeg) → (v 76 [some (aR 49), some (aI l1), some (aI 1), some (aI (l3 + 1))] [] σ)))))))))
theorem w_X9_wordHere_76 {S : Sp} (hS : Sys S) {Φ : Rs} {v : Kt} (hv : Cl S Φ k_X9_wordHere v) (hw : Wk v) (l1 : Int32) (l2 : Int32) (l3 : Int32) (σ : St) (h : vc_X9_wordHere_76 S Φ v l1 l2 l3 σ) : v 76 [some (aR 49), some (aI l1), some (aI l2), some (aI l3)] [] σ := by
  unfold vc_X9_wordHere_76 at h
  refine r_iload_n (pc := 76) hv 43 rfl rfl ?_
  refine r_aload_n (pc := 77) hv 44 rfl rfl ?_
  refine r_getI (pc := 78) hv 45 rfl rfl rfl ?_
  refine r_icmp_ge (pc := 81) hv 46 rfl (fun c => ?_) (fun c => ?_)
  · replace h := h.1 c
    exact (w_X9_wordHere_127 hS hv hw   l1 l2 l3  σ h)
  · replace h := h.2 c
    refine r_iload_n (pc := 84) hv 47 rfl rfl ?_
    refine r_if_eq (pc := 85) hv 48 rfl (fun c => ?_) (fun c => ?_)
    · replace h := h.1 c
      exact (w_X9_wordHere_127 hS hv hw   l1 l2 l3  σ h)
    · replace h := h.2 c
      refine r_aload_n (pc := 88) hv 49 rfl rfl ?_
      refine r_getR (pc := 89) (b := 59) hv 50 rfl rfl rfl rfl ?_
      refine r_iload_n (pc := 92) hv 51 rfl rfl ?_
      refine r_iaload (pc := 93) (N := 80) hv 52 rfl rfl rfl (by decide) h.1 ?_
      replace h := h.2
      refine r_aload_n (pc := 94) hv 53 rfl rfl ?_
      refine r_getR (pc := 95) (b := 60) hv 54 rfl rfl rfl rfl ?_
      refine r_aload_n (pc := 98) hv 55 rfl rfl ?_
      refine r_getR (pc := 99) (b := 61) hv 56 rfl rfl rfl rfl ?_
      refine r_iload_n (pc := 102) hv 57 rfl rfl ?_
      refine r_iaload (pc := 103) (N := 13) hv 58 rfl rfl rfl (by decide) h.1 ?_
      replace h := h.2
      refine r_iload_n (pc := 104) hv 59 rfl rfl ?_
      refine r_iadd (pc := 105) hv 60 rfl  ?_
      refine r_aload_n (pc := 106) hv 61 rfl rfl ?_
      refine r_getI (pc := 107) hv 62 rfl rfl rfl ?_
      refine r_isub (pc := 110) hv 63 rfl  ?_
      refine r_caload (pc := 111) (N := 56) hv 64 rfl rfl rfl h.1 ?_
      replace h := h.2
      refine r_icmp_ne (pc := 112) hv 65 rfl (fun c => ?_) (fun c => ?_)
      · replace h := h.1 c
        refine r_iconst (pc := 119) hv 68 rfl  ?_
        refine r_istore_n (pc := 120) (lo' := [some (aR 49), some (aI l1), some (aI 0), some (aI l3)]) hv 69 rfl rfl ?_
        refine r_iinc (pc := 121) (lo' := [some (aR 49), some (aI l1), some (aI 0), some (aI (l3 + 1))]) hv 70 rfl rfl rfl ?_
        refine r_goto (pc := 124) hv 71 rfl  ?_
        exact h
      · replace h := h.2 c
        refine r_iconst (pc := 115) hv 66 rfl  ?_
        refine r_goto (pc := 116) hv 67 rfl  ?_
        refine r_istore_n (pc := 120) (lo' := [some (aR 49), some (aI l1), some (aI 1), some (aI l3)]) hv 69 rfl rfl ?_
        refine r_iinc (pc := 121) (lo' := [some (aR 49), some (aI l1), some (aI 1), some (aI (l3 + 1))]) hv 70 rfl rfl rfl ?_
        refine r_goto (pc := 124) hv 71 rfl  ?_
        exact h
def vc_X9_wordHere_70 (S : Sp) (Φ : Rs) (v : Kt) (l1 : Int32) (s0 : Int32) (σ : St) : Prop := v 76 [some (aR 49), some (aI l1), some (aI s0), some (aI (σ.1 49 24))] [] σ
theorem w_X9_wordHere_70 {S : Sp} (hS : Sys S) {Φ : Rs} {v : Kt} (hv : Cl S Φ k_X9_wordHere v) (hw : Wk v) (l1 : Int32) (s0 : Int32) (σ : St) (h : vc_X9_wordHere_70 S Φ v l1 s0 σ) : v 70 [some (aR 49), some (aI l1), none, none] [aI s0] σ := by
  unfold vc_X9_wordHere_70 at h
  refine r_istore_n (pc := 70) (lo' := [some (aR 49), some (aI l1), some (aI s0), none]) hv 39 rfl rfl ?_
  refine r_aload_n (pc := 71) hv 40 rfl rfl ?_
  refine r_getI (pc := 72) hv 41 rfl rfl rfl ?_
  refine r_istore_n (pc := 75) (lo' := [some (aR 49), some (aI l1), some (aI s0), some (aI (σ.1 49 24))]) hv 42 rfl rfl ?_
  exact h
def vc_X9_wordHere_32 (S : Sp) (Φ : Rs) (v : Kt) (l1 : Int32) (σ : St) : Prop := ((12 : Int32) ≤ l1 → (Φ [aI 23] σ)) ∧ (¬ ((12 : Int32) ≤ l1) → (vp_in (l1 + 1) 13 ∧ (vp_in l1 13 ∧ ((¬ ((σ.1 49 23) - (σ.1 49 24) : Int32) = ((σ.1 61 (l1 + 1 : Int32).toNatClampNeg) - (σ.1 61 (l1 : Int32).toNatClampNeg)) → (vc_X9_wordHere_70 S Φ v  l1 0 σ)) ∧ (((σ.1 49 23) - (σ.1 49 24) : Int32) = ((σ.1 61 (l1 + 1 : Int32).toNatClampNeg) - (σ.1 61 (l1 : Int32).toNatClampNeg)) → (vc_X9_wordHere_70 S Φ v  l1 1 σ))))))
theorem w_X9_wordHere_32 {S : Sp} (hS : Sys S) {Φ : Rs} {v : Kt} (hv : Cl S Φ k_X9_wordHere v) (hw : Wk v) (l1 : Int32) (σ : St) (h : vc_X9_wordHere_32 S Φ v l1 σ) : v 32 [some (aR 49), some (aI l1), none, none] [] σ := by
  unfold vc_X9_wordHere_32 at h
  refine r_iload_n (pc := 32) hv 16 rfl rfl ?_
  refine r_bipush (pc := 33) hv 17 rfl  ?_
  refine r_icmp_ge (pc := 35) hv 18 rfl (fun c => ?_) (fun c => ?_)
  · replace h := h.1 c
    refine r_bipush (pc := 139) hv 78 rfl  ?_
    exact r_ireturn (pc := 141) hv 79 rfl rfl h
  · replace h := h.2 c
    refine r_aload_n (pc := 38) hv 19 rfl rfl ?_
    refine r_getI (pc := 39) hv 20 rfl rfl rfl ?_
    refine r_aload_n (pc := 42) hv 21 rfl rfl ?_
    refine r_getI (pc := 43) hv 22 rfl rfl rfl ?_
    refine r_isub (pc := 46) hv 23 rfl  ?_
    refine r_aload_n (pc := 47) hv 24 rfl rfl ?_
    refine r_getR (pc := 48) (b := 61) hv 25 rfl rfl rfl rfl ?_
    refine r_iload_n (pc := 51) hv 26 rfl rfl ?_
    refine r_iconst (pc := 52) hv 27 rfl  ?_
    refine r_iadd (pc := 53) hv 28 rfl  ?_
    refine r_iaload (pc := 54) (N := 13) hv 29 rfl rfl rfl (by decide) h.1 ?_
    replace h := h.2
    refine r_aload_n (pc := 55) hv 30 rfl rfl ?_
    refine r_getR (pc := 56) (b := 61) hv 31 rfl rfl rfl rfl ?_
    refine r_iload_n (pc := 59) hv 32 rfl rfl ?_
    refine r_iaload (pc := 60) (N := 13) hv 33 rfl rfl rfl (by decide) h.1 ?_
    replace h := h.2
    refine r_isub (pc := 61) hv 34 rfl  ?_
    refine r_icmp_ne (pc := 62) hv 35 rfl (fun c => ?_) (fun c => ?_)
    · replace h := h.1 c
      refine r_iconst (pc := 69) hv 38 rfl  ?_
      exact (w_X9_wordHere_70 hS hv hw   l1 0  σ h)
    · replace h := h.2 c
      refine r_iconst (pc := 65) hv 36 rfl  ?_
      refine r_goto (pc := 66) hv 37 rfl  ?_
      exact (w_X9_wordHere_70 hS hv hw   l1 1  σ h)
def vc_X9_wordHere_0 (S : Sp) (Φ : Rs) (v : Kt) (σ : St) : Prop := S 208 [aR 49] σ (fun r σ1 => ∃ x2 : Int32, r = [aI x2] ∧ (((b2 ((97 : Int64) ≤ ((x2 : Int32).toInt64) ∧ ((x2 : Int32).toInt64 : Int64) ≤ 122) : Int32) = 0 → (v 32 [some (aR 49), some (aI 0), none, none] [] σ1)) ∧ (¬ ((b2 ((97 : Int64) ≤ ((x2 : Int32).toInt64) ∧ ((x2 : Int32).toInt64 : Int64) ≤ 122) : Int32) = 0) → (∀ σ3 : St, σ3 = upI σ1 49 23 ((σ1.1 49 23) + 1) → (v 0 [some (aR 49), none, none, none] [] σ3)))))
theorem w_X9_wordHere_0 {S : Sp} (hS : Sys S) {Φ : Rs} {v : Kt} (hv : Cl S Φ k_X9_wordHere v) (hw : Wk v) (σ : St) (h : vc_X9_wordHere_0 S Φ v  σ) : v 0 [some (aR 49), none, none, none] [] σ := by
  unfold vc_X9_wordHere_0 at h
  refine r_aload_n (pc := 0) hv 0 rfl rfl ?_
  refine r_callV (pc := 1) (l := []) (av := []) (a := 49) (t := []) hv 1 rfl rfl rfl rfl (rcv_o (by decide) rfl) trivial (hS.1 _ _ _ _ _ (fun r σ1 h => ?_) h)
  obtain ⟨x2, rfl, h⟩ := h
  show v 4 [some (aR 49), none, none, none] [aI x2] σ1
  refine r_i2l (pc := 4) hv 2 rfl  ?_
  refine r_ldc2_w (pc := 5) hv 3 rfl  ?_
  refine r_ldc2_w (pc := 8) hv 4 rfl  ?_
  refine r_callS (pc := 11) (l := [aL 122, aL 97, aL ((x2 : Int32).toInt64)]) (av := [aL ((x2 : Int32).toInt64), aL 97, aL 122]) (t := []) hv 5 rfl (Or.inl rfl) rfl rfl rfl trivial (t_X9_in hS ?_)
  show v 14 [some (aR 49), none, none, none] [aI (b2 ((97 : Int64) ≤ ((x2 : Int32).toInt64) ∧ ((x2 : Int32).toInt64 : Int64) ≤ 122))] σ1
  refine r_if_eq (pc := 14) hv 6 rfl (fun c => ?_) (fun c => ?_)
  · replace h := h.1 c
    refine r_iconst (pc := 30) hv 14 rfl  ?_
    refine r_istore_n (pc := 31) (lo' := [some (aR 49), some (aI 0), none, none]) hv 15 rfl rfl ?_
    exact h
  · replace h := h.2 c
    refine r_aload_n (pc := 17) hv 7 rfl rfl ?_
    refine r_dup (pc := 18) hv 8 rfl trivial ?_
    refine r_getI (pc := 19) hv 9 rfl rfl rfl ?_
    refine r_iconst (pc := 22) hv 10 rfl  ?_
    refine r_iadd (pc := 23) hv 11 rfl  ?_
    refine r_putI (pc := 24) hv 12 rfl rfl rfl ?_
    obtain ⟨σ3, e_σ3⟩ : ∃ y : St, y = upI σ1 49 23 ((σ1.1 49 23) + 1) := ⟨_, rfl⟩
    rw [← e_σ3]
    replace h := h σ3 e_σ3
    refine r_goto (pc := 27) hv 13 rfl  ?_
    exact h
theorem m_X9_wordHere {S : Sp} (hS : Sys S) {σ : St} {Φ : Rs} (h : ∀ v : Kt, Cl S Φ k_X9_wordHere v → Wk v → vc_X9_wordHere_0 S Φ v  σ) : S 209 [aR 49] σ Φ :=
  hS.2 209 M_X9_wordHere k_X9_wordHere _ _ _ mkt_X9_wordHere (Nat.le_of_ble_eq_true rfl) (fun v hv hw => w_X9_wordHere_0 hS hv hw    σ (h v hv hw))
def vc_X9_numberHere_58 (S : Sp) (Φ : Rs) (v : Kt) (s0 : Int32) (σ : St) : Prop := ∀ σ1 : St, σ1 = upI σ 49 26 s0 → (∀ σ2 : St, σ2 = upI σ1 49 23 ((σ1.1 49 23) + 1) → (v 5 [some (aR 49)] [] σ2))
theorem w_X9_numberHere_58 {S : Sp} (hS : Sys S) {Φ : Rs} {v : Kt} (hv : Cl S Φ k_X9_numberHere v) (hw : Wk v) (s0 : Int32) (σ : St) (h : vc_X9_numberHere_58 S Φ v s0 σ) : v 58 [some (aR 49)] [aI s0, aR 49] σ := by
  unfold vc_X9_numberHere_58 at h
  refine r_putI (pc := 58) hv 30 rfl rfl rfl ?_
  obtain ⟨σ1, e_σ1⟩ : ∃ y : St, y = upI σ 49 26 s0 := ⟨_, rfl⟩
  rw [← e_σ1]
  replace h := h σ1 e_σ1
  refine r_aload_n (pc := 61) hv 31 rfl rfl ?_
  refine r_dup (pc := 62) hv 32 rfl trivial ?_
  refine r_getI (pc := 63) hv 33 rfl rfl rfl ?_
  refine r_iconst (pc := 66) hv 34 rfl  ?_
  refine r_iadd (pc := 67) hv 35 rfl  ?_
  refine r_putI (pc := 68) hv 36 rfl rfl rfl ?_
  obtain ⟨σ2, e_σ2⟩ : ∃ y : St, y = upI σ1 49 23 ((σ1.1 49 23) + 1) := ⟨_, rfl⟩
  rw [← e_σ2]
  replace h := h σ2 e_σ2
  refine r_goto (pc := 71) hv 37 rfl  ?_
  exact h
def vc_X9_numberHere_5 (S : Sp) (Φ : Rs) (v : Kt) (σ : St) : Prop := S 208 [aR 49] σ (fun r σ1 => ∃ x2 : Int32, r = [aI x2] ∧ (((b2 ((48 : Int64) ≤ ((x2 : Int32).toInt64) ∧ ((x2 : Int32).toInt64 : Int64) ≤ 57) : Int32) = 0 → ((((σ1.1 49 23) - (σ1.1 49 24) : Int32) ≤ 4 → (Φ [aI 20] σ1)) ∧ (¬ (((σ1.1 49 23) - (σ1.1 49 24) : Int32) ≤ 4) → (Φ [aI 23] σ1)))) ∧ (¬ ((b2 ((48 : Int64) ≤ ((x2 : Int32).toInt64) ∧ ((x2 : Int32).toInt64 : Int64) ≤ 57) : Int32) = 0) → (((4 : Int32) ≤ ((σ1.1 49 23) - (σ1.1 49 24)) → (vc_X9_numberHere_58 S Φ v  (σ1.1 49 26) σ1)) ∧ (¬ ((4 : Int32) ≤ ((σ1.1 49 23) - (σ1.1 49 24))) → (S 208 [aR 49] σ1 (fun r σ3 => ∃ x4 : Int32, r = [aI x4] ∧ (vc_X9_numberHere_58 S Φ v  (((10 * (σ1.1 49 26)) + x4) - 48) σ3))))))))
theorem w_X9_numberHere_5 {S : Sp} (hS : Sys S) {Φ : Rs} {v : Kt} (hv : Cl S Φ k_X9_numberHere v) (hw : Wk v) (σ : St) (h : vc_X9_numberHere_5 S Φ v  σ) : v 5 [some (aR 49)] [] σ := by
  unfold vc_X9_numberHere_5 at h
  refine r_aload_n (pc := 5) hv 3 rfl rfl ?_
  refine r_callV (pc := 6) (l := []) (av := []) (a := 49) (t := []) hv 4 rfl rfl rfl rfl (rcv_o (by decide) rfl) trivial (hS.1 _ _ _ _ _ (fun r σ1 h => ?_) h)
  obtain ⟨x2, rfl, h⟩ := h
  show v 9 [some (aR 49)] [aI x2] σ1
  refine r_i2l (pc := 9) hv 5 rfl  ?_
  refine r_ldc2_w (pc := 10) hv 6 rfl  ?_
  refine r_ldc2_w (pc := 13) hv 7 rfl  ?_
  refine r_callS (pc := 16) (l := [aL 57, aL 48, aL ((x2 : Int32).toInt64)]) (av := [aL ((x2 : Int32).toInt64), aL 48, aL 57]) (t := []) hv 8 rfl (Or.inl rfl) rfl rfl rfl trivial (t_X9_in hS ?_)
  show v 19 [some (aR 49)] [aI (b2 ((48 : Int64) ≤ ((x2 : Int32).toInt64) ∧ ((x2 : Int32).toInt64 : Int64) ≤ 57))] σ1
  refine r_if_eq (pc := 19) hv 9 rfl (fun c => ?_) (fun c => ?_)
  · replace h := h.1 c
    refine r_aload_n (pc := 74) hv 38 rfl rfl ?_
    refine r_getI (pc := 75) hv 39 rfl rfl rfl ?_
    refine r_aload_n (pc := 78) hv 40 rfl rfl ?_
    refine r_getI (pc := 79) hv 41 rfl rfl rfl ?_
    refine r_isub (pc := 82) hv 42 rfl  ?_
    refine r_iconst (pc := 83) hv 43 rfl  ?_
    refine r_icmp_le (pc := 84) hv 44 rfl (fun c => ?_) (fun c => ?_)
    · replace h := h.1 c
      refine r_bipush (pc := 92) hv 47 rfl  ?_
      exact r_ireturn (pc := 94) hv 48 rfl rfl h
    · replace h := h.2 c
      refine r_bipush (pc := 87) hv 45 rfl  ?_
      refine r_goto (pc := 89) hv 46 rfl  ?_
      exact r_ireturn (pc := 94) hv 48 rfl rfl h
  · replace h := h.2 c
    refine r_aload_n (pc := 22) hv 10 rfl rfl ?_
    refine r_aload_n (pc := 23) hv 11 rfl rfl ?_
    refine r_getI (pc := 24) hv 12 rfl rfl rfl ?_
    refine r_aload_n (pc := 27) hv 13 rfl rfl ?_
    refine r_getI (pc := 28) hv 14 rfl rfl rfl ?_
    refine r_isub (pc := 31) hv 15 rfl  ?_
    refine r_iconst (pc := 32) hv 16 rfl  ?_
    refine r_icmp_ge (pc := 33) hv 17 rfl (fun c => ?_) (fun c => ?_)
    · replace h := h.1 c
      refine r_aload_n (pc := 54) hv 28 rfl rfl ?_
      refine r_getI (pc := 55) hv 29 rfl rfl rfl ?_
      exact (w_X9_numberHere_58 hS hv hw   (σ1.1 49 26)  σ1 h)
    · replace h := h.2 c
      refine r_bipush (pc := 36) hv 18 rfl  ?_
      refine r_aload_n (pc := 38) hv 19 rfl rfl ?_
      refine r_getI (pc := 39) hv 20 rfl rfl rfl ?_
      refine r_imul (pc := 42) hv 21 rfl  ?_
      refine r_aload_n (pc := 43) hv 22 rfl rfl ?_
      refine r_callV (pc := 44) (l := []) (av := []) (a := 49) (t := [aI (10 * (σ1.1 49 26)), aR 49]) hv 23 rfl rfl rfl rfl (rcv_o (by decide) rfl) trivial (hS.1 _ _ _ _ _ (fun r σ3 h => ?_) h)
      obtain ⟨x4, rfl, h⟩ := h
      show v 47 [some (aR 49)] [aI x4, aI (10 * (σ1.1 49 26)), aR 49] σ3
      refine r_iadd (pc := 47) hv 24 rfl  ?_
      refine r_bipush (pc := 48) hv 25 rfl  ?_
      refine r_isub (pc := 50) hv 26 rfl  ?_
      refine r_goto (pc := 51) hv 27 rfl  ?_
      exact (w_X9_numberHere_58 hS hv hw   (((10 * (σ1.1 49 26)) + x4) - 48)  σ3 h)
def vc_X9_numberHere_0 (S : Sp) (Φ : Rs) (v : Kt) (σ : St) : Prop := ∀ σ1 : St, σ1 = upI σ 49 26 0 → (v 5 [some (aR 49)] [] σ1)
theorem w_X9_numberHere_0 {S : Sp} (hS : Sys S) {Φ : Rs} {v : Kt} (hv : Cl S Φ k_X9_numberHere v) (hw : Wk v) (σ : St) (h : vc_X9_numberHere_0 S Φ v  σ) : v 0 [some (aR 49)] [] σ := by
  unfold vc_X9_numberHere_0 at h
  refine r_aload_n (pc := 0) hv 0 rfl rfl ?_
  refine r_iconst (pc := 1) hv 1 rfl  ?_
  refine r_putI (pc := 2) hv 2 rfl rfl rfl ?_
  obtain ⟨σ1, e_σ1⟩ : ∃ y : St, y = upI σ 49 26 0 := ⟨_, rfl⟩
  rw [← e_σ1]
  replace h := h σ1 e_σ1
  exact h
theorem m_X9_numberHere {S : Sp} (hS : Sys S) {σ : St} {Φ : Rs} (h : ∀ v : Kt, Cl S Φ k_X9_numberHere v → Wk v → vc_X9_numberHere_0 S Φ v  σ) : S 210 [aR 49] σ Φ :=
  hS.2 210 M_X9_numberHere k_X9_numberHere _ _ _ mkt_X9_numberHere (Nat.le_of_ble_eq_true rfl) (fun v hv hw => w_X9_numberHere_0 hS hv hw    σ (h v hv hw))
def vc_X9_next_0 (S : Sp) (Φ : Rs) (v : Kt) (σ : St) : Prop := S 208 [aR 49] σ (fun r σ1 => ∃ x2 : Int32, r = [aI x2] ∧ ((¬ (x2 : Int32) = 32 → (∀ σ3 : St, σ3 = upI σ1 49 24 (σ1.1 49 23) → (S 208 [aR 49] σ3 (fun r σ4 => ∃ x5 : Int32, r = [aI x5] ∧ (((b2 ((97 : Int64) ≤ ((x5 : Int32).toInt64) ∧ ((x5 : Int32).toInt64 : Int64) ≤ 122) : Int32) = 0 → (((b2 ((48 : Int64) ≤ ((x5 : Int32).toInt64) ∧ ((x5 : Int32).toInt64 : Int64) ≤ 57) : Int32) = 0 → ((¬ (x5 : Int32) = 59 → ((¬ (x5 : Int32) = (-1) → (∀ σ6 : St, σ6 = upI σ4 49 25 23 → (Φ [] σ6))) ∧ ((x5 : Int32) = (-1) → (∀ σ7 : St, σ7 = upI σ4 49 25 22 → (Φ [] σ7))))) ∧ ((x5 : Int32) = 59 → (∀ σ8 : St, σ8 = upI σ4 49 25 21 → (∀ σ9 : St, σ9 = upI σ8 49 23 ((σ8.1 49 23) + 1) → (Φ [] σ9)))))) ∧ (¬ ((b2 ((48 : Int64) ≤ ((x5 : Int32).toInt64) ∧ ((x5 : Int32).toInt64 : Int64) ≤ 57) : Int32) = 0) → (S 210 [aR 49] σ4 (fun r σ10 => ∃ x11 : Int32, r = [aI x11] ∧ (∀ σ12 : St, σ12 = upI σ10 49 25 x11 → (Φ [] σ12))))))) ∧ (¬ ((b2 ((97 : Int64) ≤ ((x5 : Int32).toInt64) ∧ ((x5 : Int32).toInt64 : Int64) ≤ 122) : Int32) = 0) → (S 209 [aR 49] σ4 (fun r σ13 => ∃ x14 : Int32, r = [aI x14] ∧ (∀ σ15 : St, σ15 = upI σ13 49 25 x14 → (Φ [] σ15)))))))))) ∧ ((x2 : Int32) = 32 → (∀ σ16 : St, σ16 = upI σ1 49 23 ((σ1.1 49 23) + 1) → (v 0 [some (aR 49), none] [] σ16)))))
theorem w_X9_next_0 {S : Sp} (hS : Sys S) {Φ : Rs} {v : Kt} (hv : Cl S Φ k_X9_next v) (hw : Wk v) (σ : St) (h : vc_X9_next_0 S Φ v  σ) : v 0 [some (aR 49), none] [] σ := by
  unfold vc_X9_next_0 at h
  refine r_aload_n (pc := 0) hv 0 rfl rfl ?_
  refine r_callV (pc := 1) (l := []) (av := []) (a := 49) (t := []) hv 1 rfl rfl rfl rfl (rcv_o (by decide) rfl) trivial (hS.1 _ _ _ _ _ (fun r σ1 h => ?_) h)
  obtain ⟨x2, rfl, h⟩ := h
  show v 4 [some (aR 49), none] [aI x2] σ1
  refine r_bipush (pc := 4) hv 2 rfl  ?_
  refine r_icmp_ne (pc := 6) hv 3 rfl (fun c => ?_) (fun c => ?_)
  · replace h := h.1 c
    refine r_aload_n (pc := 22) hv 11 rfl rfl ?_
    refine r_aload_n (pc := 23) hv 12 rfl rfl ?_
    refine r_getI (pc := 24) hv 13 rfl rfl rfl ?_
    refine r_putI (pc := 27) hv 14 rfl rfl rfl ?_
    obtain ⟨σ3, e_σ3⟩ : ∃ y : St, y = upI σ1 49 24 (σ1.1 49 23) := ⟨_, rfl⟩
    rw [← e_σ3]
    replace h := h σ3 e_σ3
    refine r_aload_n (pc := 30) hv 15 rfl rfl ?_
    refine r_callV (pc := 31) (l := []) (av := []) (a := 49) (t := []) hv 16 rfl rfl rfl rfl (rcv_o (by decide) rfl) trivial (hS.1 _ _ _ _ _ (fun r σ4 h => ?_) h)
    obtain ⟨x5, rfl, h⟩ := h
    show v 34 [some (aR 49), none] [aI x5] σ4
    refine r_istore_n (pc := 34) (lo' := [some (aR 49), some (aI x5)]) hv 17 rfl rfl ?_
    refine r_iload_n (pc := 35) hv 18 rfl rfl ?_
    refine r_i2l (pc := 36) hv 19 rfl  ?_
    refine r_ldc2_w (pc := 37) hv 20 rfl  ?_
    refine r_ldc2_w (pc := 40) hv 21 rfl  ?_
    refine r_callS (pc := 43) (l := [aL 122, aL 97, aL ((x5 : Int32).toInt64)]) (av := [aL ((x5 : Int32).toInt64), aL 97, aL 122]) (t := []) hv 22 rfl (Or.inl rfl) rfl rfl rfl trivial (t_X9_in hS ?_)
    show v 46 [some (aR 49), some (aI x5)] [aI (b2 ((97 : Int64) ≤ ((x5 : Int32).toInt64) ∧ ((x5 : Int32).toInt64 : Int64) ≤ 122))] σ4
    refine r_if_eq (pc := 46) hv 23 rfl (fun c => ?_) (fun c => ?_)
    · replace h := h.1 c
      refine r_iload_n (pc := 60) hv 29 rfl rfl ?_
      refine r_i2l (pc := 61) hv 30 rfl  ?_
      refine r_ldc2_w (pc := 62) hv 31 rfl  ?_
      refine r_ldc2_w (pc := 65) hv 32 rfl  ?_
      refine r_callS (pc := 68) (l := [aL 57, aL 48, aL ((x5 : Int32).toInt64)]) (av := [aL ((x5 : Int32).toInt64), aL 48, aL 57]) (t := []) hv 33 rfl (Or.inl rfl) rfl rfl rfl trivial (t_X9_in hS ?_)
      show v 71 [some (aR 49), some (aI x5)] [aI (b2 ((48 : Int64) ≤ ((x5 : Int32).toInt64) ∧ ((x5 : Int32).toInt64 : Int64) ≤ 57))] σ4
      refine r_if_eq (pc := 71) hv 34 rfl (fun c => ?_) (fun c => ?_)
      · replace h := h.1 c
        refine r_iload_n (pc := 85) hv 40 rfl rfl ?_
        refine r_bipush (pc := 86) hv 41 rfl  ?_
        refine r_icmp_ne (pc := 88) hv 42 rfl (fun c => ?_) (fun c => ?_)
        · replace h := h.1 c
          refine r_aload_n (pc := 110) hv 53 rfl rfl ?_
          refine r_iload_n (pc := 111) hv 54 rfl rfl ?_
          refine r_iconst (pc := 112) hv 55 rfl  ?_
          refine r_icmp_ne (pc := 113) hv 56 rfl (fun c => ?_) (fun c => ?_)
          · replace h := h.1 c
            refine r_bipush (pc := 121) hv 59 rfl  ?_
            refine r_putI (pc := 123) hv 60 rfl rfl rfl ?_
            obtain ⟨σ6, e_σ6⟩ : ∃ y : St, y = upI σ4 49 25 23 := ⟨_, rfl⟩
            rw [← e_σ6]
            replace h := h σ6 e_σ6
            exact r_return (pc := 126) hv 61 rfl h
          · replace h := h.2 c
            refine r_bipush (pc := 116) hv 57 rfl  ?_
            refine r_goto (pc := 118) hv 58 rfl  ?_
            refine r_putI (pc := 123) hv 60 rfl rfl rfl ?_
            obtain ⟨σ7, e_σ7⟩ : ∃ y : St, y = upI σ4 49 25 22 := ⟨_, rfl⟩
            rw [← e_σ7]
            replace h := h σ7 e_σ7
            exact r_return (pc := 126) hv 61 rfl h
        · replace h := h.2 c
          refine r_aload_n (pc := 91) hv 43 rfl rfl ?_
          refine r_bipush (pc := 92) hv 44 rfl  ?_
          refine r_putI (pc := 94) hv 45 rfl rfl rfl ?_
          obtain ⟨σ8, e_σ8⟩ : ∃ y : St, y = upI σ4 49 25 21 := ⟨_, rfl⟩
          rw [← e_σ8]
          replace h := h σ8 e_σ8
          refine r_aload_n (pc := 97) hv 46 rfl rfl ?_
          refine r_dup (pc := 98) hv 47 rfl trivial ?_
          refine r_getI (pc := 99) hv 48 rfl rfl rfl ?_
          refine r_iconst (pc := 102) hv 49 rfl  ?_
          refine r_iadd (pc := 103) hv 50 rfl  ?_
          refine r_putI (pc := 104) hv 51 rfl rfl rfl ?_
          obtain ⟨σ9, e_σ9⟩ : ∃ y : St, y = upI σ8 49 23 ((σ8.1 49 23) + 1) := ⟨_, rfl⟩
          rw [← e_σ9]
          replace h := h σ9 e_σ9
          refine r_goto (pc := 107) hv 52 rfl  ?_
          exact r_return (pc := 126) hv 61 rfl h
      · replace h := h.2 c
        refine r_aload_n (pc := 74) hv 35 rfl rfl ?_
        refine r_aload_n (pc := 75) hv 36 rfl rfl ?_
        refine r_callV (pc := 76) (l := []) (av := []) (a := 49) (t := [aR 49]) hv 37 rfl rfl rfl rfl (rcv_o (by decide) rfl) trivial (hS.1 _ _ _ _ _ (fun r σ10 h => ?_) h)
        obtain ⟨x11, rfl, h⟩ := h
        show v 79 [some (aR 49), some (aI x5)] [aI x11, aR 49] σ10
        refine r_putI (pc := 79) hv 38 rfl rfl rfl ?_
        obtain ⟨σ12, e_σ12⟩ : ∃ y : St, y = upI σ10 49 25 x11 := ⟨_, rfl⟩
        rw [← e_σ12]
        replace h := h σ12 e_σ12
        refine r_goto (pc := 82) hv 39 rfl  ?_
        exact r_return (pc := 126) hv 61 rfl h
    · replace h := h.2 c
      refine r_aload_n (pc := 49) hv 24 rfl rfl ?_
      refine r_aload_n (pc := 50) hv 25 rfl rfl ?_
      refine r_callV (pc := 51) (l := []) (av := []) (a := 49) (t := [aR 49]) hv 26 rfl rfl rfl rfl (rcv_o (by decide) rfl) trivial (hS.1 _ _ _ _ _ (fun r σ13 h => ?_) h)
      obtain ⟨x14, rfl, h⟩ := h
      show v 54 [some (aR 49), some (aI x5)] [aI x14, aR 49] σ13
      refine r_putI (pc := 54) hv 27 rfl rfl rfl ?_
      obtain ⟨σ15, e_σ15⟩ : ∃ y : St, y = upI σ13 49 25 x14 := ⟨_, rfl⟩
      rw [← e_σ15]
      replace h := h σ15 e_σ15
      refine r_goto (pc := 57) hv 28 rfl  ?_
      exact r_return (pc := 126) hv 61 rfl h
  · replace h := h.2 c
    refine r_aload_n (pc := 9) hv 4 rfl rfl ?_
    refine r_dup (pc := 10) hv 5 rfl trivial ?_
    refine r_getI (pc := 11) hv 6 rfl rfl rfl ?_
    refine r_iconst (pc := 14) hv 7 rfl  ?_
    refine r_iadd (pc := 15) hv 8 rfl  ?_
    refine r_putI (pc := 16) hv 9 rfl rfl rfl ?_
    obtain ⟨σ16, e_σ16⟩ : ∃ y : St, y = upI σ1 49 23 ((σ1.1 49 23) + 1) := ⟨_, rfl⟩
    rw [← e_σ16]
    replace h := h σ16 e_σ16
    refine r_goto (pc := 19) hv 10 rfl  ?_
    exact h
theorem m_X9_next {S : Sp} (hS : Sys S) {σ : St} {Φ : Rs} (h : ∀ v : Kt, Cl S Φ k_X9_next v → Wk v → vc_X9_next_0 S Φ v  σ) : S 211 [aR 49] σ Φ :=
  hS.2 211 M_X9_next k_X9_next _ _ _ mkt_X9_next (Nat.le_of_ble_eq_true rfl) (fun v hv hw => w_X9_next_0 hS hv hw    σ (h v hv hw))
def vc_X9_takesNumber_0 (S : Sp) (Φ : Rs) (v : Kt) (l1 : Int32) (σ : St) : Prop := ((σ.1 49 25 : Int32) = 20 → (vp_in l1 6 ∧ (∀ σ1 : St, σ1 = upI σ 62 (l1 : Int32).toNatClampNeg (σ.1 49 26) → (S 211 [aR 49] σ1 (fun r σ2 => r = [] ∧ (Φ [aI 1] σ2)))))) ∧ (¬ ((σ.1 49 25 : Int32) = 20) → (Φ [aI 0] σ))
theorem w_X9_takesNumber_0 {S : Sp} (hS : Sys S) {Φ : Rs} {v : Kt} (hv : Cl S Φ k_X9_takesNumber v) (hw : Wk v) (l1 : Int32) (σ : St) (h : vc_X9_takesNumber_0 S Φ v l1 σ) : v 0 [some (aR 49), some (aI l1)] [] σ := by
  unfold vc_X9_takesNumber_0 at h
  refine r_aload_n (pc := 0) hv 0 rfl rfl ?_
  refine r_getI (pc := 1) hv 1 rfl rfl rfl ?_
  refine r_bipush (pc := 4) hv 2 rfl  ?_
  refine r_icmp_eq (pc := 6) hv 3 rfl (fun c => ?_) (fun c => ?_)
  · replace h := h.1 c
    refine r_aload_n (pc := 11) hv 6 rfl rfl ?_
    refine r_getR (pc := 12) (b := 62) hv 7 rfl rfl rfl rfl ?_
    refine r_iload_n (pc := 15) hv 8 rfl rfl ?_
    refine r_aload_n (pc := 16) hv 9 rfl rfl ?_
    refine r_getI (pc := 17) hv 10 rfl rfl rfl ?_
    refine r_iastore (pc := 20) (N := 6) hv 11 rfl rfl rfl h.1 ?_
    replace h := h.2
    obtain ⟨σ1, e_σ1⟩ : ∃ y : St, y = upI σ 62 (l1 : Int32).toNatClampNeg (σ.1 49 26) := ⟨_, rfl⟩
    rw [← e_σ1]
    replace h := h σ1 e_σ1
    refine r_aload_n (pc := 21) hv 12 rfl rfl ?_
    refine r_callV (pc := 22) (l := []) (av := []) (a := 49) (t := []) hv 13 rfl rfl rfl rfl (rcv_o (by decide) rfl) trivial (hS.1 _ _ _ _ _ (fun r σ2 h => ?_) h)
    obtain ⟨rfl, h⟩ := h
    show v 25 [some (aR 49), some (aI l1)] [] σ2
    refine r_iconst (pc := 25) hv 14 rfl  ?_
    exact r_zreturn (pc := 26) hv 15 rfl rfl (Or.inr rfl) h
  · replace h := h.2 c
    refine r_iconst (pc := 9) hv 4 rfl  ?_
    exact r_zreturn (pc := 10) hv 5 rfl rfl (Or.inl rfl) h
theorem m_X9_takesNumber {S : Sp} (hS : Sys S) {l1 : Int32} {σ : St} {Φ : Rs} (h : ∀ v : Kt, Cl S Φ k_X9_takesNumber v → Wk v → vc_X9_takesNumber_0 S Φ v l1 σ) : S 212 [aR 49, aI l1] σ Φ :=
  hS.2 212 M_X9_takesNumber k_X9_takesNumber _ _ _ mkt_X9_takesNumber (Nat.le_of_ble_eq_true rfl) (fun v hv hw => w_X9_takesNumber_0 hS hv hw   l1 σ (h v hv hw))
def vc_X9_takesNumbers_2 (S : Sp) (Φ : Rs) (v : Kt) (l1 : Int32) (l2 : Int32) (l3 : Int32) (σ : St) : Prop := ((l1 + l2 : Int32) ≤ l3 → (Φ [aI 1] σ)) ∧ (¬ ((l1 + l2 : Int32) ≤ l3) → (S 212 [aR 49, aI l3] σ (fun r σ1 => ∃ x2 : Int32, r = [aI x2] ∧ ((¬ (x2 : Int32) = 0 → (v 2 [some (aR 49), some (aI l1), some (aI l2), some (aI (l3 + 1))] [] σ1)) ∧ ((x2 : Int32) = 0 → (Φ [aI 0] σ1))))))
theorem w_X9_takesNumbers_2 {S : Sp} (hS : Sys S) {Φ : Rs} {v : Kt} (hv : Cl S Φ k_X9_takesNumbers v) (hw : Wk v) (l1 : Int32) (l2 : Int32) (l3 : Int32) (σ : St) (h : vc_X9_takesNumbers_2 S Φ v l1 l2 l3 σ) : v 2 [some (aR 49), some (aI l1), some (aI l2), some (aI l3)] [] σ := by
  unfold vc_X9_takesNumbers_2 at h
  refine r_iload_n (pc := 2) hv 2 rfl rfl ?_
  refine r_iload_n (pc := 3) hv 3 rfl rfl ?_
  refine r_iload_n (pc := 4) hv 4 rfl rfl ?_
  refine r_iadd (pc := 5) hv 5 rfl  ?_
  refine r_icmp_ge (pc := 6) hv 6 rfl (fun c => ?_) (fun c => ?_)
  · replace h := h.1 c
    refine r_iconst (pc := 25) hv 15 rfl  ?_
    exact r_zreturn (pc := 26) hv 16 rfl rfl (Or.inr rfl) h
  · replace h := h.2 c
    refine r_aload_n (pc := 9) hv 7 rfl rfl ?_
    refine r_iload_n (pc := 10) hv 8 rfl rfl ?_
    refine r_callV (pc := 11) (l := [aI l3]) (av := [aI l3]) (a := 49) (t := []) hv 9 rfl rfl rfl rfl (rcv_o (by decide) rfl) trivial (hS.1 _ _ _ _ _ (fun r σ1 h => ?_) h)
    obtain ⟨x2, rfl, h⟩ := h
    show v 14 [some (aR 49), some (aI l1), some (aI l2), some (aI l3)] [aI x2] σ1
    refine r_if_ne (pc := 14) hv 10 rfl (fun c => ?_) (fun c => ?_)
    · replace h := h.1 c
      refine r_iinc (pc := 19) (lo' := [some (aR 49), some (aI l1), some (aI l2), some (aI (l3 + 1))]) hv 13 rfl rfl rfl ?_
      refine r_goto (pc := 22) hv 14 rfl  ?_
      exact h
    · replace h := h.2 c
      refine r_iconst (pc := 17) hv 11 rfl  ?_
      exact r_zreturn (pc := 18) hv 12 rfl rfl (Or.inl rfl) h
def vc_X9_takesNumbers_0 (S : Sp) (Φ : Rs) (v : Kt) (l1 : Int32) (l2 : Int32) (σ : St) : Prop := v 2 [some (aR 49), some (aI l1), some (aI l2), some (aI l1)] [] σ
theorem w_X9_takesNumbers_0 {S : Sp} (hS : Sys S) {Φ : Rs} {v : Kt} (hv : Cl S Φ k_X9_takesNumbers v) (hw : Wk v) (l1 : Int32) (l2 : Int32) (σ : St) (h : vc_X9_takesNumbers_0 S Φ v l1 l2 σ) : v 0 [some (aR 49), some (aI l1), some (aI l2), none] [] σ := by
  unfold vc_X9_takesNumbers_0 at h
  refine r_iload_n (pc := 0) hv 0 rfl rfl ?_
  refine r_istore_n (pc := 1) (lo' := [some (aR 49), some (aI l1), some (aI l2), some (aI l1)]) hv 1 rfl rfl ?_
  exact h
theorem m_X9_takesNumbers {S : Sp} (hS : Sys S) {l1 : Int32} {l2 : Int32} {σ : St} {Φ : Rs} (h : ∀ v : Kt, Cl S Φ k_X9_takesNumbers v → Wk v → vc_X9_takesNumbers_0 S Φ v l1 l2 σ) : S 213 [aR 49, aI l1, aI l2] σ Φ :=
  hS.2 213 M_X9_takesNumbers k_X9_takesNumbers _ _ _ mkt_X9_takesNumbers (Nat.le_of_ble_eq_true rfl) (fun v hv hw => w_X9_takesNumbers_0 hS hv hw   l1 l2 σ (h v hv hw))
def vc_X9_takesHole_0 (S : Sp) (Φ : Rs) (v : Kt) (σ : St) : Prop := S 213 [aR 49, aI 0, aI 2] σ (fun r σ1 => ∃ x2 : Int32, r = [aI x2] ∧ (((x2 : Int32) = 0 → (Φ [aI 0] σ1)) ∧ (¬ ((x2 : Int32) = 0) → (((σ1.1 49 25 : Int32) ≤ 5 → (vp_in 2 6 ∧ (∀ σ3 : St, σ3 = upI σ1 62 (2 : Int32).toNatClampNeg (σ1.1 49 25) → (S 211 [aR 49] σ3 (fun r σ4 => r = [] ∧ (S 213 [aR 49, aI 3, aI 3] σ4 (fun r σ5 => ∃ x6 : Int32, r = [aI x6] ∧ ((x6 = 0 ∨ x6 = 1) ∧ Φ [aI x6] σ5)))))))) ∧ (¬ ((σ1.1 49 25 : Int32) ≤ 5) → (Φ [aI 0] σ1))))))
theorem w_X9_takesHole_0 {S : Sp} (hS : Sys S) {Φ : Rs} {v : Kt} (hv : Cl S Φ k_X9_takesHole v) (hw : Wk v) (σ : St) (h : vc_X9_takesHole_0 S Φ v  σ) : v 0 [some (aR 49)] [] σ := by
  unfold vc_X9_takesHole_0 at h
  refine r_aload_n (pc := 0) hv 0 rfl rfl ?_
  refine r_iconst (pc := 1) hv 1 rfl  ?_
  refine r_iconst (pc := 2) hv 2 rfl  ?_
  refine r_callV (pc := 3) (l := [aI 2, aI 0]) (av := [aI 0, aI 2]) (a := 49) (t := []) hv 3 rfl rfl rfl rfl (rcv_o (by decide) rfl) trivial (hS.1 _ _ _ _ _ (fun r σ1 h => ?_) h)
  obtain ⟨x2, rfl, h⟩ := h
  show v 6 [some (aR 49)] [aI x2] σ1
  refine r_if_eq (pc := 6) hv 4 rfl (fun c => ?_) (fun c => ?_)
  · replace h := h.1 c
    refine r_iconst (pc := 17) hv 9 rfl  ?_
    exact r_zreturn (pc := 18) hv 10 rfl rfl (Or.inl rfl) h
  · replace h := h.2 c
    refine r_aload_n (pc := 9) hv 5 rfl rfl ?_
    refine r_getI (pc := 10) hv 6 rfl rfl rfl ?_
    refine r_iconst (pc := 13) hv 7 rfl  ?_
    refine r_icmp_le (pc := 14) hv 8 rfl (fun c => ?_) (fun c => ?_)
    · replace h := h.1 c
      refine r_aload_n (pc := 19) hv 11 rfl rfl ?_
      refine r_getR (pc := 20) (b := 62) hv 12 rfl rfl rfl rfl ?_
      refine r_iconst (pc := 23) hv 13 rfl  ?_
      refine r_aload_n (pc := 24) hv 14 rfl rfl ?_
      refine r_getI (pc := 25) hv 15 rfl rfl rfl ?_
      refine r_iastore (pc := 28) (N := 6) hv 16 rfl rfl rfl h.1 ?_
      replace h := h.2
      obtain ⟨σ3, e_σ3⟩ : ∃ y : St, y = upI σ1 62 (2 : Int32).toNatClampNeg (σ1.1 49 25) := ⟨_, rfl⟩
      rw [← e_σ3]
      replace h := h σ3 e_σ3
      refine r_aload_n (pc := 29) hv 17 rfl rfl ?_
      refine r_callV (pc := 30) (l := []) (av := []) (a := 49) (t := []) hv 18 rfl rfl rfl rfl (rcv_o (by decide) rfl) trivial (hS.1 _ _ _ _ _ (fun r σ4 h => ?_) h)
      obtain ⟨rfl, h⟩ := h
      show v 33 [some (aR 49)] [] σ4
      refine r_aload_n (pc := 33) hv 19 rfl rfl ?_
      refine r_iconst (pc := 34) hv 20 rfl  ?_
      refine r_iconst (pc := 35) hv 21 rfl  ?_
      refine r_callV (pc := 36) (l := [aI 3, aI 3]) (av := [aI 3, aI 3]) (a := 49) (t := []) hv 22 rfl rfl rfl rfl (rcv_o (by decide) rfl) trivial (hS.1 _ _ _ _ _ (fun r σ5 h => ?_) h)
      obtain ⟨x6, rfl, h⟩ := h
      show v 39 [some (aR 49)] [aI x6] σ5
      exact r_zreturn (pc := 39) hv 23 rfl rfl h.1 h.2
    · replace h := h.2 c
      refine r_iconst (pc := 17) hv 9 rfl  ?_
      exact r_zreturn (pc := 18) hv 10 rfl rfl (Or.inl rfl) h
theorem m_X9_takesHole {S : Sp} (hS : Sys S) {σ : St} {Φ : Rs} (h : ∀ v : Kt, Cl S Φ k_X9_takesHole v → Wk v → vc_X9_takesHole_0 S Φ v  σ) : S 214 [aR 49] σ Φ :=
  hS.2 214 M_X9_takesHole k_X9_takesHole _ _ _ mkt_X9_takesHole (Nat.le_of_ble_eq_true rfl) (fun v hv hw => w_X9_takesHole_0 hS hv hw    σ (h v hv hw))
def vc_X9_takesWire_0 (S : Sp) (Φ : Rs) (v : Kt) (σ : St) : Prop := (¬ (σ.1 49 25 : Int32) = 7 → (S 213 [aR 49, aI 0, aI 3] σ (fun r σ1 => ∃ x2 : Int32, r = [aI x2] ∧ ((x2 = 0 ∨ x2 = 1) ∧ Φ [aI x2] σ1)))) ∧ ((σ.1 49 25 : Int32) = 7 → (vp_in 0 6 ∧ (∀ σ3 : St, σ3 = upI σ 62 (0 : Int32).toNatClampNeg (-1) → (S 211 [aR 49] σ3 (fun r σ4 => r = [] ∧ (S 213 [aR 49, aI 1, aI 2] σ4 (fun r σ5 => ∃ x6 : Int32, r = [aI x6] ∧ ((x6 = 0 ∨ x6 = 1) ∧ Φ [aI x6] σ5))))))))
theorem w_X9_takesWire_0 {S : Sp} (hS : Sys S) {Φ : Rs} {v : Kt} (hv : Cl S Φ k_X9_takesWire v) (hw : Wk v) (σ : St) (h : vc_X9_takesWire_0 S Φ v  σ) : v 0 [some (aR 49)] [] σ := by
  unfold vc_X9_takesWire_0 at h
  refine r_aload_n (pc := 0) hv 0 rfl rfl ?_
  refine r_getI (pc := 1) hv 1 rfl rfl rfl ?_
  refine r_bipush (pc := 4) hv 2 rfl  ?_
  refine r_icmp_ne (pc := 6) hv 3 rfl (fun c => ?_) (fun c => ?_)
  · replace h := h.1 c
    refine r_aload_n (pc := 27) hv 16 rfl rfl ?_
    refine r_iconst (pc := 28) hv 17 rfl  ?_
    refine r_iconst (pc := 29) hv 18 rfl  ?_
    refine r_callV (pc := 30) (l := [aI 3, aI 0]) (av := [aI 0, aI 3]) (a := 49) (t := []) hv 19 rfl rfl rfl rfl (rcv_o (by decide) rfl) trivial (hS.1 _ _ _ _ _ (fun r σ1 h => ?_) h)
    obtain ⟨x2, rfl, h⟩ := h
    show v 33 [some (aR 49)] [aI x2] σ1
    exact r_zreturn (pc := 33) hv 20 rfl rfl h.1 h.2
  · replace h := h.2 c
    refine r_aload_n (pc := 9) hv 4 rfl rfl ?_
    refine r_getR (pc := 10) (b := 62) hv 5 rfl rfl rfl rfl ?_
    refine r_iconst (pc := 13) hv 6 rfl  ?_
    refine r_iconst (pc := 14) hv 7 rfl  ?_
    refine r_iastore (pc := 15) (N := 6) hv 8 rfl rfl rfl h.1 ?_
    replace h := h.2
    obtain ⟨σ3, e_σ3⟩ : ∃ y : St, y = upI σ 62 (0 : Int32).toNatClampNeg (-1) := ⟨_, rfl⟩
    rw [← e_σ3]
    replace h := h σ3 e_σ3
    refine r_aload_n (pc := 16) hv 9 rfl rfl ?_
    refine r_callV (pc := 17) (l := []) (av := []) (a := 49) (t := []) hv 10 rfl rfl rfl rfl (rcv_o (by decide) rfl) trivial (hS.1 _ _ _ _ _ (fun r σ4 h => ?_) h)
    obtain ⟨rfl, h⟩ := h
    show v 20 [some (aR 49)] [] σ4
    refine r_aload_n (pc := 20) hv 11 rfl rfl ?_
    refine r_iconst (pc := 21) hv 12 rfl  ?_
    refine r_iconst (pc := 22) hv 13 rfl  ?_
    refine r_callV (pc := 23) (l := [aI 2, aI 1]) (av := [aI 1, aI 2]) (a := 49) (t := []) hv 14 rfl rfl rfl rfl (rcv_o (by decide) rfl) trivial (hS.1 _ _ _ _ _ (fun r σ5 h => ?_) h)
    obtain ⟨x6, rfl, h⟩ := h
    show v 26 [some (aR 49)] [aI x6] σ5
    exact r_zreturn (pc := 26) hv 15 rfl rfl h.1 h.2
theorem m_X9_takesWire {S : Sp} (hS : Sys S) {σ : St} {Φ : Rs} (h : ∀ v : Kt, Cl S Φ k_X9_takesWire v → Wk v → vc_X9_takesWire_0 S Φ v  σ) : S 215 [aR 49] σ Φ :=
  hS.2 215 M_X9_takesWire k_X9_takesWire _ _ _ mkt_X9_takesWire (Nat.le_of_ble_eq_true rfl) (fun v hv hw => w_X9_takesWire_0 hS hv hw    σ (h v hv hw))
def vc_X9_does_0 (S : Sp) (Φ : Rs) (v : Kt) (l1 : Int32) (σ : St) : Prop := ((l1 : Int32) = 0 → (vp_in 0 6 ∧ (vp_in 1 6 ∧ (vp_in 2 6 ∧ (vp_in 3 6 ∧ (vp_in 4 6 ∧ (vp_in 5 6 ∧ (S 161 [aR 49, aI (σ.1 62 (0 : Int32).toNatClampNeg), aI (σ.1 62 (1 : Int32).toNatClampNeg), aI (σ.1 62 (2 : Int32).toNatClampNeg), aI (σ.1 62 (3 : Int32).toNatClampNeg), aI (σ.1 62 (4 : Int32).toNatClampNeg), aI (σ.1 62 (5 : Int32).toNatClampNeg)] σ (fun r σ1 => ∃ x2 : Int32, r = [aI x2] ∧ (((x2 : Int32) < 0 → (Φ [aI 0] σ1)) ∧ (¬ ((x2 : Int32) < 0) → (Φ [aI 1] σ1)))))))))))) ∧ (¬ ((l1 : Int32) = 0) → (((l1 : Int32) = 6 → (vp_in 0 6 ∧ (vp_in 1 6 ∧ (vp_in 2 6 ∧ (S 166 [aR 49, aI (σ.1 62 (0 : Int32).toNatClampNeg), aI (σ.1 62 (1 : Int32).toNatClampNeg), aI (σ.1 62 (2 : Int32).toNatClampNeg)] σ (fun r σ3 => ∃ x4 : Int32, r = [aI x4] ∧ (((x4 : Int32) < 0 → (Φ [aI 0] σ3)) ∧ (¬ ((x4 : Int32) < 0) → (Φ [aI 1] σ3))))))))) ∧ (¬ ((l1 : Int32) = 6) → (((l1 : Int32) = 11 → (vp_in 0 6 ∧ (((b2 ((0 : Int64) ≤ (σ.1 62 (0 : Int32).toNatClampNeg : Int32).toInt64 ∧ ((σ.1 62 (0 : Int32).toNatClampNeg : Int32).toInt64 : Int64) ≤ (σ.1 50 (280 : Int32).toNatClampNeg - 1 : Int32).toInt64) : Int32) = 0 → (Φ [aI 0] σ)) ∧ (¬ ((b2 ((0 : Int64) ≤ (σ.1 62 (0 : Int32).toNatClampNeg : Int32).toInt64 ∧ ((σ.1 62 (0 : Int32).toNatClampNeg : Int32).toInt64 : Int64) ≤ (σ.1 50 (280 : Int32).toNatClampNeg - 1 : Int32).toInt64) : Int32) = 0) → (vp_in 0 6 ∧ (vp_in (8 * (σ.1 62 (0 : Int32).toNatClampNeg) + 6) 286 ∧ ((¬ (b2 (σ.1 50 (8 * (σ.1 62 (0 : Int32).toNatClampNeg) + 6 : Int32).toNatClampNeg = 1) : Int32) = 0 → (Φ [aI 0] σ)) ∧ ((b2 (σ.1 50 (8 * (σ.1 62 (0 : Int32).toNatClampNeg) + 6 : Int32).toNatClampNeg = 1) : Int32) = 0 → (vp_in 0 6 ∧ (S 164 [aR 49, aI (σ.1 62 (0 : Int32).toNatClampNeg), aI 6, aI 1] σ (fun r σ5 => ∃ x6 : Int32, r = [aI x6] ∧ (((x6 : Int32) < 0 → (Φ [aI 0] σ5)) ∧ (¬ ((x6 : Int32) < 0) → (Φ [aI 1] σ5)))))))))))))) ∧ (¬ ((l1 : Int32) = 11) → (vp_in 0 6 ∧ (S 169 [aR 49, aI (l1 - 8), aI (σ.1 62 (0 : Int32).toNatClampNeg)] σ (fun r σ7 => ∃ x8 : Int32, r = [aI x8] ∧ (((x8 : Int32) < 0 → (Φ [aI 0] σ7)) ∧ (¬ ((x8 : Int32) < 0) → (Φ [aI 1] σ7)))))))))))
theorem w_X9_does_0 {S : Sp} (hS : Sys S) {Φ : Rs} {v : Kt} (hv : Cl S Φ k_X9_does v) (hw : Wk v) (l1 : Int32) (σ : St) (h : vc_X9_does_0 S Φ v l1 σ) : v 0 [some (aR 49), some (aI l1)] [] σ := by
  unfold vc_X9_does_0 at h
  refine r_iload_n (pc := 0) hv 0 rfl rfl ?_
  refine r_look (pc := 1) hv 1 rfl ?_
  refine ⟨fun c => ?_, fun c => ?_⟩
  · replace h := h.1 c
    show v 36 [some (aR 49), some (aI l1)] [] σ
    refine r_aload_n (pc := 36) hv 2 rfl rfl ?_
    refine r_aload_n (pc := 37) hv 3 rfl rfl ?_
    refine r_getR (pc := 38) (b := 62) hv 4 rfl rfl rfl rfl ?_
    refine r_iconst (pc := 41) hv 5 rfl  ?_
    refine r_iaload (pc := 42) (N := 6) hv 6 rfl rfl rfl (by decide) h.1 ?_
    replace h := h.2
    refine r_aload_n (pc := 43) hv 7 rfl rfl ?_
    refine r_getR (pc := 44) (b := 62) hv 8 rfl rfl rfl rfl ?_
    refine r_iconst (pc := 47) hv 9 rfl  ?_
    refine r_iaload (pc := 48) (N := 6) hv 10 rfl rfl rfl (by decide) h.1 ?_
    replace h := h.2
    refine r_aload_n (pc := 49) hv 11 rfl rfl ?_
    refine r_getR (pc := 50) (b := 62) hv 12 rfl rfl rfl rfl ?_
    refine r_iconst (pc := 53) hv 13 rfl  ?_
    refine r_iaload (pc := 54) (N := 6) hv 14 rfl rfl rfl (by decide) h.1 ?_
    replace h := h.2
    refine r_aload_n (pc := 55) hv 15 rfl rfl ?_
    refine r_getR (pc := 56) (b := 62) hv 16 rfl rfl rfl rfl ?_
    refine r_iconst (pc := 59) hv 17 rfl  ?_
    refine r_iaload (pc := 60) (N := 6) hv 18 rfl rfl rfl (by decide) h.1 ?_
    replace h := h.2
    refine r_aload_n (pc := 61) hv 19 rfl rfl ?_
    refine r_getR (pc := 62) (b := 62) hv 20 rfl rfl rfl rfl ?_
    refine r_iconst (pc := 65) hv 21 rfl  ?_
    refine r_iaload (pc := 66) (N := 6) hv 22 rfl rfl rfl (by decide) h.1 ?_
    replace h := h.2
    refine r_aload_n (pc := 67) hv 23 rfl rfl ?_
    refine r_getR (pc := 68) (b := 62) hv 24 rfl rfl rfl rfl ?_
    refine r_iconst (pc := 71) hv 25 rfl  ?_
    refine r_iaload (pc := 72) (N := 6) hv 26 rfl rfl rfl (by decide) h.1 ?_
    replace h := h.2
    refine r_callV (pc := 73) (l := [aI (σ.1 62 (5 : Int32).toNatClampNeg), aI (σ.1 62 (4 : Int32).toNatClampNeg), aI (σ.1 62 (3 : Int32).toNatClampNeg), aI (σ.1 62 (2 : Int32).toNatClampNeg), aI (σ.1 62 (1 : Int32).toNatClampNeg), aI (σ.1 62 (0 : Int32).toNatClampNeg)]) (av := [aI (σ.1 62 (0 : Int32).toNatClampNeg), aI (σ.1 62 (1 : Int32).toNatClampNeg), aI (σ.1 62 (2 : Int32).toNatClampNeg), aI (σ.1 62 (3 : Int32).toNatClampNeg), aI (σ.1 62 (4 : Int32).toNatClampNeg), aI (σ.1 62 (5 : Int32).toNatClampNeg)]) (a := 49) (t := []) hv 27 rfl rfl rfl rfl (rcv_o (by decide) rfl) trivial (hS.1 _ _ _ _ _ (fun r σ1 h => ?_) h)
    obtain ⟨x2, rfl, h⟩ := h
    show v 76 [some (aR 49), some (aI l1)] [aI x2] σ1
    refine r_if_lt (pc := 76) hv 28 rfl (fun c => ?_) (fun c => ?_)
    · replace h := h.1 c
      refine r_iconst (pc := 83) hv 31 rfl  ?_
      exact r_zreturn (pc := 84) hv 32 rfl rfl (Or.inl rfl) h
    · replace h := h.2 c
      refine r_iconst (pc := 79) hv 29 rfl  ?_
      refine r_goto (pc := 80) hv 30 rfl  ?_
      exact r_zreturn (pc := 84) hv 32 rfl rfl (Or.inr rfl) h
  · replace h := h.2 c
    refine ⟨fun c => ?_, fun c => ?_⟩
    · replace h := h.1 c
      show v 85 [some (aR 49), some (aI l1)] [] σ
      refine r_aload_n (pc := 85) hv 33 rfl rfl ?_
      refine r_aload_n (pc := 86) hv 34 rfl rfl ?_
      refine r_getR (pc := 87) (b := 62) hv 35 rfl rfl rfl rfl ?_
      refine r_iconst (pc := 90) hv 36 rfl  ?_
      refine r_iaload (pc := 91) (N := 6) hv 37 rfl rfl rfl (by decide) h.1 ?_
      replace h := h.2
      refine r_aload_n (pc := 92) hv 38 rfl rfl ?_
      refine r_getR (pc := 93) (b := 62) hv 39 rfl rfl rfl rfl ?_
      refine r_iconst (pc := 96) hv 40 rfl  ?_
      refine r_iaload (pc := 97) (N := 6) hv 41 rfl rfl rfl (by decide) h.1 ?_
      replace h := h.2
      refine r_aload_n (pc := 98) hv 42 rfl rfl ?_
      refine r_getR (pc := 99) (b := 62) hv 43 rfl rfl rfl rfl ?_
      refine r_iconst (pc := 102) hv 44 rfl  ?_
      refine r_iaload (pc := 103) (N := 6) hv 45 rfl rfl rfl (by decide) h.1 ?_
      replace h := h.2
      refine r_callV (pc := 104) (l := [aI (σ.1 62 (2 : Int32).toNatClampNeg), aI (σ.1 62 (1 : Int32).toNatClampNeg), aI (σ.1 62 (0 : Int32).toNatClampNeg)]) (av := [aI (σ.1 62 (0 : Int32).toNatClampNeg), aI (σ.1 62 (1 : Int32).toNatClampNeg), aI (σ.1 62 (2 : Int32).toNatClampNeg)]) (a := 49) (t := []) hv 46 rfl rfl rfl rfl (rcv_o (by decide) rfl) trivial (hS.1 _ _ _ _ _ (fun r σ3 h => ?_) h)
      obtain ⟨x4, rfl, h⟩ := h
      show v 107 [some (aR 49), some (aI l1)] [aI x4] σ3
      refine r_if_lt (pc := 107) hv 47 rfl (fun c => ?_) (fun c => ?_)
      · replace h := h.1 c
        refine r_iconst (pc := 114) hv 50 rfl  ?_
        exact r_zreturn (pc := 115) hv 51 rfl rfl (Or.inl rfl) h
      · replace h := h.2 c
        refine r_iconst (pc := 110) hv 48 rfl  ?_
        refine r_goto (pc := 111) hv 49 rfl  ?_
        exact r_zreturn (pc := 115) hv 51 rfl rfl (Or.inr rfl) h
    · replace h := h.2 c
      refine ⟨fun c => ?_, fun c => ?_⟩
      · replace h := h.1 c
        show v 116 [some (aR 49), some (aI l1)] [] σ
        refine r_aload_n (pc := 116) hv 52 rfl rfl ?_
        refine r_aload_n (pc := 117) hv 53 rfl rfl ?_
        refine r_getR (pc := 118) (b := 62) hv 54 rfl rfl rfl rfl ?_
        refine r_iconst (pc := 121) hv 55 rfl  ?_
        refine r_iaload (pc := 122) (N := 6) hv 56 rfl rfl rfl (by decide) h.1 ?_
        replace h := h.2
        refine r_callV (pc := 123) (l := [aI (σ.1 62 (0 : Int32).toNatClampNeg)]) (av := [aI (σ.1 62 (0 : Int32).toNatClampNeg)]) (a := 49) (t := []) hv 57 rfl rfl rfl rfl (rcv_o (by decide) rfl) trivial (t_X9_isHole hS ?_)
        show v 126 [some (aR 49), some (aI l1)] [aI (b2 ((0 : Int64) ≤ (σ.1 62 (0 : Int32).toNatClampNeg : Int32).toInt64 ∧ ((σ.1 62 (0 : Int32).toNatClampNeg : Int32).toInt64 : Int64) ≤ (σ.1 50 (280 : Int32).toNatClampNeg - 1 : Int32).toInt64))] σ
        refine r_if_eq (pc := 126) hv 58 rfl (fun c => ?_) (fun c => ?_)
        · replace h := h.1 c
          refine r_iconst (pc := 162) hv 77 rfl  ?_
          exact r_zreturn (pc := 163) hv 78 rfl rfl (Or.inl rfl) h
        · replace h := h.2 c
          refine r_aload_n (pc := 129) hv 59 rfl rfl ?_
          refine r_aload_n (pc := 130) hv 60 rfl rfl ?_
          refine r_getR (pc := 131) (b := 62) hv 61 rfl rfl rfl rfl ?_
          refine r_iconst (pc := 134) hv 62 rfl  ?_
          refine r_iaload (pc := 135) (N := 6) hv 63 rfl rfl rfl (by decide) h.1 ?_
          replace h := h.2
          refine r_callV (pc := 136) (l := [aI (σ.1 62 (0 : Int32).toNatClampNeg)]) (av := [aI (σ.1 62 (0 : Int32).toNatClampNeg)]) (a := 49) (t := []) hv 64 rfl rfl rfl rfl (rcv_o (by decide) rfl) trivial (t_X9_isDead hS h.1 ?_)
          replace h := h.2
          show v 139 [some (aR 49), some (aI l1)] [aI (b2 (σ.1 50 (8 * (σ.1 62 (0 : Int32).toNatClampNeg) + 6 : Int32).toNatClampNeg = 1))] σ
          refine r_if_ne (pc := 139) hv 65 rfl (fun c => ?_) (fun c => ?_)
          · replace h := h.1 c
            refine r_iconst (pc := 162) hv 77 rfl  ?_
            exact r_zreturn (pc := 163) hv 78 rfl rfl (Or.inl rfl) h
          · replace h := h.2 c
            refine r_aload_n (pc := 142) hv 66 rfl rfl ?_
            refine r_aload_n (pc := 143) hv 67 rfl rfl ?_
            refine r_getR (pc := 144) (b := 62) hv 68 rfl rfl rfl rfl ?_
            refine r_iconst (pc := 147) hv 69 rfl  ?_
            refine r_iaload (pc := 148) (N := 6) hv 70 rfl rfl rfl (by decide) h.1 ?_
            replace h := h.2
            refine r_bipush (pc := 149) hv 71 rfl  ?_
            refine r_iconst (pc := 151) hv 72 rfl  ?_
            refine r_callV (pc := 152) (l := [aI 1, aI 6, aI (σ.1 62 (0 : Int32).toNatClampNeg)]) (av := [aI (σ.1 62 (0 : Int32).toNatClampNeg), aI 6, aI 1]) (a := 49) (t := []) hv 73 rfl rfl rfl rfl (rcv_o (by decide) rfl) trivial (hS.1 _ _ _ _ _ (fun r σ5 h => ?_) h)
            obtain ⟨x6, rfl, h⟩ := h
            show v 155 [some (aR 49), some (aI l1)] [aI x6] σ5
            refine r_if_lt (pc := 155) hv 74 rfl (fun c => ?_) (fun c => ?_)
            · replace h := h.1 c
              refine r_iconst (pc := 162) hv 77 rfl  ?_
              exact r_zreturn (pc := 163) hv 78 rfl rfl (Or.inl rfl) h
            · replace h := h.2 c
              refine r_iconst (pc := 158) hv 75 rfl  ?_
              refine r_goto (pc := 159) hv 76 rfl  ?_
              exact r_zreturn (pc := 163) hv 78 rfl rfl (Or.inr rfl) h
      · replace h := h.2 c
        show v 164 [some (aR 49), some (aI l1)] [] σ
        refine r_aload_n (pc := 164) hv 79 rfl rfl ?_
        refine r_iload_n (pc := 165) hv 80 rfl rfl ?_
        refine r_bipush (pc := 166) hv 81 rfl  ?_
        refine r_isub (pc := 168) hv 82 rfl  ?_
        refine r_aload_n (pc := 169) hv 83 rfl rfl ?_
        refine r_getR (pc := 170) (b := 62) hv 84 rfl rfl rfl rfl ?_
        refine r_iconst (pc := 173) hv 85 rfl  ?_
        refine r_iaload (pc := 174) (N := 6) hv 86 rfl rfl rfl (by decide) h.1 ?_
        replace h := h.2
        refine r_callV (pc := 175) (l := [aI (σ.1 62 (0 : Int32).toNatClampNeg), aI (l1 - 8)]) (av := [aI (l1 - 8), aI (σ.1 62 (0 : Int32).toNatClampNeg)]) (a := 49) (t := []) hv 87 rfl rfl rfl rfl (rcv_o (by decide) rfl) trivial (hS.1 _ _ _ _ _ (fun r σ7 h => ?_) h)
        obtain ⟨x8, rfl, h⟩ := h
        show v 178 [some (aR 49), some (aI l1)] [aI x8] σ7
        refine r_if_lt (pc := 178) hv 88 rfl (fun c => ?_) (fun c => ?_)
        · replace h := h.1 c
          refine r_iconst (pc := 185) hv 91 rfl  ?_
          exact r_zreturn (pc := 186) hv 92 rfl rfl (Or.inl rfl) h
        · replace h := h.2 c
          refine r_iconst (pc := 181) hv 89 rfl  ?_
          refine r_goto (pc := 182) hv 90 rfl  ?_
          exact r_zreturn (pc := 186) hv 92 rfl rfl (Or.inr rfl) h
theorem m_X9_does {S : Sp} (hS : Sys S) {l1 : Int32} {σ : St} {Φ : Rs} (h : ∀ v : Kt, Cl S Φ k_X9_does v → Wk v → vc_X9_does_0 S Φ v l1 σ) : S 216 [aR 49, aI l1] σ Φ :=
  hS.2 216 M_X9_does k_X9_does _ _ _ mkt_X9_does (Nat.le_of_ble_eq_true rfl) (fun v hv hw => w_X9_does_0 hS hv hw   l1 σ (h v hv hw))
def vc_X9_takesStatement_79 (S : Sp) (Φ : Rs) (v : Kt) (l1 : Int32) (l2 : Int32) (l3 : Int32) (s0 : Int32) (σ : St) : Prop := ((s0 : Int32) = 0 → ((s0 = 0 ∨ s0 = 1) ∧ Φ [aI s0] σ)) ∧ (¬ ((s0 : Int32) = 0) → (((0 : Int32) ≤ (σ.1 49 27) → ((s0 = 0 ∨ s0 = 1) ∧ Φ [aI s0] σ)) ∧ (¬ ((0 : Int32) ≤ (σ.1 49 27)) → (S 216 [aR 49, aI l2] σ (fun r σ1 => ∃ x2 : Int32, r = [aI x2] ∧ ((¬ (x2 : Int32) = 0 → ((s0 = 0 ∨ s0 = 1) ∧ Φ [aI s0] σ1)) ∧ ((x2 : Int32) = 0 → (∀ σ3 : St, σ3 = upI σ1 49 27 l1 → ((s0 = 0 ∨ s0 = 1) ∧ Φ [aI s0] σ3)))))))))
theorem w_X9_takesStatement_79 {S : Sp} (hS : Sys S) {Φ : Rs} {v : Kt} (hv : Cl S Φ k_X9_takesStatement v) (hw : Wk v) (l1 : Int32) (l2 : Int32) (l3 : Int32) (s0 : Int32) (σ : St) (h : vc_X9_takesStatement_79 S Φ v l1 l2 l3 s0 σ) : v 79 [some (aR 49), some (aI l1), some (aI l2), some (aI l3), none] [aI s0] σ := by
  unfold vc_X9_takesStatement_79 at h
  refine r_istore (pc := 79) (lo' := [some (aR 49), some (aI l1), some (aI l2), some (aI l3), some (aI s0)]) hv 41 rfl rfl ?_
  refine r_iload (pc := 81) hv 42 rfl rfl ?_
  refine r_if_eq (pc := 83) hv 43 rfl (fun c => ?_) (fun c => ?_)
  · replace h := h.1 c
    refine r_iload (pc := 106) hv 54 rfl rfl ?_
    exact r_zreturn (pc := 108) hv 55 rfl rfl h.1 h.2
  · replace h := h.2 c
    refine r_aload_n (pc := 86) hv 44 rfl rfl ?_
    refine r_getI (pc := 87) hv 45 rfl rfl rfl ?_
    refine r_if_ge (pc := 90) hv 46 rfl (fun c => ?_) (fun c => ?_)
    · replace h := h.1 c
      refine r_iload (pc := 106) hv 54 rfl rfl ?_
      exact r_zreturn (pc := 108) hv 55 rfl rfl h.1 h.2
    · replace h := h.2 c
      refine r_aload_n (pc := 93) hv 47 rfl rfl ?_
      refine r_iload_n (pc := 94) hv 48 rfl rfl ?_
      refine r_callV (pc := 95) (l := [aI l2]) (av := [aI l2]) (a := 49) (t := []) hv 49 rfl rfl rfl rfl (rcv_o (by decide) rfl) trivial (hS.1 _ _ _ _ _ (fun r σ1 h => ?_) h)
      obtain ⟨x2, rfl, h⟩ := h
      show v 98 [some (aR 49), some (aI l1), some (aI l2), some (aI l3), some (aI s0)] [aI x2] σ1
      refine r_if_ne (pc := 98) hv 50 rfl (fun c => ?_) (fun c => ?_)
      · replace h := h.1 c
        refine r_iload (pc := 106) hv 54 rfl rfl ?_
        exact r_zreturn (pc := 108) hv 55 rfl rfl h.1 h.2
      · replace h := h.2 c
        refine r_aload_n (pc := 101) hv 51 rfl rfl ?_
        refine r_iload_n (pc := 102) hv 52 rfl rfl ?_
        refine r_putI (pc := 103) hv 53 rfl rfl rfl ?_
        obtain ⟨σ3, e_σ3⟩ : ∃ y : St, y = upI σ1 49 27 l1 := ⟨_, rfl⟩
        rw [← e_σ3]
        replace h := h σ3 e_σ3
        refine r_iload (pc := 106) hv 54 rfl rfl ?_
        exact r_zreturn (pc := 108) hv 55 rfl rfl h.1 h.2
def vc_X9_takesStatement_39 (S : Sp) (Φ : Rs) (v : Kt) (l1 : Int32) (l2 : Int32) (s0 : Int32) (σ : St) : Prop := (¬ (s0 : Int32) = 0 → (S 211 [aR 49] σ (fun r σ1 => r = [] ∧ ((¬ (l2 : Int32) = 0 → ((¬ (l2 : Int32) = 6 → (S 212 [aR 49, aI 0] σ1 (fun r σ2 => ∃ x3 : Int32, r = [aI x3] ∧ (vc_X9_takesStatement_79 S Φ v  l1 l2 s0 x3 σ2)))) ∧ ((l2 : Int32) = 6 → (S 215 [aR 49] σ1 (fun r σ4 => ∃ x5 : Int32, r = [aI x5] ∧ (vc_X9_takesStatement_79 S Φ v  l1 l2 s0 x5 σ4)))))) ∧ ((l2 : Int32) = 0 → (S 214 [aR 49] σ1 (fun r σ6 => ∃ x7 : Int32, r = [aI x7] ∧ (vc_X9_takesStatement_79 S Φ v  l1 l2 s0 x7 σ6)))))))) ∧ ((s0 : Int32) = 0 → (Φ [aI 0] σ))
theorem w_X9_takesStatement_39 {S : Sp} (hS : Sys S) {Φ : Rs} {v : Kt} (hv : Cl S Φ k_X9_takesStatement v) (hw : Wk v) (l1 : Int32) (l2 : Int32) (s0 : Int32) (σ : St) (h : vc_X9_takesStatement_39 S Φ v l1 l2 s0 σ) : v 39 [some (aR 49), some (aI l1), some (aI l2), none, none] [aI s0] σ := by
  unfold vc_X9_takesStatement_39 at h
  refine r_istore_n (pc := 39) (lo' := [some (aR 49), some (aI l1), some (aI l2), some (aI s0), none]) hv 20 rfl rfl ?_
  refine r_iload_n (pc := 40) hv 21 rfl rfl ?_
  refine r_if_ne (pc := 41) hv 22 rfl (fun c => ?_) (fun c => ?_)
  · replace h := h.1 c
    refine r_aload_n (pc := 46) hv 25 rfl rfl ?_
    refine r_callV (pc := 47) (l := []) (av := []) (a := 49) (t := []) hv 26 rfl rfl rfl rfl (rcv_o (by decide) rfl) trivial (hS.1 _ _ _ _ _ (fun r σ1 h => ?_) h)
    obtain ⟨rfl, h⟩ := h
    show v 50 [some (aR 49), some (aI l1), some (aI l2), some (aI s0), none] [] σ1
    refine r_iload_n (pc := 50) hv 27 rfl rfl ?_
    refine r_if_ne (pc := 51) hv 28 rfl (fun c => ?_) (fun c => ?_)
    · replace h := h.1 c
      refine r_iload_n (pc := 61) hv 32 rfl rfl ?_
      refine r_bipush (pc := 62) hv 33 rfl  ?_
      refine r_icmp_ne (pc := 64) hv 34 rfl (fun c => ?_) (fun c => ?_)
      · replace h := h.1 c
        refine r_aload_n (pc := 74) hv 38 rfl rfl ?_
        refine r_iconst (pc := 75) hv 39 rfl  ?_
        refine r_callV (pc := 76) (l := [aI 0]) (av := [aI 0]) (a := 49) (t := []) hv 40 rfl rfl rfl rfl (rcv_o (by decide) rfl) trivial (hS.1 _ _ _ _ _ (fun r σ2 h => ?_) h)
        obtain ⟨x3, rfl, h⟩ := h
        show v 79 [some (aR 49), some (aI l1), some (aI l2), some (aI s0), none] [aI x3] σ2
        exact (w_X9_takesStatement_79 hS hv hw   l1 l2 s0 x3  σ2 h)
      · replace h := h.2 c
        refine r_aload_n (pc := 67) hv 35 rfl rfl ?_
        refine r_callV (pc := 68) (l := []) (av := []) (a := 49) (t := []) hv 36 rfl rfl rfl rfl (rcv_o (by decide) rfl) trivial (hS.1 _ _ _ _ _ (fun r σ4 h => ?_) h)
        obtain ⟨x5, rfl, h⟩ := h
        show v 71 [some (aR 49), some (aI l1), some (aI l2), some (aI s0), none] [aI x5] σ4
        refine r_goto (pc := 71) hv 37 rfl  ?_
        exact (w_X9_takesStatement_79 hS hv hw   l1 l2 s0 x5  σ4 h)
    · replace h := h.2 c
      refine r_aload_n (pc := 54) hv 29 rfl rfl ?_
      refine r_callV (pc := 55) (l := []) (av := []) (a := 49) (t := []) hv 30 rfl rfl rfl rfl (rcv_o (by decide) rfl) trivial (hS.1 _ _ _ _ _ (fun r σ6 h => ?_) h)
      obtain ⟨x7, rfl, h⟩ := h
      show v 58 [some (aR 49), some (aI l1), some (aI l2), some (aI s0), none] [aI x7] σ6
      refine r_goto (pc := 58) hv 31 rfl  ?_
      exact (w_X9_takesStatement_79 hS hv hw   l1 l2 s0 x7  σ6 h)
  · replace h := h.2 c
    refine r_iconst (pc := 44) hv 23 rfl  ?_
    exact r_zreturn (pc := 45) hv 24 rfl rfl (Or.inl rfl) h
def vc_X9_takesStatement_34 (S : Sp) (Φ : Rs) (v : Kt) (l1 : Int32) (l2 : Int32) (σ : St) : Prop := vc_X9_takesStatement_39 S Φ v  l1 l2 1 σ
theorem w_X9_takesStatement_34 {S : Sp} (hS : Sys S) {Φ : Rs} {v : Kt} (hv : Cl S Φ k_X9_takesStatement v) (hw : Wk v) (l1 : Int32) (l2 : Int32) (σ : St) (h : vc_X9_takesStatement_34 S Φ v l1 l2 σ) : v 34 [some (aR 49), some (aI l1), some (aI l2), none, none] [] σ := by
  unfold vc_X9_takesStatement_34 at h
  refine r_iconst (pc := 34) hv 17 rfl  ?_
  refine r_goto (pc := 35) hv 18 rfl  ?_
  exact (w_X9_takesStatement_39 hS hv hw   l1 l2 1  σ h)
def vc_X9_takesStatement_0 (S : Sp) (Φ : Rs) (v : Kt) (σ : St) : Prop := ((σ.1 49 25 : Int32) = 0 → (vc_X9_takesStatement_34 S Φ v  (σ.1 49 24) (σ.1 49 25) σ)) ∧ (¬ ((σ.1 49 25 : Int32) = 0) → (((σ.1 49 25 : Int32) = 6 → (vc_X9_takesStatement_34 S Φ v  (σ.1 49 24) (σ.1 49 25) σ)) ∧ (¬ ((σ.1 49 25 : Int32) = 6) → (((b2 ((8 : Int64) ≤ ((σ.1 49 25 : Int32).toInt64) ∧ ((σ.1 49 25 : Int32).toInt64 : Int64) ≤ 11) : Int32) = 0 → (vc_X9_takesStatement_39 S Φ v  (σ.1 49 24) (σ.1 49 25) 0 σ)) ∧ (¬ ((b2 ((8 : Int64) ≤ ((σ.1 49 25 : Int32).toInt64) ∧ ((σ.1 49 25 : Int32).toInt64 : Int64) ≤ 11) : Int32) = 0) → (vc_X9_takesStatement_34 S Φ v  (σ.1 49 24) (σ.1 49 25) σ))))))
theorem w_X9_takesStatement_0 {S : Sp} (hS : Sys S) {Φ : Rs} {v : Kt} (hv : Cl S Φ k_X9_takesStatement v) (hw : Wk v) (σ : St) (h : vc_X9_takesStatement_0 S Φ v  σ) : v 0 [some (aR 49), none, none, none, none] [] σ := by
  unfold vc_X9_takesStatement_0 at h
  refine r_aload_n (pc := 0) hv 0 rfl rfl ?_
  refine r_getI (pc := 1) hv 1 rfl rfl rfl ?_
  refine r_istore_n (pc := 4) (lo' := [some (aR 49), some (aI (σ.1 49 24)), none, none, none]) hv 2 rfl rfl ?_
  refine r_aload_n (pc := 5) hv 3 rfl rfl ?_
  refine r_getI (pc := 6) hv 4 rfl rfl rfl ?_
  refine r_istore_n (pc := 9) (lo' := [some (aR 49), some (aI (σ.1 49 24)), some (aI (σ.1 49 25)), none, none]) hv 5 rfl rfl ?_
  refine r_iload_n (pc := 10) hv 6 rfl rfl ?_
  refine r_if_eq (pc := 11) hv 7 rfl (fun c => ?_) (fun c => ?_)
  · replace h := h.1 c
    exact (w_X9_takesStatement_34 hS hv hw   (σ.1 49 24) (σ.1 49 25)  σ h)
  · replace h := h.2 c
    refine r_iload_n (pc := 14) hv 8 rfl rfl ?_
    refine r_bipush (pc := 15) hv 9 rfl  ?_
    refine r_icmp_eq (pc := 17) hv 10 rfl (fun c => ?_) (fun c => ?_)
    · replace h := h.1 c
      exact (w_X9_takesStatement_34 hS hv hw   (σ.1 49 24) (σ.1 49 25)  σ h)
    · replace h := h.2 c
      refine r_iload_n (pc := 20) hv 11 rfl rfl ?_
      refine r_i2l (pc := 21) hv 12 rfl  ?_
      refine r_ldc2_w (pc := 22) hv 13 rfl  ?_
      refine r_ldc2_w (pc := 25) hv 14 rfl  ?_
      refine r_callS (pc := 28) (l := [aL 11, aL 8, aL ((σ.1 49 25 : Int32).toInt64)]) (av := [aL ((σ.1 49 25 : Int32).toInt64), aL 8, aL 11]) (t := []) hv 15 rfl (Or.inl rfl) rfl rfl rfl trivial (t_X9_in hS ?_)
      show v 31 [some (aR 49), some (aI (σ.1 49 24)), some (aI (σ.1 49 25)), none, none] [aI (b2 ((8 : Int64) ≤ ((σ.1 49 25 : Int32).toInt64) ∧ ((σ.1 49 25 : Int32).toInt64 : Int64) ≤ 11))] σ
      refine r_if_eq (pc := 31) hv 16 rfl (fun c => ?_) (fun c => ?_)
      · replace h := h.1 c
        refine r_iconst (pc := 38) hv 19 rfl  ?_
        exact (w_X9_takesStatement_39 hS hv hw   (σ.1 49 24) (σ.1 49 25) 0  σ h)
      · replace h := h.2 c
        exact (w_X9_takesStatement_34 hS hv hw   (σ.1 49 24) (σ.1 49 25)  σ h)
theorem m_X9_takesStatement {S : Sp} (hS : Sys S) {σ : St} {Φ : Rs} (h : ∀ v : Kt, Cl S Φ k_X9_takesStatement v → Wk v → vc_X9_takesStatement_0 S Φ v  σ) : S 217 [aR 49] σ Φ :=
  hS.2 217 M_X9_takesStatement k_X9_takesStatement _ _ _ mkt_X9_takesStatement (Nat.le_of_ble_eq_true rfl) (fun v hv hw => w_X9_takesStatement_0 hS hv hw    σ (h v hv hw))
def vc_X9_read_108 (S : Sp) (Φ : Rs) (v : Kt) (l1 : Int32) (l2 : Int32) (σ : St) : Prop := S 146 [aR 52, aR 50] σ (fun r σ1 => r = [] ∧ (((l2 : Int32) = 0 → (Φ [aI ((-100) - (σ1.1 49 24))] σ1)) ∧ (¬ ((l2 : Int32) = 0) → ((¬ (σ1.1 49 25 : Int32) = 22 → (Φ [aI ((-100) - (σ1.1 49 24))] σ1)) ∧ ((σ1.1 49 25 : Int32) = 22 → (Φ [aI ((-300) - (σ1.1 49 27))] σ1))))))
theorem w_X9_read_108 {S : Sp} (hS : Sys S) {Φ : Rs} {v : Kt} (hv : Cl S Φ k_X9_read v) (hw : Wk v) (l1 : Int32) (l2 : Int32) (σ : St) (h : vc_X9_read_108 S Φ v l1 l2 σ) : v 108 [some (aR 49), some (aI l1), some (aI l2)] [] σ := by
  unfold vc_X9_read_108 at h
  refine r_aload_n (pc := 108) hv 58 rfl rfl ?_
  refine r_getR (pc := 109) (b := 52) hv 59 rfl rfl rfl rfl ?_
  refine r_aload_n (pc := 112) hv 60 rfl rfl ?_
  refine r_getR (pc := 113) (b := 50) hv 61 rfl rfl rfl rfl ?_
  refine r_callS (pc := 116) (l := [aR 50, aR 52]) (av := [aR 52, aR 50]) (t := []) hv 62 rfl (Or.inl rfl) rfl rfl rfl trivial (hS.1 _ _ _ _ _ (fun r σ1 h => ?_) h)
  obtain ⟨rfl, h⟩ := h
  show v 119 [some (aR 49), some (aI l1), some (aI l2)] [] σ1
  refine r_iload_n (pc := 119) hv 63 rfl rfl ?_
  refine r_if_eq (pc := 120) hv 64 rfl (fun c => ?_) (fun c => ?_)
  · replace h := h.1 c
    refine r_bipush (pc := 143) hv 74 rfl  ?_
    refine r_aload_n (pc := 145) hv 75 rfl rfl ?_
    refine r_getI (pc := 146) hv 76 rfl rfl rfl ?_
    refine r_isub (pc := 149) hv 77 rfl  ?_
    exact r_ireturn (pc := 150) hv 78 rfl rfl h
  · replace h := h.2 c
    refine r_aload_n (pc := 123) hv 65 rfl rfl ?_
    refine r_getI (pc := 124) hv 66 rfl rfl rfl ?_
    refine r_bipush (pc := 127) hv 67 rfl  ?_
    refine r_icmp_ne (pc := 129) hv 68 rfl (fun c => ?_) (fun c => ?_)
    · replace h := h.1 c
      refine r_bipush (pc := 143) hv 74 rfl  ?_
      refine r_aload_n (pc := 145) hv 75 rfl rfl ?_
      refine r_getI (pc := 146) hv 76 rfl rfl rfl ?_
      refine r_isub (pc := 149) hv 77 rfl  ?_
      exact r_ireturn (pc := 150) hv 78 rfl rfl h
    · replace h := h.2 c
      refine r_sipush (pc := 132) hv 69 rfl  ?_
      refine r_aload_n (pc := 135) hv 70 rfl rfl ?_
      refine r_getI (pc := 136) hv 71 rfl rfl rfl ?_
      refine r_isub (pc := 139) hv 72 rfl  ?_
      refine r_goto (pc := 140) hv 73 rfl  ?_
      exact r_ireturn (pc := 150) hv 78 rfl rfl h
def vc_X9_read_60 (S : Sp) (Φ : Rs) (v : Kt) (l1 : Int32) (l2 : Int32) (σ : St) : Prop := ∀ σ1 : St, σ1 = upI σ 49 20 0 → (((l2 : Int32) = 0 → (vc_X9_read_108 S Φ v  l1 l2 σ1)) ∧ (¬ ((l2 : Int32) = 0) → ((¬ (σ1.1 49 25 : Int32) = 22 → (vc_X9_read_108 S Φ v  l1 l2 σ1)) ∧ ((σ1.1 49 25 : Int32) = 22 → (((0 : Int32) ≤ (σ1.1 49 27) → (vc_X9_read_108 S Φ v  l1 l2 σ1)) ∧ (¬ ((0 : Int32) ≤ (σ1.1 49 27)) → (∀ σ2 : St, σ2 = upI σ1 49 4 ((σ1.1 49 4) + 1) → (vp_in 285 286 ∧ (∀ σ3 : St, σ3 = upI σ2 50 (285 : Int32).toNatClampNeg 0 → (Φ [aI (l1 + 1)] σ3))))))))))
theorem w_X9_read_60 {S : Sp} (hS : Sys S) {Φ : Rs} {v : Kt} (hv : Cl S Φ k_X9_read v) (hw : Wk v) (l1 : Int32) (l2 : Int32) (σ : St) (h : vc_X9_read_60 S Φ v l1 l2 σ) : v 60 [some (aR 49), some (aI l1), some (aI l2)] [] σ := by
  unfold vc_X9_read_60 at h
  refine r_aload_n (pc := 60) hv 31 rfl rfl ?_
  refine r_iconst (pc := 61) hv 32 rfl  ?_
  refine r_putI (pc := 62) hv 33 rfl rfl rfl ?_
  obtain ⟨σ1, e_σ1⟩ : ∃ y : St, y = upI σ 49 20 0 := ⟨_, rfl⟩
  rw [← e_σ1]
  replace h := h σ1 e_σ1
  refine r_iload_n (pc := 65) hv 34 rfl rfl ?_
  refine r_if_eq (pc := 66) hv 35 rfl (fun c => ?_) (fun c => ?_)
  · replace h := h.1 c
    exact (w_X9_read_108 hS hv hw   l1 l2  σ1 h)
  · replace h := h.2 c
    refine r_aload_n (pc := 69) hv 36 rfl rfl ?_
    refine r_getI (pc := 70) hv 37 rfl rfl rfl ?_
    refine r_bipush (pc := 73) hv 38 rfl  ?_
    refine r_icmp_ne (pc := 75) hv 39 rfl (fun c => ?_) (fun c => ?_)
    · replace h := h.1 c
      exact (w_X9_read_108 hS hv hw   l1 l2  σ1 h)
    · replace h := h.2 c
      refine r_aload_n (pc := 78) hv 40 rfl rfl ?_
      refine r_getI (pc := 79) hv 41 rfl rfl rfl ?_
      refine r_if_ge (pc := 82) hv 42 rfl (fun c => ?_) (fun c => ?_)
      · replace h := h.1 c
        exact (w_X9_read_108 hS hv hw   l1 l2  σ1 h)
      · replace h := h.2 c
        refine r_aload_n (pc := 85) hv 43 rfl rfl ?_
        refine r_dup (pc := 86) hv 44 rfl trivial ?_
        refine r_getI (pc := 87) hv 45 rfl rfl rfl ?_
        refine r_iconst (pc := 90) hv 46 rfl  ?_
        refine r_iadd (pc := 91) hv 47 rfl  ?_
        refine r_putI (pc := 92) hv 48 rfl rfl rfl ?_
        obtain ⟨σ2, e_σ2⟩ : ∃ y : St, y = upI σ1 49 4 ((σ1.1 49 4) + 1) := ⟨_, rfl⟩
        rw [← e_σ2]
        replace h := h σ2 e_σ2
        refine r_aload_n (pc := 95) hv 49 rfl rfl ?_
        refine r_getR (pc := 96) (b := 50) hv 50 rfl rfl rfl rfl ?_
        refine r_sipush (pc := 99) hv 51 rfl  ?_
        refine r_iconst (pc := 102) hv 52 rfl  ?_
        refine r_iastore (pc := 103) (N := 286) hv 53 rfl rfl rfl h.1 ?_
        replace h := h.2
        obtain ⟨σ3, e_σ3⟩ : ∃ y : St, y = upI σ2 50 (285 : Int32).toNatClampNeg 0 := ⟨_, rfl⟩
        rw [← e_σ3]
        replace h := h σ3 e_σ3
        refine r_iload_n (pc := 104) hv 54 rfl rfl ?_
        refine r_iconst (pc := 105) hv 55 rfl  ?_
        refine r_iadd (pc := 106) hv 56 rfl  ?_
        exact r_ireturn (pc := 107) hv 57 rfl rfl h
def vc_X9_read_32 (S : Sp) (Φ : Rs) (v : Kt) (l1 : Int32) (l2 : Int32) (σ : St) : Prop := ((l2 : Int32) = 0 → (vc_X9_read_60 S Φ v  l1 l2 σ)) ∧ (¬ ((l2 : Int32) = 0) → ((¬ (σ.1 49 25 : Int32) = 21 → (vc_X9_read_60 S Φ v  l1 l2 σ)) ∧ ((σ.1 49 25 : Int32) = 21 → (S 211 [aR 49] σ (fun r σ1 => r = [] ∧ (S 217 [aR 49] σ1 (fun r σ2 => ∃ x3 : Int32, r = [aI x3] ∧ (v 32 [some (aR 49), some (aI (l1 + 1)), some (aI x3)] [] σ2))))))))
theorem w_X9_read_32 {S : Sp} (hS : Sys S) {Φ : Rs} {v : Kt} (hv : Cl S Φ k_X9_read v) (hw : Wk v) (l1 : Int32) (l2 : Int32) (σ : St) (h : vc_X9_read_32 S Φ v l1 l2 σ) : v 32 [some (aR 49), some (aI l1), some (aI l2)] [] σ := by
  unfold vc_X9_read_32 at h
  refine r_iload_n (pc := 32) hv 18 rfl rfl ?_
  refine r_if_eq (pc := 33) hv 19 rfl (fun c => ?_) (fun c => ?_)
  · replace h := h.1 c
    exact (w_X9_read_60 hS hv hw   l1 l2  σ h)
  · replace h := h.2 c
    refine r_aload_n (pc := 36) hv 20 rfl rfl ?_
    refine r_getI (pc := 37) hv 21 rfl rfl rfl ?_
    refine r_bipush (pc := 40) hv 22 rfl  ?_
    refine r_icmp_ne (pc := 42) hv 23 rfl (fun c => ?_) (fun c => ?_)
    · replace h := h.1 c
      exact (w_X9_read_60 hS hv hw   l1 l2  σ h)
    · replace h := h.2 c
      refine r_iinc (pc := 45) (lo' := [some (aR 49), some (aI (l1 + 1)), some (aI l2)]) hv 24 rfl rfl rfl ?_
      refine r_aload_n (pc := 48) hv 25 rfl rfl ?_
      refine r_callV (pc := 49) (l := []) (av := []) (a := 49) (t := []) hv 26 rfl rfl rfl rfl (rcv_o (by decide) rfl) trivial (hS.1 _ _ _ _ _ (fun r σ1 h => ?_) h)
      obtain ⟨rfl, h⟩ := h
      show v 52 [some (aR 49), some (aI (l1 + 1)), some (aI l2)] [] σ1
      refine r_aload_n (pc := 52) hv 27 rfl rfl ?_
      refine r_callV (pc := 53) (l := []) (av := []) (a := 49) (t := []) hv 28 rfl rfl rfl rfl (rcv_o (by decide) rfl) trivial (hS.1 _ _ _ _ _ (fun r σ2 h => ?_) h)
      obtain ⟨x3, rfl, h⟩ := h
      show v 56 [some (aR 49), some (aI (l1 + 1)), some (aI l2)] [aI x3] σ2
      refine r_istore_n (pc := 56) (lo' := [some (aR 49), some (aI (l1 + 1)), some (aI x3)]) hv 29 rfl rfl ?_
      refine r_goto (pc := 57) hv 30 rfl  ?_
      exact h
def vc_X9_read_0 (S : Sp) (Φ : Rs) (v : Kt) (σ : St) : Prop := S 146 [aR 50, aR 52] σ (fun r σ1 => r = [] ∧ (∀ σ2 : St, σ2 = upI σ1 49 23 0 → (∀ σ3 : St, σ3 = upI σ2 49 27 (-1) → (S 211 [aR 49] σ3 (fun r σ4 => r = [] ∧ (S 217 [aR 49] σ4 (fun r σ5 => ∃ x6 : Int32, r = [aI x6] ∧ (v 32 [some (aR 49), some (aI 0), some (aI x6)] [] σ5))))))))
theorem w_X9_read_0 {S : Sp} (hS : Sys S) {Φ : Rs} {v : Kt} (hv : Cl S Φ k_X9_read v) (hw : Wk v) (σ : St) (h : vc_X9_read_0 S Φ v  σ) : v 0 [some (aR 49), none, none] [] σ := by
  unfold vc_X9_read_0 at h
  refine r_aload_n (pc := 0) hv 0 rfl rfl ?_
  refine r_getR (pc := 1) (b := 50) hv 1 rfl rfl rfl rfl ?_
  refine r_aload_n (pc := 4) hv 2 rfl rfl ?_
  refine r_getR (pc := 5) (b := 52) hv 3 rfl rfl rfl rfl ?_
  refine r_callS (pc := 8) (l := [aR 52, aR 50]) (av := [aR 50, aR 52]) (t := []) hv 4 rfl (Or.inl rfl) rfl rfl rfl trivial (hS.1 _ _ _ _ _ (fun r σ1 h => ?_) h)
  obtain ⟨rfl, h⟩ := h
  show v 11 [some (aR 49), none, none] [] σ1
  refine r_aload_n (pc := 11) hv 5 rfl rfl ?_
  refine r_iconst (pc := 12) hv 6 rfl  ?_
  refine r_putI (pc := 13) hv 7 rfl rfl rfl ?_
  obtain ⟨σ2, e_σ2⟩ : ∃ y : St, y = upI σ1 49 23 0 := ⟨_, rfl⟩
  rw [← e_σ2]
  replace h := h σ2 e_σ2
  refine r_aload_n (pc := 16) hv 8 rfl rfl ?_
  refine r_iconst (pc := 17) hv 9 rfl  ?_
  refine r_putI (pc := 18) hv 10 rfl rfl rfl ?_
  obtain ⟨σ3, e_σ3⟩ : ∃ y : St, y = upI σ2 49 27 (-1) := ⟨_, rfl⟩
  rw [← e_σ3]
  replace h := h σ3 e_σ3
  refine r_iconst (pc := 21) hv 11 rfl  ?_
  refine r_istore_n (pc := 22) (lo' := [some (aR 49), some (aI 0), none]) hv 12 rfl rfl ?_
  refine r_aload_n (pc := 23) hv 13 rfl rfl ?_
  refine r_callV (pc := 24) (l := []) (av := []) (a := 49) (t := []) hv 14 rfl rfl rfl rfl (rcv_o (by decide) rfl) trivial (hS.1 _ _ _ _ _ (fun r σ4 h => ?_) h)
  obtain ⟨rfl, h⟩ := h
  show v 27 [some (aR 49), some (aI 0), none] [] σ4
  refine r_aload_n (pc := 27) hv 15 rfl rfl ?_
  refine r_callV (pc := 28) (l := []) (av := []) (a := 49) (t := []) hv 16 rfl rfl rfl rfl (rcv_o (by decide) rfl) trivial (hS.1 _ _ _ _ _ (fun r σ5 h => ?_) h)
  obtain ⟨x6, rfl, h⟩ := h
  show v 31 [some (aR 49), some (aI 0), none] [aI x6] σ5
  refine r_istore_n (pc := 31) (lo' := [some (aR 49), some (aI 0), some (aI x6)]) hv 17 rfl rfl ?_
  exact h
theorem m_X9_read {S : Sp} (hS : Sys S) {σ : St} {Φ : Rs} (h : ∀ v : Kt, Cl S Φ k_X9_read v → Wk v → vc_X9_read_0 S Φ v  σ) : S 218 [aR 49] σ Φ :=
  hS.2 218 M_X9_read k_X9_read _ _ _ mkt_X9_read (Nat.le_of_ble_eq_true rfl) (fun v hv hw => w_X9_read_0 hS hv hw    σ (h v hv hw))
def vc_X9_sign_0 (S : Sp) (Φ : Rs) (v : Kt) (l1 : Int32) (σ : St) : Prop := vp_in (σ.1 49 30) 2000 ∧ (∀ σ1 : St, σ1 = upI σ 63 (σ.1 49 30 : Int32).toNatClampNeg l1 → (∀ σ2 : St, σ2 = upI σ1 49 30 ((σ1.1 49 30) + 1) → (Φ [] σ2)))
theorem w_X9_sign_0 {S : Sp} (hS : Sys S) {Φ : Rs} {v : Kt} (hv : Cl S Φ k_X9_sign v) (hw : Wk v) (l1 : Int32) (σ : St) (h : vc_X9_sign_0 S Φ v l1 σ) : v 0 [some (aR 49), some (aI l1)] [] σ := by
  unfold vc_X9_sign_0 at h
  refine r_aload_n (pc := 0) hv 0 rfl rfl ?_
  refine r_getR (pc := 1) (b := 63) hv 1 rfl rfl rfl rfl ?_
  refine r_aload_n (pc := 4) hv 2 rfl rfl ?_
  refine r_getI (pc := 5) hv 3 rfl rfl rfl ?_
  refine r_iload_n (pc := 8) hv 4 rfl rfl ?_
  refine r_iastore (pc := 9) (N := 2000) hv 5 rfl rfl rfl h.1 ?_
  replace h := h.2
  obtain ⟨σ1, e_σ1⟩ : ∃ y : St, y = upI σ 63 (σ.1 49 30 : Int32).toNatClampNeg l1 := ⟨_, rfl⟩
  rw [← e_σ1]
  replace h := h σ1 e_σ1
  refine r_aload_n (pc := 10) hv 6 rfl rfl ?_
  refine r_dup (pc := 11) hv 7 rfl trivial ?_
  refine r_getI (pc := 12) hv 8 rfl rfl rfl ?_
  refine r_iconst (pc := 15) hv 9 rfl  ?_
  refine r_iadd (pc := 16) hv 10 rfl  ?_
  refine r_putI (pc := 17) hv 11 rfl rfl rfl ?_
  obtain ⟨σ2, e_σ2⟩ : ∃ y : St, y = upI σ1 49 30 ((σ1.1 49 30) + 1) := ⟨_, rfl⟩
  rw [← e_σ2]
  replace h := h σ2 e_σ2
  exact r_return (pc := 20) hv 12 rfl h
theorem m_X9_sign {S : Sp} (hS : Sys S) {l1 : Int32} {σ : St} {Φ : Rs} (h : ∀ v : Kt, Cl S Φ k_X9_sign v → Wk v → vc_X9_sign_0 S Φ v l1 σ) : S 219 [aR 49, aI l1] σ Φ :=
  hS.2 219 M_X9_sign k_X9_sign _ _ _ mkt_X9_sign (Nat.le_of_ble_eq_true rfl) (fun v hv hw => w_X9_sign_0 hS hv hw   l1 σ (h v hv hw))
def vc_X9_spells_7 (S : Sp) (Φ : Rs) (v : Kt) (l1 : Int32) (l2 : Int32) (σ : St) : Prop := vp_in (l1 + 1) 13 ∧ (((σ.1 61 (l1 + 1 : Int32).toNatClampNeg : Int32) ≤ l2 → (Φ [] σ)) ∧ (¬ ((σ.1 61 (l1 + 1 : Int32).toNatClampNeg : Int32) ≤ l2) → (vp_in l2 56 ∧ (S 219 [aR 49, aI (σ.1 60 (l2 : Int32).toNatClampNeg)] σ (fun r σ1 => r = [] ∧ (v 7 [some (aR 49), some (aI l1), some (aI (l2 + 1))] [] σ1))))))
theorem w_X9_spells_7 {S : Sp} (hS : Sys S) {Φ : Rs} {v : Kt} (hv : Cl S Φ k_X9_spells v) (hw : Wk v) (l1 : Int32) (l2 : Int32) (σ : St) (h : vc_X9_spells_7 S Φ v l1 l2 σ) : v 7 [some (aR 49), some (aI l1), some (aI l2)] [] σ := by
  unfold vc_X9_spells_7 at h
  refine r_iload_n (pc := 7) hv 5 rfl rfl ?_
  refine r_aload_n (pc := 8) hv 6 rfl rfl ?_
  refine r_getR (pc := 9) (b := 61) hv 7 rfl rfl rfl rfl ?_
  refine r_iload_n (pc := 12) hv 8 rfl rfl ?_
  refine r_iconst (pc := 13) hv 9 rfl  ?_
  refine r_iadd (pc := 14) hv 10 rfl  ?_
  refine r_iaload (pc := 15) (N := 13) hv 11 rfl rfl rfl (by decide) h.1 ?_
  replace h := h.2
  refine r_icmp_ge (pc := 16) hv 12 rfl (fun c => ?_) (fun c => ?_)
  · replace h := h.1 c
    exact r_return (pc := 35) hv 21 rfl h
  · replace h := h.2 c
    refine r_aload_n (pc := 19) hv 13 rfl rfl ?_
    refine r_aload_n (pc := 20) hv 14 rfl rfl ?_
    refine r_getR (pc := 21) (b := 60) hv 15 rfl rfl rfl rfl ?_
    refine r_iload_n (pc := 24) hv 16 rfl rfl ?_
    refine r_caload (pc := 25) (N := 56) hv 17 rfl rfl rfl h.1 ?_
    replace h := h.2
    refine r_callV (pc := 26) (l := [aI (σ.1 60 (l2 : Int32).toNatClampNeg)]) (av := [aI (σ.1 60 (l2 : Int32).toNatClampNeg)]) (a := 49) (t := []) hv 18 rfl rfl rfl rfl (rcv_o (by decide) rfl) trivial (hS.1 _ _ _ _ _ (fun r σ1 h => ?_) h)
    obtain ⟨rfl, h⟩ := h
    show v 29 [some (aR 49), some (aI l1), some (aI l2)] [] σ1
    refine r_iinc (pc := 29) (lo' := [some (aR 49), some (aI l1), some (aI (l2 + 1))]) hv 19 rfl rfl rfl ?_
    refine r_goto (pc := 32) hv 20 rfl  ?_
    exact h
def vc_X9_spells_0 (S : Sp) (Φ : Rs) (v : Kt) (l1 : Int32) (σ : St) : Prop := vp_in l1 13 ∧ (v 7 [some (aR 49), some (aI l1), some (aI (σ.1 61 (l1 : Int32).toNatClampNeg))] [] σ)
theorem w_X9_spells_0 {S : Sp} (hS : Sys S) {Φ : Rs} {v : Kt} (hv : Cl S Φ k_X9_spells v) (hw : Wk v) (l1 : Int32) (σ : St) (h : vc_X9_spells_0 S Φ v l1 σ) : v 0 [some (aR 49), some (aI l1), none] [] σ := by
  unfold vc_X9_spells_0 at h
  refine r_aload_n (pc := 0) hv 0 rfl rfl ?_
  refine r_getR (pc := 1) (b := 61) hv 1 rfl rfl rfl rfl ?_
  refine r_iload_n (pc := 4) hv 2 rfl rfl ?_
  refine r_iaload (pc := 5) (N := 13) hv 3 rfl rfl rfl (by decide) h.1 ?_
  replace h := h.2
  refine r_istore_n (pc := 6) (lo' := [some (aR 49), some (aI l1), some (aI (σ.1 61 (l1 : Int32).toNatClampNeg))]) hv 4 rfl rfl ?_
  exact h
theorem m_X9_spells {S : Sp} (hS : Sys S) {l1 : Int32} {σ : St} {Φ : Rs} (h : ∀ v : Kt, Cl S Φ k_X9_spells v → Wk v → vc_X9_spells_0 S Φ v l1 σ) : S 220 [aR 49, aI l1] σ Φ :=
  hS.2 220 M_X9_spells k_X9_spells _ _ _ mkt_X9_spells (Nat.le_of_ble_eq_true rfl) (fun v hv hw => w_X9_spells_0 hS hv hw   l1 σ (h v hv hw))
def vc_X9_number_24 (S : Sp) (Φ : Rs) (v : Kt) (l1 : Int32) (l2 : Int32) (σ : St) : Prop := ((l2 : Int32) ≤ 0 → (Φ [] σ)) ∧ (¬ ((l2 : Int32) ≤ 0) → (¬ (l2 : Int32) = 0 ∧ (S 219 [aR 49, aI (48 + ((l1 / l2) - (l1 / l2) / 10 * 10))] σ (fun r σ1 => r = [] ∧ (v 24 [some (aR 49), some (aI l1), some (aI (l2 / 10))] [] σ1)))))
theorem w_X9_number_24 {S : Sp} (hS : Sys S) {Φ : Rs} {v : Kt} (hv : Cl S Φ k_X9_number v) (hw : Wk v) (l1 : Int32) (l2 : Int32) (σ : St) (h : vc_X9_number_24 S Φ v l1 l2 σ) : v 24 [some (aR 49), some (aI l1), some (aI l2)] [] σ := by
  unfold vc_X9_number_24 at h
  refine r_iload_n (pc := 24) hv 15 rfl rfl ?_
  refine r_if_le (pc := 25) hv 16 rfl (fun c => ?_) (fun c => ?_)
  · replace h := h.1 c
    exact r_return (pc := 49) hv 31 rfl h
  · replace h := h.2 c
    refine r_aload_n (pc := 28) hv 17 rfl rfl ?_
    refine r_bipush (pc := 29) hv 18 rfl  ?_
    refine r_iload_n (pc := 31) hv 19 rfl rfl ?_
    refine r_iload_n (pc := 32) hv 20 rfl rfl ?_
    refine r_idiv (pc := 33) hv 21 rfl h.1 ?_
    replace h := h.2
    refine r_bipush (pc := 34) hv 22 rfl  ?_
    refine r_irem (pc := 36) hv 23 rfl (by decide) ?_
    refine r_iadd (pc := 37) hv 24 rfl  ?_
    refine r_callV (pc := 38) (l := [aI (48 + ((l1 / l2) - (l1 / l2) / 10 * 10))]) (av := [aI (48 + ((l1 / l2) - (l1 / l2) / 10 * 10))]) (a := 49) (t := []) hv 25 rfl rfl rfl rfl (rcv_o (by decide) rfl) trivial (hS.1 _ _ _ _ _ (fun r σ1 h => ?_) h)
    obtain ⟨rfl, h⟩ := h
    show v 41 [some (aR 49), some (aI l1), some (aI l2)] [] σ1
    refine r_iload_n (pc := 41) hv 26 rfl rfl ?_
    refine r_bipush (pc := 42) hv 27 rfl  ?_
    refine r_idiv (pc := 44) hv 28 rfl (by decide) ?_
    refine r_istore_n (pc := 45) (lo' := [some (aR 49), some (aI l1), some (aI (l2 / 10))]) hv 29 rfl rfl ?_
    refine r_goto (pc := 46) hv 30 rfl  ?_
    exact h
def vc_X9_number_8 (S : Sp) (Φ : Rs) (v : Kt) (l1 : Int32) (l2 : Int32) (σ : St) : Prop := ((l1 : Int32) < (l2 * 10) → (v 24 [some (aR 49), some (aI l1), some (aI l2)] [] σ)) ∧ (¬ ((l1 : Int32) < (l2 * 10)) → (v 8 [some (aR 49), some (aI l1), some (aI (l2 * 10))] [] σ))
theorem w_X9_number_8 {S : Sp} (hS : Sys S) {Φ : Rs} {v : Kt} (hv : Cl S Φ k_X9_number v) (hw : Wk v) (l1 : Int32) (l2 : Int32) (σ : St) (h : vc_X9_number_8 S Φ v l1 l2 σ) : v 8 [some (aR 49), some (aI l1), some (aI l2)] [] σ := by
  unfold vc_X9_number_8 at h
  refine r_iload_n (pc := 8) hv 5 rfl rfl ?_
  refine r_bipush (pc := 9) hv 6 rfl  ?_
  refine r_imul (pc := 11) hv 7 rfl  ?_
  refine r_iload_n (pc := 12) hv 8 rfl rfl ?_
  refine r_icmp_gt (pc := 13) hv 9 rfl (fun c => ?_) (fun c => ?_)
  · replace h := h.1 c
    exact h
  · replace h := h.2 c
    refine r_iload_n (pc := 16) hv 10 rfl rfl ?_
    refine r_bipush (pc := 17) hv 11 rfl  ?_
    refine r_imul (pc := 19) hv 12 rfl  ?_
    refine r_istore_n (pc := 20) (lo' := [some (aR 49), some (aI l1), some (aI (l2 * 10))]) hv 13 rfl rfl ?_
    refine r_goto (pc := 21) hv 14 rfl  ?_
    exact h
def vc_X9_number_0 (S : Sp) (Φ : Rs) (v : Kt) (l1 : Int32) (σ : St) : Prop := S 219 [aR 49, aI 32] σ (fun r σ1 => r = [] ∧ (v 8 [some (aR 49), some (aI l1), some (aI 1)] [] σ1))
theorem w_X9_number_0 {S : Sp} (hS : Sys S) {Φ : Rs} {v : Kt} (hv : Cl S Φ k_X9_number v) (hw : Wk v) (l1 : Int32) (σ : St) (h : vc_X9_number_0 S Φ v l1 σ) : v 0 [some (aR 49), some (aI l1), none] [] σ := by
  unfold vc_X9_number_0 at h
  refine r_aload_n (pc := 0) hv 0 rfl rfl ?_
  refine r_bipush (pc := 1) hv 1 rfl  ?_
  refine r_callV (pc := 3) (l := [aI 32]) (av := [aI 32]) (a := 49) (t := []) hv 2 rfl rfl rfl rfl (rcv_o (by decide) rfl) trivial (hS.1 _ _ _ _ _ (fun r σ1 h => ?_) h)
  obtain ⟨rfl, h⟩ := h
  show v 6 [some (aR 49), some (aI l1), none] [] σ1
  refine r_iconst (pc := 6) hv 3 rfl  ?_
  refine r_istore_n (pc := 7) (lo' := [some (aR 49), some (aI l1), some (aI 1)]) hv 4 rfl rfl ?_
  exact h
theorem m_X9_number {S : Sp} (hS : Sys S) {l1 : Int32} {σ : St} {Φ : Rs} (h : ∀ v : Kt, Cl S Φ k_X9_number v → Wk v → vc_X9_number_0 S Φ v l1 σ) : S 221 [aR 49, aI l1] σ Φ :=
  hS.2 221 M_X9_number k_X9_number _ _ _ mkt_X9_number (Nat.le_of_ble_eq_true rfl) (fun v hv hw => w_X9_number_0 hS hv hw   l1 σ (h v hv hw))
def vc_X9_spell_173 (S : Sp) (Φ : Rs) (v : Kt) (l1 : Int32) (σ : St) : Prop := vp_in (160 + 3 * l1 + 1) 286 ∧ (S 221 [aR 49, aI (σ.1 50 (160 + 3 * l1 + 1 : Int32).toNatClampNeg)] σ (fun r σ1 => r = [] ∧ (vp_in (160 + 3 * l1 + 2) 286 ∧ (S 221 [aR 49, aI (σ1.1 50 (160 + 3 * l1 + 2 : Int32).toNatClampNeg)] σ1 (fun r σ2 => r = [] ∧ (v 108 [some (aR 49), some (aI (l1 + 1))] [] σ2))))))
theorem w_X9_spell_173 {S : Sp} (hS : Sys S) {Φ : Rs} {v : Kt} (hv : Cl S Φ k_X9_spell v) (hw : Wk v) (l1 : Int32) (σ : St) (h : vc_X9_spell_173 S Φ v l1 σ) : v 173 [some (aR 49), some (aI l1)] [] σ := by
  unfold vc_X9_spell_173 at h
  refine r_aload_n (pc := 173) hv 95 rfl rfl ?_
  refine r_aload_n (pc := 174) hv 96 rfl rfl ?_
  refine r_iload_n (pc := 175) hv 97 rfl rfl ?_
  refine r_iconst (pc := 176) hv 98 rfl  ?_
  refine r_callV (pc := 177) (l := [aI 1, aI l1]) (av := [aI l1, aI 1]) (a := 49) (t := [aR 49]) hv 99 rfl rfl rfl rfl (rcv_o (by decide) rfl) trivial (t_X9_wires hS h.1 ?_)
  replace h := h.2
  show v 180 [some (aR 49), some (aI l1)] [aI (σ.1 50 (160 + 3 * l1 + 1 : Int32).toNatClampNeg), aR 49] σ
  refine r_callV (pc := 180) (l := [aI (σ.1 50 (160 + 3 * l1 + 1 : Int32).toNatClampNeg)]) (av := [aI (σ.1 50 (160 + 3 * l1 + 1 : Int32).toNatClampNeg)]) (a := 49) (t := []) hv 100 rfl rfl rfl rfl (rcv_o (by decide) rfl) trivial (hS.1 _ _ _ _ _ (fun r σ1 h => ?_) h)
  obtain ⟨rfl, h⟩ := h
  show v 183 [some (aR 49), some (aI l1)] [] σ1
  refine r_aload_n (pc := 183) hv 101 rfl rfl ?_
  refine r_aload_n (pc := 184) hv 102 rfl rfl ?_
  refine r_iload_n (pc := 185) hv 103 rfl rfl ?_
  refine r_iconst (pc := 186) hv 104 rfl  ?_
  refine r_callV (pc := 187) (l := [aI 2, aI l1]) (av := [aI l1, aI 2]) (a := 49) (t := [aR 49]) hv 105 rfl rfl rfl rfl (rcv_o (by decide) rfl) trivial (t_X9_wires hS h.1 ?_)
  replace h := h.2
  show v 190 [some (aR 49), some (aI l1)] [aI (σ1.1 50 (160 + 3 * l1 + 2 : Int32).toNatClampNeg), aR 49] σ1
  refine r_callV (pc := 190) (l := [aI (σ1.1 50 (160 + 3 * l1 + 2 : Int32).toNatClampNeg)]) (av := [aI (σ1.1 50 (160 + 3 * l1 + 2 : Int32).toNatClampNeg)]) (a := 49) (t := []) hv 106 rfl rfl rfl rfl (rcv_o (by decide) rfl) trivial (hS.1 _ _ _ _ _ (fun r σ2 h => ?_) h)
  obtain ⟨rfl, h⟩ := h
  show v 193 [some (aR 49), some (aI l1)] [] σ2
  refine r_iinc (pc := 193) (lo' := [some (aR 49), some (aI (l1 + 1))]) hv 107 rfl rfl rfl ?_
  refine r_goto (pc := 196) hv 108 rfl  ?_
  exact h
def vc_X9_spell_133 (S : Sp) (Φ : Rs) (v : Kt) (l1 : Int32) (σ : St) : Prop := S 220 [aR 49, aI 6] σ (fun r σ1 => r = [] ∧ (vp_in (160 + 3 * l1 + 0) 286 ∧ (((0 : Int32) ≤ (σ1.1 50 (160 + 3 * l1 + 0 : Int32).toNatClampNeg) → (vp_in (160 + 3 * l1 + 0) 286 ∧ (S 221 [aR 49, aI (σ1.1 50 (160 + 3 * l1 + 0 : Int32).toNatClampNeg)] σ1 (fun r σ2 => r = [] ∧ (vc_X9_spell_173 S Φ v  l1 σ2))))) ∧ (¬ ((0 : Int32) ≤ (σ1.1 50 (160 + 3 * l1 + 0 : Int32).toNatClampNeg)) → (S 219 [aR 49, aI 32] σ1 (fun r σ3 => r = [] ∧ (S 220 [aR 49, aI 7] σ3 (fun r σ4 => r = [] ∧ (vc_X9_spell_173 S Φ v  l1 σ4)))))))))
theorem w_X9_spell_133 {S : Sp} (hS : Sys S) {Φ : Rs} {v : Kt} (hv : Cl S Φ k_X9_spell v) (hw : Wk v) (l1 : Int32) (σ : St) (h : vc_X9_spell_133 S Φ v l1 σ) : v 133 [some (aR 49), some (aI l1)] [] σ := by
  unfold vc_X9_spell_133 at h
  refine r_aload_n (pc := 133) hv 74 rfl rfl ?_
  refine r_bipush (pc := 134) hv 75 rfl  ?_
  refine r_callV (pc := 136) (l := [aI 6]) (av := [aI 6]) (a := 49) (t := []) hv 76 rfl rfl rfl rfl (rcv_o (by decide) rfl) trivial (hS.1 _ _ _ _ _ (fun r σ1 h => ?_) h)
  obtain ⟨rfl, h⟩ := h
  show v 139 [some (aR 49), some (aI l1)] [] σ1
  refine r_aload_n (pc := 139) hv 77 rfl rfl ?_
  refine r_iload_n (pc := 140) hv 78 rfl rfl ?_
  refine r_iconst (pc := 141) hv 79 rfl  ?_
  refine r_callV (pc := 142) (l := [aI 0, aI l1]) (av := [aI l1, aI 0]) (a := 49) (t := []) hv 80 rfl rfl rfl rfl (rcv_o (by decide) rfl) trivial (t_X9_wires hS h.1 ?_)
  replace h := h.2
  show v 145 [some (aR 49), some (aI l1)] [aI (σ1.1 50 (160 + 3 * l1 + 0 : Int32).toNatClampNeg)] σ1
  refine r_if_ge (pc := 145) hv 81 rfl (fun c => ?_) (fun c => ?_)
  · replace h := h.1 c
    refine r_aload_n (pc := 163) hv 89 rfl rfl ?_
    refine r_aload_n (pc := 164) hv 90 rfl rfl ?_
    refine r_iload_n (pc := 165) hv 91 rfl rfl ?_
    refine r_iconst (pc := 166) hv 92 rfl  ?_
    refine r_callV (pc := 167) (l := [aI 0, aI l1]) (av := [aI l1, aI 0]) (a := 49) (t := [aR 49]) hv 93 rfl rfl rfl rfl (rcv_o (by decide) rfl) trivial (t_X9_wires hS h.1 ?_)
    replace h := h.2
    show v 170 [some (aR 49), some (aI l1)] [aI (σ1.1 50 (160 + 3 * l1 + 0 : Int32).toNatClampNeg), aR 49] σ1
    refine r_callV (pc := 170) (l := [aI (σ1.1 50 (160 + 3 * l1 + 0 : Int32).toNatClampNeg)]) (av := [aI (σ1.1 50 (160 + 3 * l1 + 0 : Int32).toNatClampNeg)]) (a := 49) (t := []) hv 94 rfl rfl rfl rfl (rcv_o (by decide) rfl) trivial (hS.1 _ _ _ _ _ (fun r σ2 h => ?_) h)
    obtain ⟨rfl, h⟩ := h
    show v 173 [some (aR 49), some (aI l1)] [] σ2
    exact (w_X9_spell_173 hS hv hw   l1  σ2 h)
  · replace h := h.2 c
    refine r_aload_n (pc := 148) hv 82 rfl rfl ?_
    refine r_bipush (pc := 149) hv 83 rfl  ?_
    refine r_callV (pc := 151) (l := [aI 32]) (av := [aI 32]) (a := 49) (t := []) hv 84 rfl rfl rfl rfl (rcv_o (by decide) rfl) trivial (hS.1 _ _ _ _ _ (fun r σ3 h => ?_) h)
    obtain ⟨rfl, h⟩ := h
    show v 154 [some (aR 49), some (aI l1)] [] σ3
    refine r_aload_n (pc := 154) hv 85 rfl rfl ?_
    refine r_bipush (pc := 155) hv 86 rfl  ?_
    refine r_callV (pc := 157) (l := [aI 7]) (av := [aI 7]) (a := 49) (t := []) hv 87 rfl rfl rfl rfl (rcv_o (by decide) rfl) trivial (hS.1 _ _ _ _ _ (fun r σ4 h => ?_) h)
    obtain ⟨rfl, h⟩ := h
    show v 160 [some (aR 49), some (aI l1)] [] σ4
    refine r_goto (pc := 160) hv 88 rfl  ?_
    exact (w_X9_spell_173 hS hv hw   l1  σ4 h)
def vc_X9_spell_108 (S : Sp) (Φ : Rs) (v : Kt) (l1 : Int32) (σ : St) : Prop := vp_in 281 286 ∧ (((σ.1 50 (281 : Int32).toNatClampNeg : Int32) ≤ l1 → (Φ [aI (σ.1 49 30)] σ)) ∧ (¬ ((σ.1 50 (281 : Int32).toNatClampNeg : Int32) ≤ l1) → (((σ.1 49 30 : Int32) ≤ 0 → (vc_X9_spell_133 S Φ v  l1 σ)) ∧ (¬ ((σ.1 49 30 : Int32) ≤ 0) → (S 219 [aR 49, aI 59] σ (fun r σ1 => r = [] ∧ (vc_X9_spell_133 S Φ v  l1 σ1)))))))
theorem w_X9_spell_108 {S : Sp} (hS : Sys S) {Φ : Rs} {v : Kt} (hv : Cl S Φ k_X9_spell v) (hw : Wk v) (l1 : Int32) (σ : St) (h : vc_X9_spell_108 S Φ v l1 σ) : v 108 [some (aR 49), some (aI l1)] [] σ := by
  unfold vc_X9_spell_108 at h
  refine r_iload_n (pc := 108) hv 62 rfl rfl ?_
  refine r_aload_n (pc := 109) hv 63 rfl rfl ?_
  refine r_getR (pc := 110) (b := 50) hv 64 rfl rfl rfl rfl ?_
  refine r_sipush (pc := 113) hv 65 rfl  ?_
  refine r_iaload (pc := 116) (N := 286) hv 66 rfl rfl rfl (by decide) h.1 ?_
  replace h := h.2
  refine r_icmp_ge (pc := 117) hv 67 rfl (fun c => ?_) (fun c => ?_)
  · replace h := h.1 c
    refine r_aload_n (pc := 199) hv 109 rfl rfl ?_
    refine r_getI (pc := 200) hv 110 rfl rfl rfl ?_
    exact r_ireturn (pc := 203) hv 111 rfl rfl h
  · replace h := h.2 c
    refine r_aload_n (pc := 120) hv 68 rfl rfl ?_
    refine r_getI (pc := 121) hv 69 rfl rfl rfl ?_
    refine r_if_le (pc := 124) hv 70 rfl (fun c => ?_) (fun c => ?_)
    · replace h := h.1 c
      exact (w_X9_spell_133 hS hv hw   l1  σ h)
    · replace h := h.2 c
      refine r_aload_n (pc := 127) hv 71 rfl rfl ?_
      refine r_bipush (pc := 128) hv 72 rfl  ?_
      refine r_callV (pc := 130) (l := [aI 59]) (av := [aI 59]) (a := 49) (t := []) hv 73 rfl rfl rfl rfl (rcv_o (by decide) rfl) trivial (hS.1 _ _ _ _ _ (fun r σ1 h => ?_) h)
      obtain ⟨rfl, h⟩ := h
      show v 133 [some (aR 49), some (aI l1)] [] σ1
      exact (w_X9_spell_133 hS hv hw   l1  σ1 h)
def vc_X9_spell_29 (S : Sp) (Φ : Rs) (v : Kt) (l1 : Int32) (σ : St) : Prop := S 220 [aR 49, aI 0] σ (fun r σ1 => r = [] ∧ (vp_in (8 * l1 + 0) 286 ∧ (S 221 [aR 49, aI (σ1.1 50 (8 * l1 + 0 : Int32).toNatClampNeg)] σ1 (fun r σ2 => r = [] ∧ (vp_in (8 * l1 + 1) 286 ∧ (S 221 [aR 49, aI (σ2.1 50 (8 * l1 + 1 : Int32).toNatClampNeg)] σ2 (fun r σ3 => r = [] ∧ (S 219 [aR 49, aI 32] σ3 (fun r σ4 => r = [] ∧ (vp_in (8 * l1 + 2) 286 ∧ (S 220 [aR 49, aI (σ4.1 50 (8 * l1 + 2 : Int32).toNatClampNeg)] σ4 (fun r σ5 => r = [] ∧ (vp_in (8 * l1 + 3) 286 ∧ (S 221 [aR 49, aI (σ5.1 50 (8 * l1 + 3 : Int32).toNatClampNeg)] σ5 (fun r σ6 => r = [] ∧ (vp_in (8 * l1 + 4) 286 ∧ (S 221 [aR 49, aI (σ6.1 50 (8 * l1 + 4 : Int32).toNatClampNeg)] σ6 (fun r σ7 => r = [] ∧ (vp_in (8 * l1 + 5) 286 ∧ (S 221 [aR 49, aI (σ7.1 50 (8 * l1 + 5 : Int32).toNatClampNeg)] σ7 (fun r σ8 => r = [] ∧ (v 7 [some (aR 49), some (aI (l1 + 1))] [] σ8))))))))))))))))))))))
theorem w_X9_spell_29 {S : Sp} (hS : Sys S) {Φ : Rs} {v : Kt} (hv : Cl S Φ k_X9_spell v) (hw : Wk v) (l1 : Int32) (σ : St) (h : vc_X9_spell_29 S Φ v l1 σ) : v 29 [some (aR 49), some (aI l1)] [] σ := by
  unfold vc_X9_spell_29 at h
  refine r_aload_n (pc := 29) hv 16 rfl rfl ?_
  refine r_iconst (pc := 30) hv 17 rfl  ?_
  refine r_callV (pc := 31) (l := [aI 0]) (av := [aI 0]) (a := 49) (t := []) hv 18 rfl rfl rfl rfl (rcv_o (by decide) rfl) trivial (hS.1 _ _ _ _ _ (fun r σ1 h => ?_) h)
  obtain ⟨rfl, h⟩ := h
  show v 34 [some (aR 49), some (aI l1)] [] σ1
  refine r_aload_n (pc := 34) hv 19 rfl rfl ?_
  refine r_aload_n (pc := 35) hv 20 rfl rfl ?_
  refine r_iload_n (pc := 36) hv 21 rfl rfl ?_
  refine r_iconst (pc := 37) hv 22 rfl  ?_
  refine r_callV (pc := 38) (l := [aI 0, aI l1]) (av := [aI l1, aI 0]) (a := 49) (t := [aR 49]) hv 23 rfl rfl rfl rfl (rcv_o (by decide) rfl) trivial (t_X9_its hS h.1 ?_)
  replace h := h.2
  show v 41 [some (aR 49), some (aI l1)] [aI (σ1.1 50 (8 * l1 + 0 : Int32).toNatClampNeg), aR 49] σ1
  refine r_callV (pc := 41) (l := [aI (σ1.1 50 (8 * l1 + 0 : Int32).toNatClampNeg)]) (av := [aI (σ1.1 50 (8 * l1 + 0 : Int32).toNatClampNeg)]) (a := 49) (t := []) hv 24 rfl rfl rfl rfl (rcv_o (by decide) rfl) trivial (hS.1 _ _ _ _ _ (fun r σ2 h => ?_) h)
  obtain ⟨rfl, h⟩ := h
  show v 44 [some (aR 49), some (aI l1)] [] σ2
  refine r_aload_n (pc := 44) hv 25 rfl rfl ?_
  refine r_aload_n (pc := 45) hv 26 rfl rfl ?_
  refine r_iload_n (pc := 46) hv 27 rfl rfl ?_
  refine r_iconst (pc := 47) hv 28 rfl  ?_
  refine r_callV (pc := 48) (l := [aI 1, aI l1]) (av := [aI l1, aI 1]) (a := 49) (t := [aR 49]) hv 29 rfl rfl rfl rfl (rcv_o (by decide) rfl) trivial (t_X9_its hS h.1 ?_)
  replace h := h.2
  show v 51 [some (aR 49), some (aI l1)] [aI (σ2.1 50 (8 * l1 + 1 : Int32).toNatClampNeg), aR 49] σ2
  refine r_callV (pc := 51) (l := [aI (σ2.1 50 (8 * l1 + 1 : Int32).toNatClampNeg)]) (av := [aI (σ2.1 50 (8 * l1 + 1 : Int32).toNatClampNeg)]) (a := 49) (t := []) hv 30 rfl rfl rfl rfl (rcv_o (by decide) rfl) trivial (hS.1 _ _ _ _ _ (fun r σ3 h => ?_) h)
  obtain ⟨rfl, h⟩ := h
  show v 54 [some (aR 49), some (aI l1)] [] σ3
  refine r_aload_n (pc := 54) hv 31 rfl rfl ?_
  refine r_bipush (pc := 55) hv 32 rfl  ?_
  refine r_callV (pc := 57) (l := [aI 32]) (av := [aI 32]) (a := 49) (t := []) hv 33 rfl rfl rfl rfl (rcv_o (by decide) rfl) trivial (hS.1 _ _ _ _ _ (fun r σ4 h => ?_) h)
  obtain ⟨rfl, h⟩ := h
  show v 60 [some (aR 49), some (aI l1)] [] σ4
  refine r_aload_n (pc := 60) hv 34 rfl rfl ?_
  refine r_aload_n (pc := 61) hv 35 rfl rfl ?_
  refine r_iload_n (pc := 62) hv 36 rfl rfl ?_
  refine r_iconst (pc := 63) hv 37 rfl  ?_
  refine r_callV (pc := 64) (l := [aI 2, aI l1]) (av := [aI l1, aI 2]) (a := 49) (t := [aR 49]) hv 38 rfl rfl rfl rfl (rcv_o (by decide) rfl) trivial (t_X9_its hS h.1 ?_)
  replace h := h.2
  show v 67 [some (aR 49), some (aI l1)] [aI (σ4.1 50 (8 * l1 + 2 : Int32).toNatClampNeg), aR 49] σ4
  refine r_callV (pc := 67) (l := [aI (σ4.1 50 (8 * l1 + 2 : Int32).toNatClampNeg)]) (av := [aI (σ4.1 50 (8 * l1 + 2 : Int32).toNatClampNeg)]) (a := 49) (t := []) hv 39 rfl rfl rfl rfl (rcv_o (by decide) rfl) trivial (hS.1 _ _ _ _ _ (fun r σ5 h => ?_) h)
  obtain ⟨rfl, h⟩ := h
  show v 70 [some (aR 49), some (aI l1)] [] σ5
  refine r_aload_n (pc := 70) hv 40 rfl rfl ?_
  refine r_aload_n (pc := 71) hv 41 rfl rfl ?_
  refine r_iload_n (pc := 72) hv 42 rfl rfl ?_
  refine r_iconst (pc := 73) hv 43 rfl  ?_
  refine r_callV (pc := 74) (l := [aI 3, aI l1]) (av := [aI l1, aI 3]) (a := 49) (t := [aR 49]) hv 44 rfl rfl rfl rfl (rcv_o (by decide) rfl) trivial (t_X9_its hS h.1 ?_)
  replace h := h.2
  show v 77 [some (aR 49), some (aI l1)] [aI (σ5.1 50 (8 * l1 + 3 : Int32).toNatClampNeg), aR 49] σ5
  refine r_callV (pc := 77) (l := [aI (σ5.1 50 (8 * l1 + 3 : Int32).toNatClampNeg)]) (av := [aI (σ5.1 50 (8 * l1 + 3 : Int32).toNatClampNeg)]) (a := 49) (t := []) hv 45 rfl rfl rfl rfl (rcv_o (by decide) rfl) trivial (hS.1 _ _ _ _ _ (fun r σ6 h => ?_) h)
  obtain ⟨rfl, h⟩ := h
  show v 80 [some (aR 49), some (aI l1)] [] σ6
  refine r_aload_n (pc := 80) hv 46 rfl rfl ?_
  refine r_aload_n (pc := 81) hv 47 rfl rfl ?_
  refine r_iload_n (pc := 82) hv 48 rfl rfl ?_
  refine r_iconst (pc := 83) hv 49 rfl  ?_
  refine r_callV (pc := 84) (l := [aI 4, aI l1]) (av := [aI l1, aI 4]) (a := 49) (t := [aR 49]) hv 50 rfl rfl rfl rfl (rcv_o (by decide) rfl) trivial (t_X9_its hS h.1 ?_)
  replace h := h.2
  show v 87 [some (aR 49), some (aI l1)] [aI (σ6.1 50 (8 * l1 + 4 : Int32).toNatClampNeg), aR 49] σ6
  refine r_callV (pc := 87) (l := [aI (σ6.1 50 (8 * l1 + 4 : Int32).toNatClampNeg)]) (av := [aI (σ6.1 50 (8 * l1 + 4 : Int32).toNatClampNeg)]) (a := 49) (t := []) hv 51 rfl rfl rfl rfl (rcv_o (by decide) rfl) trivial (hS.1 _ _ _ _ _ (fun r σ7 h => ?_) h)
  obtain ⟨rfl, h⟩ := h
  show v 90 [some (aR 49), some (aI l1)] [] σ7
  refine r_aload_n (pc := 90) hv 52 rfl rfl ?_
  refine r_aload_n (pc := 91) hv 53 rfl rfl ?_
  refine r_iload_n (pc := 92) hv 54 rfl rfl ?_
  refine r_iconst (pc := 93) hv 55 rfl  ?_
  refine r_callV (pc := 94) (l := [aI 5, aI l1]) (av := [aI l1, aI 5]) (a := 49) (t := [aR 49]) hv 56 rfl rfl rfl rfl (rcv_o (by decide) rfl) trivial (t_X9_its hS h.1 ?_)
  replace h := h.2
  show v 97 [some (aR 49), some (aI l1)] [aI (σ7.1 50 (8 * l1 + 5 : Int32).toNatClampNeg), aR 49] σ7
  refine r_callV (pc := 97) (l := [aI (σ7.1 50 (8 * l1 + 5 : Int32).toNatClampNeg)]) (av := [aI (σ7.1 50 (8 * l1 + 5 : Int32).toNatClampNeg)]) (a := 49) (t := []) hv 57 rfl rfl rfl rfl (rcv_o (by decide) rfl) trivial (hS.1 _ _ _ _ _ (fun r σ8 h => ?_) h)
  obtain ⟨rfl, h⟩ := h
  show v 100 [some (aR 49), some (aI l1)] [] σ8
  refine r_iinc (pc := 100) (lo' := [some (aR 49), some (aI (l1 + 1))]) hv 58 rfl rfl rfl ?_
  refine r_goto (pc := 103) hv 59 rfl  ?_
  exact h
def vc_X9_spell_7 (S : Sp) (Φ : Rs) (v : Kt) (l1 : Int32) (σ : St) : Prop := vp_in 280 286 ∧ (((σ.1 50 (280 : Int32).toNatClampNeg : Int32) ≤ l1 → (v 108 [some (aR 49), some (aI 0)] [] σ)) ∧ (¬ ((σ.1 50 (280 : Int32).toNatClampNeg : Int32) ≤ l1) → (((l1 : Int32) ≤ 0 → (vc_X9_spell_29 S Φ v  l1 σ)) ∧ (¬ ((l1 : Int32) ≤ 0) → (S 219 [aR 49, aI 59] σ (fun r σ1 => r = [] ∧ (vc_X9_spell_29 S Φ v  l1 σ1)))))))
theorem w_X9_spell_7 {S : Sp} (hS : Sys S) {Φ : Rs} {v : Kt} (hv : Cl S Φ k_X9_spell v) (hw : Wk v) (l1 : Int32) (σ : St) (h : vc_X9_spell_7 S Φ v l1 σ) : v 7 [some (aR 49), some (aI l1)] [] σ := by
  unfold vc_X9_spell_7 at h
  refine r_iload_n (pc := 7) hv 5 rfl rfl ?_
  refine r_aload_n (pc := 8) hv 6 rfl rfl ?_
  refine r_getR (pc := 9) (b := 50) hv 7 rfl rfl rfl rfl ?_
  refine r_sipush (pc := 12) hv 8 rfl  ?_
  refine r_iaload (pc := 15) (N := 286) hv 9 rfl rfl rfl (by decide) h.1 ?_
  replace h := h.2
  refine r_icmp_ge (pc := 16) hv 10 rfl (fun c => ?_) (fun c => ?_)
  · replace h := h.1 c
    refine r_iconst (pc := 106) hv 60 rfl  ?_
    refine r_istore_n (pc := 107) (lo' := [some (aR 49), some (aI 0)]) hv 61 rfl rfl ?_
    exact h
  · replace h := h.2 c
    refine r_iload_n (pc := 19) hv 11 rfl rfl ?_
    refine r_if_le (pc := 20) hv 12 rfl (fun c => ?_) (fun c => ?_)
    · replace h := h.1 c
      exact (w_X9_spell_29 hS hv hw   l1  σ h)
    · replace h := h.2 c
      refine r_aload_n (pc := 23) hv 13 rfl rfl ?_
      refine r_bipush (pc := 24) hv 14 rfl  ?_
      refine r_callV (pc := 26) (l := [aI 59]) (av := [aI 59]) (a := 49) (t := []) hv 15 rfl rfl rfl rfl (rcv_o (by decide) rfl) trivial (hS.1 _ _ _ _ _ (fun r σ1 h => ?_) h)
      obtain ⟨rfl, h⟩ := h
      show v 29 [some (aR 49), some (aI l1)] [] σ1
      exact (w_X9_spell_29 hS hv hw   l1  σ1 h)
def vc_X9_spell_0 (S : Sp) (Φ : Rs) (v : Kt) (σ : St) : Prop := ∀ σ1 : St, σ1 = upI σ 49 30 0 → (v 7 [some (aR 49), some (aI 0)] [] σ1)
theorem w_X9_spell_0 {S : Sp} (hS : Sys S) {Φ : Rs} {v : Kt} (hv : Cl S Φ k_X9_spell v) (hw : Wk v) (σ : St) (h : vc_X9_spell_0 S Φ v  σ) : v 0 [some (aR 49), none] [] σ := by
  unfold vc_X9_spell_0 at h
  refine r_aload_n (pc := 0) hv 0 rfl rfl ?_
  refine r_iconst (pc := 1) hv 1 rfl  ?_
  refine r_putI (pc := 2) hv 2 rfl rfl rfl ?_
  obtain ⟨σ1, e_σ1⟩ : ∃ y : St, y = upI σ 49 30 0 := ⟨_, rfl⟩
  rw [← e_σ1]
  replace h := h σ1 e_σ1
  refine r_iconst (pc := 5) hv 3 rfl  ?_
  refine r_istore_n (pc := 6) (lo' := [some (aR 49), some (aI 0)]) hv 4 rfl rfl ?_
  exact h
theorem m_X9_spell {S : Sp} (hS : Sys S) {σ : St} {Φ : Rs} (h : ∀ v : Kt, Cl S Φ k_X9_spell v → Wk v → vc_X9_spell_0 S Φ v  σ) : S 222 [aR 49] σ Φ :=
  hS.2 222 M_X9_spell k_X9_spell _ _ _ mkt_X9_spell (Nat.le_of_ble_eq_true rfl) (fun v hv hw => w_X9_spell_0 hS hv hw    σ (h v hv hw))
def vc_X9_paper_0 (S : Sp) (Φ : Rs) (v : Kt) (l1 : Int32) (σ : St) : Prop := ((l1 : Int32) < 0 → (Φ [aI (-1)] σ)) ∧ (¬ ((l1 : Int32) < 0) → (S 222 [aR 49] σ (fun r σ1 => ∃ x2 : Int32, r = [aI x2] ∧ (((x2 : Int32) ≤ l1 → (Φ [aI (-1)] σ1)) ∧ (¬ ((x2 : Int32) ≤ l1) → (vp_in l1 2000 ∧ (Φ [aI (σ1.1 63 (l1 : Int32).toNatClampNeg)] σ1)))))))
theorem w_X9_paper_0 {S : Sp} (hS : Sys S) {Φ : Rs} {v : Kt} (hv : Cl S Φ k_X9_paper v) (hw : Wk v) (l1 : Int32) (σ : St) (h : vc_X9_paper_0 S Φ v l1 σ) : v 0 [some (aR 49), some (aI l1)] [] σ := by
  unfold vc_X9_paper_0 at h
  refine r_iload_n (pc := 0) hv 0 rfl rfl ?_
  refine r_if_lt (pc := 1) hv 1 rfl (fun c => ?_) (fun c => ?_)
  · replace h := h.1 c
    refine r_iconst (pc := 21) hv 11 rfl  ?_
    exact r_ireturn (pc := 22) hv 12 rfl rfl h
  · replace h := h.2 c
    refine r_iload_n (pc := 4) hv 2 rfl rfl ?_
    refine r_aload_n (pc := 5) hv 3 rfl rfl ?_
    refine r_callV (pc := 6) (l := []) (av := []) (a := 49) (t := [aI l1]) hv 4 rfl rfl rfl rfl (rcv_o (by decide) rfl) trivial (hS.1 _ _ _ _ _ (fun r σ1 h => ?_) h)
    obtain ⟨x2, rfl, h⟩ := h
    show v 9 [some (aR 49), some (aI l1)] [aI x2, aI l1] σ1
    refine r_icmp_ge (pc := 9) hv 5 rfl (fun c => ?_) (fun c => ?_)
    · replace h := h.1 c
      refine r_iconst (pc := 21) hv 11 rfl  ?_
      exact r_ireturn (pc := 22) hv 12 rfl rfl h
    · replace h := h.2 c
      refine r_aload_n (pc := 12) hv 6 rfl rfl ?_
      refine r_getR (pc := 13) (b := 63) hv 7 rfl rfl rfl rfl ?_
      refine r_iload_n (pc := 16) hv 8 rfl rfl ?_
      refine r_iaload (pc := 17) (N := 2000) hv 9 rfl rfl rfl (by decide) h.1 ?_
      replace h := h.2
      refine r_goto (pc := 18) hv 10 rfl  ?_
      exact r_ireturn (pc := 22) hv 12 rfl rfl h
theorem m_X9_paper {S : Sp} (hS : Sys S) {l1 : Int32} {σ : St} {Φ : Rs} (h : ∀ v : Kt, Cl S Φ k_X9_paper v → Wk v → vc_X9_paper_0 S Φ v l1 σ) : S 223 [aR 49, aI l1] σ Φ :=
  hS.2 223 M_X9_paper k_X9_paper _ _ _ mkt_X9_paper (Nat.le_of_ble_eq_true rfl) (fun v hv hw => w_X9_paper_0 hS hv hw   l1 σ (h v hv hw))
def vc_X9_step_0 (S : Sp) (Φ : Rs) (v : Kt) (σ : St) : Prop := S 186 [aR 49] σ (fun r σ1 => r = [] ∧ (vp_in 285 286 ∧ (((σ1.1 50 (285 : Int32).toNatClampNeg : Int32) < (σ1.1 49 12) → (vp_in 285 286 ∧ (vp_in 285 286 ∧ (∀ σ2 : St, σ2 = upI σ1 50 (285 : Int32).toNatClampNeg ((σ1.1 50 (285 : Int32).toNatClampNeg) + 1) → (vp_in 285 286 ∧ (vp_in ((σ2.1 50 (285 : Int32).toNatClampNeg) - 1) 40 ∧ (Φ [aI (σ2.1 57 ((σ2.1 50 (285 : Int32).toNatClampNeg) - 1 : Int32).toNatClampNeg)] σ2))))))) ∧ (¬ ((σ1.1 50 (285 : Int32).toNatClampNeg : Int32) < (σ1.1 49 12)) → (Φ [aI (-3)] σ1)))))
theorem w_X9_step_0 {S : Sp} (hS : Sys S) {Φ : Rs} {v : Kt} (hv : Cl S Φ k_X9_step v) (hw : Wk v) (σ : St) (h : vc_X9_step_0 S Φ v  σ) : v 0 [some (aR 49)] [] σ := by
  unfold vc_X9_step_0 at h
  refine r_aload_n (pc := 0) hv 0 rfl rfl ?_
  refine r_callV (pc := 1) (l := []) (av := []) (a := 49) (t := []) hv 1 rfl rfl rfl rfl (rcv_o (by decide) rfl) trivial (hS.1 _ _ _ _ _ (fun r σ1 h => ?_) h)
  obtain ⟨rfl, h⟩ := h
  show v 4 [some (aR 49)] [] σ1
  refine r_aload_n (pc := 4) hv 2 rfl rfl ?_
  refine r_getR (pc := 5) (b := 50) hv 3 rfl rfl rfl rfl ?_
  refine r_sipush (pc := 8) hv 4 rfl  ?_
  refine r_iaload (pc := 11) (N := 286) hv 5 rfl rfl rfl (by decide) h.1 ?_
  replace h := h.2
  refine r_aload_n (pc := 12) hv 6 rfl rfl ?_
  refine r_getI (pc := 13) hv 7 rfl rfl rfl ?_
  refine r_icmp_lt (pc := 16) hv 8 rfl (fun c => ?_) (fun c => ?_)
  · replace h := h.1 c
    refine r_aload_n (pc := 22) hv 11 rfl rfl ?_
    refine r_getR (pc := 23) (b := 50) hv 12 rfl rfl rfl rfl ?_
    refine r_sipush (pc := 26) hv 13 rfl  ?_
    refine r_dup2 (pc := 29) hv 14 rfl trivial trivial ?_
    refine r_iaload (pc := 30) (N := 286) hv 15 rfl rfl rfl (by decide) h.1 ?_
    replace h := h.2
    refine r_iconst (pc := 31) hv 16 rfl  ?_
    refine r_iadd (pc := 32) hv 17 rfl  ?_
    refine r_iastore (pc := 33) (N := 286) hv 18 rfl rfl rfl h.1 ?_
    replace h := h.2
    obtain ⟨σ2, e_σ2⟩ : ∃ y : St, y = upI σ1 50 (285 : Int32).toNatClampNeg ((σ1.1 50 (285 : Int32).toNatClampNeg) + 1) := ⟨_, rfl⟩
    rw [← e_σ2]
    replace h := h σ2 e_σ2
    refine r_aload_n (pc := 34) hv 19 rfl rfl ?_
    refine r_getR (pc := 35) (b := 57) hv 20 rfl rfl rfl rfl ?_
    refine r_aload_n (pc := 38) hv 21 rfl rfl ?_
    refine r_getR (pc := 39) (b := 50) hv 22 rfl rfl rfl rfl ?_
    refine r_sipush (pc := 42) hv 23 rfl  ?_
    refine r_iaload (pc := 45) (N := 286) hv 24 rfl rfl rfl (by decide) h.1 ?_
    replace h := h.2
    refine r_iconst (pc := 46) hv 25 rfl  ?_
    refine r_isub (pc := 47) hv 26 rfl  ?_
    refine r_iaload (pc := 48) (N := 40) hv 27 rfl rfl rfl (by decide) h.1 ?_
    replace h := h.2
    exact r_ireturn (pc := 49) hv 28 rfl rfl h
  · replace h := h.2 c
    refine r_bipush (pc := 19) hv 9 rfl  ?_
    exact r_ireturn (pc := 21) hv 10 rfl rfl h
theorem m_X9_step {S : Sp} (hS : Sys S) {σ : St} {Φ : Rs} (h : ∀ v : Kt, Cl S Φ k_X9_step v → Wk v → vc_X9_step_0 S Φ v  σ) : S 224 [aR 49] σ Φ :=
  hS.2 224 M_X9_step k_X9_step _ _ _ mkt_X9_step (Nat.le_of_ble_eq_true rfl) (fun v hv hw => w_X9_step_0 hS hv hw    σ (h v hv hw))
def vc_X9_stepped_65 (S : Sp) (Φ : Rs) (v : Kt) (l1 : Int32) (l2 : Int32) (l3 : Int32) (l4 : Int32) (l5 : Int32) (s0 : Int32) (s1 : Int32) (σ : St) : Prop := ((l2 : Int32) ≤ l5 → (vp_in l5 40 ∧ (v 38 [some (aR 49), some (aI l1), some (aI l2), some (aI (s1 + s0)), some (aI (l4 &&& ((1 <<< ((σ.1 57 (l5 : Int32).toNatClampNeg) &&& 31)) ^^^ (-1)))), some (aI (l5 + 1))] [] σ))) ∧ (¬ ((l2 : Int32) ≤ l5) → (v 38 [some (aR 49), some (aI l1), some (aI l2), some (aI (s1 + s0)), some (aI (l4 &&& (-1))), some (aI (l5 + 1))] [] σ))
theorem w_X9_stepped_65 {S : Sp} (hS : Sys S) {Φ : Rs} {v : Kt} (hv : Cl S Φ k_X9_stepped v) (hw : Wk v) (l1 : Int32) (l2 : Int32) (l3 : Int32) (l4 : Int32) (l5 : Int32) (s0 : Int32) (s1 : Int32) (σ : St) (h : vc_X9_stepped_65 S Φ v l1 l2 l3 l4 l5 s0 s1 σ) : v 65 [some (aR 49), some (aI l1), some (aI l2), some (aI l3), some (aI l4), some (aI l5)] [aI s0, aI s1] σ := by
  unfold vc_X9_stepped_65 at h
  refine r_iadd (pc := 65) hv 36 rfl  ?_
  refine r_istore_n (pc := 66) (lo' := [some (aR 49), some (aI l1), some (aI l2), some (aI (s1 + s0)), some (aI l4), some (aI l5)]) hv 37 rfl rfl ?_
  refine r_iload (pc := 67) hv 38 rfl rfl ?_
  refine r_iload (pc := 69) hv 39 rfl rfl ?_
  refine r_iload_n (pc := 71) hv 40 rfl rfl ?_
  refine r_icmp_ge (pc := 72) hv 41 rfl (fun c => ?_) (fun c => ?_)
  · replace h := h.1 c
    refine r_iconst (pc := 79) hv 44 rfl  ?_
    refine r_aload_n (pc := 80) hv 45 rfl rfl ?_
    refine r_getR (pc := 81) (b := 57) hv 46 rfl rfl rfl rfl ?_
    refine r_iload (pc := 84) hv 47 rfl rfl ?_
    refine r_iaload (pc := 86) (N := 40) hv 48 rfl rfl rfl (by decide) h.1 ?_
    replace h := h.2
    refine r_ishl (pc := 87) hv 49 rfl  ?_
    refine r_iconst (pc := 88) hv 50 rfl  ?_
    refine r_ixor (pc := 89) hv 51 rfl  ?_
    refine r_iand (pc := 90) hv 52 rfl  ?_
    refine r_istore (pc := 91) (lo' := [some (aR 49), some (aI l1), some (aI l2), some (aI (s1 + s0)), some (aI (l4 &&& ((1 <<< ((σ.1 57 (l5 : Int32).toNatClampNeg) &&& 31)) ^^^ (-1)))), some (aI l5)]) hv 53 rfl rfl ?_
    refine r_iinc (pc := 93) (lo' := [some (aR 49), some (aI l1), some (aI l2), some (aI (s1 + s0)), some (aI (l4 &&& ((1 <<< ((σ.1 57 (l5 : Int32).toNatClampNeg) &&& 31)) ^^^ (-1)))), some (aI (l5 + 1))]) hv 54 rfl rfl rfl ?_
    refine r_goto (pc := 96) hv 55 rfl  ?_
    exact h
  · replace h := h.2 c
    refine r_iconst (pc := 75) hv 42 rfl  ?_
    refine r_goto (pc := 76) hv 43 rfl  ?_
    refine r_iand (pc := 90) hv 52 rfl  ?_
    refine r_istore (pc := 91) (lo' := [some (aR 49), some (aI l1), some (aI l2), some (aI (s1 + s0)), some (aI (l4 &&& (-1))), some (aI l5)]) hv 53 rfl rfl ?_
    refine r_iinc (pc := 93) (lo' := [some (aR 49), some (aI l1), some (aI l2), some (aI (s1 + s0)), some (aI (l4 &&& (-1))), some (aI (l5 + 1))]) hv 54 rfl rfl rfl ?_
    refine r_goto (pc := 96) hv 55 rfl  ?_
    exact h
def vc_X9_stepped_38 (S : Sp) (Φ : Rs) (v : Kt) (l1 : Int32) (l2 : Int32) (l3 : Int32) (l4 : Int32) (l5 : Int32) (σ : St) : Prop := ((σ.1 49 12 : Int32) ≤ l5 → ((¬ (l1 : Int32) = 0 → ((¬ (l1 : Int32) = 1 → ((¬ (l1 : Int32) = 2 → (Φ [aI l4] σ)) ∧ ((l1 : Int32) = 2 → ((¬ (l2 : Int32) = 0 → (vp_in (l2 - 1) 40 ∧ (Φ [aI (σ.1 55 (l2 - 1 : Int32).toNatClampNeg)] σ))) ∧ ((l2 : Int32) = 0 → (Φ [aI (-1)] σ)))))) ∧ ((l1 : Int32) = 1 → (Φ [aI l3] σ)))) ∧ ((l1 : Int32) = 0 → (Φ [aI l2] σ)))) ∧ (¬ ((σ.1 49 12 : Int32) ≤ l5) → (((l2 : Int32) ≤ l5 → (vc_X9_stepped_65 S Φ v  l1 l2 l3 l4 l5 0 l3 σ)) ∧ (¬ ((l2 : Int32) ≤ l5) → (vp_in l5 40 ∧ (vc_X9_stepped_65 S Φ v  l1 l2 l3 l4 l5 (σ.1 56 (l5 : Int32).toNatClampNeg) l3 σ)))))
theorem w_X9_stepped_38 {S : Sp} (hS : Sys S) {Φ : Rs} {v : Kt} (hv : Cl S Φ k_X9_stepped v) (hw : Wk v) (l1 : Int32) (l2 : Int32) (l3 : Int32) (l4 : Int32) (l5 : Int32) (σ : St) (h : vc_X9_stepped_38 S Φ v l1 l2 l3 l4 l5 σ) : v 38 [some (aR 49), some (aI l1), some (aI l2), some (aI l3), some (aI l4), some (aI l5)] [] σ := by
  unfold vc_X9_stepped_38 at h
  refine r_iload (pc := 38) hv 22 rfl rfl ?_
  refine r_aload_n (pc := 40) hv 23 rfl rfl ?_
  refine r_getI (pc := 41) hv 24 rfl rfl rfl ?_
  refine r_icmp_ge (pc := 44) hv 25 rfl (fun c => ?_) (fun c => ?_)
  · replace h := h.1 c
    refine r_iload_n (pc := 99) hv 56 rfl rfl ?_
    refine r_if_ne (pc := 100) hv 57 rfl (fun c => ?_) (fun c => ?_)
    · replace h := h.1 c
      refine r_iload_n (pc := 107) hv 60 rfl rfl ?_
      refine r_iconst (pc := 108) hv 61 rfl  ?_
      refine r_icmp_ne (pc := 109) hv 62 rfl (fun c => ?_) (fun c => ?_)
      · replace h := h.1 c
        refine r_iload_n (pc := 116) hv 65 rfl rfl ?_
        refine r_iconst (pc := 117) hv 66 rfl  ?_
        refine r_icmp_ne (pc := 118) hv 67 rfl (fun c => ?_) (fun c => ?_)
        · replace h := h.1 c
          refine r_iload (pc := 140) hv 79 rfl rfl ?_
          exact r_ireturn (pc := 142) hv 80 rfl rfl h
        · replace h := h.2 c
          refine r_iload_n (pc := 121) hv 68 rfl rfl ?_
          refine r_if_ne (pc := 122) hv 69 rfl (fun c => ?_) (fun c => ?_)
          · replace h := h.1 c
            refine r_aload_n (pc := 129) hv 72 rfl rfl ?_
            refine r_getR (pc := 130) (b := 55) hv 73 rfl rfl rfl rfl ?_
            refine r_iload_n (pc := 133) hv 74 rfl rfl ?_
            refine r_iconst (pc := 134) hv 75 rfl  ?_
            refine r_isub (pc := 135) hv 76 rfl  ?_
            refine r_iaload (pc := 136) (N := 40) hv 77 rfl rfl rfl (by decide) h.1 ?_
            replace h := h.2
            refine r_goto (pc := 137) hv 78 rfl  ?_
            exact r_ireturn (pc := 142) hv 80 rfl rfl h
          · replace h := h.2 c
            refine r_iconst (pc := 125) hv 70 rfl  ?_
            refine r_goto (pc := 126) hv 71 rfl  ?_
            exact r_ireturn (pc := 142) hv 80 rfl rfl h
      · replace h := h.2 c
        refine r_iload_n (pc := 112) hv 63 rfl rfl ?_
        refine r_goto (pc := 113) hv 64 rfl  ?_
        exact r_ireturn (pc := 142) hv 80 rfl rfl h
    · replace h := h.2 c
      refine r_iload_n (pc := 103) hv 58 rfl rfl ?_
      refine r_goto (pc := 104) hv 59 rfl  ?_
      exact r_ireturn (pc := 142) hv 80 rfl rfl h
  · replace h := h.2 c
    refine r_iload_n (pc := 47) hv 26 rfl rfl ?_
    refine r_iload (pc := 48) hv 27 rfl rfl ?_
    refine r_iload_n (pc := 50) hv 28 rfl rfl ?_
    refine r_icmp_ge (pc := 51) hv 29 rfl (fun c => ?_) (fun c => ?_)
    · replace h := h.1 c
      refine r_iconst (pc := 64) hv 35 rfl  ?_
      exact (w_X9_stepped_65 hS hv hw   l1 l2 l3 l4 l5 0 l3  σ h)
    · replace h := h.2 c
      refine r_aload_n (pc := 54) hv 30 rfl rfl ?_
      refine r_getR (pc := 55) (b := 56) hv 31 rfl rfl rfl rfl ?_
      refine r_iload (pc := 58) hv 32 rfl rfl ?_
      refine r_iaload (pc := 60) (N := 40) hv 33 rfl rfl rfl (by decide) h.1 ?_
      replace h := h.2
      refine r_goto (pc := 61) hv 34 rfl  ?_
      exact (w_X9_stepped_65 hS hv hw   l1 l2 l3 l4 l5 (σ.1 56 (l5 : Int32).toNatClampNeg) l3  σ h)
def vc_X9_stepped_0 (S : Sp) (Φ : Rs) (v : Kt) (l1 : Int32) (σ : St) : Prop := (¬ (b2 ((0 : Int64) ≤ ((l1 : Int32).toInt64) ∧ ((l1 : Int32).toInt64 : Int64) ≤ 3) : Int32) = 0 → (S 186 [aR 49] σ (fun r σ1 => r = [] ∧ (vp_in 285 286 ∧ (v 38 [some (aR 49), some (aI l1), some (aI (σ1.1 50 (285 : Int32).toNatClampNeg)), some (aI 0), some (aI (σ1.1 49 7)), some (aI 0)] [] σ1))))) ∧ ((b2 ((0 : Int64) ≤ ((l1 : Int32).toInt64) ∧ ((l1 : Int32).toInt64 : Int64) ≤ 3) : Int32) = 0 → (Φ [aI (-1)] σ))
theorem w_X9_stepped_0 {S : Sp} (hS : Sys S) {Φ : Rs} {v : Kt} (hv : Cl S Φ k_X9_stepped v) (hw : Wk v) (l1 : Int32) (σ : St) (h : vc_X9_stepped_0 S Φ v l1 σ) : v 0 [some (aR 49), some (aI l1), none, none, none, none] [] σ := by
  unfold vc_X9_stepped_0 at h
  refine r_iload_n (pc := 0) hv 0 rfl rfl ?_
  refine r_i2l (pc := 1) hv 1 rfl  ?_
  refine r_lconst (pc := 2) hv 2 rfl  ?_
  refine r_ldc2_w (pc := 3) hv 3 rfl  ?_
  refine r_callS (pc := 6) (l := [aL 3, aL 0, aL ((l1 : Int32).toInt64)]) (av := [aL ((l1 : Int32).toInt64), aL 0, aL 3]) (t := []) hv 4 rfl (Or.inl rfl) rfl rfl rfl trivial (t_X9_in hS ?_)
  show v 9 [some (aR 49), some (aI l1), none, none, none, none] [aI (b2 ((0 : Int64) ≤ ((l1 : Int32).toInt64) ∧ ((l1 : Int32).toInt64 : Int64) ≤ 3))] σ
  refine r_if_ne (pc := 9) hv 5 rfl (fun c => ?_) (fun c => ?_)
  · replace h := h.1 c
    refine r_aload_n (pc := 14) hv 8 rfl rfl ?_
    refine r_callV (pc := 15) (l := []) (av := []) (a := 49) (t := []) hv 9 rfl rfl rfl rfl (rcv_o (by decide) rfl) trivial (hS.1 _ _ _ _ _ (fun r σ1 h => ?_) h)
    obtain ⟨rfl, h⟩ := h
    show v 18 [some (aR 49), some (aI l1), none, none, none, none] [] σ1
    refine r_aload_n (pc := 18) hv 10 rfl rfl ?_
    refine r_getR (pc := 19) (b := 50) hv 11 rfl rfl rfl rfl ?_
    refine r_sipush (pc := 22) hv 12 rfl  ?_
    refine r_iaload (pc := 25) (N := 286) hv 13 rfl rfl rfl (by decide) h.1 ?_
    replace h := h.2
    refine r_istore_n (pc := 26) (lo' := [some (aR 49), some (aI l1), some (aI (σ1.1 50 (285 : Int32).toNatClampNeg)), none, none, none]) hv 14 rfl rfl ?_
    refine r_iconst (pc := 27) hv 15 rfl  ?_
    refine r_istore_n (pc := 28) (lo' := [some (aR 49), some (aI l1), some (aI (σ1.1 50 (285 : Int32).toNatClampNeg)), some (aI 0), none, none]) hv 16 rfl rfl ?_
    refine r_aload_n (pc := 29) hv 17 rfl rfl ?_
    refine r_getI (pc := 30) hv 18 rfl rfl rfl ?_
    refine r_istore (pc := 33) (lo' := [some (aR 49), some (aI l1), some (aI (σ1.1 50 (285 : Int32).toNatClampNeg)), some (aI 0), some (aI (σ1.1 49 7)), none]) hv 19 rfl rfl ?_
    refine r_iconst (pc := 35) hv 20 rfl  ?_
    refine r_istore (pc := 36) (lo' := [some (aR 49), some (aI l1), some (aI (σ1.1 50 (285 : Int32).toNatClampNeg)), some (aI 0), some (aI (σ1.1 49 7)), some (aI 0)]) hv 21 rfl rfl ?_
    exact h
  · replace h := h.2 c
    refine r_iconst (pc := 12) hv 6 rfl  ?_
    exact r_ireturn (pc := 13) hv 7 rfl rfl h
theorem m_X9_stepped {S : Sp} (hS : Sys S) {l1 : Int32} {σ : St} {Φ : Rs} (h : ∀ v : Kt, Cl S Φ k_X9_stepped v → Wk v → vc_X9_stepped_0 S Φ v l1 σ) : S 225 [aR 49, aI l1] σ Φ :=
  hS.2 225 M_X9_stepped k_X9_stepped _ _ _ mkt_X9_stepped (Nat.le_of_ble_eq_true rfl) (fun v hv hw => w_X9_stepped_0 hS hv hw   l1 σ (h v hv hw))
def vc_X9_list_35 (S : Sp) (Φ : Rs) (v : Kt) (l1 : Int32) (l2 : Int32) (l3 : Int32) (σ : St) : Prop := ((40 : Int32) ≤ l3 → (Φ [aI 1] σ)) ∧ (¬ ((40 : Int32) ≤ l3) → (vp_in ((40 * l1) + l3) 160 ∧ (∀ σ1 : St, σ1 = upJ σ 64 ((40 * l1) + l3 : Int32).toNatClampNeg 0 → (v 35 [some (aR 49), some (aI l1), some (aI l2), some (aI (l3 + 1))] [] σ1))))
theorem w_X9_list_35 {S : Sp} (hS : Sys S) {Φ : Rs} {v : Kt} (hv : Cl S Φ k_X9_list v) (hw : Wk v) (l1 : Int32) (l2 : Int32) (l3 : Int32) (σ : St) (h : vc_X9_list_35 S Φ v l1 l2 l3 σ) : v 35 [some (aR 49), some (aI l1), some (aI l2), some (aI l3)] [] σ := by
  unfold vc_X9_list_35 at h
  refine r_iload_n (pc := 35) hv 22 rfl rfl ?_
  refine r_bipush (pc := 36) hv 23 rfl  ?_
  refine r_icmp_ge (pc := 38) hv 24 rfl (fun c => ?_) (fun c => ?_)
  · replace h := h.1 c
    refine r_iconst (pc := 59) hv 36 rfl  ?_
    exact r_ireturn (pc := 60) hv 37 rfl rfl h
  · replace h := h.2 c
    refine r_aload_n (pc := 41) hv 25 rfl rfl ?_
    refine r_getR (pc := 42) (b := 64) hv 26 rfl rfl rfl rfl ?_
    refine r_bipush (pc := 45) hv 27 rfl  ?_
    refine r_iload_n (pc := 47) hv 28 rfl rfl ?_
    refine r_imul (pc := 48) hv 29 rfl  ?_
    refine r_iload_n (pc := 49) hv 30 rfl rfl ?_
    refine r_iadd (pc := 50) hv 31 rfl  ?_
    refine r_lconst (pc := 51) hv 32 rfl  ?_
    refine r_lastore (pc := 52) (N := 160) hv 33 rfl rfl rfl h.1 ?_
    replace h := h.2
    obtain ⟨σ1, e_σ1⟩ : ∃ y : St, y = upJ σ 64 ((40 * l1) + l3 : Int32).toNatClampNeg 0 := ⟨_, rfl⟩
    rw [← e_σ1]
    replace h := h σ1 e_σ1
    refine r_iinc (pc := 53) (lo' := [some (aR 49), some (aI l1), some (aI l2), some (aI (l3 + 1))]) hv 34 rfl rfl rfl ?_
    refine r_goto (pc := 56) hv 35 rfl  ?_
    exact h
def vc_X9_list_0 (S : Sp) (Φ : Rs) (v : Kt) (l1 : Int32) (l2 : Int32) (σ : St) : Prop := (¬ (b2 ((0 : Int64) ≤ (l1 : Int32).toInt64 ∧ ((l1 : Int32).toInt64 : Int64) ≤ 3) : Int32) = 0 → (((l2 : Int32) ≤ 40 → (((-1 : Int32) ≤ l2 → (vp_in l1 4 ∧ (∀ σ1 : St, σ1 = upI σ 65 (l1 : Int32).toNatClampNeg l2 → (v 35 [some (aR 49), some (aI l1), some (aI l2), some (aI 0)] [] σ1)))) ∧ (¬ ((-1 : Int32) ≤ l2) → (Φ [aI (-14)] σ)))) ∧ (¬ ((l2 : Int32) ≤ 40) → (Φ [aI (-2)] σ)))) ∧ ((b2 ((0 : Int64) ≤ (l1 : Int32).toInt64 ∧ ((l1 : Int32).toInt64 : Int64) ≤ 3) : Int32) = 0 → (Φ [aI (-1)] σ))
theorem w_X9_list_0 {S : Sp} (hS : Sys S) {Φ : Rs} {v : Kt} (hv : Cl S Φ k_X9_list v) (hw : Wk v) (l1 : Int32) (l2 : Int32) (σ : St) (h : vc_X9_list_0 S Φ v l1 l2 σ) : v 0 [some (aR 49), some (aI l1), some (aI l2), none] [] σ := by
  unfold vc_X9_list_0 at h
  refine r_iload_n (pc := 0) hv 0 rfl rfl ?_
  refine r_callS (pc := 1) (l := [aI l1]) (av := [aI l1]) (t := []) hv 1 rfl (Or.inl rfl) rfl rfl rfl trivial (t_X9_isList hS ?_)
  show v 4 [some (aR 49), some (aI l1), some (aI l2), none] [aI (b2 ((0 : Int64) ≤ (l1 : Int32).toInt64 ∧ ((l1 : Int32).toInt64 : Int64) ≤ 3))] σ
  refine r_if_ne (pc := 4) hv 2 rfl (fun c => ?_) (fun c => ?_)
  · replace h := h.1 c
    refine r_iload_n (pc := 9) hv 5 rfl rfl ?_
    refine r_bipush (pc := 10) hv 6 rfl  ?_
    refine r_icmp_le (pc := 12) hv 7 rfl (fun c => ?_) (fun c => ?_)
    · replace h := h.1 c
      refine r_iload_n (pc := 18) hv 10 rfl rfl ?_
      refine r_iconst (pc := 19) hv 11 rfl  ?_
      refine r_icmp_ge (pc := 20) hv 12 rfl (fun c => ?_) (fun c => ?_)
      · replace h := h.1 c
        refine r_aload_n (pc := 26) hv 15 rfl rfl ?_
        refine r_getR (pc := 27) (b := 65) hv 16 rfl rfl rfl rfl ?_
        refine r_iload_n (pc := 30) hv 17 rfl rfl ?_
        refine r_iload_n (pc := 31) hv 18 rfl rfl ?_
        refine r_iastore (pc := 32) (N := 4) hv 19 rfl rfl rfl h.1 ?_
        replace h := h.2
        obtain ⟨σ1, e_σ1⟩ : ∃ y : St, y = upI σ 65 (l1 : Int32).toNatClampNeg l2 := ⟨_, rfl⟩
        rw [← e_σ1]
        replace h := h σ1 e_σ1
        refine r_iconst (pc := 33) hv 20 rfl  ?_
        refine r_istore_n (pc := 34) (lo' := [some (aR 49), some (aI l1), some (aI l2), some (aI 0)]) hv 21 rfl rfl ?_
        exact h
      · replace h := h.2 c
        refine r_bipush (pc := 23) hv 13 rfl  ?_
        exact r_ireturn (pc := 25) hv 14 rfl rfl h
    · replace h := h.2 c
      refine r_bipush (pc := 15) hv 8 rfl  ?_
      exact r_ireturn (pc := 17) hv 9 rfl rfl h
  · replace h := h.2 c
    refine r_iconst (pc := 7) hv 3 rfl  ?_
    exact r_ireturn (pc := 8) hv 4 rfl rfl h
theorem m_X9_list {S : Sp} (hS : Sys S) {l1 : Int32} {l2 : Int32} {σ : St} {Φ : Rs} (h : ∀ v : Kt, Cl S Φ k_X9_list v → Wk v → vc_X9_list_0 S Φ v l1 l2 σ) : S 227 [aR 49, aI l1, aI l2] σ Φ :=
  hS.2 227 M_X9_list k_X9_list _ _ _ mkt_X9_list (Nat.le_of_ble_eq_true rfl) (fun v hv hw => w_X9_list_0 hS hv hw   l1 l2 σ (h v hv hw))
def vc_X9_put_0 (S : Sp) (Φ : Rs) (v : Kt) (l1 : Int32) (l2 : Int32) (l3 : Int64) (σ : St) : Prop := (¬ (b2 ((0 : Int64) ≤ (l1 : Int32).toInt64 ∧ ((l1 : Int32).toInt64 : Int64) ≤ 3) : Int32) = 0 → (vp_in l1 4 ∧ (((0 : Int32) ≤ (σ.1 65 (l1 : Int32).toNatClampNeg) → (vp_in l1 4 ∧ ((¬ (b2 ((0 : Int64) ≤ ((l2 : Int32).toInt64) ∧ ((l2 : Int32).toInt64 : Int64) ≤ (((σ.1 65 (l1 : Int32).toNatClampNeg) - 1 : Int32).toInt64)) : Int32) = 0 → (vp_in ((40 * l1) + l2) 160 ∧ (∀ σ1 : St, σ1 = upJ σ 64 ((40 * l1) + l2 : Int32).toNatClampNeg l3 → (Φ [aI 1] σ1)))) ∧ ((b2 ((0 : Int64) ≤ ((l2 : Int32).toInt64) ∧ ((l2 : Int32).toInt64 : Int64) ≤ (((σ.1 65 (l1 : Int32).toNatClampNeg) - 1 : Int32).toInt64)) : Int32) = 0 → (Φ [aI (-12)] σ))))) ∧ (¬ ((0 : Int32) ≤ (σ.1 65 (l1 : Int32).toNatClampNeg)) → (Φ [aI (-11)] σ))))) ∧ ((b2 ((0 : Int64) ≤ (l1 : Int32).toInt64 ∧ ((l1 : Int32).toInt64 : Int64) ≤ 3) : Int32) = 0 → (Φ [aI (-1)] σ))
theorem w_X9_put_0 {S : Sp} (hS : Sys S) {Φ : Rs} {v : Kt} (hv : Cl S Φ k_X9_put v) (hw : Wk v) (l1 : Int32) (l2 : Int32) (l3 : Int64) (σ : St) (h : vc_X9_put_0 S Φ v l1 l2 l3 σ) : v 0 [some (aR 49), some (aI l1), some (aI l2), some (aL l3), none] [] σ := by
  unfold vc_X9_put_0 at h
  refine r_iload_n (pc := 0) hv 0 rfl rfl ?_
  refine r_callS (pc := 1) (l := [aI l1]) (av := [aI l1]) (t := []) hv 1 rfl (Or.inl rfl) rfl rfl rfl trivial (t_X9_isList hS ?_)
  show v 4 [some (aR 49), some (aI l1), some (aI l2), some (aL l3), none] [aI (b2 ((0 : Int64) ≤ (l1 : Int32).toInt64 ∧ ((l1 : Int32).toInt64 : Int64) ≤ 3))] σ
  refine r_if_ne (pc := 4) hv 2 rfl (fun c => ?_) (fun c => ?_)
  · replace h := h.1 c
    refine r_aload_n (pc := 9) hv 5 rfl rfl ?_
    refine r_getR (pc := 10) (b := 65) hv 6 rfl rfl rfl rfl ?_
    refine r_iload_n (pc := 13) hv 7 rfl rfl ?_
    refine r_iaload (pc := 14) (N := 4) hv 8 rfl rfl rfl (by decide) h.1 ?_
    replace h := h.2
    refine r_if_ge (pc := 15) hv 9 rfl (fun c => ?_) (fun c => ?_)
    · replace h := h.1 c
      refine r_iload_n (pc := 21) hv 12 rfl rfl ?_
      refine r_i2l (pc := 22) hv 13 rfl  ?_
      refine r_lconst (pc := 23) hv 14 rfl  ?_
      refine r_aload_n (pc := 24) hv 15 rfl rfl ?_
      refine r_getR (pc := 25) (b := 65) hv 16 rfl rfl rfl rfl ?_
      refine r_iload_n (pc := 28) hv 17 rfl rfl ?_
      refine r_iaload (pc := 29) (N := 4) hv 18 rfl rfl rfl (by decide) h.1 ?_
      replace h := h.2
      refine r_iconst (pc := 30) hv 19 rfl  ?_
      refine r_isub (pc := 31) hv 20 rfl  ?_
      refine r_i2l (pc := 32) hv 21 rfl  ?_
      refine r_callS (pc := 33) (l := [aL (((σ.1 65 (l1 : Int32).toNatClampNeg) - 1 : Int32).toInt64), aL 0, aL ((l2 : Int32).toInt64)]) (av := [aL ((l2 : Int32).toInt64), aL 0, aL (((σ.1 65 (l1 : Int32).toNatClampNeg) - 1 : Int32).toInt64)]) (t := []) hv 22 rfl (Or.inl rfl) rfl rfl rfl trivial (t_X9_in hS ?_)
      show v 36 [some (aR 49), some (aI l1), some (aI l2), some (aL l3), none] [aI (b2 ((0 : Int64) ≤ ((l2 : Int32).toInt64) ∧ ((l2 : Int32).toInt64 : Int64) ≤ (((σ.1 65 (l1 : Int32).toNatClampNeg) - 1 : Int32).toInt64)))] σ
      refine r_if_ne (pc := 36) hv 23 rfl (fun c => ?_) (fun c => ?_)
      · replace h := h.1 c
        refine r_aload_n (pc := 42) hv 26 rfl rfl ?_
        refine r_getR (pc := 43) (b := 64) hv 27 rfl rfl rfl rfl ?_
        refine r_bipush (pc := 46) hv 28 rfl  ?_
        refine r_iload_n (pc := 48) hv 29 rfl rfl ?_
        refine r_imul (pc := 49) hv 30 rfl  ?_
        refine r_iload_n (pc := 50) hv 31 rfl rfl ?_
        refine r_iadd (pc := 51) hv 32 rfl  ?_
        refine r_lload_n (pc := 52) hv 33 rfl rfl ?_
        refine r_lastore (pc := 53) (N := 160) hv 34 rfl rfl rfl h.1 ?_
        replace h := h.2
        obtain ⟨σ1, e_σ1⟩ : ∃ y : St, y = upJ σ 64 ((40 * l1) + l2 : Int32).toNatClampNeg l3 := ⟨_, rfl⟩
        rw [← e_σ1]
        replace h := h σ1 e_σ1
        refine r_iconst (pc := 54) hv 35 rfl  ?_
        exact r_ireturn (pc := 55) hv 36 rfl rfl h
      · replace h := h.2 c
        refine r_bipush (pc := 39) hv 24 rfl  ?_
        exact r_ireturn (pc := 41) hv 25 rfl rfl h
    · replace h := h.2 c
      refine r_bipush (pc := 18) hv 10 rfl  ?_
      exact r_ireturn (pc := 20) hv 11 rfl rfl h
  · replace h := h.2 c
    refine r_iconst (pc := 7) hv 3 rfl  ?_
    exact r_ireturn (pc := 8) hv 4 rfl rfl h
theorem m_X9_put {S : Sp} (hS : Sys S) {l1 : Int32} {l2 : Int32} {l3 : Int64} {σ : St} {Φ : Rs} (h : ∀ v : Kt, Cl S Φ k_X9_put v → Wk v → vc_X9_put_0 S Φ v l1 l2 l3 σ) : S 228 [aR 49, aI l1, aI l2, aL l3] σ Φ :=
  hS.2 228 M_X9_put k_X9_put _ _ _ mkt_X9_put (Nat.le_of_ble_eq_true rfl) (fun v hv hw => w_X9_put_0 hS hv hw   l1 l2 l3 σ (h v hv hw))
