def vc_X9_copies_2 (S : Sp) (Φ : Rs) (v : Kt) (a : Nat) (d : Nat) (l2 : Int32) (σ : St) : Prop := ((286 : Int32) ≤ l2 → (Φ [] σ)) ∧ (¬ ((286 : Int32) ≤ l2) → (vp_in l2 286 ∧ (vp_in l2 286 ∧ (∀ σ1 : St, σ1 = upI σ d (l2 : Int32).toNatClampNeg (σ.1 a (l2 : Int32).toNatClampNeg) → (v 2 [some (aR a), some (aR d), some (aI (l2 + 1))] [] σ1)))))
theorem w_X9_copies_2 {S : Sp} (hS : Sys S) {Φ : Rs} {v : Kt} (hv : Cl S Φ k_X9_copies v) (hw : Wk v) (a : Nat) (d : Nat) (h_a : isArr 1 a 286) (h_d : isArr 1 d 286) (l2 : Int32) (σ : St) (h : vc_X9_copies_2 S Φ v a d l2 σ) : v 2 [some (aR a), some (aR d), some (aI l2)] [] σ := by
  unfold vc_X9_copies_2 at h
  refine r_iload_n (pc := 2) hv 2 rfl rfl ?_
  refine r_sipush (pc := 3) hv 3 rfl  ?_
  refine r_icmp_ge (pc := 6) hv 4 rfl (fun c => ?_) (fun c => ?_)
  · replace h := h.1 c
    exact r_return (pc := 21) hv 13 rfl h
  · replace h := h.2 c
    refine r_aload_n (pc := 9) hv 5 rfl rfl ?_
    refine r_iload_n (pc := 10) hv 6 rfl rfl ?_
    refine r_aload_n (pc := 11) hv 7 rfl rfl ?_
    refine r_iload_n (pc := 12) hv 8 rfl rfl ?_
    refine r_iaload (pc := 13) (N := 286) hv 9 rfl h_a.1 h_a.2.1 h_a.2.2 h.1 ?_
    replace h := h.2
    refine r_iastore (pc := 14) (N := 286) hv 10 rfl h_d.1 h_d.2.1 h.1 ?_
    replace h := h.2
    obtain ⟨σ1, e_σ1⟩ : ∃ y : St, y = upI σ d (l2 : Int32).toNatClampNeg (σ.1 a (l2 : Int32).toNatClampNeg) := ⟨_, rfl⟩
    rw [← e_σ1]
    replace h := h σ1 e_σ1
    refine r_iinc (pc := 15) (lo' := [some (aR a), some (aR d), some (aI (l2 + 1))]) hv 11 rfl rfl rfl ?_
    refine r_goto (pc := 18) hv 12 rfl  ?_
    exact h
def vc_X9_copies_0 (S : Sp) (Φ : Rs) (v : Kt) (a : Nat) (d : Nat) (σ : St) : Prop := v 2 [some (aR a), some (aR d), some (aI 0)] [] σ
theorem w_X9_copies_0 {S : Sp} (hS : Sys S) {Φ : Rs} {v : Kt} (hv : Cl S Φ k_X9_copies v) (hw : Wk v) (a : Nat) (d : Nat) (h_a : isArr 1 a 286) (h_d : isArr 1 d 286) (σ : St) (h : vc_X9_copies_0 S Φ v a d σ) : v 0 [some (aR a), some (aR d), none] [] σ := by
  unfold vc_X9_copies_0 at h
  refine r_iconst (pc := 0) hv 0 rfl  ?_
  refine r_istore_n (pc := 1) (lo' := [some (aR a), some (aR d), some (aI 0)]) hv 1 rfl rfl ?_
  exact h
theorem m_X9_copies {S : Sp} (hS : Sys S) {a : Nat} (h_a : isArr 1 a 286) {d : Nat} (h_d : isArr 1 d 286) {σ : St} {Φ : Rs} (h : ∀ v : Kt, Cl S Φ k_X9_copies v → Wk v → vc_X9_copies_0 S Φ v a d σ) : S 146 [aR a, aR d] σ Φ :=
  hS.2 146 M_X9_copies k_X9_copies _ _ _ mkt_X9_copies (Nat.le_of_ble_eq_true rfl) (fun v hv hw => w_X9_copies_0 hS hv hw a d h_a h_d  σ (h v hv hw))
def vc_X9_firstLoad_0 (S : Sp) (Φ : Rs) (v : Kt) (l1 : Int32) (σ : St) : Prop := vp_in (8 * l1 + 3) 286 ∧ (vp_in (8 * l1 + 2) 286 ∧ (((σ.1 50 (8 * l1 + 2 : Int32).toNatClampNeg : Int32) = 0 → (Φ [aI (σ.1 50 (8 * l1 + 3 : Int32).toNatClampNeg)] σ)) ∧ (¬ ((σ.1 50 (8 * l1 + 2 : Int32).toNatClampNeg : Int32) = 0) → (((σ.1 50 (8 * l1 + 2 : Int32).toNatClampNeg : Int32) = 1 → (Φ [aI (((σ.1 50 (8 * l1 + 3 : Int32).toNatClampNeg) / 2) + 1)] σ)) ∧ (¬ ((σ.1 50 (8 * l1 + 2 : Int32).toNatClampNeg : Int32) = 1) → (((σ.1 50 (8 * l1 + 2 : Int32).toNatClampNeg : Int32) = 2 → (Φ [aI (((σ.1 50 (8 * l1 + 3 : Int32).toNatClampNeg) + 1) / 2)] σ)) ∧ (¬ ((σ.1 50 (8 * l1 + 2 : Int32).toNatClampNeg : Int32) = 2) → (((σ.1 50 (8 * l1 + 2 : Int32).toNatClampNeg : Int32) = 3 → (Φ [aI (2 * (((σ.1 50 (8 * l1 + 3 : Int32).toNatClampNeg) + 1) / 2))] σ)) ∧ (¬ ((σ.1 50 (8 * l1 + 2 : Int32).toNatClampNeg : Int32) = 3) → (((σ.1 50 (8 * l1 + 2 : Int32).toNatClampNeg : Int32) = 4 → (Φ [aI (if (((σ.1 50 (8 * l1 + 3 : Int32).toNatClampNeg) / 2) + 1 : Int32) ≤ 9 then (((σ.1 50 (8 * l1 + 3 : Int32).toNatClampNeg) / 2) + 1) else 9)] σ)) ∧ (¬ ((σ.1 50 (8 * l1 + 2 : Int32).toNatClampNeg : Int32) = 4) → (Φ [aI 0] σ))))))))))))
theorem w_X9_firstLoad_0 {S : Sp} (hS : Sys S) {Φ : Rs} {v : Kt} (hv : Cl S Φ k_X9_firstLoad v) (hw : Wk v) (l1 : Int32) (σ : St) (h : vc_X9_firstLoad_0 S Φ v l1 σ) : v 0 [some (aR 49), some (aI l1), none] [] σ := by
  unfold vc_X9_firstLoad_0 at h
  refine r_aload_n (pc := 0) hv 0 rfl rfl ?_
  refine r_iload_n (pc := 1) hv 1 rfl rfl ?_
  refine r_iconst (pc := 2) hv 2 rfl  ?_
  refine r_callV (pc := 3) (l := [aI 3, aI l1]) (av := [aI l1, aI 3]) (a := 49) (t := []) hv 3 rfl rfl rfl rfl (rcv_o (by decide) rfl) trivial (t_X9_its hS h.1 ?_)
  replace h := h.2
  show v 6 [some (aR 49), some (aI l1), none] [aI (σ.1 50 (8 * l1 + 3 : Int32).toNatClampNeg)] σ
  refine r_istore_n (pc := 6) (lo' := [some (aR 49), some (aI l1), some (aI (σ.1 50 (8 * l1 + 3 : Int32).toNatClampNeg))]) hv 4 rfl rfl ?_
  refine r_aload_n (pc := 7) hv 5 rfl rfl ?_
  refine r_iload_n (pc := 8) hv 6 rfl rfl ?_
  refine r_iconst (pc := 9) hv 7 rfl  ?_
  refine r_callV (pc := 10) (l := [aI 2, aI l1]) (av := [aI l1, aI 2]) (a := 49) (t := []) hv 8 rfl rfl rfl rfl (rcv_o (by decide) rfl) trivial (t_X9_its hS h.1 ?_)
  replace h := h.2
  show v 13 [some (aR 49), some (aI l1), some (aI (σ.1 50 (8 * l1 + 3 : Int32).toNatClampNeg))] [aI (σ.1 50 (8 * l1 + 2 : Int32).toNatClampNeg)] σ
  refine r_tab (pc := 13) hv 9 rfl ?_
  refine ⟨fun c => ?_, fun c => ?_⟩
  · replace h := h.1 c
    show v 48 [some (aR 49), some (aI l1), some (aI (σ.1 50 (8 * l1 + 3 : Int32).toNatClampNeg))] [] σ
    refine r_iload_n (pc := 48) hv 10 rfl rfl ?_
    exact r_ireturn (pc := 49) hv 11 rfl rfl h
  · replace h := h.2 c
    refine ⟨fun c => ?_, fun c => ?_⟩
    · replace h := h.1 c
      show v 50 [some (aR 49), some (aI l1), some (aI (σ.1 50 (8 * l1 + 3 : Int32).toNatClampNeg))] [] σ
      refine r_iload_n (pc := 50) hv 12 rfl rfl ?_
      refine r_iconst (pc := 51) hv 13 rfl  ?_
      refine r_idiv (pc := 52) hv 14 rfl (by decide) ?_
      refine r_iconst (pc := 53) hv 15 rfl  ?_
      refine r_iadd (pc := 54) hv 16 rfl  ?_
      exact r_ireturn (pc := 55) hv 17 rfl rfl h
    · replace h := h.2 c
      refine ⟨fun c => ?_, fun c => ?_⟩
      · replace h := h.1 c
        show v 56 [some (aR 49), some (aI l1), some (aI (σ.1 50 (8 * l1 + 3 : Int32).toNatClampNeg))] [] σ
        refine r_iload_n (pc := 56) hv 18 rfl rfl ?_
        refine r_iconst (pc := 57) hv 19 rfl  ?_
        refine r_iadd (pc := 58) hv 20 rfl  ?_
        refine r_iconst (pc := 59) hv 21 rfl  ?_
        refine r_idiv (pc := 60) hv 22 rfl (by decide) ?_
        exact r_ireturn (pc := 61) hv 23 rfl rfl h
      · replace h := h.2 c
        refine ⟨fun c => ?_, fun c => ?_⟩
        · replace h := h.1 c
          show v 62 [some (aR 49), some (aI l1), some (aI (σ.1 50 (8 * l1 + 3 : Int32).toNatClampNeg))] [] σ
          refine r_iconst (pc := 62) hv 24 rfl  ?_
          refine r_iload_n (pc := 63) hv 25 rfl rfl ?_
          refine r_iconst (pc := 64) hv 26 rfl  ?_
          refine r_iadd (pc := 65) hv 27 rfl  ?_
          refine r_iconst (pc := 66) hv 28 rfl  ?_
          refine r_idiv (pc := 67) hv 29 rfl (by decide) ?_
          refine r_imul (pc := 68) hv 30 rfl  ?_
          exact r_ireturn (pc := 69) hv 31 rfl rfl h
        · replace h := h.2 c
          refine ⟨fun c => ?_, fun c => ?_⟩
          · replace h := h.1 c
            show v 70 [some (aR 49), some (aI l1), some (aI (σ.1 50 (8 * l1 + 3 : Int32).toNatClampNeg))] [] σ
            refine r_bipush (pc := 70) hv 32 rfl  ?_
            refine r_iload_n (pc := 72) hv 33 rfl rfl ?_
            refine r_iconst (pc := 73) hv 34 rfl  ?_
            refine r_idiv (pc := 74) hv 35 rfl (by decide) ?_
            refine r_iconst (pc := 75) hv 36 rfl  ?_
            refine r_iadd (pc := 76) hv 37 rfl  ?_
            refine r_callS (pc := 77) (l := [aI (((σ.1 50 (8 * l1 + 3 : Int32).toNatClampNeg) / 2) + 1), aI 9]) (av := [aI 9, aI (((σ.1 50 (8 * l1 + 3 : Int32).toNatClampNeg) / 2) + 1)]) (t := []) hv 38 rfl (Or.inl rfl) rfl rfl rfl trivial (t_X9_less hS ?_)
            show v 80 [some (aR 49), some (aI l1), some (aI (σ.1 50 (8 * l1 + 3 : Int32).toNatClampNeg))] [aI (if (((σ.1 50 (8 * l1 + 3 : Int32).toNatClampNeg) / 2) + 1 : Int32) ≤ 9 then (((σ.1 50 (8 * l1 + 3 : Int32).toNatClampNeg) / 2) + 1) else 9)] σ
            exact r_ireturn (pc := 80) hv 39 rfl rfl h
          · replace h := h.2 c
            show v 81 [some (aR 49), some (aI l1), some (aI (σ.1 50 (8 * l1 + 3 : Int32).toNatClampNeg))] [] σ
            refine r_iconst (pc := 81) hv 40 rfl  ?_
            exact r_ireturn (pc := 82) hv 41 rfl rfl h
theorem m_X9_firstLoad {S : Sp} (hS : Sys S) {l1 : Int32} {σ : St} {Φ : Rs} (h : ∀ v : Kt, Cl S Φ k_X9_firstLoad v → Wk v → vc_X9_firstLoad_0 S Φ v l1 σ) : S 154 [aR 49, aI l1] σ Φ :=
  hS.2 154 M_X9_firstLoad k_X9_firstLoad _ _ _ mkt_X9_firstLoad (Nat.le_of_ble_eq_true rfl) (fun v hv hw => w_X9_firstLoad_0 hS hv hw   l1 σ (h v hv hw))
def vc_X9_secondLoad_0 (S : Sp) (Φ : Rs) (v : Kt) (l1 : Int32) (σ : St) : Prop := vp_in (8 * l1 + 2) 286 ∧ ((¬ (σ.1 50 (8 * l1 + 2 : Int32).toNatClampNeg : Int32) = 2 → ((¬ (σ.1 50 (8 * l1 + 2 : Int32).toNatClampNeg : Int32) = 3 → (Φ [aI 0] σ)) ∧ ((σ.1 50 (8 * l1 + 2 : Int32).toNatClampNeg : Int32) = 3 → (vp_in (8 * l1 + 3) 286 ∧ (Φ [aI (2 * ((σ.1 50 (8 * l1 + 3 : Int32).toNatClampNeg) / 2))] σ))))) ∧ ((σ.1 50 (8 * l1 + 2 : Int32).toNatClampNeg : Int32) = 2 → (vp_in (8 * l1 + 3) 286 ∧ (Φ [aI ((σ.1 50 (8 * l1 + 3 : Int32).toNatClampNeg) / 2)] σ))))
theorem w_X9_secondLoad_0 {S : Sp} (hS : Sys S) {Φ : Rs} {v : Kt} (hv : Cl S Φ k_X9_secondLoad v) (hw : Wk v) (l1 : Int32) (σ : St) (h : vc_X9_secondLoad_0 S Φ v l1 σ) : v 0 [some (aR 49), some (aI l1), none] [] σ := by
  unfold vc_X9_secondLoad_0 at h
  refine r_aload_n (pc := 0) hv 0 rfl rfl ?_
  refine r_iload_n (pc := 1) hv 1 rfl rfl ?_
  refine r_iconst (pc := 2) hv 2 rfl  ?_
  refine r_callV (pc := 3) (l := [aI 2, aI l1]) (av := [aI l1, aI 2]) (a := 49) (t := []) hv 3 rfl rfl rfl rfl (rcv_o (by decide) rfl) trivial (t_X9_its hS h.1 ?_)
  replace h := h.2
  show v 6 [some (aR 49), some (aI l1), none] [aI (σ.1 50 (8 * l1 + 2 : Int32).toNatClampNeg)] σ
  refine r_istore_n (pc := 6) (lo' := [some (aR 49), some (aI l1), some (aI (σ.1 50 (8 * l1 + 2 : Int32).toNatClampNeg))]) hv 4 rfl rfl ?_
  refine r_iload_n (pc := 7) hv 5 rfl rfl ?_
  refine r_iconst (pc := 8) hv 6 rfl  ?_
  refine r_icmp_ne (pc := 9) hv 7 rfl (fun c => ?_) (fun c => ?_)
  · replace h := h.1 c
    refine r_iload_n (pc := 23) hv 15 rfl rfl ?_
    refine r_iconst (pc := 24) hv 16 rfl  ?_
    refine r_icmp_ne (pc := 25) hv 17 rfl (fun c => ?_) (fun c => ?_)
    · replace h := h.1 c
      refine r_iconst (pc := 41) hv 27 rfl  ?_
      exact r_ireturn (pc := 42) hv 28 rfl rfl h
    · replace h := h.2 c
      refine r_iconst (pc := 28) hv 18 rfl  ?_
      refine r_aload_n (pc := 29) hv 19 rfl rfl ?_
      refine r_iload_n (pc := 30) hv 20 rfl rfl ?_
      refine r_iconst (pc := 31) hv 21 rfl  ?_
      refine r_callV (pc := 32) (l := [aI 3, aI l1]) (av := [aI l1, aI 3]) (a := 49) (t := [aI 2]) hv 22 rfl rfl rfl rfl (rcv_o (by decide) rfl) trivial (t_X9_its hS h.1 ?_)
      replace h := h.2
      show v 35 [some (aR 49), some (aI l1), some (aI (σ.1 50 (8 * l1 + 2 : Int32).toNatClampNeg))] [aI (σ.1 50 (8 * l1 + 3 : Int32).toNatClampNeg), aI 2] σ
      refine r_iconst (pc := 35) hv 23 rfl  ?_
      refine r_idiv (pc := 36) hv 24 rfl (by decide) ?_
      refine r_imul (pc := 37) hv 25 rfl  ?_
      refine r_goto (pc := 38) hv 26 rfl  ?_
      exact r_ireturn (pc := 42) hv 28 rfl rfl h
  · replace h := h.2 c
    refine r_aload_n (pc := 12) hv 8 rfl rfl ?_
    refine r_iload_n (pc := 13) hv 9 rfl rfl ?_
    refine r_iconst (pc := 14) hv 10 rfl  ?_
    refine r_callV (pc := 15) (l := [aI 3, aI l1]) (av := [aI l1, aI 3]) (a := 49) (t := []) hv 11 rfl rfl rfl rfl (rcv_o (by decide) rfl) trivial (t_X9_its hS h.1 ?_)
    replace h := h.2
    show v 18 [some (aR 49), some (aI l1), some (aI (σ.1 50 (8 * l1 + 2 : Int32).toNatClampNeg))] [aI (σ.1 50 (8 * l1 + 3 : Int32).toNatClampNeg)] σ
    refine r_iconst (pc := 18) hv 12 rfl  ?_
    refine r_idiv (pc := 19) hv 13 rfl (by decide) ?_
    refine r_goto (pc := 20) hv 14 rfl  ?_
    exact r_ireturn (pc := 42) hv 28 rfl rfl h
theorem m_X9_secondLoad {S : Sp} (hS : Sys S) {l1 : Int32} {σ : St} {Φ : Rs} (h : ∀ v : Kt, Cl S Φ k_X9_secondLoad v → Wk v → vc_X9_secondLoad_0 S Φ v l1 σ) : S 155 [aR 49, aI l1] σ Φ :=
  hS.2 155 M_X9_secondLoad k_X9_secondLoad _ _ _ mkt_X9_secondLoad (Nat.le_of_ble_eq_true rfl) (fun v hv hw => w_X9_secondLoad_0 hS hv hw   l1 σ (h v hv hw))
def vc_X9_loadsOf_0 (S : Sp) (Φ : Rs) (v : Kt) (l1 : Int32) (σ : St) : Prop := S 154 [aR 49, aI l1] σ (fun r σ1 => ∃ x2 : Int32, r = [aI x2] ∧ (S 155 [aR 49, aI l1] σ1 (fun r σ3 => ∃ x4 : Int32, r = [aI x4] ∧ (Φ [aI (x2 + x4)] σ3))))
theorem w_X9_loadsOf_0 {S : Sp} (hS : Sys S) {Φ : Rs} {v : Kt} (hv : Cl S Φ k_X9_loadsOf v) (hw : Wk v) (l1 : Int32) (σ : St) (h : vc_X9_loadsOf_0 S Φ v l1 σ) : v 0 [some (aR 49), some (aI l1)] [] σ := by
  unfold vc_X9_loadsOf_0 at h
  refine r_aload_n (pc := 0) hv 0 rfl rfl ?_
  refine r_iload_n (pc := 1) hv 1 rfl rfl ?_
  refine r_callV (pc := 2) (l := [aI l1]) (av := [aI l1]) (a := 49) (t := []) hv 2 rfl rfl rfl rfl (rcv_o (by decide) rfl) trivial (hS.1 _ _ _ _ _ (fun r σ1 h => ?_) h)
  obtain ⟨x2, rfl, h⟩ := h
  show v 5 [some (aR 49), some (aI l1)] [aI x2] σ1
  refine r_aload_n (pc := 5) hv 3 rfl rfl ?_
  refine r_iload_n (pc := 6) hv 4 rfl rfl ?_
  refine r_callV (pc := 7) (l := [aI l1]) (av := [aI l1]) (a := 49) (t := [aI x2]) hv 5 rfl rfl rfl rfl (rcv_o (by decide) rfl) trivial (hS.1 _ _ _ _ _ (fun r σ3 h => ?_) h)
  obtain ⟨x4, rfl, h⟩ := h
  show v 10 [some (aR 49), some (aI l1)] [aI x4, aI x2] σ3
  refine r_iadd (pc := 10) hv 6 rfl  ?_
  exact r_ireturn (pc := 11) hv 7 rfl rfl h
theorem m_X9_loadsOf {S : Sp} (hS : Sys S) {l1 : Int32} {σ : St} {Φ : Rs} (h : ∀ v : Kt, Cl S Φ k_X9_loadsOf v → Wk v → vc_X9_loadsOf_0 S Φ v l1 σ) : S 156 [aR 49, aI l1] σ Φ :=
  hS.2 156 M_X9_loadsOf k_X9_loadsOf _ _ _ mkt_X9_loadsOf (Nat.le_of_ble_eq_true rfl) (fun v hv hw => w_X9_loadsOf_0 hS hv hw   l1 σ (h v hv hw))
def vc_X9_rockOf_31 (S : Sp) (Φ : Rs) (v : Kt) (l1 : Int32) (l2 : Int32) (s0 : Int32) (σ : St) : Prop := vp_in (8 * l1 + 4) 286 ∧ (Φ [aI (s0 * (σ.1 50 (8 * l1 + 4 : Int32).toNatClampNeg))] σ)
theorem w_X9_rockOf_31 {S : Sp} (hS : Sys S) {Φ : Rs} {v : Kt} (hv : Cl S Φ k_X9_rockOf v) (hw : Wk v) (l1 : Int32) (l2 : Int32) (s0 : Int32) (σ : St) (h : vc_X9_rockOf_31 S Φ v l1 l2 s0 σ) : v 31 [some (aR 49), some (aI l1), some (aI l2)] [aI s0] σ := by
  unfold vc_X9_rockOf_31 at h
  refine r_aload_n (pc := 31) hv 19 rfl rfl ?_
  refine r_iload_n (pc := 32) hv 20 rfl rfl ?_
  refine r_iconst (pc := 33) hv 21 rfl  ?_
  refine r_callV (pc := 34) (l := [aI 4, aI l1]) (av := [aI l1, aI 4]) (a := 49) (t := [aI s0]) hv 22 rfl rfl rfl rfl (rcv_o (by decide) rfl) trivial (t_X9_its hS h.1 ?_)
  replace h := h.2
  show v 37 [some (aR 49), some (aI l1), some (aI l2)] [aI (σ.1 50 (8 * l1 + 4 : Int32).toNatClampNeg), aI s0] σ
  refine r_imul (pc := 37) hv 23 rfl  ?_
  exact r_ireturn (pc := 38) hv 24 rfl rfl h
def vc_X9_rockOf_26 (S : Sp) (Φ : Rs) (v : Kt) (l1 : Int32) (l2 : Int32) (σ : St) : Prop := vc_X9_rockOf_31 S Φ v  l1 l2 5 σ
theorem w_X9_rockOf_26 {S : Sp} (hS : Sys S) {Φ : Rs} {v : Kt} (hv : Cl S Φ k_X9_rockOf v) (hw : Wk v) (l1 : Int32) (l2 : Int32) (σ : St) (h : vc_X9_rockOf_26 S Φ v l1 l2 σ) : v 26 [some (aR 49), some (aI l1), some (aI l2)] [] σ := by
  unfold vc_X9_rockOf_26 at h
  refine r_iconst (pc := 26) hv 16 rfl  ?_
  refine r_goto (pc := 27) hv 17 rfl  ?_
  exact (w_X9_rockOf_31 hS hv hw   l1 l2 5  σ h)
def vc_X9_rockOf_0 (S : Sp) (Φ : Rs) (v : Kt) (l1 : Int32) (σ : St) : Prop := vp_in (8 * l1 + 2) 286 ∧ ((¬ (σ.1 50 (8 * l1 + 2 : Int32).toNatClampNeg : Int32) = 5 → (((σ.1 50 (8 * l1 + 2 : Int32).toNatClampNeg : Int32) = 2 → (vc_X9_rockOf_26 S Φ v  l1 (σ.1 50 (8 * l1 + 2 : Int32).toNatClampNeg) σ)) ∧ (¬ ((σ.1 50 (8 * l1 + 2 : Int32).toNatClampNeg : Int32) = 2) → ((¬ (σ.1 50 (8 * l1 + 2 : Int32).toNatClampNeg : Int32) = 3 → (vc_X9_rockOf_31 S Φ v  l1 (σ.1 50 (8 * l1 + 2 : Int32).toNatClampNeg) 4 σ)) ∧ ((σ.1 50 (8 * l1 + 2 : Int32).toNatClampNeg : Int32) = 3 → (vc_X9_rockOf_26 S Φ v  l1 (σ.1 50 (8 * l1 + 2 : Int32).toNatClampNeg) σ)))))) ∧ ((σ.1 50 (8 * l1 + 2 : Int32).toNatClampNeg : Int32) = 5 → (Φ [aI 0] σ)))
theorem w_X9_rockOf_0 {S : Sp} (hS : Sys S) {Φ : Rs} {v : Kt} (hv : Cl S Φ k_X9_rockOf v) (hw : Wk v) (l1 : Int32) (σ : St) (h : vc_X9_rockOf_0 S Φ v l1 σ) : v 0 [some (aR 49), some (aI l1), none] [] σ := by
  unfold vc_X9_rockOf_0 at h
  refine r_aload_n (pc := 0) hv 0 rfl rfl ?_
  refine r_iload_n (pc := 1) hv 1 rfl rfl ?_
  refine r_iconst (pc := 2) hv 2 rfl  ?_
  refine r_callV (pc := 3) (l := [aI 2, aI l1]) (av := [aI l1, aI 2]) (a := 49) (t := []) hv 3 rfl rfl rfl rfl (rcv_o (by decide) rfl) trivial (t_X9_its hS h.1 ?_)
  replace h := h.2
  show v 6 [some (aR 49), some (aI l1), none] [aI (σ.1 50 (8 * l1 + 2 : Int32).toNatClampNeg)] σ
  refine r_istore_n (pc := 6) (lo' := [some (aR 49), some (aI l1), some (aI (σ.1 50 (8 * l1 + 2 : Int32).toNatClampNeg))]) hv 4 rfl rfl ?_
  refine r_iload_n (pc := 7) hv 5 rfl rfl ?_
  refine r_iconst (pc := 8) hv 6 rfl  ?_
  refine r_icmp_ne (pc := 9) hv 7 rfl (fun c => ?_) (fun c => ?_)
  · replace h := h.1 c
    refine r_iload_n (pc := 16) hv 10 rfl rfl ?_
    refine r_iconst (pc := 17) hv 11 rfl  ?_
    refine r_icmp_eq (pc := 18) hv 12 rfl (fun c => ?_) (fun c => ?_)
    · replace h := h.1 c
      exact (w_X9_rockOf_26 hS hv hw   l1 (σ.1 50 (8 * l1 + 2 : Int32).toNatClampNeg)  σ h)
    · replace h := h.2 c
      refine r_iload_n (pc := 21) hv 13 rfl rfl ?_
      refine r_iconst (pc := 22) hv 14 rfl  ?_
      refine r_icmp_ne (pc := 23) hv 15 rfl (fun c => ?_) (fun c => ?_)
      · replace h := h.1 c
        refine r_iconst (pc := 30) hv 18 rfl  ?_
        exact (w_X9_rockOf_31 hS hv hw   l1 (σ.1 50 (8 * l1 + 2 : Int32).toNatClampNeg) 4  σ h)
      · replace h := h.2 c
        exact (w_X9_rockOf_26 hS hv hw   l1 (σ.1 50 (8 * l1 + 2 : Int32).toNatClampNeg)  σ h)
  · replace h := h.2 c
    refine r_iconst (pc := 12) hv 8 rfl  ?_
    refine r_goto (pc := 13) hv 9 rfl  ?_
    exact r_ireturn (pc := 38) hv 24 rfl rfl h
theorem m_X9_rockOf {S : Sp} (hS : Sys S) {l1 : Int32} {σ : St} {Φ : Rs} (h : ∀ v : Kt, Cl S Φ k_X9_rockOf v → Wk v → vc_X9_rockOf_0 S Φ v l1 σ) : S 157 [aR 49, aI l1] σ Φ :=
  hS.2 157 M_X9_rockOf k_X9_rockOf _ _ _ mkt_X9_rockOf (Nat.le_of_ble_eq_true rfl) (fun v hv hw => w_X9_rockOf_0 hS hv hw   l1 σ (h v hv hw))
def vc_X9_needsOf_0 (S : Sp) (Φ : Rs) (v : Kt) (l1 : Int32) (σ : St) : Prop := vp_in (8 * l1 + 4) 286 ∧ (vp_in (8 * l1 + 2) 286 ∧ (((σ.1 50 (8 * l1 + 2 : Int32).toNatClampNeg : Int32) = 1 → (Φ [aI ((2 * (σ.1 50 (8 * l1 + 4 : Int32).toNatClampNeg)) - 1)] σ)) ∧ (¬ ((σ.1 50 (8 * l1 + 2 : Int32).toNatClampNeg : Int32) = 1) → (((σ.1 50 (8 * l1 + 2 : Int32).toNatClampNeg : Int32) = 2 → (Φ [aI (2 * (σ.1 50 (8 * l1 + 4 : Int32).toNatClampNeg))] σ)) ∧ (¬ ((σ.1 50 (8 * l1 + 2 : Int32).toNatClampNeg : Int32) = 2) → (((σ.1 50 (8 * l1 + 2 : Int32).toNatClampNeg : Int32) = 3 → (Φ [aI (3 * (σ.1 50 (8 * l1 + 4 : Int32).toNatClampNeg))] σ)) ∧ (¬ ((σ.1 50 (8 * l1 + 2 : Int32).toNatClampNeg : Int32) = 3) → (((σ.1 50 (8 * l1 + 2 : Int32).toNatClampNeg : Int32) = 4 → (Φ [aI (3 * (σ.1 50 (8 * l1 + 4 : Int32).toNatClampNeg))] σ)) ∧ (¬ ((σ.1 50 (8 * l1 + 2 : Int32).toNatClampNeg : Int32) = 4) → (((σ.1 50 (8 * l1 + 2 : Int32).toNatClampNeg : Int32) = 5 → (Φ [aI 0] σ)) ∧ (¬ ((σ.1 50 (8 * l1 + 2 : Int32).toNatClampNeg : Int32) = 5) → (Φ [aI (2 * (σ.1 50 (8 * l1 + 4 : Int32).toNatClampNeg))] σ))))))))))))
theorem w_X9_needsOf_0 {S : Sp} (hS : Sys S) {Φ : Rs} {v : Kt} (hv : Cl S Φ k_X9_needsOf v) (hw : Wk v) (l1 : Int32) (σ : St) (h : vc_X9_needsOf_0 S Φ v l1 σ) : v 0 [some (aR 49), some (aI l1), none] [] σ := by
  unfold vc_X9_needsOf_0 at h
  refine r_aload_n (pc := 0) hv 0 rfl rfl ?_
  refine r_iload_n (pc := 1) hv 1 rfl rfl ?_
  refine r_iconst (pc := 2) hv 2 rfl  ?_
  refine r_callV (pc := 3) (l := [aI 4, aI l1]) (av := [aI l1, aI 4]) (a := 49) (t := []) hv 3 rfl rfl rfl rfl (rcv_o (by decide) rfl) trivial (t_X9_its hS h.1 ?_)
  replace h := h.2
  show v 6 [some (aR 49), some (aI l1), none] [aI (σ.1 50 (8 * l1 + 4 : Int32).toNatClampNeg)] σ
  refine r_istore_n (pc := 6) (lo' := [some (aR 49), some (aI l1), some (aI (σ.1 50 (8 * l1 + 4 : Int32).toNatClampNeg))]) hv 4 rfl rfl ?_
  refine r_aload_n (pc := 7) hv 5 rfl rfl ?_
  refine r_iload_n (pc := 8) hv 6 rfl rfl ?_
  refine r_iconst (pc := 9) hv 7 rfl  ?_
  refine r_callV (pc := 10) (l := [aI 2, aI l1]) (av := [aI l1, aI 2]) (a := 49) (t := []) hv 8 rfl rfl rfl rfl (rcv_o (by decide) rfl) trivial (t_X9_its hS h.1 ?_)
  replace h := h.2
  show v 13 [some (aR 49), some (aI l1), some (aI (σ.1 50 (8 * l1 + 4 : Int32).toNatClampNeg))] [aI (σ.1 50 (8 * l1 + 2 : Int32).toNatClampNeg)] σ
  refine r_tab (pc := 13) hv 9 rfl ?_
  refine ⟨fun c => ?_, fun c => ?_⟩
  · replace h := h.1 c
    show v 48 [some (aR 49), some (aI l1), some (aI (σ.1 50 (8 * l1 + 4 : Int32).toNatClampNeg))] [] σ
    refine r_iconst (pc := 48) hv 10 rfl  ?_
    refine r_iload_n (pc := 49) hv 11 rfl rfl ?_
    refine r_imul (pc := 50) hv 12 rfl  ?_
    refine r_iconst (pc := 51) hv 13 rfl  ?_
    refine r_isub (pc := 52) hv 14 rfl  ?_
    exact r_ireturn (pc := 53) hv 15 rfl rfl h
  · replace h := h.2 c
    refine ⟨fun c => ?_, fun c => ?_⟩
    · replace h := h.1 c
      show v 60 [some (aR 49), some (aI l1), some (aI (σ.1 50 (8 * l1 + 4 : Int32).toNatClampNeg))] [] σ
      refine r_iconst (pc := 60) hv 22 rfl  ?_
      refine r_iload_n (pc := 61) hv 23 rfl rfl ?_
      refine r_imul (pc := 62) hv 24 rfl  ?_
      exact r_ireturn (pc := 63) hv 25 rfl rfl h
    · replace h := h.2 c
      refine ⟨fun c => ?_, fun c => ?_⟩
      · replace h := h.1 c
        show v 54 [some (aR 49), some (aI l1), some (aI (σ.1 50 (8 * l1 + 4 : Int32).toNatClampNeg))] [] σ
        refine r_iconst (pc := 54) hv 16 rfl  ?_
        refine r_iload_n (pc := 55) hv 17 rfl rfl ?_
        refine r_imul (pc := 56) hv 18 rfl  ?_
        exact r_ireturn (pc := 57) hv 19 rfl rfl h
      · replace h := h.2 c
        refine ⟨fun c => ?_, fun c => ?_⟩
        · replace h := h.1 c
          show v 54 [some (aR 49), some (aI l1), some (aI (σ.1 50 (8 * l1 + 4 : Int32).toNatClampNeg))] [] σ
          refine r_iconst (pc := 54) hv 16 rfl  ?_
          refine r_iload_n (pc := 55) hv 17 rfl rfl ?_
          refine r_imul (pc := 56) hv 18 rfl  ?_
          exact r_ireturn (pc := 57) hv 19 rfl rfl h
        · replace h := h.2 c
          refine ⟨fun c => ?_, fun c => ?_⟩
          · replace h := h.1 c
            show v 58 [some (aR 49), some (aI l1), some (aI (σ.1 50 (8 * l1 + 4 : Int32).toNatClampNeg))] [] σ
            refine r_iconst (pc := 58) hv 20 rfl  ?_
            exact r_ireturn (pc := 59) hv 21 rfl rfl h
          · replace h := h.2 c
            show v 60 [some (aR 49), some (aI l1), some (aI (σ.1 50 (8 * l1 + 4 : Int32).toNatClampNeg))] [] σ
            refine r_iconst (pc := 60) hv 22 rfl  ?_
            refine r_iload_n (pc := 61) hv 23 rfl rfl ?_
            refine r_imul (pc := 62) hv 24 rfl  ?_
            exact r_ireturn (pc := 63) hv 25 rfl rfl h
theorem m_X9_needsOf {S : Sp} (hS : Sys S) {l1 : Int32} {σ : St} {Φ : Rs} (h : ∀ v : Kt, Cl S Φ k_X9_needsOf v → Wk v → vc_X9_needsOf_0 S Φ v l1 σ) : S 158 [aR 49, aI l1] σ Φ :=
  hS.2 158 M_X9_needsOf k_X9_needsOf _ _ _ mkt_X9_needsOf (Nat.le_of_ble_eq_true rfl) (fun v hv hw => w_X9_needsOf_0 hS hv hw   l1 σ (h v hv hw))
def vc_X9_madeBy_79 (S : Sp) (Φ : Rs) (v : Kt) (l0 : Int32) (l1 : Int32) (l2 : Int32) (l3 : Int32) (s0 : Int32) (σ : St) : Prop := (¬ (l1 : Int32) = 5 → (Φ [aI s0] σ)) ∧ ((l1 : Int32) = 5 → ((¬ (l2 : Int32) = 1 → (Φ [aI s0] σ)) ∧ ((l2 : Int32) = 1 → (Φ [aI ((10 * s0) + 9)] σ))))
theorem w_X9_madeBy_79 {S : Sp} (hS : Sys S) {Φ : Rs} {v : Kt} (hv : Cl S Φ k_X9_madeBy v) (hw : Wk v) (l0 : Int32) (l1 : Int32) (l2 : Int32) (l3 : Int32) (s0 : Int32) (σ : St) (h : vc_X9_madeBy_79 S Φ v l0 l1 l2 l3 s0 σ) : v 79 [some (aI l0), some (aI l1), some (aI l2), some (aI l3)] [aI s0] σ := by
  unfold vc_X9_madeBy_79 at h
  refine r_istore_n (pc := 79) (lo' := [some (aI l0), some (aI l1), some (aI l2), some (aI s0)]) hv 47 rfl rfl ?_
  refine r_iload_n (pc := 80) hv 48 rfl rfl ?_
  refine r_iconst (pc := 81) hv 49 rfl  ?_
  refine r_icmp_ne (pc := 82) hv 50 rfl (fun c => ?_) (fun c => ?_)
  · replace h := h.1 c
    refine r_iload_n (pc := 100) hv 60 rfl rfl ?_
    exact r_ireturn (pc := 101) hv 61 rfl rfl h
  · replace h := h.2 c
    refine r_iload_n (pc := 85) hv 51 rfl rfl ?_
    refine r_iconst (pc := 86) hv 52 rfl  ?_
    refine r_icmp_ne (pc := 87) hv 53 rfl (fun c => ?_) (fun c => ?_)
    · replace h := h.1 c
      refine r_iload_n (pc := 100) hv 60 rfl rfl ?_
      exact r_ireturn (pc := 101) hv 61 rfl rfl h
    · replace h := h.2 c
      refine r_bipush (pc := 90) hv 54 rfl  ?_
      refine r_iload_n (pc := 92) hv 55 rfl rfl ?_
      refine r_imul (pc := 93) hv 56 rfl  ?_
      refine r_bipush (pc := 94) hv 57 rfl  ?_
      refine r_iadd (pc := 96) hv 58 rfl  ?_
      refine r_goto (pc := 97) hv 59 rfl  ?_
      exact r_ireturn (pc := 101) hv 61 rfl rfl h
def vc_X9_madeBy_62 (S : Sp) (Φ : Rs) (v : Kt) (l0 : Int32) (l1 : Int32) (l2 : Int32) (l3 : Int32) (s0 : Int32) (σ : St) : Prop := (¬ (l1 : Int32) = 5 → (vc_X9_madeBy_79 S Φ v  l0 l1 l2 s0 s0 σ)) ∧ ((l1 : Int32) = 5 → (vc_X9_madeBy_79 S Φ v  l0 l1 l2 s0 ((10 * s0) + 8) σ))
theorem w_X9_madeBy_62 {S : Sp} (hS : Sys S) {Φ : Rs} {v : Kt} (hv : Cl S Φ k_X9_madeBy v) (hw : Wk v) (l0 : Int32) (l1 : Int32) (l2 : Int32) (l3 : Int32) (s0 : Int32) (σ : St) (h : vc_X9_madeBy_62 S Φ v l0 l1 l2 l3 s0 σ) : v 62 [some (aI l0), some (aI l1), some (aI l2), some (aI l3)] [aI s0] σ := by
  unfold vc_X9_madeBy_62 at h
  refine r_istore_n (pc := 62) (lo' := [some (aI l0), some (aI l1), some (aI l2), some (aI s0)]) hv 36 rfl rfl ?_
  refine r_iload_n (pc := 63) hv 37 rfl rfl ?_
  refine r_iconst (pc := 64) hv 38 rfl  ?_
  refine r_icmp_ne (pc := 65) hv 39 rfl (fun c => ?_) (fun c => ?_)
  · replace h := h.1 c
    refine r_iload_n (pc := 78) hv 46 rfl rfl ?_
    exact (w_X9_madeBy_79 hS hv hw   l0 l1 l2 s0 s0  σ h)
  · replace h := h.2 c
    refine r_bipush (pc := 68) hv 40 rfl  ?_
    refine r_iload_n (pc := 70) hv 41 rfl rfl ?_
    refine r_imul (pc := 71) hv 42 rfl  ?_
    refine r_bipush (pc := 72) hv 43 rfl  ?_
    refine r_iadd (pc := 74) hv 44 rfl  ?_
    refine r_goto (pc := 75) hv 45 rfl  ?_
    exact (w_X9_madeBy_79 hS hv hw   l0 l1 l2 s0 ((10 * s0) + 8)  σ h)
def vc_X9_madeBy_27 (S : Sp) (Φ : Rs) (v : Kt) (l0 : Int32) (l1 : Int32) (l2 : Int32) (l3 : Int32) (s0 : Int32) (σ : St) : Prop := (¬ (l1 : Int32) = 3 → (S 153 [aI l1, aI 4] σ (fun r σ1 => ∃ x2 : Int32, r = [aI x2] ∧ (((x2 : Int32) = 0 → (vc_X9_madeBy_62 S Φ v  l0 l1 l2 s0 s0 σ1)) ∧ (¬ ((x2 : Int32) = 0) → (vc_X9_madeBy_62 S Φ v  l0 l1 l2 s0 ((10 * s0) + 7) σ1)))))) ∧ ((l1 : Int32) = 3 → (vc_X9_madeBy_62 S Φ v  l0 l1 l2 s0 ((10 * s0) + 6) σ))
theorem w_X9_madeBy_27 {S : Sp} (hS : Sys S) {Φ : Rs} {v : Kt} (hv : Cl S Φ k_X9_madeBy v) (hw : Wk v) (l0 : Int32) (l1 : Int32) (l2 : Int32) (l3 : Int32) (s0 : Int32) (σ : St) (h : vc_X9_madeBy_27 S Φ v l0 l1 l2 l3 s0 σ) : v 27 [some (aI l0), some (aI l1), some (aI l2), some (aI l3)] [aI s0] σ := by
  unfold vc_X9_madeBy_27 at h
  refine r_istore_n (pc := 27) (lo' := [some (aI l0), some (aI l1), some (aI l2), some (aI s0)]) hv 15 rfl rfl ?_
  refine r_iload_n (pc := 28) hv 16 rfl rfl ?_
  refine r_iconst (pc := 29) hv 17 rfl  ?_
  refine r_icmp_ne (pc := 30) hv 18 rfl (fun c => ?_) (fun c => ?_)
  · replace h := h.1 c
    refine r_iload_n (pc := 43) hv 25 rfl rfl ?_
    refine r_iconst (pc := 44) hv 26 rfl  ?_
    refine r_callS (pc := 45) (l := [aI 4, aI l1]) (av := [aI l1, aI 4]) (t := []) hv 27 rfl (Or.inl rfl) rfl rfl rfl trivial (hS.1 _ _ _ _ _ (fun r σ1 h => ?_) h)
    obtain ⟨x2, rfl, h⟩ := h
    show v 48 [some (aI l0), some (aI l1), some (aI l2), some (aI s0)] [aI x2] σ1
    refine r_if_eq (pc := 48) hv 28 rfl (fun c => ?_) (fun c => ?_)
    · replace h := h.1 c
      refine r_iload_n (pc := 61) hv 35 rfl rfl ?_
      exact (w_X9_madeBy_62 hS hv hw   l0 l1 l2 s0 s0  σ1 h)
    · replace h := h.2 c
      refine r_bipush (pc := 51) hv 29 rfl  ?_
      refine r_iload_n (pc := 53) hv 30 rfl rfl ?_
      refine r_imul (pc := 54) hv 31 rfl  ?_
      refine r_bipush (pc := 55) hv 32 rfl  ?_
      refine r_iadd (pc := 57) hv 33 rfl  ?_
      refine r_goto (pc := 58) hv 34 rfl  ?_
      exact (w_X9_madeBy_62 hS hv hw   l0 l1 l2 s0 ((10 * s0) + 7)  σ1 h)
  · replace h := h.2 c
    refine r_bipush (pc := 33) hv 19 rfl  ?_
    refine r_iload_n (pc := 35) hv 20 rfl rfl ?_
    refine r_imul (pc := 36) hv 21 rfl  ?_
    refine r_bipush (pc := 37) hv 22 rfl  ?_
    refine r_iadd (pc := 39) hv 23 rfl  ?_
    refine r_goto (pc := 40) hv 24 rfl  ?_
    exact (w_X9_madeBy_62 hS hv hw   l0 l1 l2 s0 ((10 * s0) + 6)  σ h)
def vc_X9_madeBy_11 (S : Sp) (Φ : Rs) (v : Kt) (l0 : Int32) (l1 : Int32) (l2 : Int32) (s0 : Int32) (σ : St) : Prop := ((l1 : Int32) ≤ 0 → (vc_X9_madeBy_27 S Φ v  l0 l1 l2 s0 s0 σ)) ∧ (¬ ((l1 : Int32) ≤ 0) → (vc_X9_madeBy_27 S Φ v  l0 l1 l2 s0 ((100 * s0) + 45) σ))
theorem w_X9_madeBy_11 {S : Sp} (hS : Sys S) {Φ : Rs} {v : Kt} (hv : Cl S Φ k_X9_madeBy v) (hw : Wk v) (l0 : Int32) (l1 : Int32) (l2 : Int32) (s0 : Int32) (σ : St) (h : vc_X9_madeBy_11 S Φ v l0 l1 l2 s0 σ) : v 11 [some (aI l0), some (aI l1), some (aI l2), none] [aI s0] σ := by
  unfold vc_X9_madeBy_11 at h
  refine r_istore_n (pc := 11) (lo' := [some (aI l0), some (aI l1), some (aI l2), some (aI s0)]) hv 5 rfl rfl ?_
  refine r_iload_n (pc := 12) hv 6 rfl rfl ?_
  refine r_if_le (pc := 13) hv 7 rfl (fun c => ?_) (fun c => ?_)
  · replace h := h.1 c
    refine r_iload_n (pc := 26) hv 14 rfl rfl ?_
    exact (w_X9_madeBy_27 hS hv hw   l0 l1 l2 s0 s0  σ h)
  · replace h := h.2 c
    refine r_bipush (pc := 16) hv 8 rfl  ?_
    refine r_iload_n (pc := 18) hv 9 rfl rfl ?_
    refine r_imul (pc := 19) hv 10 rfl  ?_
    refine r_bipush (pc := 20) hv 11 rfl  ?_
    refine r_iadd (pc := 22) hv 12 rfl  ?_
    refine r_goto (pc := 23) hv 13 rfl  ?_
    exact (w_X9_madeBy_27 hS hv hw   l0 l1 l2 s0 ((100 * s0) + 45)  σ h)
def vc_X9_madeBy_0 (S : Sp) (Φ : Rs) (v : Kt) (l0 : Int32) (l1 : Int32) (l2 : Int32) (σ : St) : Prop := (¬ (l0 : Int32) = 0 → (vc_X9_madeBy_11 S Φ v  l0 l1 l2 13 σ)) ∧ ((l0 : Int32) = 0 → (vc_X9_madeBy_11 S Φ v  l0 l1 l2 123 σ))
theorem w_X9_madeBy_0 {S : Sp} (hS : Sys S) {Φ : Rs} {v : Kt} (hv : Cl S Φ k_X9_madeBy v) (hw : Wk v) (l0 : Int32) (l1 : Int32) (l2 : Int32) (σ : St) (h : vc_X9_madeBy_0 S Φ v l0 l1 l2 σ) : v 0 [some (aI l0), some (aI l1), some (aI l2), none] [] σ := by
  unfold vc_X9_madeBy_0 at h
  refine r_iload_n (pc := 0) hv 0 rfl rfl ?_
  refine r_if_ne (pc := 1) hv 1 rfl (fun c => ?_) (fun c => ?_)
  · replace h := h.1 c
    refine r_bipush (pc := 9) hv 4 rfl  ?_
    exact (w_X9_madeBy_11 hS hv hw   l0 l1 l2 13  σ h)
  · replace h := h.2 c
    refine r_bipush (pc := 4) hv 2 rfl  ?_
    refine r_goto (pc := 6) hv 3 rfl  ?_
    exact (w_X9_madeBy_11 hS hv hw   l0 l1 l2 123  σ h)
theorem m_X9_madeBy {S : Sp} (hS : Sys S) {l0 : Int32} {l1 : Int32} {l2 : Int32} {σ : St} {Φ : Rs} (h : ∀ v : Kt, Cl S Φ k_X9_madeBy v → Wk v → vc_X9_madeBy_0 S Φ v l0 l1 l2 σ) : S 159 [aI l0, aI l1, aI l2] σ Φ :=
  hS.2 159 M_X9_madeBy k_X9_madeBy _ _ _ mkt_X9_madeBy (Nat.le_of_ble_eq_true rfl) (fun v hv hw => w_X9_madeBy_0 hS hv hw   l0 l1 l2 σ (h v hv hw))
def vc_X9_isTaken_2 (S : Sp) (Φ : Rs) (v : Kt) (l1 : Int32) (l2 : Int32) (l3 : Int32) (σ : St) : Prop := vp_in 280 286 ∧ (((σ.1 50 (280 : Int32).toNatClampNeg : Int32) ≤ l3 → (Φ [aI 0] σ)) ∧ (¬ ((σ.1 50 (280 : Int32).toNatClampNeg : Int32) ≤ l3) → (vp_in (8 * l3 + 0) 286 ∧ ((¬ (σ.1 50 (8 * l3 + 0 : Int32).toNatClampNeg : Int32) = l1 → (v 2 [some (aR 49), some (aI l1), some (aI l2), some (aI (l3 + 1))] [] σ)) ∧ ((σ.1 50 (8 * l3 + 0 : Int32).toNatClampNeg : Int32) = l1 → (vp_in (8 * l3 + 1) 286 ∧ ((¬ (σ.1 50 (8 * l3 + 1 : Int32).toNatClampNeg : Int32) = l2 → (v 2 [some (aR 49), some (aI l1), some (aI l2), some (aI (l3 + 1))] [] σ)) ∧ ((σ.1 50 (8 * l3 + 1 : Int32).toNatClampNeg : Int32) = l2 → (Φ [aI 1] σ)))))))))
theorem w_X9_isTaken_2 {S : Sp} (hS : Sys S) {Φ : Rs} {v : Kt} (hv : Cl S Φ k_X9_isTaken v) (hw : Wk v) (l1 : Int32) (l2 : Int32) (l3 : Int32) (σ : St) (h : vc_X9_isTaken_2 S Φ v l1 l2 l3 σ) : v 2 [some (aR 49), some (aI l1), some (aI l2), some (aI l3)] [] σ := by
  unfold vc_X9_isTaken_2 at h
  refine r_iload_n (pc := 2) hv 2 rfl rfl ?_
  refine r_aload_n (pc := 3) hv 3 rfl rfl ?_
  refine r_getR (pc := 4) (b := 50) hv 4 rfl rfl rfl rfl ?_
  refine r_sipush (pc := 7) hv 5 rfl  ?_
  refine r_iaload (pc := 10) (N := 286) hv 6 rfl rfl rfl (by decide) h.1 ?_
  replace h := h.2
  refine r_icmp_ge (pc := 11) hv 7 rfl (fun c => ?_) (fun c => ?_)
  · replace h := h.1 c
    refine r_iconst (pc := 42) hv 24 rfl  ?_
    exact r_zreturn (pc := 43) hv 25 rfl rfl (Or.inl rfl) h
  · replace h := h.2 c
    refine r_aload_n (pc := 14) hv 8 rfl rfl ?_
    refine r_iload_n (pc := 15) hv 9 rfl rfl ?_
    refine r_iconst (pc := 16) hv 10 rfl  ?_
    refine r_callV (pc := 17) (l := [aI 0, aI l3]) (av := [aI l3, aI 0]) (a := 49) (t := []) hv 11 rfl rfl rfl rfl (rcv_o (by decide) rfl) trivial (t_X9_its hS h.1 ?_)
    replace h := h.2
    show v 20 [some (aR 49), some (aI l1), some (aI l2), some (aI l3)] [aI (σ.1 50 (8 * l3 + 0 : Int32).toNatClampNeg)] σ
    refine r_iload_n (pc := 20) hv 12 rfl rfl ?_
    refine r_icmp_ne (pc := 21) hv 13 rfl (fun c => ?_) (fun c => ?_)
    · replace h := h.1 c
      refine r_iinc (pc := 36) (lo' := [some (aR 49), some (aI l1), some (aI l2), some (aI (l3 + 1))]) hv 22 rfl rfl rfl ?_
      refine r_goto (pc := 39) hv 23 rfl  ?_
      exact h
    · replace h := h.2 c
      refine r_aload_n (pc := 24) hv 14 rfl rfl ?_
      refine r_iload_n (pc := 25) hv 15 rfl rfl ?_
      refine r_iconst (pc := 26) hv 16 rfl  ?_
      refine r_callV (pc := 27) (l := [aI 1, aI l3]) (av := [aI l3, aI 1]) (a := 49) (t := []) hv 17 rfl rfl rfl rfl (rcv_o (by decide) rfl) trivial (t_X9_its hS h.1 ?_)
      replace h := h.2
      show v 30 [some (aR 49), some (aI l1), some (aI l2), some (aI l3)] [aI (σ.1 50 (8 * l3 + 1 : Int32).toNatClampNeg)] σ
      refine r_iload_n (pc := 30) hv 18 rfl rfl ?_
      refine r_icmp_ne (pc := 31) hv 19 rfl (fun c => ?_) (fun c => ?_)
      · replace h := h.1 c
        refine r_iinc (pc := 36) (lo' := [some (aR 49), some (aI l1), some (aI l2), some (aI (l3 + 1))]) hv 22 rfl rfl rfl ?_
        refine r_goto (pc := 39) hv 23 rfl  ?_
        exact h
      · replace h := h.2 c
        refine r_iconst (pc := 34) hv 20 rfl  ?_
        exact r_zreturn (pc := 35) hv 21 rfl rfl (Or.inr rfl) h
def vc_X9_isTaken_0 (S : Sp) (Φ : Rs) (v : Kt) (l1 : Int32) (l2 : Int32) (σ : St) : Prop := v 2 [some (aR 49), some (aI l1), some (aI l2), some (aI 0)] [] σ
theorem w_X9_isTaken_0 {S : Sp} (hS : Sys S) {Φ : Rs} {v : Kt} (hv : Cl S Φ k_X9_isTaken v) (hw : Wk v) (l1 : Int32) (l2 : Int32) (σ : St) (h : vc_X9_isTaken_0 S Φ v l1 l2 σ) : v 0 [some (aR 49), some (aI l1), some (aI l2), none] [] σ := by
  unfold vc_X9_isTaken_0 at h
  refine r_iconst (pc := 0) hv 0 rfl  ?_
  refine r_istore_n (pc := 1) (lo' := [some (aR 49), some (aI l1), some (aI l2), some (aI 0)]) hv 1 rfl rfl ?_
  exact h
theorem m_X9_isTaken {S : Sp} (hS : Sys S) {l1 : Int32} {l2 : Int32} {σ : St} {Φ : Rs} (h : ∀ v : Kt, Cl S Φ k_X9_isTaken v → Wk v → vc_X9_isTaken_0 S Φ v l1 l2 σ) : S 160 [aR 49, aI l1, aI l2] σ Φ :=
  hS.2 160 M_X9_isTaken k_X9_isTaken _ _ _ mkt_X9_isTaken (Nat.le_of_ble_eq_true rfl) (fun v hv hw => w_X9_isTaken_0 hS hv hw   l1 l2 σ (h v hv hw))
def vc_X9_hole_0 (S : Sp) (Φ : Rs) (v : Kt) (l1 : Int32) (l2 : Int32) (l3 : Int32) (l4 : Int32) (l5 : Int32) (l6 : Int32) (σ : St) : Prop := ((b2 ((0 : Int64) ≤ ((l1 : Int32).toInt64) ∧ ((l1 : Int32).toInt64 : Int64) ≤ 4) : Int32) = 0 → (Φ [aI (-2)] σ)) ∧ (¬ ((b2 ((0 : Int64) ≤ ((l1 : Int32).toInt64) ∧ ((l1 : Int32).toInt64 : Int64) ≤ 4) : Int32) = 0) → (((b2 ((0 : Int64) ≤ ((l2 : Int32).toInt64) ∧ ((l2 : Int32).toInt64 : Int64) ≤ 9) : Int32) = 0 → (Φ [aI (-2)] σ)) ∧ (¬ ((b2 ((0 : Int64) ≤ ((l2 : Int32).toInt64) ∧ ((l2 : Int32).toInt64 : Int64) ≤ 9) : Int32) = 0) → (((b2 ((0 : Int64) ≤ ((l3 : Int32).toInt64) ∧ ((l3 : Int32).toInt64 : Int64) ≤ 5) : Int32) = 0 → (Φ [aI (-2)] σ)) ∧ (¬ ((b2 ((0 : Int64) ≤ ((l3 : Int32).toInt64) ∧ ((l3 : Int32).toInt64 : Int64) ≤ 5) : Int32) = 0) → (((b2 ((1 : Int64) ≤ ((l4 : Int32).toInt64) ∧ ((l4 : Int32).toInt64 : Int64) ≤ 99) : Int32) = 0 → (Φ [aI (-2)] σ)) ∧ (¬ ((b2 ((1 : Int64) ≤ ((l4 : Int32).toInt64) ∧ ((l4 : Int32).toInt64 : Int64) ≤ 99) : Int32) = 0) → (((b2 ((1 : Int64) ≤ ((l5 : Int32).toInt64) ∧ ((l5 : Int32).toInt64 : Int64) ≤ 20) : Int32) = 0 → (Φ [aI (-2)] σ)) ∧ (¬ ((b2 ((1 : Int64) ≤ ((l5 : Int32).toInt64) ∧ ((l5 : Int32).toInt64 : Int64) ≤ 20) : Int32) = 0) → ((¬ (b2 ((0 : Int64) ≤ ((l6 : Int32).toInt64) ∧ ((l6 : Int32).toInt64 : Int64) ≤ 999) : Int32) = 0 → (S 160 [aR 49, aI l1, aI l2] σ (fun r σ1 => ∃ x2 : Int32, r = [aI x2] ∧ (((x2 : Int32) = 0 → (vp_in 280 286 ∧ ((¬ (σ1.1 50 (280 : Int32).toNatClampNeg : Int32) = 20 → (vp_in 280 286 ∧ (vp_in (8 * (σ1.1 50 (280 : Int32).toNatClampNeg)) 286 ∧ (∀ σ3 : St, σ3 = upI σ1 50 (8 * (σ1.1 50 (280 : Int32).toNatClampNeg) : Int32).toNatClampNeg l1 → (vp_in ((8 * (σ1.1 50 (280 : Int32).toNatClampNeg)) + 1) 286 ∧ (∀ σ4 : St, σ4 = upI σ3 50 ((8 * (σ1.1 50 (280 : Int32).toNatClampNeg)) + 1 : Int32).toNatClampNeg l2 → (vp_in ((8 * (σ1.1 50 (280 : Int32).toNatClampNeg)) + 2) 286 ∧ (∀ σ5 : St, σ5 = upI σ4 50 ((8 * (σ1.1 50 (280 : Int32).toNatClampNeg)) + 2 : Int32).toNatClampNeg l3 → (vp_in ((8 * (σ1.1 50 (280 : Int32).toNatClampNeg)) + 3) 286 ∧ (∀ σ6 : St, σ6 = upI σ5 50 ((8 * (σ1.1 50 (280 : Int32).toNatClampNeg)) + 3 : Int32).toNatClampNeg l4 → (vp_in ((8 * (σ1.1 50 (280 : Int32).toNatClampNeg)) + 4) 286 ∧ (∀ σ7 : St, σ7 = upI σ6 50 ((8 * (σ1.1 50 (280 : Int32).toNatClampNeg)) + 4 : Int32).toNatClampNeg l5 → (vp_in ((8 * (σ1.1 50 (280 : Int32).toNatClampNeg)) + 5) 286 ∧ (∀ σ8 : St, σ8 = upI σ7 50 ((8 * (σ1.1 50 (280 : Int32).toNatClampNeg)) + 5 : Int32).toNatClampNeg l6 → (vp_in ((8 * (σ1.1 50 (280 : Int32).toNatClampNeg)) + 6) 286 ∧ (∀ σ9 : St, σ9 = upI σ8 50 ((8 * (σ1.1 50 (280 : Int32).toNatClampNeg)) + 6 : Int32).toNatClampNeg 0 → (S 159 [aI l1, aI l3, aI l5] σ9 (fun r σ10 => ∃ x11 : Int32, r = [aI x11] ∧ (vp_in ((8 * (σ1.1 50 (280 : Int32).toNatClampNeg)) + 7) 286 ∧ (∀ σ12 : St, σ12 = upI σ10 50 ((8 * (σ1.1 50 (280 : Int32).toNatClampNeg)) + 7 : Int32).toNatClampNeg x11 → (vp_in 280 286 ∧ (vp_in 280 286 ∧ (∀ σ13 : St, σ13 = upI σ12 50 (280 : Int32).toNatClampNeg ((σ12.1 50 (280 : Int32).toNatClampNeg) + 1) → (vp_in 285 286 ∧ (∀ σ14 : St, σ14 = upI σ13 50 (285 : Int32).toNatClampNeg 0 → (vp_in 280 286 ∧ (Φ [aI ((σ14.1 50 (280 : Int32).toNatClampNeg) - 1)] σ14))))))))))))))))))))))))))) ∧ ((σ1.1 50 (280 : Int32).toNatClampNeg : Int32) = 20 → (Φ [aI (-4)] σ1))))) ∧ (¬ ((x2 : Int32) = 0) → (Φ [aI (-3)] σ1)))))) ∧ ((b2 ((0 : Int64) ≤ ((l6 : Int32).toInt64) ∧ ((l6 : Int32).toInt64 : Int64) ≤ 999) : Int32) = 0 → (Φ [aI (-2)] σ))))))))))))
theorem w_X9_hole_0 {S : Sp} (hS : Sys S) {Φ : Rs} {v : Kt} (hv : Cl S Φ k_X9_hole v) (hw : Wk v) (l1 : Int32) (l2 : Int32) (l3 : Int32) (l4 : Int32) (l5 : Int32) (l6 : Int32) (σ : St) (h : vc_X9_hole_0 S Φ v l1 l2 l3 l4 l5 l6 σ) : v 0 [some (aR 49), some (aI l1), some (aI l2), some (aI l3), some (aI l4), some (aI l5), some (aI l6), none] [] σ := by
  unfold vc_X9_hole_0 at h
  refine r_iload_n (pc := 0) hv 0 rfl rfl ?_
  refine r_i2l (pc := 1) hv 1 rfl  ?_
  refine r_lconst (pc := 2) hv 2 rfl  ?_
  refine r_ldc2_w (pc := 3) hv 3 rfl  ?_
  refine r_callS (pc := 6) (l := [aL 4, aL 0, aL ((l1 : Int32).toInt64)]) (av := [aL ((l1 : Int32).toInt64), aL 0, aL 4]) (t := []) hv 4 rfl (Or.inl rfl) rfl rfl rfl trivial (t_X9_in hS ?_)
  show v 9 [some (aR 49), some (aI l1), some (aI l2), some (aI l3), some (aI l4), some (aI l5), some (aI l6), none] [aI (b2 ((0 : Int64) ≤ ((l1 : Int32).toInt64) ∧ ((l1 : Int32).toInt64 : Int64) ≤ 4))] σ
  refine r_if_eq (pc := 9) hv 5 rfl (fun c => ?_) (fun c => ?_)
  · replace h := h.1 c
    refine r_bipush (pc := 75) hv 36 rfl  ?_
    exact r_ireturn (pc := 77) hv 37 rfl rfl h
  · replace h := h.2 c
    refine r_iload_n (pc := 12) hv 6 rfl rfl ?_
    refine r_i2l (pc := 13) hv 7 rfl  ?_
    refine r_lconst (pc := 14) hv 8 rfl  ?_
    refine r_ldc2_w (pc := 15) hv 9 rfl  ?_
    refine r_callS (pc := 18) (l := [aL 9, aL 0, aL ((l2 : Int32).toInt64)]) (av := [aL ((l2 : Int32).toInt64), aL 0, aL 9]) (t := []) hv 10 rfl (Or.inl rfl) rfl rfl rfl trivial (t_X9_in hS ?_)
    show v 21 [some (aR 49), some (aI l1), some (aI l2), some (aI l3), some (aI l4), some (aI l5), some (aI l6), none] [aI (b2 ((0 : Int64) ≤ ((l2 : Int32).toInt64) ∧ ((l2 : Int32).toInt64 : Int64) ≤ 9))] σ
    refine r_if_eq (pc := 21) hv 11 rfl (fun c => ?_) (fun c => ?_)
    · replace h := h.1 c
      refine r_bipush (pc := 75) hv 36 rfl  ?_
      exact r_ireturn (pc := 77) hv 37 rfl rfl h
    · replace h := h.2 c
      refine r_iload_n (pc := 24) hv 12 rfl rfl ?_
      refine r_i2l (pc := 25) hv 13 rfl  ?_
      refine r_lconst (pc := 26) hv 14 rfl  ?_
      refine r_ldc2_w (pc := 27) hv 15 rfl  ?_
      refine r_callS (pc := 30) (l := [aL 5, aL 0, aL ((l3 : Int32).toInt64)]) (av := [aL ((l3 : Int32).toInt64), aL 0, aL 5]) (t := []) hv 16 rfl (Or.inl rfl) rfl rfl rfl trivial (t_X9_in hS ?_)
      show v 33 [some (aR 49), some (aI l1), some (aI l2), some (aI l3), some (aI l4), some (aI l5), some (aI l6), none] [aI (b2 ((0 : Int64) ≤ ((l3 : Int32).toInt64) ∧ ((l3 : Int32).toInt64 : Int64) ≤ 5))] σ
      refine r_if_eq (pc := 33) hv 17 rfl (fun c => ?_) (fun c => ?_)
      · replace h := h.1 c
        refine r_bipush (pc := 75) hv 36 rfl  ?_
        exact r_ireturn (pc := 77) hv 37 rfl rfl h
      · replace h := h.2 c
        refine r_iload (pc := 36) hv 18 rfl rfl ?_
        refine r_i2l (pc := 38) hv 19 rfl  ?_
        refine r_lconst (pc := 39) hv 20 rfl  ?_
        refine r_ldc2_w (pc := 40) hv 21 rfl  ?_
        refine r_callS (pc := 43) (l := [aL 99, aL 1, aL ((l4 : Int32).toInt64)]) (av := [aL ((l4 : Int32).toInt64), aL 1, aL 99]) (t := []) hv 22 rfl (Or.inl rfl) rfl rfl rfl trivial (t_X9_in hS ?_)
        show v 46 [some (aR 49), some (aI l1), some (aI l2), some (aI l3), some (aI l4), some (aI l5), some (aI l6), none] [aI (b2 ((1 : Int64) ≤ ((l4 : Int32).toInt64) ∧ ((l4 : Int32).toInt64 : Int64) ≤ 99))] σ
        refine r_if_eq (pc := 46) hv 23 rfl (fun c => ?_) (fun c => ?_)
        · replace h := h.1 c
          refine r_bipush (pc := 75) hv 36 rfl  ?_
          exact r_ireturn (pc := 77) hv 37 rfl rfl h
        · replace h := h.2 c
          refine r_iload (pc := 49) hv 24 rfl rfl ?_
          refine r_i2l (pc := 51) hv 25 rfl  ?_
          refine r_lconst (pc := 52) hv 26 rfl  ?_
          refine r_ldc2_w (pc := 53) hv 27 rfl  ?_
          refine r_callS (pc := 56) (l := [aL 20, aL 1, aL ((l5 : Int32).toInt64)]) (av := [aL ((l5 : Int32).toInt64), aL 1, aL 20]) (t := []) hv 28 rfl (Or.inl rfl) rfl rfl rfl trivial (t_X9_in hS ?_)
          show v 59 [some (aR 49), some (aI l1), some (aI l2), some (aI l3), some (aI l4), some (aI l5), some (aI l6), none] [aI (b2 ((1 : Int64) ≤ ((l5 : Int32).toInt64) ∧ ((l5 : Int32).toInt64 : Int64) ≤ 20))] σ
          refine r_if_eq (pc := 59) hv 29 rfl (fun c => ?_) (fun c => ?_)
          · replace h := h.1 c
            refine r_bipush (pc := 75) hv 36 rfl  ?_
            exact r_ireturn (pc := 77) hv 37 rfl rfl h
          · replace h := h.2 c
            refine r_iload (pc := 62) hv 30 rfl rfl ?_
            refine r_i2l (pc := 64) hv 31 rfl  ?_
            refine r_lconst (pc := 65) hv 32 rfl  ?_
            refine r_ldc2_w (pc := 66) hv 33 rfl  ?_
            refine r_callS (pc := 69) (l := [aL 999, aL 0, aL ((l6 : Int32).toInt64)]) (av := [aL ((l6 : Int32).toInt64), aL 0, aL 999]) (t := []) hv 34 rfl (Or.inl rfl) rfl rfl rfl trivial (t_X9_in hS ?_)
            show v 72 [some (aR 49), some (aI l1), some (aI l2), some (aI l3), some (aI l4), some (aI l5), some (aI l6), none] [aI (b2 ((0 : Int64) ≤ ((l6 : Int32).toInt64) ∧ ((l6 : Int32).toInt64 : Int64) ≤ 999))] σ
            refine r_if_ne (pc := 72) hv 35 rfl (fun c => ?_) (fun c => ?_)
            · replace h := h.1 c
              refine r_aload_n (pc := 78) hv 38 rfl rfl ?_
              refine r_iload_n (pc := 79) hv 39 rfl rfl ?_
              refine r_iload_n (pc := 80) hv 40 rfl rfl ?_
              refine r_callV (pc := 81) (l := [aI l2, aI l1]) (av := [aI l1, aI l2]) (a := 49) (t := []) hv 41 rfl rfl rfl rfl (rcv_o (by decide) rfl) trivial (hS.1 _ _ _ _ _ (fun r σ1 h => ?_) h)
              obtain ⟨x2, rfl, h⟩ := h
              show v 84 [some (aR 49), some (aI l1), some (aI l2), some (aI l3), some (aI l4), some (aI l5), some (aI l6), none] [aI x2] σ1
              refine r_if_eq (pc := 84) hv 42 rfl (fun c => ?_) (fun c => ?_)
              · replace h := h.1 c
                refine r_aload_n (pc := 90) hv 45 rfl rfl ?_
                refine r_getR (pc := 91) (b := 50) hv 46 rfl rfl rfl rfl ?_
                refine r_sipush (pc := 94) hv 47 rfl  ?_
                refine r_iaload (pc := 97) (N := 286) hv 48 rfl rfl rfl (by decide) h.1 ?_
                replace h := h.2
                refine r_bipush (pc := 98) hv 49 rfl  ?_
                refine r_icmp_ne (pc := 100) hv 50 rfl (fun c => ?_) (fun c => ?_)
                · replace h := h.1 c
                  refine r_bipush (pc := 106) hv 53 rfl  ?_
                  refine r_aload_n (pc := 108) hv 54 rfl rfl ?_
                  refine r_getR (pc := 109) (b := 50) hv 55 rfl rfl rfl rfl ?_
                  refine r_sipush (pc := 112) hv 56 rfl  ?_
                  refine r_iaload (pc := 115) (N := 286) hv 57 rfl rfl rfl (by decide) h.1 ?_
                  replace h := h.2
                  refine r_imul (pc := 116) hv 58 rfl  ?_
                  refine r_istore (pc := 117) (lo' := [some (aR 49), some (aI l1), some (aI l2), some (aI l3), some (aI l4), some (aI l5), some (aI l6), some (aI (8 * (σ1.1 50 (280 : Int32).toNatClampNeg)))]) hv 59 rfl rfl ?_
                  refine r_aload_n (pc := 119) hv 60 rfl rfl ?_
                  refine r_getR (pc := 120) (b := 50) hv 61 rfl rfl rfl rfl ?_
                  refine r_iload (pc := 123) hv 62 rfl rfl ?_
                  refine r_iload_n (pc := 125) hv 63 rfl rfl ?_
                  refine r_iastore (pc := 126) (N := 286) hv 64 rfl rfl rfl h.1 ?_
                  replace h := h.2
                  obtain ⟨σ3, e_σ3⟩ : ∃ y : St, y = upI σ1 50 (8 * (σ1.1 50 (280 : Int32).toNatClampNeg) : Int32).toNatClampNeg l1 := ⟨_, rfl⟩
                  rw [← e_σ3]
                  replace h := h σ3 e_σ3
                  refine r_aload_n (pc := 127) hv 65 rfl rfl ?_
                  refine r_getR (pc := 128) (b := 50) hv 66 rfl rfl rfl rfl ?_
                  refine r_iload (pc := 131) hv 67 rfl rfl ?_
                  refine r_iconst (pc := 133) hv 68 rfl  ?_
                  refine r_iadd (pc := 134) hv 69 rfl  ?_
                  refine r_iload_n (pc := 135) hv 70 rfl rfl ?_
                  refine r_iastore (pc := 136) (N := 286) hv 71 rfl rfl rfl h.1 ?_
                  replace h := h.2
                  obtain ⟨σ4, e_σ4⟩ : ∃ y : St, y = upI σ3 50 ((8 * (σ1.1 50 (280 : Int32).toNatClampNeg)) + 1 : Int32).toNatClampNeg l2 := ⟨_, rfl⟩
                  rw [← e_σ4]
                  replace h := h σ4 e_σ4
                  refine r_aload_n (pc := 137) hv 72 rfl rfl ?_
                  refine r_getR (pc := 138) (b := 50) hv 73 rfl rfl rfl rfl ?_
                  refine r_iload (pc := 141) hv 74 rfl rfl ?_
                  refine r_iconst (pc := 143) hv 75 rfl  ?_
                  refine r_iadd (pc := 144) hv 76 rfl  ?_
                  refine r_iload_n (pc := 145) hv 77 rfl rfl ?_
                  refine r_iastore (pc := 146) (N := 286) hv 78 rfl rfl rfl h.1 ?_
                  replace h := h.2
                  obtain ⟨σ5, e_σ5⟩ : ∃ y : St, y = upI σ4 50 ((8 * (σ1.1 50 (280 : Int32).toNatClampNeg)) + 2 : Int32).toNatClampNeg l3 := ⟨_, rfl⟩
                  rw [← e_σ5]
                  replace h := h σ5 e_σ5
                  refine r_aload_n (pc := 147) hv 79 rfl rfl ?_
                  refine r_getR (pc := 148) (b := 50) hv 80 rfl rfl rfl rfl ?_
                  refine r_iload (pc := 151) hv 81 rfl rfl ?_
                  refine r_iconst (pc := 153) hv 82 rfl  ?_
                  refine r_iadd (pc := 154) hv 83 rfl  ?_
                  refine r_iload (pc := 155) hv 84 rfl rfl ?_
                  refine r_iastore (pc := 157) (N := 286) hv 85 rfl rfl rfl h.1 ?_
                  replace h := h.2
                  obtain ⟨σ6, e_σ6⟩ : ∃ y : St, y = upI σ5 50 ((8 * (σ1.1 50 (280 : Int32).toNatClampNeg)) + 3 : Int32).toNatClampNeg l4 := ⟨_, rfl⟩
                  rw [← e_σ6]
                  replace h := h σ6 e_σ6
                  refine r_aload_n (pc := 158) hv 86 rfl rfl ?_
                  refine r_getR (pc := 159) (b := 50) hv 87 rfl rfl rfl rfl ?_
                  refine r_iload (pc := 162) hv 88 rfl rfl ?_
                  refine r_iconst (pc := 164) hv 89 rfl  ?_
                  refine r_iadd (pc := 165) hv 90 rfl  ?_
                  refine r_iload (pc := 166) hv 91 rfl rfl ?_
                  refine r_iastore (pc := 168) (N := 286) hv 92 rfl rfl rfl h.1 ?_
                  replace h := h.2
                  obtain ⟨σ7, e_σ7⟩ : ∃ y : St, y = upI σ6 50 ((8 * (σ1.1 50 (280 : Int32).toNatClampNeg)) + 4 : Int32).toNatClampNeg l5 := ⟨_, rfl⟩
                  rw [← e_σ7]
                  replace h := h σ7 e_σ7
                  refine r_aload_n (pc := 169) hv 93 rfl rfl ?_
                  refine r_getR (pc := 170) (b := 50) hv 94 rfl rfl rfl rfl ?_
                  refine r_iload (pc := 173) hv 95 rfl rfl ?_
                  refine r_iconst (pc := 175) hv 96 rfl  ?_
                  refine r_iadd (pc := 176) hv 97 rfl  ?_
                  refine r_iload (pc := 177) hv 98 rfl rfl ?_
                  refine r_iastore (pc := 179) (N := 286) hv 99 rfl rfl rfl h.1 ?_
                  replace h := h.2
                  obtain ⟨σ8, e_σ8⟩ : ∃ y : St, y = upI σ7 50 ((8 * (σ1.1 50 (280 : Int32).toNatClampNeg)) + 5 : Int32).toNatClampNeg l6 := ⟨_, rfl⟩
                  rw [← e_σ8]
                  replace h := h σ8 e_σ8
                  refine r_aload_n (pc := 180) hv 100 rfl rfl ?_
                  refine r_getR (pc := 181) (b := 50) hv 101 rfl rfl rfl rfl ?_
                  refine r_iload (pc := 184) hv 102 rfl rfl ?_
                  refine r_bipush (pc := 186) hv 103 rfl  ?_
                  refine r_iadd (pc := 188) hv 104 rfl  ?_
                  refine r_iconst (pc := 189) hv 105 rfl  ?_
                  refine r_iastore (pc := 190) (N := 286) hv 106 rfl rfl rfl h.1 ?_
                  replace h := h.2
                  obtain ⟨σ9, e_σ9⟩ : ∃ y : St, y = upI σ8 50 ((8 * (σ1.1 50 (280 : Int32).toNatClampNeg)) + 6 : Int32).toNatClampNeg 0 := ⟨_, rfl⟩
                  rw [← e_σ9]
                  replace h := h σ9 e_σ9
                  refine r_aload_n (pc := 191) hv 107 rfl rfl ?_
                  refine r_getR (pc := 192) (b := 50) hv 108 rfl rfl rfl rfl ?_
                  refine r_iload (pc := 195) hv 109 rfl rfl ?_
                  refine r_bipush (pc := 197) hv 110 rfl  ?_
                  refine r_iadd (pc := 199) hv 111 rfl  ?_
                  refine r_iload_n (pc := 200) hv 112 rfl rfl ?_
                  refine r_iload_n (pc := 201) hv 113 rfl rfl ?_
                  refine r_iload (pc := 202) hv 114 rfl rfl ?_
                  refine r_callS (pc := 204) (l := [aI l5, aI l3, aI l1]) (av := [aI l1, aI l3, aI l5]) (t := [aI ((8 * (σ1.1 50 (280 : Int32).toNatClampNeg)) + 7), aR 50]) hv 115 rfl (Or.inl rfl) rfl rfl rfl trivial (hS.1 _ _ _ _ _ (fun r σ10 h => ?_) h)
                  obtain ⟨x11, rfl, h⟩ := h
                  show v 207 [some (aR 49), some (aI l1), some (aI l2), some (aI l3), some (aI l4), some (aI l5), some (aI l6), some (aI (8 * (σ1.1 50 (280 : Int32).toNatClampNeg)))] [aI x11, aI ((8 * (σ1.1 50 (280 : Int32).toNatClampNeg)) + 7), aR 50] σ10
                  refine r_iastore (pc := 207) (N := 286) hv 116 rfl rfl rfl h.1 ?_
                  replace h := h.2
                  obtain ⟨σ12, e_σ12⟩ : ∃ y : St, y = upI σ10 50 ((8 * (σ1.1 50 (280 : Int32).toNatClampNeg)) + 7 : Int32).toNatClampNeg x11 := ⟨_, rfl⟩
                  rw [← e_σ12]
                  replace h := h σ12 e_σ12
                  refine r_aload_n (pc := 208) hv 117 rfl rfl ?_
                  refine r_getR (pc := 209) (b := 50) hv 118 rfl rfl rfl rfl ?_
                  refine r_sipush (pc := 212) hv 119 rfl  ?_
                  refine r_dup2 (pc := 215) hv 120 rfl trivial trivial ?_
                  refine r_iaload (pc := 216) (N := 286) hv 121 rfl rfl rfl (by decide) h.1 ?_
                  replace h := h.2
                  refine r_iconst (pc := 217) hv 122 rfl  ?_
                  refine r_iadd (pc := 218) hv 123 rfl  ?_
                  refine r_iastore (pc := 219) (N := 286) hv 124 rfl rfl rfl h.1 ?_
                  replace h := h.2
                  obtain ⟨σ13, e_σ13⟩ : ∃ y : St, y = upI σ12 50 (280 : Int32).toNatClampNeg ((σ12.1 50 (280 : Int32).toNatClampNeg) + 1) := ⟨_, rfl⟩
                  rw [← e_σ13]
                  replace h := h σ13 e_σ13
                  refine r_aload_n (pc := 220) hv 125 rfl rfl ?_
                  refine r_getR (pc := 221) (b := 50) hv 126 rfl rfl rfl rfl ?_
                  refine r_sipush (pc := 224) hv 127 rfl  ?_
                  refine r_iconst (pc := 227) hv 128 rfl  ?_
                  refine r_iastore (pc := 228) (N := 286) hv 129 rfl rfl rfl h.1 ?_
                  replace h := h.2
                  obtain ⟨σ14, e_σ14⟩ : ∃ y : St, y = upI σ13 50 (285 : Int32).toNatClampNeg 0 := ⟨_, rfl⟩
                  rw [← e_σ14]
                  replace h := h σ14 e_σ14
                  refine r_aload_n (pc := 229) hv 130 rfl rfl ?_
                  refine r_getR (pc := 230) (b := 50) hv 131 rfl rfl rfl rfl ?_
                  refine r_sipush (pc := 233) hv 132 rfl  ?_
                  refine r_iaload (pc := 236) (N := 286) hv 133 rfl rfl rfl (by decide) h.1 ?_
                  replace h := h.2
                  refine r_iconst (pc := 237) hv 134 rfl  ?_
                  refine r_isub (pc := 238) hv 135 rfl  ?_
                  exact r_ireturn (pc := 239) hv 136 rfl rfl h
                · replace h := h.2 c
                  refine r_bipush (pc := 103) hv 51 rfl  ?_
                  exact r_ireturn (pc := 105) hv 52 rfl rfl h
              · replace h := h.2 c
                refine r_bipush (pc := 87) hv 43 rfl  ?_
                exact r_ireturn (pc := 89) hv 44 rfl rfl h
            · replace h := h.2 c
              refine r_bipush (pc := 75) hv 36 rfl  ?_
              exact r_ireturn (pc := 77) hv 37 rfl rfl h
theorem m_X9_hole {S : Sp} (hS : Sys S) {l1 : Int32} {l2 : Int32} {l3 : Int32} {l4 : Int32} {l5 : Int32} {l6 : Int32} {σ : St} {Φ : Rs} (h : ∀ v : Kt, Cl S Φ k_X9_hole v → Wk v → vc_X9_hole_0 S Φ v l1 l2 l3 l4 l5 l6 σ) : S 161 [aR 49, aI l1, aI l2, aI l3, aI l4, aI l5, aI l6] σ Φ :=
  hS.2 161 M_X9_hole k_X9_hole _ _ _ mkt_X9_hole (Nat.le_of_ble_eq_true rfl) (fun v hv hw => w_X9_hole_0 hS hv hw   l1 l2 l3 l4 l5 l6 σ (h v hv hw))
def vc_X9_aheadOf_68 (S : Sp) (Φ : Rs) (v : Kt) (l1 : Int32) (l2 : Int32) (l3 : Int32) (s0 : Int32) (σ : St) : Prop := ((s0 : Int32) = 0 → (v 4 [some (aR 49), some (aI l1), some (aI (l2 ||| 0)), some (aI (l3 + 1)), none] [] σ)) ∧ (¬ ((s0 : Int32) = 0) → (v 4 [some (aR 49), some (aI l1), some (aI (l2 ||| (1 <<< (l3 &&& 31)))), some (aI (l3 + 1)), none] [] σ))
theorem w_X9_aheadOf_68 {S : Sp} (hS : Sys S) {Φ : Rs} {v : Kt} (hv : Cl S Φ k_X9_aheadOf v) (hw : Wk v) (l1 : Int32) (l2 : Int32) (l3 : Int32) (s0 : Int32) (σ : St) (h : vc_X9_aheadOf_68 S Φ v l1 l2 l3 s0 σ) : v 68 [some (aR 49), some (aI l1), some (aI l2), some (aI l3), none] [aI s0] σ := by
  unfold vc_X9_aheadOf_68 at h
  refine r_istore (pc := 68) (lo' := [some (aR 49), some (aI l1), some (aI l2), some (aI l3), some (aI s0)]) hv 42 rfl rfl ?_
  refine r_iload_n (pc := 70) hv 43 rfl rfl ?_
  refine r_iload (pc := 71) hv 44 rfl rfl ?_
  refine r_if_eq (pc := 73) hv 45 rfl (fun c => ?_) (fun c => ?_)
  · replace h := h.1 c
    refine r_iconst (pc := 82) hv 50 rfl  ?_
    refine r_ior (pc := 83) hv 51 rfl  ?_
    refine r_istore_n (pc := 84) (lo' := [some (aR 49), some (aI l1), some (aI (l2 ||| 0)), some (aI l3), some (aI s0)]) hv 52 rfl rfl ?_
    refine r_iinc (pc := 85) (lo' := [some (aR 49), some (aI l1), some (aI (l2 ||| 0)), some (aI (l3 + 1)), some (aI s0)]) hv 53 rfl rfl rfl ?_
    refine r_goto (pc := 88) hv 54 rfl  ?_
    exact hw 4 [some (aR 49), some (aI l1), some (aI (l2 ||| 0)), some (aI (l3 + 1)), none] _ _ _ ⟨rfl, ⟨rfl, ⟨rfl, ⟨rfl, trivial⟩⟩⟩⟩ h
  · replace h := h.2 c
    refine r_iconst (pc := 76) hv 46 rfl  ?_
    refine r_iload_n (pc := 77) hv 47 rfl rfl ?_
    refine r_ishl (pc := 78) hv 48 rfl  ?_
    refine r_goto (pc := 79) hv 49 rfl  ?_
    refine r_ior (pc := 83) hv 51 rfl  ?_
    refine r_istore_n (pc := 84) (lo' := [some (aR 49), some (aI l1), some (aI (l2 ||| (1 <<< (l3 &&& 31)))), some (aI l3), some (aI s0)]) hv 52 rfl rfl ?_
    refine r_iinc (pc := 85) (lo' := [some (aR 49), some (aI l1), some (aI (l2 ||| (1 <<< (l3 &&& 31)))), some (aI (l3 + 1)), some (aI s0)]) hv 53 rfl rfl rfl ?_
    refine r_goto (pc := 88) hv 54 rfl  ?_
    exact hw 4 [some (aR 49), some (aI l1), some (aI (l2 ||| (1 <<< (l3 &&& 31)))), some (aI (l3 + 1)), none] _ _ _ ⟨rfl, ⟨rfl, ⟨rfl, ⟨rfl, trivial⟩⟩⟩⟩ h
def vc_X9_aheadOf_67 (S : Sp) (Φ : Rs) (v : Kt) (l1 : Int32) (l2 : Int32) (l3 : Int32) (σ : St) : Prop := vc_X9_aheadOf_68 S Φ v  l1 l2 l3 0 σ
theorem w_X9_aheadOf_67 {S : Sp} (hS : Sys S) {Φ : Rs} {v : Kt} (hv : Cl S Φ k_X9_aheadOf v) (hw : Wk v) (l1 : Int32) (l2 : Int32) (l3 : Int32) (σ : St) (h : vc_X9_aheadOf_67 S Φ v l1 l2 l3 σ) : v 67 [some (aR 49), some (aI l1), some (aI l2), some (aI l3), none] [] σ := by
  unfold vc_X9_aheadOf_67 at h
  refine r_iconst (pc := 67) hv 41 rfl  ?_
  exact (w_X9_aheadOf_68 hS hv hw   l1 l2 l3 0  σ h)
def vc_X9_aheadOf_4 (S : Sp) (Φ : Rs) (v : Kt) (l1 : Int32) (l2 : Int32) (l3 : Int32) (σ : St) : Prop := vp_in 280 286 ∧ (((σ.1 50 (280 : Int32).toNatClampNeg : Int32) ≤ l3 → (Φ [aI l2] σ)) ∧ (¬ ((σ.1 50 (280 : Int32).toNatClampNeg : Int32) ≤ l3) → (vp_in (8 * l3 + 2) 286 ∧ (((σ.1 50 (8 * l3 + 2 : Int32).toNatClampNeg : Int32) = 5 → (vc_X9_aheadOf_67 S Φ v  l1 l2 l3 σ)) ∧ (¬ ((σ.1 50 (8 * l3 + 2 : Int32).toNatClampNeg : Int32) = 5) → (vp_in (8 * l3 + 0) 286 ∧ (vp_in (8 * l1 + 0) 286 ∧ ((¬ (σ.1 50 (8 * l3 + 0 : Int32).toNatClampNeg : Int32) = ((σ.1 50 (8 * l1 + 0 : Int32).toNatClampNeg) - 1) → (vc_X9_aheadOf_67 S Φ v  l1 l2 l3 σ)) ∧ ((σ.1 50 (8 * l3 + 0 : Int32).toNatClampNeg : Int32) = ((σ.1 50 (8 * l1 + 0 : Int32).toNatClampNeg) - 1) → (vp_in (8 * l3 + 1) 286 ∧ (vp_in (8 * l1 + 1) 286 ∧ (S 145 [aI ((σ.1 50 (8 * l3 + 1 : Int32).toNatClampNeg) - (σ.1 50 (8 * l1 + 1 : Int32).toNatClampNeg))] σ (fun r σ1 => ∃ x2 : Int32, r = [aI x2] ∧ (((2 : Int32) ≤ x2 → (vc_X9_aheadOf_67 S Φ v  l1 l2 l3 σ1)) ∧ (¬ ((2 : Int32) ≤ x2) → (vc_X9_aheadOf_68 S Φ v  l1 l2 l3 1 σ1))))))))))))))))
theorem w_X9_aheadOf_4 {S : Sp} (hS : Sys S) {Φ : Rs} {v : Kt} (hv : Cl S Φ k_X9_aheadOf v) (hw : Wk v) (l1 : Int32) (l2 : Int32) (l3 : Int32) (σ : St) (h : vc_X9_aheadOf_4 S Φ v l1 l2 l3 σ) : v 4 [some (aR 49), some (aI l1), some (aI l2), some (aI l3), none] [] σ := by
  unfold vc_X9_aheadOf_4 at h
  refine r_iload_n (pc := 4) hv 4 rfl rfl ?_
  refine r_aload_n (pc := 5) hv 5 rfl rfl ?_
  refine r_getR (pc := 6) (b := 50) hv 6 rfl rfl rfl rfl ?_
  refine r_sipush (pc := 9) hv 7 rfl  ?_
  refine r_iaload (pc := 12) (N := 286) hv 8 rfl rfl rfl (by decide) h.1 ?_
  replace h := h.2
  refine r_icmp_ge (pc := 13) hv 9 rfl (fun c => ?_) (fun c => ?_)
  · replace h := h.1 c
    refine r_iload_n (pc := 91) hv 55 rfl rfl ?_
    exact r_ireturn (pc := 92) hv 56 rfl rfl h
  · replace h := h.2 c
    refine r_aload_n (pc := 16) hv 10 rfl rfl ?_
    refine r_iload_n (pc := 17) hv 11 rfl rfl ?_
    refine r_iconst (pc := 18) hv 12 rfl  ?_
    refine r_callV (pc := 19) (l := [aI 2, aI l3]) (av := [aI l3, aI 2]) (a := 49) (t := []) hv 13 rfl rfl rfl rfl (rcv_o (by decide) rfl) trivial (t_X9_its hS h.1 ?_)
    replace h := h.2
    show v 22 [some (aR 49), some (aI l1), some (aI l2), some (aI l3), none] [aI (σ.1 50 (8 * l3 + 2 : Int32).toNatClampNeg)] σ
    refine r_iconst (pc := 22) hv 14 rfl  ?_
    refine r_icmp_eq (pc := 23) hv 15 rfl (fun c => ?_) (fun c => ?_)
    · replace h := h.1 c
      exact (w_X9_aheadOf_67 hS hv hw   l1 l2 l3  σ h)
    · replace h := h.2 c
      refine r_aload_n (pc := 26) hv 16 rfl rfl ?_
      refine r_iload_n (pc := 27) hv 17 rfl rfl ?_
      refine r_iconst (pc := 28) hv 18 rfl  ?_
      refine r_callV (pc := 29) (l := [aI 0, aI l3]) (av := [aI l3, aI 0]) (a := 49) (t := []) hv 19 rfl rfl rfl rfl (rcv_o (by decide) rfl) trivial (t_X9_its hS h.1 ?_)
      replace h := h.2
      show v 32 [some (aR 49), some (aI l1), some (aI l2), some (aI l3), none] [aI (σ.1 50 (8 * l3 + 0 : Int32).toNatClampNeg)] σ
      refine r_aload_n (pc := 32) hv 20 rfl rfl ?_
      refine r_iload_n (pc := 33) hv 21 rfl rfl ?_
      refine r_iconst (pc := 34) hv 22 rfl  ?_
      refine r_callV (pc := 35) (l := [aI 0, aI l1]) (av := [aI l1, aI 0]) (a := 49) (t := [aI (σ.1 50 (8 * l3 + 0 : Int32).toNatClampNeg)]) hv 23 rfl rfl rfl rfl (rcv_o (by decide) rfl) trivial (t_X9_its hS h.1 ?_)
      replace h := h.2
      show v 38 [some (aR 49), some (aI l1), some (aI l2), some (aI l3), none] [aI (σ.1 50 (8 * l1 + 0 : Int32).toNatClampNeg), aI (σ.1 50 (8 * l3 + 0 : Int32).toNatClampNeg)] σ
      refine r_iconst (pc := 38) hv 24 rfl  ?_
      refine r_isub (pc := 39) hv 25 rfl  ?_
      refine r_icmp_ne (pc := 40) hv 26 rfl (fun c => ?_) (fun c => ?_)
      · replace h := h.1 c
        exact (w_X9_aheadOf_67 hS hv hw   l1 l2 l3  σ h)
      · replace h := h.2 c
        refine r_aload_n (pc := 43) hv 27 rfl rfl ?_
        refine r_iload_n (pc := 44) hv 28 rfl rfl ?_
        refine r_iconst (pc := 45) hv 29 rfl  ?_
        refine r_callV (pc := 46) (l := [aI 1, aI l3]) (av := [aI l3, aI 1]) (a := 49) (t := []) hv 30 rfl rfl rfl rfl (rcv_o (by decide) rfl) trivial (t_X9_its hS h.1 ?_)
        replace h := h.2
        show v 49 [some (aR 49), some (aI l1), some (aI l2), some (aI l3), none] [aI (σ.1 50 (8 * l3 + 1 : Int32).toNatClampNeg)] σ
        refine r_aload_n (pc := 49) hv 31 rfl rfl ?_
        refine r_iload_n (pc := 50) hv 32 rfl rfl ?_
        refine r_iconst (pc := 51) hv 33 rfl  ?_
        refine r_callV (pc := 52) (l := [aI 1, aI l1]) (av := [aI l1, aI 1]) (a := 49) (t := [aI (σ.1 50 (8 * l3 + 1 : Int32).toNatClampNeg)]) hv 34 rfl rfl rfl rfl (rcv_o (by decide) rfl) trivial (t_X9_its hS h.1 ?_)
        replace h := h.2
        show v 55 [some (aR 49), some (aI l1), some (aI l2), some (aI l3), none] [aI (σ.1 50 (8 * l1 + 1 : Int32).toNatClampNeg), aI (σ.1 50 (8 * l3 + 1 : Int32).toNatClampNeg)] σ
        refine r_isub (pc := 55) hv 35 rfl  ?_
        refine r_callS (pc := 56) (l := [aI ((σ.1 50 (8 * l3 + 1 : Int32).toNatClampNeg) - (σ.1 50 (8 * l1 + 1 : Int32).toNatClampNeg))]) (av := [aI ((σ.1 50 (8 * l3 + 1 : Int32).toNatClampNeg) - (σ.1 50 (8 * l1 + 1 : Int32).toNatClampNeg))]) (t := []) hv 36 rfl (Or.inl rfl) rfl rfl rfl trivial (hS.1 _ _ _ _ _ (fun r σ1 h => ?_) h)
        obtain ⟨x2, rfl, h⟩ := h
        show v 59 [some (aR 49), some (aI l1), some (aI l2), some (aI l3), none] [aI x2] σ1
        refine r_iconst (pc := 59) hv 37 rfl  ?_
        refine r_icmp_ge (pc := 60) hv 38 rfl (fun c => ?_) (fun c => ?_)
        · replace h := h.1 c
          exact (w_X9_aheadOf_67 hS hv hw   l1 l2 l3  σ1 h)
        · replace h := h.2 c
          refine r_iconst (pc := 63) hv 39 rfl  ?_
          refine r_goto (pc := 64) hv 40 rfl  ?_
          exact (w_X9_aheadOf_68 hS hv hw   l1 l2 l3 1  σ1 h)
def vc_X9_aheadOf_0 (S : Sp) (Φ : Rs) (v : Kt) (l1 : Int32) (σ : St) : Prop := v 4 [some (aR 49), some (aI l1), some (aI 0), some (aI 0), none] [] σ
theorem w_X9_aheadOf_0 {S : Sp} (hS : Sys S) {Φ : Rs} {v : Kt} (hv : Cl S Φ k_X9_aheadOf v) (hw : Wk v) (l1 : Int32) (σ : St) (h : vc_X9_aheadOf_0 S Φ v l1 σ) : v 0 [some (aR 49), some (aI l1), none, none, none] [] σ := by
  unfold vc_X9_aheadOf_0 at h
  refine r_iconst (pc := 0) hv 0 rfl  ?_
  refine r_istore_n (pc := 1) (lo' := [some (aR 49), some (aI l1), some (aI 0), none, none]) hv 1 rfl rfl ?_
  refine r_iconst (pc := 2) hv 2 rfl  ?_
  refine r_istore_n (pc := 3) (lo' := [some (aR 49), some (aI l1), some (aI 0), some (aI 0), none]) hv 3 rfl rfl ?_
  exact h
theorem m_X9_aheadOf {S : Sp} (hS : Sys S) {l1 : Int32} {σ : St} {Φ : Rs} (h : ∀ v : Kt, Cl S Φ k_X9_aheadOf v → Wk v → vc_X9_aheadOf_0 S Φ v l1 σ) : S 162 [aR 49, aI l1] σ Φ :=
  hS.2 162 M_X9_aheadOf k_X9_aheadOf _ _ _ mkt_X9_aheadOf (Nat.le_of_ble_eq_true rfl) (fun v hv hw => w_X9_aheadOf_0 hS hv hw   l1 σ (h v hv hw))
def vc_X9_of_0 (S : Sp) (Φ : Rs) (v : Kt) (l1 : Int32) (l2 : Int32) (σ : St) : Prop := ((b2 ((0 : Int64) ≤ (l1 : Int32).toInt64 ∧ ((l1 : Int32).toInt64 : Int64) ≤ (σ.1 50 (280 : Int32).toNatClampNeg - 1 : Int32).toInt64) : Int32) = 0 → (Φ [aI (-1)] σ)) ∧ (¬ ((b2 ((0 : Int64) ≤ (l1 : Int32).toInt64 ∧ ((l1 : Int32).toInt64 : Int64) ≤ (σ.1 50 (280 : Int32).toNatClampNeg - 1 : Int32).toInt64) : Int32) = 0) → ((¬ (b2 ((0 : Int64) ≤ ((l2 : Int32).toInt64) ∧ ((l2 : Int32).toInt64 : Int64) ≤ 11) : Int32) = 0 → (((l2 : Int32) = 7 → (S 156 [aR 49, aI l1] σ (fun r σ1 => ∃ x2 : Int32, r = [aI x2] ∧ (Φ [aI x2] σ1)))) ∧ (¬ ((l2 : Int32) = 7) → (((l2 : Int32) = 8 → (S 157 [aR 49, aI l1] σ (fun r σ3 => ∃ x4 : Int32, r = [aI x4] ∧ (Φ [aI x4] σ3)))) ∧ (¬ ((l2 : Int32) = 8) → (((l2 : Int32) = 9 → (S 158 [aR 49, aI l1] σ (fun r σ5 => ∃ x6 : Int32, r = [aI x6] ∧ (Φ [aI x6] σ5)))) ∧ (¬ ((l2 : Int32) = 9) → (((l2 : Int32) = 10 → (vp_in (8 * l1 + 7) 286 ∧ (Φ [aI (σ.1 50 (8 * l1 + 7 : Int32).toNatClampNeg)] σ))) ∧ (¬ ((l2 : Int32) = 10) → (((l2 : Int32) = 11 → (S 162 [aR 49, aI l1] σ (fun r σ7 => ∃ x8 : Int32, r = [aI x8] ∧ (Φ [aI x8] σ7)))) ∧ (¬ ((l2 : Int32) = 11) → (vp_in (8 * l1 + l2) 286 ∧ (Φ [aI (σ.1 50 (8 * l1 + l2 : Int32).toNatClampNeg)] σ))))))))))))) ∧ ((b2 ((0 : Int64) ≤ ((l2 : Int32).toInt64) ∧ ((l2 : Int32).toInt64 : Int64) ≤ 11) : Int32) = 0 → (Φ [aI (-1)] σ))))
theorem w_X9_of_0 {S : Sp} (hS : Sys S) {Φ : Rs} {v : Kt} (hv : Cl S Φ k_X9_of v) (hw : Wk v) (l1 : Int32) (l2 : Int32) (σ : St) (h : vc_X9_of_0 S Φ v l1 l2 σ) : v 0 [some (aR 49), some (aI l1), some (aI l2)] [] σ := by
  unfold vc_X9_of_0 at h
  refine r_aload_n (pc := 0) hv 0 rfl rfl ?_
  refine r_iload_n (pc := 1) hv 1 rfl rfl ?_
  refine r_callV (pc := 2) (l := [aI l1]) (av := [aI l1]) (a := 49) (t := []) hv 2 rfl rfl rfl rfl (rcv_o (by decide) rfl) trivial (t_X9_isHole hS ?_)
  show v 5 [some (aR 49), some (aI l1), some (aI l2)] [aI (b2 ((0 : Int64) ≤ (l1 : Int32).toInt64 ∧ ((l1 : Int32).toInt64 : Int64) ≤ (σ.1 50 (280 : Int32).toNatClampNeg - 1 : Int32).toInt64))] σ
  refine r_if_eq (pc := 5) hv 3 rfl (fun c => ?_) (fun c => ?_)
  · replace h := h.1 c
    refine r_iconst (pc := 20) hv 10 rfl  ?_
    exact r_ireturn (pc := 21) hv 11 rfl rfl h
  · replace h := h.2 c
    refine r_iload_n (pc := 8) hv 4 rfl rfl ?_
    refine r_i2l (pc := 9) hv 5 rfl  ?_
    refine r_lconst (pc := 10) hv 6 rfl  ?_
    refine r_ldc2_w (pc := 11) hv 7 rfl  ?_
    refine r_callS (pc := 14) (l := [aL 11, aL 0, aL ((l2 : Int32).toInt64)]) (av := [aL ((l2 : Int32).toInt64), aL 0, aL 11]) (t := []) hv 8 rfl (Or.inl rfl) rfl rfl rfl trivial (t_X9_in hS ?_)
    show v 17 [some (aR 49), some (aI l1), some (aI l2)] [aI (b2 ((0 : Int64) ≤ ((l2 : Int32).toInt64) ∧ ((l2 : Int32).toInt64 : Int64) ≤ 11))] σ
    refine r_if_ne (pc := 17) hv 9 rfl (fun c => ?_) (fun c => ?_)
    · replace h := h.1 c
      refine r_iload_n (pc := 22) hv 12 rfl rfl ?_
      refine r_tab (pc := 23) hv 13 rfl ?_
      refine ⟨fun c => ?_, fun c => ?_⟩
      · replace h := h.1 c
        show v 56 [some (aR 49), some (aI l1), some (aI l2)] [] σ
        refine r_aload_n (pc := 56) hv 14 rfl rfl ?_
        refine r_iload_n (pc := 57) hv 15 rfl rfl ?_
        refine r_callV (pc := 58) (l := [aI l1]) (av := [aI l1]) (a := 49) (t := []) hv 16 rfl rfl rfl rfl (rcv_o (by decide) rfl) trivial (hS.1 _ _ _ _ _ (fun r σ1 h => ?_) h)
        obtain ⟨x2, rfl, h⟩ := h
        show v 61 [some (aR 49), some (aI l1), some (aI l2)] [aI x2] σ1
        exact r_ireturn (pc := 61) hv 17 rfl rfl h
      · replace h := h.2 c
        refine ⟨fun c => ?_, fun c => ?_⟩
        · replace h := h.1 c
          show v 62 [some (aR 49), some (aI l1), some (aI l2)] [] σ
          refine r_aload_n (pc := 62) hv 18 rfl rfl ?_
          refine r_iload_n (pc := 63) hv 19 rfl rfl ?_
          refine r_callV (pc := 64) (l := [aI l1]) (av := [aI l1]) (a := 49) (t := []) hv 20 rfl rfl rfl rfl (rcv_o (by decide) rfl) trivial (hS.1 _ _ _ _ _ (fun r σ3 h => ?_) h)
          obtain ⟨x4, rfl, h⟩ := h
          show v 67 [some (aR 49), some (aI l1), some (aI l2)] [aI x4] σ3
          exact r_ireturn (pc := 67) hv 21 rfl rfl h
        · replace h := h.2 c
          refine ⟨fun c => ?_, fun c => ?_⟩
          · replace h := h.1 c
            show v 68 [some (aR 49), some (aI l1), some (aI l2)] [] σ
            refine r_aload_n (pc := 68) hv 22 rfl rfl ?_
            refine r_iload_n (pc := 69) hv 23 rfl rfl ?_
            refine r_callV (pc := 70) (l := [aI l1]) (av := [aI l1]) (a := 49) (t := []) hv 24 rfl rfl rfl rfl (rcv_o (by decide) rfl) trivial (hS.1 _ _ _ _ _ (fun r σ5 h => ?_) h)
            obtain ⟨x6, rfl, h⟩ := h
            show v 73 [some (aR 49), some (aI l1), some (aI l2)] [aI x6] σ5
            exact r_ireturn (pc := 73) hv 25 rfl rfl h
          · replace h := h.2 c
            refine ⟨fun c => ?_, fun c => ?_⟩
            · replace h := h.1 c
              show v 74 [some (aR 49), some (aI l1), some (aI l2)] [] σ
              refine r_aload_n (pc := 74) hv 26 rfl rfl ?_
              refine r_iload_n (pc := 75) hv 27 rfl rfl ?_
              refine r_bipush (pc := 76) hv 28 rfl  ?_
              refine r_callV (pc := 78) (l := [aI 7, aI l1]) (av := [aI l1, aI 7]) (a := 49) (t := []) hv 29 rfl rfl rfl rfl (rcv_o (by decide) rfl) trivial (t_X9_its hS h.1 ?_)
              replace h := h.2
              show v 81 [some (aR 49), some (aI l1), some (aI l2)] [aI (σ.1 50 (8 * l1 + 7 : Int32).toNatClampNeg)] σ
              exact r_ireturn (pc := 81) hv 30 rfl rfl h
            · replace h := h.2 c
              refine ⟨fun c => ?_, fun c => ?_⟩
              · replace h := h.1 c
                show v 82 [some (aR 49), some (aI l1), some (aI l2)] [] σ
                refine r_aload_n (pc := 82) hv 31 rfl rfl ?_
                refine r_iload_n (pc := 83) hv 32 rfl rfl ?_
                refine r_callV (pc := 84) (l := [aI l1]) (av := [aI l1]) (a := 49) (t := []) hv 33 rfl rfl rfl rfl (rcv_o (by decide) rfl) trivial (hS.1 _ _ _ _ _ (fun r σ7 h => ?_) h)
                obtain ⟨x8, rfl, h⟩ := h
                show v 87 [some (aR 49), some (aI l1), some (aI l2)] [aI x8] σ7
                exact r_ireturn (pc := 87) hv 34 rfl rfl h
              · replace h := h.2 c
                show v 88 [some (aR 49), some (aI l1), some (aI l2)] [] σ
                refine r_aload_n (pc := 88) hv 35 rfl rfl ?_
                refine r_iload_n (pc := 89) hv 36 rfl rfl ?_
                refine r_iload_n (pc := 90) hv 37 rfl rfl ?_
                refine r_callV (pc := 91) (l := [aI l2, aI l1]) (av := [aI l1, aI l2]) (a := 49) (t := []) hv 38 rfl rfl rfl rfl (rcv_o (by decide) rfl) trivial (t_X9_its hS h.1 ?_)
                replace h := h.2
                show v 94 [some (aR 49), some (aI l1), some (aI l2)] [aI (σ.1 50 (8 * l1 + l2 : Int32).toNatClampNeg)] σ
                exact r_ireturn (pc := 94) hv 39 rfl rfl h
    · replace h := h.2 c
      refine r_iconst (pc := 20) hv 10 rfl  ?_
      exact r_ireturn (pc := 21) hv 11 rfl rfl h
theorem m_X9_of {S : Sp} (hS : Sys S) {l1 : Int32} {l2 : Int32} {σ : St} {Φ : Rs} (h : ∀ v : Kt, Cl S Φ k_X9_of v → Wk v → vc_X9_of_0 S Φ v l1 l2 σ) : S 163 [aR 49, aI l1, aI l2] σ Φ :=
  hS.2 163 M_X9_of k_X9_of _ _ _ mkt_X9_of (Nat.le_of_ble_eq_true rfl) (fun v hv hw => w_X9_of_0 hS hv hw   l1 l2 σ (h v hv hw))
def vc_X9_becomes_82 (S : Sp) (Φ : Rs) (v : Kt) (l1 : Int32) (l2 : Int32) (l3 : Int32) (s0 : Int32) (σ : St) : Prop := (¬ (s0 : Int32) = 0 → (vp_in (8 * l1 + l2) 286 ∧ (vp_in ((8 * l1) + l2) 286 ∧ (∀ σ1 : St, σ1 = upI σ 50 ((8 * l1) + l2 : Int32).toNatClampNeg l3 → (vp_in 285 286 ∧ (∀ σ2 : St, σ2 = upI σ1 50 (285 : Int32).toNatClampNeg 0 → (Φ [aI (σ.1 50 (8 * l1 + l2 : Int32).toNatClampNeg)] σ2))))))) ∧ ((s0 : Int32) = 0 → (Φ [aI (-2)] σ))
theorem w_X9_becomes_82 {S : Sp} (hS : Sys S) {Φ : Rs} {v : Kt} (hv : Cl S Φ k_X9_becomes v) (hw : Wk v) (l1 : Int32) (l2 : Int32) (l3 : Int32) (s0 : Int32) (σ : St) (h : vc_X9_becomes_82 S Φ v l1 l2 l3 s0 σ) : v 82 [some (aR 49), some (aI l1), some (aI l2), some (aI l3), none, none] [aI s0] σ := by
  unfold vc_X9_becomes_82 at h
  refine r_istore (pc := 82) (lo' := [some (aR 49), some (aI l1), some (aI l2), some (aI l3), some (aI s0), none]) hv 45 rfl rfl ?_
  refine r_iload (pc := 84) hv 46 rfl rfl ?_
  refine r_if_ne (pc := 86) hv 47 rfl (fun c => ?_) (fun c => ?_)
  · replace h := h.1 c
    refine r_aload_n (pc := 92) hv 50 rfl rfl ?_
    refine r_iload_n (pc := 93) hv 51 rfl rfl ?_
    refine r_iload_n (pc := 94) hv 52 rfl rfl ?_
    refine r_callV (pc := 95) (l := [aI l2, aI l1]) (av := [aI l1, aI l2]) (a := 49) (t := []) hv 53 rfl rfl rfl rfl (rcv_o (by decide) rfl) trivial (t_X9_its hS h.1 ?_)
    replace h := h.2
    show v 98 [some (aR 49), some (aI l1), some (aI l2), some (aI l3), some (aI s0), none] [aI (σ.1 50 (8 * l1 + l2 : Int32).toNatClampNeg)] σ
    refine r_istore (pc := 98) (lo' := [some (aR 49), some (aI l1), some (aI l2), some (aI l3), some (aI s0), some (aI (σ.1 50 (8 * l1 + l2 : Int32).toNatClampNeg))]) hv 54 rfl rfl ?_
    refine r_aload_n (pc := 100) hv 55 rfl rfl ?_
    refine r_getR (pc := 101) (b := 50) hv 56 rfl rfl rfl rfl ?_
    refine r_bipush (pc := 104) hv 57 rfl  ?_
    refine r_iload_n (pc := 106) hv 58 rfl rfl ?_
    refine r_imul (pc := 107) hv 59 rfl  ?_
    refine r_iload_n (pc := 108) hv 60 rfl rfl ?_
    refine r_iadd (pc := 109) hv 61 rfl  ?_
    refine r_iload_n (pc := 110) hv 62 rfl rfl ?_
    refine r_iastore (pc := 111) (N := 286) hv 63 rfl rfl rfl h.1 ?_
    replace h := h.2
    obtain ⟨σ1, e_σ1⟩ : ∃ y : St, y = upI σ 50 ((8 * l1) + l2 : Int32).toNatClampNeg l3 := ⟨_, rfl⟩
    rw [← e_σ1]
    replace h := h σ1 e_σ1
    refine r_aload_n (pc := 112) hv 64 rfl rfl ?_
    refine r_getR (pc := 113) (b := 50) hv 65 rfl rfl rfl rfl ?_
    refine r_sipush (pc := 116) hv 66 rfl  ?_
    refine r_iconst (pc := 119) hv 67 rfl  ?_
    refine r_iastore (pc := 120) (N := 286) hv 68 rfl rfl rfl h.1 ?_
    replace h := h.2
    obtain ⟨σ2, e_σ2⟩ : ∃ y : St, y = upI σ1 50 (285 : Int32).toNatClampNeg 0 := ⟨_, rfl⟩
    rw [← e_σ2]
    replace h := h σ2 e_σ2
    refine r_iload (pc := 121) hv 69 rfl rfl ?_
    exact r_ireturn (pc := 123) hv 70 rfl rfl h
  · replace h := h.2 c
    refine r_bipush (pc := 89) hv 48 rfl  ?_
    exact r_ireturn (pc := 91) hv 49 rfl rfl h
def vc_X9_becomes_81 (S : Sp) (Φ : Rs) (v : Kt) (l1 : Int32) (l2 : Int32) (l3 : Int32) (σ : St) : Prop := vc_X9_becomes_82 S Φ v  l1 l2 l3 0 σ
theorem w_X9_becomes_81 {S : Sp} (hS : Sys S) {Φ : Rs} {v : Kt} (hv : Cl S Φ k_X9_becomes v) (hw : Wk v) (l1 : Int32) (l2 : Int32) (l3 : Int32) (σ : St) (h : vc_X9_becomes_81 S Φ v l1 l2 l3 σ) : v 81 [some (aR 49), some (aI l1), some (aI l2), some (aI l3), none, none] [] σ := by
  unfold vc_X9_becomes_81 at h
  refine r_iconst (pc := 81) hv 44 rfl  ?_
  exact (w_X9_becomes_82 hS hv hw   l1 l2 l3 0  σ h)
def vc_X9_becomes_0 (S : Sp) (Φ : Rs) (v : Kt) (l1 : Int32) (l2 : Int32) (l3 : Int32) (σ : St) : Prop := (¬ (b2 ((0 : Int64) ≤ (l1 : Int32).toInt64 ∧ ((l1 : Int32).toInt64 : Int64) ≤ (σ.1 50 (280 : Int32).toNatClampNeg - 1 : Int32).toInt64) : Int32) = 0 → ((¬ (l2 : Int32) = 3 → ((¬ (l2 : Int32) = 4 → ((¬ (l2 : Int32) = 5 → ((¬ (l2 : Int32) = 6 → (vc_X9_becomes_81 S Φ v  l1 l2 l3 σ)) ∧ ((l2 : Int32) = 6 → (((b2 ((0 : Int64) ≤ ((l3 : Int32).toInt64) ∧ ((l3 : Int32).toInt64 : Int64) ≤ 1) : Int32) = 0 → (vc_X9_becomes_81 S Φ v  l1 l2 l3 σ)) ∧ (¬ ((b2 ((0 : Int64) ≤ ((l3 : Int32).toInt64) ∧ ((l3 : Int32).toInt64 : Int64) ≤ 1) : Int32) = 0) → (vc_X9_becomes_82 S Φ v  l1 l2 l3 1 σ)))))) ∧ ((l2 : Int32) = 5 → (vc_X9_becomes_82 S Φ v  l1 l2 l3 (b2 ((0 : Int64) ≤ ((l3 : Int32).toInt64) ∧ ((l3 : Int32).toInt64 : Int64) ≤ 999)) σ)))) ∧ ((l2 : Int32) = 4 → (vc_X9_becomes_82 S Φ v  l1 l2 l3 (b2 ((1 : Int64) ≤ ((l3 : Int32).toInt64) ∧ ((l3 : Int32).toInt64 : Int64) ≤ 20)) σ)))) ∧ ((l2 : Int32) = 3 → (vc_X9_becomes_82 S Φ v  l1 l2 l3 (b2 ((1 : Int64) ≤ ((l3 : Int32).toInt64) ∧ ((l3 : Int32).toInt64 : Int64) ≤ 99)) σ)))) ∧ ((b2 ((0 : Int64) ≤ (l1 : Int32).toInt64 ∧ ((l1 : Int32).toInt64 : Int64) ≤ (σ.1 50 (280 : Int32).toNatClampNeg - 1 : Int32).toInt64) : Int32) = 0 → (Φ [aI (-1)] σ))
theorem w_X9_becomes_0 {S : Sp} (hS : Sys S) {Φ : Rs} {v : Kt} (hv : Cl S Φ k_X9_becomes v) (hw : Wk v) (l1 : Int32) (l2 : Int32) (l3 : Int32) (σ : St) (h : vc_X9_becomes_0 S Φ v l1 l2 l3 σ) : v 0 [some (aR 49), some (aI l1), some (aI l2), some (aI l3), none, none] [] σ := by
  unfold vc_X9_becomes_0 at h
  refine r_aload_n (pc := 0) hv 0 rfl rfl ?_
  refine r_iload_n (pc := 1) hv 1 rfl rfl ?_
  refine r_callV (pc := 2) (l := [aI l1]) (av := [aI l1]) (a := 49) (t := []) hv 2 rfl rfl rfl rfl (rcv_o (by decide) rfl) trivial (t_X9_isHole hS ?_)
  show v 5 [some (aR 49), some (aI l1), some (aI l2), some (aI l3), none, none] [aI (b2 ((0 : Int64) ≤ (l1 : Int32).toInt64 ∧ ((l1 : Int32).toInt64 : Int64) ≤ (σ.1 50 (280 : Int32).toNatClampNeg - 1 : Int32).toInt64))] σ
  refine r_if_ne (pc := 5) hv 3 rfl (fun c => ?_) (fun c => ?_)
  · replace h := h.1 c
    refine r_iload_n (pc := 10) hv 6 rfl rfl ?_
    refine r_iconst (pc := 11) hv 7 rfl  ?_
    refine r_icmp_ne (pc := 12) hv 8 rfl (fun c => ?_) (fun c => ?_)
    · replace h := h.1 c
      refine r_iload_n (pc := 27) hv 15 rfl rfl ?_
      refine r_iconst (pc := 28) hv 16 rfl  ?_
      refine r_icmp_ne (pc := 29) hv 17 rfl (fun c => ?_) (fun c => ?_)
      · replace h := h.1 c
        refine r_iload_n (pc := 44) hv 24 rfl rfl ?_
        refine r_iconst (pc := 45) hv 25 rfl  ?_
        refine r_icmp_ne (pc := 46) hv 26 rfl (fun c => ?_) (fun c => ?_)
        · replace h := h.1 c
          refine r_iload_n (pc := 61) hv 33 rfl rfl ?_
          refine r_bipush (pc := 62) hv 34 rfl  ?_
          refine r_icmp_ne (pc := 64) hv 35 rfl (fun c => ?_) (fun c => ?_)
          · replace h := h.1 c
            exact (w_X9_becomes_81 hS hv hw   l1 l2 l3  σ h)
          · replace h := h.2 c
            refine r_iload_n (pc := 67) hv 36 rfl rfl ?_
            refine r_i2l (pc := 68) hv 37 rfl  ?_
            refine r_lconst (pc := 69) hv 38 rfl  ?_
            refine r_lconst (pc := 70) hv 39 rfl  ?_
            refine r_callS (pc := 71) (l := [aL 1, aL 0, aL ((l3 : Int32).toInt64)]) (av := [aL ((l3 : Int32).toInt64), aL 0, aL 1]) (t := []) hv 40 rfl (Or.inl rfl) rfl rfl rfl trivial (t_X9_in hS ?_)
            show v 74 [some (aR 49), some (aI l1), some (aI l2), some (aI l3), none, none] [aI (b2 ((0 : Int64) ≤ ((l3 : Int32).toInt64) ∧ ((l3 : Int32).toInt64 : Int64) ≤ 1))] σ
            refine r_if_eq (pc := 74) hv 41 rfl (fun c => ?_) (fun c => ?_)
            · replace h := h.1 c
              exact (w_X9_becomes_81 hS hv hw   l1 l2 l3  σ h)
            · replace h := h.2 c
              refine r_iconst (pc := 77) hv 42 rfl  ?_
              refine r_goto (pc := 78) hv 43 rfl  ?_
              exact (w_X9_becomes_82 hS hv hw   l1 l2 l3 1  σ h)
        · replace h := h.2 c
          refine r_iload_n (pc := 49) hv 27 rfl rfl ?_
          refine r_i2l (pc := 50) hv 28 rfl  ?_
          refine r_lconst (pc := 51) hv 29 rfl  ?_
          refine r_ldc2_w (pc := 52) hv 30 rfl  ?_
          refine r_callS (pc := 55) (l := [aL 999, aL 0, aL ((l3 : Int32).toInt64)]) (av := [aL ((l3 : Int32).toInt64), aL 0, aL 999]) (t := []) hv 31 rfl (Or.inl rfl) rfl rfl rfl trivial (t_X9_in hS ?_)
          show v 58 [some (aR 49), some (aI l1), some (aI l2), some (aI l3), none, none] [aI (b2 ((0 : Int64) ≤ ((l3 : Int32).toInt64) ∧ ((l3 : Int32).toInt64 : Int64) ≤ 999))] σ
          refine r_goto (pc := 58) hv 32 rfl  ?_
          exact (w_X9_becomes_82 hS hv hw   l1 l2 l3 (b2 ((0 : Int64) ≤ ((l3 : Int32).toInt64) ∧ ((l3 : Int32).toInt64 : Int64) ≤ 999))  σ h)
      · replace h := h.2 c
        refine r_iload_n (pc := 32) hv 18 rfl rfl ?_
        refine r_i2l (pc := 33) hv 19 rfl  ?_
        refine r_lconst (pc := 34) hv 20 rfl  ?_
        refine r_ldc2_w (pc := 35) hv 21 rfl  ?_
        refine r_callS (pc := 38) (l := [aL 20, aL 1, aL ((l3 : Int32).toInt64)]) (av := [aL ((l3 : Int32).toInt64), aL 1, aL 20]) (t := []) hv 22 rfl (Or.inl rfl) rfl rfl rfl trivial (t_X9_in hS ?_)
        show v 41 [some (aR 49), some (aI l1), some (aI l2), some (aI l3), none, none] [aI (b2 ((1 : Int64) ≤ ((l3 : Int32).toInt64) ∧ ((l3 : Int32).toInt64 : Int64) ≤ 20))] σ
        refine r_goto (pc := 41) hv 23 rfl  ?_
        exact (w_X9_becomes_82 hS hv hw   l1 l2 l3 (b2 ((1 : Int64) ≤ ((l3 : Int32).toInt64) ∧ ((l3 : Int32).toInt64 : Int64) ≤ 20))  σ h)
    · replace h := h.2 c
      refine r_iload_n (pc := 15) hv 9 rfl rfl ?_
      refine r_i2l (pc := 16) hv 10 rfl  ?_
      refine r_lconst (pc := 17) hv 11 rfl  ?_
      refine r_ldc2_w (pc := 18) hv 12 rfl  ?_
      refine r_callS (pc := 21) (l := [aL 99, aL 1, aL ((l3 : Int32).toInt64)]) (av := [aL ((l3 : Int32).toInt64), aL 1, aL 99]) (t := []) hv 13 rfl (Or.inl rfl) rfl rfl rfl trivial (t_X9_in hS ?_)
      show v 24 [some (aR 49), some (aI l1), some (aI l2), some (aI l3), none, none] [aI (b2 ((1 : Int64) ≤ ((l3 : Int32).toInt64) ∧ ((l3 : Int32).toInt64 : Int64) ≤ 99))] σ
      refine r_goto (pc := 24) hv 14 rfl  ?_
      exact (w_X9_becomes_82 hS hv hw   l1 l2 l3 (b2 ((1 : Int64) ≤ ((l3 : Int32).toInt64) ∧ ((l3 : Int32).toInt64 : Int64) ≤ 99))  σ h)
  · replace h := h.2 c
    refine r_iconst (pc := 8) hv 4 rfl  ?_
    exact r_ireturn (pc := 9) hv 5 rfl rfl h
theorem m_X9_becomes {S : Sp} (hS : Sys S) {l1 : Int32} {l2 : Int32} {l3 : Int32} {σ : St} {Φ : Rs} (h : ∀ v : Kt, Cl S Φ k_X9_becomes v → Wk v → vc_X9_becomes_0 S Φ v l1 l2 l3 σ) : S 164 [aR 49, aI l1, aI l2, aI l3] σ Φ :=
  hS.2 164 M_X9_becomes k_X9_becomes _ _ _ mkt_X9_becomes (Nat.le_of_ble_eq_true rfl) (fun v hv hw => w_X9_becomes_0 hS hv hw   l1 l2 l3 σ (h v hv hw))
def vc_X9_taken_0 (S : Sp) (Φ : Rs) (v : Kt) (l1 : Int32) (l2 : Int32) (σ : St) : Prop := (¬ (b2 ((0 : Int64) ≤ (l1 : Int32).toInt64 ∧ ((l1 : Int32).toInt64 : Int64) ≤ (σ.1 50 (280 : Int32).toNatClampNeg - 1 : Int32).toInt64) : Int32) = 0 → ((¬ (b2 ((0 : Int64) ≤ ((l2 : Int32).toInt64) ∧ ((l2 : Int32).toInt64 : Int64) ≤ 5) : Int32) = 0 → (vp_in (8 * l1 + 2) 286 ∧ (S 153 [aI (σ.1 50 (8 * l1 + 2 : Int32).toNatClampNeg), aI l2] σ (fun r σ1 => ∃ x2 : Int32, r = [aI x2] ∧ (((x2 : Int32) = 0 → (Φ [aI (-3)] σ1)) ∧ (¬ ((x2 : Int32) = 0) → (S 156 [aR 49, aI l1] σ1 (fun r σ3 => ∃ x4 : Int32, r = [aI x4] ∧ (Φ [aI x4] σ3))))))))) ∧ ((b2 ((0 : Int64) ≤ ((l2 : Int32).toInt64) ∧ ((l2 : Int32).toInt64 : Int64) ≤ 5) : Int32) = 0 → (Φ [aI (-2)] σ)))) ∧ ((b2 ((0 : Int64) ≤ (l1 : Int32).toInt64 ∧ ((l1 : Int32).toInt64 : Int64) ≤ (σ.1 50 (280 : Int32).toNatClampNeg - 1 : Int32).toInt64) : Int32) = 0 → (Φ [aI (-1)] σ))
theorem w_X9_taken_0 {S : Sp} (hS : Sys S) {Φ : Rs} {v : Kt} (hv : Cl S Φ k_X9_taken v) (hw : Wk v) (l1 : Int32) (l2 : Int32) (σ : St) (h : vc_X9_taken_0 S Φ v l1 l2 σ) : v 0 [some (aR 49), some (aI l1), some (aI l2)] [] σ := by
  unfold vc_X9_taken_0 at h
  refine r_aload_n (pc := 0) hv 0 rfl rfl ?_
  refine r_iload_n (pc := 1) hv 1 rfl rfl ?_
  refine r_callV (pc := 2) (l := [aI l1]) (av := [aI l1]) (a := 49) (t := []) hv 2 rfl rfl rfl rfl (rcv_o (by decide) rfl) trivial (t_X9_isHole hS ?_)
  show v 5 [some (aR 49), some (aI l1), some (aI l2)] [aI (b2 ((0 : Int64) ≤ (l1 : Int32).toInt64 ∧ ((l1 : Int32).toInt64 : Int64) ≤ (σ.1 50 (280 : Int32).toNatClampNeg - 1 : Int32).toInt64))] σ
  refine r_if_ne (pc := 5) hv 3 rfl (fun c => ?_) (fun c => ?_)
  · replace h := h.1 c
    refine r_iload_n (pc := 10) hv 6 rfl rfl ?_
    refine r_i2l (pc := 11) hv 7 rfl  ?_
    refine r_lconst (pc := 12) hv 8 rfl  ?_
    refine r_ldc2_w (pc := 13) hv 9 rfl  ?_
    refine r_callS (pc := 16) (l := [aL 5, aL 0, aL ((l2 : Int32).toInt64)]) (av := [aL ((l2 : Int32).toInt64), aL 0, aL 5]) (t := []) hv 10 rfl (Or.inl rfl) rfl rfl rfl trivial (t_X9_in hS ?_)
    show v 19 [some (aR 49), some (aI l1), some (aI l2)] [aI (b2 ((0 : Int64) ≤ ((l2 : Int32).toInt64) ∧ ((l2 : Int32).toInt64 : Int64) ≤ 5))] σ
    refine r_if_ne (pc := 19) hv 11 rfl (fun c => ?_) (fun c => ?_)
    · replace h := h.1 c
      refine r_aload_n (pc := 25) hv 14 rfl rfl ?_
      refine r_iload_n (pc := 26) hv 15 rfl rfl ?_
      refine r_iconst (pc := 27) hv 16 rfl  ?_
      refine r_callV (pc := 28) (l := [aI 2, aI l1]) (av := [aI l1, aI 2]) (a := 49) (t := []) hv 17 rfl rfl rfl rfl (rcv_o (by decide) rfl) trivial (t_X9_its hS h.1 ?_)
      replace h := h.2
      show v 31 [some (aR 49), some (aI l1), some (aI l2)] [aI (σ.1 50 (8 * l1 + 2 : Int32).toNatClampNeg)] σ
      refine r_iload_n (pc := 31) hv 18 rfl rfl ?_
      refine r_callS (pc := 32) (l := [aI l2, aI (σ.1 50 (8 * l1 + 2 : Int32).toNatClampNeg)]) (av := [aI (σ.1 50 (8 * l1 + 2 : Int32).toNatClampNeg), aI l2]) (t := []) hv 19 rfl (Or.inl rfl) rfl rfl rfl trivial (hS.1 _ _ _ _ _ (fun r σ1 h => ?_) h)
      obtain ⟨x2, rfl, h⟩ := h
      show v 35 [some (aR 49), some (aI l1), some (aI l2)] [aI x2] σ1
      refine r_if_eq (pc := 35) hv 20 rfl (fun c => ?_) (fun c => ?_)
      · replace h := h.1 c
        refine r_bipush (pc := 46) hv 25 rfl  ?_
        exact r_ireturn (pc := 48) hv 26 rfl rfl h
      · replace h := h.2 c
        refine r_aload_n (pc := 38) hv 21 rfl rfl ?_
        refine r_iload_n (pc := 39) hv 22 rfl rfl ?_
        refine r_callV (pc := 40) (l := [aI l1]) (av := [aI l1]) (a := 49) (t := []) hv 23 rfl rfl rfl rfl (rcv_o (by decide) rfl) trivial (hS.1 _ _ _ _ _ (fun r σ3 h => ?_) h)
        obtain ⟨x4, rfl, h⟩ := h
        show v 43 [some (aR 49), some (aI l1), some (aI l2)] [aI x4] σ3
        refine r_goto (pc := 43) hv 24 rfl  ?_
        exact r_ireturn (pc := 48) hv 26 rfl rfl h
    · replace h := h.2 c
      refine r_bipush (pc := 22) hv 12 rfl  ?_
      exact r_ireturn (pc := 24) hv 13 rfl rfl h
  · replace h := h.2 c
    refine r_iconst (pc := 8) hv 4 rfl  ?_
    exact r_ireturn (pc := 9) hv 5 rfl rfl h
theorem m_X9_taken {S : Sp} (hS : Sys S) {l1 : Int32} {l2 : Int32} {σ : St} {Φ : Rs} (h : ∀ v : Kt, Cl S Φ k_X9_taken v → Wk v → vc_X9_taken_0 S Φ v l1 l2 σ) : S 165 [aR 49, aI l1, aI l2] σ Φ :=
  hS.2 165 M_X9_taken k_X9_taken _ _ _ mkt_X9_taken (Nat.le_of_ble_eq_true rfl) (fun v hv hw => w_X9_taken_0 hS hv hw   l1 l2 σ (h v hv hw))
def vc_X9_wire_13 (S : Sp) (Φ : Rs) (v : Kt) (l1 : Int32) (l2 : Int32) (l3 : Int32) (σ : St) : Prop := ((b2 ((0 : Int64) ≤ (l2 : Int32).toInt64 ∧ ((l2 : Int32).toInt64 : Int64) ≤ (σ.1 50 (280 : Int32).toNatClampNeg - 1 : Int32).toInt64) : Int32) = 0 → (Φ [aI (-1)] σ)) ∧ (¬ ((b2 ((0 : Int64) ≤ (l2 : Int32).toInt64 ∧ ((l2 : Int32).toInt64 : Int64) ≤ (σ.1 50 (280 : Int32).toNatClampNeg - 1 : Int32).toInt64) : Int32) = 0) → ((¬ (l1 : Int32) = l2 → ((¬ (b2 ((0 : Int64) ≤ ((l3 : Int32).toInt64) ∧ ((l3 : Int32).toInt64 : Int64) ≤ 500) : Int32) = 0 → (vp_in 281 286 ∧ ((¬ (σ.1 50 (281 : Int32).toNatClampNeg : Int32) = 40 → (vp_in 281 286 ∧ (vp_in (160 + (3 * (σ.1 50 (281 : Int32).toNatClampNeg))) 286 ∧ (∀ σ1 : St, σ1 = upI σ 50 (160 + (3 * (σ.1 50 (281 : Int32).toNatClampNeg)) : Int32).toNatClampNeg l1 → (vp_in ((160 + (3 * (σ.1 50 (281 : Int32).toNatClampNeg))) + 1) 286 ∧ (∀ σ2 : St, σ2 = upI σ1 50 ((160 + (3 * (σ.1 50 (281 : Int32).toNatClampNeg))) + 1 : Int32).toNatClampNeg l2 → (vp_in ((160 + (3 * (σ.1 50 (281 : Int32).toNatClampNeg))) + 2) 286 ∧ (∀ σ3 : St, σ3 = upI σ2 50 ((160 + (3 * (σ.1 50 (281 : Int32).toNatClampNeg))) + 2 : Int32).toNatClampNeg l3 → (vp_in 281 286 ∧ (vp_in 281 286 ∧ (∀ σ4 : St, σ4 = upI σ3 50 (281 : Int32).toNatClampNeg ((σ3.1 50 (281 : Int32).toNatClampNeg) + 1) → (vp_in 285 286 ∧ (∀ σ5 : St, σ5 = upI σ4 50 (285 : Int32).toNatClampNeg 0 → (vp_in 281 286 ∧ (Φ [aI ((σ5.1 50 (281 : Int32).toNatClampNeg) - 1)] σ5))))))))))))))) ∧ ((σ.1 50 (281 : Int32).toNatClampNeg : Int32) = 40 → (Φ [aI (-4)] σ))))) ∧ ((b2 ((0 : Int64) ≤ ((l3 : Int32).toInt64) ∧ ((l3 : Int32).toInt64 : Int64) ≤ 500) : Int32) = 0 → (Φ [aI (-2)] σ)))) ∧ ((l1 : Int32) = l2 → (Φ [aI (-1)] σ))))
theorem w_X9_wire_13 {S : Sp} (hS : Sys S) {Φ : Rs} {v : Kt} (hv : Cl S Φ k_X9_wire v) (hw : Wk v) (l1 : Int32) (l2 : Int32) (l3 : Int32) (σ : St) (h : vc_X9_wire_13 S Φ v l1 l2 l3 σ) : v 13 [some (aR 49), some (aI l1), some (aI l2), some (aI l3), none] [] σ := by
  unfold vc_X9_wire_13 at h
  refine r_aload_n (pc := 13) hv 7 rfl rfl ?_
  refine r_iload_n (pc := 14) hv 8 rfl rfl ?_
  refine r_callV (pc := 15) (l := [aI l2]) (av := [aI l2]) (a := 49) (t := []) hv 9 rfl rfl rfl rfl (rcv_o (by decide) rfl) trivial (t_X9_isHole hS ?_)
  show v 18 [some (aR 49), some (aI l1), some (aI l2), some (aI l3), none] [aI (b2 ((0 : Int64) ≤ (l2 : Int32).toInt64 ∧ ((l2 : Int32).toInt64 : Int64) ≤ (σ.1 50 (280 : Int32).toNatClampNeg - 1 : Int32).toInt64))] σ
  refine r_if_eq (pc := 18) hv 10 rfl (fun c => ?_) (fun c => ?_)
  · replace h := h.1 c
    refine r_iconst (pc := 26) hv 14 rfl  ?_
    exact r_ireturn (pc := 27) hv 15 rfl rfl h
  · replace h := h.2 c
    refine r_iload_n (pc := 21) hv 11 rfl rfl ?_
    refine r_iload_n (pc := 22) hv 12 rfl rfl ?_
    refine r_icmp_ne (pc := 23) hv 13 rfl (fun c => ?_) (fun c => ?_)
    · replace h := h.1 c
      refine r_iload_n (pc := 28) hv 16 rfl rfl ?_
      refine r_i2l (pc := 29) hv 17 rfl  ?_
      refine r_lconst (pc := 30) hv 18 rfl  ?_
      refine r_ldc2_w (pc := 31) hv 19 rfl  ?_
      refine r_callS (pc := 34) (l := [aL 500, aL 0, aL ((l3 : Int32).toInt64)]) (av := [aL ((l3 : Int32).toInt64), aL 0, aL 500]) (t := []) hv 20 rfl (Or.inl rfl) rfl rfl rfl trivial (t_X9_in hS ?_)
      show v 37 [some (aR 49), some (aI l1), some (aI l2), some (aI l3), none] [aI (b2 ((0 : Int64) ≤ ((l3 : Int32).toInt64) ∧ ((l3 : Int32).toInt64 : Int64) ≤ 500))] σ
      refine r_if_ne (pc := 37) hv 21 rfl (fun c => ?_) (fun c => ?_)
      · replace h := h.1 c
        refine r_aload_n (pc := 43) hv 24 rfl rfl ?_
        refine r_getR (pc := 44) (b := 50) hv 25 rfl rfl rfl rfl ?_
        refine r_sipush (pc := 47) hv 26 rfl  ?_
        refine r_iaload (pc := 50) (N := 286) hv 27 rfl rfl rfl (by decide) h.1 ?_
        replace h := h.2
        refine r_bipush (pc := 51) hv 28 rfl  ?_
        refine r_icmp_ne (pc := 53) hv 29 rfl (fun c => ?_) (fun c => ?_)
        · replace h := h.1 c
          refine r_sipush (pc := 59) hv 32 rfl  ?_
          refine r_iconst (pc := 62) hv 33 rfl  ?_
          refine r_aload_n (pc := 63) hv 34 rfl rfl ?_
          refine r_getR (pc := 64) (b := 50) hv 35 rfl rfl rfl rfl ?_
          refine r_sipush (pc := 67) hv 36 rfl  ?_
          refine r_iaload (pc := 70) (N := 286) hv 37 rfl rfl rfl (by decide) h.1 ?_
          replace h := h.2
          refine r_imul (pc := 71) hv 38 rfl  ?_
          refine r_iadd (pc := 72) hv 39 rfl  ?_
          refine r_istore (pc := 73) (lo' := [some (aR 49), some (aI l1), some (aI l2), some (aI l3), some (aI (160 + (3 * (σ.1 50 (281 : Int32).toNatClampNeg))))]) hv 40 rfl rfl ?_
          refine r_aload_n (pc := 75) hv 41 rfl rfl ?_
          refine r_getR (pc := 76) (b := 50) hv 42 rfl rfl rfl rfl ?_
          refine r_iload (pc := 79) hv 43 rfl rfl ?_
          refine r_iload_n (pc := 81) hv 44 rfl rfl ?_
          refine r_iastore (pc := 82) (N := 286) hv 45 rfl rfl rfl h.1 ?_
          replace h := h.2
          obtain ⟨σ1, e_σ1⟩ : ∃ y : St, y = upI σ 50 (160 + (3 * (σ.1 50 (281 : Int32).toNatClampNeg)) : Int32).toNatClampNeg l1 := ⟨_, rfl⟩
          rw [← e_σ1]
          replace h := h σ1 e_σ1
          refine r_aload_n (pc := 83) hv 46 rfl rfl ?_
          refine r_getR (pc := 84) (b := 50) hv 47 rfl rfl rfl rfl ?_
          refine r_iload (pc := 87) hv 48 rfl rfl ?_
          refine r_iconst (pc := 89) hv 49 rfl  ?_
          refine r_iadd (pc := 90) hv 50 rfl  ?_
          refine r_iload_n (pc := 91) hv 51 rfl rfl ?_
          refine r_iastore (pc := 92) (N := 286) hv 52 rfl rfl rfl h.1 ?_
          replace h := h.2
          obtain ⟨σ2, e_σ2⟩ : ∃ y : St, y = upI σ1 50 ((160 + (3 * (σ.1 50 (281 : Int32).toNatClampNeg))) + 1 : Int32).toNatClampNeg l2 := ⟨_, rfl⟩
          rw [← e_σ2]
          replace h := h σ2 e_σ2
          refine r_aload_n (pc := 93) hv 53 rfl rfl ?_
          refine r_getR (pc := 94) (b := 50) hv 54 rfl rfl rfl rfl ?_
          refine r_iload (pc := 97) hv 55 rfl rfl ?_
          refine r_iconst (pc := 99) hv 56 rfl  ?_
          refine r_iadd (pc := 100) hv 57 rfl  ?_
          refine r_iload_n (pc := 101) hv 58 rfl rfl ?_
          refine r_iastore (pc := 102) (N := 286) hv 59 rfl rfl rfl h.1 ?_
          replace h := h.2
          obtain ⟨σ3, e_σ3⟩ : ∃ y : St, y = upI σ2 50 ((160 + (3 * (σ.1 50 (281 : Int32).toNatClampNeg))) + 2 : Int32).toNatClampNeg l3 := ⟨_, rfl⟩
          rw [← e_σ3]
          replace h := h σ3 e_σ3
          refine r_aload_n (pc := 103) hv 60 rfl rfl ?_
          refine r_getR (pc := 104) (b := 50) hv 61 rfl rfl rfl rfl ?_
          refine r_sipush (pc := 107) hv 62 rfl  ?_
          refine r_dup2 (pc := 110) hv 63 rfl trivial trivial ?_
          refine r_iaload (pc := 111) (N := 286) hv 64 rfl rfl rfl (by decide) h.1 ?_
          replace h := h.2
          refine r_iconst (pc := 112) hv 65 rfl  ?_
          refine r_iadd (pc := 113) hv 66 rfl  ?_
          refine r_iastore (pc := 114) (N := 286) hv 67 rfl rfl rfl h.1 ?_
          replace h := h.2
          obtain ⟨σ4, e_σ4⟩ : ∃ y : St, y = upI σ3 50 (281 : Int32).toNatClampNeg ((σ3.1 50 (281 : Int32).toNatClampNeg) + 1) := ⟨_, rfl⟩
          rw [← e_σ4]
          replace h := h σ4 e_σ4
          refine r_aload_n (pc := 115) hv 68 rfl rfl ?_
          refine r_getR (pc := 116) (b := 50) hv 69 rfl rfl rfl rfl ?_
          refine r_sipush (pc := 119) hv 70 rfl  ?_
          refine r_iconst (pc := 122) hv 71 rfl  ?_
          refine r_iastore (pc := 123) (N := 286) hv 72 rfl rfl rfl h.1 ?_
          replace h := h.2
          obtain ⟨σ5, e_σ5⟩ : ∃ y : St, y = upI σ4 50 (285 : Int32).toNatClampNeg 0 := ⟨_, rfl⟩
          rw [← e_σ5]
          replace h := h σ5 e_σ5
          refine r_aload_n (pc := 124) hv 73 rfl rfl ?_
          refine r_getR (pc := 125) (b := 50) hv 74 rfl rfl rfl rfl ?_
          refine r_sipush (pc := 128) hv 75 rfl  ?_
          refine r_iaload (pc := 131) (N := 286) hv 76 rfl rfl rfl (by decide) h.1 ?_
          replace h := h.2
          refine r_iconst (pc := 132) hv 77 rfl  ?_
          refine r_isub (pc := 133) hv 78 rfl  ?_
          exact r_ireturn (pc := 134) hv 79 rfl rfl h
        · replace h := h.2 c
          refine r_bipush (pc := 56) hv 30 rfl  ?_
          exact r_ireturn (pc := 58) hv 31 rfl rfl h
      · replace h := h.2 c
        refine r_bipush (pc := 40) hv 22 rfl  ?_
        exact r_ireturn (pc := 42) hv 23 rfl rfl h
    · replace h := h.2 c
      refine r_iconst (pc := 26) hv 14 rfl  ?_
      exact r_ireturn (pc := 27) hv 15 rfl rfl h
def vc_X9_wire_0 (S : Sp) (Φ : Rs) (v : Kt) (l1 : Int32) (l2 : Int32) (l3 : Int32) (σ : St) : Prop := ((l1 : Int32) = (-1) → (vc_X9_wire_13 S Φ v  l1 l2 l3 σ)) ∧ (¬ ((l1 : Int32) = (-1)) → (((b2 ((0 : Int64) ≤ (l1 : Int32).toInt64 ∧ ((l1 : Int32).toInt64 : Int64) ≤ (σ.1 50 (280 : Int32).toNatClampNeg - 1 : Int32).toInt64) : Int32) = 0 → (Φ [aI (-1)] σ)) ∧ (¬ ((b2 ((0 : Int64) ≤ (l1 : Int32).toInt64 ∧ ((l1 : Int32).toInt64 : Int64) ≤ (σ.1 50 (280 : Int32).toNatClampNeg - 1 : Int32).toInt64) : Int32) = 0) → (vc_X9_wire_13 S Φ v  l1 l2 l3 σ))))
theorem w_X9_wire_0 {S : Sp} (hS : Sys S) {Φ : Rs} {v : Kt} (hv : Cl S Φ k_X9_wire v) (hw : Wk v) (l1 : Int32) (l2 : Int32) (l3 : Int32) (σ : St) (h : vc_X9_wire_0 S Φ v l1 l2 l3 σ) : v 0 [some (aR 49), some (aI l1), some (aI l2), some (aI l3), none] [] σ := by
  unfold vc_X9_wire_0 at h
  refine r_iload_n (pc := 0) hv 0 rfl rfl ?_
  refine r_iconst (pc := 1) hv 1 rfl  ?_
  refine r_icmp_eq (pc := 2) hv 2 rfl (fun c => ?_) (fun c => ?_)
  · replace h := h.1 c
    exact (w_X9_wire_13 hS hv hw   l1 l2 l3  σ h)
  · replace h := h.2 c
    refine r_aload_n (pc := 5) hv 3 rfl rfl ?_
    refine r_iload_n (pc := 6) hv 4 rfl rfl ?_
    refine r_callV (pc := 7) (l := [aI l1]) (av := [aI l1]) (a := 49) (t := []) hv 5 rfl rfl rfl rfl (rcv_o (by decide) rfl) trivial (t_X9_isHole hS ?_)
    show v 10 [some (aR 49), some (aI l1), some (aI l2), some (aI l3), none] [aI (b2 ((0 : Int64) ≤ (l1 : Int32).toInt64 ∧ ((l1 : Int32).toInt64 : Int64) ≤ (σ.1 50 (280 : Int32).toNatClampNeg - 1 : Int32).toInt64))] σ
    refine r_if_eq (pc := 10) hv 6 rfl (fun c => ?_) (fun c => ?_)
    · replace h := h.1 c
      refine r_iconst (pc := 26) hv 14 rfl  ?_
      exact r_ireturn (pc := 27) hv 15 rfl rfl h
    · replace h := h.2 c
      exact (w_X9_wire_13 hS hv hw   l1 l2 l3  σ h)
theorem m_X9_wire {S : Sp} (hS : Sys S) {l1 : Int32} {l2 : Int32} {l3 : Int32} {σ : St} {Φ : Rs} (h : ∀ v : Kt, Cl S Φ k_X9_wire v → Wk v → vc_X9_wire_0 S Φ v l1 l2 l3 σ) : S 166 [aR 49, aI l1, aI l2, aI l3] σ Φ :=
  hS.2 166 M_X9_wire k_X9_wire _ _ _ mkt_X9_wire (Nat.le_of_ble_eq_true rfl) (fun v hv hw => w_X9_wire_0 hS hv hw   l1 l2 l3 σ (h v hv hw))
def vc_X9_cuts_20 (S : Sp) (Φ : Rs) (v : Kt) (l1 : Int32) (l2 : Int32) (σ : St) : Prop := vp_in 281 286 ∧ (((160 + (3 * (σ.1 50 (281 : Int32).toNatClampNeg)) : Int32) ≤ l2 → (Φ [] σ)) ∧ (¬ ((160 + (3 * (σ.1 50 (281 : Int32).toNatClampNeg)) : Int32) ≤ l2) → (vp_in (l2 + 3) 286 ∧ (vp_in l2 286 ∧ (∀ σ1 : St, σ1 = upI σ 50 (l2 : Int32).toNatClampNeg (σ.1 50 (l2 + 3 : Int32).toNatClampNeg) → (v 20 [some (aR 49), some (aI l1), some (aI (l2 + 1))] [] σ1))))))
theorem w_X9_cuts_20 {S : Sp} (hS : Sys S) {Φ : Rs} {v : Kt} (hv : Cl S Φ k_X9_cuts v) (hw : Wk v) (l1 : Int32) (l2 : Int32) (σ : St) (h : vc_X9_cuts_20 S Φ v l1 l2 σ) : v 20 [some (aR 49), some (aI l1), some (aI l2)] [] σ := by
  unfold vc_X9_cuts_20 at h
  refine r_iload_n (pc := 20) hv 14 rfl rfl ?_
  refine r_sipush (pc := 21) hv 15 rfl  ?_
  refine r_iconst (pc := 24) hv 16 rfl  ?_
  refine r_aload_n (pc := 25) hv 17 rfl rfl ?_
  refine r_getR (pc := 26) (b := 50) hv 18 rfl rfl rfl rfl ?_
  refine r_sipush (pc := 29) hv 19 rfl  ?_
  refine r_iaload (pc := 32) (N := 286) hv 20 rfl rfl rfl (by decide) h.1 ?_
  replace h := h.2
  refine r_imul (pc := 33) hv 21 rfl  ?_
  refine r_iadd (pc := 34) hv 22 rfl  ?_
  refine r_icmp_ge (pc := 35) hv 23 rfl (fun c => ?_) (fun c => ?_)
  · replace h := h.1 c
    exact r_return (pc := 58) hv 36 rfl h
  · replace h := h.2 c
    refine r_aload_n (pc := 38) hv 24 rfl rfl ?_
    refine r_getR (pc := 39) (b := 50) hv 25 rfl rfl rfl rfl ?_
    refine r_iload_n (pc := 42) hv 26 rfl rfl ?_
    refine r_aload_n (pc := 43) hv 27 rfl rfl ?_
    refine r_getR (pc := 44) (b := 50) hv 28 rfl rfl rfl rfl ?_
    refine r_iload_n (pc := 47) hv 29 rfl rfl ?_
    refine r_iconst (pc := 48) hv 30 rfl  ?_
    refine r_iadd (pc := 49) hv 31 rfl  ?_
    refine r_iaload (pc := 50) (N := 286) hv 32 rfl rfl rfl (by decide) h.1 ?_
    replace h := h.2
    refine r_iastore (pc := 51) (N := 286) hv 33 rfl rfl rfl h.1 ?_
    replace h := h.2
    obtain ⟨σ1, e_σ1⟩ : ∃ y : St, y = upI σ 50 (l2 : Int32).toNatClampNeg (σ.1 50 (l2 + 3 : Int32).toNatClampNeg) := ⟨_, rfl⟩
    rw [← e_σ1]
    replace h := h σ1 e_σ1
    refine r_iinc (pc := 52) (lo' := [some (aR 49), some (aI l1), some (aI (l2 + 1))]) hv 34 rfl rfl rfl ?_
    refine r_goto (pc := 55) hv 35 rfl  ?_
    exact h
def vc_X9_cuts_0 (S : Sp) (Φ : Rs) (v : Kt) (l1 : Int32) (σ : St) : Prop := vp_in 281 286 ∧ (vp_in 281 286 ∧ (∀ σ1 : St, σ1 = upI σ 50 (281 : Int32).toNatClampNeg ((σ.1 50 (281 : Int32).toNatClampNeg) - 1) → (v 20 [some (aR 49), some (aI l1), some (aI (160 + (3 * l1)))] [] σ1)))
theorem w_X9_cuts_0 {S : Sp} (hS : Sys S) {Φ : Rs} {v : Kt} (hv : Cl S Φ k_X9_cuts v) (hw : Wk v) (l1 : Int32) (σ : St) (h : vc_X9_cuts_0 S Φ v l1 σ) : v 0 [some (aR 49), some (aI l1), none] [] σ := by
  unfold vc_X9_cuts_0 at h
  refine r_aload_n (pc := 0) hv 0 rfl rfl ?_
  refine r_getR (pc := 1) (b := 50) hv 1 rfl rfl rfl rfl ?_
  refine r_sipush (pc := 4) hv 2 rfl  ?_
  refine r_dup2 (pc := 7) hv 3 rfl trivial trivial ?_
  refine r_iaload (pc := 8) (N := 286) hv 4 rfl rfl rfl (by decide) h.1 ?_
  replace h := h.2
  refine r_iconst (pc := 9) hv 5 rfl  ?_
  refine r_isub (pc := 10) hv 6 rfl  ?_
  refine r_iastore (pc := 11) (N := 286) hv 7 rfl rfl rfl h.1 ?_
  replace h := h.2
  obtain ⟨σ1, e_σ1⟩ : ∃ y : St, y = upI σ 50 (281 : Int32).toNatClampNeg ((σ.1 50 (281 : Int32).toNatClampNeg) - 1) := ⟨_, rfl⟩
  rw [← e_σ1]
  replace h := h σ1 e_σ1
  refine r_sipush (pc := 12) hv 8 rfl  ?_
  refine r_iconst (pc := 15) hv 9 rfl  ?_
  refine r_iload_n (pc := 16) hv 10 rfl rfl ?_
  refine r_imul (pc := 17) hv 11 rfl  ?_
  refine r_iadd (pc := 18) hv 12 rfl  ?_
  refine r_istore_n (pc := 19) (lo' := [some (aR 49), some (aI l1), some (aI (160 + (3 * l1)))]) hv 13 rfl rfl ?_
  exact h
theorem m_X9_cuts {S : Sp} (hS : Sys S) {l1 : Int32} {σ : St} {Φ : Rs} (h : ∀ v : Kt, Cl S Φ k_X9_cuts v → Wk v → vc_X9_cuts_0 S Φ v l1 σ) : S 167 [aR 49, aI l1] σ Φ :=
  hS.2 167 M_X9_cuts k_X9_cuts _ _ _ mkt_X9_cuts (Nat.le_of_ble_eq_true rfl) (fun v hv hw => w_X9_cuts_0 hS hv hw   l1 σ (h v hv hw))
def vc_X9_cut_0 (S : Sp) (Φ : Rs) (v : Kt) (l1 : Int32) (σ : St) : Prop := (¬ (b2 ((0 : Int64) ≤ (l1 : Int32).toInt64 ∧ ((l1 : Int32).toInt64 : Int64) ≤ (σ.1 50 (281 : Int32).toNatClampNeg - 1 : Int32).toInt64) : Int32) = 0 → (S 167 [aR 49, aI l1] σ (fun r σ1 => r = [] ∧ (vp_in 285 286 ∧ (∀ σ2 : St, σ2 = upI σ1 50 (285 : Int32).toNatClampNeg 0 → (vp_in 281 286 ∧ (Φ [aI (σ2.1 50 (281 : Int32).toNatClampNeg)] σ2))))))) ∧ ((b2 ((0 : Int64) ≤ (l1 : Int32).toInt64 ∧ ((l1 : Int32).toInt64 : Int64) ≤ (σ.1 50 (281 : Int32).toNatClampNeg - 1 : Int32).toInt64) : Int32) = 0 → (Φ [aI (-1)] σ))
theorem w_X9_cut_0 {S : Sp} (hS : Sys S) {Φ : Rs} {v : Kt} (hv : Cl S Φ k_X9_cut v) (hw : Wk v) (l1 : Int32) (σ : St) (h : vc_X9_cut_0 S Φ v l1 σ) : v 0 [some (aR 49), some (aI l1)] [] σ := by
  unfold vc_X9_cut_0 at h
  refine r_aload_n (pc := 0) hv 0 rfl rfl ?_
  refine r_iload_n (pc := 1) hv 1 rfl rfl ?_
  refine r_callV (pc := 2) (l := [aI l1]) (av := [aI l1]) (a := 49) (t := []) hv 2 rfl rfl rfl rfl (rcv_o (by decide) rfl) trivial (t_X9_isWire hS ?_)
  show v 5 [some (aR 49), some (aI l1)] [aI (b2 ((0 : Int64) ≤ (l1 : Int32).toInt64 ∧ ((l1 : Int32).toInt64 : Int64) ≤ (σ.1 50 (281 : Int32).toNatClampNeg - 1 : Int32).toInt64))] σ
  refine r_if_ne (pc := 5) hv 3 rfl (fun c => ?_) (fun c => ?_)
  · replace h := h.1 c
    refine r_aload_n (pc := 10) hv 6 rfl rfl ?_
    refine r_iload_n (pc := 11) hv 7 rfl rfl ?_
    refine r_callV (pc := 12) (l := [aI l1]) (av := [aI l1]) (a := 49) (t := []) hv 8 rfl rfl rfl rfl (rcv_o (by decide) rfl) trivial (hS.1 _ _ _ _ _ (fun r σ1 h => ?_) h)
    obtain ⟨rfl, h⟩ := h
    show v 15 [some (aR 49), some (aI l1)] [] σ1
    refine r_aload_n (pc := 15) hv 9 rfl rfl ?_
    refine r_getR (pc := 16) (b := 50) hv 10 rfl rfl rfl rfl ?_
    refine r_sipush (pc := 19) hv 11 rfl  ?_
    refine r_iconst (pc := 22) hv 12 rfl  ?_
    refine r_iastore (pc := 23) (N := 286) hv 13 rfl rfl rfl h.1 ?_
    replace h := h.2
    obtain ⟨σ2, e_σ2⟩ : ∃ y : St, y = upI σ1 50 (285 : Int32).toNatClampNeg 0 := ⟨_, rfl⟩
    rw [← e_σ2]
    replace h := h σ2 e_σ2
    refine r_aload_n (pc := 24) hv 14 rfl rfl ?_
    refine r_getR (pc := 25) (b := 50) hv 15 rfl rfl rfl rfl ?_
    refine r_sipush (pc := 28) hv 16 rfl  ?_
    refine r_iaload (pc := 31) (N := 286) hv 17 rfl rfl rfl (by decide) h.1 ?_
    replace h := h.2
    exact r_ireturn (pc := 32) hv 18 rfl rfl h
  · replace h := h.2 c
    refine r_iconst (pc := 8) hv 4 rfl  ?_
    exact r_ireturn (pc := 9) hv 5 rfl rfl h
theorem m_X9_cut {S : Sp} (hS : Sys S) {l1 : Int32} {σ : St} {Φ : Rs} (h : ∀ v : Kt, Cl S Φ k_X9_cut v → Wk v → vc_X9_cut_0 S Φ v l1 σ) : S 168 [aR 49, aI l1] σ Φ :=
  hS.2 168 M_X9_cut k_X9_cut _ _ _ mkt_X9_cut (Nat.le_of_ble_eq_true rfl) (fun v hv hw => w_X9_cut_0 hS hv hw   l1 σ (h v hv hw))
def vc_X9_rule_42 (S : Sp) (Φ : Rs) (v : Kt) (l1 : Int32) (l2 : Int32) (s0 : Int64) (s1 : Int64) (s2 : Int64) (σ : St) : Prop := (¬ (b2 ((s1 : Int64) ≤ s2 ∧ (s2 : Int64) ≤ s0) : Int32) = 0 → (vp_in (282 + l1) 286 ∧ (vp_in (282 + l1) 286 ∧ (∀ σ1 : St, σ1 = upI σ 50 (282 + l1 : Int32).toNatClampNeg l2 → (vp_in 285 286 ∧ (∀ σ2 : St, σ2 = upI σ1 50 (285 : Int32).toNatClampNeg 0 → (Φ [aI (σ.1 50 (282 + l1 : Int32).toNatClampNeg)] σ2))))))) ∧ ((b2 ((s1 : Int64) ≤ s2 ∧ (s2 : Int64) ≤ s0) : Int32) = 0 → (Φ [aI (-2)] σ))
theorem w_X9_rule_42 {S : Sp} (hS : Sys S) {Φ : Rs} {v : Kt} (hv : Cl S Φ k_X9_rule v) (hw : Wk v) (l1 : Int32) (l2 : Int32) (s0 : Int64) (s1 : Int64) (s2 : Int64) (σ : St) (h : vc_X9_rule_42 S Φ v l1 l2 s0 s1 s2 σ) : v 42 [some (aR 49), some (aI l1), some (aI l2), none] [aL s0, aL s1, aL s2] σ := by
  unfold vc_X9_rule_42 at h
  refine r_callS (pc := 42) (l := [aL s0, aL s1, aL s2]) (av := [aL s2, aL s1, aL s0]) (t := []) hv 22 rfl (Or.inl rfl) rfl rfl rfl trivial (t_X9_in hS ?_)
  show v 45 [some (aR 49), some (aI l1), some (aI l2), none] [aI (b2 ((s1 : Int64) ≤ s2 ∧ (s2 : Int64) ≤ s0))] σ
  refine r_if_ne (pc := 45) hv 23 rfl (fun c => ?_) (fun c => ?_)
  · replace h := h.1 c
    refine r_aload_n (pc := 51) hv 26 rfl rfl ?_
    refine r_getR (pc := 52) (b := 50) hv 27 rfl rfl rfl rfl ?_
    refine r_sipush (pc := 55) hv 28 rfl  ?_
    refine r_iload_n (pc := 58) hv 29 rfl rfl ?_
    refine r_iadd (pc := 59) hv 30 rfl  ?_
    refine r_iaload (pc := 60) (N := 286) hv 31 rfl rfl rfl (by decide) h.1 ?_
    replace h := h.2
    refine r_istore_n (pc := 61) (lo' := [some (aR 49), some (aI l1), some (aI l2), some (aI (σ.1 50 (282 + l1 : Int32).toNatClampNeg))]) hv 32 rfl rfl ?_
    refine r_aload_n (pc := 62) hv 33 rfl rfl ?_
    refine r_getR (pc := 63) (b := 50) hv 34 rfl rfl rfl rfl ?_
    refine r_sipush (pc := 66) hv 35 rfl  ?_
    refine r_iload_n (pc := 69) hv 36 rfl rfl ?_
    refine r_iadd (pc := 70) hv 37 rfl  ?_
    refine r_iload_n (pc := 71) hv 38 rfl rfl ?_
    refine r_iastore (pc := 72) (N := 286) hv 39 rfl rfl rfl h.1 ?_
    replace h := h.2
    obtain ⟨σ1, e_σ1⟩ : ∃ y : St, y = upI σ 50 (282 + l1 : Int32).toNatClampNeg l2 := ⟨_, rfl⟩
    rw [← e_σ1]
    replace h := h σ1 e_σ1
    refine r_aload_n (pc := 73) hv 40 rfl rfl ?_
    refine r_getR (pc := 74) (b := 50) hv 41 rfl rfl rfl rfl ?_
    refine r_sipush (pc := 77) hv 42 rfl  ?_
    refine r_iconst (pc := 80) hv 43 rfl  ?_
    refine r_iastore (pc := 81) (N := 286) hv 44 rfl rfl rfl h.1 ?_
    replace h := h.2
    obtain ⟨σ2, e_σ2⟩ : ∃ y : St, y = upI σ1 50 (285 : Int32).toNatClampNeg 0 := ⟨_, rfl⟩
    rw [← e_σ2]
    replace h := h σ2 e_σ2
    refine r_iload_n (pc := 82) hv 45 rfl rfl ?_
    exact r_ireturn (pc := 83) hv 46 rfl rfl h
  · replace h := h.2 c
    refine r_bipush (pc := 48) hv 24 rfl  ?_
    exact r_ireturn (pc := 50) hv 25 rfl rfl h
def vc_X9_rule_28 (S : Sp) (Φ : Rs) (v : Kt) (l1 : Int32) (l2 : Int32) (s0 : Int64) (s1 : Int64) (σ : St) : Prop := (¬ (l1 : Int32) = 1 → (vc_X9_rule_42 S Φ v  l1 l2 99 s0 s1 σ)) ∧ ((l1 : Int32) = 1 → (vc_X9_rule_42 S Φ v  l1 l2 9999 s0 s1 σ))
theorem w_X9_rule_28 {S : Sp} (hS : Sys S) {Φ : Rs} {v : Kt} (hv : Cl S Φ k_X9_rule v) (hw : Wk v) (l1 : Int32) (l2 : Int32) (s0 : Int64) (s1 : Int64) (σ : St) (h : vc_X9_rule_28 S Φ v l1 l2 s0 s1 σ) : v 28 [some (aR 49), some (aI l1), some (aI l2), none] [aL s0, aL s1] σ := by
  unfold vc_X9_rule_28 at h
  refine r_iload_n (pc := 28) hv 16 rfl rfl ?_
  refine r_iconst (pc := 29) hv 17 rfl  ?_
  refine r_icmp_ne (pc := 30) hv 18 rfl (fun c => ?_) (fun c => ?_)
  · replace h := h.1 c
    refine r_ldc2_w (pc := 39) hv 21 rfl  ?_
    exact (w_X9_rule_42 hS hv hw   l1 l2 99 s0 s1  σ h)
  · replace h := h.2 c
    refine r_ldc2_w (pc := 33) hv 19 rfl  ?_
    refine r_goto (pc := 36) hv 20 rfl  ?_
    exact (w_X9_rule_42 hS hv hw   l1 l2 9999 s0 s1  σ h)
def vc_X9_rule_0 (S : Sp) (Φ : Rs) (v : Kt) (l1 : Int32) (l2 : Int32) (σ : St) : Prop := (¬ (b2 ((0 : Int64) ≤ ((l1 : Int32).toInt64) ∧ ((l1 : Int32).toInt64 : Int64) ≤ 2) : Int32) = 0 → ((¬ (l1 : Int32) = 2 → (vc_X9_rule_28 S Φ v  l1 l2 1 ((l2 : Int32).toInt64) σ)) ∧ ((l1 : Int32) = 2 → (vc_X9_rule_28 S Φ v  l1 l2 5 ((l2 : Int32).toInt64) σ)))) ∧ ((b2 ((0 : Int64) ≤ ((l1 : Int32).toInt64) ∧ ((l1 : Int32).toInt64 : Int64) ≤ 2) : Int32) = 0 → (Φ [aI (-1)] σ))
theorem w_X9_rule_0 {S : Sp} (hS : Sys S) {Φ : Rs} {v : Kt} (hv : Cl S Φ k_X9_rule v) (hw : Wk v) (l1 : Int32) (l2 : Int32) (σ : St) (h : vc_X9_rule_0 S Φ v l1 l2 σ) : v 0 [some (aR 49), some (aI l1), some (aI l2), none] [] σ := by
  unfold vc_X9_rule_0 at h
  refine r_iload_n (pc := 0) hv 0 rfl rfl ?_
  refine r_i2l (pc := 1) hv 1 rfl  ?_
  refine r_lconst (pc := 2) hv 2 rfl  ?_
  refine r_ldc2_w (pc := 3) hv 3 rfl  ?_
  refine r_callS (pc := 6) (l := [aL 2, aL 0, aL ((l1 : Int32).toInt64)]) (av := [aL ((l1 : Int32).toInt64), aL 0, aL 2]) (t := []) hv 4 rfl (Or.inl rfl) rfl rfl rfl trivial (t_X9_in hS ?_)
  show v 9 [some (aR 49), some (aI l1), some (aI l2), none] [aI (b2 ((0 : Int64) ≤ ((l1 : Int32).toInt64) ∧ ((l1 : Int32).toInt64 : Int64) ≤ 2))] σ
  refine r_if_ne (pc := 9) hv 5 rfl (fun c => ?_) (fun c => ?_)
  · replace h := h.1 c
    refine r_iload_n (pc := 14) hv 8 rfl rfl ?_
    refine r_i2l (pc := 15) hv 9 rfl  ?_
    refine r_iload_n (pc := 16) hv 10 rfl rfl ?_
    refine r_iconst (pc := 17) hv 11 rfl  ?_
    refine r_icmp_ne (pc := 18) hv 12 rfl (fun c => ?_) (fun c => ?_)
    · replace h := h.1 c
      refine r_lconst (pc := 27) hv 15 rfl  ?_
      exact (w_X9_rule_28 hS hv hw   l1 l2 1 ((l2 : Int32).toInt64)  σ h)
    · replace h := h.2 c
      refine r_ldc2_w (pc := 21) hv 13 rfl  ?_
      refine r_goto (pc := 24) hv 14 rfl  ?_
      exact (w_X9_rule_28 hS hv hw   l1 l2 5 ((l2 : Int32).toInt64)  σ h)
  · replace h := h.2 c
    refine r_iconst (pc := 12) hv 6 rfl  ?_
    exact r_ireturn (pc := 13) hv 7 rfl rfl h
theorem m_X9_rule {S : Sp} (hS : Sys S) {l1 : Int32} {l2 : Int32} {σ : St} {Φ : Rs} (h : ∀ v : Kt, Cl S Φ k_X9_rule v → Wk v → vc_X9_rule_0 S Φ v l1 l2 σ) : S 169 [aR 49, aI l1, aI l2] σ Φ :=
  hS.2 169 M_X9_rule k_X9_rule _ _ _ mkt_X9_rule (Nat.le_of_ble_eq_true rfl) (fun v hv hw => w_X9_rule_0 hS hv hw   l1 l2 σ (h v hv hw))
def vc_X9_drop_37 (S : Sp) (Φ : Rs) (v : Kt) (l1 : Int32) (σ : St) : Prop := ((l1 : Int32) < 0 → (vp_in 285 286 ∧ (∀ σ1 : St, σ1 = upI σ 50 (285 : Int32).toNatClampNeg 0 → (vp_in 280 286 ∧ (Φ [aI (σ1.1 50 (280 : Int32).toNatClampNeg)] σ1))))) ∧ (¬ ((l1 : Int32) < 0) → (vp_in (160 + 3 * l1 + 0) 286 ∧ (vp_in 280 286 ∧ (((σ.1 50 (160 + 3 * l1 + 0 : Int32).toNatClampNeg : Int32) = (σ.1 50 (280 : Int32).toNatClampNeg) → (S 167 [aR 49, aI l1] σ (fun r σ2 => r = [] ∧ (v 37 [some (aR 49), some (aI (l1 + (-1)))] [] σ2)))) ∧ (¬ ((σ.1 50 (160 + 3 * l1 + 0 : Int32).toNatClampNeg : Int32) = (σ.1 50 (280 : Int32).toNatClampNeg)) → (vp_in (160 + 3 * l1 + 1) 286 ∧ (vp_in 280 286 ∧ ((¬ (σ.1 50 (160 + 3 * l1 + 1 : Int32).toNatClampNeg : Int32) = (σ.1 50 (280 : Int32).toNatClampNeg) → (v 37 [some (aR 49), some (aI (l1 + (-1)))] [] σ)) ∧ ((σ.1 50 (160 + 3 * l1 + 1 : Int32).toNatClampNeg : Int32) = (σ.1 50 (280 : Int32).toNatClampNeg) → (S 167 [aR 49, aI l1] σ (fun r σ3 => r = [] ∧ (v 37 [some (aR 49), some (aI (l1 + (-1)))] [] σ3))))))))))))
theorem w_X9_drop_37 {S : Sp} (hS : Sys S) {Φ : Rs} {v : Kt} (hv : Cl S Φ k_X9_drop v) (hw : Wk v) (l1 : Int32) (σ : St) (h : vc_X9_drop_37 S Φ v l1 σ) : v 37 [some (aR 49), some (aI l1)] [] σ := by
  unfold vc_X9_drop_37 at h
  refine r_iload_n (pc := 37) hv 22 rfl rfl ?_
  refine r_if_lt (pc := 38) hv 23 rfl (fun c => ?_) (fun c => ?_)
  · replace h := h.1 c
    refine r_aload_n (pc := 86) hv 47 rfl rfl ?_
    refine r_getR (pc := 87) (b := 50) hv 48 rfl rfl rfl rfl ?_
    refine r_sipush (pc := 90) hv 49 rfl  ?_
    refine r_iconst (pc := 93) hv 50 rfl  ?_
    refine r_iastore (pc := 94) (N := 286) hv 51 rfl rfl rfl h.1 ?_
    replace h := h.2
    obtain ⟨σ1, e_σ1⟩ : ∃ y : St, y = upI σ 50 (285 : Int32).toNatClampNeg 0 := ⟨_, rfl⟩
    rw [← e_σ1]
    replace h := h σ1 e_σ1
    refine r_aload_n (pc := 95) hv 52 rfl rfl ?_
    refine r_getR (pc := 96) (b := 50) hv 53 rfl rfl rfl rfl ?_
    refine r_sipush (pc := 99) hv 54 rfl  ?_
    refine r_iaload (pc := 102) (N := 286) hv 55 rfl rfl rfl (by decide) h.1 ?_
    replace h := h.2
    exact r_ireturn (pc := 103) hv 56 rfl rfl h
  · replace h := h.2 c
    refine r_aload_n (pc := 41) hv 24 rfl rfl ?_
    refine r_iload_n (pc := 42) hv 25 rfl rfl ?_
    refine r_iconst (pc := 43) hv 26 rfl  ?_
    refine r_callV (pc := 44) (l := [aI 0, aI l1]) (av := [aI l1, aI 0]) (a := 49) (t := []) hv 27 rfl rfl rfl rfl (rcv_o (by decide) rfl) trivial (t_X9_wires hS h.1 ?_)
    replace h := h.2
    show v 47 [some (aR 49), some (aI l1)] [aI (σ.1 50 (160 + 3 * l1 + 0 : Int32).toNatClampNeg)] σ
    refine r_aload_n (pc := 47) hv 28 rfl rfl ?_
    refine r_getR (pc := 48) (b := 50) hv 29 rfl rfl rfl rfl ?_
    refine r_sipush (pc := 51) hv 30 rfl  ?_
    refine r_iaload (pc := 54) (N := 286) hv 31 rfl rfl rfl (by decide) h.1 ?_
    replace h := h.2
    refine r_icmp_eq (pc := 55) hv 32 rfl (fun c => ?_) (fun c => ?_)
    · replace h := h.1 c
      refine r_aload_n (pc := 75) hv 42 rfl rfl ?_
      refine r_iload_n (pc := 76) hv 43 rfl rfl ?_
      refine r_callV (pc := 77) (l := [aI l1]) (av := [aI l1]) (a := 49) (t := []) hv 44 rfl rfl rfl rfl (rcv_o (by decide) rfl) trivial (hS.1 _ _ _ _ _ (fun r σ2 h => ?_) h)
      obtain ⟨rfl, h⟩ := h
      show v 80 [some (aR 49), some (aI l1)] [] σ2
      refine r_iinc (pc := 80) (lo' := [some (aR 49), some (aI (l1 + (-1)))]) hv 45 rfl rfl rfl ?_
      refine r_goto (pc := 83) hv 46 rfl  ?_
      exact h
    · replace h := h.2 c
      refine r_aload_n (pc := 58) hv 33 rfl rfl ?_
      refine r_iload_n (pc := 59) hv 34 rfl rfl ?_
      refine r_iconst (pc := 60) hv 35 rfl  ?_
      refine r_callV (pc := 61) (l := [aI 1, aI l1]) (av := [aI l1, aI 1]) (a := 49) (t := []) hv 36 rfl rfl rfl rfl (rcv_o (by decide) rfl) trivial (t_X9_wires hS h.1 ?_)
      replace h := h.2
      show v 64 [some (aR 49), some (aI l1)] [aI (σ.1 50 (160 + 3 * l1 + 1 : Int32).toNatClampNeg)] σ
      refine r_aload_n (pc := 64) hv 37 rfl rfl ?_
      refine r_getR (pc := 65) (b := 50) hv 38 rfl rfl rfl rfl ?_
      refine r_sipush (pc := 68) hv 39 rfl  ?_
      refine r_iaload (pc := 71) (N := 286) hv 40 rfl rfl rfl (by decide) h.1 ?_
      replace h := h.2
      refine r_icmp_ne (pc := 72) hv 41 rfl (fun c => ?_) (fun c => ?_)
      · replace h := h.1 c
        refine r_iinc (pc := 80) (lo' := [some (aR 49), some (aI (l1 + (-1)))]) hv 45 rfl rfl rfl ?_
        refine r_goto (pc := 83) hv 46 rfl  ?_
        exact h
      · replace h := h.2 c
        refine r_aload_n (pc := 75) hv 42 rfl rfl ?_
        refine r_iload_n (pc := 76) hv 43 rfl rfl ?_
        refine r_callV (pc := 77) (l := [aI l1]) (av := [aI l1]) (a := 49) (t := []) hv 44 rfl rfl rfl rfl (rcv_o (by decide) rfl) trivial (hS.1 _ _ _ _ _ (fun r σ3 h => ?_) h)
        obtain ⟨rfl, h⟩ := h
        show v 80 [some (aR 49), some (aI l1)] [] σ3
        refine r_iinc (pc := 80) (lo' := [some (aR 49), some (aI (l1 + (-1)))]) hv 45 rfl rfl rfl ?_
        refine r_goto (pc := 83) hv 46 rfl  ?_
        exact h
def vc_X9_drop_0 (S : Sp) (Φ : Rs) (v : Kt) (σ : St) : Prop := vp_in 280 286 ∧ ((¬ (σ.1 50 (280 : Int32).toNatClampNeg : Int32) = 0 → (vp_in 280 286 ∧ (vp_in 280 286 ∧ (∀ σ1 : St, σ1 = upI σ 50 (280 : Int32).toNatClampNeg ((σ.1 50 (280 : Int32).toNatClampNeg) - 1) → (vp_in 281 286 ∧ (v 37 [some (aR 49), some (aI ((σ1.1 50 (281 : Int32).toNatClampNeg) - 1))] [] σ1)))))) ∧ ((σ.1 50 (280 : Int32).toNatClampNeg : Int32) = 0 → (Φ [aI (-3)] σ)))
theorem w_X9_drop_0 {S : Sp} (hS : Sys S) {Φ : Rs} {v : Kt} (hv : Cl S Φ k_X9_drop v) (hw : Wk v) (σ : St) (h : vc_X9_drop_0 S Φ v  σ) : v 0 [some (aR 49), none] [] σ := by
  unfold vc_X9_drop_0 at h
  refine r_aload_n (pc := 0) hv 0 rfl rfl ?_
  refine r_getR (pc := 1) (b := 50) hv 1 rfl rfl rfl rfl ?_
  refine r_sipush (pc := 4) hv 2 rfl  ?_
  refine r_iaload (pc := 7) (N := 286) hv 3 rfl rfl rfl (by decide) h.1 ?_
  replace h := h.2
  refine r_if_ne (pc := 8) hv 4 rfl (fun c => ?_) (fun c => ?_)
  · replace h := h.1 c
    refine r_aload_n (pc := 14) hv 7 rfl rfl ?_
    refine r_getR (pc := 15) (b := 50) hv 8 rfl rfl rfl rfl ?_
    refine r_sipush (pc := 18) hv 9 rfl  ?_
    refine r_dup2 (pc := 21) hv 10 rfl trivial trivial ?_
    refine r_iaload (pc := 22) (N := 286) hv 11 rfl rfl rfl (by decide) h.1 ?_
    replace h := h.2
    refine r_iconst (pc := 23) hv 12 rfl  ?_
    refine r_isub (pc := 24) hv 13 rfl  ?_
    refine r_iastore (pc := 25) (N := 286) hv 14 rfl rfl rfl h.1 ?_
    replace h := h.2
    obtain ⟨σ1, e_σ1⟩ : ∃ y : St, y = upI σ 50 (280 : Int32).toNatClampNeg ((σ.1 50 (280 : Int32).toNatClampNeg) - 1) := ⟨_, rfl⟩
    rw [← e_σ1]
    replace h := h σ1 e_σ1
    refine r_aload_n (pc := 26) hv 15 rfl rfl ?_
    refine r_getR (pc := 27) (b := 50) hv 16 rfl rfl rfl rfl ?_
    refine r_sipush (pc := 30) hv 17 rfl  ?_
    refine r_iaload (pc := 33) (N := 286) hv 18 rfl rfl rfl (by decide) h.1 ?_
    replace h := h.2
    refine r_iconst (pc := 34) hv 19 rfl  ?_
    refine r_isub (pc := 35) hv 20 rfl  ?_
    refine r_istore_n (pc := 36) (lo' := [some (aR 49), some (aI ((σ1.1 50 (281 : Int32).toNatClampNeg) - 1))]) hv 21 rfl rfl ?_
    exact h
  · replace h := h.2 c
    refine r_bipush (pc := 11) hv 5 rfl  ?_
    exact r_ireturn (pc := 13) hv 6 rfl rfl h
theorem m_X9_drop {S : Sp} (hS : Sys S) {σ : St} {Φ : Rs} (h : ∀ v : Kt, Cl S Φ k_X9_drop v → Wk v → vc_X9_drop_0 S Φ v  σ) : S 170 [aR 49] σ Φ :=
  hS.2 170 M_X9_drop k_X9_drop _ _ _ mkt_X9_drop (Nat.le_of_ble_eq_true rfl) (fun v hv hw => w_X9_drop_0 hS hv hw    σ (h v hv hw))
def vc_X9_endOf_0 (S : Sp) (Φ : Rs) (v : Kt) (l1 : Int32) (σ : St) : Prop := vp_in (160 + 3 * l1 + 0) 286 ∧ (((0 : Int32) ≤ (σ.1 50 (160 + 3 * l1 + 0 : Int32).toNatClampNeg) → (vp_in (σ.1 50 (160 + 3 * l1 + 0 : Int32).toNatClampNeg) 20 ∧ (((σ.1 53 (σ.1 50 (160 + 3 * l1 + 0 : Int32).toNatClampNeg : Int32).toNatClampNeg : Int32) = 1000000 → (Φ [aI 1000000] σ)) ∧ (¬ ((σ.1 53 (σ.1 50 (160 + 3 * l1 + 0 : Int32).toNatClampNeg : Int32).toNatClampNeg : Int32) = 1000000) → (vp_in (8 * (σ.1 50 (160 + 3 * l1 + 0 : Int32).toNatClampNeg) + 6) 286 ∧ (((b2 (σ.1 50 (8 * (σ.1 50 (160 + 3 * l1 + 0 : Int32).toNatClampNeg) + 6 : Int32).toNatClampNeg = 1) : Int32) = 0 → (vp_in (σ.1 50 (160 + 3 * l1 + 0 : Int32).toNatClampNeg) 20 ∧ (vp_in (160 + 3 * l1 + 2) 286 ∧ (Φ [aI ((σ.1 53 (σ.1 50 (160 + 3 * l1 + 0 : Int32).toNatClampNeg : Int32).toNatClampNeg) + (σ.1 50 (160 + 3 * l1 + 2 : Int32).toNatClampNeg))] σ)))) ∧ (¬ ((b2 (σ.1 50 (8 * (σ.1 50 (160 + 3 * l1 + 0 : Int32).toNatClampNeg) + 6 : Int32).toNatClampNeg = 1) : Int32) = 0) → (Φ [aI 1000000] σ)))))))) ∧ (¬ ((0 : Int32) ≤ (σ.1 50 (160 + 3 * l1 + 0 : Int32).toNatClampNeg)) → (vp_in (160 + 3 * l1 + 2) 286 ∧ (Φ [aI (σ.1 50 (160 + 3 * l1 + 2 : Int32).toNatClampNeg)] σ))))
theorem w_X9_endOf_0 {S : Sp} (hS : Sys S) {Φ : Rs} {v : Kt} (hv : Cl S Φ k_X9_endOf v) (hw : Wk v) (l1 : Int32) (σ : St) (h : vc_X9_endOf_0 S Φ v l1 σ) : v 0 [some (aR 49), some (aI l1), none] [] σ := by
  unfold vc_X9_endOf_0 at h
  refine r_aload_n (pc := 0) hv 0 rfl rfl ?_
  refine r_iload_n (pc := 1) hv 1 rfl rfl ?_
  refine r_iconst (pc := 2) hv 2 rfl  ?_
  refine r_callV (pc := 3) (l := [aI 0, aI l1]) (av := [aI l1, aI 0]) (a := 49) (t := []) hv 3 rfl rfl rfl rfl (rcv_o (by decide) rfl) trivial (t_X9_wires hS h.1 ?_)
  replace h := h.2
  show v 6 [some (aR 49), some (aI l1), none] [aI (σ.1 50 (160 + 3 * l1 + 0 : Int32).toNatClampNeg)] σ
  refine r_istore_n (pc := 6) (lo' := [some (aR 49), some (aI l1), some (aI (σ.1 50 (160 + 3 * l1 + 0 : Int32).toNatClampNeg))]) hv 4 rfl rfl ?_
  refine r_iload_n (pc := 7) hv 5 rfl rfl ?_
  refine r_if_ge (pc := 8) hv 6 rfl (fun c => ?_) (fun c => ?_)
  · replace h := h.1 c
    refine r_aload_n (pc := 18) hv 12 rfl rfl ?_
    refine r_getR (pc := 19) (b := 53) hv 13 rfl rfl rfl rfl ?_
    refine r_iload_n (pc := 22) hv 14 rfl rfl ?_
    refine r_iaload (pc := 23) (N := 20) hv 15 rfl rfl rfl (by decide) h.1 ?_
    replace h := h.2
    refine r_ldc (pc := 24) hv 16 rfl rfl ?_
    refine r_icmp_eq (pc := 26) hv 17 rfl (fun c => ?_) (fun c => ?_)
    · replace h := h.1 c
      refine r_ldc (pc := 37) hv 22 rfl rfl ?_
      refine r_goto (pc := 39) hv 23 rfl  ?_
      exact r_ireturn (pc := 55) hv 33 rfl rfl h
    · replace h := h.2 c
      refine r_aload_n (pc := 29) hv 18 rfl rfl ?_
      refine r_iload_n (pc := 30) hv 19 rfl rfl ?_
      refine r_callV (pc := 31) (l := [aI (σ.1 50 (160 + 3 * l1 + 0 : Int32).toNatClampNeg)]) (av := [aI (σ.1 50 (160 + 3 * l1 + 0 : Int32).toNatClampNeg)]) (a := 49) (t := []) hv 20 rfl rfl rfl rfl (rcv_o (by decide) rfl) trivial (t_X9_isDead hS h.1 ?_)
      replace h := h.2
      show v 34 [some (aR 49), some (aI l1), some (aI (σ.1 50 (160 + 3 * l1 + 0 : Int32).toNatClampNeg))] [aI (b2 (σ.1 50 (8 * (σ.1 50 (160 + 3 * l1 + 0 : Int32).toNatClampNeg) + 6 : Int32).toNatClampNeg = 1))] σ
      refine r_if_eq (pc := 34) hv 21 rfl (fun c => ?_) (fun c => ?_)
      · replace h := h.1 c
        refine r_aload_n (pc := 42) hv 24 rfl rfl ?_
        refine r_getR (pc := 43) (b := 53) hv 25 rfl rfl rfl rfl ?_
        refine r_iload_n (pc := 46) hv 26 rfl rfl ?_
        refine r_iaload (pc := 47) (N := 20) hv 27 rfl rfl rfl (by decide) h.1 ?_
        replace h := h.2
        refine r_aload_n (pc := 48) hv 28 rfl rfl ?_
        refine r_iload_n (pc := 49) hv 29 rfl rfl ?_
        refine r_iconst (pc := 50) hv 30 rfl  ?_
        refine r_callV (pc := 51) (l := [aI 2, aI l1]) (av := [aI l1, aI 2]) (a := 49) (t := [aI (σ.1 53 (σ.1 50 (160 + 3 * l1 + 0 : Int32).toNatClampNeg : Int32).toNatClampNeg)]) hv 31 rfl rfl rfl rfl (rcv_o (by decide) rfl) trivial (t_X9_wires hS h.1 ?_)
        replace h := h.2
        show v 54 [some (aR 49), some (aI l1), some (aI (σ.1 50 (160 + 3 * l1 + 0 : Int32).toNatClampNeg))] [aI (σ.1 50 (160 + 3 * l1 + 2 : Int32).toNatClampNeg), aI (σ.1 53 (σ.1 50 (160 + 3 * l1 + 0 : Int32).toNatClampNeg : Int32).toNatClampNeg)] σ
        refine r_iadd (pc := 54) hv 32 rfl  ?_
        exact r_ireturn (pc := 55) hv 33 rfl rfl h
      · replace h := h.2 c
        refine r_ldc (pc := 37) hv 22 rfl rfl ?_
        refine r_goto (pc := 39) hv 23 rfl  ?_
        exact r_ireturn (pc := 55) hv 33 rfl rfl h
  · replace h := h.2 c
    refine r_aload_n (pc := 11) hv 7 rfl rfl ?_
    refine r_iload_n (pc := 12) hv 8 rfl rfl ?_
    refine r_iconst (pc := 13) hv 9 rfl  ?_
    refine r_callV (pc := 14) (l := [aI 2, aI l1]) (av := [aI l1, aI 2]) (a := 49) (t := []) hv 10 rfl rfl rfl rfl (rcv_o (by decide) rfl) trivial (t_X9_wires hS h.1 ?_)
    replace h := h.2
    show v 17 [some (aR 49), some (aI l1), some (aI (σ.1 50 (160 + 3 * l1 + 0 : Int32).toNatClampNeg))] [aI (σ.1 50 (160 + 3 * l1 + 2 : Int32).toNatClampNeg)] σ
    exact r_ireturn (pc := 17) hv 11 rfl rfl h
theorem m_X9_endOf {S : Sp} (hS : Sys S) {l1 : Int32} {σ : St} {Φ : Rs} (h : ∀ v : Kt, Cl S Φ k_X9_endOf v → Wk v → vc_X9_endOf_0 S Φ v l1 σ) : S 171 [aR 49, aI l1] σ Φ :=
  hS.2 171 M_X9_endOf k_X9_endOf _ _ _ mkt_X9_endOf (Nat.le_of_ble_eq_true rfl) (fun v hv hw => w_X9_endOf_0 hS hv hw   l1 σ (h v hv hw))
def vc_X9_signals_32 (S : Sp) (Φ : Rs) (v : Kt) (l1 : Int32) (l2 : Int32) (σ : St) : Prop := vp_in 281 286 ∧ (((σ.1 50 (281 : Int32).toNatClampNeg : Int32) ≤ l2 → (v 24 [some (aR 49), some (aI l1), none, none] [] σ)) ∧ (¬ ((σ.1 50 (281 : Int32).toNatClampNeg : Int32) ≤ l2) → (S 171 [aR 49, aI l2] σ (fun r σ1 => ∃ x2 : Int32, r = [aI x2] ∧ (vp_in (160 + 3 * l2 + 1) 286 ∧ (vp_in (σ1.1 50 (160 + 3 * l2 + 1 : Int32).toNatClampNeg) 20 ∧ (((σ1.1 53 (σ1.1 50 (160 + 3 * l2 + 1 : Int32).toNatClampNeg : Int32).toNatClampNeg : Int32) ≤ x2 → (v 32 [some (aR 49), some (aI l1), some (aI (l2 + 1)), none] [] σ1)) ∧ (¬ ((σ1.1 53 (σ1.1 50 (160 + 3 * l2 + 1 : Int32).toNatClampNeg : Int32).toNatClampNeg : Int32) ≤ x2) → (vp_in (160 + 3 * l2 + 1) 286 ∧ (vp_in (σ1.1 50 (160 + 3 * l2 + 1 : Int32).toNatClampNeg) 20 ∧ (∀ σ3 : St, σ3 = upI σ1 53 (σ1.1 50 (160 + 3 * l2 + 1 : Int32).toNatClampNeg : Int32).toNatClampNeg x2 → (v 32 [some (aR 49), some (aI 1), some (aI (l2 + 1)), none] [] σ3))))))))))))
theorem w_X9_signals_32 {S : Sp} (hS : Sys S) {Φ : Rs} {v : Kt} (hv : Cl S Φ k_X9_signals v) (hw : Wk v) (l1 : Int32) (l2 : Int32) (σ : St) (h : vc_X9_signals_32 S Φ v l1 l2 σ) : v 32 [some (aR 49), some (aI l1), some (aI l2), none] [] σ := by
  unfold vc_X9_signals_32 at h
  refine r_iload_n (pc := 32) hv 20 rfl rfl ?_
  refine r_aload_n (pc := 33) hv 21 rfl rfl ?_
  refine r_getR (pc := 34) (b := 50) hv 22 rfl rfl rfl rfl ?_
  refine r_sipush (pc := 37) hv 23 rfl  ?_
  refine r_iaload (pc := 40) (N := 286) hv 24 rfl rfl rfl (by decide) h.1 ?_
  replace h := h.2
  refine r_icmp_ge (pc := 41) hv 25 rfl (fun c => ?_) (fun c => ?_)
  · replace h := h.1 c
    refine r_goto (pc := 85) hv 51 rfl  ?_
    exact hw 24 [some (aR 49), some (aI l1), none, none] _ _ _ ⟨rfl, ⟨rfl, trivial⟩⟩ h
  · replace h := h.2 c
    refine r_aload_n (pc := 44) hv 26 rfl rfl ?_
    refine r_iload_n (pc := 45) hv 27 rfl rfl ?_
    refine r_callV (pc := 46) (l := [aI l2]) (av := [aI l2]) (a := 49) (t := []) hv 28 rfl rfl rfl rfl (rcv_o (by decide) rfl) trivial (hS.1 _ _ _ _ _ (fun r σ1 h => ?_) h)
    obtain ⟨x2, rfl, h⟩ := h
    show v 49 [some (aR 49), some (aI l1), some (aI l2), none] [aI x2] σ1
    refine r_istore_n (pc := 49) (lo' := [some (aR 49), some (aI l1), some (aI l2), some (aI x2)]) hv 29 rfl rfl ?_
    refine r_iload_n (pc := 50) hv 30 rfl rfl ?_
    refine r_aload_n (pc := 51) hv 31 rfl rfl ?_
    refine r_getR (pc := 52) (b := 53) hv 32 rfl rfl rfl rfl ?_
    refine r_aload_n (pc := 55) hv 33 rfl rfl ?_
    refine r_iload_n (pc := 56) hv 34 rfl rfl ?_
    refine r_iconst (pc := 57) hv 35 rfl  ?_
    refine r_callV (pc := 58) (l := [aI 1, aI l2]) (av := [aI l2, aI 1]) (a := 49) (t := [aR 53, aI x2]) hv 36 rfl rfl rfl rfl (rcv_o (by decide) rfl) trivial (t_X9_wires hS h.1 ?_)
    replace h := h.2
    show v 61 [some (aR 49), some (aI l1), some (aI l2), some (aI x2)] [aI (σ1.1 50 (160 + 3 * l2 + 1 : Int32).toNatClampNeg), aR 53, aI x2] σ1
    refine r_iaload (pc := 61) (N := 20) hv 37 rfl rfl rfl (by decide) h.1 ?_
    replace h := h.2
    refine r_icmp_ge (pc := 62) hv 38 rfl (fun c => ?_) (fun c => ?_)
    · replace h := h.1 c
      refine r_iinc (pc := 79) (lo' := [some (aR 49), some (aI l1), some (aI (l2 + 1)), some (aI x2)]) hv 49 rfl rfl rfl ?_
      refine r_goto (pc := 82) hv 50 rfl  ?_
      exact hw 32 [some (aR 49), some (aI l1), some (aI (l2 + 1)), none] _ _ _ ⟨rfl, ⟨rfl, ⟨rfl, trivial⟩⟩⟩ h
    · replace h := h.2 c
      refine r_aload_n (pc := 65) hv 39 rfl rfl ?_
      refine r_getR (pc := 66) (b := 53) hv 40 rfl rfl rfl rfl ?_
      refine r_aload_n (pc := 69) hv 41 rfl rfl ?_
      refine r_iload_n (pc := 70) hv 42 rfl rfl ?_
      refine r_iconst (pc := 71) hv 43 rfl  ?_
      refine r_callV (pc := 72) (l := [aI 1, aI l2]) (av := [aI l2, aI 1]) (a := 49) (t := [aR 53]) hv 44 rfl rfl rfl rfl (rcv_o (by decide) rfl) trivial (t_X9_wires hS h.1 ?_)
      replace h := h.2
      show v 75 [some (aR 49), some (aI l1), some (aI l2), some (aI x2)] [aI (σ1.1 50 (160 + 3 * l2 + 1 : Int32).toNatClampNeg), aR 53] σ1
      refine r_iload_n (pc := 75) hv 45 rfl rfl ?_
      refine r_iastore (pc := 76) (N := 20) hv 46 rfl rfl rfl h.1 ?_
      replace h := h.2
      obtain ⟨σ3, e_σ3⟩ : ∃ y : St, y = upI σ1 53 (σ1.1 50 (160 + 3 * l2 + 1 : Int32).toNatClampNeg : Int32).toNatClampNeg x2 := ⟨_, rfl⟩
      rw [← e_σ3]
      replace h := h σ3 e_σ3
      refine r_iconst (pc := 77) hv 47 rfl  ?_
      refine r_istore_n (pc := 78) (lo' := [some (aR 49), some (aI 1), some (aI l2), some (aI x2)]) hv 48 rfl rfl ?_
      refine r_iinc (pc := 79) (lo' := [some (aR 49), some (aI 1), some (aI (l2 + 1)), some (aI x2)]) hv 49 rfl rfl rfl ?_
      refine r_goto (pc := 82) hv 50 rfl  ?_
      exact hw 32 [some (aR 49), some (aI 1), some (aI (l2 + 1)), none] _ _ _ ⟨rfl, ⟨rfl, ⟨rfl, trivial⟩⟩⟩ h
def vc_X9_signals_24 (S : Sp) (Φ : Rs) (v : Kt) (l1 : Int32) (σ : St) : Prop := ((l1 : Int32) = 0 → (Φ [] σ)) ∧ (¬ ((l1 : Int32) = 0) → (v 32 [some (aR 49), some (aI 0), some (aI 0), none] [] σ))
theorem w_X9_signals_24 {S : Sp} (hS : Sys S) {Φ : Rs} {v : Kt} (hv : Cl S Φ k_X9_signals v) (hw : Wk v) (l1 : Int32) (σ : St) (h : vc_X9_signals_24 S Φ v l1 σ) : v 24 [some (aR 49), some (aI l1), none, none] [] σ := by
  unfold vc_X9_signals_24 at h
  refine r_iload_n (pc := 24) hv 14 rfl rfl ?_
  refine r_if_eq (pc := 25) hv 15 rfl (fun c => ?_) (fun c => ?_)
  · replace h := h.1 c
    exact r_return (pc := 88) hv 52 rfl h
  · replace h := h.2 c
    refine r_iconst (pc := 28) hv 16 rfl  ?_
    refine r_istore_n (pc := 29) (lo' := [some (aR 49), some (aI 0), none, none]) hv 17 rfl rfl ?_
    refine r_iconst (pc := 30) hv 18 rfl  ?_
    refine r_istore_n (pc := 31) (lo' := [some (aR 49), some (aI 0), some (aI 0), none]) hv 19 rfl rfl ?_
    exact h
def vc_X9_signals_2 (S : Sp) (Φ : Rs) (v : Kt) (l1 : Int32) (σ : St) : Prop := ((20 : Int32) ≤ l1 → (v 24 [some (aR 49), some (aI 1), none, none] [] σ)) ∧ (¬ ((20 : Int32) ≤ l1) → (vp_in l1 20 ∧ (∀ σ1 : St, σ1 = upI σ 53 (l1 : Int32).toNatClampNeg 1000000 → (v 2 [some (aR 49), some (aI (l1 + 1)), none, none] [] σ1))))
theorem w_X9_signals_2 {S : Sp} (hS : Sys S) {Φ : Rs} {v : Kt} (hv : Cl S Φ k_X9_signals v) (hw : Wk v) (l1 : Int32) (σ : St) (h : vc_X9_signals_2 S Φ v l1 σ) : v 2 [some (aR 49), some (aI l1), none, none] [] σ := by
  unfold vc_X9_signals_2 at h
  refine r_iload_n (pc := 2) hv 2 rfl rfl ?_
  refine r_bipush (pc := 3) hv 3 rfl  ?_
  refine r_icmp_ge (pc := 5) hv 4 rfl (fun c => ?_) (fun c => ?_)
  · replace h := h.1 c
    refine r_iconst (pc := 22) hv 12 rfl  ?_
    refine r_istore_n (pc := 23) (lo' := [some (aR 49), some (aI 1), none, none]) hv 13 rfl rfl ?_
    exact h
  · replace h := h.2 c
    refine r_aload_n (pc := 8) hv 5 rfl rfl ?_
    refine r_getR (pc := 9) (b := 53) hv 6 rfl rfl rfl rfl ?_
    refine r_iload_n (pc := 12) hv 7 rfl rfl ?_
    refine r_ldc (pc := 13) hv 8 rfl rfl ?_
    refine r_iastore (pc := 15) (N := 20) hv 9 rfl rfl rfl h.1 ?_
    replace h := h.2
    obtain ⟨σ1, e_σ1⟩ : ∃ y : St, y = upI σ 53 (l1 : Int32).toNatClampNeg 1000000 := ⟨_, rfl⟩
    rw [← e_σ1]
    replace h := h σ1 e_σ1
    refine r_iinc (pc := 16) (lo' := [some (aR 49), some (aI (l1 + 1)), none, none]) hv 10 rfl rfl rfl ?_
    refine r_goto (pc := 19) hv 11 rfl  ?_
    exact h
def vc_X9_signals_0 (S : Sp) (Φ : Rs) (v : Kt) (σ : St) : Prop := v 2 [some (aR 49), some (aI 0), none, none] [] σ
theorem w_X9_signals_0 {S : Sp} (hS : Sys S) {Φ : Rs} {v : Kt} (hv : Cl S Φ k_X9_signals v) (hw : Wk v) (σ : St) (h : vc_X9_signals_0 S Φ v  σ) : v 0 [some (aR 49), none, none, none] [] σ := by
  unfold vc_X9_signals_0 at h
  refine r_iconst (pc := 0) hv 0 rfl  ?_
  refine r_istore_n (pc := 1) (lo' := [some (aR 49), some (aI 0), none, none]) hv 1 rfl rfl ?_
  exact h
theorem m_X9_signals {S : Sp} (hS : Sys S) {σ : St} {Φ : Rs} (h : ∀ v : Kt, Cl S Φ k_X9_signals v → Wk v → vc_X9_signals_0 S Φ v  σ) : S 172 [aR 49] σ Φ :=
  hS.2 172 M_X9_signals k_X9_signals _ _ _ mkt_X9_signals (Nat.le_of_ble_eq_true rfl) (fun v hv hw => w_X9_signals_0 hS hv hw    σ (h v hv hw))
def vc_X9_isRelieved_31 (S : Sp) (Φ : Rs) (v : Kt) (l1 : Int32) (l2 : Int32) (l3 : Int32) (l4 : Int32) (l5 : Int32) (σ : St) : Prop := vp_in 280 286 ∧ (((σ.1 50 (280 : Int32).toNatClampNeg : Int32) ≤ l5 → ((l4 = 0 ∨ l4 = 1) ∧ Φ [aI l4] σ)) ∧ (¬ ((σ.1 50 (280 : Int32).toNatClampNeg : Int32) ≤ l5) → (((l4 : Int32) = 0 → (v 31 [some (aR 49), some (aI l1), some (aI l2), some (aI l3), some (aI 0), some (aI (l5 + 1))] [] σ)) ∧ (¬ ((l4 : Int32) = 0) → (((b2 (((l3 : Int32) >>> (l5 &&& 31)) &&& 1 = 1) : Int32) = 0 → (v 31 [some (aR 49), some (aI l1), some (aI l2), some (aI l3), some (aI 1), some (aI (l5 + 1))] [] σ)) ∧ (¬ ((b2 (((l3 : Int32) >>> (l5 &&& 31)) &&& 1 = 1) : Int32) = 0) → (((b2 (((l2 : Int32) >>> (l5 &&& 31)) &&& 1 = 1) : Int32) = 0 → (v 31 [some (aR 49), some (aI l1), some (aI l2), some (aI l3), some (aI 0), some (aI (l5 + 1))] [] σ)) ∧ (¬ ((b2 (((l2 : Int32) >>> (l5 &&& 31)) &&& 1 = 1) : Int32) = 0) → (vp_in l5 20 ∧ (vp_in l1 20 ∧ (S 158 [aR 49, aI l1] σ (fun r σ1 => ∃ x2 : Int32, r = [aI x2] ∧ ((((σ.1 54 (l1 : Int32).toNatClampNeg) - x2 : Int32) < (σ.1 54 (l5 : Int32).toNatClampNeg) → (v 31 [some (aR 49), some (aI l1), some (aI l2), some (aI l3), some (aI 0), some (aI (l5 + 1))] [] σ1)) ∧ (¬ (((σ.1 54 (l1 : Int32).toNatClampNeg) - x2 : Int32) < (σ.1 54 (l5 : Int32).toNatClampNeg)) → (v 31 [some (aR 49), some (aI l1), some (aI l2), some (aI l3), some (aI 1), some (aI (l5 + 1))] [] σ1)))))))))))))))
theorem w_X9_isRelieved_31 {S : Sp} (hS : Sys S) {Φ : Rs} {v : Kt} (hv : Cl S Φ k_X9_isRelieved v) (hw : Wk v) (l1 : Int32) (l2 : Int32) (l3 : Int32) (l4 : Int32) (l5 : Int32) (σ : St) (h : vc_X9_isRelieved_31 S Φ v l1 l2 l3 l4 l5 σ) : v 31 [some (aR 49), some (aI l1), some (aI l2), some (aI l3), some (aI l4), some (aI l5)] [] σ := by
  unfold vc_X9_isRelieved_31 at h
  refine r_iload (pc := 31) hv 19 rfl rfl ?_
  refine r_aload_n (pc := 33) hv 20 rfl rfl ?_
  refine r_getR (pc := 34) (b := 50) hv 21 rfl rfl rfl rfl ?_
  refine r_sipush (pc := 37) hv 22 rfl  ?_
  refine r_iaload (pc := 40) (N := 286) hv 23 rfl rfl rfl (by decide) h.1 ?_
  replace h := h.2
  refine r_icmp_ge (pc := 41) hv 24 rfl (fun c => ?_) (fun c => ?_)
  · replace h := h.1 c
    refine r_iload (pc := 104) hv 56 rfl rfl ?_
    exact r_zreturn (pc := 106) hv 57 rfl rfl h.1 h.2
  · replace h := h.2 c
    refine r_iload (pc := 44) hv 25 rfl rfl ?_
    refine r_if_eq (pc := 46) hv 26 rfl (fun c => ?_) (fun c => ?_)
    · replace h := h.1 c
      refine r_iconst (pc := 95) hv 52 rfl  ?_
      refine r_istore (pc := 96) (lo' := [some (aR 49), some (aI l1), some (aI l2), some (aI l3), some (aI 0), some (aI l5)]) hv 53 rfl rfl ?_
      refine r_iinc (pc := 98) (lo' := [some (aR 49), some (aI l1), some (aI l2), some (aI l3), some (aI 0), some (aI (l5 + 1))]) hv 54 rfl rfl rfl ?_
      refine r_goto (pc := 101) hv 55 rfl  ?_
      exact h
    · replace h := h.2 c
      refine r_aload_n (pc := 49) hv 27 rfl rfl ?_
      refine r_iload_n (pc := 50) hv 28 rfl rfl ?_
      refine r_iload (pc := 51) hv 29 rfl rfl ?_
      refine r_callV (pc := 53) (l := [aI l5, aI l3]) (av := [aI l3, aI l5]) (a := 49) (t := []) hv 30 rfl rfl rfl rfl (rcv_o (by decide) rfl) trivial (t_X9_has hS ?_)
      show v 56 [some (aR 49), some (aI l1), some (aI l2), some (aI l3), some (aI l4), some (aI l5)] [aI (b2 (((l3 : Int32) >>> (l5 &&& 31)) &&& 1 = 1))] σ
      refine r_if_eq (pc := 56) hv 31 rfl (fun c => ?_) (fun c => ?_)
      · replace h := h.1 c
        refine r_iconst (pc := 91) hv 50 rfl  ?_
        refine r_goto (pc := 92) hv 51 rfl  ?_
        refine r_istore (pc := 96) (lo' := [some (aR 49), some (aI l1), some (aI l2), some (aI l3), some (aI 1), some (aI l5)]) hv 53 rfl rfl ?_
        refine r_iinc (pc := 98) (lo' := [some (aR 49), some (aI l1), some (aI l2), some (aI l3), some (aI 1), some (aI (l5 + 1))]) hv 54 rfl rfl rfl ?_
        refine r_goto (pc := 101) hv 55 rfl  ?_
        exact h
      · replace h := h.2 c
        refine r_aload_n (pc := 59) hv 32 rfl rfl ?_
        refine r_iload_n (pc := 60) hv 33 rfl rfl ?_
        refine r_iload (pc := 61) hv 34 rfl rfl ?_
        refine r_callV (pc := 63) (l := [aI l5, aI l2]) (av := [aI l2, aI l5]) (a := 49) (t := []) hv 35 rfl rfl rfl rfl (rcv_o (by decide) rfl) trivial (t_X9_has hS ?_)
        show v 66 [some (aR 49), some (aI l1), some (aI l2), some (aI l3), some (aI l4), some (aI l5)] [aI (b2 (((l2 : Int32) >>> (l5 &&& 31)) &&& 1 = 1))] σ
        refine r_if_eq (pc := 66) hv 36 rfl (fun c => ?_) (fun c => ?_)
        · replace h := h.1 c
          refine r_iconst (pc := 95) hv 52 rfl  ?_
          refine r_istore (pc := 96) (lo' := [some (aR 49), some (aI l1), some (aI l2), some (aI l3), some (aI 0), some (aI l5)]) hv 53 rfl rfl ?_
          refine r_iinc (pc := 98) (lo' := [some (aR 49), some (aI l1), some (aI l2), some (aI l3), some (aI 0), some (aI (l5 + 1))]) hv 54 rfl rfl rfl ?_
          refine r_goto (pc := 101) hv 55 rfl  ?_
          exact h
        · replace h := h.2 c
          refine r_aload_n (pc := 69) hv 37 rfl rfl ?_
          refine r_getR (pc := 70) (b := 54) hv 38 rfl rfl rfl rfl ?_
          refine r_iload (pc := 73) hv 39 rfl rfl ?_
          refine r_iaload (pc := 75) (N := 20) hv 40 rfl rfl rfl (by decide) h.1 ?_
          replace h := h.2
          refine r_aload_n (pc := 76) hv 41 rfl rfl ?_
          refine r_getR (pc := 77) (b := 54) hv 42 rfl rfl rfl rfl ?_
          refine r_iload_n (pc := 80) hv 43 rfl rfl ?_
          refine r_iaload (pc := 81) (N := 20) hv 44 rfl rfl rfl (by decide) h.1 ?_
          replace h := h.2
          refine r_aload_n (pc := 82) hv 45 rfl rfl ?_
          refine r_iload_n (pc := 83) hv 46 rfl rfl ?_
          refine r_callV (pc := 84) (l := [aI l1]) (av := [aI l1]) (a := 49) (t := [aI (σ.1 54 (l1 : Int32).toNatClampNeg), aI (σ.1 54 (l5 : Int32).toNatClampNeg)]) hv 47 rfl rfl rfl rfl (rcv_o (by decide) rfl) trivial (hS.1 _ _ _ _ _ (fun r σ1 h => ?_) h)
          obtain ⟨x2, rfl, h⟩ := h
          show v 87 [some (aR 49), some (aI l1), some (aI l2), some (aI l3), some (aI l4), some (aI l5)] [aI x2, aI (σ.1 54 (l1 : Int32).toNatClampNeg), aI (σ.1 54 (l5 : Int32).toNatClampNeg)] σ1
          refine r_isub (pc := 87) hv 48 rfl  ?_
          refine r_icmp_gt (pc := 88) hv 49 rfl (fun c => ?_) (fun c => ?_)
          · replace h := h.1 c
            refine r_iconst (pc := 95) hv 52 rfl  ?_
            refine r_istore (pc := 96) (lo' := [some (aR 49), some (aI l1), some (aI l2), some (aI l3), some (aI 0), some (aI l5)]) hv 53 rfl rfl ?_
            refine r_iinc (pc := 98) (lo' := [some (aR 49), some (aI l1), some (aI l2), some (aI l3), some (aI 0), some (aI (l5 + 1))]) hv 54 rfl rfl rfl ?_
            refine r_goto (pc := 101) hv 55 rfl  ?_
            exact h
          · replace h := h.2 c
            refine r_iconst (pc := 91) hv 50 rfl  ?_
            refine r_goto (pc := 92) hv 51 rfl  ?_
            refine r_istore (pc := 96) (lo' := [some (aR 49), some (aI l1), some (aI l2), some (aI l3), some (aI 1), some (aI l5)]) hv 53 rfl rfl ?_
            refine r_iinc (pc := 98) (lo' := [some (aR 49), some (aI l1), some (aI l2), some (aI l3), some (aI 1), some (aI (l5 + 1))]) hv 54 rfl rfl rfl ?_
            refine r_goto (pc := 101) hv 55 rfl  ?_
            exact h
def vc_X9_isRelieved_26 (S : Sp) (Φ : Rs) (v : Kt) (l1 : Int32) (l2 : Int32) (l3 : Int32) (s0 : Int32) (σ : St) : Prop := v 31 [some (aR 49), some (aI l1), some (aI l2), some (aI l3), some (aI s0), some (aI 0)] [] σ
theorem w_X9_isRelieved_26 {S : Sp} (hS : Sys S) {Φ : Rs} {v : Kt} (hv : Cl S Φ k_X9_isRelieved v) (hw : Wk v) (l1 : Int32) (l2 : Int32) (l3 : Int32) (s0 : Int32) (σ : St) (h : vc_X9_isRelieved_26 S Φ v l1 l2 l3 s0 σ) : v 26 [some (aR 49), some (aI l1), some (aI l2), some (aI l3), none, none] [aI s0] σ := by
  unfold vc_X9_isRelieved_26 at h
  refine r_istore (pc := 26) (lo' := [some (aR 49), some (aI l1), some (aI l2), some (aI l3), some (aI s0), none]) hv 16 rfl rfl ?_
  refine r_iconst (pc := 28) hv 17 rfl  ?_
  refine r_istore (pc := 29) (lo' := [some (aR 49), some (aI l1), some (aI l2), some (aI l3), some (aI s0), some (aI 0)]) hv 18 rfl rfl ?_
  exact h
def vc_X9_isRelieved_0 (S : Sp) (Φ : Rs) (v : Kt) (l1 : Int32) (l2 : Int32) (σ : St) : Prop := vp_in (8 * l1 + 0) 286 ∧ ((¬ (σ.1 50 (8 * l1 + 0 : Int32).toNatClampNeg : Int32) = 0 → (S 162 [aR 49, aI l1] σ (fun r σ1 => ∃ x2 : Int32, r = [aI x2] ∧ (((x2 : Int32) = 0 → (vc_X9_isRelieved_26 S Φ v  l1 l2 x2 0 σ1)) ∧ (¬ ((x2 : Int32) = 0) → (vc_X9_isRelieved_26 S Φ v  l1 l2 x2 1 σ1)))))) ∧ ((σ.1 50 (8 * l1 + 0 : Int32).toNatClampNeg : Int32) = 0 → (Φ [aI 1] σ)))
theorem w_X9_isRelieved_0 {S : Sp} (hS : Sys S) {Φ : Rs} {v : Kt} (hv : Cl S Φ k_X9_isRelieved v) (hw : Wk v) (l1 : Int32) (l2 : Int32) (σ : St) (h : vc_X9_isRelieved_0 S Φ v l1 l2 σ) : v 0 [some (aR 49), some (aI l1), some (aI l2), none, none, none] [] σ := by
  unfold vc_X9_isRelieved_0 at h
  refine r_aload_n (pc := 0) hv 0 rfl rfl ?_
  refine r_iload_n (pc := 1) hv 1 rfl rfl ?_
  refine r_iconst (pc := 2) hv 2 rfl  ?_
  refine r_callV (pc := 3) (l := [aI 0, aI l1]) (av := [aI l1, aI 0]) (a := 49) (t := []) hv 3 rfl rfl rfl rfl (rcv_o (by decide) rfl) trivial (t_X9_its hS h.1 ?_)
  replace h := h.2
  show v 6 [some (aR 49), some (aI l1), some (aI l2), none, none, none] [aI (σ.1 50 (8 * l1 + 0 : Int32).toNatClampNeg)] σ
  refine r_if_ne (pc := 6) hv 4 rfl (fun c => ?_) (fun c => ?_)
  · replace h := h.1 c
    refine r_aload_n (pc := 11) hv 7 rfl rfl ?_
    refine r_iload_n (pc := 12) hv 8 rfl rfl ?_
    refine r_callV (pc := 13) (l := [aI l1]) (av := [aI l1]) (a := 49) (t := []) hv 9 rfl rfl rfl rfl (rcv_o (by decide) rfl) trivial (hS.1 _ _ _ _ _ (fun r σ1 h => ?_) h)
    obtain ⟨x2, rfl, h⟩ := h
    show v 16 [some (aR 49), some (aI l1), some (aI l2), none, none, none] [aI x2] σ1
    refine r_istore_n (pc := 16) (lo' := [some (aR 49), some (aI l1), some (aI l2), some (aI x2), none, none]) hv 10 rfl rfl ?_
    refine r_iload_n (pc := 17) hv 11 rfl rfl ?_
    refine r_if_eq (pc := 18) hv 12 rfl (fun c => ?_) (fun c => ?_)
    · replace h := h.1 c
      refine r_iconst (pc := 25) hv 15 rfl  ?_
      exact (w_X9_isRelieved_26 hS hv hw   l1 l2 x2 0  σ1 h)
    · replace h := h.2 c
      refine r_iconst (pc := 21) hv 13 rfl  ?_
      refine r_goto (pc := 22) hv 14 rfl  ?_
      exact (w_X9_isRelieved_26 hS hv hw   l1 l2 x2 1  σ1 h)
  · replace h := h.2 c
    refine r_iconst (pc := 9) hv 5 rfl  ?_
    exact r_zreturn (pc := 10) hv 6 rfl rfl (Or.inr rfl) h
theorem m_X9_isRelieved {S : Sp} (hS : Sys S) {l1 : Int32} {l2 : Int32} {σ : St} {Φ : Rs} (h : ∀ v : Kt, Cl S Φ k_X9_isRelieved v → Wk v → vc_X9_isRelieved_0 S Φ v l1 l2 σ) : S 174 [aR 49, aI l1, aI l2] σ Φ :=
  hS.2 174 M_X9_isRelieved k_X9_isRelieved _ _ _ mkt_X9_isRelieved (Nat.le_of_ble_eq_true rfl) (fun v hv hw => w_X9_isRelieved_0 hS hv hw   l1 l2 σ (h v hv hw))
def vc_X9_fires_94 (S : Sp) (Φ : Rs) (v : Kt) (l1 : Int32) (σ : St) : Prop := vp_in 280 286 ∧ (((σ.1 50 (280 : Int32).toNatClampNeg : Int32) ≤ l1 → (Φ [] σ)) ∧ (¬ ((σ.1 50 (280 : Int32).toNatClampNeg : Int32) ≤ l1) → (((b2 (((σ.1 49 7 : Int32) >>> (l1 &&& 31)) &&& 1 = 1) : Int32) = 0 → (∀ σ1 : St, σ1 = upI σ 49 8 ((σ.1 49 8) ||| 0) → (v 94 [some (aR 49), some (aI (l1 + 1))] [] σ1))) ∧ (¬ ((b2 (((σ.1 49 7 : Int32) >>> (l1 &&& 31)) &&& 1 = 1) : Int32) = 0) → (S 174 [aR 49, aI l1, aI (σ.1 49 7)] σ (fun r σ2 => ∃ x3 : Int32, r = [aI x3] ∧ ((¬ (x3 : Int32) = 0 → (∀ σ4 : St, σ4 = upI σ2 49 8 ((σ.1 49 8) ||| 0) → (v 94 [some (aR 49), some (aI (l1 + 1))] [] σ4))) ∧ ((x3 : Int32) = 0 → (∀ σ5 : St, σ5 = upI σ2 49 8 ((σ.1 49 8) ||| (1 <<< (l1 &&& 31))) → (v 94 [some (aR 49), some (aI (l1 + 1))] [] σ5))))))))))
theorem w_X9_fires_94 {S : Sp} (hS : Sys S) {Φ : Rs} {v : Kt} (hv : Cl S Φ k_X9_fires v) (hw : Wk v) (l1 : Int32) (σ : St) (h : vc_X9_fires_94 S Φ v l1 σ) : v 94 [some (aR 49), some (aI l1)] [] σ := by
  unfold vc_X9_fires_94 at h
  refine r_iload_n (pc := 94) hv 55 rfl rfl ?_
  refine r_aload_n (pc := 95) hv 56 rfl rfl ?_
  refine r_getR (pc := 96) (b := 50) hv 57 rfl rfl rfl rfl ?_
  refine r_sipush (pc := 99) hv 58 rfl  ?_
  refine r_iaload (pc := 102) (N := 286) hv 59 rfl rfl rfl (by decide) h.1 ?_
  replace h := h.2
  refine r_icmp_ge (pc := 103) hv 60 rfl (fun c => ?_) (fun c => ?_)
  · replace h := h.1 c
    exact r_return (pc := 152) hv 85 rfl h
  · replace h := h.2 c
    refine r_aload_n (pc := 106) hv 61 rfl rfl ?_
    refine r_dup (pc := 107) hv 62 rfl trivial ?_
    refine r_getI (pc := 108) hv 63 rfl rfl rfl ?_
    refine r_aload_n (pc := 111) hv 64 rfl rfl ?_
    refine r_aload_n (pc := 112) hv 65 rfl rfl ?_
    refine r_getI (pc := 113) hv 66 rfl rfl rfl ?_
    refine r_iload_n (pc := 116) hv 67 rfl rfl ?_
    refine r_callV (pc := 117) (l := [aI l1, aI (σ.1 49 7)]) (av := [aI (σ.1 49 7), aI l1]) (a := 49) (t := [aI (σ.1 49 8), aR 49]) hv 68 rfl rfl rfl rfl (rcv_o (by decide) rfl) trivial (t_X9_has hS ?_)
    show v 120 [some (aR 49), some (aI l1)] [aI (b2 (((σ.1 49 7 : Int32) >>> (l1 &&& 31)) &&& 1 = 1)), aI (σ.1 49 8), aR 49] σ
    refine r_if_eq (pc := 120) hv 69 rfl (fun c => ?_) (fun c => ?_)
    · replace h := h.1 c
      refine r_iconst (pc := 141) hv 80 rfl  ?_
      refine r_ior (pc := 142) hv 81 rfl  ?_
      refine r_putI (pc := 143) hv 82 rfl rfl rfl ?_
      obtain ⟨σ1, e_σ1⟩ : ∃ y : St, y = upI σ 49 8 ((σ.1 49 8) ||| 0) := ⟨_, rfl⟩
      rw [← e_σ1]
      replace h := h σ1 e_σ1
      refine r_iinc (pc := 146) (lo' := [some (aR 49), some (aI (l1 + 1))]) hv 83 rfl rfl rfl ?_
      refine r_goto (pc := 149) hv 84 rfl  ?_
      exact h
    · replace h := h.2 c
      refine r_aload_n (pc := 123) hv 70 rfl rfl ?_
      refine r_iload_n (pc := 124) hv 71 rfl rfl ?_
      refine r_aload_n (pc := 125) hv 72 rfl rfl ?_
      refine r_getI (pc := 126) hv 73 rfl rfl rfl ?_
      refine r_callV (pc := 129) (l := [aI (σ.1 49 7), aI l1]) (av := [aI l1, aI (σ.1 49 7)]) (a := 49) (t := [aI (σ.1 49 8), aR 49]) hv 74 rfl rfl rfl rfl (rcv_o (by decide) rfl) trivial (hS.1 _ _ _ _ _ (fun r σ2 h => ?_) h)
      obtain ⟨x3, rfl, h⟩ := h
      show v 132 [some (aR 49), some (aI l1)] [aI x3, aI (σ.1 49 8), aR 49] σ2
      refine r_if_ne (pc := 132) hv 75 rfl (fun c => ?_) (fun c => ?_)
      · replace h := h.1 c
        refine r_iconst (pc := 141) hv 80 rfl  ?_
        refine r_ior (pc := 142) hv 81 rfl  ?_
        refine r_putI (pc := 143) hv 82 rfl rfl rfl ?_
        obtain ⟨σ4, e_σ4⟩ : ∃ y : St, y = upI σ2 49 8 ((σ.1 49 8) ||| 0) := ⟨_, rfl⟩
        rw [← e_σ4]
        replace h := h σ4 e_σ4
        refine r_iinc (pc := 146) (lo' := [some (aR 49), some (aI (l1 + 1))]) hv 83 rfl rfl rfl ?_
        refine r_goto (pc := 149) hv 84 rfl  ?_
        exact h
      · replace h := h.2 c
        refine r_iconst (pc := 135) hv 76 rfl  ?_
        refine r_iload_n (pc := 136) hv 77 rfl rfl ?_
        refine r_ishl (pc := 137) hv 78 rfl  ?_
        refine r_goto (pc := 138) hv 79 rfl  ?_
        refine r_ior (pc := 142) hv 81 rfl  ?_
        refine r_putI (pc := 143) hv 82 rfl rfl rfl ?_
        obtain ⟨σ5, e_σ5⟩ : ∃ y : St, y = upI σ2 49 8 ((σ.1 49 8) ||| (1 <<< (l1 &&& 31))) := ⟨_, rfl⟩
        rw [← e_σ5]
        replace h := h σ5 e_σ5
        refine r_iinc (pc := 146) (lo' := [some (aR 49), some (aI (l1 + 1))]) hv 83 rfl rfl rfl ?_
        refine r_goto (pc := 149) hv 84 rfl  ?_
        exact h
def vc_X9_fires_11 (S : Sp) (Φ : Rs) (v : Kt) (l1 : Int32) (σ : St) : Prop := vp_in 280 286 ∧ (((σ.1 50 (280 : Int32).toNatClampNeg : Int32) ≤ l1 → (∀ σ1 : St, σ1 = upI σ 49 8 0 → (v 94 [some (aR 49), some (aI 0)] [] σ1))) ∧ (¬ ((σ.1 50 (280 : Int32).toNatClampNeg : Int32) ≤ l1) → (vp_in l1 20 ∧ (((1000000 : Int32) ≤ (σ.1 53 (l1 : Int32).toNatClampNeg) → (v 11 [some (aR 49), some (aI (l1 + 1))] [] σ)) ∧ (¬ ((1000000 : Int32) ≤ (σ.1 53 (l1 : Int32).toNatClampNeg)) → (vp_in (8 * l1 + 6) 286 ∧ ((¬ (b2 (σ.1 50 (8 * l1 + 6 : Int32).toNatClampNeg = 1) : Int32) = 0 → (v 11 [some (aR 49), some (aI (l1 + 1))] [] σ)) ∧ ((b2 (σ.1 50 (8 * l1 + 6 : Int32).toNatClampNeg = 1) : Int32) = 0 → (S 154 [aR 49, aI l1] σ (fun r σ2 => ∃ x3 : Int32, r = [aI x3] ∧ (((x3 : Int32) ≤ 0 → (v 11 [some (aR 49), some (aI (l1 + 1))] [] σ2)) ∧ (¬ ((x3 : Int32) ≤ 0) → (∀ σ4 : St, σ4 = upI σ2 49 7 ((σ2.1 49 7) ||| (1 <<< (l1 &&& 31))) → (vp_in l1 20 ∧ (vp_in (8 * l1 + 5) 286 ∧ (vp_in l1 20 ∧ (∀ σ5 : St, σ5 = upI σ4 54 (l1 : Int32).toNatClampNeg ((σ4.1 53 (l1 : Int32).toNatClampNeg) + (σ4.1 50 (8 * l1 + 5 : Int32).toNatClampNeg)) → (v 11 [some (aR 49), some (aI (l1 + 1))] [] σ5))))))))))))))))))
theorem w_X9_fires_11 {S : Sp} (hS : Sys S) {Φ : Rs} {v : Kt} (hv : Cl S Φ k_X9_fires v) (hw : Wk v) (l1 : Int32) (σ : St) (h : vc_X9_fires_11 S Φ v l1 σ) : v 11 [some (aR 49), some (aI l1)] [] σ := by
  unfold vc_X9_fires_11 at h
  refine r_iload_n (pc := 11) hv 7 rfl rfl ?_
  refine r_aload_n (pc := 12) hv 8 rfl rfl ?_
  refine r_getR (pc := 13) (b := 50) hv 9 rfl rfl rfl rfl ?_
  refine r_sipush (pc := 16) hv 10 rfl  ?_
  refine r_iaload (pc := 19) (N := 286) hv 11 rfl rfl rfl (by decide) h.1 ?_
  replace h := h.2
  refine r_icmp_ge (pc := 20) hv 12 rfl (fun c => ?_) (fun c => ?_)
  · replace h := h.1 c
    refine r_aload_n (pc := 87) hv 50 rfl rfl ?_
    refine r_iconst (pc := 88) hv 51 rfl  ?_
    refine r_putI (pc := 89) hv 52 rfl rfl rfl ?_
    obtain ⟨σ1, e_σ1⟩ : ∃ y : St, y = upI σ 49 8 0 := ⟨_, rfl⟩
    rw [← e_σ1]
    replace h := h σ1 e_σ1
    refine r_iconst (pc := 92) hv 53 rfl  ?_
    refine r_istore_n (pc := 93) (lo' := [some (aR 49), some (aI 0)]) hv 54 rfl rfl ?_
    exact h
  · replace h := h.2 c
    refine r_aload_n (pc := 23) hv 13 rfl rfl ?_
    refine r_getR (pc := 24) (b := 53) hv 14 rfl rfl rfl rfl ?_
    refine r_iload_n (pc := 27) hv 15 rfl rfl ?_
    refine r_iaload (pc := 28) (N := 20) hv 16 rfl rfl rfl (by decide) h.1 ?_
    replace h := h.2
    refine r_ldc (pc := 29) hv 17 rfl rfl ?_
    refine r_icmp_ge (pc := 31) hv 18 rfl (fun c => ?_) (fun c => ?_)
    · replace h := h.1 c
      refine r_iinc (pc := 81) (lo' := [some (aR 49), some (aI (l1 + 1))]) hv 48 rfl rfl rfl ?_
      refine r_goto (pc := 84) hv 49 rfl  ?_
      exact h
    · replace h := h.2 c
      refine r_aload_n (pc := 34) hv 19 rfl rfl ?_
      refine r_iload_n (pc := 35) hv 20 rfl rfl ?_
      refine r_callV (pc := 36) (l := [aI l1]) (av := [aI l1]) (a := 49) (t := []) hv 21 rfl rfl rfl rfl (rcv_o (by decide) rfl) trivial (t_X9_isDead hS h.1 ?_)
      replace h := h.2
      show v 39 [some (aR 49), some (aI l1)] [aI (b2 (σ.1 50 (8 * l1 + 6 : Int32).toNatClampNeg = 1))] σ
      refine r_if_ne (pc := 39) hv 22 rfl (fun c => ?_) (fun c => ?_)
      · replace h := h.1 c
        refine r_iinc (pc := 81) (lo' := [some (aR 49), some (aI (l1 + 1))]) hv 48 rfl rfl rfl ?_
        refine r_goto (pc := 84) hv 49 rfl  ?_
        exact h
      · replace h := h.2 c
        refine r_aload_n (pc := 42) hv 23 rfl rfl ?_
        refine r_iload_n (pc := 43) hv 24 rfl rfl ?_
        refine r_callV (pc := 44) (l := [aI l1]) (av := [aI l1]) (a := 49) (t := []) hv 25 rfl rfl rfl rfl (rcv_o (by decide) rfl) trivial (hS.1 _ _ _ _ _ (fun r σ2 h => ?_) h)
        obtain ⟨x3, rfl, h⟩ := h
        show v 47 [some (aR 49), some (aI l1)] [aI x3] σ2
        refine r_if_le (pc := 47) hv 26 rfl (fun c => ?_) (fun c => ?_)
        · replace h := h.1 c
          refine r_iinc (pc := 81) (lo' := [some (aR 49), some (aI (l1 + 1))]) hv 48 rfl rfl rfl ?_
          refine r_goto (pc := 84) hv 49 rfl  ?_
          exact h
        · replace h := h.2 c
          refine r_aload_n (pc := 50) hv 27 rfl rfl ?_
          refine r_dup (pc := 51) hv 28 rfl trivial ?_
          refine r_getI (pc := 52) hv 29 rfl rfl rfl ?_
          refine r_iconst (pc := 55) hv 30 rfl  ?_
          refine r_iload_n (pc := 56) hv 31 rfl rfl ?_
          refine r_ishl (pc := 57) hv 32 rfl  ?_
          refine r_ior (pc := 58) hv 33 rfl  ?_
          refine r_putI (pc := 59) hv 34 rfl rfl rfl ?_
          obtain ⟨σ4, e_σ4⟩ : ∃ y : St, y = upI σ2 49 7 ((σ2.1 49 7) ||| (1 <<< (l1 &&& 31))) := ⟨_, rfl⟩
          rw [← e_σ4]
          replace h := h σ4 e_σ4
          refine r_aload_n (pc := 62) hv 35 rfl rfl ?_
          refine r_getR (pc := 63) (b := 54) hv 36 rfl rfl rfl rfl ?_
          refine r_iload_n (pc := 66) hv 37 rfl rfl ?_
          refine r_aload_n (pc := 67) hv 38 rfl rfl ?_
          refine r_getR (pc := 68) (b := 53) hv 39 rfl rfl rfl rfl ?_
          refine r_iload_n (pc := 71) hv 40 rfl rfl ?_
          refine r_iaload (pc := 72) (N := 20) hv 41 rfl rfl rfl (by decide) h.1 ?_
          replace h := h.2
          refine r_aload_n (pc := 73) hv 42 rfl rfl ?_
          refine r_iload_n (pc := 74) hv 43 rfl rfl ?_
          refine r_iconst (pc := 75) hv 44 rfl  ?_
          refine r_callV (pc := 76) (l := [aI 5, aI l1]) (av := [aI l1, aI 5]) (a := 49) (t := [aI (σ4.1 53 (l1 : Int32).toNatClampNeg), aI l1, aR 54]) hv 45 rfl rfl rfl rfl (rcv_o (by decide) rfl) trivial (t_X9_its hS h.1 ?_)
          replace h := h.2
          show v 79 [some (aR 49), some (aI l1)] [aI (σ4.1 50 (8 * l1 + 5 : Int32).toNatClampNeg), aI (σ4.1 53 (l1 : Int32).toNatClampNeg), aI l1, aR 54] σ4
          refine r_iadd (pc := 79) hv 46 rfl  ?_
          refine r_iastore (pc := 80) (N := 20) hv 47 rfl rfl rfl h.1 ?_
          replace h := h.2
          obtain ⟨σ5, e_σ5⟩ : ∃ y : St, y = upI σ4 54 (l1 : Int32).toNatClampNeg ((σ4.1 53 (l1 : Int32).toNatClampNeg) + (σ4.1 50 (8 * l1 + 5 : Int32).toNatClampNeg)) := ⟨_, rfl⟩
          rw [← e_σ5]
          replace h := h σ5 e_σ5
          refine r_iinc (pc := 81) (lo' := [some (aR 49), some (aI (l1 + 1))]) hv 48 rfl rfl rfl ?_
          refine r_goto (pc := 84) hv 49 rfl  ?_
          exact h
def vc_X9_fires_0 (S : Sp) (Φ : Rs) (v : Kt) (σ : St) : Prop := S 172 [aR 49] σ (fun r σ1 => r = [] ∧ (∀ σ2 : St, σ2 = upI σ1 49 7 0 → (v 11 [some (aR 49), some (aI 0)] [] σ2)))
theorem w_X9_fires_0 {S : Sp} (hS : Sys S) {Φ : Rs} {v : Kt} (hv : Cl S Φ k_X9_fires v) (hw : Wk v) (σ : St) (h : vc_X9_fires_0 S Φ v  σ) : v 0 [some (aR 49), none] [] σ := by
  unfold vc_X9_fires_0 at h
  refine r_aload_n (pc := 0) hv 0 rfl rfl ?_
  refine r_callV (pc := 1) (l := []) (av := []) (a := 49) (t := []) hv 1 rfl rfl rfl rfl (rcv_o (by decide) rfl) trivial (hS.1 _ _ _ _ _ (fun r σ1 h => ?_) h)
  obtain ⟨rfl, h⟩ := h
  show v 4 [some (aR 49), none] [] σ1
  refine r_aload_n (pc := 4) hv 2 rfl rfl ?_
  refine r_iconst (pc := 5) hv 3 rfl  ?_
  refine r_putI (pc := 6) hv 4 rfl rfl rfl ?_
  obtain ⟨σ2, e_σ2⟩ : ∃ y : St, y = upI σ1 49 7 0 := ⟨_, rfl⟩
  rw [← e_σ2]
  replace h := h σ2 e_σ2
  refine r_iconst (pc := 9) hv 5 rfl  ?_
  refine r_istore_n (pc := 10) (lo' := [some (aR 49), some (aI 0)]) hv 6 rfl rfl ?_
  exact h
theorem m_X9_fires {S : Sp} (hS : Sys S) {σ : St} {Φ : Rs} (h : ∀ v : Kt, Cl S Φ k_X9_fires v → Wk v → vc_X9_fires_0 S Φ v  σ) : S 175 [aR 49] σ Φ :=
  hS.2 175 M_X9_fires k_X9_fires _ _ _ mkt_X9_fires (Nat.le_of_ble_eq_true rfl) (fun v hv hw => w_X9_fires_0 hS hv hw    σ (h v hv hw))
def vc_X9_isTorn_88 (S : Sp) (Φ : Rs) (v : Kt) (l1 : Int32) (l2 : Int32) (l3 : Int32) (l4 : Int32) (s0 : Int32) (σ : St) : Prop := ((s0 : Int32) = 0 → (v 16 [some (aR 49), some (aI l1), some (aI l2), some (aI l3), some (aI (l4 + 1)), none] [] σ)) ∧ (¬ ((s0 : Int32) = 0) → (((b2 (((σ.1 49 7 : Int32) >>> (l4 &&& 31)) &&& 1 = 1) : Int32) = 0 → (v 16 [some (aR 49), some (aI l1), some (aI l2), some (aI l3), some (aI (l4 + 1)), none] [] σ)) ∧ (¬ ((b2 (((σ.1 49 7 : Int32) >>> (l4 &&& 31)) &&& 1 = 1) : Int32) = 0) → (vp_in l4 20 ∧ (((l2 : Int32) ≤ (σ.1 54 (l4 : Int32).toNatClampNeg) → (v 16 [some (aR 49), some (aI l1), some (aI l2), some (aI l3), some (aI (l4 + 1)), none] [] σ)) ∧ (¬ ((l2 : Int32) ≤ (σ.1 54 (l4 : Int32).toNatClampNeg)) → (Φ [aI 1] σ)))))))
theorem w_X9_isTorn_88 {S : Sp} (hS : Sys S) {Φ : Rs} {v : Kt} (hv : Cl S Φ k_X9_isTorn v) (hw : Wk v) (l1 : Int32) (l2 : Int32) (l3 : Int32) (l4 : Int32) (s0 : Int32) (σ : St) (h : vc_X9_isTorn_88 S Φ v l1 l2 l3 l4 s0 σ) : v 88 [some (aR 49), some (aI l1), some (aI l2), some (aI l3), some (aI l4), none] [aI s0] σ := by
  unfold vc_X9_isTorn_88 at h
  refine r_istore (pc := 88) (lo' := [some (aR 49), some (aI l1), some (aI l2), some (aI l3), some (aI l4), some (aI s0)]) hv 50 rfl rfl ?_
  refine r_iload (pc := 90) hv 51 rfl rfl ?_
  refine r_if_eq (pc := 92) hv 52 rfl (fun c => ?_) (fun c => ?_)
  · replace h := h.1 c
    refine r_iinc (pc := 121) (lo' := [some (aR 49), some (aI l1), some (aI l2), some (aI l3), some (aI (l4 + 1)), some (aI s0)]) hv 67 rfl rfl rfl ?_
    refine r_goto (pc := 124) hv 68 rfl  ?_
    exact hw 16 [some (aR 49), some (aI l1), some (aI l2), some (aI l3), some (aI (l4 + 1)), none] _ _ _ ⟨rfl, ⟨rfl, ⟨rfl, ⟨rfl, ⟨rfl, trivial⟩⟩⟩⟩⟩ h
  · replace h := h.2 c
    refine r_aload_n (pc := 95) hv 53 rfl rfl ?_
    refine r_aload_n (pc := 96) hv 54 rfl rfl ?_
    refine r_getI (pc := 97) hv 55 rfl rfl rfl ?_
    refine r_iload (pc := 100) hv 56 rfl rfl ?_
    refine r_callV (pc := 102) (l := [aI l4, aI (σ.1 49 7)]) (av := [aI (σ.1 49 7), aI l4]) (a := 49) (t := []) hv 57 rfl rfl rfl rfl (rcv_o (by decide) rfl) trivial (t_X9_has hS ?_)
    show v 105 [some (aR 49), some (aI l1), some (aI l2), some (aI l3), some (aI l4), some (aI s0)] [aI (b2 (((σ.1 49 7 : Int32) >>> (l4 &&& 31)) &&& 1 = 1))] σ
    refine r_if_eq (pc := 105) hv 58 rfl (fun c => ?_) (fun c => ?_)
    · replace h := h.1 c
      refine r_iinc (pc := 121) (lo' := [some (aR 49), some (aI l1), some (aI l2), some (aI l3), some (aI (l4 + 1)), some (aI s0)]) hv 67 rfl rfl rfl ?_
      refine r_goto (pc := 124) hv 68 rfl  ?_
      exact hw 16 [some (aR 49), some (aI l1), some (aI l2), some (aI l3), some (aI (l4 + 1)), none] _ _ _ ⟨rfl, ⟨rfl, ⟨rfl, ⟨rfl, ⟨rfl, trivial⟩⟩⟩⟩⟩ h
    · replace h := h.2 c
      refine r_aload_n (pc := 108) hv 59 rfl rfl ?_
      refine r_getR (pc := 109) (b := 54) hv 60 rfl rfl rfl rfl ?_
      refine r_iload (pc := 112) hv 61 rfl rfl ?_
      refine r_iaload (pc := 114) (N := 20) hv 62 rfl rfl rfl (by decide) h.1 ?_
      replace h := h.2
      refine r_iload_n (pc := 115) hv 63 rfl rfl ?_
      refine r_icmp_ge (pc := 116) hv 64 rfl (fun c => ?_) (fun c => ?_)
      · replace h := h.1 c
        refine r_iinc (pc := 121) (lo' := [some (aR 49), some (aI l1), some (aI l2), some (aI l3), some (aI (l4 + 1)), some (aI s0)]) hv 67 rfl rfl rfl ?_
        refine r_goto (pc := 124) hv 68 rfl  ?_
        exact hw 16 [some (aR 49), some (aI l1), some (aI l2), some (aI l3), some (aI (l4 + 1)), none] _ _ _ ⟨rfl, ⟨rfl, ⟨rfl, ⟨rfl, ⟨rfl, trivial⟩⟩⟩⟩⟩ h
      · replace h := h.2 c
        refine r_iconst (pc := 119) hv 65 rfl  ?_
        exact r_zreturn (pc := 120) hv 66 rfl rfl (Or.inr rfl) h
def vc_X9_isTorn_87 (S : Sp) (Φ : Rs) (v : Kt) (l1 : Int32) (l2 : Int32) (l3 : Int32) (l4 : Int32) (σ : St) : Prop := vc_X9_isTorn_88 S Φ v  l1 l2 l3 l4 0 σ
theorem w_X9_isTorn_87 {S : Sp} (hS : Sys S) {Φ : Rs} {v : Kt} (hv : Cl S Φ k_X9_isTorn v) (hw : Wk v) (l1 : Int32) (l2 : Int32) (l3 : Int32) (l4 : Int32) (σ : St) (h : vc_X9_isTorn_87 S Φ v l1 l2 l3 l4 σ) : v 87 [some (aR 49), some (aI l1), some (aI l2), some (aI l3), some (aI l4), none] [] σ := by
  unfold vc_X9_isTorn_87 at h
  refine r_iconst (pc := 87) hv 49 rfl  ?_
  exact (w_X9_isTorn_88 hS hv hw   l1 l2 l3 l4 0  σ h)
def vc_X9_isTorn_16 (S : Sp) (Φ : Rs) (v : Kt) (l1 : Int32) (l2 : Int32) (l3 : Int32) (l4 : Int32) (σ : St) : Prop := vp_in 280 286 ∧ (((σ.1 50 (280 : Int32).toNatClampNeg : Int32) ≤ l4 → (Φ [aI 0] σ)) ∧ (¬ ((σ.1 50 (280 : Int32).toNatClampNeg : Int32) ≤ l4) → (((1000000 : Int32) ≤ l2 → (Φ [aI 0] σ)) ∧ (¬ ((1000000 : Int32) ≤ l2) → (((l4 : Int32) = l3 → (vc_X9_isTorn_87 S Φ v  l1 l2 l3 l4 σ)) ∧ (¬ ((l4 : Int32) = l3) → (vp_in (8 * l4 + 0) 286 ∧ (vp_in (8 * l3 + 0) 286 ∧ (S 145 [aI ((σ.1 50 (8 * l4 + 0 : Int32).toNatClampNeg) - (σ.1 50 (8 * l3 + 0 : Int32).toNatClampNeg))] σ (fun r σ1 => ∃ x2 : Int32, r = [aI x2] ∧ (((2 : Int32) ≤ x2 → (vc_X9_isTorn_87 S Φ v  l1 l2 l3 l4 σ1)) ∧ (¬ ((2 : Int32) ≤ x2) → (vp_in (8 * l4 + 1) 286 ∧ (vp_in (8 * l3 + 1) 286 ∧ (S 145 [aI ((σ1.1 50 (8 * l4 + 1 : Int32).toNatClampNeg) - (σ1.1 50 (8 * l3 + 1 : Int32).toNatClampNeg))] σ1 (fun r σ3 => ∃ x4 : Int32, r = [aI x4] ∧ (((2 : Int32) ≤ x4 → (vc_X9_isTorn_87 S Φ v  l1 l2 l3 l4 σ3)) ∧ (¬ ((2 : Int32) ≤ x4) → (vc_X9_isTorn_88 S Φ v  l1 l2 l3 l4 1 σ3)))))))))))))))))))
theorem w_X9_isTorn_16 {S : Sp} (hS : Sys S) {Φ : Rs} {v : Kt} (hv : Cl S Φ k_X9_isTorn v) (hw : Wk v) (l1 : Int32) (l2 : Int32) (l3 : Int32) (l4 : Int32) (σ : St) (h : vc_X9_isTorn_16 S Φ v l1 l2 l3 l4 σ) : v 16 [some (aR 49), some (aI l1), some (aI l2), some (aI l3), some (aI l4), none] [] σ := by
  unfold vc_X9_isTorn_16 at h
  refine r_iload (pc := 16) hv 11 rfl rfl ?_
  refine r_aload_n (pc := 18) hv 12 rfl rfl ?_
  refine r_getR (pc := 19) (b := 50) hv 13 rfl rfl rfl rfl ?_
  refine r_sipush (pc := 22) hv 14 rfl  ?_
  refine r_iaload (pc := 25) (N := 286) hv 15 rfl rfl rfl (by decide) h.1 ?_
  replace h := h.2
  refine r_icmp_ge (pc := 26) hv 16 rfl (fun c => ?_) (fun c => ?_)
  · replace h := h.1 c
    refine r_iconst (pc := 127) hv 69 rfl  ?_
    exact r_zreturn (pc := 128) hv 70 rfl rfl (Or.inl rfl) h
  · replace h := h.2 c
    refine r_iload_n (pc := 29) hv 17 rfl rfl ?_
    refine r_ldc (pc := 30) hv 18 rfl rfl ?_
    refine r_icmp_ge (pc := 32) hv 19 rfl (fun c => ?_) (fun c => ?_)
    · replace h := h.1 c
      refine r_iconst (pc := 127) hv 69 rfl  ?_
      exact r_zreturn (pc := 128) hv 70 rfl rfl (Or.inl rfl) h
    · replace h := h.2 c
      refine r_iload (pc := 35) hv 20 rfl rfl ?_
      refine r_iload_n (pc := 37) hv 21 rfl rfl ?_
      refine r_icmp_eq (pc := 38) hv 22 rfl (fun c => ?_) (fun c => ?_)
      · replace h := h.1 c
        exact (w_X9_isTorn_87 hS hv hw   l1 l2 l3 l4  σ h)
      · replace h := h.2 c
        refine r_aload_n (pc := 41) hv 23 rfl rfl ?_
        refine r_iload (pc := 42) hv 24 rfl rfl ?_
        refine r_iconst (pc := 44) hv 25 rfl  ?_
        refine r_callV (pc := 45) (l := [aI 0, aI l4]) (av := [aI l4, aI 0]) (a := 49) (t := []) hv 26 rfl rfl rfl rfl (rcv_o (by decide) rfl) trivial (t_X9_its hS h.1 ?_)
        replace h := h.2
        show v 48 [some (aR 49), some (aI l1), some (aI l2), some (aI l3), some (aI l4), none] [aI (σ.1 50 (8 * l4 + 0 : Int32).toNatClampNeg)] σ
        refine r_aload_n (pc := 48) hv 27 rfl rfl ?_
        refine r_iload_n (pc := 49) hv 28 rfl rfl ?_
        refine r_iconst (pc := 50) hv 29 rfl  ?_
        refine r_callV (pc := 51) (l := [aI 0, aI l3]) (av := [aI l3, aI 0]) (a := 49) (t := [aI (σ.1 50 (8 * l4 + 0 : Int32).toNatClampNeg)]) hv 30 rfl rfl rfl rfl (rcv_o (by decide) rfl) trivial (t_X9_its hS h.1 ?_)
        replace h := h.2
        show v 54 [some (aR 49), some (aI l1), some (aI l2), some (aI l3), some (aI l4), none] [aI (σ.1 50 (8 * l3 + 0 : Int32).toNatClampNeg), aI (σ.1 50 (8 * l4 + 0 : Int32).toNatClampNeg)] σ
        refine r_isub (pc := 54) hv 31 rfl  ?_
        refine r_callS (pc := 55) (l := [aI ((σ.1 50 (8 * l4 + 0 : Int32).toNatClampNeg) - (σ.1 50 (8 * l3 + 0 : Int32).toNatClampNeg))]) (av := [aI ((σ.1 50 (8 * l4 + 0 : Int32).toNatClampNeg) - (σ.1 50 (8 * l3 + 0 : Int32).toNatClampNeg))]) (t := []) hv 32 rfl (Or.inl rfl) rfl rfl rfl trivial (hS.1 _ _ _ _ _ (fun r σ1 h => ?_) h)
        obtain ⟨x2, rfl, h⟩ := h
        show v 58 [some (aR 49), some (aI l1), some (aI l2), some (aI l3), some (aI l4), none] [aI x2] σ1
        refine r_iconst (pc := 58) hv 33 rfl  ?_
        refine r_icmp_ge (pc := 59) hv 34 rfl (fun c => ?_) (fun c => ?_)
        · replace h := h.1 c
          exact (w_X9_isTorn_87 hS hv hw   l1 l2 l3 l4  σ1 h)
        · replace h := h.2 c
          refine r_aload_n (pc := 62) hv 35 rfl rfl ?_
          refine r_iload (pc := 63) hv 36 rfl rfl ?_
          refine r_iconst (pc := 65) hv 37 rfl  ?_
          refine r_callV (pc := 66) (l := [aI 1, aI l4]) (av := [aI l4, aI 1]) (a := 49) (t := []) hv 38 rfl rfl rfl rfl (rcv_o (by decide) rfl) trivial (t_X9_its hS h.1 ?_)
          replace h := h.2
          show v 69 [some (aR 49), some (aI l1), some (aI l2), some (aI l3), some (aI l4), none] [aI (σ1.1 50 (8 * l4 + 1 : Int32).toNatClampNeg)] σ1
          refine r_aload_n (pc := 69) hv 39 rfl rfl ?_
          refine r_iload_n (pc := 70) hv 40 rfl rfl ?_
          refine r_iconst (pc := 71) hv 41 rfl  ?_
          refine r_callV (pc := 72) (l := [aI 1, aI l3]) (av := [aI l3, aI 1]) (a := 49) (t := [aI (σ1.1 50 (8 * l4 + 1 : Int32).toNatClampNeg)]) hv 42 rfl rfl rfl rfl (rcv_o (by decide) rfl) trivial (t_X9_its hS h.1 ?_)
          replace h := h.2
          show v 75 [some (aR 49), some (aI l1), some (aI l2), some (aI l3), some (aI l4), none] [aI (σ1.1 50 (8 * l3 + 1 : Int32).toNatClampNeg), aI (σ1.1 50 (8 * l4 + 1 : Int32).toNatClampNeg)] σ1
          refine r_isub (pc := 75) hv 43 rfl  ?_
          refine r_callS (pc := 76) (l := [aI ((σ1.1 50 (8 * l4 + 1 : Int32).toNatClampNeg) - (σ1.1 50 (8 * l3 + 1 : Int32).toNatClampNeg))]) (av := [aI ((σ1.1 50 (8 * l4 + 1 : Int32).toNatClampNeg) - (σ1.1 50 (8 * l3 + 1 : Int32).toNatClampNeg))]) (t := []) hv 44 rfl (Or.inl rfl) rfl rfl rfl trivial (hS.1 _ _ _ _ _ (fun r σ3 h => ?_) h)
          obtain ⟨x4, rfl, h⟩ := h
          show v 79 [some (aR 49), some (aI l1), some (aI l2), some (aI l3), some (aI l4), none] [aI x4] σ3
          refine r_iconst (pc := 79) hv 45 rfl  ?_
          refine r_icmp_ge (pc := 80) hv 46 rfl (fun c => ?_) (fun c => ?_)
          · replace h := h.1 c
            exact (w_X9_isTorn_87 hS hv hw   l1 l2 l3 l4  σ3 h)
          · replace h := h.2 c
            refine r_iconst (pc := 83) hv 47 rfl  ?_
            refine r_goto (pc := 84) hv 48 rfl  ?_
            exact (w_X9_isTorn_88 hS hv hw   l1 l2 l3 l4 1  σ3 h)
def vc_X9_isTorn_0 (S : Sp) (Φ : Rs) (v : Kt) (l1 : Int32) (σ : St) : Prop := S 171 [aR 49, aI l1] σ (fun r σ1 => ∃ x2 : Int32, r = [aI x2] ∧ (vp_in (160 + 3 * l1 + 1) 286 ∧ (v 16 [some (aR 49), some (aI l1), some (aI x2), some (aI (σ1.1 50 (160 + 3 * l1 + 1 : Int32).toNatClampNeg)), some (aI 0), none] [] σ1)))
theorem w_X9_isTorn_0 {S : Sp} (hS : Sys S) {Φ : Rs} {v : Kt} (hv : Cl S Φ k_X9_isTorn v) (hw : Wk v) (l1 : Int32) (σ : St) (h : vc_X9_isTorn_0 S Φ v l1 σ) : v 0 [some (aR 49), some (aI l1), none, none, none, none] [] σ := by
  unfold vc_X9_isTorn_0 at h
  refine r_aload_n (pc := 0) hv 0 rfl rfl ?_
  refine r_iload_n (pc := 1) hv 1 rfl rfl ?_
  refine r_callV (pc := 2) (l := [aI l1]) (av := [aI l1]) (a := 49) (t := []) hv 2 rfl rfl rfl rfl (rcv_o (by decide) rfl) trivial (hS.1 _ _ _ _ _ (fun r σ1 h => ?_) h)
  obtain ⟨x2, rfl, h⟩ := h
  show v 5 [some (aR 49), some (aI l1), none, none, none, none] [aI x2] σ1
  refine r_istore_n (pc := 5) (lo' := [some (aR 49), some (aI l1), some (aI x2), none, none, none]) hv 3 rfl rfl ?_
  refine r_aload_n (pc := 6) hv 4 rfl rfl ?_
  refine r_iload_n (pc := 7) hv 5 rfl rfl ?_
  refine r_iconst (pc := 8) hv 6 rfl  ?_
  refine r_callV (pc := 9) (l := [aI 1, aI l1]) (av := [aI l1, aI 1]) (a := 49) (t := []) hv 7 rfl rfl rfl rfl (rcv_o (by decide) rfl) trivial (t_X9_wires hS h.1 ?_)
  replace h := h.2
  show v 12 [some (aR 49), some (aI l1), some (aI x2), none, none, none] [aI (σ1.1 50 (160 + 3 * l1 + 1 : Int32).toNatClampNeg)] σ1
  refine r_istore_n (pc := 12) (lo' := [some (aR 49), some (aI l1), some (aI x2), some (aI (σ1.1 50 (160 + 3 * l1 + 1 : Int32).toNatClampNeg)), none, none]) hv 8 rfl rfl ?_
  refine r_iconst (pc := 13) hv 9 rfl  ?_
  refine r_istore (pc := 14) (lo' := [some (aR 49), some (aI l1), some (aI x2), some (aI (σ1.1 50 (160 + 3 * l1 + 1 : Int32).toNatClampNeg)), some (aI 0), none]) hv 10 rfl rfl ?_
  exact h
theorem m_X9_isTorn {S : Sp} (hS : Sys S) {l1 : Int32} {σ : St} {Φ : Rs} (h : ∀ v : Kt, Cl S Φ k_X9_isTorn v → Wk v → vc_X9_isTorn_0 S Φ v l1 σ) : S 176 [aR 49, aI l1] σ Φ :=
  hS.2 176 M_X9_isTorn k_X9_isTorn _ _ _ mkt_X9_isTorn (Nat.le_of_ble_eq_true rfl) (fun v hv hw => w_X9_isTorn_0 hS hv hw   l1 σ (h v hv hw))
def vc_X9_wired_0 (S : Sp) (Φ : Rs) (v : Kt) (l1 : Int32) (l2 : Int32) (σ : St) : Prop := ((b2 ((0 : Int64) ≤ (l1 : Int32).toInt64 ∧ ((l1 : Int32).toInt64 : Int64) ≤ (σ.1 50 (281 : Int32).toNatClampNeg - 1 : Int32).toInt64) : Int32) = 0 → (Φ [aI (-1)] σ)) ∧ (¬ ((b2 ((0 : Int64) ≤ (l1 : Int32).toInt64 ∧ ((l1 : Int32).toInt64 : Int64) ≤ (σ.1 50 (281 : Int32).toNatClampNeg - 1 : Int32).toInt64) : Int32) = 0) → ((¬ (b2 ((0 : Int64) ≤ ((l2 : Int32).toInt64) ∧ ((l2 : Int32).toInt64 : Int64) ≤ 4) : Int32) = 0 → (S 175 [aR 49] σ (fun r σ1 => r = [] ∧ (((l2 : Int32) = 0 → (vp_in (160 + 3 * l1 + 0) 286 ∧ (((0 : Int32) ≤ (σ1.1 50 (160 + 3 * l1 + 0 : Int32).toNatClampNeg) → (vp_in (160 + 3 * l1 + 0) 286 ∧ (Φ [aI (σ1.1 50 (160 + 3 * l1 + 0 : Int32).toNatClampNeg)] σ1))) ∧ (¬ ((0 : Int32) ≤ (σ1.1 50 (160 + 3 * l1 + 0 : Int32).toNatClampNeg)) → (Φ [aI 99] σ1))))) ∧ (¬ ((l2 : Int32) = 0) → (((l2 : Int32) = 1 → (vp_in (160 + 3 * l1 + l2) 286 ∧ (Φ [aI (σ1.1 50 (160 + 3 * l1 + l2 : Int32).toNatClampNeg)] σ1))) ∧ (¬ ((l2 : Int32) = 1) → (((l2 : Int32) = 2 → (vp_in (160 + 3 * l1 + l2) 286 ∧ (Φ [aI (σ1.1 50 (160 + 3 * l1 + l2 : Int32).toNatClampNeg)] σ1))) ∧ (¬ ((l2 : Int32) = 2) → (((l2 : Int32) = 3 → (S 171 [aR 49, aI l1] σ1 (fun r σ2 => ∃ x3 : Int32, r = [aI x3] ∧ ((¬ (x3 : Int32) = 1000000 → (S 171 [aR 49, aI l1] σ2 (fun r σ4 => ∃ x5 : Int32, r = [aI x5] ∧ (Φ [aI x5] σ4)))) ∧ ((x3 : Int32) = 1000000 → (Φ [aI (-1)] σ2)))))) ∧ (¬ ((l2 : Int32) = 3) → (((l2 : Int32) = 4 → (S 176 [aR 49, aI l1] σ1 (fun r σ6 => ∃ x7 : Int32, r = [aI x7] ∧ (((x7 : Int32) = 0 → (Φ [aI 0] σ6)) ∧ (¬ ((x7 : Int32) = 0) → (Φ [aI 1] σ6)))))) ∧ (¬ ((l2 : Int32) = 4) → (vp_in (160 + 3 * l1 + l2) 286 ∧ (Φ [aI (σ1.1 50 (160 + 3 * l1 + l2 : Int32).toNatClampNeg)] σ1))))))))))))))) ∧ ((b2 ((0 : Int64) ≤ ((l2 : Int32).toInt64) ∧ ((l2 : Int32).toInt64 : Int64) ≤ 4) : Int32) = 0 → (Φ [aI (-1)] σ))))
theorem w_X9_wired_0 {S : Sp} (hS : Sys S) {Φ : Rs} {v : Kt} (hv : Cl S Φ k_X9_wired v) (hw : Wk v) (l1 : Int32) (l2 : Int32) (σ : St) (h : vc_X9_wired_0 S Φ v l1 l2 σ) : v 0 [some (aR 49), some (aI l1), some (aI l2)] [] σ := by
  unfold vc_X9_wired_0 at h
  refine r_aload_n (pc := 0) hv 0 rfl rfl ?_
  refine r_iload_n (pc := 1) hv 1 rfl rfl ?_
  refine r_callV (pc := 2) (l := [aI l1]) (av := [aI l1]) (a := 49) (t := []) hv 2 rfl rfl rfl rfl (rcv_o (by decide) rfl) trivial (t_X9_isWire hS ?_)
  show v 5 [some (aR 49), some (aI l1), some (aI l2)] [aI (b2 ((0 : Int64) ≤ (l1 : Int32).toInt64 ∧ ((l1 : Int32).toInt64 : Int64) ≤ (σ.1 50 (281 : Int32).toNatClampNeg - 1 : Int32).toInt64))] σ
  refine r_if_eq (pc := 5) hv 3 rfl (fun c => ?_) (fun c => ?_)
  · replace h := h.1 c
    refine r_iconst (pc := 20) hv 10 rfl  ?_
    exact r_ireturn (pc := 21) hv 11 rfl rfl h
  · replace h := h.2 c
    refine r_iload_n (pc := 8) hv 4 rfl rfl ?_
    refine r_i2l (pc := 9) hv 5 rfl  ?_
    refine r_lconst (pc := 10) hv 6 rfl  ?_
    refine r_ldc2_w (pc := 11) hv 7 rfl  ?_
    refine r_callS (pc := 14) (l := [aL 4, aL 0, aL ((l2 : Int32).toInt64)]) (av := [aL ((l2 : Int32).toInt64), aL 0, aL 4]) (t := []) hv 8 rfl (Or.inl rfl) rfl rfl rfl trivial (t_X9_in hS ?_)
    show v 17 [some (aR 49), some (aI l1), some (aI l2)] [aI (b2 ((0 : Int64) ≤ ((l2 : Int32).toInt64) ∧ ((l2 : Int32).toInt64 : Int64) ≤ 4))] σ
    refine r_if_ne (pc := 17) hv 9 rfl (fun c => ?_) (fun c => ?_)
    · replace h := h.1 c
      refine r_aload_n (pc := 22) hv 12 rfl rfl ?_
      refine r_callV (pc := 23) (l := []) (av := []) (a := 49) (t := []) hv 13 rfl rfl rfl rfl (rcv_o (by decide) rfl) trivial (hS.1 _ _ _ _ _ (fun r σ1 h => ?_) h)
      obtain ⟨rfl, h⟩ := h
      show v 26 [some (aR 49), some (aI l1), some (aI l2)] [] σ1
      refine r_iload_n (pc := 26) hv 14 rfl rfl ?_
      refine r_tab (pc := 27) hv 15 rfl ?_
      refine ⟨fun c => ?_, fun c => ?_⟩
      · replace h := h.1 c
        show v 60 [some (aR 49), some (aI l1), some (aI l2)] [] σ1
        refine r_aload_n (pc := 60) hv 16 rfl rfl ?_
        refine r_iload_n (pc := 61) hv 17 rfl rfl ?_
        refine r_iconst (pc := 62) hv 18 rfl  ?_
        refine r_callV (pc := 63) (l := [aI 0, aI l1]) (av := [aI l1, aI 0]) (a := 49) (t := []) hv 19 rfl rfl rfl rfl (rcv_o (by decide) rfl) trivial (t_X9_wires hS h.1 ?_)
        replace h := h.2
        show v 66 [some (aR 49), some (aI l1), some (aI l2)] [aI (σ1.1 50 (160 + 3 * l1 + 0 : Int32).toNatClampNeg)] σ1
        refine r_if_ge (pc := 66) hv 20 rfl (fun c => ?_) (fun c => ?_)
        · replace h := h.1 c
          refine r_aload_n (pc := 74) hv 23 rfl rfl ?_
          refine r_iload_n (pc := 75) hv 24 rfl rfl ?_
          refine r_iconst (pc := 76) hv 25 rfl  ?_
          refine r_callV (pc := 77) (l := [aI 0, aI l1]) (av := [aI l1, aI 0]) (a := 49) (t := []) hv 26 rfl rfl rfl rfl (rcv_o (by decide) rfl) trivial (t_X9_wires hS h.1 ?_)
          replace h := h.2
          show v 80 [some (aR 49), some (aI l1), some (aI l2)] [aI (σ1.1 50 (160 + 3 * l1 + 0 : Int32).toNatClampNeg)] σ1
          exact r_ireturn (pc := 80) hv 27 rfl rfl h
        · replace h := h.2 c
          refine r_bipush (pc := 69) hv 21 rfl  ?_
          refine r_goto (pc := 71) hv 22 rfl  ?_
          exact r_ireturn (pc := 80) hv 27 rfl rfl h
      · replace h := h.2 c
        refine ⟨fun c => ?_, fun c => ?_⟩
        · replace h := h.1 c
          show v 115 [some (aR 49), some (aI l1), some (aI l2)] [] σ1
          refine r_aload_n (pc := 115) hv 47 rfl rfl ?_
          refine r_iload_n (pc := 116) hv 48 rfl rfl ?_
          refine r_iload_n (pc := 117) hv 49 rfl rfl ?_
          refine r_callV (pc := 118) (l := [aI l2, aI l1]) (av := [aI l1, aI l2]) (a := 49) (t := []) hv 50 rfl rfl rfl rfl (rcv_o (by decide) rfl) trivial (t_X9_wires hS h.1 ?_)
          replace h := h.2
          show v 121 [some (aR 49), some (aI l1), some (aI l2)] [aI (σ1.1 50 (160 + 3 * l1 + l2 : Int32).toNatClampNeg)] σ1
          exact r_ireturn (pc := 121) hv 51 rfl rfl h
        · replace h := h.2 c
          refine ⟨fun c => ?_, fun c => ?_⟩
          · replace h := h.1 c
            show v 115 [some (aR 49), some (aI l1), some (aI l2)] [] σ1
            refine r_aload_n (pc := 115) hv 47 rfl rfl ?_
            refine r_iload_n (pc := 116) hv 48 rfl rfl ?_
            refine r_iload_n (pc := 117) hv 49 rfl rfl ?_
            refine r_callV (pc := 118) (l := [aI l2, aI l1]) (av := [aI l1, aI l2]) (a := 49) (t := []) hv 50 rfl rfl rfl rfl (rcv_o (by decide) rfl) trivial (t_X9_wires hS h.1 ?_)
            replace h := h.2
            show v 121 [some (aR 49), some (aI l1), some (aI l2)] [aI (σ1.1 50 (160 + 3 * l1 + l2 : Int32).toNatClampNeg)] σ1
            exact r_ireturn (pc := 121) hv 51 rfl rfl h
          · replace h := h.2 c
            refine ⟨fun c => ?_, fun c => ?_⟩
            · replace h := h.1 c
              show v 81 [some (aR 49), some (aI l1), some (aI l2)] [] σ1
              refine r_aload_n (pc := 81) hv 28 rfl rfl ?_
              refine r_iload_n (pc := 82) hv 29 rfl rfl ?_
              refine r_callV (pc := 83) (l := [aI l1]) (av := [aI l1]) (a := 49) (t := []) hv 30 rfl rfl rfl rfl (rcv_o (by decide) rfl) trivial (hS.1 _ _ _ _ _ (fun r σ2 h => ?_) h)
              obtain ⟨x3, rfl, h⟩ := h
              show v 86 [some (aR 49), some (aI l1), some (aI l2)] [aI x3] σ2
              refine r_ldc (pc := 86) hv 31 rfl rfl ?_
              refine r_icmp_ne (pc := 88) hv 32 rfl (fun c => ?_) (fun c => ?_)
              · replace h := h.1 c
                refine r_aload_n (pc := 95) hv 35 rfl rfl ?_
                refine r_iload_n (pc := 96) hv 36 rfl rfl ?_
                refine r_callV (pc := 97) (l := [aI l1]) (av := [aI l1]) (a := 49) (t := []) hv 37 rfl rfl rfl rfl (rcv_o (by decide) rfl) trivial (hS.1 _ _ _ _ _ (fun r σ4 h => ?_) h)
                obtain ⟨x5, rfl, h⟩ := h
                show v 100 [some (aR 49), some (aI l1), some (aI l2)] [aI x5] σ4
                exact r_ireturn (pc := 100) hv 38 rfl rfl h
              · replace h := h.2 c
                refine r_iconst (pc := 91) hv 33 rfl  ?_
                refine r_goto (pc := 92) hv 34 rfl  ?_
                exact r_ireturn (pc := 100) hv 38 rfl rfl h
            · replace h := h.2 c
              refine ⟨fun c => ?_, fun c => ?_⟩
              · replace h := h.1 c
                show v 101 [some (aR 49), some (aI l1), some (aI l2)] [] σ1
                refine r_aload_n (pc := 101) hv 39 rfl rfl ?_
                refine r_iload_n (pc := 102) hv 40 rfl rfl ?_
                refine r_callV (pc := 103) (l := [aI l1]) (av := [aI l1]) (a := 49) (t := []) hv 41 rfl rfl rfl rfl (rcv_o (by decide) rfl) trivial (hS.1 _ _ _ _ _ (fun r σ6 h => ?_) h)
                obtain ⟨x7, rfl, h⟩ := h
                show v 106 [some (aR 49), some (aI l1), some (aI l2)] [aI x7] σ6
                refine r_if_eq (pc := 106) hv 42 rfl (fun c => ?_) (fun c => ?_)
                · replace h := h.1 c
                  refine r_iconst (pc := 113) hv 45 rfl  ?_
                  exact r_ireturn (pc := 114) hv 46 rfl rfl h
                · replace h := h.2 c
                  refine r_iconst (pc := 109) hv 43 rfl  ?_
                  refine r_goto (pc := 110) hv 44 rfl  ?_
                  exact r_ireturn (pc := 114) hv 46 rfl rfl h
              · replace h := h.2 c
                show v 115 [some (aR 49), some (aI l1), some (aI l2)] [] σ1
                refine r_aload_n (pc := 115) hv 47 rfl rfl ?_
                refine r_iload_n (pc := 116) hv 48 rfl rfl ?_
                refine r_iload_n (pc := 117) hv 49 rfl rfl ?_
                refine r_callV (pc := 118) (l := [aI l2, aI l1]) (av := [aI l1, aI l2]) (a := 49) (t := []) hv 50 rfl rfl rfl rfl (rcv_o (by decide) rfl) trivial (t_X9_wires hS h.1 ?_)
                replace h := h.2
                show v 121 [some (aR 49), some (aI l1), some (aI l2)] [aI (σ1.1 50 (160 + 3 * l1 + l2 : Int32).toNatClampNeg)] σ1
                exact r_ireturn (pc := 121) hv 51 rfl rfl h
    · replace h := h.2 c
      refine r_iconst (pc := 20) hv 10 rfl  ?_
      exact r_ireturn (pc := 21) hv 11 rfl rfl h
theorem m_X9_wired {S : Sp} (hS : Sys S) {l1 : Int32} {l2 : Int32} {σ : St} {Φ : Rs} (h : ∀ v : Kt, Cl S Φ k_X9_wired v → Wk v → vc_X9_wired_0 S Φ v l1 l2 σ) : S 177 [aR 49, aI l1, aI l2] σ Φ :=
  hS.2 177 M_X9_wired k_X9_wired _ _ _ mkt_X9_wired (Nat.le_of_ble_eq_true rfl) (fun v hv hw => w_X9_wired_0 hS hv hw   l1 l2 σ (h v hv hw))
