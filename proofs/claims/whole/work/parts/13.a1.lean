def vc_X1_firstLoad_0 (S : Sp) (Φ : Rs) (v : Kt) (l0 : Int32) (l1 : Int32) (σ : St) : Prop := ((l0 : Int32) = 0 → (Φ [aI l1] σ)) ∧ (¬ ((l0 : Int32) = 0) → (((l0 : Int32) = 1 → (Φ [aI ((l1 / 2) + 1)] σ)) ∧ (¬ ((l0 : Int32) = 1) → (((l0 : Int32) = 2 → (Φ [aI ((l1 + 1) / 2)] σ)) ∧ (¬ ((l0 : Int32) = 2) → (((l0 : Int32) = 3 → (Φ [aI (((l1 + 1) / 2) * 2)] σ)) ∧ (¬ ((l0 : Int32) = 3) → (((l0 : Int32) = 4 → (((9 : Int32) ≤ ((l1 / 2) + 1) → (Φ [aI 9] σ)) ∧ (¬ ((9 : Int32) ≤ ((l1 / 2) + 1)) → (Φ [aI ((l1 / 2) + 1)] σ)))) ∧ (¬ ((l0 : Int32) = 4) → (Φ [aI 0] σ))))))))))
theorem w_X1_firstLoad_0 {S : Sp} (hS : Sys S) {Φ : Rs} {v : Kt} (hv : Cl S Φ k_X1_firstLoad v) (hw : Wk v) (l0 : Int32) (l1 : Int32) (σ : St) (h : vc_X1_firstLoad_0 S Φ v l0 l1 σ) : v 0 [some (aI l0), some (aI l1)] [] σ := by
  unfold vc_X1_firstLoad_0 at h
  refine r_iload_n (pc := 0) hv 0 rfl rfl ?_
  refine r_tab (pc := 1) hv 1 rfl ?_
  refine ⟨fun c => ?_, fun c => ?_⟩
  · replace h := h.1 c
    show v 36 [some (aI l0), some (aI l1)] [] σ
    refine r_iload_n (pc := 36) hv 2 rfl rfl ?_
    exact r_ireturn (pc := 37) hv 3 rfl rfl h
  · replace h := h.2 c
    refine ⟨fun c => ?_, fun c => ?_⟩
    · replace h := h.1 c
      show v 38 [some (aI l0), some (aI l1)] [] σ
      refine r_iload_n (pc := 38) hv 4 rfl rfl ?_
      refine r_iconst (pc := 39) hv 5 rfl  ?_
      refine r_idiv (pc := 40) hv 6 rfl (by decide) ?_
      refine r_iconst (pc := 41) hv 7 rfl  ?_
      refine r_iadd (pc := 42) hv 8 rfl  ?_
      exact r_ireturn (pc := 43) hv 9 rfl rfl h
    · replace h := h.2 c
      refine ⟨fun c => ?_, fun c => ?_⟩
      · replace h := h.1 c
        show v 44 [some (aI l0), some (aI l1)] [] σ
        refine r_iload_n (pc := 44) hv 10 rfl rfl ?_
        refine r_iconst (pc := 45) hv 11 rfl  ?_
        refine r_iadd (pc := 46) hv 12 rfl  ?_
        refine r_iconst (pc := 47) hv 13 rfl  ?_
        refine r_idiv (pc := 48) hv 14 rfl (by decide) ?_
        exact r_ireturn (pc := 49) hv 15 rfl rfl h
      · replace h := h.2 c
        refine ⟨fun c => ?_, fun c => ?_⟩
        · replace h := h.1 c
          show v 50 [some (aI l0), some (aI l1)] [] σ
          refine r_iload_n (pc := 50) hv 16 rfl rfl ?_
          refine r_iconst (pc := 51) hv 17 rfl  ?_
          refine r_iadd (pc := 52) hv 18 rfl  ?_
          refine r_iconst (pc := 53) hv 19 rfl  ?_
          refine r_idiv (pc := 54) hv 20 rfl (by decide) ?_
          refine r_iconst (pc := 55) hv 21 rfl  ?_
          refine r_imul (pc := 56) hv 22 rfl  ?_
          exact r_ireturn (pc := 57) hv 23 rfl rfl h
        · replace h := h.2 c
          refine ⟨fun c => ?_, fun c => ?_⟩
          · replace h := h.1 c
            show v 58 [some (aI l0), some (aI l1)] [] σ
            refine r_iload_n (pc := 58) hv 24 rfl rfl ?_
            refine r_iconst (pc := 59) hv 25 rfl  ?_
            refine r_idiv (pc := 60) hv 26 rfl (by decide) ?_
            refine r_iconst (pc := 61) hv 27 rfl  ?_
            refine r_iadd (pc := 62) hv 28 rfl  ?_
            refine r_bipush (pc := 63) hv 29 rfl  ?_
            refine r_icmp_ge (pc := 65) hv 30 rfl (fun c => ?_) (fun c => ?_)
            · replace h := h.1 c
              refine r_bipush (pc := 76) hv 37 rfl  ?_
              exact r_ireturn (pc := 78) hv 38 rfl rfl h
            · replace h := h.2 c
              refine r_iload_n (pc := 68) hv 31 rfl rfl ?_
              refine r_iconst (pc := 69) hv 32 rfl  ?_
              refine r_idiv (pc := 70) hv 33 rfl (by decide) ?_
              refine r_iconst (pc := 71) hv 34 rfl  ?_
              refine r_iadd (pc := 72) hv 35 rfl  ?_
              refine r_goto (pc := 73) hv 36 rfl  ?_
              exact r_ireturn (pc := 78) hv 38 rfl rfl h
          · replace h := h.2 c
            show v 79 [some (aI l0), some (aI l1)] [] σ
            refine r_iconst (pc := 79) hv 39 rfl  ?_
            exact r_ireturn (pc := 80) hv 40 rfl rfl h
theorem m_X1_firstLoad {S : Sp} (hS : Sys S) {l0 : Int32} {l1 : Int32} {σ : St} {Φ : Rs} (h : ∀ v : Kt, Cl S Φ k_X1_firstLoad v → Wk v → vc_X1_firstLoad_0 S Φ v l0 l1 σ) : S 17 [aI l0, aI l1] σ Φ :=
  hS.2 17 M_X1_firstLoad k_X1_firstLoad _ _ _ mkt_X1_firstLoad (Nat.le_of_ble_eq_true rfl) (fun v hv hw => w_X1_firstLoad_0 hS hv hw   l0 l1 σ (h v hv hw))
def vc_X1_secondLoad_0 (S : Sp) (Φ : Rs) (v : Kt) (l0 : Int32) (l1 : Int32) (σ : St) : Prop := ((l0 : Int32) = 2 → (Φ [aI (l1 / 2)] σ)) ∧ (¬ ((l0 : Int32) = 2) → (((l0 : Int32) = 3 → (Φ [aI ((l1 / 2) * 2)] σ)) ∧ (¬ ((l0 : Int32) = 3) → (Φ [aI 0] σ))))
theorem w_X1_secondLoad_0 {S : Sp} (hS : Sys S) {Φ : Rs} {v : Kt} (hv : Cl S Φ k_X1_secondLoad v) (hw : Wk v) (l0 : Int32) (l1 : Int32) (σ : St) (h : vc_X1_secondLoad_0 S Φ v l0 l1 σ) : v 0 [some (aI l0), some (aI l1)] [] σ := by
  unfold vc_X1_secondLoad_0 at h
  refine r_iload_n (pc := 0) hv 0 rfl rfl ?_
  refine r_look (pc := 1) hv 1 rfl ?_
  refine ⟨fun c => ?_, fun c => ?_⟩
  · replace h := h.1 c
    show v 28 [some (aI l0), some (aI l1)] [] σ
    refine r_iload_n (pc := 28) hv 2 rfl rfl ?_
    refine r_iconst (pc := 29) hv 3 rfl  ?_
    refine r_idiv (pc := 30) hv 4 rfl (by decide) ?_
    exact r_ireturn (pc := 31) hv 5 rfl rfl h
  · replace h := h.2 c
    refine ⟨fun c => ?_, fun c => ?_⟩
    · replace h := h.1 c
      show v 32 [some (aI l0), some (aI l1)] [] σ
      refine r_iload_n (pc := 32) hv 6 rfl rfl ?_
      refine r_iconst (pc := 33) hv 7 rfl  ?_
      refine r_idiv (pc := 34) hv 8 rfl (by decide) ?_
      refine r_iconst (pc := 35) hv 9 rfl  ?_
      refine r_imul (pc := 36) hv 10 rfl  ?_
      exact r_ireturn (pc := 37) hv 11 rfl rfl h
    · replace h := h.2 c
      show v 38 [some (aI l0), some (aI l1)] [] σ
      refine r_iconst (pc := 38) hv 12 rfl  ?_
      exact r_ireturn (pc := 39) hv 13 rfl rfl h
theorem m_X1_secondLoad {S : Sp} (hS : Sys S) {l0 : Int32} {l1 : Int32} {σ : St} {Φ : Rs} (h : ∀ v : Kt, Cl S Φ k_X1_secondLoad v → Wk v → vc_X1_secondLoad_0 S Φ v l0 l1 σ) : S 18 [aI l0, aI l1] σ Φ :=
  hS.2 18 M_X1_secondLoad k_X1_secondLoad _ _ _ mkt_X1_secondLoad (Nat.le_of_ble_eq_true rfl) (fun v hv hw => w_X1_secondLoad_0 hS hv hw   l0 l1 σ (h v hv hw))
def vc_X1_needs_0 (S : Sp) (Φ : Rs) (v : Kt) (l0 : Int32) (l1 : Int32) (σ : St) : Prop := ((l0 : Int32) = 0 → (Φ [aI (2 * l1)] σ)) ∧ (¬ ((l0 : Int32) = 0) → (((l0 : Int32) = 1 → (Φ [aI ((2 * l1) - 1)] σ)) ∧ (¬ ((l0 : Int32) = 1) → (((l0 : Int32) = 2 → (Φ [aI (2 * l1)] σ)) ∧ (¬ ((l0 : Int32) = 2) → (((l0 : Int32) = 3 → (Φ [aI (3 * l1)] σ)) ∧ (¬ ((l0 : Int32) = 3) → (((l0 : Int32) = 4 → (Φ [aI (3 * l1)] σ)) ∧ (¬ ((l0 : Int32) = 4) → (Φ [aI 0] σ))))))))))
theorem w_X1_needs_0 {S : Sp} (hS : Sys S) {Φ : Rs} {v : Kt} (hv : Cl S Φ k_X1_needs v) (hw : Wk v) (l0 : Int32) (l1 : Int32) (σ : St) (h : vc_X1_needs_0 S Φ v l0 l1 σ) : v 0 [some (aI l0), some (aI l1)] [] σ := by
  unfold vc_X1_needs_0 at h
  refine r_iload_n (pc := 0) hv 0 rfl rfl ?_
  refine r_tab (pc := 1) hv 1 rfl ?_
  refine ⟨fun c => ?_, fun c => ?_⟩
  · replace h := h.1 c
    show v 36 [some (aI l0), some (aI l1)] [] σ
    refine r_iconst (pc := 36) hv 2 rfl  ?_
    refine r_iload_n (pc := 37) hv 3 rfl rfl ?_
    refine r_imul (pc := 38) hv 4 rfl  ?_
    exact r_ireturn (pc := 39) hv 5 rfl rfl h
  · replace h := h.2 c
    refine ⟨fun c => ?_, fun c => ?_⟩
    · replace h := h.1 c
      show v 40 [some (aI l0), some (aI l1)] [] σ
      refine r_iconst (pc := 40) hv 6 rfl  ?_
      refine r_iload_n (pc := 41) hv 7 rfl rfl ?_
      refine r_imul (pc := 42) hv 8 rfl  ?_
      refine r_iconst (pc := 43) hv 9 rfl  ?_
      refine r_isub (pc := 44) hv 10 rfl  ?_
      exact r_ireturn (pc := 45) hv 11 rfl rfl h
    · replace h := h.2 c
      refine ⟨fun c => ?_, fun c => ?_⟩
      · replace h := h.1 c
        show v 36 [some (aI l0), some (aI l1)] [] σ
        refine r_iconst (pc := 36) hv 2 rfl  ?_
        refine r_iload_n (pc := 37) hv 3 rfl rfl ?_
        refine r_imul (pc := 38) hv 4 rfl  ?_
        exact r_ireturn (pc := 39) hv 5 rfl rfl h
      · replace h := h.2 c
        refine ⟨fun c => ?_, fun c => ?_⟩
        · replace h := h.1 c
          show v 46 [some (aI l0), some (aI l1)] [] σ
          refine r_iconst (pc := 46) hv 12 rfl  ?_
          refine r_iload_n (pc := 47) hv 13 rfl rfl ?_
          refine r_imul (pc := 48) hv 14 rfl  ?_
          exact r_ireturn (pc := 49) hv 15 rfl rfl h
        · replace h := h.2 c
          refine ⟨fun c => ?_, fun c => ?_⟩
          · replace h := h.1 c
            show v 46 [some (aI l0), some (aI l1)] [] σ
            refine r_iconst (pc := 46) hv 12 rfl  ?_
            refine r_iload_n (pc := 47) hv 13 rfl rfl ?_
            refine r_imul (pc := 48) hv 14 rfl  ?_
            exact r_ireturn (pc := 49) hv 15 rfl rfl h
          · replace h := h.2 c
            show v 50 [some (aI l0), some (aI l1)] [] σ
            refine r_iconst (pc := 50) hv 16 rfl  ?_
            exact r_ireturn (pc := 51) hv 17 rfl rfl h
theorem m_X1_needs {S : Sp} (hS : Sys S) {l0 : Int32} {l1 : Int32} {σ : St} {Φ : Rs} (h : ∀ v : Kt, Cl S Φ k_X1_needs v → Wk v → vc_X1_needs_0 S Φ v l0 l1 σ) : S 20 [aI l0, aI l1] σ Φ :=
  hS.2 20 M_X1_needs k_X1_needs _ _ _ mkt_X1_needs (Nat.le_of_ble_eq_true rfl) (fun v hv hw => w_X1_needs_0 hS hv hw   l0 l1 σ (h v hv hw))
def vc_X1_isUnder_4 (S : Sp) (Φ : Rs) (v : Kt) (l0 : Int32) (l1 : Int32) (l2 : Int32) (l3 : Int32) (σ : St) : Prop := ((6 : Int32) ≤ l3 → (Φ [aI 0] σ)) ∧ (¬ ((6 : Int32) ≤ l3) → (((l2 : Int32) < 0 → (Φ [aI 0] σ)) ∧ (¬ ((l2 : Int32) < 0) → (((6 : Int32) ≤ l2 → (Φ [aI 0] σ)) ∧ (¬ ((6 : Int32) ≤ l2) → ((¬ (l2 : Int32) = l1 → (vp_in l2 6 ∧ (v 4 [some (aI l0), some (aI l1), some (aI (sv 103 (l2 : Int32).toNatClampNeg)), some (aI (l3 + 1))] [] σ))) ∧ ((l2 : Int32) = l1 → (Φ [aI 1] σ))))))))
theorem w_X1_isUnder_4 {S : Sp} (hS : Sys S) {Φ : Rs} {v : Kt} (hv : Cl S Φ k_X1_isUnder v) (hw : Wk v) (l0 : Int32) (l1 : Int32) (l2 : Int32) (l3 : Int32) (σ : St) (h : vc_X1_isUnder_4 S Φ v l0 l1 l2 l3 σ) : v 4 [some (aI l0), some (aI l1), some (aI l2), some (aI l3)] [] σ := by
  unfold vc_X1_isUnder_4 at h
  refine r_iload_n (pc := 4) hv 4 rfl rfl ?_
  refine r_bipush (pc := 5) hv 5 rfl  ?_
  refine r_icmp_ge (pc := 7) hv 6 rfl (fun c => ?_) (fun c => ?_)
  · replace h := h.1 c
    refine r_iconst (pc := 39) hv 23 rfl  ?_
    exact r_zreturn (pc := 40) hv 24 rfl rfl (Or.inl rfl) h
  · replace h := h.2 c
    refine r_iload_n (pc := 10) hv 7 rfl rfl ?_
    refine r_if_lt (pc := 11) hv 8 rfl (fun c => ?_) (fun c => ?_)
    · replace h := h.1 c
      refine r_iconst (pc := 39) hv 23 rfl  ?_
      exact r_zreturn (pc := 40) hv 24 rfl rfl (Or.inl rfl) h
    · replace h := h.2 c
      refine r_iload_n (pc := 14) hv 9 rfl rfl ?_
      refine r_bipush (pc := 15) hv 10 rfl  ?_
      refine r_icmp_ge (pc := 17) hv 11 rfl (fun c => ?_) (fun c => ?_)
      · replace h := h.1 c
        refine r_iconst (pc := 39) hv 23 rfl  ?_
        exact r_zreturn (pc := 40) hv 24 rfl rfl (Or.inl rfl) h
      · replace h := h.2 c
        refine r_iload_n (pc := 20) hv 12 rfl rfl ?_
        refine r_iload_n (pc := 21) hv 13 rfl rfl ?_
        refine r_icmp_ne (pc := 22) hv 14 rfl (fun c => ?_) (fun c => ?_)
        · replace h := h.1 c
          refine r_gets (pc := 27) hv 17 rfl  ?_
          refine r_iload_n (pc := 30) hv 18 rfl rfl ?_
          refine r_ialoadS (pc := 31) (N := 6) hv 19 rfl rfl rfl (by decide) h.1 ?_
          replace h := h.2
          refine r_istore_n (pc := 32) (lo' := [some (aI l0), some (aI l1), some (aI (sv 103 (l2 : Int32).toNatClampNeg)), some (aI l3)]) hv 20 rfl rfl ?_
          refine r_iinc (pc := 33) (lo' := [some (aI l0), some (aI l1), some (aI (sv 103 (l2 : Int32).toNatClampNeg)), some (aI (l3 + 1))]) hv 21 rfl rfl rfl ?_
          refine r_goto (pc := 36) hv 22 rfl  ?_
          exact h
        · replace h := h.2 c
          refine r_iconst (pc := 25) hv 15 rfl  ?_
          exact r_zreturn (pc := 26) hv 16 rfl rfl (Or.inr rfl) h
def vc_X1_isUnder_0 (S : Sp) (Φ : Rs) (v : Kt) (l0 : Int32) (l1 : Int32) (σ : St) : Prop := v 4 [some (aI l0), some (aI l1), some (aI l0), some (aI 0)] [] σ
theorem w_X1_isUnder_0 {S : Sp} (hS : Sys S) {Φ : Rs} {v : Kt} (hv : Cl S Φ k_X1_isUnder v) (hw : Wk v) (l0 : Int32) (l1 : Int32) (σ : St) (h : vc_X1_isUnder_0 S Φ v l0 l1 σ) : v 0 [some (aI l0), some (aI l1), none, none] [] σ := by
  unfold vc_X1_isUnder_0 at h
  refine r_iload_n (pc := 0) hv 0 rfl rfl ?_
  refine r_istore_n (pc := 1) (lo' := [some (aI l0), some (aI l1), some (aI l0), none]) hv 1 rfl rfl ?_
  refine r_iconst (pc := 2) hv 2 rfl  ?_
  refine r_istore_n (pc := 3) (lo' := [some (aI l0), some (aI l1), some (aI l0), some (aI 0)]) hv 3 rfl rfl ?_
  exact h
theorem m_X1_isUnder {S : Sp} (hS : Sys S) {l0 : Int32} {l1 : Int32} {σ : St} {Φ : Rs} (h : ∀ v : Kt, Cl S Φ k_X1_isUnder v → Wk v → vc_X1_isUnder_0 S Φ v l0 l1 σ) : S 16 [aI l0, aI l1] σ Φ :=
  hS.2 16 M_X1_isUnder k_X1_isUnder _ _ _ mkt_X1_isUnder (Nat.le_of_ble_eq_true rfl) (fun v hv hw => w_X1_isUnder_0 hS hv hw   l0 l1 σ (h v hv hw))
def vc_X8_bitOf_0 (S : Sp) (Φ : Rs) (v : Kt) (l0 : Int32) (σ : St) : Prop := ((l0 : Int32) < 0 → (Φ [aI 0] σ)) ∧ (¬ ((l0 : Int32) < 0) → (((20 : Int32) ≤ l0 → (Φ [aI 0] σ)) ∧ (¬ ((20 : Int32) ≤ l0) → (Φ [aI (1 <<< (l0 &&& 31))] σ))))
theorem w_X8_bitOf_0 {S : Sp} (hS : Sys S) {Φ : Rs} {v : Kt} (hv : Cl S Φ k_X8_bitOf v) (hw : Wk v) (l0 : Int32) (σ : St) (h : vc_X8_bitOf_0 S Φ v l0 σ) : v 0 [some (aI l0)] [] σ := by
  unfold vc_X8_bitOf_0 at h
  refine r_iload_n (pc := 0) hv 0 rfl rfl ?_
  refine r_if_lt (pc := 1) hv 1 rfl (fun c => ?_) (fun c => ?_)
  · replace h := h.1 c
    refine r_iconst (pc := 16) hv 9 rfl  ?_
    exact r_ireturn (pc := 17) hv 10 rfl rfl h
  · replace h := h.2 c
    refine r_iload_n (pc := 4) hv 2 rfl rfl ?_
    refine r_bipush (pc := 5) hv 3 rfl  ?_
    refine r_icmp_ge (pc := 7) hv 4 rfl (fun c => ?_) (fun c => ?_)
    · replace h := h.1 c
      refine r_iconst (pc := 16) hv 9 rfl  ?_
      exact r_ireturn (pc := 17) hv 10 rfl rfl h
    · replace h := h.2 c
      refine r_iconst (pc := 10) hv 5 rfl  ?_
      refine r_iload_n (pc := 11) hv 6 rfl rfl ?_
      refine r_ishl (pc := 12) hv 7 rfl  ?_
      refine r_goto (pc := 13) hv 8 rfl  ?_
      exact r_ireturn (pc := 17) hv 10 rfl rfl h
theorem m_X8_bitOf {S : Sp} (hS : Sys S) {l0 : Int32} {σ : St} {Φ : Rs} (h : ∀ v : Kt, Cl S Φ k_X8_bitOf v → Wk v → vc_X8_bitOf_0 S Φ v l0 σ) : S 140 [aI l0] σ Φ :=
  hS.2 140 M_X8_bitOf k_X8_bitOf _ _ _ mkt_X8_bitOf (Nat.le_of_ble_eq_true rfl) (fun v hv hw => w_X8_bitOf_0 hS hv hw   l0 σ (h v hv hw))
def vc_X8_hasBit_0 (S : Sp) (Φ : Rs) (v : Kt) (l0 : Int32) (l1 : Int32) (σ : St) : Prop := ((l1 : Int32) < 0 → (Φ [aI 0] σ)) ∧ (¬ ((l1 : Int32) < 0) → (((20 : Int32) ≤ l1 → (Φ [aI 0] σ)) ∧ (¬ ((20 : Int32) ≤ l1) → ((((l0 >>> (l1 &&& 31)) &&& 1 : Int32) = 0 → (Φ [aI 0] σ)) ∧ (¬ (((l0 >>> (l1 &&& 31)) &&& 1 : Int32) = 0) → (Φ [aI 1] σ))))))
theorem w_X8_hasBit_0 {S : Sp} (hS : Sys S) {Φ : Rs} {v : Kt} (hv : Cl S Φ k_X8_hasBit v) (hw : Wk v) (l0 : Int32) (l1 : Int32) (σ : St) (h : vc_X8_hasBit_0 S Φ v l0 l1 σ) : v 0 [some (aI l0), some (aI l1)] [] σ := by
  unfold vc_X8_hasBit_0 at h
  refine r_iload_n (pc := 0) hv 0 rfl rfl ?_
  refine r_if_lt (pc := 1) hv 1 rfl (fun c => ?_) (fun c => ?_)
  · replace h := h.1 c
    refine r_iconst (pc := 22) hv 13 rfl  ?_
    exact r_zreturn (pc := 23) hv 14 rfl rfl (Or.inl rfl) h
  · replace h := h.2 c
    refine r_iload_n (pc := 4) hv 2 rfl rfl ?_
    refine r_bipush (pc := 5) hv 3 rfl  ?_
    refine r_icmp_ge (pc := 7) hv 4 rfl (fun c => ?_) (fun c => ?_)
    · replace h := h.1 c
      refine r_iconst (pc := 22) hv 13 rfl  ?_
      exact r_zreturn (pc := 23) hv 14 rfl rfl (Or.inl rfl) h
    · replace h := h.2 c
      refine r_iload_n (pc := 10) hv 5 rfl rfl ?_
      refine r_iload_n (pc := 11) hv 6 rfl rfl ?_
      refine r_ishr (pc := 12) hv 7 rfl  ?_
      refine r_iconst (pc := 13) hv 8 rfl  ?_
      refine r_iand (pc := 14) hv 9 rfl  ?_
      refine r_if_eq (pc := 15) hv 10 rfl (fun c => ?_) (fun c => ?_)
      · replace h := h.1 c
        refine r_iconst (pc := 22) hv 13 rfl  ?_
        exact r_zreturn (pc := 23) hv 14 rfl rfl (Or.inl rfl) h
      · replace h := h.2 c
        refine r_iconst (pc := 18) hv 11 rfl  ?_
        refine r_goto (pc := 19) hv 12 rfl  ?_
        exact r_zreturn (pc := 23) hv 14 rfl rfl (Or.inr rfl) h
theorem m_X8_hasBit {S : Sp} (hS : Sys S) {l0 : Int32} {l1 : Int32} {σ : St} {Φ : Rs} (h : ∀ v : Kt, Cl S Φ k_X8_hasBit v → Wk v → vc_X8_hasBit_0 S Φ v l0 l1 σ) : S 141 [aI l0, aI l1] σ Φ :=
  hS.2 141 M_X8_hasBit k_X8_hasBit _ _ _ mkt_X8_hasBit (Nat.le_of_ble_eq_true rfl) (fun v hv hw => w_X8_hasBit_0 hS hv hw   l0 l1 σ (h v hv hw))
def vc_X8_isHarm_0 (S : Sp) (Φ : Rs) (v : Kt) (l0 : Int32) (σ : St) : Prop := ((l0 : Int32) < 0 → (Φ [aI 0] σ)) ∧ (¬ ((l0 : Int32) < 0) → (((3 : Int32) < l0 → (Φ [aI 0] σ)) ∧ (¬ ((3 : Int32) < l0) → (Φ [aI 1] σ))))
theorem w_X8_isHarm_0 {S : Sp} (hS : Sys S) {Φ : Rs} {v : Kt} (hv : Cl S Φ k_X8_isHarm v) (hw : Wk v) (l0 : Int32) (σ : St) (h : vc_X8_isHarm_0 S Φ v l0 σ) : v 0 [some (aI l0)] [] σ := by
  unfold vc_X8_isHarm_0 at h
  refine r_iload_n (pc := 0) hv 0 rfl rfl ?_
  refine r_if_lt (pc := 1) hv 1 rfl (fun c => ?_) (fun c => ?_)
  · replace h := h.1 c
    refine r_iconst (pc := 13) hv 7 rfl  ?_
    exact r_zreturn (pc := 14) hv 8 rfl rfl (Or.inl rfl) h
  · replace h := h.2 c
    refine r_iload_n (pc := 4) hv 2 rfl rfl ?_
    refine r_iconst (pc := 5) hv 3 rfl  ?_
    refine r_icmp_gt (pc := 6) hv 4 rfl (fun c => ?_) (fun c => ?_)
    · replace h := h.1 c
      refine r_iconst (pc := 13) hv 7 rfl  ?_
      exact r_zreturn (pc := 14) hv 8 rfl rfl (Or.inl rfl) h
    · replace h := h.2 c
      refine r_iconst (pc := 9) hv 5 rfl  ?_
      refine r_goto (pc := 10) hv 6 rfl  ?_
      exact r_zreturn (pc := 14) hv 8 rfl rfl (Or.inr rfl) h
theorem m_X8_isHarm {S : Sp} (hS : Sys S) {l0 : Int32} {σ : St} {Φ : Rs} (h : ∀ v : Kt, Cl S Φ k_X8_isHarm v → Wk v → vc_X8_isHarm_0 S Φ v l0 σ) : S 137 [aI l0] σ Φ :=
  hS.2 137 M_X8_isHarm k_X8_isHarm _ _ _ mkt_X8_isHarm (Nat.le_of_ble_eq_true rfl) (fun v hv hw => w_X8_isHarm_0 hS hv hw   l0 σ (h v hv hw))
def vc_X2_isHole_0 (S : Sp) (Φ : Rs) (v : Kt) (p : Nat) (l1 : Int32) (σ : St) : Prop := ((l1 : Int32) < 0 → (Φ [aI 0] σ)) ∧ (¬ ((l1 : Int32) < 0) → (((σ.1 p 3 : Int32) ≤ l1 → (Φ [aI 0] σ)) ∧ (¬ ((σ.1 p 3 : Int32) ≤ l1) → (Φ [aI 1] σ))))
theorem w_X2_isHole_0 {S : Sp} (hS : Sys S) {Φ : Rs} {v : Kt} (hv : Cl S Φ k_X2_isHole v) (hw : Wk v) (p : Nat) (h_p : isPat p) (l1 : Int32) (σ : St) (h : vc_X2_isHole_0 S Φ v p l1 σ) : v 0 [some (aR p), some (aI l1)] [] σ := by
  unfold vc_X2_isHole_0 at h
  refine r_iload_n (pc := 0) hv 0 rfl rfl ?_
  refine r_if_lt (pc := 1) hv 1 rfl (fun c => ?_) (fun c => ?_)
  · replace h := h.1 c
    refine r_iconst (pc := 16) hv 8 rfl  ?_
    exact r_zreturn (pc := 17) hv 9 rfl rfl (Or.inl rfl) h
  · replace h := h.2 c
    refine r_iload_n (pc := 4) hv 2 rfl rfl ?_
    refine r_aload_n (pc := 5) hv 3 rfl rfl ?_
    refine r_getI (pc := 6) hv 4 rfl rfl (isPat_oc h_p) ?_
    refine r_icmp_ge (pc := 9) hv 5 rfl (fun c => ?_) (fun c => ?_)
    · replace h := h.1 c
      refine r_iconst (pc := 16) hv 8 rfl  ?_
      exact r_zreturn (pc := 17) hv 9 rfl rfl (Or.inl rfl) h
    · replace h := h.2 c
      refine r_iconst (pc := 12) hv 6 rfl  ?_
      refine r_goto (pc := 13) hv 7 rfl  ?_
      exact r_zreturn (pc := 17) hv 9 rfl rfl (Or.inr rfl) h
theorem m_X2_isHole {S : Sp} (hS : Sys S) {p : Nat} (h_p : isPat p) {l1 : Int32} {σ : St} {Φ : Rs} (h : ∀ v : Kt, Cl S Φ k_X2_isHole v → Wk v → vc_X2_isHole_0 S Φ v p l1 σ) : S 25 [aR p, aI l1] σ Φ :=
  hS.2 25 M_X2_isHole k_X2_isHole _ _ _ mkt_X2_isHole (Nat.le_of_ble_eq_true rfl) (fun v hv hw => w_X2_isHole_0 hS hv hw p h_p l1 σ (h v hv hw))
def vc_X2_isWire_0 (S : Sp) (Φ : Rs) (v : Kt) (p : Nat) (l1 : Int32) (σ : St) : Prop := ((l1 : Int32) < 0 → (Φ [aI 0] σ)) ∧ (¬ ((l1 : Int32) < 0) → (((σ.1 p 4 : Int32) ≤ l1 → (Φ [aI 0] σ)) ∧ (¬ ((σ.1 p 4 : Int32) ≤ l1) → (Φ [aI 1] σ))))
theorem w_X2_isWire_0 {S : Sp} (hS : Sys S) {Φ : Rs} {v : Kt} (hv : Cl S Φ k_X2_isWire v) (hw : Wk v) (p : Nat) (h_p : isPat p) (l1 : Int32) (σ : St) (h : vc_X2_isWire_0 S Φ v p l1 σ) : v 0 [some (aR p), some (aI l1)] [] σ := by
  unfold vc_X2_isWire_0 at h
  refine r_iload_n (pc := 0) hv 0 rfl rfl ?_
  refine r_if_lt (pc := 1) hv 1 rfl (fun c => ?_) (fun c => ?_)
  · replace h := h.1 c
    refine r_iconst (pc := 16) hv 8 rfl  ?_
    exact r_zreturn (pc := 17) hv 9 rfl rfl (Or.inl rfl) h
  · replace h := h.2 c
    refine r_iload_n (pc := 4) hv 2 rfl rfl ?_
    refine r_aload_n (pc := 5) hv 3 rfl rfl ?_
    refine r_getI (pc := 6) hv 4 rfl rfl (isPat_oc h_p) ?_
    refine r_icmp_ge (pc := 9) hv 5 rfl (fun c => ?_) (fun c => ?_)
    · replace h := h.1 c
      refine r_iconst (pc := 16) hv 8 rfl  ?_
      exact r_zreturn (pc := 17) hv 9 rfl rfl (Or.inl rfl) h
    · replace h := h.2 c
      refine r_iconst (pc := 12) hv 6 rfl  ?_
      refine r_goto (pc := 13) hv 7 rfl  ?_
      exact r_zreturn (pc := 17) hv 9 rfl rfl (Or.inr rfl) h
theorem m_X2_isWire {S : Sp} (hS : Sys S) {p : Nat} (h_p : isPat p) {l1 : Int32} {σ : St} {Φ : Rs} (h : ∀ v : Kt, Cl S Φ k_X2_isWire v → Wk v → vc_X2_isWire_0 S Φ v p l1 σ) : S 26 [aR p, aI l1] σ Φ :=
  hS.2 26 M_X2_isWire k_X2_isWire _ _ _ mkt_X2_isWire (Nat.le_of_ble_eq_true rfl) (fun v hv hw => w_X2_isWire_0 hS hv hw p h_p l1 σ (h v hv hw))
def vc_X2_mark_0 (S : Sp) (Φ : Rs) (v : Kt) (p : Nat) (l1 : Int32) (l2 : Int32) (σ : St) : Prop := vp_in ((l1 * 9) + l2) 180 ∧ (Φ [aI (σ.1 (p + 1) ((l1 * 9) + l2 : Int32).toNatClampNeg)] σ)
theorem w_X2_mark_0 {S : Sp} (hS : Sys S) {Φ : Rs} {v : Kt} (hv : Cl S Φ k_X2_mark v) (hw : Wk v) (p : Nat) (h_p : isPat p) (l1 : Int32) (l2 : Int32) (σ : St) (h : vc_X2_mark_0 S Φ v p l1 l2 σ) : v 0 [some (aR p), some (aI l1), some (aI l2)] [] σ := by
  unfold vc_X2_mark_0 at h
  refine r_aload_n (pc := 0) hv 0 rfl rfl ?_
  refine r_getR (pc := 1) (b := p + 1) hv 1 rfl rfl (isPat_oc h_p) (isPat_c0 h_p) ?_
  refine r_iload_n (pc := 4) hv 2 rfl rfl ?_
  refine r_bipush (pc := 5) hv 3 rfl  ?_
  refine r_imul (pc := 7) hv 4 rfl  ?_
  refine r_iload_n (pc := 8) hv 5 rfl rfl ?_
  refine r_iadd (pc := 9) hv 6 rfl  ?_
  refine r_iaload (pc := 10) (N := 180) hv 7 rfl (isPat_t1 h_p) (isPat_l1 h_p) (isPat_lt1 h_p) h.1 ?_
  replace h := h.2
  exact r_ireturn (pc := 11) hv 8 rfl rfl h
theorem m_X2_mark {S : Sp} (hS : Sys S) {p : Nat} (h_p : isPat p) {l1 : Int32} {l2 : Int32} {σ : St} {Φ : Rs} (h : ∀ v : Kt, Cl S Φ k_X2_mark v → Wk v → vc_X2_mark_0 S Φ v p l1 l2 σ) : S 27 [aR p, aI l1, aI l2] σ Φ :=
  hS.2 27 M_X2_mark k_X2_mark _ _ _ mkt_X2_mark (Nat.le_of_ble_eq_true rfl) (fun v hv hw => w_X2_mark_0 hS hv hw p h_p l1 l2 σ (h v hv hw))
def vc_X2_cord_0 (S : Sp) (Φ : Rs) (v : Kt) (p : Nat) (l1 : Int32) (l2 : Int32) (σ : St) : Prop := vp_in ((l1 * 3) + l2) 120 ∧ (Φ [aI (σ.1 (p + 2) ((l1 * 3) + l2 : Int32).toNatClampNeg)] σ)
theorem w_X2_cord_0 {S : Sp} (hS : Sys S) {Φ : Rs} {v : Kt} (hv : Cl S Φ k_X2_cord v) (hw : Wk v) (p : Nat) (h_p : isPat p) (l1 : Int32) (l2 : Int32) (σ : St) (h : vc_X2_cord_0 S Φ v p l1 l2 σ) : v 0 [some (aR p), some (aI l1), some (aI l2)] [] σ := by
  unfold vc_X2_cord_0 at h
  refine r_aload_n (pc := 0) hv 0 rfl rfl ?_
  refine r_getR (pc := 1) (b := p + 2) hv 1 rfl rfl (isPat_oc h_p) (isPat_c1 h_p) ?_
  refine r_iload_n (pc := 4) hv 2 rfl rfl ?_
  refine r_iconst (pc := 5) hv 3 rfl  ?_
  refine r_imul (pc := 6) hv 4 rfl  ?_
  refine r_iload_n (pc := 7) hv 5 rfl rfl ?_
  refine r_iadd (pc := 8) hv 6 rfl  ?_
  refine r_iaload (pc := 9) (N := 120) hv 7 rfl (isPat_t2 h_p) (isPat_l2 h_p) (isPat_lt2 h_p) h.1 ?_
  replace h := h.2
  exact r_ireturn (pc := 10) hv 8 rfl rfl h
theorem m_X2_cord {S : Sp} (hS : Sys S) {p : Nat} (h_p : isPat p) {l1 : Int32} {l2 : Int32} {σ : St} {Φ : Rs} (h : ∀ v : Kt, Cl S Φ k_X2_cord v → Wk v → vc_X2_cord_0 S Φ v p l1 l2 σ) : S 28 [aR p, aI l1, aI l2] σ Φ :=
  hS.2 28 M_X2_cord k_X2_cord _ _ _ mkt_X2_cord (Nat.le_of_ble_eq_true rfl) (fun v hv hw => w_X2_cord_0 hS hv hw p h_p l1 l2 σ (h v hv hw))
def vc_X2_fits_0 (S : Sp) (Φ : Rs) (v : Kt) (l0 : Int32) (l1 : Int32) (σ : St) : Prop := ((l0 : Int32) < 0 → (Φ [aI 0] σ)) ∧ (¬ ((l0 : Int32) < 0) → (((6 : Int32) < l0 → (Φ [aI 0] σ)) ∧ (¬ ((6 : Int32) < l0) → (vp_in l0 7 ∧ (((l1 : Int32) < (sv 101 (l0 : Int32).toNatClampNeg) → (Φ [aI 0] σ)) ∧ (¬ ((l1 : Int32) < (sv 101 (l0 : Int32).toNatClampNeg)) → (vp_in l0 7 ∧ (((sv 102 (l0 : Int32).toNatClampNeg : Int32) < l1 → (Φ [aI 0] σ)) ∧ (¬ ((sv 102 (l0 : Int32).toNatClampNeg : Int32) < l1) → (Φ [aI 1] σ))))))))))
theorem w_X2_fits_0 {S : Sp} (hS : Sys S) {Φ : Rs} {v : Kt} (hv : Cl S Φ k_X2_fits v) (hw : Wk v) (l0 : Int32) (l1 : Int32) (σ : St) (h : vc_X2_fits_0 S Φ v l0 l1 σ) : v 0 [some (aI l0), some (aI l1)] [] σ := by
  unfold vc_X2_fits_0 at h
  refine r_iload_n (pc := 0) hv 0 rfl rfl ?_
  refine r_if_lt (pc := 1) hv 1 rfl (fun c => ?_) (fun c => ?_)
  · replace h := h.1 c
    refine r_iconst (pc := 32) hv 17 rfl  ?_
    exact r_zreturn (pc := 33) hv 18 rfl rfl (Or.inl rfl) h
  · replace h := h.2 c
    refine r_iload_n (pc := 4) hv 2 rfl rfl ?_
    refine r_bipush (pc := 5) hv 3 rfl  ?_
    refine r_icmp_gt (pc := 7) hv 4 rfl (fun c => ?_) (fun c => ?_)
    · replace h := h.1 c
      refine r_iconst (pc := 32) hv 17 rfl  ?_
      exact r_zreturn (pc := 33) hv 18 rfl rfl (Or.inl rfl) h
    · replace h := h.2 c
      refine r_iload_n (pc := 10) hv 5 rfl rfl ?_
      refine r_gets (pc := 11) hv 6 rfl  ?_
      refine r_iload_n (pc := 14) hv 7 rfl rfl ?_
      refine r_ialoadS (pc := 15) (N := 7) hv 8 rfl rfl rfl (by decide) h.1 ?_
      replace h := h.2
      refine r_icmp_lt (pc := 16) hv 9 rfl (fun c => ?_) (fun c => ?_)
      · replace h := h.1 c
        refine r_iconst (pc := 32) hv 17 rfl  ?_
        exact r_zreturn (pc := 33) hv 18 rfl rfl (Or.inl rfl) h
      · replace h := h.2 c
        refine r_iload_n (pc := 19) hv 10 rfl rfl ?_
        refine r_gets (pc := 20) hv 11 rfl  ?_
        refine r_iload_n (pc := 23) hv 12 rfl rfl ?_
        refine r_ialoadS (pc := 24) (N := 7) hv 13 rfl rfl rfl (by decide) h.1 ?_
        replace h := h.2
        refine r_icmp_gt (pc := 25) hv 14 rfl (fun c => ?_) (fun c => ?_)
        · replace h := h.1 c
          refine r_iconst (pc := 32) hv 17 rfl  ?_
          exact r_zreturn (pc := 33) hv 18 rfl rfl (Or.inl rfl) h
        · replace h := h.2 c
          refine r_iconst (pc := 28) hv 15 rfl  ?_
          refine r_goto (pc := 29) hv 16 rfl  ?_
          exact r_zreturn (pc := 33) hv 18 rfl rfl (Or.inr rfl) h
theorem m_X2_fits {S : Sp} (hS : Sys S) {l0 : Int32} {l1 : Int32} {σ : St} {Φ : Rs} (h : ∀ v : Kt, Cl S Φ k_X2_fits v → Wk v → vc_X2_fits_0 S Φ v l0 l1 σ) : S 24 [aI l0, aI l1] σ Φ :=
  hS.2 24 M_X2_fits k_X2_fits _ _ _ mkt_X2_fits (Nat.le_of_ble_eq_true rfl) (fun v hv hw => w_X2_fits_0 hS hv hw   l0 l1 σ (h v hv hw))
def vc_X0_canLayOut_0 (S : Sp) (Φ : Rs) (v : Kt) (l0 : Int32) (σ : St) : Prop := ((l0 : Int32) < 0 → (Φ [aI 0] σ)) ∧ (¬ ((l0 : Int32) < 0) → (((3 : Int32) ≤ l0 → (Φ [aI 0] σ)) ∧ (¬ ((3 : Int32) ≤ l0) → (Φ [aI 1] σ))))
theorem w_X0_canLayOut_0 {S : Sp} (hS : Sys S) {Φ : Rs} {v : Kt} (hv : Cl S Φ k_X0_canLayOut v) (hw : Wk v) (l0 : Int32) (σ : St) (h : vc_X0_canLayOut_0 S Φ v l0 σ) : v 0 [some (aI l0)] [] σ := by
  unfold vc_X0_canLayOut_0 at h
  refine r_iload_n (pc := 0) hv 0 rfl rfl ?_
  refine r_if_lt (pc := 1) hv 1 rfl (fun c => ?_) (fun c => ?_)
  · replace h := h.1 c
    refine r_iconst (pc := 13) hv 7 rfl  ?_
    exact r_zreturn (pc := 14) hv 8 rfl rfl (Or.inl rfl) h
  · replace h := h.2 c
    refine r_iload_n (pc := 4) hv 2 rfl rfl ?_
    refine r_iconst (pc := 5) hv 3 rfl  ?_
    refine r_icmp_ge (pc := 6) hv 4 rfl (fun c => ?_) (fun c => ?_)
    · replace h := h.1 c
      refine r_iconst (pc := 13) hv 7 rfl  ?_
      exact r_zreturn (pc := 14) hv 8 rfl rfl (Or.inl rfl) h
    · replace h := h.2 c
      refine r_iconst (pc := 9) hv 5 rfl  ?_
      refine r_goto (pc := 10) hv 6 rfl  ?_
      exact r_zreturn (pc := 14) hv 8 rfl rfl (Or.inr rfl) h
theorem m_X0_canLayOut {S : Sp} (hS : Sys S) {l0 : Int32} {σ : St} {Φ : Rs} (h : ∀ v : Kt, Cl S Φ k_X0_canLayOut v → Wk v → vc_X0_canLayOut_0 S Φ v l0 σ) : S 14 [aI l0] σ Φ :=
  hS.2 14 M_X0_canLayOut k_X0_canLayOut _ _ _ mkt_X0_canLayOut (Nat.le_of_ble_eq_true rfl) (fun v hv hw => w_X0_canLayOut_0 hS hv hw   l0 σ (h v hv hw))
def vc_X6_isList_0 (S : Sp) (Φ : Rs) (v : Kt) (l0 : Int32) (σ : St) : Prop := ((l0 : Int32) < 0 → (Φ [aI 0] σ)) ∧ (¬ ((l0 : Int32) < 0) → (((4 : Int32) ≤ l0 → (Φ [aI 0] σ)) ∧ (¬ ((4 : Int32) ≤ l0) → (Φ [aI 1] σ))))
theorem w_X6_isList_0 {S : Sp} (hS : Sys S) {Φ : Rs} {v : Kt} (hv : Cl S Φ k_X6_isList v) (hw : Wk v) (l0 : Int32) (σ : St) (h : vc_X6_isList_0 S Φ v l0 σ) : v 0 [some (aI l0)] [] σ := by
  unfold vc_X6_isList_0 at h
  refine r_iload_n (pc := 0) hv 0 rfl rfl ?_
  refine r_if_lt (pc := 1) hv 1 rfl (fun c => ?_) (fun c => ?_)
  · replace h := h.1 c
    refine r_iconst (pc := 13) hv 7 rfl  ?_
    exact r_zreturn (pc := 14) hv 8 rfl rfl (Or.inl rfl) h
  · replace h := h.2 c
    refine r_iload_n (pc := 4) hv 2 rfl rfl ?_
    refine r_iconst (pc := 5) hv 3 rfl  ?_
    refine r_icmp_ge (pc := 6) hv 4 rfl (fun c => ?_) (fun c => ?_)
    · replace h := h.1 c
      refine r_iconst (pc := 13) hv 7 rfl  ?_
      exact r_zreturn (pc := 14) hv 8 rfl rfl (Or.inl rfl) h
    · replace h := h.2 c
      refine r_iconst (pc := 9) hv 5 rfl  ?_
      refine r_goto (pc := 10) hv 6 rfl  ?_
      exact r_zreturn (pc := 14) hv 8 rfl rfl (Or.inr rfl) h
theorem m_X6_isList {S : Sp} (hS : Sys S) {l0 : Int32} {σ : St} {Φ : Rs} (h : ∀ v : Kt, Cl S Φ k_X6_isList v → Wk v → vc_X6_isList_0 S Φ v l0 σ) : S 75 [aI l0] σ Φ :=
  hS.2 75 M_X6_isList k_X6_isList _ _ _ mkt_X6_isList (Nat.le_of_ble_eq_true rfl) (fun v hv hw => w_X6_isList_0 hS hv hw   l0 σ (h v hv hw))
def vc_X6_isMissing_0 (S : Sp) (Φ : Rs) (v : Kt) (l1 : Int32) (σ : St) : Prop := vp_in l1 4 ∧ ((¬ (σ.1 47 (l1 : Int32).toNatClampNeg : Int32) = (-1) → (Φ [aI 0] σ)) ∧ ((σ.1 47 (l1 : Int32).toNatClampNeg : Int32) = (-1) → (Φ [aI 1] σ)))
theorem w_X6_isMissing_0 {S : Sp} (hS : Sys S) {Φ : Rs} {v : Kt} (hv : Cl S Φ k_X6_isMissing v) (hw : Wk v) (l1 : Int32) (σ : St) (h : vc_X6_isMissing_0 S Φ v l1 σ) : v 0 [some (aR 41), some (aI l1)] [] σ := by
  unfold vc_X6_isMissing_0 at h
  refine r_aload_n (pc := 0) hv 0 rfl rfl ?_
  refine r_getR (pc := 1) (b := 47) hv 1 rfl rfl rfl rfl ?_
  refine r_iload_n (pc := 4) hv 2 rfl rfl ?_
  refine r_iaload (pc := 5) (N := 4) hv 3 rfl rfl rfl (by decide) h.1 ?_
  replace h := h.2
  refine r_iconst (pc := 6) hv 4 rfl  ?_
  refine r_icmp_ne (pc := 7) hv 5 rfl (fun c => ?_) (fun c => ?_)
  · replace h := h.1 c
    refine r_iconst (pc := 14) hv 8 rfl  ?_
    exact r_zreturn (pc := 15) hv 9 rfl rfl (Or.inl rfl) h
  · replace h := h.2 c
    refine r_iconst (pc := 10) hv 6 rfl  ?_
    refine r_goto (pc := 11) hv 7 rfl  ?_
    exact r_zreturn (pc := 15) hv 9 rfl rfl (Or.inr rfl) h
theorem m_X6_isMissing {S : Sp} (hS : Sys S) {l1 : Int32} {σ : St} {Φ : Rs} (h : ∀ v : Kt, Cl S Φ k_X6_isMissing v → Wk v → vc_X6_isMissing_0 S Φ v l1 σ) : S 76 [aR 41, aI l1] σ Φ :=
  hS.2 76 M_X6_isMissing k_X6_isMissing _ _ _ mkt_X6_isMissing (Nat.le_of_ble_eq_true rfl) (fun v hv hw => w_X6_isMissing_0 hS hv hw   l1 σ (h v hv hw))
def vc_X6_hasPlace_0 (S : Sp) (Φ : Rs) (v : Kt) (l1 : Int32) (l2 : Int32) (σ : St) : Prop := ((l2 : Int32) < 0 → (Φ [aI 0] σ)) ∧ (¬ ((l2 : Int32) < 0) → (vp_in l1 4 ∧ (((σ.1 47 (l1 : Int32).toNatClampNeg : Int32) ≤ l2 → (Φ [aI 0] σ)) ∧ (¬ ((σ.1 47 (l1 : Int32).toNatClampNeg : Int32) ≤ l2) → (Φ [aI 1] σ)))))
theorem w_X6_hasPlace_0 {S : Sp} (hS : Sys S) {Φ : Rs} {v : Kt} (hv : Cl S Φ k_X6_hasPlace v) (hw : Wk v) (l1 : Int32) (l2 : Int32) (σ : St) (h : vc_X6_hasPlace_0 S Φ v l1 l2 σ) : v 0 [some (aR 41), some (aI l1), some (aI l2)] [] σ := by
  unfold vc_X6_hasPlace_0 at h
  refine r_iload_n (pc := 0) hv 0 rfl rfl ?_
  refine r_if_lt (pc := 1) hv 1 rfl (fun c => ?_) (fun c => ?_)
  · replace h := h.1 c
    refine r_iconst (pc := 18) hv 10 rfl  ?_
    exact r_zreturn (pc := 19) hv 11 rfl rfl (Or.inl rfl) h
  · replace h := h.2 c
    refine r_iload_n (pc := 4) hv 2 rfl rfl ?_
    refine r_aload_n (pc := 5) hv 3 rfl rfl ?_
    refine r_getR (pc := 6) (b := 47) hv 4 rfl rfl rfl rfl ?_
    refine r_iload_n (pc := 9) hv 5 rfl rfl ?_
    refine r_iaload (pc := 10) (N := 4) hv 6 rfl rfl rfl (by decide) h.1 ?_
    replace h := h.2
    refine r_icmp_ge (pc := 11) hv 7 rfl (fun c => ?_) (fun c => ?_)
    · replace h := h.1 c
      refine r_iconst (pc := 18) hv 10 rfl  ?_
      exact r_zreturn (pc := 19) hv 11 rfl rfl (Or.inl rfl) h
    · replace h := h.2 c
      refine r_iconst (pc := 14) hv 8 rfl  ?_
      refine r_goto (pc := 15) hv 9 rfl  ?_
      exact r_zreturn (pc := 19) hv 11 rfl rfl (Or.inr rfl) h
theorem m_X6_hasPlace {S : Sp} (hS : Sys S) {l1 : Int32} {l2 : Int32} {σ : St} {Φ : Rs} (h : ∀ v : Kt, Cl S Φ k_X6_hasPlace v → Wk v → vc_X6_hasPlace_0 S Φ v l1 l2 σ) : S 77 [aR 41, aI l1, aI l2] σ Φ :=
  hS.2 77 M_X6_hasPlace k_X6_hasPlace _ _ _ mkt_X6_hasPlace (Nat.le_of_ble_eq_true rfl) (fun v hv hw => w_X6_hasPlace_0 hS hv hw   l1 l2 σ (h v hv hw))
def vc_X6_hasSpan_0 (S : Sp) (Φ : Rs) (v : Kt) (l1 : Int32) (l2 : Int32) (l3 : Int32) (σ : St) : Prop := ((l2 : Int32) < 0 → (Φ [aI 0] σ)) ∧ (¬ ((l2 : Int32) < 0) → (((l3 : Int32) < 0 → (Φ [aI 0] σ)) ∧ (¬ ((l3 : Int32) < 0) → (vp_in l1 4 ∧ (((σ.1 47 (l1 : Int32).toNatClampNeg : Int32) < l2 → (Φ [aI 0] σ)) ∧ (¬ ((σ.1 47 (l1 : Int32).toNatClampNeg : Int32) < l2) → (vp_in l1 4 ∧ ((((σ.1 47 (l1 : Int32).toNatClampNeg) - l2 : Int32) < l3 → (Φ [aI 0] σ)) ∧ (¬ (((σ.1 47 (l1 : Int32).toNatClampNeg) - l2 : Int32) < l3) → (Φ [aI 1] σ))))))))))
theorem w_X6_hasSpan_0 {S : Sp} (hS : Sys S) {Φ : Rs} {v : Kt} (hv : Cl S Φ k_X6_hasSpan v) (hw : Wk v) (l1 : Int32) (l2 : Int32) (l3 : Int32) (σ : St) (h : vc_X6_hasSpan_0 S Φ v l1 l2 l3 σ) : v 0 [some (aR 41), some (aI l1), some (aI l2), some (aI l3)] [] σ := by
  unfold vc_X6_hasSpan_0 at h
  refine r_iload_n (pc := 0) hv 0 rfl rfl ?_
  refine r_if_lt (pc := 1) hv 1 rfl (fun c => ?_) (fun c => ?_)
  · replace h := h.1 c
    refine r_iconst (pc := 34) hv 20 rfl  ?_
    exact r_zreturn (pc := 35) hv 21 rfl rfl (Or.inl rfl) h
  · replace h := h.2 c
    refine r_iload_n (pc := 4) hv 2 rfl rfl ?_
    refine r_if_lt (pc := 5) hv 3 rfl (fun c => ?_) (fun c => ?_)
    · replace h := h.1 c
      refine r_iconst (pc := 34) hv 20 rfl  ?_
      exact r_zreturn (pc := 35) hv 21 rfl rfl (Or.inl rfl) h
    · replace h := h.2 c
      refine r_iload_n (pc := 8) hv 4 rfl rfl ?_
      refine r_aload_n (pc := 9) hv 5 rfl rfl ?_
      refine r_getR (pc := 10) (b := 47) hv 6 rfl rfl rfl rfl ?_
      refine r_iload_n (pc := 13) hv 7 rfl rfl ?_
      refine r_iaload (pc := 14) (N := 4) hv 8 rfl rfl rfl (by decide) h.1 ?_
      replace h := h.2
      refine r_icmp_gt (pc := 15) hv 9 rfl (fun c => ?_) (fun c => ?_)
      · replace h := h.1 c
        refine r_iconst (pc := 34) hv 20 rfl  ?_
        exact r_zreturn (pc := 35) hv 21 rfl rfl (Or.inl rfl) h
      · replace h := h.2 c
        refine r_iload_n (pc := 18) hv 10 rfl rfl ?_
        refine r_aload_n (pc := 19) hv 11 rfl rfl ?_
        refine r_getR (pc := 20) (b := 47) hv 12 rfl rfl rfl rfl ?_
        refine r_iload_n (pc := 23) hv 13 rfl rfl ?_
        refine r_iaload (pc := 24) (N := 4) hv 14 rfl rfl rfl (by decide) h.1 ?_
        replace h := h.2
        refine r_iload_n (pc := 25) hv 15 rfl rfl ?_
        refine r_isub (pc := 26) hv 16 rfl  ?_
        refine r_icmp_gt (pc := 27) hv 17 rfl (fun c => ?_) (fun c => ?_)
        · replace h := h.1 c
          refine r_iconst (pc := 34) hv 20 rfl  ?_
          exact r_zreturn (pc := 35) hv 21 rfl rfl (Or.inl rfl) h
        · replace h := h.2 c
          refine r_iconst (pc := 30) hv 18 rfl  ?_
          refine r_goto (pc := 31) hv 19 rfl  ?_
          exact r_zreturn (pc := 35) hv 21 rfl rfl (Or.inr rfl) h
theorem m_X6_hasSpan {S : Sp} (hS : Sys S) {l1 : Int32} {l2 : Int32} {l3 : Int32} {σ : St} {Φ : Rs} (h : ∀ v : Kt, Cl S Φ k_X6_hasSpan v → Wk v → vc_X6_hasSpan_0 S Φ v l1 l2 l3 σ) : S 78 [aR 41, aI l1, aI l2, aI l3] σ Φ :=
  hS.2 78 M_X6_hasSpan k_X6_hasSpan _ _ _ mkt_X6_hasSpan (Nat.le_of_ble_eq_true rfl) (fun v hv hw => w_X6_hasSpan_0 hS hv hw   l1 l2 l3 σ (h v hv hw))
def vc_X9_in_0 (S : Sp) (Φ : Rs) (v : Kt) (l0 : Int64) (l2 : Int64) (l4 : Int64) (σ : St) : Prop := ((lg_cmp l0 l2 : Int32) < 0 → (Φ [aI 0] σ)) ∧ (¬ ((lg_cmp l0 l2 : Int32) < 0) → (((0 : Int32) < (lg_cmp l0 l4) → (Φ [aI 0] σ)) ∧ (¬ ((0 : Int32) < (lg_cmp l0 l4)) → (Φ [aI 1] σ))))
theorem w_X9_in_0 {S : Sp} (hS : Sys S) {Φ : Rs} {v : Kt} (hv : Cl S Φ k_X9_in v) (hw : Wk v) (l0 : Int64) (l2 : Int64) (l4 : Int64) (σ : St) (h : vc_X9_in_0 S Φ v l0 l2 l4 σ) : v 0 [some (aL l0), none, some (aL l2), none, some (aL l4), none] [] σ := by
  unfold vc_X9_in_0 at h
  refine r_lload_n (pc := 0) hv 0 rfl rfl ?_
  refine r_lload_n (pc := 1) hv 1 rfl rfl ?_
  refine r_lcmp (pc := 2) hv 2 rfl  ?_
  refine r_if_lt (pc := 3) hv 3 rfl (fun c => ?_) (fun c => ?_)
  · replace h := h.1 c
    refine r_iconst (pc := 17) hv 10 rfl  ?_
    exact r_zreturn (pc := 18) hv 11 rfl rfl (Or.inl rfl) h
  · replace h := h.2 c
    refine r_lload_n (pc := 6) hv 4 rfl rfl ?_
    refine r_lload (pc := 7) hv 5 rfl rfl ?_
    refine r_lcmp (pc := 9) hv 6 rfl  ?_
    refine r_if_gt (pc := 10) hv 7 rfl (fun c => ?_) (fun c => ?_)
    · replace h := h.1 c
      refine r_iconst (pc := 17) hv 10 rfl  ?_
      exact r_zreturn (pc := 18) hv 11 rfl rfl (Or.inl rfl) h
    · replace h := h.2 c
      refine r_iconst (pc := 13) hv 8 rfl  ?_
      refine r_goto (pc := 14) hv 9 rfl  ?_
      exact r_zreturn (pc := 18) hv 11 rfl rfl (Or.inr rfl) h
theorem m_X9_in {S : Sp} (hS : Sys S) {l0 : Int64} {l2 : Int64} {l4 : Int64} {σ : St} {Φ : Rs} (h : ∀ v : Kt, Cl S Φ k_X9_in v → Wk v → vc_X9_in_0 S Φ v l0 l2 l4 σ) : S 143 [aL l0, aL l2, aL l4] σ Φ :=
  hS.2 143 M_X9_in k_X9_in _ _ _ mkt_X9_in (Nat.le_of_ble_eq_true rfl) (fun v hv hw => w_X9_in_0 hS hv hw   l0 l2 l4 σ (h v hv hw))
def vc_X9_less_0 (S : Sp) (Φ : Rs) (v : Kt) (l0 : Int32) (l1 : Int32) (σ : St) : Prop := ((l1 : Int32) ≤ l0 → (Φ [aI l1] σ)) ∧ (¬ ((l1 : Int32) ≤ l0) → (Φ [aI l0] σ))
theorem w_X9_less_0 {S : Sp} (hS : Sys S) {Φ : Rs} {v : Kt} (hv : Cl S Φ k_X9_less v) (hw : Wk v) (l0 : Int32) (l1 : Int32) (σ : St) (h : vc_X9_less_0 S Φ v l0 l1 σ) : v 0 [some (aI l0), some (aI l1)] [] σ := by
  unfold vc_X9_less_0 at h
  refine r_iload_n (pc := 0) hv 0 rfl rfl ?_
  refine r_iload_n (pc := 1) hv 1 rfl rfl ?_
  refine r_icmp_ge (pc := 2) hv 2 rfl (fun c => ?_) (fun c => ?_)
  · replace h := h.1 c
    refine r_iload_n (pc := 9) hv 5 rfl rfl ?_
    exact r_ireturn (pc := 10) hv 6 rfl rfl h
  · replace h := h.2 c
    refine r_iload_n (pc := 5) hv 3 rfl rfl ?_
    refine r_goto (pc := 6) hv 4 rfl  ?_
    exact r_ireturn (pc := 10) hv 6 rfl rfl h
theorem m_X9_less {S : Sp} (hS : Sys S) {l0 : Int32} {l1 : Int32} {σ : St} {Φ : Rs} (h : ∀ v : Kt, Cl S Φ k_X9_less v → Wk v → vc_X9_less_0 S Φ v l0 l1 σ) : S 144 [aI l0, aI l1] σ Φ :=
  hS.2 144 M_X9_less k_X9_less _ _ _ mkt_X9_less (Nat.le_of_ble_eq_true rfl) (fun v hv hw => w_X9_less_0 hS hv hw   l0 l1 σ (h v hv hw))
def vc_X9_abs_0 (S : Sp) (Φ : Rs) (v : Kt) (l0 : Int32) (σ : St) : Prop := ((0 : Int32) ≤ l0 → (Φ [aI l0] σ)) ∧ (¬ ((0 : Int32) ≤ l0) → (Φ [aI (-l0)] σ))
theorem w_X9_abs_0 {S : Sp} (hS : Sys S) {Φ : Rs} {v : Kt} (hv : Cl S Φ k_X9_abs v) (hw : Wk v) (l0 : Int32) (σ : St) (h : vc_X9_abs_0 S Φ v l0 σ) : v 0 [some (aI l0)] [] σ := by
  unfold vc_X9_abs_0 at h
  refine r_iload_n (pc := 0) hv 0 rfl rfl ?_
  refine r_if_ge (pc := 1) hv 1 rfl (fun c => ?_) (fun c => ?_)
  · replace h := h.1 c
    refine r_iload_n (pc := 9) hv 5 rfl rfl ?_
    exact r_ireturn (pc := 10) hv 6 rfl rfl h
  · replace h := h.2 c
    refine r_iload_n (pc := 4) hv 2 rfl rfl ?_
    refine r_ineg (pc := 5) hv 3 rfl  ?_
    refine r_goto (pc := 6) hv 4 rfl  ?_
    exact r_ireturn (pc := 10) hv 6 rfl rfl h
theorem m_X9_abs {S : Sp} (hS : Sys S) {l0 : Int32} {σ : St} {Φ : Rs} (h : ∀ v : Kt, Cl S Φ k_X9_abs v → Wk v → vc_X9_abs_0 S Φ v l0 σ) : S 145 [aI l0] σ Φ :=
  hS.2 145 M_X9_abs k_X9_abs _ _ _ mkt_X9_abs (Nat.le_of_ble_eq_true rfl) (fun v hv hw => w_X9_abs_0 hS hv hw   l0 σ (h v hv hw))
def vc_X9_its_0 (S : Sp) (Φ : Rs) (v : Kt) (l1 : Int32) (l2 : Int32) (σ : St) : Prop := vp_in ((8 * l1) + l2) 286 ∧ (Φ [aI (σ.1 50 ((8 * l1) + l2 : Int32).toNatClampNeg)] σ)
theorem w_X9_its_0 {S : Sp} (hS : Sys S) {Φ : Rs} {v : Kt} (hv : Cl S Φ k_X9_its v) (hw : Wk v) (l1 : Int32) (l2 : Int32) (σ : St) (h : vc_X9_its_0 S Φ v l1 l2 σ) : v 0 [some (aR 49), some (aI l1), some (aI l2)] [] σ := by
  unfold vc_X9_its_0 at h
  refine r_aload_n (pc := 0) hv 0 rfl rfl ?_
  refine r_getR (pc := 1) (b := 50) hv 1 rfl rfl rfl rfl ?_
  refine r_bipush (pc := 4) hv 2 rfl  ?_
  refine r_iload_n (pc := 6) hv 3 rfl rfl ?_
  refine r_imul (pc := 7) hv 4 rfl  ?_
  refine r_iload_n (pc := 8) hv 5 rfl rfl ?_
  refine r_iadd (pc := 9) hv 6 rfl  ?_
  refine r_iaload (pc := 10) (N := 286) hv 7 rfl rfl rfl (by decide) h.1 ?_
  replace h := h.2
  exact r_ireturn (pc := 11) hv 8 rfl rfl h
theorem m_X9_its {S : Sp} (hS : Sys S) {l1 : Int32} {l2 : Int32} {σ : St} {Φ : Rs} (h : ∀ v : Kt, Cl S Φ k_X9_its v → Wk v → vc_X9_its_0 S Φ v l1 l2 σ) : S 150 [aR 49, aI l1, aI l2] σ Φ :=
  hS.2 150 M_X9_its k_X9_its _ _ _ mkt_X9_its (Nat.le_of_ble_eq_true rfl) (fun v hv hw => w_X9_its_0 hS hv hw   l1 l2 σ (h v hv hw))
def vc_X9_wires_0 (S : Sp) (Φ : Rs) (v : Kt) (l1 : Int32) (l2 : Int32) (σ : St) : Prop := vp_in ((160 + (3 * l1)) + l2) 286 ∧ (Φ [aI (σ.1 50 ((160 + (3 * l1)) + l2 : Int32).toNatClampNeg)] σ)
theorem w_X9_wires_0 {S : Sp} (hS : Sys S) {Φ : Rs} {v : Kt} (hv : Cl S Φ k_X9_wires v) (hw : Wk v) (l1 : Int32) (l2 : Int32) (σ : St) (h : vc_X9_wires_0 S Φ v l1 l2 σ) : v 0 [some (aR 49), some (aI l1), some (aI l2)] [] σ := by
  unfold vc_X9_wires_0 at h
  refine r_aload_n (pc := 0) hv 0 rfl rfl ?_
  refine r_getR (pc := 1) (b := 50) hv 1 rfl rfl rfl rfl ?_
  refine r_sipush (pc := 4) hv 2 rfl  ?_
  refine r_iconst (pc := 7) hv 3 rfl  ?_
  refine r_iload_n (pc := 8) hv 4 rfl rfl ?_
  refine r_imul (pc := 9) hv 5 rfl  ?_
  refine r_iadd (pc := 10) hv 6 rfl  ?_
  refine r_iload_n (pc := 11) hv 7 rfl rfl ?_
  refine r_iadd (pc := 12) hv 8 rfl  ?_
  refine r_iaload (pc := 13) (N := 286) hv 9 rfl rfl rfl (by decide) h.1 ?_
  replace h := h.2
  exact r_ireturn (pc := 14) hv 10 rfl rfl h
theorem m_X9_wires {S : Sp} (hS : Sys S) {l1 : Int32} {l2 : Int32} {σ : St} {Φ : Rs} (h : ∀ v : Kt, Cl S Φ k_X9_wires v → Wk v → vc_X9_wires_0 S Φ v l1 l2 σ) : S 151 [aR 49, aI l1, aI l2] σ Φ :=
  hS.2 151 M_X9_wires k_X9_wires _ _ _ mkt_X9_wires (Nat.le_of_ble_eq_true rfl) (fun v hv hw => w_X9_wires_0 hS hv hw   l1 l2 σ (h v hv hw))
def vc_X9_has_0 (S : Sp) (Φ : Rs) (v : Kt) (l1 : Int32) (l2 : Int32) (σ : St) : Prop := (¬ ((l1 >>> (l2 &&& 31)) &&& 1 : Int32) = 1 → (Φ [aI 0] σ)) ∧ (((l1 >>> (l2 &&& 31)) &&& 1 : Int32) = 1 → (Φ [aI 1] σ))
theorem w_X9_has_0 {S : Sp} (hS : Sys S) {Φ : Rs} {v : Kt} (hv : Cl S Φ k_X9_has v) (hw : Wk v) (l1 : Int32) (l2 : Int32) (σ : St) (h : vc_X9_has_0 S Φ v l1 l2 σ) : v 0 [some (aR 49), some (aI l1), some (aI l2)] [] σ := by
  unfold vc_X9_has_0 at h
  refine r_iload_n (pc := 0) hv 0 rfl rfl ?_
  refine r_iload_n (pc := 1) hv 1 rfl rfl ?_
  refine r_ishr (pc := 2) hv 2 rfl  ?_
  refine r_iconst (pc := 3) hv 3 rfl  ?_
  refine r_iand (pc := 4) hv 4 rfl  ?_
  refine r_iconst (pc := 5) hv 5 rfl  ?_
  refine r_icmp_ne (pc := 6) hv 6 rfl (fun c => ?_) (fun c => ?_)
  · replace h := h.1 c
    refine r_iconst (pc := 13) hv 9 rfl  ?_
    exact r_zreturn (pc := 14) hv 10 rfl rfl (Or.inl rfl) h
  · replace h := h.2 c
    refine r_iconst (pc := 9) hv 7 rfl  ?_
    refine r_goto (pc := 10) hv 8 rfl  ?_
    exact r_zreturn (pc := 14) hv 10 rfl rfl (Or.inr rfl) h
theorem m_X9_has {S : Sp} (hS : Sys S) {l1 : Int32} {l2 : Int32} {σ : St} {Φ : Rs} (h : ∀ v : Kt, Cl S Φ k_X9_has v → Wk v → vc_X9_has_0 S Φ v l1 l2 σ) : S 173 [aR 49, aI l1, aI l2] σ Φ :=
  hS.2 173 M_X9_has k_X9_has _ _ _ mkt_X9_has (Nat.le_of_ble_eq_true rfl) (fun v hv hw => w_X9_has_0 hS hv hw   l1 l2 σ (h v hv hw))
def vc_X9_isUnder_29 (S : Sp) (Φ : Rs) (v : Kt) (l0 : Int32) (l1 : Int32) (σ : St) : Prop := (¬ (l1 : Int32) = 4 → (Φ [aI 0] σ)) ∧ ((l1 : Int32) = 4 → ((¬ (l0 : Int32) = 5 → (Φ [aI 0] σ)) ∧ ((l0 : Int32) = 5 → (Φ [aI 1] σ))))
theorem w_X9_isUnder_29 {S : Sp} (hS : Sys S) {Φ : Rs} {v : Kt} (hv : Cl S Φ k_X9_isUnder v) (hw : Wk v) (l0 : Int32) (l1 : Int32) (σ : St) (h : vc_X9_isUnder_29 S Φ v l0 l1 σ) : v 29 [some (aI l0), some (aI l1)] [] σ := by
  unfold vc_X9_isUnder_29 at h
  refine r_iload_n (pc := 29) hv 17 rfl rfl ?_
  refine r_iconst (pc := 30) hv 18 rfl  ?_
  refine r_icmp_ne (pc := 31) hv 19 rfl (fun c => ?_) (fun c => ?_)
  · replace h := h.1 c
    refine r_iconst (pc := 43) hv 25 rfl  ?_
    exact r_zreturn (pc := 44) hv 26 rfl rfl (Or.inl rfl) h
  · replace h := h.2 c
    refine r_iload_n (pc := 34) hv 20 rfl rfl ?_
    refine r_iconst (pc := 35) hv 21 rfl  ?_
    refine r_icmp_ne (pc := 36) hv 22 rfl (fun c => ?_) (fun c => ?_)
    · replace h := h.1 c
      refine r_iconst (pc := 43) hv 25 rfl  ?_
      exact r_zreturn (pc := 44) hv 26 rfl rfl (Or.inl rfl) h
    · replace h := h.2 c
      refine r_iconst (pc := 39) hv 23 rfl  ?_
      refine r_goto (pc := 40) hv 24 rfl  ?_
      exact r_zreturn (pc := 44) hv 26 rfl rfl (Or.inr rfl) h
def vc_X9_isUnder_19 (S : Sp) (Φ : Rs) (v : Kt) (l0 : Int32) (l1 : Int32) (σ : St) : Prop := (¬ (l1 : Int32) = 2 → (vc_X9_isUnder_29 S Φ v  l0 l1 σ)) ∧ ((l1 : Int32) = 2 → (((l0 : Int32) = 3 → (Φ [aI 1] σ)) ∧ (¬ ((l0 : Int32) = 3) → (vc_X9_isUnder_29 S Φ v  l0 l1 σ))))
theorem w_X9_isUnder_19 {S : Sp} (hS : Sys S) {Φ : Rs} {v : Kt} (hv : Cl S Φ k_X9_isUnder v) (hw : Wk v) (l0 : Int32) (l1 : Int32) (σ : St) (h : vc_X9_isUnder_19 S Φ v l0 l1 σ) : v 19 [some (aI l0), some (aI l1)] [] σ := by
  unfold vc_X9_isUnder_19 at h
  refine r_iload_n (pc := 19) hv 11 rfl rfl ?_
  refine r_iconst (pc := 20) hv 12 rfl  ?_
  refine r_icmp_ne (pc := 21) hv 13 rfl (fun c => ?_) (fun c => ?_)
  · replace h := h.1 c
    exact (w_X9_isUnder_29 hS hv hw   l0 l1  σ h)
  · replace h := h.2 c
    refine r_iload_n (pc := 24) hv 14 rfl rfl ?_
    refine r_iconst (pc := 25) hv 15 rfl  ?_
    refine r_icmp_eq (pc := 26) hv 16 rfl (fun c => ?_) (fun c => ?_)
    · replace h := h.1 c
      refine r_iconst (pc := 39) hv 23 rfl  ?_
      refine r_goto (pc := 40) hv 24 rfl  ?_
      exact r_zreturn (pc := 44) hv 26 rfl rfl (Or.inr rfl) h
    · replace h := h.2 c
      exact (w_X9_isUnder_29 hS hv hw   l0 l1  σ h)
def vc_X9_isUnder_0 (S : Sp) (Φ : Rs) (v : Kt) (l0 : Int32) (l1 : Int32) (σ : St) : Prop := ((l1 : Int32) = 0 → (Φ [aI 1] σ)) ∧ (¬ ((l1 : Int32) = 0) → (((l0 : Int32) = l1 → (Φ [aI 1] σ)) ∧ (¬ ((l0 : Int32) = l1) → ((¬ (l1 : Int32) = 1 → (vc_X9_isUnder_19 S Φ v  l0 l1 σ)) ∧ ((l1 : Int32) = 1 → (((3 : Int32) < l0 → (Φ [aI 1] σ)) ∧ (¬ ((3 : Int32) < l0) → (vc_X9_isUnder_19 S Φ v  l0 l1 σ))))))))
theorem w_X9_isUnder_0 {S : Sp} (hS : Sys S) {Φ : Rs} {v : Kt} (hv : Cl S Φ k_X9_isUnder v) (hw : Wk v) (l0 : Int32) (l1 : Int32) (σ : St) (h : vc_X9_isUnder_0 S Φ v l0 l1 σ) : v 0 [some (aI l0), some (aI l1)] [] σ := by
  unfold vc_X9_isUnder_0 at h
  refine r_iload_n (pc := 0) hv 0 rfl rfl ?_
  refine r_if_eq (pc := 1) hv 1 rfl (fun c => ?_) (fun c => ?_)
  · replace h := h.1 c
    refine r_iconst (pc := 39) hv 23 rfl  ?_
    refine r_goto (pc := 40) hv 24 rfl  ?_
    exact r_zreturn (pc := 44) hv 26 rfl rfl (Or.inr rfl) h
  · replace h := h.2 c
    refine r_iload_n (pc := 4) hv 2 rfl rfl ?_
    refine r_iload_n (pc := 5) hv 3 rfl rfl ?_
    refine r_icmp_eq (pc := 6) hv 4 rfl (fun c => ?_) (fun c => ?_)
    · replace h := h.1 c
      refine r_iconst (pc := 39) hv 23 rfl  ?_
      refine r_goto (pc := 40) hv 24 rfl  ?_
      exact r_zreturn (pc := 44) hv 26 rfl rfl (Or.inr rfl) h
    · replace h := h.2 c
      refine r_iload_n (pc := 9) hv 5 rfl rfl ?_
      refine r_iconst (pc := 10) hv 6 rfl  ?_
      refine r_icmp_ne (pc := 11) hv 7 rfl (fun c => ?_) (fun c => ?_)
      · replace h := h.1 c
        exact (w_X9_isUnder_19 hS hv hw   l0 l1  σ h)
      · replace h := h.2 c
        refine r_iload_n (pc := 14) hv 8 rfl rfl ?_
        refine r_iconst (pc := 15) hv 9 rfl  ?_
        refine r_icmp_gt (pc := 16) hv 10 rfl (fun c => ?_) (fun c => ?_)
        · replace h := h.1 c
          refine r_iconst (pc := 39) hv 23 rfl  ?_
          refine r_goto (pc := 40) hv 24 rfl  ?_
          exact r_zreturn (pc := 44) hv 26 rfl rfl (Or.inr rfl) h
        · replace h := h.2 c
          exact (w_X9_isUnder_19 hS hv hw   l0 l1  σ h)
theorem m_X9_isUnder {S : Sp} (hS : Sys S) {l0 : Int32} {l1 : Int32} {σ : St} {Φ : Rs} (h : ∀ v : Kt, Cl S Φ k_X9_isUnder v → Wk v → vc_X9_isUnder_0 S Φ v l0 l1 σ) : S 153 [aI l0, aI l1] σ Φ :=
  hS.2 153 M_X9_isUnder k_X9_isUnder _ _ _ mkt_X9_isUnder (Nat.le_of_ble_eq_true rfl) (fun v hv hw => w_X9_isUnder_0 hS hv hw   l0 l1 σ (h v hv hw))
def vc_X9_here_0 (S : Sp) (Φ : Rs) (v : Kt) (σ : St) : Prop := ((σ.1 49 20 : Int32) ≤ (σ.1 49 23) → (Φ [aI (-1)] σ)) ∧ (¬ ((σ.1 49 20 : Int32) ≤ (σ.1 49 23)) → (vp_in (σ.1 49 23) 80 ∧ (Φ [aI (σ.1 59 (σ.1 49 23 : Int32).toNatClampNeg)] σ)))
theorem w_X9_here_0 {S : Sp} (hS : Sys S) {Φ : Rs} {v : Kt} (hv : Cl S Φ k_X9_here v) (hw : Wk v) (σ : St) (h : vc_X9_here_0 S Φ v  σ) : v 0 [some (aR 49)] [] σ := by
  unfold vc_X9_here_0 at h
  refine r_aload_n (pc := 0) hv 0 rfl rfl ?_
  refine r_getI (pc := 1) hv 1 rfl rfl rfl ?_
  refine r_aload_n (pc := 4) hv 2 rfl rfl ?_
  refine r_getI (pc := 5) hv 3 rfl rfl rfl ?_
  refine r_icmp_ge (pc := 8) hv 4 rfl (fun c => ?_) (fun c => ?_)
  · replace h := h.1 c
    refine r_iconst (pc := 23) hv 11 rfl  ?_
    exact r_ireturn (pc := 24) hv 12 rfl rfl h
  · replace h := h.2 c
    refine r_aload_n (pc := 11) hv 5 rfl rfl ?_
    refine r_getR (pc := 12) (b := 59) hv 6 rfl rfl rfl rfl ?_
    refine r_aload_n (pc := 15) hv 7 rfl rfl ?_
    refine r_getI (pc := 16) hv 8 rfl rfl rfl ?_
    refine r_iaload (pc := 19) (N := 80) hv 9 rfl rfl rfl (by decide) h.1 ?_
    replace h := h.2
    refine r_goto (pc := 20) hv 10 rfl  ?_
    exact r_ireturn (pc := 24) hv 12 rfl rfl h
theorem m_X9_here {S : Sp} (hS : Sys S) {σ : St} {Φ : Rs} (h : ∀ v : Kt, Cl S Φ k_X9_here v → Wk v → vc_X9_here_0 S Φ v  σ) : S 208 [aR 49] σ Φ :=
  hS.2 208 M_X9_here k_X9_here _ _ _ mkt_X9_here (Nat.le_of_ble_eq_true rfl) (fun v hv hw => w_X9_here_0 hS hv hw    σ (h v hv hw))
def vc_X8_rootAbove_8 (S : Sp) (Φ : Rs) (v : Kt) (l0 : Int32) (l1 : Int32) (l2 : Int32) (l3 : Int32) (σ : St) : Prop := ((12 : Int32) ≤ l3 → (Φ [aI l1] σ)) ∧ (¬ ((12 : Int32) ≤ l3) → (((l2 : Int32) ≤ l1 → (Φ [aI l1] σ)) ∧ (¬ ((l2 : Int32) ≤ l1) → (((((l1 + l2) / 2) * ((l1 + l2) / 2) : Int32) < l0 → (v 8 [some (aI l0), some (aI (((l1 + l2) / 2) + 1)), some (aI l2), some (aI (l3 + 1)), none] [] σ)) ∧ (¬ ((((l1 + l2) / 2) * ((l1 + l2) / 2) : Int32) < l0) → (v 8 [some (aI l0), some (aI l1), some (aI ((l1 + l2) / 2)), some (aI (l3 + 1)), none] [] σ))))))
theorem w_X8_rootAbove_8 {S : Sp} (hS : Sys S) {Φ : Rs} {v : Kt} (hv : Cl S Φ k_X8_rootAbove v) (hw : Wk v) (l0 : Int32) (l1 : Int32) (l2 : Int32) (l3 : Int32) (σ : St) (h : vc_X8_rootAbove_8 S Φ v l0 l1 l2 l3 σ) : v 8 [some (aI l0), some (aI l1), some (aI l2), some (aI l3), none] [] σ := by
  unfold vc_X8_rootAbove_8 at h
  refine r_iload_n (pc := 8) hv 6 rfl rfl ?_
  refine r_bipush (pc := 9) hv 7 rfl  ?_
  refine r_icmp_ge (pc := 11) hv 8 rfl (fun c => ?_) (fun c => ?_)
  · replace h := h.1 c
    refine r_iload_n (pc := 52) hv 32 rfl rfl ?_
    exact r_ireturn (pc := 53) hv 33 rfl rfl h
  · replace h := h.2 c
    refine r_iload_n (pc := 14) hv 9 rfl rfl ?_
    refine r_iload_n (pc := 15) hv 10 rfl rfl ?_
    refine r_icmp_ge (pc := 16) hv 11 rfl (fun c => ?_) (fun c => ?_)
    · replace h := h.1 c
      refine r_iload_n (pc := 52) hv 32 rfl rfl ?_
      exact r_ireturn (pc := 53) hv 33 rfl rfl h
    · replace h := h.2 c
      refine r_iload_n (pc := 19) hv 12 rfl rfl ?_
      refine r_iload_n (pc := 20) hv 13 rfl rfl ?_
      refine r_iadd (pc := 21) hv 14 rfl  ?_
      refine r_iconst (pc := 22) hv 15 rfl  ?_
      refine r_idiv (pc := 23) hv 16 rfl (by decide) ?_
      refine r_istore (pc := 24) (lo' := [some (aI l0), some (aI l1), some (aI l2), some (aI l3), some (aI ((l1 + l2) / 2))]) hv 17 rfl rfl ?_
      refine r_iload (pc := 26) hv 18 rfl rfl ?_
      refine r_iload (pc := 28) hv 19 rfl rfl ?_
      refine r_imul (pc := 30) hv 20 rfl  ?_
      refine r_iload_n (pc := 31) hv 21 rfl rfl ?_
      refine r_icmp_lt (pc := 32) hv 22 rfl (fun c => ?_) (fun c => ?_)
      · replace h := h.1 c
        refine r_iload (pc := 41) hv 26 rfl rfl ?_
        refine r_iconst (pc := 43) hv 27 rfl  ?_
        refine r_iadd (pc := 44) hv 28 rfl  ?_
        refine r_istore_n (pc := 45) (lo' := [some (aI l0), some (aI (((l1 + l2) / 2) + 1)), some (aI l2), some (aI l3), some (aI ((l1 + l2) / 2))]) hv 29 rfl rfl ?_
        refine r_iinc (pc := 46) (lo' := [some (aI l0), some (aI (((l1 + l2) / 2) + 1)), some (aI l2), some (aI (l3 + 1)), some (aI ((l1 + l2) / 2))]) hv 30 rfl rfl rfl ?_
        refine r_goto (pc := 49) hv 31 rfl  ?_
        exact hw 8 [some (aI l0), some (aI (((l1 + l2) / 2) + 1)), some (aI l2), some (aI (l3 + 1)), none] _ _ _ ⟨rfl, ⟨rfl, ⟨rfl, ⟨rfl, trivial⟩⟩⟩⟩ h
      · replace h := h.2 c
        refine r_iload (pc := 35) hv 23 rfl rfl ?_
        refine r_istore_n (pc := 37) (lo' := [some (aI l0), some (aI l1), some (aI ((l1 + l2) / 2)), some (aI l3), some (aI ((l1 + l2) / 2))]) hv 24 rfl rfl ?_
        refine r_goto (pc := 38) hv 25 rfl  ?_
        refine r_iinc (pc := 46) (lo' := [some (aI l0), some (aI l1), some (aI ((l1 + l2) / 2)), some (aI (l3 + 1)), some (aI ((l1 + l2) / 2))]) hv 30 rfl rfl rfl ?_
        refine r_goto (pc := 49) hv 31 rfl  ?_
        exact hw 8 [some (aI l0), some (aI l1), some (aI ((l1 + l2) / 2)), some (aI (l3 + 1)), none] _ _ _ ⟨rfl, ⟨rfl, ⟨rfl, ⟨rfl, trivial⟩⟩⟩⟩ h
def vc_X8_rootAbove_0 (S : Sp) (Φ : Rs) (v : Kt) (l0 : Int32) (σ : St) : Prop := v 8 [some (aI l0), some (aI 0), some (aI 2000), some (aI 0), none] [] σ
theorem w_X8_rootAbove_0 {S : Sp} (hS : Sys S) {Φ : Rs} {v : Kt} (hv : Cl S Φ k_X8_rootAbove v) (hw : Wk v) (l0 : Int32) (σ : St) (h : vc_X8_rootAbove_0 S Φ v l0 σ) : v 0 [some (aI l0), none, none, none, none] [] σ := by
  unfold vc_X8_rootAbove_0 at h
  refine r_iconst (pc := 0) hv 0 rfl  ?_
  refine r_istore_n (pc := 1) (lo' := [some (aI l0), some (aI 0), none, none, none]) hv 1 rfl rfl ?_
  refine r_sipush (pc := 2) hv 2 rfl  ?_
  refine r_istore_n (pc := 5) (lo' := [some (aI l0), some (aI 0), some (aI 2000), none, none]) hv 3 rfl rfl ?_
  refine r_iconst (pc := 6) hv 4 rfl  ?_
  refine r_istore_n (pc := 7) (lo' := [some (aI l0), some (aI 0), some (aI 2000), some (aI 0), none]) hv 5 rfl rfl ?_
  exact h
theorem m_X8_rootAbove {S : Sp} (hS : Sys S) {l0 : Int32} {σ : St} {Φ : Rs} (h : ∀ v : Kt, Cl S Φ k_X8_rootAbove v → Wk v → vc_X8_rootAbove_0 S Φ v l0 σ) : S 142 [aI l0] σ Φ :=
  hS.2 142 M_X8_rootAbove k_X8_rootAbove _ _ _ mkt_X8_rootAbove (Nat.le_of_ble_eq_true rfl) (fun v hv hw => w_X8_rootAbove_0 hS hv hw   l0 σ (h v hv hw))
def vc_J6_bitCount_0f7a4_0 (S : Sp) (Φ : Rs) (v : Kt) (l0 : Int32) (σ : St) : Prop := ∀ y1 : Int32, y1 = ((l0 - ((((l0 : Int32).toUInt32 >>> ((1 : Int32).toUInt32 &&& Int32.toUInt32 31)).toInt32) &&& 1431655765)) &&& 858993459) + ((((l0 - ((((l0 : Int32).toUInt32 >>> ((1 : Int32).toUInt32 &&& Int32.toUInt32 31)).toInt32) &&& 1431655765) : Int32).toUInt32 >>> ((2 : Int32).toUInt32 &&& Int32.toUInt32 31)).toInt32) &&& 858993459) → (∀ y2 : Int32, y2 = ((y1 + (((y1 : Int32).toUInt32 >>> ((4 : Int32).toUInt32 &&& Int32.toUInt32 31)).toInt32)) &&& 252645135) + ((((y1 + (((y1 : Int32).toUInt32 >>> ((4 : Int32).toUInt32 &&& Int32.toUInt32 31)).toInt32)) &&& 252645135 : Int32).toUInt32 >>> ((8 : Int32).toUInt32 &&& Int32.toUInt32 31)).toInt32) → (Φ [aI ((y2 + (((y2 : Int32).toUInt32 >>> ((16 : Int32).toUInt32 &&& Int32.toUInt32 31)).toInt32)) &&& 63)] σ))
theorem w_J6_bitCount_0f7a4_0 {S : Sp} (hS : Sys S) {Φ : Rs} {v : Kt} (hv : Cl S Φ k_J6_bitCount_0f7a4 v) (hw : Wk v) (l0 : Int32) (σ : St) (h : vc_J6_bitCount_0f7a4_0 S Φ v l0 σ) : v 0 [some (aI l0)] [] σ := by
  unfold vc_J6_bitCount_0f7a4_0 at h
  refine r_iload_n (pc := 0) hv 0 rfl rfl ?_
  refine r_iload_n (pc := 1) hv 1 rfl rfl ?_
  refine r_iconst (pc := 2) hv 2 rfl  ?_
  refine r_iushr (pc := 3) hv 3 rfl  ?_
  refine r_ldc_w (pc := 4) hv 4 rfl  ?_
  refine r_iand (pc := 7) hv 5 rfl  ?_
  refine r_isub (pc := 8) hv 6 rfl  ?_
  refine r_istore_n (pc := 9) (lo' := [some (aI (l0 - ((((l0 : Int32).toUInt32 >>> ((1 : Int32).toUInt32 &&& Int32.toUInt32 31)).toInt32) &&& 1431655765)))]) hv 7 rfl rfl ?_
  refine r_iload_n (pc := 10) hv 8 rfl rfl ?_
  refine r_ldc_w (pc := 11) hv 9 rfl  ?_
  refine r_iand (pc := 14) hv 10 rfl  ?_
  refine r_iload_n (pc := 15) hv 11 rfl rfl ?_
  refine r_iconst (pc := 16) hv 12 rfl  ?_
  refine r_iushr (pc := 17) hv 13 rfl  ?_
  refine r_ldc_w (pc := 18) hv 14 rfl  ?_
  refine r_iand (pc := 21) hv 15 rfl  ?_
  refine r_iadd (pc := 22) hv 16 rfl  ?_
  obtain ⟨y1, e_y1⟩ : ∃ y : Int32, y = ((l0 - ((((l0 : Int32).toUInt32 >>> ((1 : Int32).toUInt32 &&& Int32.toUInt32 31)).toInt32) &&& 1431655765)) &&& 858993459) + ((((l0 - ((((l0 : Int32).toUInt32 >>> ((1 : Int32).toUInt32 &&& Int32.toUInt32 31)).toInt32) &&& 1431655765) : Int32).toUInt32 >>> ((2 : Int32).toUInt32 &&& Int32.toUInt32 31)).toInt32) &&& 858993459) := ⟨_, rfl⟩
  rw [← e_y1]
  replace h := h y1 e_y1
  refine r_istore_n (pc := 23) (lo' := [some (aI y1)]) hv 17 rfl rfl ?_
  refine r_iload_n (pc := 24) hv 18 rfl rfl ?_
  refine r_iload_n (pc := 25) hv 19 rfl rfl ?_
  refine r_iconst (pc := 26) hv 20 rfl  ?_
  refine r_iushr (pc := 27) hv 21 rfl  ?_
  refine r_iadd (pc := 28) hv 22 rfl  ?_
  refine r_ldc_w (pc := 29) hv 23 rfl  ?_
  refine r_iand (pc := 32) hv 24 rfl  ?_
  refine r_istore_n (pc := 33) (lo' := [some (aI ((y1 + (((y1 : Int32).toUInt32 >>> ((4 : Int32).toUInt32 &&& Int32.toUInt32 31)).toInt32)) &&& 252645135))]) hv 25 rfl rfl ?_
  refine r_iload_n (pc := 34) hv 26 rfl rfl ?_
  refine r_iload_n (pc := 35) hv 27 rfl rfl ?_
  refine r_bipush (pc := 36) hv 28 rfl  ?_
  refine r_iushr (pc := 38) hv 29 rfl  ?_
  refine r_iadd (pc := 39) hv 30 rfl  ?_
  obtain ⟨y2, e_y2⟩ : ∃ y : Int32, y = ((y1 + (((y1 : Int32).toUInt32 >>> ((4 : Int32).toUInt32 &&& Int32.toUInt32 31)).toInt32)) &&& 252645135) + ((((y1 + (((y1 : Int32).toUInt32 >>> ((4 : Int32).toUInt32 &&& Int32.toUInt32 31)).toInt32)) &&& 252645135 : Int32).toUInt32 >>> ((8 : Int32).toUInt32 &&& Int32.toUInt32 31)).toInt32) := ⟨_, rfl⟩
  rw [← e_y2]
  replace h := h y2 e_y2
  refine r_istore_n (pc := 40) (lo' := [some (aI y2)]) hv 31 rfl rfl ?_
  refine r_iload_n (pc := 41) hv 32 rfl rfl ?_
  refine r_iload_n (pc := 42) hv 33 rfl rfl ?_
  refine r_bipush (pc := 43) hv 34 rfl  ?_
  refine r_iushr (pc := 45) hv 35 rfl  ?_
  refine r_iadd (pc := 46) hv 36 rfl  ?_
  refine r_istore_n (pc := 47) (lo' := [some (aI (y2 + (((y2 : Int32).toUInt32 >>> ((16 : Int32).toUInt32 &&& Int32.toUInt32 31)).toInt32)))]) hv 37 rfl rfl ?_
  refine r_iload_n (pc := 48) hv 38 rfl rfl ?_
  refine r_bipush (pc := 49) hv 39 rfl  ?_
  refine r_iand (pc := 51) hv 40 rfl  ?_
  exact r_ireturn (pc := 52) hv 41 rfl rfl h
theorem m_J6_bitCount_0f7a4 {S : Sp} (hS : Sys S) {l0 : Int32} {σ : St} {Φ : Rs} (h : ∀ v : Kt, Cl S Φ k_J6_bitCount_0f7a4 v → Wk v → vc_J6_bitCount_0f7a4_0 S Φ v l0 σ) : S 237 [aI l0] σ Φ :=
  hS.2 237 M_J6_bitCount_0f7a4 k_J6_bitCount_0f7a4 _ _ _ mkt_J6_bitCount_0f7a4 (Nat.le_of_ble_eq_true rfl) (fun v hv hw => w_J6_bitCount_0f7a4_0 hS hv hw   l0 σ (h v hv hw))
def vc_X9_countOf_4 (S : Sp) (Φ : Rs) (v : Kt) (l0 : Int32) (l1 : Int32) (l2 : Int32) (σ : St) : Prop := ((31 : Int32) ≤ l2 → (Φ [aI l1] σ)) ∧ (¬ ((31 : Int32) ≤ l2) → (v 4 [some (aI l0), some (aI (l1 + ((l0 >>> (l2 &&& 31)) &&& 1))), some (aI (l2 + 1))] [] σ))
theorem w_X9_countOf_4 {S : Sp} (hS : Sys S) {Φ : Rs} {v : Kt} (hv : Cl S Φ k_X9_countOf v) (hw : Wk v) (l0 : Int32) (l1 : Int32) (l2 : Int32) (σ : St) (h : vc_X9_countOf_4 S Φ v l0 l1 l2 σ) : v 4 [some (aI l0), some (aI l1), some (aI l2)] [] σ := by
  unfold vc_X9_countOf_4 at h
  refine r_iload_n (pc := 4) hv 4 rfl rfl ?_
  refine r_bipush (pc := 5) hv 5 rfl  ?_
  refine r_icmp_ge (pc := 7) hv 6 rfl (fun c => ?_) (fun c => ?_)
  · replace h := h.1 c
    refine r_iload_n (pc := 24) hv 17 rfl rfl ?_
    exact r_ireturn (pc := 25) hv 18 rfl rfl h
  · replace h := h.2 c
    refine r_iload_n (pc := 10) hv 7 rfl rfl ?_
    refine r_iload_n (pc := 11) hv 8 rfl rfl ?_
    refine r_iload_n (pc := 12) hv 9 rfl rfl ?_
    refine r_ishr (pc := 13) hv 10 rfl  ?_
    refine r_iconst (pc := 14) hv 11 rfl  ?_
    refine r_iand (pc := 15) hv 12 rfl  ?_
    refine r_iadd (pc := 16) hv 13 rfl  ?_
    refine r_istore_n (pc := 17) (lo' := [some (aI l0), some (aI (l1 + ((l0 >>> (l2 &&& 31)) &&& 1))), some (aI l2)]) hv 14 rfl rfl ?_
    refine r_iinc (pc := 18) (lo' := [some (aI l0), some (aI (l1 + ((l0 >>> (l2 &&& 31)) &&& 1))), some (aI (l2 + 1))]) hv 15 rfl rfl rfl ?_
    refine r_goto (pc := 21) hv 16 rfl  ?_
    exact h
def vc_X9_countOf_0 (S : Sp) (Φ : Rs) (v : Kt) (l0 : Int32) (σ : St) : Prop := v 4 [some (aI l0), some (aI 0), some (aI 0)] [] σ
theorem w_X9_countOf_0 {S : Sp} (hS : Sys S) {Φ : Rs} {v : Kt} (hv : Cl S Φ k_X9_countOf v) (hw : Wk v) (l0 : Int32) (σ : St) (h : vc_X9_countOf_0 S Φ v l0 σ) : v 0 [some (aI l0), none, none] [] σ := by
  unfold vc_X9_countOf_0 at h
  refine r_iconst (pc := 0) hv 0 rfl  ?_
  refine r_istore_n (pc := 1) (lo' := [some (aI l0), some (aI 0), none]) hv 1 rfl rfl ?_
  refine r_iconst (pc := 2) hv 2 rfl  ?_
  refine r_istore_n (pc := 3) (lo' := [some (aI l0), some (aI 0), some (aI 0)]) hv 3 rfl rfl ?_
  exact h
theorem m_X9_countOf {S : Sp} (hS : Sys S) {l0 : Int32} {σ : St} {Φ : Rs} (h : ∀ v : Kt, Cl S Φ k_X9_countOf v → Wk v → vc_X9_countOf_0 S Φ v l0 σ) : S 147 [aI l0] σ Φ :=
  hS.2 147 M_X9_countOf k_X9_countOf _ _ _ mkt_X9_countOf (Nat.le_of_ble_eq_true rfl) (fun v hv hw => w_X9_countOf_0 hS hv hw   l0 σ (h v hv hw))
def vc_X9_told_0 (S : Sp) (Φ : Rs) (v : Kt) (l1 : Int32) (σ : St) : Prop := (¬ (l1 : Int32) = 0 → ((¬ (l1 : Int32) = 1 → ((¬ (l1 : Int32) = 2 → (Φ [aI (σ.1 49 16)] σ)) ∧ ((l1 : Int32) = 2 → (Φ [aI (σ.1 49 15)] σ)))) ∧ ((l1 : Int32) = 1 → (Φ [aI (σ.1 49 14)] σ)))) ∧ ((l1 : Int32) = 0 → (Φ [aI (σ.1 49 13)] σ))
theorem w_X9_told_0 {S : Sp} (hS : Sys S) {Φ : Rs} {v : Kt} (hv : Cl S Φ k_X9_told v) (hw : Wk v) (l1 : Int32) (σ : St) (h : vc_X9_told_0 S Φ v l1 σ) : v 0 [some (aR 49), some (aI l1)] [] σ := by
  unfold vc_X9_told_0 at h
  refine r_iload_n (pc := 0) hv 0 rfl rfl ?_
  refine r_if_ne (pc := 1) hv 1 rfl (fun c => ?_) (fun c => ?_)
  · replace h := h.1 c
    refine r_iload_n (pc := 11) hv 5 rfl rfl ?_
    refine r_iconst (pc := 12) hv 6 rfl  ?_
    refine r_icmp_ne (pc := 13) hv 7 rfl (fun c => ?_) (fun c => ?_)
    · replace h := h.1 c
      refine r_iload_n (pc := 23) hv 11 rfl rfl ?_
      refine r_iconst (pc := 24) hv 12 rfl  ?_
      refine r_icmp_ne (pc := 25) hv 13 rfl (fun c => ?_) (fun c => ?_)
      · replace h := h.1 c
        refine r_aload_n (pc := 35) hv 17 rfl rfl ?_
        refine r_getI (pc := 36) hv 18 rfl rfl rfl ?_
        exact r_ireturn (pc := 39) hv 19 rfl rfl h
      · replace h := h.2 c
        refine r_aload_n (pc := 28) hv 14 rfl rfl ?_
        refine r_getI (pc := 29) hv 15 rfl rfl rfl ?_
        refine r_goto (pc := 32) hv 16 rfl  ?_
        exact r_ireturn (pc := 39) hv 19 rfl rfl h
    · replace h := h.2 c
      refine r_aload_n (pc := 16) hv 8 rfl rfl ?_
      refine r_getI (pc := 17) hv 9 rfl rfl rfl ?_
      refine r_goto (pc := 20) hv 10 rfl  ?_
      exact r_ireturn (pc := 39) hv 19 rfl rfl h
  · replace h := h.2 c
    refine r_aload_n (pc := 4) hv 2 rfl rfl ?_
    refine r_getI (pc := 5) hv 3 rfl rfl rfl ?_
    refine r_goto (pc := 8) hv 4 rfl  ?_
    exact r_ireturn (pc := 39) hv 19 rfl rfl h
theorem m_X9_told {S : Sp} (hS : Sys S) {l1 : Int32} {σ : St} {Φ : Rs} (h : ∀ v : Kt, Cl S Φ k_X9_told v → Wk v → vc_X9_told_0 S Φ v l1 σ) : S 197 [aR 49, aI l1] σ Φ :=
  hS.2 197 M_X9_told k_X9_told _ _ _ mkt_X9_told (Nat.le_of_ble_eq_true rfl) (fun v hv hw => w_X9_told_0 hS hv hw   l1 σ (h v hv hw))
