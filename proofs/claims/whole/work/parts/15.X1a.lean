def vc_X1_rock_0 (S : Sp) (Φ : Rs) (v : Kt) (l0 : Int32) (l1 : Int32) (σ : St) : Prop := (¬ (l0 : Int32) = 5 → (S 16 [aI l0, aI 2] σ (fun r σ1 => ∃ x2 : Int32, r = [aI x2] ∧ (((x2 : Int32) = 0 → (Φ [aI (4 * l1)] σ1)) ∧ (¬ ((x2 : Int32) = 0) → (Φ [aI (5 * l1)] σ1)))))) ∧ ((l0 : Int32) = 5 → (Φ [aI 0] σ))
theorem w_X1_rock_0 {S : Sp} (hS : Sys S) {Φ : Rs} {v : Kt} (hv : Cl S Φ k_X1_rock v) (hw : Wk v) (l0 : Int32) (l1 : Int32) (σ : St) (h : vc_X1_rock_0 S Φ v l0 l1 σ) : v 0 [some (aI l0), some (aI l1)] [] σ := by
  unfold vc_X1_rock_0 at h
  refine r_iload_n (pc := 0) hv 0 rfl rfl ?_
  refine r_iconst (pc := 1) hv 1 rfl  ?_
  refine r_icmp_ne (pc := 2) hv 2 rfl (fun c => ?_) (fun c => ?_)
  · replace h := h.1 c
    refine r_iload_n (pc := 7) hv 5 rfl rfl ?_
    refine r_iconst (pc := 8) hv 6 rfl  ?_
    refine r_callS (pc := 9) (l := [aI 2, aI l0]) (av := [aI l0, aI 2]) (t := []) hv 7 rfl (Or.inl rfl) rfl rfl rfl trivial (hS.1 _ _ _ _ _ (fun r σ1 h => ?_) h)
    obtain ⟨x2, rfl, h⟩ := h
    show v 12 [some (aI l0), some (aI l1)] [aI x2] σ1
    refine r_if_eq (pc := 12) hv 8 rfl (fun c => ?_) (fun c => ?_)
    · replace h := h.1 c
      refine r_iconst (pc := 21) hv 13 rfl  ?_
      refine r_iload_n (pc := 22) hv 14 rfl rfl ?_
      refine r_imul (pc := 23) hv 15 rfl  ?_
      exact r_ireturn (pc := 24) hv 16 rfl rfl h
    · replace h := h.2 c
      refine r_iconst (pc := 15) hv 9 rfl  ?_
      refine r_iload_n (pc := 16) hv 10 rfl rfl ?_
      refine r_imul (pc := 17) hv 11 rfl  ?_
      refine r_goto (pc := 18) hv 12 rfl  ?_
      exact r_ireturn (pc := 24) hv 16 rfl rfl h
  · replace h := h.2 c
    refine r_iconst (pc := 5) hv 3 rfl  ?_
    exact r_ireturn (pc := 6) hv 4 rfl rfl h
theorem m_X1_rock {S : Sp} (hS : Sys S) {l0 : Int32} {l1 : Int32} {σ : St} {Φ : Rs} (h : ∀ v : Kt, Cl S Φ k_X1_rock v → Wk v → vc_X1_rock_0 S Φ v l0 l1 σ) : S 19 [aI l0, aI l1] σ Φ :=
  hS.2 19 M_X1_rock k_X1_rock _ _ _ mkt_X1_rock (Nat.le_of_ble_eq_true rfl) (fun v hv hw => w_X1_rock_0 hS hv hw   l0 l1 σ (h v hv hw))
def vc_X1_made_74 (S : Sp) (Φ : Rs) (v : Kt) (l0 : Int32) (l1 : Int32) (l2 : Int32) (l3 : Int32) (σ : St) : Prop := (¬ (l1 : Int32) = 5 → (Φ [aI l3] σ)) ∧ ((l1 : Int32) = 5 → ((¬ (l2 : Int32) = 1 → (Φ [aI l3] σ)) ∧ ((l2 : Int32) = 1 → (Φ [aI ((l3 * 10) + 9)] σ))))
theorem w_X1_made_74 {S : Sp} (hS : Sys S) {Φ : Rs} {v : Kt} (hv : Cl S Φ k_X1_made v) (hw : Wk v) (l0 : Int32) (l1 : Int32) (l2 : Int32) (l3 : Int32) (σ : St) (h : vc_X1_made_74 S Φ v l0 l1 l2 l3 σ) : v 74 [some (aI l0), some (aI l1), some (aI l2), some (aI l3)] [] σ := by
  unfold vc_X1_made_74 at h
  refine r_iload_n (pc := 74) hv 52 rfl rfl ?_
  refine r_iconst (pc := 75) hv 53 rfl  ?_
  refine r_icmp_ne (pc := 76) hv 54 rfl (fun c => ?_) (fun c => ?_)
  · replace h := h.1 c
    refine r_iload_n (pc := 92) hv 64 rfl rfl ?_
    exact r_ireturn (pc := 93) hv 65 rfl rfl h
  · replace h := h.2 c
    refine r_iload_n (pc := 79) hv 55 rfl rfl ?_
    refine r_iconst (pc := 80) hv 56 rfl  ?_
    refine r_icmp_ne (pc := 81) hv 57 rfl (fun c => ?_) (fun c => ?_)
    · replace h := h.1 c
      refine r_iload_n (pc := 92) hv 64 rfl rfl ?_
      exact r_ireturn (pc := 93) hv 65 rfl rfl h
    · replace h := h.2 c
      refine r_iload_n (pc := 84) hv 58 rfl rfl ?_
      refine r_bipush (pc := 85) hv 59 rfl  ?_
      refine r_imul (pc := 87) hv 60 rfl  ?_
      refine r_bipush (pc := 88) hv 61 rfl  ?_
      refine r_iadd (pc := 90) hv 62 rfl  ?_
      refine r_istore_n (pc := 91) (lo' := [some (aI l0), some (aI l1), some (aI l2), some (aI ((l3 * 10) + 9))]) hv 63 rfl rfl ?_
      refine r_iload_n (pc := 92) hv 64 rfl rfl ?_
      exact r_ireturn (pc := 93) hv 65 rfl rfl h
def vc_X1_made_61 (S : Sp) (Φ : Rs) (v : Kt) (l0 : Int32) (l1 : Int32) (l2 : Int32) (l3 : Int32) (σ : St) : Prop := (¬ (l1 : Int32) = 5 → (vc_X1_made_74 S Φ v  l0 l1 l2 l3 σ)) ∧ ((l1 : Int32) = 5 → (vc_X1_made_74 S Φ v  l0 l1 l2 ((l3 * 10) + 8) σ))
theorem w_X1_made_61 {S : Sp} (hS : Sys S) {Φ : Rs} {v : Kt} (hv : Cl S Φ k_X1_made v) (hw : Wk v) (l0 : Int32) (l1 : Int32) (l2 : Int32) (l3 : Int32) (σ : St) (h : vc_X1_made_61 S Φ v l0 l1 l2 l3 σ) : v 61 [some (aI l0), some (aI l1), some (aI l2), some (aI l3)] [] σ := by
  unfold vc_X1_made_61 at h
  refine r_iload_n (pc := 61) hv 43 rfl rfl ?_
  refine r_iconst (pc := 62) hv 44 rfl  ?_
  refine r_icmp_ne (pc := 63) hv 45 rfl (fun c => ?_) (fun c => ?_)
  · replace h := h.1 c
    exact (w_X1_made_74 hS hv hw   l0 l1 l2 l3  σ h)
  · replace h := h.2 c
    refine r_iload_n (pc := 66) hv 46 rfl rfl ?_
    refine r_bipush (pc := 67) hv 47 rfl  ?_
    refine r_imul (pc := 69) hv 48 rfl  ?_
    refine r_bipush (pc := 70) hv 49 rfl  ?_
    refine r_iadd (pc := 72) hv 50 rfl  ?_
    refine r_istore_n (pc := 73) (lo' := [some (aI l0), some (aI l1), some (aI l2), some (aI ((l3 * 10) + 8))]) hv 51 rfl rfl ?_
    exact (w_X1_made_74 hS hv hw   l0 l1 l2 ((l3 * 10) + 8)  σ h)
def vc_X1_made_45 (S : Sp) (Φ : Rs) (v : Kt) (l0 : Int32) (l1 : Int32) (l2 : Int32) (l3 : Int32) (σ : St) : Prop := S 16 [aI l1, aI 4] σ (fun r σ1 => ∃ x2 : Int32, r = [aI x2] ∧ (((x2 : Int32) = 0 → (vc_X1_made_61 S Φ v  l0 l1 l2 l3 σ1)) ∧ (¬ ((x2 : Int32) = 0) → (vc_X1_made_61 S Φ v  l0 l1 l2 ((l3 * 10) + 7) σ1))))
theorem w_X1_made_45 {S : Sp} (hS : Sys S) {Φ : Rs} {v : Kt} (hv : Cl S Φ k_X1_made v) (hw : Wk v) (l0 : Int32) (l1 : Int32) (l2 : Int32) (l3 : Int32) (σ : St) (h : vc_X1_made_45 S Φ v l0 l1 l2 l3 σ) : v 45 [some (aI l0), some (aI l1), some (aI l2), some (aI l3)] [] σ := by
  unfold vc_X1_made_45 at h
  refine r_iload_n (pc := 45) hv 33 rfl rfl ?_
  refine r_iconst (pc := 46) hv 34 rfl  ?_
  refine r_callS (pc := 47) (l := [aI 4, aI l1]) (av := [aI l1, aI 4]) (t := []) hv 35 rfl (Or.inl rfl) rfl rfl rfl trivial (hS.1 _ _ _ _ _ (fun r σ1 h => ?_) h)
  obtain ⟨x2, rfl, h⟩ := h
  show v 50 [some (aI l0), some (aI l1), some (aI l2), some (aI l3)] [aI x2] σ1
  refine r_if_eq (pc := 50) hv 36 rfl (fun c => ?_) (fun c => ?_)
  · replace h := h.1 c
    exact (w_X1_made_61 hS hv hw   l0 l1 l2 l3  σ1 h)
  · replace h := h.2 c
    refine r_iload_n (pc := 53) hv 37 rfl rfl ?_
    refine r_bipush (pc := 54) hv 38 rfl  ?_
    refine r_imul (pc := 56) hv 39 rfl  ?_
    refine r_bipush (pc := 57) hv 40 rfl  ?_
    refine r_iadd (pc := 59) hv 41 rfl  ?_
    refine r_istore_n (pc := 60) (lo' := [some (aI l0), some (aI l1), some (aI l2), some (aI ((l3 * 10) + 7))]) hv 42 rfl rfl ?_
    exact (w_X1_made_61 hS hv hw   l0 l1 l2 ((l3 * 10) + 7)  σ1 h)
def vc_X1_made_32 (S : Sp) (Φ : Rs) (v : Kt) (l0 : Int32) (l1 : Int32) (l2 : Int32) (l3 : Int32) (σ : St) : Prop := (¬ (l1 : Int32) = 3 → (vc_X1_made_45 S Φ v  l0 l1 l2 l3 σ)) ∧ ((l1 : Int32) = 3 → (vc_X1_made_45 S Φ v  l0 l1 l2 ((l3 * 10) + 6) σ))
theorem w_X1_made_32 {S : Sp} (hS : Sys S) {Φ : Rs} {v : Kt} (hv : Cl S Φ k_X1_made v) (hw : Wk v) (l0 : Int32) (l1 : Int32) (l2 : Int32) (l3 : Int32) (σ : St) (h : vc_X1_made_32 S Φ v l0 l1 l2 l3 σ) : v 32 [some (aI l0), some (aI l1), some (aI l2), some (aI l3)] [] σ := by
  unfold vc_X1_made_32 at h
  refine r_iload_n (pc := 32) hv 24 rfl rfl ?_
  refine r_iconst (pc := 33) hv 25 rfl  ?_
  refine r_icmp_ne (pc := 34) hv 26 rfl (fun c => ?_) (fun c => ?_)
  · replace h := h.1 c
    exact (w_X1_made_45 hS hv hw   l0 l1 l2 l3  σ h)
  · replace h := h.2 c
    refine r_iload_n (pc := 37) hv 27 rfl rfl ?_
    refine r_bipush (pc := 38) hv 28 rfl  ?_
    refine r_imul (pc := 40) hv 29 rfl  ?_
    refine r_bipush (pc := 41) hv 30 rfl  ?_
    refine r_iadd (pc := 43) hv 31 rfl  ?_
    refine r_istore_n (pc := 44) (lo' := [some (aI l0), some (aI l1), some (aI l2), some (aI ((l3 * 10) + 6))]) hv 32 rfl rfl ?_
    exact (w_X1_made_45 hS hv hw   l0 l1 l2 ((l3 * 10) + 6)  σ h)
def vc_X1_made_13 (S : Sp) (Φ : Rs) (v : Kt) (l0 : Int32) (l1 : Int32) (l2 : Int32) (l3 : Int32) (σ : St) : Prop := ((l1 : Int32) = 0 → (vc_X1_made_32 S Φ v  l0 l1 l2 ((l3 * 10) + 3) σ)) ∧ (¬ ((l1 : Int32) = 0) → (vc_X1_made_32 S Φ v  l0 l1 l2 ((((l3 * 10) + 3) * 100) + 45) σ))
theorem w_X1_made_13 {S : Sp} (hS : Sys S) {Φ : Rs} {v : Kt} (hv : Cl S Φ k_X1_made v) (hw : Wk v) (l0 : Int32) (l1 : Int32) (l2 : Int32) (l3 : Int32) (σ : St) (h : vc_X1_made_13 S Φ v l0 l1 l2 l3 σ) : v 13 [some (aI l0), some (aI l1), some (aI l2), some (aI l3)] [] σ := by
  unfold vc_X1_made_13 at h
  refine r_iload_n (pc := 13) hv 10 rfl rfl ?_
  refine r_bipush (pc := 14) hv 11 rfl  ?_
  refine r_imul (pc := 16) hv 12 rfl  ?_
  refine r_iconst (pc := 17) hv 13 rfl  ?_
  refine r_iadd (pc := 18) hv 14 rfl  ?_
  refine r_istore_n (pc := 19) (lo' := [some (aI l0), some (aI l1), some (aI l2), some (aI ((l3 * 10) + 3))]) hv 15 rfl rfl ?_
  refine r_iload_n (pc := 20) hv 16 rfl rfl ?_
  refine r_if_eq (pc := 21) hv 17 rfl (fun c => ?_) (fun c => ?_)
  · replace h := h.1 c
    exact (w_X1_made_32 hS hv hw   l0 l1 l2 ((l3 * 10) + 3)  σ h)
  · replace h := h.2 c
    refine r_iload_n (pc := 24) hv 18 rfl rfl ?_
    refine r_bipush (pc := 25) hv 19 rfl  ?_
    refine r_imul (pc := 27) hv 20 rfl  ?_
    refine r_bipush (pc := 28) hv 21 rfl  ?_
    refine r_iadd (pc := 30) hv 22 rfl  ?_
    refine r_istore_n (pc := 31) (lo' := [some (aI l0), some (aI l1), some (aI l2), some (aI ((((l3 * 10) + 3) * 100) + 45))]) hv 23 rfl rfl ?_
    exact (w_X1_made_32 hS hv hw   l0 l1 l2 ((((l3 * 10) + 3) * 100) + 45)  σ h)
def vc_X1_made_0 (S : Sp) (Φ : Rs) (v : Kt) (l0 : Int32) (l1 : Int32) (l2 : Int32) (σ : St) : Prop := (¬ (l0 : Int32) = 0 → (vc_X1_made_13 S Φ v  l0 l1 l2 1 σ)) ∧ ((l0 : Int32) = 0 → (vc_X1_made_13 S Φ v  l0 l1 l2 ((1 * 10) + 2) σ))
theorem w_X1_made_0 {S : Sp} (hS : Sys S) {Φ : Rs} {v : Kt} (hv : Cl S Φ k_X1_made v) (hw : Wk v) (l0 : Int32) (l1 : Int32) (l2 : Int32) (σ : St) (h : vc_X1_made_0 S Φ v l0 l1 l2 σ) : v 0 [some (aI l0), some (aI l1), some (aI l2), none] [] σ := by
  unfold vc_X1_made_0 at h
  refine r_iconst (pc := 0) hv 0 rfl  ?_
  refine r_istore_n (pc := 1) (lo' := [some (aI l0), some (aI l1), some (aI l2), some (aI 1)]) hv 1 rfl rfl ?_
  refine r_iload_n (pc := 2) hv 2 rfl rfl ?_
  refine r_if_ne (pc := 3) hv 3 rfl (fun c => ?_) (fun c => ?_)
  · replace h := h.1 c
    exact (w_X1_made_13 hS hv hw   l0 l1 l2 1  σ h)
  · replace h := h.2 c
    refine r_iload_n (pc := 6) hv 4 rfl rfl ?_
    refine r_bipush (pc := 7) hv 5 rfl  ?_
    refine r_imul (pc := 9) hv 6 rfl  ?_
    refine r_iconst (pc := 10) hv 7 rfl  ?_
    refine r_iadd (pc := 11) hv 8 rfl  ?_
    refine r_istore_n (pc := 12) (lo' := [some (aI l0), some (aI l1), some (aI l2), some (aI ((1 * 10) + 2))]) hv 9 rfl rfl ?_
    exact (w_X1_made_13 hS hv hw   l0 l1 l2 ((1 * 10) + 2)  σ h)
theorem m_X1_made {S : Sp} (hS : Sys S) {l0 : Int32} {l1 : Int32} {l2 : Int32} {σ : St} {Φ : Rs} (h : ∀ v : Kt, Cl S Φ k_X1_made v → Wk v → vc_X1_made_0 S Φ v l0 l1 l2 σ) : S 21 [aI l0, aI l1, aI l2] σ Φ :=
  hS.2 21 M_X1_made k_X1_made _ _ _ mkt_X1_made (Nat.le_of_ble_eq_true rfl) (fun v hv hw => w_X1_made_0 hS hv hw   l0 l1 l2 σ (h v hv hw))
def vc_X1_word_0 (S : Sp) (Φ : Rs) (v : Kt) (l0 : Int32) (σ : St) : Prop := ((l0 : Int32) = 0 → (Φ [aR 200] σ)) ∧ (¬ ((l0 : Int32) = 0) → (((l0 : Int32) = 1 → (Φ [aR 209] σ)) ∧ (¬ ((l0 : Int32) = 1) → (((l0 : Int32) = 2 → (Φ [aR 210] σ)) ∧ (¬ ((l0 : Int32) = 2) → (((l0 : Int32) = 3 → (Φ [aR 211] σ)) ∧ (¬ ((l0 : Int32) = 3) → (((l0 : Int32) = 4 → (Φ [aR 212] σ)) ∧ (¬ ((l0 : Int32) = 4) → (Φ [aR 213] σ))))))))))
theorem w_X1_word_0 {S : Sp} (hS : Sys S) {Φ : Rs} {v : Kt} (hv : Cl S Φ k_X1_word v) (hw : Wk v) (l0 : Int32) (σ : St) (h : vc_X1_word_0 S Φ v l0 σ) : v 0 [some (aI l0)] [] σ := by
  unfold vc_X1_word_0 at h
  refine r_iload_n (pc := 0) hv 0 rfl rfl ?_
  refine r_tab (pc := 1) hv 1 rfl ?_
  refine ⟨fun c => ?_, fun c => ?_⟩
  · replace h := h.1 c
    show v 36 [some (aI l0)] [] σ
    refine r_ldcS (pc := 36) hv 2 rfl rfl ?_
    exact r_areturn (pc := 38) hv 3 rfl h
  · replace h := h.2 c
    refine ⟨fun c => ?_, fun c => ?_⟩
    · replace h := h.1 c
      show v 39 [some (aI l0)] [] σ
      refine r_ldcS (pc := 39) hv 4 rfl rfl ?_
      exact r_areturn (pc := 41) hv 5 rfl h
    · replace h := h.2 c
      refine ⟨fun c => ?_, fun c => ?_⟩
      · replace h := h.1 c
        show v 42 [some (aI l0)] [] σ
        refine r_ldcS (pc := 42) hv 6 rfl rfl ?_
        exact r_areturn (pc := 44) hv 7 rfl h
      · replace h := h.2 c
        refine ⟨fun c => ?_, fun c => ?_⟩
        · replace h := h.1 c
          show v 45 [some (aI l0)] [] σ
          refine r_ldcS (pc := 45) hv 8 rfl rfl ?_
          exact r_areturn (pc := 47) hv 9 rfl h
        · replace h := h.2 c
          refine ⟨fun c => ?_, fun c => ?_⟩
          · replace h := h.1 c
            show v 48 [some (aI l0)] [] σ
            refine r_ldcS (pc := 48) hv 10 rfl rfl ?_
            exact r_areturn (pc := 50) hv 11 rfl h
          · replace h := h.2 c
            show v 51 [some (aI l0)] [] σ
            refine r_ldcS (pc := 51) hv 12 rfl rfl ?_
            exact r_areturn (pc := 53) hv 13 rfl h
theorem m_X1_word {S : Sp} (hS : Sys S) {l0 : Int32} {σ : St} {Φ : Rs} (h : ∀ v : Kt, Cl S Φ k_X1_word v → Wk v → vc_X1_word_0 S Φ v l0 σ) : S 22 [aI l0] σ Φ :=
  hS.2 22 M_X1_word k_X1_word _ _ _ mkt_X1_word (Nat.le_of_ble_eq_true rfl) (fun v hv hw => w_X1_word_0 hS hv hw   l0 σ (h v hv hw))
