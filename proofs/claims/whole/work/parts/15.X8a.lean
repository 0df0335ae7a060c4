def vc_X8_hole_0 (S : Sp) (Φ : Rs) (v : Kt) (l1 : Int32) (l2 : Int32) (l3 : Int32) (l4 : Int32) (l5 : Int32) (l6 : Int32) (σ : St) : Prop := S 29 [aR 1, aI l1, aI l2, aI l3, aI l4, aI l5, aI l6] σ (fun r σ1 => ∃ x2 : Int32, r = [aI x2] ∧ (S 129 [aR 0, aI x2] σ1 (fun r σ3 => ∃ x4 : Int32, r = [aI x4] ∧ (Φ [aI x4] σ3))))
theorem w_X8_hole_0 {S : Sp} (hS : Sys S) {Φ : Rs} {v : Kt} (hv : Cl S Φ k_X8_hole v) (hw : Wk v) (l1 : Int32) (l2 : Int32) (l3 : Int32) (l4 : Int32) (l5 : Int32) (l6 : Int32) (σ : St) (h : vc_X8_hole_0 S Φ v l1 l2 l3 l4 l5 l6 σ) : v 0 [some (aR 0), some (aI l1), some (aI l2), some (aI l3), some (aI l4), some (aI l5), some (aI l6)] [] σ := by
  unfold vc_X8_hole_0 at h
  refine r_aload_n (pc := 0) hv 0 rfl rfl ?_
  refine r_aload_n (pc := 1) hv 1 rfl rfl ?_
  refine r_getR (pc := 2) (b := 1) hv 2 rfl rfl rfl rfl ?_
  refine r_iload_n (pc := 5) hv 3 rfl rfl ?_
  refine r_iload_n (pc := 6) hv 4 rfl rfl ?_
  refine r_iload_n (pc := 7) hv 5 rfl rfl ?_
  refine r_iload (pc := 8) hv 6 rfl rfl ?_
  refine r_iload (pc := 10) hv 7 rfl rfl ?_
  refine r_iload (pc := 12) hv 8 rfl rfl ?_
  refine r_callV (pc := 14) (l := [aI l6, aI l5, aI l4, aI l3, aI l2, aI l1]) (av := [aI l1, aI l2, aI l3, aI l4, aI l5, aI l6]) (a := 1) (t := [aR 0]) hv 9 rfl rfl rfl rfl (rcv_o (by decide) rfl) trivial (hS.1 _ _ _ _ _ (fun r σ1 h => ?_) h)
  obtain ⟨x2, rfl, h⟩ := h
  show v 17 [some (aR 0), some (aI l1), some (aI l2), some (aI l3), some (aI l4), some (aI l5), some (aI l6)] [aI x2, aR 0] σ1
  refine r_callV (pc := 17) (l := [aI x2]) (av := [aI x2]) (a := 0) (t := []) hv 10 rfl rfl rfl rfl (rcv_o (by decide) rfl) trivial (hS.1 _ _ _ _ _ (fun r σ3 h => ?_) h)
  obtain ⟨x4, rfl, h⟩ := h
  show v 20 [some (aR 0), some (aI l1), some (aI l2), some (aI l3), some (aI l4), some (aI l5), some (aI l6)] [aI x4] σ3
  exact r_ireturn (pc := 20) hv 11 rfl rfl h
theorem m_X8_hole {S : Sp} (hS : Sys S) {l1 : Int32} {l2 : Int32} {l3 : Int32} {l4 : Int32} {l5 : Int32} {l6 : Int32} {σ : St} {Φ : Rs} (h : ∀ v : Kt, Cl S Φ k_X8_hole v → Wk v → vc_X8_hole_0 S Φ v l1 l2 l3 l4 l5 l6 σ) : S 91 [aR 0, aI l1, aI l2, aI l3, aI l4, aI l5, aI l6] σ Φ :=
  hS.2 91 M_X8_hole k_X8_hole _ _ _ mkt_X8_hole (Nat.le_of_ble_eq_true rfl) (fun v hv hw => w_X8_hole_0 hS hv hw   l1 l2 l3 l4 l5 l6 σ (h v hv hw))
def vc_X8_of_33 (S : Sp) (Φ : Rs) (v : Kt) (l1 : Int32) (l2 : Int32) (σ : St) : Prop := ((l2 : Int32) = 7 → (S 43 [aR 1, aI l1] σ (fun r σ1 => ∃ x2 : Int32, r = [aI x2] ∧ (Φ [aI x2] σ1)))) ∧ (¬ ((l2 : Int32) = 7) → (((l2 : Int32) = 8 → (S 45 [aR 1, aI l1] σ (fun r σ3 => ∃ x4 : Int32, r = [aI x4] ∧ (Φ [aI x4] σ3)))) ∧ (¬ ((l2 : Int32) = 8) → (((l2 : Int32) = 9 → (S 46 [aR 1, aI l1] σ (fun r σ5 => ∃ x6 : Int32, r = [aI x6] ∧ (Φ [aI x6] σ5)))) ∧ (¬ ((l2 : Int32) = 9) → (((l2 : Int32) = 10 → (vp_in (l1 * 9 + 7) 180 ∧ (Φ [aI (σ.1 2 (l1 * 9 + 7 : Int32).toNatClampNeg)] σ))) ∧ (¬ ((l2 : Int32) = 10) → (((l2 : Int32) = 11 → (vp_in (l1 * 9 + 8) 180 ∧ (Φ [aI (σ.1 2 (l1 * 9 + 8 : Int32).toNatClampNeg)] σ))) ∧ (¬ ((l2 : Int32) = 11) → (Φ [aI (-1)] σ))))))))))
theorem w_X8_of_33 {S : Sp} (hS : Sys S) {Φ : Rs} {v : Kt} (hv : Cl S Φ k_X8_of v) (hw : Wk v) (l1 : Int32) (l2 : Int32) (σ : St) (h : vc_X8_of_33 S Φ v l1 l2 σ) : v 33 [some (aR 0), some (aI l1), some (aI l2)] [] σ := by
  unfold vc_X8_of_33 at h
  refine r_iload_n (pc := 33) hv 18 rfl rfl ?_
  refine r_tab (pc := 34) hv 19 rfl ?_
  refine ⟨fun c => ?_, fun c => ?_⟩
  · replace h := h.1 c
    show v 68 [some (aR 0), some (aI l1), some (aI l2)] [] σ
    refine r_aload_n (pc := 68) hv 20 rfl rfl ?_
    refine r_getR (pc := 69) (b := 1) hv 21 rfl rfl rfl rfl ?_
    refine r_iload_n (pc := 72) hv 22 rfl rfl ?_
    refine r_callV (pc := 73) (l := [aI l1]) (av := [aI l1]) (a := 1) (t := []) hv 23 rfl rfl rfl rfl (rcv_o (by decide) rfl) trivial (hS.1 _ _ _ _ _ (fun r σ1 h => ?_) h)
    obtain ⟨x2, rfl, h⟩ := h
    show v 76 [some (aR 0), some (aI l1), some (aI l2)] [aI x2] σ1
    exact r_ireturn (pc := 76) hv 24 rfl rfl h
  · replace h := h.2 c
    refine ⟨fun c => ?_, fun c => ?_⟩
    · replace h := h.1 c
      show v 77 [some (aR 0), some (aI l1), some (aI l2)] [] σ
      refine r_aload_n (pc := 77) hv 25 rfl rfl ?_
      refine r_getR (pc := 78) (b := 1) hv 26 rfl rfl rfl rfl ?_
      refine r_iload_n (pc := 81) hv 27 rfl rfl ?_
      refine r_callV (pc := 82) (l := [aI l1]) (av := [aI l1]) (a := 1) (t := []) hv 28 rfl rfl rfl rfl (rcv_o (by decide) rfl) trivial (hS.1 _ _ _ _ _ (fun r σ3 h => ?_) h)
      obtain ⟨x4, rfl, h⟩ := h
      show v 85 [some (aR 0), some (aI l1), some (aI l2)] [aI x4] σ3
      exact r_ireturn (pc := 85) hv 29 rfl rfl h
    · replace h := h.2 c
      refine ⟨fun c => ?_, fun c => ?_⟩
      · replace h := h.1 c
        show v 86 [some (aR 0), some (aI l1), some (aI l2)] [] σ
        refine r_aload_n (pc := 86) hv 30 rfl rfl ?_
        refine r_getR (pc := 87) (b := 1) hv 31 rfl rfl rfl rfl ?_
        refine r_iload_n (pc := 90) hv 32 rfl rfl ?_
        refine r_callV (pc := 91) (l := [aI l1]) (av := [aI l1]) (a := 1) (t := []) hv 33 rfl rfl rfl rfl (rcv_o (by decide) rfl) trivial (hS.1 _ _ _ _ _ (fun r σ5 h => ?_) h)
        obtain ⟨x6, rfl, h⟩ := h
        show v 94 [some (aR 0), some (aI l1), some (aI l2)] [aI x6] σ5
        exact r_ireturn (pc := 94) hv 34 rfl rfl h
      · replace h := h.2 c
        refine ⟨fun c => ?_, fun c => ?_⟩
        · replace h := h.1 c
          show v 95 [some (aR 0), some (aI l1), some (aI l2)] [] σ
          refine r_aload_n (pc := 95) hv 35 rfl rfl ?_
          refine r_getR (pc := 96) (b := 1) hv 36 rfl rfl rfl rfl ?_
          refine r_iload_n (pc := 99) hv 37 rfl rfl ?_
          refine r_bipush (pc := 100) hv 38 rfl  ?_
          refine r_callV (pc := 102) (l := [aI 7, aI l1]) (av := [aI l1, aI 7]) (a := 1) (t := []) hv 39 rfl rfl rfl rfl (rcv_o (by decide) rfl) trivial (t_X2_mark hS isPat_1 h.1 ?_)
          replace h := h.2
          show v 105 [some (aR 0), some (aI l1), some (aI l2)] [aI (σ.1 2 (l1 * 9 + 7 : Int32).toNatClampNeg)] σ
          exact r_ireturn (pc := 105) hv 40 rfl rfl h
        · replace h := h.2 c
          refine ⟨fun c => ?_, fun c => ?_⟩
          · replace h := h.1 c
            show v 106 [some (aR 0), some (aI l1), some (aI l2)] [] σ
            refine r_aload_n (pc := 106) hv 41 rfl rfl ?_
            refine r_getR (pc := 107) (b := 1) hv 42 rfl rfl rfl rfl ?_
            refine r_iload_n (pc := 110) hv 43 rfl rfl ?_
            refine r_bipush (pc := 111) hv 44 rfl  ?_
            refine r_callV (pc := 113) (l := [aI 8, aI l1]) (av := [aI l1, aI 8]) (a := 1) (t := []) hv 45 rfl rfl rfl rfl (rcv_o (by decide) rfl) trivial (t_X2_mark hS isPat_1 h.1 ?_)
            replace h := h.2
            show v 116 [some (aR 0), some (aI l1), some (aI l2)] [aI (σ.1 2 (l1 * 9 + 8 : Int32).toNatClampNeg)] σ
            exact r_ireturn (pc := 116) hv 46 rfl rfl h
          · replace h := h.2 c
            show v 117 [some (aR 0), some (aI l1), some (aI l2)] [] σ
            refine r_iconst (pc := 117) hv 47 rfl  ?_
            exact r_ireturn (pc := 118) hv 48 rfl rfl h
def vc_X8_of_0 (S : Sp) (Φ : Rs) (v : Kt) (l1 : Int32) (l2 : Int32) (σ : St) : Prop := (¬ (b2 (¬ (l1 : Int32) < 0 ∧ ¬ σ.1 1 3 ≤ l1) : Int32) = 0 → (((l2 : Int32) < 0 → (vc_X8_of_33 S Φ v  l1 l2 σ)) ∧ (¬ ((l2 : Int32) < 0) → (((6 : Int32) < l2 → (vc_X8_of_33 S Φ v  l1 l2 σ)) ∧ (¬ ((6 : Int32) < l2) → (vp_in (l1 * 9 + l2) 180 ∧ (Φ [aI (σ.1 2 (l1 * 9 + l2 : Int32).toNatClampNeg)] σ))))))) ∧ ((b2 (¬ (l1 : Int32) < 0 ∧ ¬ σ.1 1 3 ≤ l1) : Int32) = 0 → (Φ [aI (-1)] σ))
theorem w_X8_of_0 {S : Sp} (hS : Sys S) {Φ : Rs} {v : Kt} (hv : Cl S Φ k_X8_of v) (hw : Wk v) (l1 : Int32) (l2 : Int32) (σ : St) (h : vc_X8_of_0 S Φ v l1 l2 σ) : v 0 [some (aR 0), some (aI l1), some (aI l2)] [] σ := by
  unfold vc_X8_of_0 at h
  refine r_aload_n (pc := 0) hv 0 rfl rfl ?_
  refine r_getR (pc := 1) (b := 1) hv 1 rfl rfl rfl rfl ?_
  refine r_iload_n (pc := 4) hv 2 rfl rfl ?_
  refine r_callV (pc := 5) (l := [aI l1]) (av := [aI l1]) (a := 1) (t := []) hv 3 rfl rfl rfl rfl (rcv_o (by decide) rfl) trivial (t_X2_isHole hS isPat_1 ?_)
  show v 8 [some (aR 0), some (aI l1), some (aI l2)] [aI (b2 (¬ (l1 : Int32) < 0 ∧ ¬ σ.1 1 3 ≤ l1))] σ
  refine r_if_ne (pc := 8) hv 4 rfl (fun c => ?_) (fun c => ?_)
  · replace h := h.1 c
    refine r_iload_n (pc := 13) hv 7 rfl rfl ?_
    refine r_if_lt (pc := 14) hv 8 rfl (fun c => ?_) (fun c => ?_)
    · replace h := h.1 c
      exact (w_X8_of_33 hS hv hw   l1 l2  σ h)
    · replace h := h.2 c
      refine r_iload_n (pc := 17) hv 9 rfl rfl ?_
      refine r_bipush (pc := 18) hv 10 rfl  ?_
      refine r_icmp_gt (pc := 20) hv 11 rfl (fun c => ?_) (fun c => ?_)
      · replace h := h.1 c
        exact (w_X8_of_33 hS hv hw   l1 l2  σ h)
      · replace h := h.2 c
        refine r_aload_n (pc := 23) hv 12 rfl rfl ?_
        refine r_getR (pc := 24) (b := 1) hv 13 rfl rfl rfl rfl ?_
        refine r_iload_n (pc := 27) hv 14 rfl rfl ?_
        refine r_iload_n (pc := 28) hv 15 rfl rfl ?_
        refine r_callV (pc := 29) (l := [aI l2, aI l1]) (av := [aI l1, aI l2]) (a := 1) (t := []) hv 16 rfl rfl rfl rfl (rcv_o (by decide) rfl) trivial (t_X2_mark hS isPat_1 h.1 ?_)
        replace h := h.2
        show v 32 [some (aR 0), some (aI l1), some (aI l2)] [aI (σ.1 2 (l1 * 9 + l2 : Int32).toNatClampNeg)] σ
        exact r_ireturn (pc := 32) hv 17 rfl rfl h
  · replace h := h.2 c
    refine r_iconst (pc := 11) hv 5 rfl  ?_
    exact r_ireturn (pc := 12) hv 6 rfl rfl h
theorem m_X8_of {S : Sp} (hS : Sys S) {l1 : Int32} {l2 : Int32} {σ : St} {Φ : Rs} (h : ∀ v : Kt, Cl S Φ k_X8_of v → Wk v → vc_X8_of_0 S Φ v l1 l2 σ) : S 92 [aR 0, aI l1, aI l2] σ Φ :=
  hS.2 92 M_X8_of k_X8_of _ _ _ mkt_X8_of (Nat.le_of_ble_eq_true rfl) (fun v hv hw => w_X8_of_0 hS hv hw   l1 l2 σ (h v hv hw))
def vc_X8_becomes_0 (S : Sp) (Φ : Rs) (v : Kt) (l1 : Int32) (l2 : Int32) (l3 : Int32) (σ : St) : Prop := S 32 [aR 1, aI l1, aI l2, aI l3] σ (fun r σ1 => ∃ x2 : Int32, r = [aI x2] ∧ (S 129 [aR 0, aI x2] σ1 (fun r σ3 => ∃ x4 : Int32, r = [aI x4] ∧ (Φ [aI x4] σ3))))
theorem w_X8_becomes_0 {S : Sp} (hS : Sys S) {Φ : Rs} {v : Kt} (hv : Cl S Φ k_X8_becomes v) (hw : Wk v) (l1 : Int32) (l2 : Int32) (l3 : Int32) (σ : St) (h : vc_X8_becomes_0 S Φ v l1 l2 l3 σ) : v 0 [some (aR 0), some (aI l1), some (aI l2), some (aI l3)] [] σ := by
  unfold vc_X8_becomes_0 at h
  refine r_aload_n (pc := 0) hv 0 rfl rfl ?_
  refine r_aload_n (pc := 1) hv 1 rfl rfl ?_
  refine r_getR (pc := 2) (b := 1) hv 2 rfl rfl rfl rfl ?_
  refine r_iload_n (pc := 5) hv 3 rfl rfl ?_
  refine r_iload_n (pc := 6) hv 4 rfl rfl ?_
  refine r_iload_n (pc := 7) hv 5 rfl rfl ?_
  refine r_callV (pc := 8) (l := [aI l3, aI l2, aI l1]) (av := [aI l1, aI l2, aI l3]) (a := 1) (t := [aR 0]) hv 6 rfl rfl rfl rfl (rcv_o (by decide) rfl) trivial (hS.1 _ _ _ _ _ (fun r σ1 h => ?_) h)
  obtain ⟨x2, rfl, h⟩ := h
  show v 11 [some (aR 0), some (aI l1), some (aI l2), some (aI l3)] [aI x2, aR 0] σ1
  refine r_callV (pc := 11) (l := [aI x2]) (av := [aI x2]) (a := 0) (t := []) hv 7 rfl rfl rfl rfl (rcv_o (by decide) rfl) trivial (hS.1 _ _ _ _ _ (fun r σ3 h => ?_) h)
  obtain ⟨x4, rfl, h⟩ := h
  show v 14 [some (aR 0), some (aI l1), some (aI l2), some (aI l3)] [aI x4] σ3
  exact r_ireturn (pc := 14) hv 8 rfl rfl h
theorem m_X8_becomes {S : Sp} (hS : Sys S) {l1 : Int32} {l2 : Int32} {l3 : Int32} {σ : St} {Φ : Rs} (h : ∀ v : Kt, Cl S Φ k_X8_becomes v → Wk v → vc_X8_becomes_0 S Φ v l1 l2 l3 σ) : S 93 [aR 0, aI l1, aI l2, aI l3] σ Φ :=
  hS.2 93 M_X8_becomes k_X8_becomes _ _ _ mkt_X8_becomes (Nat.le_of_ble_eq_true rfl) (fun v hv hw => w_X8_becomes_0 hS hv hw   l1 l2 l3 σ (h v hv hw))
def vc_X8_taken_0 (S : Sp) (Φ : Rs) (v : Kt) (l1 : Int32) (l2 : Int32) (σ : St) : Prop := (¬ (b2 (¬ (l1 : Int32) < 0 ∧ ¬ σ.1 1 3 ≤ l1) : Int32) = 0 → ((¬ (b2 (¬ (2 : Int32) < 0 ∧ ¬ 6 < (2 : Int32) ∧ ¬ (l2 : Int32) < sv 101 (2 : Int32).toNatClampNeg ∧ ¬ sv 102 (2 : Int32).toNatClampNeg < (l2 : Int32)) : Int32) = 0 → (vp_in (l1 * 9 + 2) 180 ∧ (S 16 [aI (σ.1 2 (l1 * 9 + 2 : Int32).toNatClampNeg), aI l2] σ (fun r σ1 => ∃ x2 : Int32, r = [aI x2] ∧ ((¬ (x2 : Int32) = 0 → (S 43 [aR 1, aI l1] σ1 (fun r σ3 => ∃ x4 : Int32, r = [aI x4] ∧ (Φ [aI x4] σ3)))) ∧ ((x2 : Int32) = 0 → (Φ [aI (-3)] σ1))))))) ∧ ((b2 (¬ (2 : Int32) < 0 ∧ ¬ 6 < (2 : Int32) ∧ ¬ (l2 : Int32) < sv 101 (2 : Int32).toNatClampNeg ∧ ¬ sv 102 (2 : Int32).toNatClampNeg < (l2 : Int32)) : Int32) = 0 → (Φ [aI (-2)] σ)))) ∧ ((b2 (¬ (l1 : Int32) < 0 ∧ ¬ σ.1 1 3 ≤ l1) : Int32) = 0 → (Φ [aI (-1)] σ))
theorem w_X8_taken_0 {S : Sp} (hS : Sys S) {Φ : Rs} {v : Kt} (hv : Cl S Φ k_X8_taken v) (hw : Wk v) (l1 : Int32) (l2 : Int32) (σ : St) (h : vc_X8_taken_0 S Φ v l1 l2 σ) : v 0 [some (aR 0), some (aI l1), some (aI l2)] [] σ := by
  unfold vc_X8_taken_0 at h
  refine r_aload_n (pc := 0) hv 0 rfl rfl ?_
  refine r_getR (pc := 1) (b := 1) hv 1 rfl rfl rfl rfl ?_
  refine r_iload_n (pc := 4) hv 2 rfl rfl ?_
  refine r_callV (pc := 5) (l := [aI l1]) (av := [aI l1]) (a := 1) (t := []) hv 3 rfl rfl rfl rfl (rcv_o (by decide) rfl) trivial (t_X2_isHole hS isPat_1 ?_)
  show v 8 [some (aR 0), some (aI l1), some (aI l2)] [aI (b2 (¬ (l1 : Int32) < 0 ∧ ¬ σ.1 1 3 ≤ l1))] σ
  refine r_if_ne (pc := 8) hv 4 rfl (fun c => ?_) (fun c => ?_)
  · replace h := h.1 c
    refine r_iconst (pc := 13) hv 7 rfl  ?_
    refine r_iload_n (pc := 14) hv 8 rfl rfl ?_
    refine r_callS (pc := 15) (l := [aI l2, aI 2]) (av := [aI 2, aI l2]) (t := []) hv 9 rfl (Or.inl rfl) rfl rfl rfl trivial (t_X2_fits hS ?_)
    show v 18 [some (aR 0), some (aI l1), some (aI l2)] [aI (b2 (¬ (2 : Int32) < 0 ∧ ¬ 6 < (2 : Int32) ∧ ¬ (l2 : Int32) < sv 101 (2 : Int32).toNatClampNeg ∧ ¬ sv 102 (2 : Int32).toNatClampNeg < (l2 : Int32)))] σ
    refine r_if_ne (pc := 18) hv 10 rfl (fun c => ?_) (fun c => ?_)
    · replace h := h.1 c
      refine r_aload_n (pc := 24) hv 13 rfl rfl ?_
      refine r_getR (pc := 25) (b := 1) hv 14 rfl rfl rfl rfl ?_
      refine r_iload_n (pc := 28) hv 15 rfl rfl ?_
      refine r_iconst (pc := 29) hv 16 rfl  ?_
      refine r_callV (pc := 30) (l := [aI 2, aI l1]) (av := [aI l1, aI 2]) (a := 1) (t := []) hv 17 rfl rfl rfl rfl (rcv_o (by decide) rfl) trivial (t_X2_mark hS isPat_1 h.1 ?_)
      replace h := h.2
      show v 33 [some (aR 0), some (aI l1), some (aI l2)] [aI (σ.1 2 (l1 * 9 + 2 : Int32).toNatClampNeg)] σ
      refine r_iload_n (pc := 33) hv 18 rfl rfl ?_
      refine r_callS (pc := 34) (l := [aI l2, aI (σ.1 2 (l1 * 9 + 2 : Int32).toNatClampNeg)]) (av := [aI (σ.1 2 (l1 * 9 + 2 : Int32).toNatClampNeg), aI l2]) (t := []) hv 19 rfl (Or.inl rfl) rfl rfl rfl trivial (hS.1 _ _ _ _ _ (fun r σ1 h => ?_) h)
      obtain ⟨x2, rfl, h⟩ := h
      show v 37 [some (aR 0), some (aI l1), some (aI l2)] [aI x2] σ1
      refine r_if_ne (pc := 37) hv 20 rfl (fun c => ?_) (fun c => ?_)
      · replace h := h.1 c
        refine r_aload_n (pc := 43) hv 23 rfl rfl ?_
        refine r_getR (pc := 44) (b := 1) hv 24 rfl rfl rfl rfl ?_
        refine r_iload_n (pc := 47) hv 25 rfl rfl ?_
        refine r_callV (pc := 48) (l := [aI l1]) (av := [aI l1]) (a := 1) (t := []) hv 26 rfl rfl rfl rfl (rcv_o (by decide) rfl) trivial (hS.1 _ _ _ _ _ (fun r σ3 h => ?_) h)
        obtain ⟨x4, rfl, h⟩ := h
        show v 51 [some (aR 0), some (aI l1), some (aI l2)] [aI x4] σ3
        exact r_ireturn (pc := 51) hv 27 rfl rfl h
      · replace h := h.2 c
        refine r_bipush (pc := 40) hv 21 rfl  ?_
        exact r_ireturn (pc := 42) hv 22 rfl rfl h
    · replace h := h.2 c
      refine r_bipush (pc := 21) hv 11 rfl  ?_
      exact r_ireturn (pc := 23) hv 12 rfl rfl h
  · replace h := h.2 c
    refine r_iconst (pc := 11) hv 5 rfl  ?_
    exact r_ireturn (pc := 12) hv 6 rfl rfl h
theorem m_X8_taken {S : Sp} (hS : Sys S) {l1 : Int32} {l2 : Int32} {σ : St} {Φ : Rs} (h : ∀ v : Kt, Cl S Φ k_X8_taken v → Wk v → vc_X8_taken_0 S Φ v l1 l2 σ) : S 94 [aR 0, aI l1, aI l2] σ Φ :=
  hS.2 94 M_X8_taken k_X8_taken _ _ _ mkt_X8_taken (Nat.le_of_ble_eq_true rfl) (fun v hv hw => w_X8_taken_0 hS hv hw   l1 l2 σ (h v hv hw))
def vc_X8_wire_0 (S : Sp) (Φ : Rs) (v : Kt) (l1 : Int32) (l2 : Int32) (l3 : Int32) (σ : St) : Prop := S 33 [aR 1, aI l1, aI l2, aI l3] σ (fun r σ1 => ∃ x2 : Int32, r = [aI x2] ∧ (S 129 [aR 0, aI x2] σ1 (fun r σ3 => ∃ x4 : Int32, r = [aI x4] ∧ (Φ [aI x4] σ3))))
theorem w_X8_wire_0 {S : Sp} (hS : Sys S) {Φ : Rs} {v : Kt} (hv : Cl S Φ k_X8_wire v) (hw : Wk v) (l1 : Int32) (l2 : Int32) (l3 : Int32) (σ : St) (h : vc_X8_wire_0 S Φ v l1 l2 l3 σ) : v 0 [some (aR 0), some (aI l1), some (aI l2), some (aI l3)] [] σ := by
  unfold vc_X8_wire_0 at h
  refine r_aload_n (pc := 0) hv 0 rfl rfl ?_
  refine r_aload_n (pc := 1) hv 1 rfl rfl ?_
  refine r_getR (pc := 2) (b := 1) hv 2 rfl rfl rfl rfl ?_
  refine r_iload_n (pc := 5) hv 3 rfl rfl ?_
  refine r_iload_n (pc := 6) hv 4 rfl rfl ?_
  refine r_iload_n (pc := 7) hv 5 rfl rfl ?_
  refine r_callV (pc := 8) (l := [aI l3, aI l2, aI l1]) (av := [aI l1, aI l2, aI l3]) (a := 1) (t := [aR 0]) hv 6 rfl rfl rfl rfl (rcv_o (by decide) rfl) trivial (hS.1 _ _ _ _ _ (fun r σ1 h => ?_) h)
  obtain ⟨x2, rfl, h⟩ := h
  show v 11 [some (aR 0), some (aI l1), some (aI l2), some (aI l3)] [aI x2, aR 0] σ1
  refine r_callV (pc := 11) (l := [aI x2]) (av := [aI x2]) (a := 0) (t := []) hv 7 rfl rfl rfl rfl (rcv_o (by decide) rfl) trivial (hS.1 _ _ _ _ _ (fun r σ3 h => ?_) h)
  obtain ⟨x4, rfl, h⟩ := h
  show v 14 [some (aR 0), some (aI l1), some (aI l2), some (aI l3)] [aI x4] σ3
  exact r_ireturn (pc := 14) hv 8 rfl rfl h
theorem m_X8_wire {S : Sp} (hS : Sys S) {l1 : Int32} {l2 : Int32} {l3 : Int32} {σ : St} {Φ : Rs} (h : ∀ v : Kt, Cl S Φ k_X8_wire v → Wk v → vc_X8_wire_0 S Φ v l1 l2 l3 σ) : S 95 [aR 0, aI l1, aI l2, aI l3] σ Φ :=
  hS.2 95 M_X8_wire k_X8_wire _ _ _ mkt_X8_wire (Nat.le_of_ble_eq_true rfl) (fun v hv hw => w_X8_wire_0 hS hv hw   l1 l2 l3 σ (h v hv hw))
def vc_X8_wired_0 (S : Sp) (Φ : Rs) (v : Kt) (l1 : Int32) (l2 : Int32) (σ : St) : Prop := (¬ (b2 (¬ (l1 : Int32) < 0 ∧ ¬ σ.1 1 4 ≤ l1) : Int32) = 0 → (((l2 : Int32) = 0 → (vp_in (l1 * 3 + 0) 120 ∧ ((¬ (σ.1 3 (l1 * 3 + 0 : Int32).toNatClampNeg : Int32) = (-1) → (vp_in (l1 * 3 + 0) 120 ∧ (Φ [aI (σ.1 3 (l1 * 3 + 0 : Int32).toNatClampNeg)] σ))) ∧ ((σ.1 3 (l1 * 3 + 0 : Int32).toNatClampNeg : Int32) = (-1) → (Φ [aI 99] σ))))) ∧ (¬ ((l2 : Int32) = 0) → (((l2 : Int32) = 1 → (vp_in (l1 * 3 + 1) 120 ∧ (Φ [aI (σ.1 3 (l1 * 3 + 1 : Int32).toNatClampNeg)] σ))) ∧ (¬ ((l2 : Int32) = 1) → (((l2 : Int32) = 2 → (vp_in (l1 * 3 + 2) 120 ∧ (Φ [aI (σ.1 3 (l1 * 3 + 2 : Int32).toNatClampNeg)] σ))) ∧ (¬ ((l2 : Int32) = 2) → (((l2 : Int32) = 3 → (S 131 [aR 0] σ (fun r σ1 => r = [aR 13] ∧ (S 3 [aR 13, aI l1] σ1 (fun r σ2 => ∃ x3 : Int32, r = [aI x3] ∧ (Φ [aI x3] σ2)))))) ∧ (¬ ((l2 : Int32) = 3) → (((l2 : Int32) = 4 → (S 131 [aR 0] σ (fun r σ4 => r = [aR 13] ∧ (S 9 [aR 13, aI l1] σ4 (fun r σ5 => ∃ x6 : Int32, r = [aI x6] ∧ (((x6 : Int32) = 0 → (Φ [aI 0] σ5)) ∧ (¬ ((x6 : Int32) = 0) → (Φ [aI 1] σ5)))))))) ∧ (¬ ((l2 : Int32) = 4) → (Φ [aI (-1)] σ)))))))))))) ∧ ((b2 (¬ (l1 : Int32) < 0 ∧ ¬ σ.1 1 4 ≤ l1) : Int32) = 0 → (Φ [aI (-1)] σ))
theorem w_X8_wired_0 {S : Sp} (hS : Sys S) {Φ : Rs} {v : Kt} (hv : Cl S Φ k_X8_wired v) (hw : Wk v) (l1 : Int32) (l2 : Int32) (σ : St) (h : vc_X8_wired_0 S Φ v l1 l2 σ) : v 0 [some (aR 0), some (aI l1), some (aI l2)] [] σ := by
  unfold vc_X8_wired_0 at h
  refine r_aload_n (pc := 0) hv 0 rfl rfl ?_
  refine r_getR (pc := 1) (b := 1) hv 1 rfl rfl rfl rfl ?_
  refine r_iload_n (pc := 4) hv 2 rfl rfl ?_
  refine r_callV (pc := 5) (l := [aI l1]) (av := [aI l1]) (a := 1) (t := []) hv 3 rfl rfl rfl rfl (rcv_o (by decide) rfl) trivial (t_X2_isWire hS isPat_1 ?_)
  show v 8 [some (aR 0), some (aI l1), some (aI l2)] [aI (b2 (¬ (l1 : Int32) < 0 ∧ ¬ σ.1 1 4 ≤ l1))] σ
  refine r_if_ne (pc := 8) hv 4 rfl (fun c => ?_) (fun c => ?_)
  · replace h := h.1 c
    refine r_iload_n (pc := 13) hv 7 rfl rfl ?_
    refine r_tab (pc := 14) hv 8 rfl ?_
    refine ⟨fun c => ?_, fun c => ?_⟩
    · replace h := h.1 c
      show v 48 [some (aR 0), some (aI l1), some (aI l2)] [] σ
      refine r_aload_n (pc := 48) hv 9 rfl rfl ?_
      refine r_getR (pc := 49) (b := 1) hv 10 rfl rfl rfl rfl ?_
      refine r_iload_n (pc := 52) hv 11 rfl rfl ?_
      refine r_iconst (pc := 53) hv 12 rfl  ?_
      refine r_callV (pc := 54) (l := [aI 0, aI l1]) (av := [aI l1, aI 0]) (a := 1) (t := []) hv 13 rfl rfl rfl rfl (rcv_o (by decide) rfl) trivial (t_X2_cord hS isPat_1 h.1 ?_)
      replace h := h.2
      show v 57 [some (aR 0), some (aI l1), some (aI l2)] [aI (σ.1 3 (l1 * 3 + 0 : Int32).toNatClampNeg)] σ
      refine r_iconst (pc := 57) hv 14 rfl  ?_
      refine r_icmp_ne (pc := 58) hv 15 rfl (fun c => ?_) (fun c => ?_)
      · replace h := h.1 c
        refine r_aload_n (pc := 66) hv 18 rfl rfl ?_
        refine r_getR (pc := 67) (b := 1) hv 19 rfl rfl rfl rfl ?_
        refine r_iload_n (pc := 70) hv 20 rfl rfl ?_
        refine r_iconst (pc := 71) hv 21 rfl  ?_
        refine r_callV (pc := 72) (l := [aI 0, aI l1]) (av := [aI l1, aI 0]) (a := 1) (t := []) hv 22 rfl rfl rfl rfl (rcv_o (by decide) rfl) trivial (t_X2_cord hS isPat_1 h.1 ?_)
        replace h := h.2
        show v 75 [some (aR 0), some (aI l1), some (aI l2)] [aI (σ.1 3 (l1 * 3 + 0 : Int32).toNatClampNeg)] σ
        exact r_ireturn (pc := 75) hv 23 rfl rfl h
      · replace h := h.2 c
        refine r_bipush (pc := 61) hv 16 rfl  ?_
        refine r_goto (pc := 63) hv 17 rfl  ?_
        exact r_ireturn (pc := 75) hv 23 rfl rfl h
    · replace h := h.2 c
      refine ⟨fun c => ?_, fun c => ?_⟩
      · replace h := h.1 c
        show v 76 [some (aR 0), some (aI l1), some (aI l2)] [] σ
        refine r_aload_n (pc := 76) hv 24 rfl rfl ?_
        refine r_getR (pc := 77) (b := 1) hv 25 rfl rfl rfl rfl ?_
        refine r_iload_n (pc := 80) hv 26 rfl rfl ?_
        refine r_iconst (pc := 81) hv 27 rfl  ?_
        refine r_callV (pc := 82) (l := [aI 1, aI l1]) (av := [aI l1, aI 1]) (a := 1) (t := []) hv 28 rfl rfl rfl rfl (rcv_o (by decide) rfl) trivial (t_X2_cord hS isPat_1 h.1 ?_)
        replace h := h.2
        show v 85 [some (aR 0), some (aI l1), some (aI l2)] [aI (σ.1 3 (l1 * 3 + 1 : Int32).toNatClampNeg)] σ
        exact r_ireturn (pc := 85) hv 29 rfl rfl h
      · replace h := h.2 c
        refine ⟨fun c => ?_, fun c => ?_⟩
        · replace h := h.1 c
          show v 86 [some (aR 0), some (aI l1), some (aI l2)] [] σ
          refine r_aload_n (pc := 86) hv 30 rfl rfl ?_
          refine r_getR (pc := 87) (b := 1) hv 31 rfl rfl rfl rfl ?_
          refine r_iload_n (pc := 90) hv 32 rfl rfl ?_
          refine r_iconst (pc := 91) hv 33 rfl  ?_
          refine r_callV (pc := 92) (l := [aI 2, aI l1]) (av := [aI l1, aI 2]) (a := 1) (t := []) hv 34 rfl rfl rfl rfl (rcv_o (by decide) rfl) trivial (t_X2_cord hS isPat_1 h.1 ?_)
          replace h := h.2
          show v 95 [some (aR 0), some (aI l1), some (aI l2)] [aI (σ.1 3 (l1 * 3 + 2 : Int32).toNatClampNeg)] σ
          exact r_ireturn (pc := 95) hv 35 rfl rfl h
        · replace h := h.2 c
          refine ⟨fun c => ?_, fun c => ?_⟩
          · replace h := h.1 c
            show v 96 [some (aR 0), some (aI l1), some (aI l2)] [] σ
            refine r_aload_n (pc := 96) hv 36 rfl rfl ?_
            refine r_callV (pc := 97) (l := []) (av := []) (a := 0) (t := []) hv 37 rfl rfl rfl rfl (rcv_o (by decide) rfl) trivial (hS.1 _ _ _ _ _ (fun r σ1 h => ?_) h)
            obtain ⟨rfl, h⟩ := h
            show v 100 [some (aR 0), some (aI l1), some (aI l2)] [aR 13] σ1
            refine r_iload_n (pc := 100) hv 38 rfl rfl ?_
            refine r_callV (pc := 101) (l := [aI l1]) (av := [aI l1]) (a := 13) (t := []) hv 39 rfl rfl rfl rfl (rcv_o (by decide) rfl) trivial (hS.1 _ _ _ _ _ (fun r σ2 h => ?_) h)
            obtain ⟨x3, rfl, h⟩ := h
            show v 104 [some (aR 0), some (aI l1), some (aI l2)] [aI x3] σ2
            exact r_ireturn (pc := 104) hv 40 rfl rfl h
          · replace h := h.2 c
            refine ⟨fun c => ?_, fun c => ?_⟩
            · replace h := h.1 c
              show v 105 [some (aR 0), some (aI l1), some (aI l2)] [] σ
              refine r_aload_n (pc := 105) hv 41 rfl rfl ?_
              refine r_callV (pc := 106) (l := []) (av := []) (a := 0) (t := []) hv 42 rfl rfl rfl rfl (rcv_o (by decide) rfl) trivial (hS.1 _ _ _ _ _ (fun r σ4 h => ?_) h)
              obtain ⟨rfl, h⟩ := h
              show v 109 [some (aR 0), some (aI l1), some (aI l2)] [aR 13] σ4
              refine r_iload_n (pc := 109) hv 43 rfl rfl ?_
              refine r_callV (pc := 110) (l := [aI l1]) (av := [aI l1]) (a := 13) (t := []) hv 44 rfl rfl rfl rfl (rcv_o (by decide) rfl) trivial (hS.1 _ _ _ _ _ (fun r σ5 h => ?_) h)
              obtain ⟨x6, rfl, h⟩ := h
              show v 113 [some (aR 0), some (aI l1), some (aI l2)] [aI x6] σ5
              refine r_if_eq (pc := 113) hv 45 rfl (fun c => ?_) (fun c => ?_)
              · replace h := h.1 c
                refine r_iconst (pc := 120) hv 48 rfl  ?_
                exact r_ireturn (pc := 121) hv 49 rfl rfl h
              · replace h := h.2 c
                refine r_iconst (pc := 116) hv 46 rfl  ?_
                refine r_goto (pc := 117) hv 47 rfl  ?_
                exact r_ireturn (pc := 121) hv 49 rfl rfl h
            · replace h := h.2 c
              show v 122 [some (aR 0), some (aI l1), some (aI l2)] [] σ
              refine r_iconst (pc := 122) hv 50 rfl  ?_
              exact r_ireturn (pc := 123) hv 51 rfl rfl h
  · replace h := h.2 c
    refine r_iconst (pc := 11) hv 5 rfl  ?_
    exact r_ireturn (pc := 12) hv 6 rfl rfl h
theorem m_X8_wired {S : Sp} (hS : Sys S) {l1 : Int32} {l2 : Int32} {σ : St} {Φ : Rs} (h : ∀ v : Kt, Cl S Φ k_X8_wired v → Wk v → vc_X8_wired_0 S Φ v l1 l2 σ) : S 96 [aR 0, aI l1, aI l2] σ Φ :=
  hS.2 96 M_X8_wired k_X8_wired _ _ _ mkt_X8_wired (Nat.le_of_ble_eq_true rfl) (fun v hv hw => w_X8_wired_0 hS hv hw   l1 l2 σ (h v hv hw))
def vc_X8_cut_0 (S : Sp) (Φ : Rs) (v : Kt) (l1 : Int32) (σ : St) : Prop := S 34 [aR 1, aI l1] σ (fun r σ1 => ∃ x2 : Int32, r = [aI x2] ∧ (S 129 [aR 0, aI x2] σ1 (fun r σ3 => ∃ x4 : Int32, r = [aI x4] ∧ (Φ [aI x4] σ3))))
theorem w_X8_cut_0 {S : Sp} (hS : Sys S) {Φ : Rs} {v : Kt} (hv : Cl S Φ k_X8_cut v) (hw : Wk v) (l1 : Int32) (σ : St) (h : vc_X8_cut_0 S Φ v l1 σ) : v 0 [some (aR 0), some (aI l1)] [] σ := by
  unfold vc_X8_cut_0 at h
  refine r_aload_n (pc := 0) hv 0 rfl rfl ?_
  refine r_aload_n (pc := 1) hv 1 rfl rfl ?_
  refine r_getR (pc := 2) (b := 1) hv 2 rfl rfl rfl rfl ?_
  refine r_iload_n (pc := 5) hv 3 rfl rfl ?_
  refine r_callV (pc := 6) (l := [aI l1]) (av := [aI l1]) (a := 1) (t := [aR 0]) hv 4 rfl rfl rfl rfl (rcv_o (by decide) rfl) trivial (hS.1 _ _ _ _ _ (fun r σ1 h => ?_) h)
  obtain ⟨x2, rfl, h⟩ := h
  show v 9 [some (aR 0), some (aI l1)] [aI x2, aR 0] σ1
  refine r_callV (pc := 9) (l := [aI x2]) (av := [aI x2]) (a := 0) (t := []) hv 5 rfl rfl rfl rfl (rcv_o (by decide) rfl) trivial (hS.1 _ _ _ _ _ (fun r σ3 h => ?_) h)
  obtain ⟨x4, rfl, h⟩ := h
  show v 12 [some (aR 0), some (aI l1)] [aI x4] σ3
  exact r_ireturn (pc := 12) hv 6 rfl rfl h
theorem m_X8_cut {S : Sp} (hS : Sys S) {l1 : Int32} {σ : St} {Φ : Rs} (h : ∀ v : Kt, Cl S Φ k_X8_cut v → Wk v → vc_X8_cut_0 S Φ v l1 σ) : S 97 [aR 0, aI l1] σ Φ :=
  hS.2 97 M_X8_cut k_X8_cut _ _ _ mkt_X8_cut (Nat.le_of_ble_eq_true rfl) (fun v hv hw => w_X8_cut_0 hS hv hw   l1 σ (h v hv hw))
def vc_X8_rule_0 (S : Sp) (Φ : Rs) (v : Kt) (l1 : Int32) (l2 : Int32) (σ : St) : Prop := S 36 [aR 1, aI l1, aI l2] σ (fun r σ1 => ∃ x2 : Int32, r = [aI x2] ∧ (S 129 [aR 0, aI x2] σ1 (fun r σ3 => ∃ x4 : Int32, r = [aI x4] ∧ (Φ [aI x4] σ3))))
theorem w_X8_rule_0 {S : Sp} (hS : Sys S) {Φ : Rs} {v : Kt} (hv : Cl S Φ k_X8_rule v) (hw : Wk v) (l1 : Int32) (l2 : Int32) (σ : St) (h : vc_X8_rule_0 S Φ v l1 l2 σ) : v 0 [some (aR 0), some (aI l1), some (aI l2)] [] σ := by
  unfold vc_X8_rule_0 at h
  refine r_aload_n (pc := 0) hv 0 rfl rfl ?_
  refine r_aload_n (pc := 1) hv 1 rfl rfl ?_
  refine r_getR (pc := 2) (b := 1) hv 2 rfl rfl rfl rfl ?_
  refine r_iload_n (pc := 5) hv 3 rfl rfl ?_
  refine r_iload_n (pc := 6) hv 4 rfl rfl ?_
  refine r_callV (pc := 7) (l := [aI l2, aI l1]) (av := [aI l1, aI l2]) (a := 1) (t := [aR 0]) hv 5 rfl rfl rfl rfl (rcv_o (by decide) rfl) trivial (hS.1 _ _ _ _ _ (fun r σ1 h => ?_) h)
  obtain ⟨x2, rfl, h⟩ := h
  show v 10 [some (aR 0), some (aI l1), some (aI l2)] [aI x2, aR 0] σ1
  refine r_callV (pc := 10) (l := [aI x2]) (av := [aI x2]) (a := 0) (t := []) hv 6 rfl rfl rfl rfl (rcv_o (by decide) rfl) trivial (hS.1 _ _ _ _ _ (fun r σ3 h => ?_) h)
  obtain ⟨x4, rfl, h⟩ := h
  show v 13 [some (aR 0), some (aI l1), some (aI l2)] [aI x4] σ3
  exact r_ireturn (pc := 13) hv 7 rfl rfl h
theorem m_X8_rule {S : Sp} (hS : Sys S) {l1 : Int32} {l2 : Int32} {σ : St} {Φ : Rs} (h : ∀ v : Kt, Cl S Φ k_X8_rule v → Wk v → vc_X8_rule_0 S Φ v l1 l2 σ) : S 98 [aR 0, aI l1, aI l2] σ Φ :=
  hS.2 98 M_X8_rule k_X8_rule _ _ _ mkt_X8_rule (Nat.le_of_ble_eq_true rfl) (fun v hv hw => w_X8_rule_0 hS hv hw   l1 l2 σ (h v hv hw))
def vc_X8_drop_0 (S : Sp) (Φ : Rs) (v : Kt) (σ : St) : Prop := S 35 [aR 1] σ (fun r σ1 => ∃ x2 : Int32, r = [aI x2] ∧ (S 129 [aR 0, aI x2] σ1 (fun r σ3 => ∃ x4 : Int32, r = [aI x4] ∧ (Φ [aI x4] σ3))))
theorem w_X8_drop_0 {S : Sp} (hS : Sys S) {Φ : Rs} {v : Kt} (hv : Cl S Φ k_X8_drop v) (hw : Wk v) (σ : St) (h : vc_X8_drop_0 S Φ v  σ) : v 0 [some (aR 0)] [] σ := by
  unfold vc_X8_drop_0 at h
  refine r_aload_n (pc := 0) hv 0 rfl rfl ?_
  refine r_aload_n (pc := 1) hv 1 rfl rfl ?_
  refine r_getR (pc := 2) (b := 1) hv 2 rfl rfl rfl rfl ?_
  refine r_callV (pc := 5) (l := []) (av := []) (a := 1) (t := [aR 0]) hv 3 rfl rfl rfl rfl (rcv_o (by decide) rfl) trivial (hS.1 _ _ _ _ _ (fun r σ1 h => ?_) h)
  obtain ⟨x2, rfl, h⟩ := h
  show v 8 [some (aR 0)] [aI x2, aR 0] σ1
  refine r_callV (pc := 8) (l := [aI x2]) (av := [aI x2]) (a := 0) (t := []) hv 4 rfl rfl rfl rfl (rcv_o (by decide) rfl) trivial (hS.1 _ _ _ _ _ (fun r σ3 h => ?_) h)
  obtain ⟨x4, rfl, h⟩ := h
  show v 11 [some (aR 0)] [aI x4] σ3
  exact r_ireturn (pc := 11) hv 5 rfl rfl h
theorem m_X8_drop {S : Sp} (hS : Sys S) {σ : St} {Φ : Rs} (h : ∀ v : Kt, Cl S Φ k_X8_drop v → Wk v → vc_X8_drop_0 S Φ v  σ) : S 99 [aR 0] σ Φ :=
  hS.2 99 M_X8_drop k_X8_drop _ _ _ mkt_X8_drop (Nat.le_of_ble_eq_true rfl) (fun v hv hw => w_X8_drop_0 hS hv hw    σ (h v hv hw))
def vc_X8_time_0 (S : Sp) (Φ : Rs) (v : Kt) (l1 : Int32) (l2 : Int32) (σ : St) : Prop := (¬ (b2 (¬ (l1 : Int32) < 0 ∧ ¬ σ.1 1 3 ≤ l1) : Int32) = 0 → (S 131 [aR 0] σ (fun r σ1 => r = [aR 13] ∧ ((¬ (l2 : Int32) = 0 → ((¬ (b2 (¬ (l1 : Int32) < 0 ∧ ¬ 20 ≤ (l1 : Int32) ∧ ¬ ((σ1.1 13 4 : Int32) >>> (l1 &&& 31)) &&& 1 = 0) : Int32) = 0 → (((l2 : Int32) = 1 → (vp_in l1 20 ∧ (Φ [aI (σ1.1 15 (l1 : Int32).toNatClampNeg)] σ1))) ∧ (¬ ((l2 : Int32) = 1) → (((l2 : Int32) = 2 → (((b2 (¬ (l1 : Int32) < 0 ∧ ¬ 20 ≤ (l1 : Int32) ∧ ¬ ((σ1.1 13 5 : Int32) >>> (l1 &&& 31)) &&& 1 = 0) : Int32) = 0 → (Φ [aI 1] σ1)) ∧ (¬ ((b2 (¬ (l1 : Int32) < 0 ∧ ¬ 20 ≤ (l1 : Int32) ∧ ¬ ((σ1.1 13 5 : Int32) >>> (l1 &&& 31)) &&& 1 = 0) : Int32) = 0) → (Φ [aI 0] σ1)))) ∧ (¬ ((l2 : Int32) = 2) → (((l2 : Int32) = 3 → (S 11 [aR 13, aI l1] σ1 (fun r σ2 => ∃ x3 : Int32, r = [aI x3] ∧ (Φ [aI x3] σ2)))) ∧ (¬ ((l2 : Int32) = 3) → (Φ [aI (-1)] σ1)))))))) ∧ ((b2 (¬ (l1 : Int32) < 0 ∧ ¬ 20 ≤ (l1 : Int32) ∧ ¬ ((σ1.1 13 4 : Int32) >>> (l1 &&& 31)) &&& 1 = 0) : Int32) = 0 → (Φ [aI (-1)] σ1)))) ∧ ((l2 : Int32) = 0 → (vp_in l1 20 ∧ (Φ [aI (σ1.1 14 (l1 : Int32).toNatClampNeg)] σ1))))))) ∧ ((b2 (¬ (l1 : Int32) < 0 ∧ ¬ σ.1 1 3 ≤ l1) : Int32) = 0 → (Φ [aI (-1)] σ))
theorem w_X8_time_0 {S : Sp} (hS : Sys S) {Φ : Rs} {v : Kt} (hv : Cl S Φ k_X8_time v) (hw : Wk v) (l1 : Int32) (l2 : Int32) (σ : St) (h : vc_X8_time_0 S Φ v l1 l2 σ) : v 0 [some (aR 0), some (aI l1), some (aI l2), none] [] σ := by
  unfold vc_X8_time_0 at h
  refine r_aload_n (pc := 0) hv 0 rfl rfl ?_
  refine r_getR (pc := 1) (b := 1) hv 1 rfl rfl rfl rfl ?_
  refine r_iload_n (pc := 4) hv 2 rfl rfl ?_
  refine r_callV (pc := 5) (l := [aI l1]) (av := [aI l1]) (a := 1) (t := []) hv 3 rfl rfl rfl rfl (rcv_o (by decide) rfl) trivial (t_X2_isHole hS isPat_1 ?_)
  show v 8 [some (aR 0), some (aI l1), some (aI l2), none] [aI (b2 (¬ (l1 : Int32) < 0 ∧ ¬ σ.1 1 3 ≤ l1))] σ
  refine r_if_ne (pc := 8) hv 4 rfl (fun c => ?_) (fun c => ?_)
  · replace h := h.1 c
    refine r_aload_n (pc := 13) hv 7 rfl rfl ?_
    refine r_callV (pc := 14) (l := []) (av := []) (a := 0) (t := []) hv 8 rfl rfl rfl rfl (rcv_o (by decide) rfl) trivial (hS.1 _ _ _ _ _ (fun r σ1 h => ?_) h)
    obtain ⟨rfl, h⟩ := h
    show v 17 [some (aR 0), some (aI l1), some (aI l2), none] [aR 13] σ1
    refine r_astore_n (pc := 17) (lo' := [some (aR 0), some (aI l1), some (aI l2), some (aR 13)]) hv 9 rfl rfl ?_
    refine r_iload_n (pc := 18) hv 10 rfl rfl ?_
    refine r_if_ne (pc := 19) hv 11 rfl (fun c => ?_) (fun c => ?_)
    · replace h := h.1 c
      refine r_aload_n (pc := 29) hv 17 rfl rfl ?_
      refine r_iload_n (pc := 30) hv 18 rfl rfl ?_
      refine r_callV (pc := 31) (l := [aI l1]) (av := [aI l1]) (a := 13) (t := []) hv 19 rfl rfl rfl rfl (rcv_o (by decide) rfl) trivial (t_X0_doesFire hS isBl_13 ?_)
      show v 34 [some (aR 0), some (aI l1), some (aI l2), some (aR 13)] [aI (b2 (¬ (l1 : Int32) < 0 ∧ ¬ 20 ≤ (l1 : Int32) ∧ ¬ ((σ1.1 13 4 : Int32) >>> (l1 &&& 31)) &&& 1 = 0))] σ1
      refine r_if_ne (pc := 34) hv 20 rfl (fun c => ?_) (fun c => ?_)
      · replace h := h.1 c
        refine r_iload_n (pc := 39) hv 23 rfl rfl ?_
        refine r_tab (pc := 40) hv 24 rfl ?_
        refine ⟨fun c => ?_, fun c => ?_⟩
        · replace h := h.1 c
          show v 68 [some (aR 0), some (aI l1), some (aI l2), some (aR 13)] [] σ1
          refine r_aload_n (pc := 68) hv 25 rfl rfl ?_
          refine r_getR (pc := 69) (b := 15) hv 26 rfl rfl rfl rfl ?_
          refine r_iload_n (pc := 72) hv 27 rfl rfl ?_
          refine r_iaload (pc := 73) (N := 20) hv 28 rfl rfl rfl (by decide) h.1 ?_
          replace h := h.2
          exact r_ireturn (pc := 74) hv 29 rfl rfl h
        · replace h := h.2 c
          refine ⟨fun c => ?_, fun c => ?_⟩
          · replace h := h.1 c
            show v 75 [some (aR 0), some (aI l1), some (aI l2), some (aR 13)] [] σ1
            refine r_aload_n (pc := 75) hv 30 rfl rfl ?_
            refine r_iload_n (pc := 76) hv 31 rfl rfl ?_
            refine r_callV (pc := 77) (l := [aI l1]) (av := [aI l1]) (a := 13) (t := []) hv 32 rfl rfl rfl rfl (rcv_o (by decide) rfl) trivial (t_X0_isBuried hS isBl_13 ?_)
            show v 80 [some (aR 0), some (aI l1), some (aI l2), some (aR 13)] [aI (b2 (¬ (l1 : Int32) < 0 ∧ ¬ 20 ≤ (l1 : Int32) ∧ ¬ ((σ1.1 13 5 : Int32) >>> (l1 &&& 31)) &&& 1 = 0))] σ1
            refine r_if_eq (pc := 80) hv 33 rfl (fun c => ?_) (fun c => ?_)
            · replace h := h.1 c
              refine r_iconst (pc := 87) hv 36 rfl  ?_
              exact r_ireturn (pc := 88) hv 37 rfl rfl h
            · replace h := h.2 c
              refine r_iconst (pc := 83) hv 34 rfl  ?_
              refine r_goto (pc := 84) hv 35 rfl  ?_
              exact r_ireturn (pc := 88) hv 37 rfl rfl h
          · replace h := h.2 c
            refine ⟨fun c => ?_, fun c => ?_⟩
            · replace h := h.1 c
              show v 89 [some (aR 0), some (aI l1), some (aI l2), some (aR 13)] [] σ1
              refine r_aload_n (pc := 89) hv 38 rfl rfl ?_
              refine r_iload_n (pc := 90) hv 39 rfl rfl ?_
              refine r_callV (pc := 91) (l := [aI l1]) (av := [aI l1]) (a := 13) (t := []) hv 40 rfl rfl rfl rfl (rcv_o (by decide) rfl) trivial (hS.1 _ _ _ _ _ (fun r σ2 h => ?_) h)
              obtain ⟨x3, rfl, h⟩ := h
              show v 94 [some (aR 0), some (aI l1), some (aI l2), some (aR 13)] [aI x3] σ2
              exact r_ireturn (pc := 94) hv 41 rfl rfl h
            · replace h := h.2 c
              show v 95 [some (aR 0), some (aI l1), some (aI l2), some (aR 13)] [] σ1
              refine r_iconst (pc := 95) hv 42 rfl  ?_
              exact r_ireturn (pc := 96) hv 43 rfl rfl h
      · replace h := h.2 c
        refine r_iconst (pc := 37) hv 21 rfl  ?_
        exact r_ireturn (pc := 38) hv 22 rfl rfl h
    · replace h := h.2 c
      refine r_aload_n (pc := 22) hv 12 rfl rfl ?_
      refine r_getR (pc := 23) (b := 14) hv 13 rfl rfl rfl rfl ?_
      refine r_iload_n (pc := 26) hv 14 rfl rfl ?_
      refine r_iaload (pc := 27) (N := 20) hv 15 rfl rfl rfl (by decide) h.1 ?_
      replace h := h.2
      exact r_ireturn (pc := 28) hv 16 rfl rfl h
  · replace h := h.2 c
    refine r_iconst (pc := 11) hv 5 rfl  ?_
    exact r_ireturn (pc := 12) hv 6 rfl rfl h
theorem m_X8_time {S : Sp} (hS : Sys S) {l1 : Int32} {l2 : Int32} {σ : St} {Φ : Rs} (h : ∀ v : Kt, Cl S Φ k_X8_time v → Wk v → vc_X8_time_0 S Φ v l1 l2 σ) : S 100 [aR 0, aI l1, aI l2] σ Φ :=
  hS.2 100 M_X8_time k_X8_time _ _ _ mkt_X8_time (Nat.le_of_ble_eq_true rfl) (fun v hv hw => w_X8_time_0 hS hv hw   l1 l2 σ (h v hv hw))
def vc_X8_shot_0 (S : Sp) (Φ : Rs) (v : Kt) (l1 : Int32) (l2 : Int32) (σ : St) : Prop := S 131 [aR 0] σ (fun r σ1 => r = [aR 13] ∧ (((l1 : Int32) < 0 → (Φ [aI (-1)] σ1)) ∧ (¬ ((l1 : Int32) < 0) → (((l1 : Int32) < (σ1.1 16 3) → (((l2 : Int32) = 0 → (vp_in l1 40 ∧ (Φ [aI (σ1.1 17 (l1 : Int32).toNatClampNeg)] σ1))) ∧ (¬ ((l2 : Int32) = 0) → (((l2 : Int32) = 1 → (vp_in l1 40 ∧ (Φ [aI (σ1.1 18 (l1 : Int32).toNatClampNeg)] σ1))) ∧ (¬ ((l2 : Int32) = 1) → (((l2 : Int32) = 2 → (vp_in l1 40 ∧ (Φ [aI (σ1.1 19 (l1 : Int32).toNatClampNeg)] σ1))) ∧ (¬ ((l2 : Int32) = 2) → (Φ [aI (-1)] σ1)))))))) ∧ (¬ ((l1 : Int32) < (σ1.1 16 3)) → (Φ [aI (-1)] σ1))))))
theorem w_X8_shot_0 {S : Sp} (hS : Sys S) {Φ : Rs} {v : Kt} (hv : Cl S Φ k_X8_shot v) (hw : Wk v) (l1 : Int32) (l2 : Int32) (σ : St) (h : vc_X8_shot_0 S Φ v l1 l2 σ) : v 0 [some (aR 0), some (aI l1), some (aI l2), none] [] σ := by
  unfold vc_X8_shot_0 at h
  refine r_aload_n (pc := 0) hv 0 rfl rfl ?_
  refine r_callV (pc := 1) (l := []) (av := []) (a := 0) (t := []) hv 1 rfl rfl rfl rfl (rcv_o (by decide) rfl) trivial (hS.1 _ _ _ _ _ (fun r σ1 h => ?_) h)
  obtain ⟨rfl, h⟩ := h
  show v 4 [some (aR 0), some (aI l1), some (aI l2), none] [aR 13] σ1
  refine r_getR (pc := 4) (b := 16) hv 2 rfl rfl rfl rfl ?_
  refine r_astore_n (pc := 7) (lo' := [some (aR 0), some (aI l1), some (aI l2), some (aR 16)]) hv 3 rfl rfl ?_
  refine r_iload_n (pc := 8) hv 4 rfl rfl ?_
  refine r_if_lt (pc := 9) hv 5 rfl (fun c => ?_) (fun c => ?_)
  · replace h := h.1 c
    refine r_iconst (pc := 20) hv 10 rfl  ?_
    exact r_ireturn (pc := 21) hv 11 rfl rfl h
  · replace h := h.2 c
    refine r_iload_n (pc := 12) hv 6 rfl rfl ?_
    refine r_aload_n (pc := 13) hv 7 rfl rfl ?_
    refine r_getI (pc := 14) hv 8 rfl rfl rfl ?_
    refine r_icmp_lt (pc := 17) hv 9 rfl (fun c => ?_) (fun c => ?_)
    · replace h := h.1 c
      refine r_iload_n (pc := 22) hv 12 rfl rfl ?_
      refine r_tab (pc := 23) hv 13 rfl ?_
      refine ⟨fun c => ?_, fun c => ?_⟩
      · replace h := h.1 c
        show v 48 [some (aR 0), some (aI l1), some (aI l2), some (aR 16)] [] σ1
        refine r_aload_n (pc := 48) hv 14 rfl rfl ?_
        refine r_getR (pc := 49) (b := 17) hv 15 rfl rfl rfl rfl ?_
        refine r_iload_n (pc := 52) hv 16 rfl rfl ?_
        refine r_iaload (pc := 53) (N := 40) hv 17 rfl rfl rfl (by decide) h.1 ?_
        replace h := h.2
        exact r_ireturn (pc := 54) hv 18 rfl rfl h
      · replace h := h.2 c
        refine ⟨fun c => ?_, fun c => ?_⟩
        · replace h := h.1 c
          show v 55 [some (aR 0), some (aI l1), some (aI l2), some (aR 16)] [] σ1
          refine r_aload_n (pc := 55) hv 19 rfl rfl ?_
          refine r_getR (pc := 56) (b := 18) hv 20 rfl rfl rfl rfl ?_
          refine r_iload_n (pc := 59) hv 21 rfl rfl ?_
          refine r_iaload (pc := 60) (N := 40) hv 22 rfl rfl rfl (by decide) h.1 ?_
          replace h := h.2
          exact r_ireturn (pc := 61) hv 23 rfl rfl h
        · replace h := h.2 c
          refine ⟨fun c => ?_, fun c => ?_⟩
          · replace h := h.1 c
            show v 62 [some (aR 0), some (aI l1), some (aI l2), some (aR 16)] [] σ1
            refine r_aload_n (pc := 62) hv 24 rfl rfl ?_
            refine r_getR (pc := 63) (b := 19) hv 25 rfl rfl rfl rfl ?_
            refine r_iload_n (pc := 66) hv 26 rfl rfl ?_
            refine r_iaload (pc := 67) (N := 40) hv 27 rfl rfl rfl (by decide) h.1 ?_
            replace h := h.2
            exact r_ireturn (pc := 68) hv 28 rfl rfl h
          · replace h := h.2 c
            show v 69 [some (aR 0), some (aI l1), some (aI l2), some (aR 16)] [] σ1
            refine r_iconst (pc := 69) hv 29 rfl  ?_
            exact r_ireturn (pc := 70) hv 30 rfl rfl h
    · replace h := h.2 c
      refine r_iconst (pc := 20) hv 10 rfl  ?_
      exact r_ireturn (pc := 21) hv 11 rfl rfl h
theorem m_X8_shot {S : Sp} (hS : Sys S) {l1 : Int32} {l2 : Int32} {σ : St} {Φ : Rs} (h : ∀ v : Kt, Cl S Φ k_X8_shot v → Wk v → vc_X8_shot_0 S Φ v l1 l2 σ) : S 101 [aR 0, aI l1, aI l2] σ Φ :=
  hS.2 101 M_X8_shot k_X8_shot _ _ _ mkt_X8_shot (Nat.le_of_ble_eq_true rfl) (fun v hv hw => w_X8_shot_0 hS hv hw   l1 l2 σ (h v hv hw))
def vc_X8_shake_0 (S : Sp) (Φ : Rs) (v : Kt) (l1 : Int32) (σ : St) : Prop := ((l1 : Int32) < 0 → (Φ [aI (-2)] σ)) ∧ (¬ ((l1 : Int32) < 0) → (((l1 : Int32) ≤ 99999 → (S 131 [aR 0] σ (fun r σ1 => r = [aR 13] ∧ (vp_in 0 3 ∧ (S 85 [aR 16, aI l1, aI (σ1.1 4 (0 : Int32).toNatClampNeg)] σ1 (fun r σ2 => ∃ x3 : Int32, r = [aI x3] ∧ (Φ [aI x3] σ2))))))) ∧ (¬ ((l1 : Int32) ≤ 99999) → (Φ [aI (-2)] σ))))
theorem w_X8_shake_0 {S : Sp} (hS : Sys S) {Φ : Rs} {v : Kt} (hv : Cl S Φ k_X8_shake v) (hw : Wk v) (l1 : Int32) (σ : St) (h : vc_X8_shake_0 S Φ v l1 σ) : v 0 [some (aR 0), some (aI l1)] [] σ := by
  unfold vc_X8_shake_0 at h
  refine r_iload_n (pc := 0) hv 0 rfl rfl ?_
  refine r_if_lt (pc := 1) hv 1 rfl (fun c => ?_) (fun c => ?_)
  · replace h := h.1 c
    refine r_bipush (pc := 10) hv 5 rfl  ?_
    exact r_ireturn (pc := 12) hv 6 rfl rfl h
  · replace h := h.2 c
    refine r_iload_n (pc := 4) hv 2 rfl rfl ?_
    refine r_ldc (pc := 5) hv 3 rfl rfl ?_
    refine r_icmp_le (pc := 7) hv 4 rfl (fun c => ?_) (fun c => ?_)
    · replace h := h.1 c
      refine r_aload_n (pc := 13) hv 7 rfl rfl ?_
      refine r_callV (pc := 14) (l := []) (av := []) (a := 0) (t := []) hv 8 rfl rfl rfl rfl (rcv_o (by decide) rfl) trivial (hS.1 _ _ _ _ _ (fun r σ1 h => ?_) h)
      obtain ⟨rfl, h⟩ := h
      show v 17 [some (aR 0), some (aI l1)] [aR 13] σ1
      refine r_getR (pc := 17) (b := 16) hv 9 rfl rfl rfl rfl ?_
      refine r_iload_n (pc := 20) hv 10 rfl rfl ?_
      refine r_aload_n (pc := 21) hv 11 rfl rfl ?_
      refine r_getR (pc := 22) (b := 1) hv 12 rfl rfl rfl rfl ?_
      refine r_getR (pc := 25) (b := 4) hv 13 rfl rfl rfl rfl ?_
      refine r_iconst (pc := 28) hv 14 rfl  ?_
      refine r_iaload (pc := 29) (N := 3) hv 15 rfl rfl rfl (by decide) h.1 ?_
      replace h := h.2
      refine r_callV (pc := 30) (l := [aI (σ1.1 4 (0 : Int32).toNatClampNeg), aI l1]) (av := [aI l1, aI (σ1.1 4 (0 : Int32).toNatClampNeg)]) (a := 16) (t := []) hv 16 rfl rfl rfl rfl (rcv_o (by decide) rfl) trivial (hS.1 _ _ _ _ _ (fun r σ2 h => ?_) h)
      obtain ⟨x3, rfl, h⟩ := h
      show v 33 [some (aR 0), some (aI l1)] [aI x3] σ2
      exact r_ireturn (pc := 33) hv 17 rfl rfl h
    · replace h := h.2 c
      refine r_bipush (pc := 10) hv 5 rfl  ?_
      exact r_ireturn (pc := 12) hv 6 rfl rfl h
theorem m_X8_shake {S : Sp} (hS : Sys S) {l1 : Int32} {σ : St} {Φ : Rs} (h : ∀ v : Kt, Cl S Φ k_X8_shake v → Wk v → vc_X8_shake_0 S Φ v l1 σ) : S 102 [aR 0, aI l1] σ Φ :=
  hS.2 102 M_X8_shake k_X8_shake _ _ _ mkt_X8_shake (Nat.le_of_ble_eq_true rfl) (fun v hv hw => w_X8_shake_0 hS hv hw   l1 σ (h v hv hw))
def vc_X8_worst_0 (S : Sp) (Φ : Rs) (v : Kt) (l1 : Int32) (σ : St) : Prop := S 131 [aR 0] σ (fun r σ1 => r = [aR 13] ∧ (((l1 : Int32) = 0 → (Φ [aI (σ1.1 16 4)] σ1)) ∧ (¬ ((l1 : Int32) = 0) → (((l1 : Int32) = 1 → (Φ [aI (σ1.1 16 5)] σ1)) ∧ (¬ ((l1 : Int32) = 1) → (((l1 : Int32) = 2 → (Φ [aI (σ1.1 16 6)] σ1)) ∧ (¬ ((l1 : Int32) = 2) → (((l1 : Int32) = 3 → (Φ [aI (σ1.1 16 3)] σ1)) ∧ (¬ ((l1 : Int32) = 3) → (Φ [aI (-1)] σ1))))))))))
theorem w_X8_worst_0 {S : Sp} (hS : Sys S) {Φ : Rs} {v : Kt} (hv : Cl S Φ k_X8_worst v) (hw : Wk v) (l1 : Int32) (σ : St) (h : vc_X8_worst_0 S Φ v l1 σ) : v 0 [some (aR 0), some (aI l1), none] [] σ := by
  unfold vc_X8_worst_0 at h
  refine r_aload_n (pc := 0) hv 0 rfl rfl ?_
  refine r_callV (pc := 1) (l := []) (av := []) (a := 0) (t := []) hv 1 rfl rfl rfl rfl (rcv_o (by decide) rfl) trivial (hS.1 _ _ _ _ _ (fun r σ1 h => ?_) h)
  obtain ⟨rfl, h⟩ := h
  show v 4 [some (aR 0), some (aI l1), none] [aR 13] σ1
  refine r_getR (pc := 4) (b := 16) hv 2 rfl rfl rfl rfl ?_
  refine r_astore_n (pc := 7) (lo' := [some (aR 0), some (aI l1), some (aR 16)]) hv 3 rfl rfl ?_
  refine r_iload_n (pc := 8) hv 4 rfl rfl ?_
  refine r_tab (pc := 9) hv 5 rfl ?_
  refine ⟨fun c => ?_, fun c => ?_⟩
  · replace h := h.1 c
    show v 40 [some (aR 0), some (aI l1), some (aR 16)] [] σ1
    refine r_aload_n (pc := 40) hv 6 rfl rfl ?_
    refine r_getI (pc := 41) hv 7 rfl rfl rfl ?_
    exact r_ireturn (pc := 44) hv 8 rfl rfl h
  · replace h := h.2 c
    refine ⟨fun c => ?_, fun c => ?_⟩
    · replace h := h.1 c
      show v 45 [some (aR 0), some (aI l1), some (aR 16)] [] σ1
      refine r_aload_n (pc := 45) hv 9 rfl rfl ?_
      refine r_getI (pc := 46) hv 10 rfl rfl rfl ?_
      exact r_ireturn (pc := 49) hv 11 rfl rfl h
    · replace h := h.2 c
      refine ⟨fun c => ?_, fun c => ?_⟩
      · replace h := h.1 c
        show v 50 [some (aR 0), some (aI l1), some (aR 16)] [] σ1
        refine r_aload_n (pc := 50) hv 12 rfl rfl ?_
        refine r_getI (pc := 51) hv 13 rfl rfl rfl ?_
        exact r_ireturn (pc := 54) hv 14 rfl rfl h
      · replace h := h.2 c
        refine ⟨fun c => ?_, fun c => ?_⟩
        · replace h := h.1 c
          show v 55 [some (aR 0), some (aI l1), some (aR 16)] [] σ1
          refine r_aload_n (pc := 55) hv 15 rfl rfl ?_
          refine r_getI (pc := 56) hv 16 rfl rfl rfl ?_
          exact r_ireturn (pc := 59) hv 17 rfl rfl h
        · replace h := h.2 c
          show v 60 [some (aR 0), some (aI l1), some (aR 16)] [] σ1
          refine r_iconst (pc := 60) hv 18 rfl  ?_
          exact r_ireturn (pc := 61) hv 19 rfl rfl h
theorem m_X8_worst {S : Sp} (hS : Sys S) {l1 : Int32} {σ : St} {Φ : Rs} (h : ∀ v : Kt, Cl S Φ k_X8_worst v → Wk v → vc_X8_worst_0 S Φ v l1 σ) : S 103 [aR 0, aI l1] σ Φ :=
  hS.2 103 M_X8_worst k_X8_worst _ _ _ mkt_X8_worst (Nat.le_of_ble_eq_true rfl) (fun v hv hw => w_X8_worst_0 hS hv hw   l1 σ (h v hv hw))
def vc_X8_safe_0 (S : Sp) (Φ : Rs) (v : Kt) (l1 : Int32) (σ : St) : Prop := ((l1 : Int32) < 1 → (Φ [aI (-2)] σ)) ∧ (¬ ((l1 : Int32) < 1) → (((l1 : Int32) ≤ 1000 → (S 131 [aR 0] σ (fun r σ1 => r = [aR 13] ∧ (S 142 [aI (l1 * (σ1.1 16 4))] σ1 (fun r σ2 => ∃ x3 : Int32, r = [aI x3] ∧ (Φ [aI x3] σ2)))))) ∧ (¬ ((l1 : Int32) ≤ 1000) → (Φ [aI (-2)] σ))))
theorem w_X8_safe_0 {S : Sp} (hS : Sys S) {Φ : Rs} {v : Kt} (hv : Cl S Φ k_X8_safe v) (hw : Wk v) (l1 : Int32) (σ : St) (h : vc_X8_safe_0 S Φ v l1 σ) : v 0 [some (aR 0), some (aI l1)] [] σ := by
  unfold vc_X8_safe_0 at h
  refine r_iload_n (pc := 0) hv 0 rfl rfl ?_
  refine r_iconst (pc := 1) hv 1 rfl  ?_
  refine r_icmp_lt (pc := 2) hv 2 rfl (fun c => ?_) (fun c => ?_)
  · replace h := h.1 c
    refine r_bipush (pc := 12) hv 6 rfl  ?_
    exact r_ireturn (pc := 14) hv 7 rfl rfl h
  · replace h := h.2 c
    refine r_iload_n (pc := 5) hv 3 rfl rfl ?_
    refine r_sipush (pc := 6) hv 4 rfl  ?_
    refine r_icmp_le (pc := 9) hv 5 rfl (fun c => ?_) (fun c => ?_)
    · replace h := h.1 c
      refine r_iload_n (pc := 15) hv 8 rfl rfl ?_
      refine r_aload_n (pc := 16) hv 9 rfl rfl ?_
      refine r_callV (pc := 17) (l := []) (av := []) (a := 0) (t := [aI l1]) hv 10 rfl rfl rfl rfl (rcv_o (by decide) rfl) trivial (hS.1 _ _ _ _ _ (fun r σ1 h => ?_) h)
      obtain ⟨rfl, h⟩ := h
      show v 20 [some (aR 0), some (aI l1)] [aR 13, aI l1] σ1
      refine r_getR (pc := 20) (b := 16) hv 11 rfl rfl rfl rfl ?_
      refine r_getI (pc := 23) hv 12 rfl rfl rfl ?_
      refine r_imul (pc := 26) hv 13 rfl  ?_
      refine r_callS (pc := 27) (l := [aI (l1 * (σ1.1 16 4))]) (av := [aI (l1 * (σ1.1 16 4))]) (t := []) hv 14 rfl (Or.inl rfl) rfl rfl rfl trivial (hS.1 _ _ _ _ _ (fun r σ2 h => ?_) h)
      obtain ⟨x3, rfl, h⟩ := h
      show v 30 [some (aR 0), some (aI l1)] [aI x3] σ2
      exact r_ireturn (pc := 30) hv 15 rfl rfl h
    · replace h := h.2 c
      refine r_bipush (pc := 12) hv 6 rfl  ?_
      exact r_ireturn (pc := 14) hv 7 rfl rfl h
theorem m_X8_safe {S : Sp} (hS : Sys S) {l1 : Int32} {σ : St} {Φ : Rs} (h : ∀ v : Kt, Cl S Φ k_X8_safe v → Wk v → vc_X8_safe_0 S Φ v l1 σ) : S 104 [aR 0, aI l1] σ Φ :=
  hS.2 104 M_X8_safe k_X8_safe _ _ _ mkt_X8_safe (Nat.le_of_ble_eq_true rfl) (fun v hv hw => w_X8_safe_0 hS hv hw   l1 σ (h v hv hw))
def vc_X8_ring_34 (S : Sp) (Φ : Rs) (v : Kt) (l1 : Int32) (l2 : Int64) (l4 : Int32) (σ : St) : Prop := ((9 : Int32) < l4 → (Φ [aL l2] σ)) ∧ (¬ ((9 : Int32) < l4) → (S 131 [aR 0] σ (fun r σ1 => r = [aR 13] ∧ (S 12 [aR 13, aI l4] σ1 (fun r σ2 => ∃ x3 : Int32, r = [aI x3] ∧ (v 34 [some (aR 0), some (aI l1), some (aL (l2 + (((l4 : Int32).toInt64) * ((x3 : Int32).toInt64)))), none, some (aI (l4 + 1))] [] σ2))))))
theorem w_X8_ring_34 {S : Sp} (hS : Sys S) {Φ : Rs} {v : Kt} (hv : Cl S Φ k_X8_ring v) (hw : Wk v) (l1 : Int32) (l2 : Int64) (l4 : Int32) (σ : St) (h : vc_X8_ring_34 S Φ v l1 l2 l4 σ) : v 34 [some (aR 0), some (aI l1), some (aL l2), none, some (aI l4)] [] σ := by
  unfold vc_X8_ring_34 at h
  refine r_iload (pc := 34) hv 20 rfl rfl ?_
  refine r_bipush (pc := 36) hv 21 rfl  ?_
  refine r_icmp_gt (pc := 38) hv 22 rfl (fun c => ?_) (fun c => ?_)
  · replace h := h.1 c
    refine r_lload_n (pc := 64) hv 36 rfl rfl ?_
    exact r_lreturn (pc := 65) hv 37 rfl h
  · replace h := h.2 c
    refine r_lload_n (pc := 41) hv 23 rfl rfl ?_
    refine r_iload (pc := 42) hv 24 rfl rfl ?_
    refine r_i2l (pc := 44) hv 25 rfl  ?_
    refine r_aload_n (pc := 45) hv 26 rfl rfl ?_
    refine r_callV (pc := 46) (l := []) (av := []) (a := 0) (t := [aL ((l4 : Int32).toInt64), aL l2]) hv 27 rfl rfl rfl rfl (rcv_o (by decide) rfl) trivial (hS.1 _ _ _ _ _ (fun r σ1 h => ?_) h)
    obtain ⟨rfl, h⟩ := h
    show v 49 [some (aR 0), some (aI l1), some (aL l2), none, some (aI l4)] [aR 13, aL ((l4 : Int32).toInt64), aL l2] σ1
    refine r_iload (pc := 49) hv 28 rfl rfl ?_
    refine r_callV (pc := 51) (l := [aI l4]) (av := [aI l4]) (a := 13) (t := [aL ((l4 : Int32).toInt64), aL l2]) hv 29 rfl rfl rfl rfl (rcv_o (by decide) rfl) trivial (hS.1 _ _ _ _ _ (fun r σ2 h => ?_) h)
    obtain ⟨x3, rfl, h⟩ := h
    show v 54 [some (aR 0), some (aI l1), some (aL l2), none, some (aI l4)] [aI x3, aL ((l4 : Int32).toInt64), aL l2] σ2
    refine r_i2l (pc := 54) hv 30 rfl  ?_
    refine r_lmul (pc := 55) hv 31 rfl  ?_
    refine r_ladd (pc := 56) hv 32 rfl  ?_
    refine r_lstore_n (pc := 57) (lo' := [some (aR 0), some (aI l1), some (aL (l2 + (((l4 : Int32).toInt64) * ((x3 : Int32).toInt64)))), none, some (aI l4)]) hv 33 rfl rfl ?_
    refine r_iinc (pc := 58) (lo' := [some (aR 0), some (aI l1), some (aL (l2 + (((l4 : Int32).toInt64) * ((x3 : Int32).toInt64)))), none, some (aI (l4 + 1))]) hv 34 rfl rfl rfl ?_
    refine r_goto (pc := 61) hv 35 rfl  ?_
    exact h
def vc_X8_ring_0 (S : Sp) (Φ : Rs) (v : Kt) (l1 : Int32) (σ : St) : Prop := ((l1 : Int32) < (-1) → (Φ [aL (-9223372036854775808)] σ)) ∧ (¬ ((l1 : Int32) < (-1)) → (((l1 : Int32) ≤ 9 → (((l1 : Int32) < 0 → (v 34 [some (aR 0), some (aI l1), some (aL 0), none, some (aI 1)] [] σ)) ∧ (¬ ((l1 : Int32) < 0) → (S 131 [aR 0] σ (fun r σ1 => r = [aR 13] ∧ (S 12 [aR 13, aI l1] σ1 (fun r σ2 => ∃ x3 : Int32, r = [aI x3] ∧ (Φ [aL ((x3 : Int32).toInt64)] σ2)))))))) ∧ (¬ ((l1 : Int32) ≤ 9) → (Φ [aL (-9223372036854775808)] σ))))
theorem w_X8_ring_0 {S : Sp} (hS : Sys S) {Φ : Rs} {v : Kt} (hv : Cl S Φ k_X8_ring v) (hw : Wk v) (l1 : Int32) (σ : St) (h : vc_X8_ring_0 S Φ v l1 σ) : v 0 [some (aR 0), some (aI l1), none, none, none] [] σ := by
  unfold vc_X8_ring_0 at h
  refine r_iload_n (pc := 0) hv 0 rfl rfl ?_
  refine r_iconst (pc := 1) hv 1 rfl  ?_
  refine r_icmp_lt (pc := 2) hv 2 rfl (fun c => ?_) (fun c => ?_)
  · replace h := h.1 c
    refine r_ldc2_w (pc := 11) hv 6 rfl  ?_
    exact r_lreturn (pc := 14) hv 7 rfl h
  · replace h := h.2 c
    refine r_iload_n (pc := 5) hv 3 rfl rfl ?_
    refine r_bipush (pc := 6) hv 4 rfl  ?_
    refine r_icmp_le (pc := 8) hv 5 rfl (fun c => ?_) (fun c => ?_)
    · replace h := h.1 c
      refine r_iload_n (pc := 15) hv 8 rfl rfl ?_
      refine r_if_lt (pc := 16) hv 9 rfl (fun c => ?_) (fun c => ?_)
      · replace h := h.1 c
        refine r_lconst (pc := 29) hv 16 rfl  ?_
        refine r_lstore_n (pc := 30) (lo' := [some (aR 0), some (aI l1), some (aL 0), none, none]) hv 17 rfl rfl ?_
        refine r_iconst (pc := 31) hv 18 rfl  ?_
        refine r_istore (pc := 32) (lo' := [some (aR 0), some (aI l1), some (aL 0), none, some (aI 1)]) hv 19 rfl rfl ?_
        exact h
      · replace h := h.2 c
        refine r_aload_n (pc := 19) hv 10 rfl rfl ?_
        refine r_callV (pc := 20) (l := []) (av := []) (a := 0) (t := []) hv 11 rfl rfl rfl rfl (rcv_o (by decide) rfl) trivial (hS.1 _ _ _ _ _ (fun r σ1 h => ?_) h)
        obtain ⟨rfl, h⟩ := h
        show v 23 [some (aR 0), some (aI l1), none, none, none] [aR 13] σ1
        refine r_iload_n (pc := 23) hv 12 rfl rfl ?_
        refine r_callV (pc := 24) (l := [aI l1]) (av := [aI l1]) (a := 13) (t := []) hv 13 rfl rfl rfl rfl (rcv_o (by decide) rfl) trivial (hS.1 _ _ _ _ _ (fun r σ2 h => ?_) h)
        obtain ⟨x3, rfl, h⟩ := h
        show v 27 [some (aR 0), some (aI l1), none, none, none] [aI x3] σ2
        refine r_i2l (pc := 27) hv 14 rfl  ?_
        exact r_lreturn (pc := 28) hv 15 rfl h
    · replace h := h.2 c
      refine r_ldc2_w (pc := 11) hv 6 rfl  ?_
      exact r_lreturn (pc := 14) hv 7 rfl h
theorem m_X8_ring {S : Sp} (hS : Sys S) {l1 : Int32} {σ : St} {Φ : Rs} (h : ∀ v : Kt, Cl S Φ k_X8_ring v → Wk v → vc_X8_ring_0 S Φ v l1 σ) : S 105 [aR 0, aI l1] σ Φ :=
  hS.2 105 M_X8_ring k_X8_ring _ _ _ mkt_X8_ring (Nat.le_of_ble_eq_true rfl) (fun v hv hw => w_X8_ring_0 hS hv hw   l1 σ (h v hv hw))
def vc_X8_sets_0 (S : Sp) (Φ : Rs) (v : Kt) (l1 : Int32) (σ : St) : Prop := S 131 [aR 0] σ (fun r σ1 => r = [aR 13] ∧ (((l1 : Int32) = 0 → (Φ [aI (σ1.1 13 4)] σ1)) ∧ (¬ ((l1 : Int32) = 0) → (((l1 : Int32) = 1 → (Φ [aI (σ1.1 13 5)] σ1)) ∧ (¬ ((l1 : Int32) = 1) → (((l1 : Int32) = 2 → (S 38 [aR 1] σ1 (fun r σ2 => ∃ x3 : Int32, r = [aI x3] ∧ (Φ [aI x3] σ2)))) ∧ (¬ ((l1 : Int32) = 2) → (((l1 : Int32) = 3 → (S 8 [aR 13] σ1 (fun r σ4 => ∃ x5 : Int32, r = [aI x5] ∧ (Φ [aI x5] σ4)))) ∧ (¬ ((l1 : Int32) = 3) → (((l1 : Int32) = 4 → (S 10 [aR 13] σ1 (fun r σ6 => ∃ x7 : Int32, r = [aI x7] ∧ (Φ [aI x7] σ6)))) ∧ (¬ ((l1 : Int32) = 4) → (Φ [aI (-1)] σ1))))))))))))
theorem w_X8_sets_0 {S : Sp} (hS : Sys S) {Φ : Rs} {v : Kt} (hv : Cl S Φ k_X8_sets v) (hw : Wk v) (l1 : Int32) (σ : St) (h : vc_X8_sets_0 S Φ v l1 σ) : v 0 [some (aR 0), some (aI l1), none] [] σ := by
  unfold vc_X8_sets_0 at h
  refine r_aload_n (pc := 0) hv 0 rfl rfl ?_
  refine r_callV (pc := 1) (l := []) (av := []) (a := 0) (t := []) hv 1 rfl rfl rfl rfl (rcv_o (by decide) rfl) trivial (hS.1 _ _ _ _ _ (fun r σ1 h => ?_) h)
  obtain ⟨rfl, h⟩ := h
  show v 4 [some (aR 0), some (aI l1), none] [aR 13] σ1
  refine r_astore_n (pc := 4) (lo' := [some (aR 0), some (aI l1), some (aR 13)]) hv 2 rfl rfl ?_
  refine r_iload_n (pc := 5) hv 3 rfl rfl ?_
  refine r_tab (pc := 6) hv 4 rfl ?_
  refine ⟨fun c => ?_, fun c => ?_⟩
  · replace h := h.1 c
    show v 40 [some (aR 0), some (aI l1), some (aR 13)] [] σ1
    refine r_aload_n (pc := 40) hv 5 rfl rfl ?_
    refine r_getI (pc := 41) hv 6 rfl rfl rfl ?_
    exact r_ireturn (pc := 44) hv 7 rfl rfl h
  · replace h := h.2 c
    refine ⟨fun c => ?_, fun c => ?_⟩
    · replace h := h.1 c
      show v 45 [some (aR 0), some (aI l1), some (aR 13)] [] σ1
      refine r_aload_n (pc := 45) hv 8 rfl rfl ?_
      refine r_getI (pc := 46) hv 9 rfl rfl rfl ?_
      exact r_ireturn (pc := 49) hv 10 rfl rfl h
    · replace h := h.2 c
      refine ⟨fun c => ?_, fun c => ?_⟩
      · replace h := h.1 c
        show v 50 [some (aR 0), some (aI l1), some (aR 13)] [] σ1
        refine r_aload_n (pc := 50) hv 11 rfl rfl ?_
        refine r_getR (pc := 51) (b := 1) hv 12 rfl rfl rfl rfl ?_
        refine r_callV (pc := 54) (l := []) (av := []) (a := 1) (t := []) hv 13 rfl rfl rfl rfl (rcv_o (by decide) rfl) trivial (hS.1 _ _ _ _ _ (fun r σ2 h => ?_) h)
        obtain ⟨x3, rfl, h⟩ := h
        show v 57 [some (aR 0), some (aI l1), some (aR 13)] [aI x3] σ2
        exact r_ireturn (pc := 57) hv 14 rfl rfl h
      · replace h := h.2 c
        refine ⟨fun c => ?_, fun c => ?_⟩
        · replace h := h.1 c
          show v 58 [some (aR 0), some (aI l1), some (aR 13)] [] σ1
          refine r_aload_n (pc := 58) hv 15 rfl rfl ?_
          refine r_callV (pc := 59) (l := []) (av := []) (a := 13) (t := []) hv 16 rfl rfl rfl rfl (rcv_o (by decide) rfl) trivial (hS.1 _ _ _ _ _ (fun r σ4 h => ?_) h)
          obtain ⟨x5, rfl, h⟩ := h
          show v 62 [some (aR 0), some (aI l1), some (aR 13)] [aI x5] σ4
          exact r_ireturn (pc := 62) hv 17 rfl rfl h
        · replace h := h.2 c
          refine ⟨fun c => ?_, fun c => ?_⟩
          · replace h := h.1 c
            show v 63 [some (aR 0), some (aI l1), some (aR 13)] [] σ1
            refine r_aload_n (pc := 63) hv 18 rfl rfl ?_
            refine r_callV (pc := 64) (l := []) (av := []) (a := 13) (t := []) hv 19 rfl rfl rfl rfl (rcv_o (by decide) rfl) trivial (hS.1 _ _ _ _ _ (fun r σ6 h => ?_) h)
            obtain ⟨x7, rfl, h⟩ := h
            show v 67 [some (aR 0), some (aI l1), some (aR 13)] [aI x7] σ6
            exact r_ireturn (pc := 67) hv 20 rfl rfl h
          · replace h := h.2 c
            show v 68 [some (aR 0), some (aI l1), some (aR 13)] [] σ1
            refine r_iconst (pc := 68) hv 21 rfl  ?_
            exact r_ireturn (pc := 69) hv 22 rfl rfl h
theorem m_X8_sets {S : Sp} (hS : Sys S) {l1 : Int32} {σ : St} {Φ : Rs} (h : ∀ v : Kt, Cl S Φ k_X8_sets v → Wk v → vc_X8_sets_0 S Φ v l1 σ) : S 106 [aR 0, aI l1] σ Φ :=
  hS.2 106 M_X8_sets k_X8_sets _ _ _ mkt_X8_sets (Nat.le_of_ble_eq_true rfl) (fun v hv hw => w_X8_sets_0 hS hv hw   l1 σ (h v hv hw))
def vc_X8_loads_56 (S : Sp) (Φ : Rs) (v : Kt) (l1 : Int32) (l2 : Int32) (l3 : Int32) (l4 : Int32) (l5 : Int32) (l6 : Int32) (l7 : Int32) (s0 : Int32) (σ : St) : Prop := (¬ (b2 (¬ (s0 : Int32) < 0 ∧ ¬ σ.1 1 3 ≤ s0) : Int32) = 0 → (S 43 [aR 1, aI s0] σ (fun r σ1 => ∃ x2 : Int32, r = [aI x2] ∧ (v 18 [some (aR 0), some (aI l1), some (aI l2), some (aI l3), some (aI l4), some (aI l5), some (aI (l6 + x2)), some (aI (l7 + 1)), none] [] σ1)))) ∧ ((b2 (¬ (s0 : Int32) < 0 ∧ ¬ σ.1 1 3 ≤ s0) : Int32) = 0 → (Φ [aI (-1)] σ))
theorem w_X8_loads_56 {S : Sp} (hS : Sys S) {Φ : Rs} {v : Kt} (hv : Cl S Φ k_X8_loads v) (hw : Wk v) (l1 : Int32) (l2 : Int32) (l3 : Int32) (l4 : Int32) (l5 : Int32) (l6 : Int32) (l7 : Int32) (s0 : Int32) (σ : St) (h : vc_X8_loads_56 S Φ v l1 l2 l3 l4 l5 l6 l7 s0 σ) : v 56 [some (aR 0), some (aI l1), some (aI l2), some (aI l3), some (aI l4), some (aI l5), some (aI l6), some (aI l7), none] [aI s0] σ := by
  unfold vc_X8_loads_56 at h
  refine r_istore (pc := 56) (lo' := [some (aR 0), some (aI l1), some (aI l2), some (aI l3), some (aI l4), some (aI l5), some (aI l6), some (aI l7), some (aI s0)]) hv 29 rfl rfl ?_
  refine r_aload_n (pc := 58) hv 30 rfl rfl ?_
  refine r_getR (pc := 59) (b := 1) hv 31 rfl rfl rfl rfl ?_
  refine r_iload (pc := 62) hv 32 rfl rfl ?_
  refine r_callV (pc := 64) (l := [aI s0]) (av := [aI s0]) (a := 1) (t := []) hv 33 rfl rfl rfl rfl (rcv_o (by decide) rfl) trivial (t_X2_isHole hS isPat_1 ?_)
  show v 67 [some (aR 0), some (aI l1), some (aI l2), some (aI l3), some (aI l4), some (aI l5), some (aI l6), some (aI l7), some (aI s0)] [aI (b2 (¬ (s0 : Int32) < 0 ∧ ¬ σ.1 1 3 ≤ s0))] σ
  refine r_if_ne (pc := 67) hv 34 rfl (fun c => ?_) (fun c => ?_)
  · replace h := h.1 c
    refine r_iload (pc := 72) hv 37 rfl rfl ?_
    refine r_aload_n (pc := 74) hv 38 rfl rfl ?_
    refine r_getR (pc := 75) (b := 1) hv 39 rfl rfl rfl rfl ?_
    refine r_iload (pc := 78) hv 40 rfl rfl ?_
    refine r_callV (pc := 80) (l := [aI s0]) (av := [aI s0]) (a := 1) (t := [aI l6]) hv 41 rfl rfl rfl rfl (rcv_o (by decide) rfl) trivial (hS.1 _ _ _ _ _ (fun r σ1 h => ?_) h)
    obtain ⟨x2, rfl, h⟩ := h
    show v 83 [some (aR 0), some (aI l1), some (aI l2), some (aI l3), some (aI l4), some (aI l5), some (aI l6), some (aI l7), some (aI s0)] [aI x2, aI l6] σ1
    refine r_iadd (pc := 83) hv 42 rfl  ?_
    refine r_istore (pc := 84) (lo' := [some (aR 0), some (aI l1), some (aI l2), some (aI l3), some (aI l4), some (aI l5), some (aI (l6 + x2)), some (aI l7), some (aI s0)]) hv 43 rfl rfl ?_
    refine r_iinc (pc := 86) (lo' := [some (aR 0), some (aI l1), some (aI l2), some (aI l3), some (aI l4), some (aI l5), some (aI (l6 + x2)), some (aI (l7 + 1)), some (aI s0)]) hv 44 rfl rfl rfl ?_
    refine r_goto (pc := 89) hv 45 rfl  ?_
    exact hw 18 [some (aR 0), some (aI l1), some (aI l2), some (aI l3), some (aI l4), some (aI l5), some (aI (l6 + x2)), some (aI (l7 + 1)), none] _ _ _ ⟨rfl, ⟨rfl, ⟨rfl, ⟨rfl, ⟨rfl, ⟨rfl, ⟨rfl, ⟨rfl, trivial⟩⟩⟩⟩⟩⟩⟩⟩ h
  · replace h := h.2 c
    refine r_iconst (pc := 70) hv 35 rfl  ?_
    exact r_ireturn (pc := 71) hv 36 rfl rfl h
def vc_X8_loads_18 (S : Sp) (Φ : Rs) (v : Kt) (l1 : Int32) (l2 : Int32) (l3 : Int32) (l4 : Int32) (l5 : Int32) (l6 : Int32) (l7 : Int32) (σ : St) : Prop := ((l1 : Int32) ≤ l7 → (Φ [aI l6] σ)) ∧ (¬ ((l1 : Int32) ≤ l7) → ((¬ (l7 : Int32) = 0 → ((¬ (l7 : Int32) = 1 → ((¬ (l7 : Int32) = 2 → (vc_X8_loads_56 S Φ v  l1 l2 l3 l4 l5 l6 l7 l5 σ)) ∧ ((l7 : Int32) = 2 → (vc_X8_loads_56 S Φ v  l1 l2 l3 l4 l5 l6 l7 l4 σ)))) ∧ ((l7 : Int32) = 1 → (vc_X8_loads_56 S Φ v  l1 l2 l3 l4 l5 l6 l7 l3 σ)))) ∧ ((l7 : Int32) = 0 → (vc_X8_loads_56 S Φ v  l1 l2 l3 l4 l5 l6 l7 l2 σ))))
theorem w_X8_loads_18 {S : Sp} (hS : Sys S) {Φ : Rs} {v : Kt} (hv : Cl S Φ k_X8_loads v) (hw : Wk v) (l1 : Int32) (l2 : Int32) (l3 : Int32) (l4 : Int32) (l5 : Int32) (l6 : Int32) (l7 : Int32) (σ : St) (h : vc_X8_loads_18 S Φ v l1 l2 l3 l4 l5 l6 l7 σ) : v 18 [some (aR 0), some (aI l1), some (aI l2), some (aI l3), some (aI l4), some (aI l5), some (aI l6), some (aI l7), none] [] σ := by
  unfold vc_X8_loads_18 at h
  refine r_iload (pc := 18) hv 11 rfl rfl ?_
  refine r_iload_n (pc := 20) hv 12 rfl rfl ?_
  refine r_icmp_ge (pc := 21) hv 13 rfl (fun c => ?_) (fun c => ?_)
  · replace h := h.1 c
    refine r_iload (pc := 92) hv 46 rfl rfl ?_
    exact r_ireturn (pc := 94) hv 47 rfl rfl h
  · replace h := h.2 c
    refine r_iload (pc := 24) hv 14 rfl rfl ?_
    refine r_if_ne (pc := 26) hv 15 rfl (fun c => ?_) (fun c => ?_)
    · replace h := h.1 c
      refine r_iload (pc := 33) hv 18 rfl rfl ?_
      refine r_iconst (pc := 35) hv 19 rfl  ?_
      refine r_icmp_ne (pc := 36) hv 20 rfl (fun c => ?_) (fun c => ?_)
      · replace h := h.1 c
        refine r_iload (pc := 43) hv 23 rfl rfl ?_
        refine r_iconst (pc := 45) hv 24 rfl  ?_
        refine r_icmp_ne (pc := 46) hv 25 rfl (fun c => ?_) (fun c => ?_)
        · replace h := h.1 c
          refine r_iload (pc := 54) hv 28 rfl rfl ?_
          exact (w_X8_loads_56 hS hv hw   l1 l2 l3 l4 l5 l6 l7 l5  σ h)
        · replace h := h.2 c
          refine r_iload (pc := 49) hv 26 rfl rfl ?_
          refine r_goto (pc := 51) hv 27 rfl  ?_
          exact (w_X8_loads_56 hS hv hw   l1 l2 l3 l4 l5 l6 l7 l4  σ h)
      · replace h := h.2 c
        refine r_iload_n (pc := 39) hv 21 rfl rfl ?_
        refine r_goto (pc := 40) hv 22 rfl  ?_
        exact (w_X8_loads_56 hS hv hw   l1 l2 l3 l4 l5 l6 l7 l3  σ h)
    · replace h := h.2 c
      refine r_iload_n (pc := 29) hv 16 rfl rfl ?_
      refine r_goto (pc := 30) hv 17 rfl  ?_
      exact (w_X8_loads_56 hS hv hw   l1 l2 l3 l4 l5 l6 l7 l2  σ h)
def vc_X8_loads_0 (S : Sp) (Φ : Rs) (v : Kt) (l1 : Int32) (l2 : Int32) (l3 : Int32) (l4 : Int32) (l5 : Int32) (σ : St) : Prop := ((l1 : Int32) < 0 → (Φ [aI (-2)] σ)) ∧ (¬ ((l1 : Int32) < 0) → (((l1 : Int32) ≤ 4 → (v 18 [some (aR 0), some (aI l1), some (aI l2), some (aI l3), some (aI l4), some (aI l5), some (aI 0), some (aI 0), none] [] σ)) ∧ (¬ ((l1 : Int32) ≤ 4) → (Φ [aI (-2)] σ))))
theorem w_X8_loads_0 {S : Sp} (hS : Sys S) {Φ : Rs} {v : Kt} (hv : Cl S Φ k_X8_loads v) (hw : Wk v) (l1 : Int32) (l2 : Int32) (l3 : Int32) (l4 : Int32) (l5 : Int32) (σ : St) (h : vc_X8_loads_0 S Φ v l1 l2 l3 l4 l5 σ) : v 0 [some (aR 0), some (aI l1), some (aI l2), some (aI l3), some (aI l4), some (aI l5), none, none, none] [] σ := by
  unfold vc_X8_loads_0 at h
  refine r_iload_n (pc := 0) hv 0 rfl rfl ?_
  refine r_if_lt (pc := 1) hv 1 rfl (fun c => ?_) (fun c => ?_)
  · replace h := h.1 c
    refine r_bipush (pc := 9) hv 5 rfl  ?_
    exact r_ireturn (pc := 11) hv 6 rfl rfl h
  · replace h := h.2 c
    refine r_iload_n (pc := 4) hv 2 rfl rfl ?_
    refine r_iconst (pc := 5) hv 3 rfl  ?_
    refine r_icmp_le (pc := 6) hv 4 rfl (fun c => ?_) (fun c => ?_)
    · replace h := h.1 c
      refine r_iconst (pc := 12) hv 7 rfl  ?_
      refine r_istore (pc := 13) (lo' := [some (aR 0), some (aI l1), some (aI l2), some (aI l3), some (aI l4), some (aI l5), some (aI 0), none, none]) hv 8 rfl rfl ?_
      refine r_iconst (pc := 15) hv 9 rfl  ?_
      refine r_istore (pc := 16) (lo' := [some (aR 0), some (aI l1), some (aI l2), some (aI l3), some (aI l4), some (aI l5), some (aI 0), some (aI 0), none]) hv 10 rfl rfl ?_
      exact h
    · replace h := h.2 c
      refine r_bipush (pc := 9) hv 5 rfl  ?_
      exact r_ireturn (pc := 11) hv 6 rfl rfl h
theorem m_X8_loads {S : Sp} (hS : Sys S) {l1 : Int32} {l2 : Int32} {l3 : Int32} {l4 : Int32} {l5 : Int32} {σ : St} {Φ : Rs} (h : ∀ v : Kt, Cl S Φ k_X8_loads v → Wk v → vc_X8_loads_0 S Φ v l1 l2 l3 l4 l5 σ) : S 107 [aR 0, aI l1, aI l2, aI l3, aI l4, aI l5] σ Φ :=
  hS.2 107 M_X8_loads k_X8_loads _ _ _ mkt_X8_loads (Nat.le_of_ble_eq_true rfl) (fun v hv hw => w_X8_loads_0 hS hv hw   l1 l2 l3 l4 l5 σ (h v hv hw))
def vc_X8_misfire_0 (S : Sp) (Φ : Rs) (v : Kt) (l1 : Int32) (l2 : Int32) (σ : St) : Prop := ((b2 (¬ (l1 : Int32) < 0 ∧ ¬ σ.1 1 3 ≤ l1) : Int32) = 0 → (Φ [aI (-1)] σ)) ∧ (¬ ((b2 (¬ (l1 : Int32) < 0 ∧ ¬ σ.1 1 3 ≤ l1) : Int32) = 0) → (((b2 (¬ (l2 : Int32) < 0 ∧ ¬ 3 < (l2 : Int32)) : Int32) = 0 → (Φ [aI (-1)] σ)) ∧ (¬ ((b2 (¬ (l2 : Int32) < 0 ∧ ¬ 3 < (l2 : Int32)) : Int32) = 0) → (S 138 [aR 0, aI l1, aI (-1), aI l2] σ (fun r σ1 => ∃ x2 : Int32, r = [aI x2] ∧ (Φ [aI x2] σ1))))))
theorem w_X8_misfire_0 {S : Sp} (hS : Sys S) {Φ : Rs} {v : Kt} (hv : Cl S Φ k_X8_misfire v) (hw : Wk v) (l1 : Int32) (l2 : Int32) (σ : St) (h : vc_X8_misfire_0 S Φ v l1 l2 σ) : v 0 [some (aR 0), some (aI l1), some (aI l2)] [] σ := by
  unfold vc_X8_misfire_0 at h
  refine r_aload_n (pc := 0) hv 0 rfl rfl ?_
  refine r_getR (pc := 1) (b := 1) hv 1 rfl rfl rfl rfl ?_
  refine r_iload_n (pc := 4) hv 2 rfl rfl ?_
  refine r_callV (pc := 5) (l := [aI l1]) (av := [aI l1]) (a := 1) (t := []) hv 3 rfl rfl rfl rfl (rcv_o (by decide) rfl) trivial (t_X2_isHole hS isPat_1 ?_)
  show v 8 [some (aR 0), some (aI l1), some (aI l2)] [aI (b2 (¬ (l1 : Int32) < 0 ∧ ¬ σ.1 1 3 ≤ l1))] σ
  refine r_if_eq (pc := 8) hv 4 rfl (fun c => ?_) (fun c => ?_)
  · replace h := h.1 c
    refine r_iconst (pc := 28) hv 14 rfl  ?_
    exact r_ireturn (pc := 29) hv 15 rfl rfl h
  · replace h := h.2 c
    refine r_iload_n (pc := 11) hv 5 rfl rfl ?_
    refine r_callS (pc := 12) (l := [aI l2]) (av := [aI l2]) (t := []) hv 6 rfl (Or.inl rfl) rfl rfl rfl trivial (t_X8_isHarm hS ?_)
    show v 15 [some (aR 0), some (aI l1), some (aI l2)] [aI (b2 (¬ (l2 : Int32) < 0 ∧ ¬ 3 < (l2 : Int32)))] σ
    refine r_if_eq (pc := 15) hv 7 rfl (fun c => ?_) (fun c => ?_)
    · replace h := h.1 c
      refine r_iconst (pc := 28) hv 14 rfl  ?_
      exact r_ireturn (pc := 29) hv 15 rfl rfl h
    · replace h := h.2 c
      refine r_aload_n (pc := 18) hv 8 rfl rfl ?_
      refine r_iload_n (pc := 19) hv 9 rfl rfl ?_
      refine r_iconst (pc := 20) hv 10 rfl  ?_
      refine r_iload_n (pc := 21) hv 11 rfl rfl ?_
      refine r_callV (pc := 22) (l := [aI l2, aI (-1), aI l1]) (av := [aI l1, aI (-1), aI l2]) (a := 0) (t := []) hv 12 rfl rfl rfl rfl (rcv_o (by decide) rfl) trivial (hS.1 _ _ _ _ _ (fun r σ1 h => ?_) h)
      obtain ⟨x2, rfl, h⟩ := h
      show v 25 [some (aR 0), some (aI l1), some (aI l2)] [aI x2] σ1
      refine r_goto (pc := 25) hv 13 rfl  ?_
      exact r_ireturn (pc := 29) hv 15 rfl rfl h
theorem m_X8_misfire {S : Sp} (hS : Sys S) {l1 : Int32} {l2 : Int32} {σ : St} {Φ : Rs} (h : ∀ v : Kt, Cl S Φ k_X8_misfire v → Wk v → vc_X8_misfire_0 S Φ v l1 l2 σ) : S 108 [aR 0, aI l1, aI l2] σ Φ :=
  hS.2 108 M_X8_misfire k_X8_misfire _ _ _ mkt_X8_misfire (Nat.le_of_ble_eq_true rfl) (fun v hv hw => w_X8_misfire_0 hS hv hw   l1 l2 σ (h v hv hw))
def vc_X8_broken_0 (S : Sp) (Φ : Rs) (v : Kt) (l1 : Int32) (l2 : Int32) (σ : St) : Prop := ((b2 (¬ (l1 : Int32) < 0 ∧ ¬ σ.1 1 4 ≤ l1) : Int32) = 0 → (Φ [aI (-1)] σ)) ∧ (¬ ((b2 (¬ (l1 : Int32) < 0 ∧ ¬ σ.1 1 4 ≤ l1) : Int32) = 0) → (((b2 (¬ (l2 : Int32) < 0 ∧ ¬ 3 < (l2 : Int32)) : Int32) = 0 → (Φ [aI (-1)] σ)) ∧ (¬ ((b2 (¬ (l2 : Int32) < 0 ∧ ¬ 3 < (l2 : Int32)) : Int32) = 0) → (S 138 [aR 0, aI (-1), aI l1, aI l2] σ (fun r σ1 => ∃ x2 : Int32, r = [aI x2] ∧ (Φ [aI x2] σ1))))))
theorem w_X8_broken_0 {S : Sp} (hS : Sys S) {Φ : Rs} {v : Kt} (hv : Cl S Φ k_X8_broken v) (hw : Wk v) (l1 : Int32) (l2 : Int32) (σ : St) (h : vc_X8_broken_0 S Φ v l1 l2 σ) : v 0 [some (aR 0), some (aI l1), some (aI l2)] [] σ := by
  unfold vc_X8_broken_0 at h
  refine r_aload_n (pc := 0) hv 0 rfl rfl ?_
  refine r_getR (pc := 1) (b := 1) hv 1 rfl rfl rfl rfl ?_
  refine r_iload_n (pc := 4) hv 2 rfl rfl ?_
  refine r_callV (pc := 5) (l := [aI l1]) (av := [aI l1]) (a := 1) (t := []) hv 3 rfl rfl rfl rfl (rcv_o (by decide) rfl) trivial (t_X2_isWire hS isPat_1 ?_)
  show v 8 [some (aR 0), some (aI l1), some (aI l2)] [aI (b2 (¬ (l1 : Int32) < 0 ∧ ¬ σ.1 1 4 ≤ l1))] σ
  refine r_if_eq (pc := 8) hv 4 rfl (fun c => ?_) (fun c => ?_)
  · replace h := h.1 c
    refine r_iconst (pc := 28) hv 14 rfl  ?_
    exact r_ireturn (pc := 29) hv 15 rfl rfl h
  · replace h := h.2 c
    refine r_iload_n (pc := 11) hv 5 rfl rfl ?_
    refine r_callS (pc := 12) (l := [aI l2]) (av := [aI l2]) (t := []) hv 6 rfl (Or.inl rfl) rfl rfl rfl trivial (t_X8_isHarm hS ?_)
    show v 15 [some (aR 0), some (aI l1), some (aI l2)] [aI (b2 (¬ (l2 : Int32) < 0 ∧ ¬ 3 < (l2 : Int32)))] σ
    refine r_if_eq (pc := 15) hv 7 rfl (fun c => ?_) (fun c => ?_)
    · replace h := h.1 c
      refine r_iconst (pc := 28) hv 14 rfl  ?_
      exact r_ireturn (pc := 29) hv 15 rfl rfl h
    · replace h := h.2 c
      refine r_aload_n (pc := 18) hv 8 rfl rfl ?_
      refine r_iconst (pc := 19) hv 9 rfl  ?_
      refine r_iload_n (pc := 20) hv 10 rfl rfl ?_
      refine r_iload_n (pc := 21) hv 11 rfl rfl ?_
      refine r_callV (pc := 22) (l := [aI l2, aI l1, aI (-1)]) (av := [aI (-1), aI l1, aI l2]) (a := 0) (t := []) hv 12 rfl rfl rfl rfl (rcv_o (by decide) rfl) trivial (hS.1 _ _ _ _ _ (fun r σ1 h => ?_) h)
      obtain ⟨x2, rfl, h⟩ := h
      show v 25 [some (aR 0), some (aI l1), some (aI l2)] [aI x2] σ1
      refine r_goto (pc := 25) hv 13 rfl  ?_
      exact r_ireturn (pc := 29) hv 15 rfl rfl h
theorem m_X8_broken {S : Sp} (hS : Sys S) {l1 : Int32} {l2 : Int32} {σ : St} {Φ : Rs} (h : ∀ v : Kt, Cl S Φ k_X8_broken v → Wk v → vc_X8_broken_0 S Φ v l1 l2 σ) : S 109 [aR 0, aI l1, aI l2] σ Φ :=
  hS.2 109 M_X8_broken k_X8_broken _ _ _ mkt_X8_broken (Nat.le_of_ble_eq_true rfl) (fun v hv hw => w_X8_broken_0 hS hv hw   l1 l2 σ (h v hv hw))
def vc_X8_critical_0 (S : Sp) (Φ : Rs) (v : Kt) (l1 : Int32) (σ : St) : Prop := ((l1 : Int32) = 0 → (S 139 [aR 0, aI (σ.1 1 3), aI 1] σ (fun r σ1 => ∃ x2 : Int32, r = [aI x2] ∧ (Φ [aI x2] σ1)))) ∧ (¬ ((l1 : Int32) = 0) → (((l1 : Int32) = 1 → (S 139 [aR 0, aI (σ.1 1 4), aI 0] σ (fun r σ3 => ∃ x4 : Int32, r = [aI x4] ∧ (Φ [aI x4] σ3)))) ∧ (¬ ((l1 : Int32) = 1) → (Φ [aI (-1)] σ))))
theorem w_X8_critical_0 {S : Sp} (hS : Sys S) {Φ : Rs} {v : Kt} (hv : Cl S Φ k_X8_critical v) (hw : Wk v) (l1 : Int32) (σ : St) (h : vc_X8_critical_0 S Φ v l1 σ) : v 0 [some (aR 0), some (aI l1)] [] σ := by
  unfold vc_X8_critical_0 at h
  refine r_iload_n (pc := 0) hv 0 rfl rfl ?_
  refine r_look (pc := 1) hv 1 rfl ?_
  refine ⟨fun c => ?_, fun c => ?_⟩
  · replace h := h.1 c
    show v 28 [some (aR 0), some (aI l1)] [] σ
    refine r_aload_n (pc := 28) hv 2 rfl rfl ?_
    refine r_aload_n (pc := 29) hv 3 rfl rfl ?_
    refine r_getR (pc := 30) (b := 1) hv 4 rfl rfl rfl rfl ?_
    refine r_getI (pc := 33) hv 5 rfl rfl rfl ?_
    refine r_iconst (pc := 36) hv 6 rfl  ?_
    refine r_callV (pc := 37) (l := [aI 1, aI (σ.1 1 3)]) (av := [aI (σ.1 1 3), aI 1]) (a := 0) (t := []) hv 7 rfl rfl rfl rfl (rcv_o (by decide) rfl) trivial (hS.1 _ _ _ _ _ (fun r σ1 h => ?_) h)
    obtain ⟨x2, rfl, h⟩ := h
    show v 40 [some (aR 0), some (aI l1)] [aI x2] σ1
    exact r_ireturn (pc := 40) hv 8 rfl rfl h
  · replace h := h.2 c
    refine ⟨fun c => ?_, fun c => ?_⟩
    · replace h := h.1 c
      show v 41 [some (aR 0), some (aI l1)] [] σ
      refine r_aload_n (pc := 41) hv 9 rfl rfl ?_
      refine r_aload_n (pc := 42) hv 10 rfl rfl ?_
      refine r_getR (pc := 43) (b := 1) hv 11 rfl rfl rfl rfl ?_
      refine r_getI (pc := 46) hv 12 rfl rfl rfl ?_
      refine r_iconst (pc := 49) hv 13 rfl  ?_
      refine r_callV (pc := 50) (l := [aI 0, aI (σ.1 1 4)]) (av := [aI (σ.1 1 4), aI 0]) (a := 0) (t := []) hv 14 rfl rfl rfl rfl (rcv_o (by decide) rfl) trivial (hS.1 _ _ _ _ _ (fun r σ3 h => ?_) h)
      obtain ⟨x4, rfl, h⟩ := h
      show v 53 [some (aR 0), some (aI l1)] [aI x4] σ3
      exact r_ireturn (pc := 53) hv 15 rfl rfl h
    · replace h := h.2 c
      show v 54 [some (aR 0), some (aI l1)] [] σ
      refine r_iconst (pc := 54) hv 16 rfl  ?_
      exact r_ireturn (pc := 55) hv 17 rfl rfl h
theorem m_X8_critical {S : Sp} (hS : Sys S) {l1 : Int32} {σ : St} {Φ : Rs} (h : ∀ v : Kt, Cl S Φ k_X8_critical v → Wk v → vc_X8_critical_0 S Φ v l1 σ) : S 110 [aR 0, aI l1] σ Φ :=
  hS.2 110 M_X8_critical k_X8_critical _ _ _ mkt_X8_critical (Nat.le_of_ble_eq_true rfl) (fun v hv hw => w_X8_critical_0 hS hv hw   l1 σ (h v hv hw))
def vc_X8_plan_0 (S : Sp) (Φ : Rs) (v : Kt) (l1 : Int32) (σ : St) : Prop := (¬ (b2 (¬ (l1 : Int32) < 0 ∧ ¬ σ.1 1 3 ≤ l1) : Int32) = 0 → (S 132 [aR 0] σ (fun r σ1 => r = [aR 27] ∧ (vp_in l1 20 ∧ ((¬ (σ1.1 28 (l1 : Int32).toNatClampNeg : Int32) = (-1) → (Φ [aI (σ1.1 28 (l1 : Int32).toNatClampNeg)] σ1)) ∧ ((σ1.1 28 (l1 : Int32).toNatClampNeg : Int32) = (-1) → (Φ [aI (-3)] σ1))))))) ∧ ((b2 (¬ (l1 : Int32) < 0 ∧ ¬ σ.1 1 3 ≤ l1) : Int32) = 0 → (Φ [aI (-1)] σ))
theorem w_X8_plan_0 {S : Sp} (hS : Sys S) {Φ : Rs} {v : Kt} (hv : Cl S Φ k_X8_plan v) (hw : Wk v) (l1 : Int32) (σ : St) (h : vc_X8_plan_0 S Φ v l1 σ) : v 0 [some (aR 0), some (aI l1), none] [] σ := by
  unfold vc_X8_plan_0 at h
  refine r_aload_n (pc := 0) hv 0 rfl rfl ?_
  refine r_getR (pc := 1) (b := 1) hv 1 rfl rfl rfl rfl ?_
  refine r_iload_n (pc := 4) hv 2 rfl rfl ?_
  refine r_callV (pc := 5) (l := [aI l1]) (av := [aI l1]) (a := 1) (t := []) hv 3 rfl rfl rfl rfl (rcv_o (by decide) rfl) trivial (t_X2_isHole hS isPat_1 ?_)
  show v 8 [some (aR 0), some (aI l1), none] [aI (b2 (¬ (l1 : Int32) < 0 ∧ ¬ σ.1 1 3 ≤ l1))] σ
  refine r_if_ne (pc := 8) hv 4 rfl (fun c => ?_) (fun c => ?_)
  · replace h := h.1 c
    refine r_aload_n (pc := 13) hv 7 rfl rfl ?_
    refine r_callV (pc := 14) (l := []) (av := []) (a := 0) (t := []) hv 8 rfl rfl rfl rfl (rcv_o (by decide) rfl) trivial (hS.1 _ _ _ _ _ (fun r σ1 h => ?_) h)
    obtain ⟨rfl, h⟩ := h
    show v 17 [some (aR 0), some (aI l1), none] [aR 27] σ1
    refine r_getR (pc := 17) (b := 28) hv 9 rfl rfl rfl rfl ?_
    refine r_iload_n (pc := 20) hv 10 rfl rfl ?_
    refine r_iaload (pc := 21) (N := 20) hv 11 rfl rfl rfl (by decide) h.1 ?_
    replace h := h.2
    refine r_istore_n (pc := 22) (lo' := [some (aR 0), some (aI l1), some (aI (σ1.1 28 (l1 : Int32).toNatClampNeg))]) hv 12 rfl rfl ?_
    refine r_iload_n (pc := 23) hv 13 rfl rfl ?_
    refine r_iconst (pc := 24) hv 14 rfl  ?_
    refine r_icmp_ne (pc := 25) hv 15 rfl (fun c => ?_) (fun c => ?_)
    · replace h := h.1 c
      refine r_iload_n (pc := 33) hv 18 rfl rfl ?_
      exact r_ireturn (pc := 34) hv 19 rfl rfl h
    · replace h := h.2 c
      refine r_bipush (pc := 28) hv 16 rfl  ?_
      refine r_goto (pc := 30) hv 17 rfl  ?_
      exact r_ireturn (pc := 34) hv 19 rfl rfl h
  · replace h := h.2 c
    refine r_iconst (pc := 11) hv 5 rfl  ?_
    exact r_ireturn (pc := 12) hv 6 rfl rfl h
theorem m_X8_plan {S : Sp} (hS : Sys S) {l1 : Int32} {σ : St} {Φ : Rs} (h : ∀ v : Kt, Cl S Φ k_X8_plan v → Wk v → vc_X8_plan_0 S Φ v l1 σ) : S 111 [aR 0, aI l1] σ Φ :=
  hS.2 111 M_X8_plan k_X8_plan _ _ _ mkt_X8_plan (Nat.le_of_ble_eq_true rfl) (fun v hv hw => w_X8_plan_0 hS hv hw   l1 σ (h v hv hw))
def vc_X8_planned_0 (S : Sp) (Φ : Rs) (v : Kt) (l1 : Int32) (σ : St) : Prop := ((l1 : Int32) = 0 → (S 132 [aR 0] σ (fun r σ1 => r = [aR 27] ∧ (S 237 [aI (σ1.1 27 5)] σ1 (fun r σ2 => ∃ x3 : Int32, r = [aI x3] ∧ (Φ [aI x3] σ2)))))) ∧ (¬ ((l1 : Int32) = 0) → (((l1 : Int32) = 1 → (S 132 [aR 0] σ (fun r σ4 => r = [aR 27] ∧ (S 52 [aR 27] σ4 (fun r σ5 => ∃ x6 : Int32, r = [aI x6] ∧ (Φ [aI x6] σ5)))))) ∧ (¬ ((l1 : Int32) = 1) → (((l1 : Int32) = 2 → (S 132 [aR 0] σ (fun r σ7 => r = [aR 27] ∧ (Φ [aI (σ7.1 30 4)] σ7)))) ∧ (¬ ((l1 : Int32) = 2) → (Φ [aI (-1)] σ))))))
theorem w_X8_planned_0 {S : Sp} (hS : Sys S) {Φ : Rs} {v : Kt} (hv : Cl S Φ k_X8_planned v) (hw : Wk v) (l1 : Int32) (σ : St) (h : vc_X8_planned_0 S Φ v l1 σ) : v 0 [some (aR 0), some (aI l1)] [] σ := by
  unfold vc_X8_planned_0 at h
  refine r_iload_n (pc := 0) hv 0 rfl rfl ?_
  refine r_tab (pc := 1) hv 1 rfl ?_
  refine ⟨fun c => ?_, fun c => ?_⟩
  · replace h := h.1 c
    show v 28 [some (aR 0), some (aI l1)] [] σ
    refine r_aload_n (pc := 28) hv 2 rfl rfl ?_
    refine r_callV (pc := 29) (l := []) (av := []) (a := 0) (t := []) hv 3 rfl rfl rfl rfl (rcv_o (by decide) rfl) trivial (hS.1 _ _ _ _ _ (fun r σ1 h => ?_) h)
    obtain ⟨rfl, h⟩ := h
    show v 32 [some (aR 0), some (aI l1)] [aR 27] σ1
    refine r_getI (pc := 32) hv 4 rfl rfl rfl ?_
    refine r_callS (pc := 35) (l := [aI (σ1.1 27 5)]) (av := [aI (σ1.1 27 5)]) (t := []) hv 5 rfl (Or.inl rfl) rfl rfl rfl trivial (hS.1 _ _ _ _ _ (fun r σ2 h => ?_) h)
    obtain ⟨x3, rfl, h⟩ := h
    show v 38 [some (aR 0), some (aI l1)] [aI x3] σ2
    exact r_ireturn (pc := 38) hv 6 rfl rfl h
  · replace h := h.2 c
    refine ⟨fun c => ?_, fun c => ?_⟩
    · replace h := h.1 c
      show v 39 [some (aR 0), some (aI l1)] [] σ
      refine r_aload_n (pc := 39) hv 7 rfl rfl ?_
      refine r_callV (pc := 40) (l := []) (av := []) (a := 0) (t := []) hv 8 rfl rfl rfl rfl (rcv_o (by decide) rfl) trivial (hS.1 _ _ _ _ _ (fun r σ4 h => ?_) h)
      obtain ⟨rfl, h⟩ := h
      show v 43 [some (aR 0), some (aI l1)] [aR 27] σ4
      refine r_callV (pc := 43) (l := []) (av := []) (a := 27) (t := []) hv 9 rfl rfl rfl rfl (rcv_o (by decide) rfl) trivial (hS.1 _ _ _ _ _ (fun r σ5 h => ?_) h)
      obtain ⟨x6, rfl, h⟩ := h
      show v 46 [some (aR 0), some (aI l1)] [aI x6] σ5
      exact r_ireturn (pc := 46) hv 10 rfl rfl h
    · replace h := h.2 c
      refine ⟨fun c => ?_, fun c => ?_⟩
      · replace h := h.1 c
        show v 47 [some (aR 0), some (aI l1)] [] σ
        refine r_aload_n (pc := 47) hv 11 rfl rfl ?_
        refine r_callV (pc := 48) (l := []) (av := []) (a := 0) (t := []) hv 12 rfl rfl rfl rfl (rcv_o (by decide) rfl) trivial (hS.1 _ _ _ _ _ (fun r σ7 h => ?_) h)
        obtain ⟨rfl, h⟩ := h
        show v 51 [some (aR 0), some (aI l1)] [aR 27] σ7
        refine r_getR (pc := 51) (b := 30) hv 13 rfl rfl rfl rfl ?_
        refine r_getI (pc := 54) hv 14 rfl rfl rfl ?_
        exact r_ireturn (pc := 57) hv 15 rfl rfl h
      · replace h := h.2 c
        show v 58 [some (aR 0), some (aI l1)] [] σ
        refine r_iconst (pc := 58) hv 16 rfl  ?_
        exact r_ireturn (pc := 59) hv 17 rfl rfl h
theorem m_X8_planned {S : Sp} (hS : Sys S) {l1 : Int32} {σ : St} {Φ : Rs} (h : ∀ v : Kt, Cl S Φ k_X8_planned v → Wk v → vc_X8_planned_0 S Φ v l1 σ) : S 112 [aR 0, aI l1] σ Φ :=
  hS.2 112 M_X8_planned k_X8_planned _ _ _ mkt_X8_planned (Nat.le_of_ble_eq_true rfl) (fun v hv hw => w_X8_planned_0 hS hv hw   l1 σ (h v hv hw))
def vc_X8_adopt_12 (S : Sp) (Φ : Rs) (v : Kt) (l2 : Int32) (l3 : Int32) (σ : St) : Prop := ((σ.1 1 3 : Int32) ≤ l3 → (S 129 [aR 0, aI l2] σ (fun r σ1 => ∃ x2 : Int32, r = [aI x2] ∧ (Φ [aI x2] σ1)))) ∧ (¬ ((σ.1 1 3 : Int32) ≤ l3) → (vp_in l3 20 ∧ (((σ.1 28 (l3 : Int32).toNatClampNeg : Int32) = (-1) → (v 12 [some (aR 0), some (aR 28), some (aI l2), some (aI (l3 + 1))] [] σ)) ∧ (¬ ((σ.1 28 (l3 : Int32).toNatClampNeg : Int32) = (-1)) → (vp_in l3 20 ∧ (S 32 [aR 1, aI l3, aI 5, aI (σ.1 28 (l3 : Int32).toNatClampNeg)] σ (fun r σ3 => ∃ x4 : Int32, r = [aI x4] ∧ (v 12 [some (aR 0), some (aR 28), some (aI (l2 + 1)), some (aI (l3 + 1))] [] σ3))))))))
theorem w_X8_adopt_12 {S : Sp} (hS : Sys S) {Φ : Rs} {v : Kt} (hv : Cl S Φ k_X8_adopt v) (hw : Wk v) (l2 : Int32) (l3 : Int32) (σ : St) (h : vc_X8_adopt_12 S Φ v l2 l3 σ) : v 12 [some (aR 0), some (aR 28), some (aI l2), some (aI l3)] [] σ := by
  unfold vc_X8_adopt_12 at h
  refine r_iload_n (pc := 12) hv 8 rfl rfl ?_
  refine r_aload_n (pc := 13) hv 9 rfl rfl ?_
  refine r_getR (pc := 14) (b := 1) hv 10 rfl rfl rfl rfl ?_
  refine r_getI (pc := 17) hv 11 rfl rfl rfl ?_
  refine r_icmp_ge (pc := 20) hv 12 rfl (fun c => ?_) (fun c => ?_)
  · replace h := h.1 c
    refine r_aload_n (pc := 52) hv 30 rfl rfl ?_
    refine r_iload_n (pc := 53) hv 31 rfl rfl ?_
    refine r_callV (pc := 54) (l := [aI l2]) (av := [aI l2]) (a := 0) (t := []) hv 32 rfl rfl rfl rfl (rcv_o (by decide) rfl) trivial (hS.1 _ _ _ _ _ (fun r σ1 h => ?_) h)
    obtain ⟨x2, rfl, h⟩ := h
    show v 57 [some (aR 0), some (aR 28), some (aI l2), some (aI l3)] [aI x2] σ1
    exact r_ireturn (pc := 57) hv 33 rfl rfl h
  · replace h := h.2 c
    refine r_aload_n (pc := 23) hv 13 rfl rfl ?_
    refine r_iload_n (pc := 24) hv 14 rfl rfl ?_
    refine r_iaload (pc := 25) (N := 20) hv 15 rfl rfl rfl (by decide) h.1 ?_
    replace h := h.2
    refine r_iconst (pc := 26) hv 16 rfl  ?_
    refine r_icmp_eq (pc := 27) hv 17 rfl (fun c => ?_) (fun c => ?_)
    · replace h := h.1 c
      refine r_iinc (pc := 46) (lo' := [some (aR 0), some (aR 28), some (aI l2), some (aI (l3 + 1))]) hv 28 rfl rfl rfl ?_
      refine r_goto (pc := 49) hv 29 rfl  ?_
      exact h
    · replace h := h.2 c
      refine r_aload_n (pc := 30) hv 18 rfl rfl ?_
      refine r_getR (pc := 31) (b := 1) hv 19 rfl rfl rfl rfl ?_
      refine r_iload_n (pc := 34) hv 20 rfl rfl ?_
      refine r_iconst (pc := 35) hv 21 rfl  ?_
      refine r_aload_n (pc := 36) hv 22 rfl rfl ?_
      refine r_iload_n (pc := 37) hv 23 rfl rfl ?_
      refine r_iaload (pc := 38) (N := 20) hv 24 rfl rfl rfl (by decide) h.1 ?_
      replace h := h.2
      refine r_callV (pc := 39) (l := [aI (σ.1 28 (l3 : Int32).toNatClampNeg), aI 5, aI l3]) (av := [aI l3, aI 5, aI (σ.1 28 (l3 : Int32).toNatClampNeg)]) (a := 1) (t := []) hv 25 rfl rfl rfl rfl (rcv_o (by decide) rfl) trivial (hS.1 _ _ _ _ _ (fun r σ3 h => ?_) h)
      obtain ⟨x4, rfl, h⟩ := h
      show v 42 [some (aR 0), some (aR 28), some (aI l2), some (aI l3)] [aI x4] σ3
      refine r_pop (pc := 42) hv 26 rfl trivial ?_
      refine r_iinc (pc := 43) (lo' := [some (aR 0), some (aR 28), some (aI (l2 + 1)), some (aI l3)]) hv 27 rfl rfl rfl ?_
      refine r_iinc (pc := 46) (lo' := [some (aR 0), some (aR 28), some (aI (l2 + 1)), some (aI (l3 + 1))]) hv 28 rfl rfl rfl ?_
      refine r_goto (pc := 49) hv 29 rfl  ?_
      exact h
def vc_X8_adopt_0 (S : Sp) (Φ : Rs) (v : Kt) (σ : St) : Prop := S 132 [aR 0] σ (fun r σ1 => r = [aR 27] ∧ (v 12 [some (aR 0), some (aR 28), some (aI 0), some (aI 0)] [] σ1))
theorem w_X8_adopt_0 {S : Sp} (hS : Sys S) {Φ : Rs} {v : Kt} (hv : Cl S Φ k_X8_adopt v) (hw : Wk v) (σ : St) (h : vc_X8_adopt_0 S Φ v  σ) : v 0 [some (aR 0), none, none, none] [] σ := by
  unfold vc_X8_adopt_0 at h
  refine r_aload_n (pc := 0) hv 0 rfl rfl ?_
  refine r_callV (pc := 1) (l := []) (av := []) (a := 0) (t := []) hv 1 rfl rfl rfl rfl (rcv_o (by decide) rfl) trivial (hS.1 _ _ _ _ _ (fun r σ1 h => ?_) h)
  obtain ⟨rfl, h⟩ := h
  show v 4 [some (aR 0), none, none, none] [aR 27] σ1
  refine r_getR (pc := 4) (b := 28) hv 2 rfl rfl rfl rfl ?_
  refine r_astore_n (pc := 7) (lo' := [some (aR 0), some (aR 28), none, none]) hv 3 rfl rfl ?_
  refine r_iconst (pc := 8) hv 4 rfl  ?_
  refine r_istore_n (pc := 9) (lo' := [some (aR 0), some (aR 28), some (aI 0), none]) hv 5 rfl rfl ?_
  refine r_iconst (pc := 10) hv 6 rfl  ?_
  refine r_istore_n (pc := 11) (lo' := [some (aR 0), some (aR 28), some (aI 0), some (aI 0)]) hv 7 rfl rfl ?_
  exact h
theorem m_X8_adopt {S : Sp} (hS : Sys S) {σ : St} {Φ : Rs} (h : ∀ v : Kt, Cl S Φ k_X8_adopt v → Wk v → vc_X8_adopt_0 S Φ v  σ) : S 113 [aR 0] σ Φ :=
  hS.2 113 M_X8_adopt k_X8_adopt _ _ _ mkt_X8_adopt (Nat.le_of_ble_eq_true rfl) (fun v hv hw => w_X8_adopt_0 hS hv hw    σ (h v hv hw))
def vc_X8_feed_0 (S : Sp) (Φ : Rs) (v : Kt) (l1 : Int32) (σ : St) : Prop := S 53 [aR 36, aI l1] σ (fun r σ1 => ∃ x2 : Int32, r = [aI x2] ∧ (Φ [aI x2] σ1))
theorem w_X8_feed_0 {S : Sp} (hS : Sys S) {Φ : Rs} {v : Kt} (hv : Cl S Φ k_X8_feed v) (hw : Wk v) (l1 : Int32) (σ : St) (h : vc_X8_feed_0 S Φ v l1 σ) : v 0 [some (aR 0), some (aI l1)] [] σ := by
  unfold vc_X8_feed_0 at h
  refine r_aload_n (pc := 0) hv 0 rfl rfl ?_
  refine r_getR (pc := 1) (b := 36) hv 1 rfl rfl rfl rfl ?_
  refine r_iload_n (pc := 4) hv 2 rfl rfl ?_
  refine r_callV (pc := 5) (l := [aI l1]) (av := [aI l1]) (a := 36) (t := []) hv 3 rfl rfl rfl rfl (rcv_o (by decide) rfl) trivial (hS.1 _ _ _ _ _ (fun r σ1 h => ?_) h)
  obtain ⟨x2, rfl, h⟩ := h
  show v 8 [some (aR 0), some (aI l1)] [aI x2] σ1
  exact r_ireturn (pc := 8) hv 4 rfl rfl h
theorem m_X8_feed {S : Sp} (hS : Sys S) {l1 : Int32} {σ : St} {Φ : Rs} (h : ∀ v : Kt, Cl S Φ k_X8_feed v → Wk v → vc_X8_feed_0 S Φ v l1 σ) : S 114 [aR 0, aI l1] σ Φ :=
  hS.2 114 M_X8_feed k_X8_feed _ _ _ mkt_X8_feed (Nat.le_of_ble_eq_true rfl) (fun v hv hw => w_X8_feed_0 hS hv hw   l1 σ (h v hv hw))
