def vc_X9_ringOf_0 (S : Sp) (Φ : Rs) (v : Kt) (l1 : Int32) (σ : St) : Prop := S 156 [aR 49, aI l1] σ (fun r σ1 => ∃ x2 : Int32, r = [aI x2] ∧ (vp_in (8 * l1 + 4) 286 ∧ (¬ (σ1.1 50 (8 * l1 + 4 : Int32).toNatClampNeg : Int32) = 0 ∧ (((b2 (((σ1.1 49 8 : Int32) >>> (l1 &&& 31)) &&& 1 = 1) : Int32) = 0 → (Φ [aI (if (x2 / (σ1.1 50 (8 * l1 + 4 : Int32).toNatClampNeg) : Int32) ≤ 9 then (x2 / (σ1.1 50 (8 * l1 + 4 : Int32).toNatClampNeg)) else 9)] σ1)) ∧ (¬ ((b2 (((σ1.1 49 8 : Int32) >>> (l1 &&& 31)) &&& 1 = 1) : Int32) = 0) → (Φ [aI (if (2 * (x2 / (σ1.1 50 (8 * l1 + 4 : Int32).toNatClampNeg)) : Int32) ≤ 9 then (2 * (x2 / (σ1.1 50 (8 * l1 + 4 : Int32).toNatClampNeg))) else 9)] σ1))))))
theorem w_X9_ringOf_0 {S : Sp} (hS : Sys S) {Φ : Rs} {v : Kt} (hv : Cl S Φ k_X9_ringOf v) (hw : Wk v) (l1 : Int32) (σ : St) (h : vc_X9_ringOf_0 S Φ v l1 σ) : v 0 [some (aR 49), some (aI l1), none] [] σ := by
  unfold vc_X9_ringOf_0 at h
  refine r_aload_n (pc := 0) hv 0 rfl rfl ?_
  refine r_iload_n (pc := 1) hv 1 rfl rfl ?_
  refine r_callV (pc := 2) (l := [aI l1]) (av := [aI l1]) (a := 49) (t := []) hv 2 rfl rfl rfl rfl (rcv_o (by decide) rfl) trivial (hS.1 _ _ _ _ _ (fun r σ1 h => ?_) h)
  obtain ⟨x2, rfl, h⟩ := h
  show v 5 [some (aR 49), some (aI l1), none] [aI x2] σ1
  refine r_aload_n (pc := 5) hv 3 rfl rfl ?_
  refine r_iload_n (pc := 6) hv 4 rfl rfl ?_
  refine r_iconst (pc := 7) hv 5 rfl  ?_
  refine r_callV (pc := 8) (l := [aI 4, aI l1]) (av := [aI l1, aI 4]) (a := 49) (t := [aI x2]) hv 6 rfl rfl rfl rfl (rcv_o (by decide) rfl) trivial (t_X9_its hS h.1 ?_)
  replace h := h.2
  show v 11 [some (aR 49), some (aI l1), none] [aI (σ1.1 50 (8 * l1 + 4 : Int32).toNatClampNeg), aI x2] σ1
  refine r_idiv (pc := 11) hv 7 rfl h.1 ?_
  replace h := h.2
  refine r_istore_n (pc := 12) (lo' := [some (aR 49), some (aI l1), some (aI (x2 / (σ1.1 50 (8 * l1 + 4 : Int32).toNatClampNeg)))]) hv 8 rfl rfl ?_
  refine r_bipush (pc := 13) hv 9 rfl  ?_
  refine r_aload_n (pc := 15) hv 10 rfl rfl ?_
  refine r_aload_n (pc := 16) hv 11 rfl rfl ?_
  refine r_getI (pc := 17) hv 12 rfl rfl rfl ?_
  refine r_iload_n (pc := 20) hv 13 rfl rfl ?_
  refine r_callV (pc := 21) (l := [aI l1, aI (σ1.1 49 8)]) (av := [aI (σ1.1 49 8), aI l1]) (a := 49) (t := [aI 9]) hv 14 rfl rfl rfl rfl (rcv_o (by decide) rfl) trivial (t_X9_has hS ?_)
  show v 24 [some (aR 49), some (aI l1), some (aI (x2 / (σ1.1 50 (8 * l1 + 4 : Int32).toNatClampNeg)))] [aI (b2 (((σ1.1 49 8 : Int32) >>> (l1 &&& 31)) &&& 1 = 1)), aI 9] σ1
  refine r_if_eq (pc := 24) hv 15 rfl (fun c => ?_) (fun c => ?_)
  · replace h := h.1 c
    refine r_iload_n (pc := 33) hv 20 rfl rfl ?_
    refine r_callS (pc := 34) (l := [aI (x2 / (σ1.1 50 (8 * l1 + 4 : Int32).toNatClampNeg)), aI 9]) (av := [aI 9, aI (x2 / (σ1.1 50 (8 * l1 + 4 : Int32).toNatClampNeg))]) (t := []) hv 21 rfl (Or.inl rfl) rfl rfl rfl trivial (t_X9_less hS ?_)
    show v 37 [some (aR 49), some (aI l1), some (aI (x2 / (σ1.1 50 (8 * l1 + 4 : Int32).toNatClampNeg)))] [aI (if (x2 / (σ1.1 50 (8 * l1 + 4 : Int32).toNatClampNeg) : Int32) ≤ 9 then (x2 / (σ1.1 50 (8 * l1 + 4 : Int32).toNatClampNeg)) else 9)] σ1
    exact r_ireturn (pc := 37) hv 22 rfl rfl h
  · replace h := h.2 c
    refine r_iconst (pc := 27) hv 16 rfl  ?_
    refine r_iload_n (pc := 28) hv 17 rfl rfl ?_
    refine r_imul (pc := 29) hv 18 rfl  ?_
    refine r_goto (pc := 30) hv 19 rfl  ?_
    refine r_callS (pc := 34) (l := [aI (2 * (x2 / (σ1.1 50 (8 * l1 + 4 : Int32).toNatClampNeg))), aI 9]) (av := [aI 9, aI (2 * (x2 / (σ1.1 50 (8 * l1 + 4 : Int32).toNatClampNeg)))]) (t := []) hv 21 rfl (Or.inl rfl) rfl rfl rfl trivial (t_X9_less hS ?_)
    show v 37 [some (aR 49), some (aI l1), some (aI (x2 / (σ1.1 50 (8 * l1 + 4 : Int32).toNatClampNeg)))] [aI (if (2 * (x2 / (σ1.1 50 (8 * l1 + 4 : Int32).toNatClampNeg)) : Int32) ≤ 9 then (2 * (x2 / (σ1.1 50 (8 * l1 + 4 : Int32).toNatClampNeg))) else 9)] σ1
    exact r_ireturn (pc := 37) hv 22 rfl rfl h
theorem m_X9_ringOf {S : Sp} (hS : Sys S) {l1 : Int32} {σ : St} {Φ : Rs} (h : ∀ v : Kt, Cl S Φ k_X9_ringOf v → Wk v → vc_X9_ringOf_0 S Φ v l1 σ) : S 178 [aR 49, aI l1] σ Φ :=
  hS.2 178 M_X9_ringOf k_X9_ringOf _ _ _ mkt_X9_ringOf (Nat.le_of_ble_eq_true rfl) (fun v hv hw => w_X9_ringOf_0 hS hv hw   l1 σ (h v hv hw))
def vc_X9_time_0 (S : Sp) (Φ : Rs) (v : Kt) (l1 : Int32) (l2 : Int32) (σ : St) : Prop := ((b2 ((0 : Int64) ≤ (l1 : Int32).toInt64 ∧ ((l1 : Int32).toInt64 : Int64) ≤ (σ.1 50 (280 : Int32).toNatClampNeg - 1 : Int32).toInt64) : Int32) = 0 → (Φ [aI (-1)] σ)) ∧ (¬ ((b2 ((0 : Int64) ≤ (l1 : Int32).toInt64 ∧ ((l1 : Int32).toInt64 : Int64) ≤ (σ.1 50 (280 : Int32).toNatClampNeg - 1 : Int32).toInt64) : Int32) = 0) → ((¬ (b2 ((0 : Int64) ≤ ((l2 : Int32).toInt64) ∧ ((l2 : Int32).toInt64 : Int64) ≤ 3) : Int32) = 0 → (S 175 [aR 49] σ (fun r σ1 => r = [] ∧ ((¬ (l2 : Int32) = 0 → ((¬ (b2 (((σ1.1 49 7 : Int32) >>> (l1 &&& 31)) &&& 1 = 1) : Int32) = 0 → ((¬ (l2 : Int32) = 1 → ((¬ (l2 : Int32) = 2 → (S 178 [aR 49, aI l1] σ1 (fun r σ2 => ∃ x3 : Int32, r = [aI x3] ∧ (Φ [aI x3] σ2)))) ∧ ((l2 : Int32) = 2 → (((b2 (((σ1.1 49 8 : Int32) >>> (l1 &&& 31)) &&& 1 = 1) : Int32) = 0 → (Φ [aI 1] σ1)) ∧ (¬ ((b2 (((σ1.1 49 8 : Int32) >>> (l1 &&& 31)) &&& 1 = 1) : Int32) = 0) → (Φ [aI 0] σ1)))))) ∧ ((l2 : Int32) = 1 → (vp_in l1 20 ∧ (Φ [aI (σ1.1 54 (l1 : Int32).toNatClampNeg)] σ1))))) ∧ ((b2 (((σ1.1 49 7 : Int32) >>> (l1 &&& 31)) &&& 1 = 1) : Int32) = 0 → (Φ [aI (-1)] σ1)))) ∧ ((l2 : Int32) = 0 → (vp_in l1 20 ∧ ((¬ (σ1.1 53 (l1 : Int32).toNatClampNeg : Int32) = 1000000 → (vp_in l1 20 ∧ (Φ [aI (σ1.1 53 (l1 : Int32).toNatClampNeg)] σ1))) ∧ ((σ1.1 53 (l1 : Int32).toNatClampNeg : Int32) = 1000000 → (Φ [aI (-1)] σ1))))))))) ∧ ((b2 ((0 : Int64) ≤ ((l2 : Int32).toInt64) ∧ ((l2 : Int32).toInt64 : Int64) ≤ 3) : Int32) = 0 → (Φ [aI (-1)] σ))))
theorem w_X9_time_0 {S : Sp} (hS : Sys S) {Φ : Rs} {v : Kt} (hv : Cl S Φ k_X9_time v) (hw : Wk v) (l1 : Int32) (l2 : Int32) (σ : St) (h : vc_X9_time_0 S Φ v l1 l2 σ) : v 0 [some (aR 49), some (aI l1), some (aI l2)] [] σ := by
  unfold vc_X9_time_0 at h
  refine r_aload_n (pc := 0) hv 0 rfl rfl ?_
  refine r_iload_n (pc := 1) hv 1 rfl rfl ?_
  refine r_callV (pc := 2) (l := [aI l1]) (av := [aI l1]) (a := 49) (t := []) hv 2 rfl rfl rfl rfl (rcv_o (by decide) rfl) trivial (t_X9_isHole hS ?_)
  show v 5 [some (aR 49), some (aI l1), some (aI l2)] [aI (b2 ((0 : Int64) ≤ (l1 : Int32).toInt64 ∧ ((l1 : Int32).toInt64 : Int64) ≤ (σ.1 50 (280 : Int32).toNatClampNeg - 1 : Int32).toInt64))] σ
  refine r_if_eq (pc := 5) hv 3 rfl (fun c => ?_) (fun c => ?_)
  · replace h := h.1 c
    refine r_iconst (pc := 20) hv 10 rfl  ?_
    exact r_ireturn (pc := 21) hv 11 rfl rfl h
  · replace h := h.2 c
    refine r_iload_n (pc := 8) hv 4 rfl rfl ?_
    refine r_i2l (pc := 9) hv 5 rfl  ?_
    refine r_lconst (pc := 10) hv 6 rfl  ?_
    refine r_ldc2_w (pc := 11) hv 7 rfl  ?_
    refine r_callS (pc := 14) (l := [aL 3, aL 0, aL ((l2 : Int32).toInt64)]) (av := [aL ((l2 : Int32).toInt64), aL 0, aL 3]) (t := []) hv 8 rfl (Or.inl rfl) rfl rfl rfl trivial (t_X9_in hS ?_)
    show v 17 [some (aR 49), some (aI l1), some (aI l2)] [aI (b2 ((0 : Int64) ≤ ((l2 : Int32).toInt64) ∧ ((l2 : Int32).toInt64 : Int64) ≤ 3))] σ
    refine r_if_ne (pc := 17) hv 9 rfl (fun c => ?_) (fun c => ?_)
    · replace h := h.1 c
      refine r_aload_n (pc := 22) hv 12 rfl rfl ?_
      refine r_callV (pc := 23) (l := []) (av := []) (a := 49) (t := []) hv 13 rfl rfl rfl rfl (rcv_o (by decide) rfl) trivial (hS.1 _ _ _ _ _ (fun r σ1 h => ?_) h)
      obtain ⟨rfl, h⟩ := h
      show v 26 [some (aR 49), some (aI l1), some (aI l2)] [] σ1
      refine r_iload_n (pc := 26) hv 14 rfl rfl ?_
      refine r_if_ne (pc := 27) hv 15 rfl (fun c => ?_) (fun c => ?_)
      · replace h := h.1 c
        refine r_aload_n (pc := 52) hv 29 rfl rfl ?_
        refine r_aload_n (pc := 53) hv 30 rfl rfl ?_
        refine r_getI (pc := 54) hv 31 rfl rfl rfl ?_
        refine r_iload_n (pc := 57) hv 32 rfl rfl ?_
        refine r_callV (pc := 58) (l := [aI l1, aI (σ1.1 49 7)]) (av := [aI (σ1.1 49 7), aI l1]) (a := 49) (t := []) hv 33 rfl rfl rfl rfl (rcv_o (by decide) rfl) trivial (t_X9_has hS ?_)
        show v 61 [some (aR 49), some (aI l1), some (aI l2)] [aI (b2 (((σ1.1 49 7 : Int32) >>> (l1 &&& 31)) &&& 1 = 1))] σ1
        refine r_if_ne (pc := 61) hv 34 rfl (fun c => ?_) (fun c => ?_)
        · replace h := h.1 c
          refine r_iload_n (pc := 66) hv 37 rfl rfl ?_
          refine r_iconst (pc := 67) hv 38 rfl  ?_
          refine r_icmp_ne (pc := 68) hv 39 rfl (fun c => ?_) (fun c => ?_)
          · replace h := h.1 c
            refine r_iload_n (pc := 80) hv 45 rfl rfl ?_
            refine r_iconst (pc := 81) hv 46 rfl  ?_
            refine r_icmp_ne (pc := 82) hv 47 rfl (fun c => ?_) (fun c => ?_)
            · replace h := h.1 c
              refine r_aload_n (pc := 105) hv 58 rfl rfl ?_
              refine r_iload_n (pc := 106) hv 59 rfl rfl ?_
              refine r_callV (pc := 107) (l := [aI l1]) (av := [aI l1]) (a := 49) (t := []) hv 60 rfl rfl rfl rfl (rcv_o (by decide) rfl) trivial (hS.1 _ _ _ _ _ (fun r σ2 h => ?_) h)
              obtain ⟨x3, rfl, h⟩ := h
              show v 110 [some (aR 49), some (aI l1), some (aI l2)] [aI x3] σ2
              exact r_ireturn (pc := 110) hv 61 rfl rfl h
            · replace h := h.2 c
              refine r_aload_n (pc := 85) hv 48 rfl rfl ?_
              refine r_aload_n (pc := 86) hv 49 rfl rfl ?_
              refine r_getI (pc := 87) hv 50 rfl rfl rfl ?_
              refine r_iload_n (pc := 90) hv 51 rfl rfl ?_
              refine r_callV (pc := 91) (l := [aI l1, aI (σ1.1 49 8)]) (av := [aI (σ1.1 49 8), aI l1]) (a := 49) (t := []) hv 52 rfl rfl rfl rfl (rcv_o (by decide) rfl) trivial (t_X9_has hS ?_)
              show v 94 [some (aR 49), some (aI l1), some (aI l2)] [aI (b2 (((σ1.1 49 8 : Int32) >>> (l1 &&& 31)) &&& 1 = 1))] σ1
              refine r_if_eq (pc := 94) hv 53 rfl (fun c => ?_) (fun c => ?_)
              · replace h := h.1 c
                refine r_iconst (pc := 101) hv 56 rfl  ?_
                refine r_goto (pc := 102) hv 57 rfl  ?_
                exact r_ireturn (pc := 110) hv 61 rfl rfl h
              · replace h := h.2 c
                refine r_iconst (pc := 97) hv 54 rfl  ?_
                refine r_goto (pc := 98) hv 55 rfl  ?_
                exact r_ireturn (pc := 110) hv 61 rfl rfl h
          · replace h := h.2 c
            refine r_aload_n (pc := 71) hv 40 rfl rfl ?_
            refine r_getR (pc := 72) (b := 54) hv 41 rfl rfl rfl rfl ?_
            refine r_iload_n (pc := 75) hv 42 rfl rfl ?_
            refine r_iaload (pc := 76) (N := 20) hv 43 rfl rfl rfl (by decide) h.1 ?_
            replace h := h.2
            refine r_goto (pc := 77) hv 44 rfl  ?_
            exact r_ireturn (pc := 110) hv 61 rfl rfl h
        · replace h := h.2 c
          refine r_iconst (pc := 64) hv 35 rfl  ?_
          exact r_ireturn (pc := 65) hv 36 rfl rfl h
      · replace h := h.2 c
        refine r_aload_n (pc := 30) hv 16 rfl rfl ?_
        refine r_getR (pc := 31) (b := 53) hv 17 rfl rfl rfl rfl ?_
        refine r_iload_n (pc := 34) hv 18 rfl rfl ?_
        refine r_iaload (pc := 35) (N := 20) hv 19 rfl rfl rfl (by decide) h.1 ?_
        replace h := h.2
        refine r_ldc (pc := 36) hv 20 rfl rfl ?_
        refine r_icmp_ne (pc := 38) hv 21 rfl (fun c => ?_) (fun c => ?_)
        · replace h := h.1 c
          refine r_aload_n (pc := 45) hv 24 rfl rfl ?_
          refine r_getR (pc := 46) (b := 53) hv 25 rfl rfl rfl rfl ?_
          refine r_iload_n (pc := 49) hv 26 rfl rfl ?_
          refine r_iaload (pc := 50) (N := 20) hv 27 rfl rfl rfl (by decide) h.1 ?_
          replace h := h.2
          exact r_ireturn (pc := 51) hv 28 rfl rfl h
        · replace h := h.2 c
          refine r_iconst (pc := 41) hv 22 rfl  ?_
          refine r_goto (pc := 42) hv 23 rfl  ?_
          exact r_ireturn (pc := 51) hv 28 rfl rfl h
    · replace h := h.2 c
      refine r_iconst (pc := 20) hv 10 rfl  ?_
      exact r_ireturn (pc := 21) hv 11 rfl rfl h
theorem m_X9_time {S : Sp} (hS : Sys S) {l1 : Int32} {l2 : Int32} {σ : St} {Φ : Rs} (h : ∀ v : Kt, Cl S Φ k_X9_time v → Wk v → vc_X9_time_0 S Φ v l1 l2 σ) : S 179 [aR 49, aI l1, aI l2] σ Φ :=
  hS.2 179 M_X9_time k_X9_time _ _ _ mkt_X9_time (Nat.le_of_ble_eq_true rfl) (fun v hv hw => w_X9_time_0 hS hv hw   l1 l2 σ (h v hv hw))
def vc_X9_shoots_78 (S : Sp) (Φ : Rs) (v : Kt) (l1 : Int32) (l2 : Int32) (l3 : Int32) (l4 : Int32) (σ : St) : Prop := vp_in l4 40 ∧ (∀ σ1 : St, σ1 = upI σ 55 (l4 : Int32).toNatClampNeg l2 → (vp_in l4 40 ∧ (∀ σ2 : St, σ2 = upI σ1 56 (l4 : Int32).toNatClampNeg l3 → (vp_in l4 40 ∧ (∀ σ3 : St, σ3 = upI σ2 57 (l4 : Int32).toNatClampNeg l1 → (∀ σ4 : St, σ4 = upI σ3 49 12 ((σ3.1 49 12) + 1) → (Φ [] σ4)))))))
theorem w_X9_shoots_78 {S : Sp} (hS : Sys S) {Φ : Rs} {v : Kt} (hv : Cl S Φ k_X9_shoots v) (hw : Wk v) (l1 : Int32) (l2 : Int32) (l3 : Int32) (l4 : Int32) (σ : St) (h : vc_X9_shoots_78 S Φ v l1 l2 l3 l4 σ) : v 78 [some (aR 49), some (aI l1), some (aI l2), some (aI l3), some (aI l4)] [] σ := by
  unfold vc_X9_shoots_78 at h
  refine r_aload_n (pc := 78) hv 45 rfl rfl ?_
  refine r_getR (pc := 79) (b := 55) hv 46 rfl rfl rfl rfl ?_
  refine r_iload (pc := 82) hv 47 rfl rfl ?_
  refine r_iload_n (pc := 84) hv 48 rfl rfl ?_
  refine r_iastore (pc := 85) (N := 40) hv 49 rfl rfl rfl h.1 ?_
  replace h := h.2
  obtain ⟨σ1, e_σ1⟩ : ∃ y : St, y = upI σ 55 (l4 : Int32).toNatClampNeg l2 := ⟨_, rfl⟩
  rw [← e_σ1]
  replace h := h σ1 e_σ1
  refine r_aload_n (pc := 86) hv 50 rfl rfl ?_
  refine r_getR (pc := 87) (b := 56) hv 51 rfl rfl rfl rfl ?_
  refine r_iload (pc := 90) hv 52 rfl rfl ?_
  refine r_iload_n (pc := 92) hv 53 rfl rfl ?_
  refine r_iastore (pc := 93) (N := 40) hv 54 rfl rfl rfl h.1 ?_
  replace h := h.2
  obtain ⟨σ2, e_σ2⟩ : ∃ y : St, y = upI σ1 56 (l4 : Int32).toNatClampNeg l3 := ⟨_, rfl⟩
  rw [← e_σ2]
  replace h := h σ2 e_σ2
  refine r_aload_n (pc := 94) hv 55 rfl rfl ?_
  refine r_getR (pc := 95) (b := 57) hv 56 rfl rfl rfl rfl ?_
  refine r_iload (pc := 98) hv 57 rfl rfl ?_
  refine r_iload_n (pc := 100) hv 58 rfl rfl ?_
  refine r_iastore (pc := 101) (N := 40) hv 59 rfl rfl rfl h.1 ?_
  replace h := h.2
  obtain ⟨σ3, e_σ3⟩ : ∃ y : St, y = upI σ2 57 (l4 : Int32).toNatClampNeg l1 := ⟨_, rfl⟩
  rw [← e_σ3]
  replace h := h σ3 e_σ3
  refine r_aload_n (pc := 102) hv 60 rfl rfl ?_
  refine r_dup (pc := 103) hv 61 rfl trivial ?_
  refine r_getI (pc := 104) hv 62 rfl rfl rfl ?_
  refine r_iconst (pc := 107) hv 63 rfl  ?_
  refine r_iadd (pc := 108) hv 64 rfl  ?_
  refine r_putI (pc := 109) hv 65 rfl rfl rfl ?_
  obtain ⟨σ4, e_σ4⟩ : ∃ y : St, y = upI σ3 49 12 ((σ3.1 49 12) + 1) := ⟨_, rfl⟩
  rw [← e_σ4]
  replace h := h σ4 e_σ4
  exact r_return (pc := 112) hv 66 rfl h
def vc_X9_shoots_6 (S : Sp) (Φ : Rs) (v : Kt) (l1 : Int32) (l2 : Int32) (l3 : Int32) (l4 : Int32) (σ : St) : Prop := ((l4 : Int32) ≤ 0 → (vc_X9_shoots_78 S Φ v  l1 l2 l3 l4 σ)) ∧ (¬ ((l4 : Int32) ≤ 0) → (vp_in (l4 - 1) 40 ∧ (((σ.1 55 (l4 - 1 : Int32).toNatClampNeg : Int32) ≤ l2 → (vc_X9_shoots_78 S Φ v  l1 l2 l3 l4 σ)) ∧ (¬ ((σ.1 55 (l4 - 1 : Int32).toNatClampNeg : Int32) ≤ l2) → (vp_in (l4 - 1) 40 ∧ (vp_in l4 40 ∧ (∀ σ1 : St, σ1 = upI σ 55 (l4 : Int32).toNatClampNeg (σ.1 55 (l4 - 1 : Int32).toNatClampNeg) → (vp_in (l4 - 1) 40 ∧ (vp_in l4 40 ∧ (∀ σ2 : St, σ2 = upI σ1 56 (l4 : Int32).toNatClampNeg (σ1.1 56 (l4 - 1 : Int32).toNatClampNeg) → (vp_in (l4 - 1) 40 ∧ (vp_in l4 40 ∧ (∀ σ3 : St, σ3 = upI σ2 57 (l4 : Int32).toNatClampNeg (σ2.1 57 (l4 - 1 : Int32).toNatClampNeg) → (v 6 [some (aR 49), some (aI l1), some (aI l2), some (aI l3), some (aI (l4 + (-1)))] [] σ3))))))))))))))
theorem w_X9_shoots_6 {S : Sp} (hS : Sys S) {Φ : Rs} {v : Kt} (hv : Cl S Φ k_X9_shoots v) (hw : Wk v) (l1 : Int32) (l2 : Int32) (l3 : Int32) (l4 : Int32) (σ : St) (h : vc_X9_shoots_6 S Φ v l1 l2 l3 l4 σ) : v 6 [some (aR 49), some (aI l1), some (aI l2), some (aI l3), some (aI l4)] [] σ := by
  unfold vc_X9_shoots_6 at h
  refine r_iload (pc := 6) hv 3 rfl rfl ?_
  refine r_if_le (pc := 8) hv 4 rfl (fun c => ?_) (fun c => ?_)
  · replace h := h.1 c
    exact (w_X9_shoots_78 hS hv hw   l1 l2 l3 l4  σ h)
  · replace h := h.2 c
    refine r_aload_n (pc := 11) hv 5 rfl rfl ?_
    refine r_getR (pc := 12) (b := 55) hv 6 rfl rfl rfl rfl ?_
    refine r_iload (pc := 15) hv 7 rfl rfl ?_
    refine r_iconst (pc := 17) hv 8 rfl  ?_
    refine r_isub (pc := 18) hv 9 rfl  ?_
    refine r_iaload (pc := 19) (N := 40) hv 10 rfl rfl rfl (by decide) h.1 ?_
    replace h := h.2
    refine r_iload_n (pc := 20) hv 11 rfl rfl ?_
    refine r_icmp_le (pc := 21) hv 12 rfl (fun c => ?_) (fun c => ?_)
    · replace h := h.1 c
      exact (w_X9_shoots_78 hS hv hw   l1 l2 l3 l4  σ h)
    · replace h := h.2 c
      refine r_aload_n (pc := 24) hv 13 rfl rfl ?_
      refine r_getR (pc := 25) (b := 55) hv 14 rfl rfl rfl rfl ?_
      refine r_iload (pc := 28) hv 15 rfl rfl ?_
      refine r_aload_n (pc := 30) hv 16 rfl rfl ?_
      refine r_getR (pc := 31) (b := 55) hv 17 rfl rfl rfl rfl ?_
      refine r_iload (pc := 34) hv 18 rfl rfl ?_
      refine r_iconst (pc := 36) hv 19 rfl  ?_
      refine r_isub (pc := 37) hv 20 rfl  ?_
      refine r_iaload (pc := 38) (N := 40) hv 21 rfl rfl rfl (by decide) h.1 ?_
      replace h := h.2
      refine r_iastore (pc := 39) (N := 40) hv 22 rfl rfl rfl h.1 ?_
      replace h := h.2
      obtain ⟨σ1, e_σ1⟩ : ∃ y : St, y = upI σ 55 (l4 : Int32).toNatClampNeg (σ.1 55 (l4 - 1 : Int32).toNatClampNeg) := ⟨_, rfl⟩
      rw [← e_σ1]
      replace h := h σ1 e_σ1
      refine r_aload_n (pc := 40) hv 23 rfl rfl ?_
      refine r_getR (pc := 41) (b := 56) hv 24 rfl rfl rfl rfl ?_
      refine r_iload (pc := 44) hv 25 rfl rfl ?_
      refine r_aload_n (pc := 46) hv 26 rfl rfl ?_
      refine r_getR (pc := 47) (b := 56) hv 27 rfl rfl rfl rfl ?_
      refine r_iload (pc := 50) hv 28 rfl rfl ?_
      refine r_iconst (pc := 52) hv 29 rfl  ?_
      refine r_isub (pc := 53) hv 30 rfl  ?_
      refine r_iaload (pc := 54) (N := 40) hv 31 rfl rfl rfl (by decide) h.1 ?_
      replace h := h.2
      refine r_iastore (pc := 55) (N := 40) hv 32 rfl rfl rfl h.1 ?_
      replace h := h.2
      obtain ⟨σ2, e_σ2⟩ : ∃ y : St, y = upI σ1 56 (l4 : Int32).toNatClampNeg (σ1.1 56 (l4 - 1 : Int32).toNatClampNeg) := ⟨_, rfl⟩
      rw [← e_σ2]
      replace h := h σ2 e_σ2
      refine r_aload_n (pc := 56) hv 33 rfl rfl ?_
      refine r_getR (pc := 57) (b := 57) hv 34 rfl rfl rfl rfl ?_
      refine r_iload (pc := 60) hv 35 rfl rfl ?_
      refine r_aload_n (pc := 62) hv 36 rfl rfl ?_
      refine r_getR (pc := 63) (b := 57) hv 37 rfl rfl rfl rfl ?_
      refine r_iload (pc := 66) hv 38 rfl rfl ?_
      refine r_iconst (pc := 68) hv 39 rfl  ?_
      refine r_isub (pc := 69) hv 40 rfl  ?_
      refine r_iaload (pc := 70) (N := 40) hv 41 rfl rfl rfl (by decide) h.1 ?_
      replace h := h.2
      refine r_iastore (pc := 71) (N := 40) hv 42 rfl rfl rfl h.1 ?_
      replace h := h.2
      obtain ⟨σ3, e_σ3⟩ : ∃ y : St, y = upI σ2 57 (l4 : Int32).toNatClampNeg (σ2.1 57 (l4 - 1 : Int32).toNatClampNeg) := ⟨_, rfl⟩
      rw [← e_σ3]
      replace h := h σ3 e_σ3
      refine r_iinc (pc := 72) (lo' := [some (aR 49), some (aI l1), some (aI l2), some (aI l3), some (aI (l4 + (-1)))]) hv 43 rfl rfl rfl ?_
      refine r_goto (pc := 75) hv 44 rfl  ?_
      exact h
def vc_X9_shoots_0 (S : Sp) (Φ : Rs) (v : Kt) (l1 : Int32) (l2 : Int32) (l3 : Int32) (σ : St) : Prop := v 6 [some (aR 49), some (aI l1), some (aI l2), some (aI l3), some (aI (σ.1 49 12))] [] σ
theorem w_X9_shoots_0 {S : Sp} (hS : Sys S) {Φ : Rs} {v : Kt} (hv : Cl S Φ k_X9_shoots v) (hw : Wk v) (l1 : Int32) (l2 : Int32) (l3 : Int32) (σ : St) (h : vc_X9_shoots_0 S Φ v l1 l2 l3 σ) : v 0 [some (aR 49), some (aI l1), some (aI l2), some (aI l3), none] [] σ := by
  unfold vc_X9_shoots_0 at h
  refine r_aload_n (pc := 0) hv 0 rfl rfl ?_
  refine r_getI (pc := 1) hv 1 rfl rfl rfl ?_
  refine r_istore (pc := 4) (lo' := [some (aR 49), some (aI l1), some (aI l2), some (aI l3), some (aI (σ.1 49 12))]) hv 2 rfl rfl ?_
  exact h
theorem m_X9_shoots {S : Sp} (hS : Sys S) {l1 : Int32} {l2 : Int32} {l3 : Int32} {σ : St} {Φ : Rs} (h : ∀ v : Kt, Cl S Φ k_X9_shoots v → Wk v → vc_X9_shoots_0 S Φ v l1 l2 l3 σ) : S 180 [aR 49, aI l1, aI l2, aI l3] σ Φ :=
  hS.2 180 M_X9_shoots k_X9_shoots _ _ _ mkt_X9_shoots (Nat.le_of_ble_eq_true rfl) (fun v hv hw => w_X9_shoots_0 hS hv hw   l1 l2 l3 σ (h v hv hw))
def vc_X9_laysShots_7 (S : Sp) (Φ : Rs) (v : Kt) (l1 : Int32) (l2 : Int32) (σ : St) : Prop := vp_in 280 286 ∧ (((σ.1 50 (280 : Int32).toNatClampNeg : Int32) ≤ l2 → (Φ [] σ)) ∧ (¬ ((σ.1 50 (280 : Int32).toNatClampNeg : Int32) ≤ l2) → (((b2 (((l1 : Int32) >>> (l2 &&& 31)) &&& 1 = 1) : Int32) = 0 → (v 7 [some (aR 49), some (aI l1), some (aI (l2 + 1))] [] σ)) ∧ (¬ ((b2 (((l1 : Int32) >>> (l2 &&& 31)) &&& 1 = 1) : Int32) = 0) → (vp_in l2 20 ∧ (S 154 [aR 49, aI l2] σ (fun r σ1 => ∃ x2 : Int32, r = [aI x2] ∧ (S 180 [aR 49, aI l2, aI (σ.1 54 (l2 : Int32).toNatClampNeg), aI x2] σ1 (fun r σ3 => r = [] ∧ (S 155 [aR 49, aI l2] σ3 (fun r σ4 => ∃ x5 : Int32, r = [aI x5] ∧ (((x5 : Int32) ≤ 0 → (v 7 [some (aR 49), some (aI l1), some (aI (l2 + 1))] [] σ4)) ∧ (¬ ((x5 : Int32) ≤ 0) → (vp_in l2 20 ∧ (S 155 [aR 49, aI l2] σ4 (fun r σ6 => ∃ x7 : Int32, r = [aI x7] ∧ (S 180 [aR 49, aI l2, aI ((σ4.1 54 (l2 : Int32).toNatClampNeg) + 17), aI x7] σ6 (fun r σ8 => r = [] ∧ (v 7 [some (aR 49), some (aI l1), some (aI (l2 + 1))] [] σ8)))))))))))))))))))
theorem w_X9_laysShots_7 {S : Sp} (hS : Sys S) {Φ : Rs} {v : Kt} (hv : Cl S Φ k_X9_laysShots v) (hw : Wk v) (l1 : Int32) (l2 : Int32) (σ : St) (h : vc_X9_laysShots_7 S Φ v l1 l2 σ) : v 7 [some (aR 49), some (aI l1), some (aI l2)] [] σ := by
  unfold vc_X9_laysShots_7 at h
  refine r_iload_n (pc := 7) hv 5 rfl rfl ?_
  refine r_aload_n (pc := 8) hv 6 rfl rfl ?_
  refine r_getR (pc := 9) (b := 50) hv 7 rfl rfl rfl rfl ?_
  refine r_sipush (pc := 12) hv 8 rfl  ?_
  refine r_iaload (pc := 15) (N := 286) hv 9 rfl rfl rfl (by decide) h.1 ?_
  replace h := h.2
  refine r_icmp_ge (pc := 16) hv 10 rfl (fun c => ?_) (fun c => ?_)
  · replace h := h.1 c
    exact r_return (pc := 77) hv 44 rfl h
  · replace h := h.2 c
    refine r_aload_n (pc := 19) hv 11 rfl rfl ?_
    refine r_iload_n (pc := 20) hv 12 rfl rfl ?_
    refine r_iload_n (pc := 21) hv 13 rfl rfl ?_
    refine r_callV (pc := 22) (l := [aI l2, aI l1]) (av := [aI l1, aI l2]) (a := 49) (t := []) hv 14 rfl rfl rfl rfl (rcv_o (by decide) rfl) trivial (t_X9_has hS ?_)
    show v 25 [some (aR 49), some (aI l1), some (aI l2)] [aI (b2 (((l1 : Int32) >>> (l2 &&& 31)) &&& 1 = 1))] σ
    refine r_if_eq (pc := 25) hv 15 rfl (fun c => ?_) (fun c => ?_)
    · replace h := h.1 c
      refine r_iinc (pc := 71) (lo' := [some (aR 49), some (aI l1), some (aI (l2 + 1))]) hv 42 rfl rfl rfl ?_
      refine r_goto (pc := 74) hv 43 rfl  ?_
      exact h
    · replace h := h.2 c
      refine r_aload_n (pc := 28) hv 16 rfl rfl ?_
      refine r_iload_n (pc := 29) hv 17 rfl rfl ?_
      refine r_aload_n (pc := 30) hv 18 rfl rfl ?_
      refine r_getR (pc := 31) (b := 54) hv 19 rfl rfl rfl rfl ?_
      refine r_iload_n (pc := 34) hv 20 rfl rfl ?_
      refine r_iaload (pc := 35) (N := 20) hv 21 rfl rfl rfl (by decide) h.1 ?_
      replace h := h.2
      refine r_aload_n (pc := 36) hv 22 rfl rfl ?_
      refine r_iload_n (pc := 37) hv 23 rfl rfl ?_
      refine r_callV (pc := 38) (l := [aI l2]) (av := [aI l2]) (a := 49) (t := [aI (σ.1 54 (l2 : Int32).toNatClampNeg), aI l2, aR 49]) hv 24 rfl rfl rfl rfl (rcv_o (by decide) rfl) trivial (hS.1 _ _ _ _ _ (fun r σ1 h => ?_) h)
      obtain ⟨x2, rfl, h⟩ := h
      show v 41 [some (aR 49), some (aI l1), some (aI l2)] [aI x2, aI (σ.1 54 (l2 : Int32).toNatClampNeg), aI l2, aR 49] σ1
      refine r_callV (pc := 41) (l := [aI x2, aI (σ.1 54 (l2 : Int32).toNatClampNeg), aI l2]) (av := [aI l2, aI (σ.1 54 (l2 : Int32).toNatClampNeg), aI x2]) (a := 49) (t := []) hv 25 rfl rfl rfl rfl (rcv_o (by decide) rfl) trivial (hS.1 _ _ _ _ _ (fun r σ3 h => ?_) h)
      obtain ⟨rfl, h⟩ := h
      show v 44 [some (aR 49), some (aI l1), some (aI l2)] [] σ3
      refine r_aload_n (pc := 44) hv 26 rfl rfl ?_
      refine r_iload_n (pc := 45) hv 27 rfl rfl ?_
      refine r_callV (pc := 46) (l := [aI l2]) (av := [aI l2]) (a := 49) (t := []) hv 28 rfl rfl rfl rfl (rcv_o (by decide) rfl) trivial (hS.1 _ _ _ _ _ (fun r σ4 h => ?_) h)
      obtain ⟨x5, rfl, h⟩ := h
      show v 49 [some (aR 49), some (aI l1), some (aI l2)] [aI x5] σ4
      refine r_if_le (pc := 49) hv 29 rfl (fun c => ?_) (fun c => ?_)
      · replace h := h.1 c
        refine r_iinc (pc := 71) (lo' := [some (aR 49), some (aI l1), some (aI (l2 + 1))]) hv 42 rfl rfl rfl ?_
        refine r_goto (pc := 74) hv 43 rfl  ?_
        exact h
      · replace h := h.2 c
        refine r_aload_n (pc := 52) hv 30 rfl rfl ?_
        refine r_iload_n (pc := 53) hv 31 rfl rfl ?_
        refine r_aload_n (pc := 54) hv 32 rfl rfl ?_
        refine r_getR (pc := 55) (b := 54) hv 33 rfl rfl rfl rfl ?_
        refine r_iload_n (pc := 58) hv 34 rfl rfl ?_
        refine r_iaload (pc := 59) (N := 20) hv 35 rfl rfl rfl (by decide) h.1 ?_
        replace h := h.2
        refine r_bipush (pc := 60) hv 36 rfl  ?_
        refine r_iadd (pc := 62) hv 37 rfl  ?_
        refine r_aload_n (pc := 63) hv 38 rfl rfl ?_
        refine r_iload_n (pc := 64) hv 39 rfl rfl ?_
        refine r_callV (pc := 65) (l := [aI l2]) (av := [aI l2]) (a := 49) (t := [aI ((σ4.1 54 (l2 : Int32).toNatClampNeg) + 17), aI l2, aR 49]) hv 40 rfl rfl rfl rfl (rcv_o (by decide) rfl) trivial (hS.1 _ _ _ _ _ (fun r σ6 h => ?_) h)
        obtain ⟨x7, rfl, h⟩ := h
        show v 68 [some (aR 49), some (aI l1), some (aI l2)] [aI x7, aI ((σ4.1 54 (l2 : Int32).toNatClampNeg) + 17), aI l2, aR 49] σ6
        refine r_callV (pc := 68) (l := [aI x7, aI ((σ4.1 54 (l2 : Int32).toNatClampNeg) + 17), aI l2]) (av := [aI l2, aI ((σ4.1 54 (l2 : Int32).toNatClampNeg) + 17), aI x7]) (a := 49) (t := []) hv 41 rfl rfl rfl rfl (rcv_o (by decide) rfl) trivial (hS.1 _ _ _ _ _ (fun r σ8 h => ?_) h)
        obtain ⟨rfl, h⟩ := h
        show v 71 [some (aR 49), some (aI l1), some (aI l2)] [] σ8
        refine r_iinc (pc := 71) (lo' := [some (aR 49), some (aI l1), some (aI (l2 + 1))]) hv 42 rfl rfl rfl ?_
        refine r_goto (pc := 74) hv 43 rfl  ?_
        exact h
def vc_X9_laysShots_0 (S : Sp) (Φ : Rs) (v : Kt) (l1 : Int32) (σ : St) : Prop := ∀ σ1 : St, σ1 = upI σ 49 12 0 → (v 7 [some (aR 49), some (aI l1), some (aI 0)] [] σ1)
theorem w_X9_laysShots_0 {S : Sp} (hS : Sys S) {Φ : Rs} {v : Kt} (hv : Cl S Φ k_X9_laysShots v) (hw : Wk v) (l1 : Int32) (σ : St) (h : vc_X9_laysShots_0 S Φ v l1 σ) : v 0 [some (aR 49), some (aI l1), none] [] σ := by
  unfold vc_X9_laysShots_0 at h
  refine r_aload_n (pc := 0) hv 0 rfl rfl ?_
  refine r_iconst (pc := 1) hv 1 rfl  ?_
  refine r_putI (pc := 2) hv 2 rfl rfl rfl ?_
  obtain ⟨σ1, e_σ1⟩ : ∃ y : St, y = upI σ 49 12 0 := ⟨_, rfl⟩
  rw [← e_σ1]
  replace h := h σ1 e_σ1
  refine r_iconst (pc := 5) hv 3 rfl  ?_
  refine r_istore_n (pc := 6) (lo' := [some (aR 49), some (aI l1), some (aI 0)]) hv 4 rfl rfl ?_
  exact h
theorem m_X9_laysShots {S : Sp} (hS : Sys S) {l1 : Int32} {σ : St} {Φ : Rs} (h : ∀ v : Kt, Cl S Φ k_X9_laysShots v → Wk v → vc_X9_laysShots_0 S Φ v l1 σ) : S 181 [aR 49, aI l1] σ Φ :=
  hS.2 181 M_X9_laysShots k_X9_laysShots _ _ _ mkt_X9_laysShots (Nat.le_of_ble_eq_true rfl) (fun v hv hw => w_X9_laysShots_0 hS hv hw   l1 σ (h v hv hw))
def vc_X9_shakeAt_4 (S : Sp) (Φ : Rs) (v : Kt) (l1 : Int32) (l2 : Int32) (l3 : Int32) (σ : St) : Prop := ((σ.1 49 12 : Int32) ≤ l3 → (Φ [aI l2] σ)) ∧ (¬ ((σ.1 49 12 : Int32) ≤ l3) → (vp_in l3 40 ∧ (((σ.1 55 (l3 : Int32).toNatClampNeg : Int32) < l1 → (v 4 [some (aR 49), some (aI l1), some (aI (l2 + 0)), some (aI (l3 + 1))] [] σ)) ∧ (¬ ((σ.1 55 (l3 : Int32).toNatClampNeg : Int32) < l1) → (vp_in l3 40 ∧ (vp_in 282 286 ∧ (((l1 + (σ.1 50 (282 : Int32).toNatClampNeg) : Int32) ≤ (σ.1 55 (l3 : Int32).toNatClampNeg) → (v 4 [some (aR 49), some (aI l1), some (aI (l2 + 0)), some (aI (l3 + 1))] [] σ)) ∧ (¬ ((l1 + (σ.1 50 (282 : Int32).toNatClampNeg) : Int32) ≤ (σ.1 55 (l3 : Int32).toNatClampNeg)) → (vp_in l3 40 ∧ (v 4 [some (aR 49), some (aI l1), some (aI (l2 + (σ.1 56 (l3 : Int32).toNatClampNeg))), some (aI (l3 + 1))] [] σ))))))))))
theorem w_X9_shakeAt_4 {S : Sp} (hS : Sys S) {Φ : Rs} {v : Kt} (hv : Cl S Φ k_X9_shakeAt v) (hw : Wk v) (l1 : Int32) (l2 : Int32) (l3 : Int32) (σ : St) (h : vc_X9_shakeAt_4 S Φ v l1 l2 l3 σ) : v 4 [some (aR 49), some (aI l1), some (aI l2), some (aI l3)] [] σ := by
  unfold vc_X9_shakeAt_4 at h
  refine r_iload_n (pc := 4) hv 4 rfl rfl ?_
  refine r_aload_n (pc := 5) hv 5 rfl rfl ?_
  refine r_getI (pc := 6) hv 6 rfl rfl rfl ?_
  refine r_icmp_ge (pc := 9) hv 7 rfl (fun c => ?_) (fun c => ?_)
  · replace h := h.1 c
    refine r_iload_n (pc := 60) hv 36 rfl rfl ?_
    exact r_ireturn (pc := 61) hv 37 rfl rfl h
  · replace h := h.2 c
    refine r_iload_n (pc := 12) hv 8 rfl rfl ?_
    refine r_aload_n (pc := 13) hv 9 rfl rfl ?_
    refine r_getR (pc := 14) (b := 55) hv 10 rfl rfl rfl rfl ?_
    refine r_iload_n (pc := 17) hv 11 rfl rfl ?_
    refine r_iaload (pc := 18) (N := 40) hv 12 rfl rfl rfl (by decide) h.1 ?_
    replace h := h.2
    refine r_iload_n (pc := 19) hv 13 rfl rfl ?_
    refine r_icmp_lt (pc := 20) hv 14 rfl (fun c => ?_) (fun c => ?_)
    · replace h := h.1 c
      refine r_iconst (pc := 51) hv 31 rfl  ?_
      refine r_iadd (pc := 52) hv 32 rfl  ?_
      refine r_istore_n (pc := 53) (lo' := [some (aR 49), some (aI l1), some (aI (l2 + 0)), some (aI l3)]) hv 33 rfl rfl ?_
      refine r_iinc (pc := 54) (lo' := [some (aR 49), some (aI l1), some (aI (l2 + 0)), some (aI (l3 + 1))]) hv 34 rfl rfl rfl ?_
      refine r_goto (pc := 57) hv 35 rfl  ?_
      exact h
    · replace h := h.2 c
      refine r_aload_n (pc := 23) hv 15 rfl rfl ?_
      refine r_getR (pc := 24) (b := 55) hv 16 rfl rfl rfl rfl ?_
      refine r_iload_n (pc := 27) hv 17 rfl rfl ?_
      refine r_iaload (pc := 28) (N := 40) hv 18 rfl rfl rfl (by decide) h.1 ?_
      replace h := h.2
      refine r_iload_n (pc := 29) hv 19 rfl rfl ?_
      refine r_aload_n (pc := 30) hv 20 rfl rfl ?_
      refine r_getR (pc := 31) (b := 50) hv 21 rfl rfl rfl rfl ?_
      refine r_sipush (pc := 34) hv 22 rfl  ?_
      refine r_iaload (pc := 37) (N := 286) hv 23 rfl rfl rfl (by decide) h.1 ?_
      replace h := h.2
      refine r_iadd (pc := 38) hv 24 rfl  ?_
      refine r_icmp_ge (pc := 39) hv 25 rfl (fun c => ?_) (fun c => ?_)
      · replace h := h.1 c
        refine r_iconst (pc := 51) hv 31 rfl  ?_
        refine r_iadd (pc := 52) hv 32 rfl  ?_
        refine r_istore_n (pc := 53) (lo' := [some (aR 49), some (aI l1), some (aI (l2 + 0)), some (aI l3)]) hv 33 rfl rfl ?_
        refine r_iinc (pc := 54) (lo' := [some (aR 49), some (aI l1), some (aI (l2 + 0)), some (aI (l3 + 1))]) hv 34 rfl rfl rfl ?_
        refine r_goto (pc := 57) hv 35 rfl  ?_
        exact h
      · replace h := h.2 c
        refine r_aload_n (pc := 42) hv 26 rfl rfl ?_
        refine r_getR (pc := 43) (b := 56) hv 27 rfl rfl rfl rfl ?_
        refine r_iload_n (pc := 46) hv 28 rfl rfl ?_
        refine r_iaload (pc := 47) (N := 40) hv 29 rfl rfl rfl (by decide) h.1 ?_
        replace h := h.2
        refine r_goto (pc := 48) hv 30 rfl  ?_
        refine r_iadd (pc := 52) hv 32 rfl  ?_
        refine r_istore_n (pc := 53) (lo' := [some (aR 49), some (aI l1), some (aI (l2 + (σ.1 56 (l3 : Int32).toNatClampNeg))), some (aI l3)]) hv 33 rfl rfl ?_
        refine r_iinc (pc := 54) (lo' := [some (aR 49), some (aI l1), some (aI (l2 + (σ.1 56 (l3 : Int32).toNatClampNeg))), some (aI (l3 + 1))]) hv 34 rfl rfl rfl ?_
        refine r_goto (pc := 57) hv 35 rfl  ?_
        exact h
def vc_X9_shakeAt_0 (S : Sp) (Φ : Rs) (v : Kt) (l1 : Int32) (σ : St) : Prop := v 4 [some (aR 49), some (aI l1), some (aI 0), some (aI 0)] [] σ
theorem w_X9_shakeAt_0 {S : Sp} (hS : Sys S) {Φ : Rs} {v : Kt} (hv : Cl S Φ k_X9_shakeAt v) (hw : Wk v) (l1 : Int32) (σ : St) (h : vc_X9_shakeAt_0 S Φ v l1 σ) : v 0 [some (aR 49), some (aI l1), none, none] [] σ := by
  unfold vc_X9_shakeAt_0 at h
  refine r_iconst (pc := 0) hv 0 rfl  ?_
  refine r_istore_n (pc := 1) (lo' := [some (aR 49), some (aI l1), some (aI 0), none]) hv 1 rfl rfl ?_
  refine r_iconst (pc := 2) hv 2 rfl  ?_
  refine r_istore_n (pc := 3) (lo' := [some (aR 49), some (aI l1), some (aI 0), some (aI 0)]) hv 3 rfl rfl ?_
  exact h
theorem m_X9_shakeAt {S : Sp} (hS : Sys S) {l1 : Int32} {σ : St} {Φ : Rs} (h : ∀ v : Kt, Cl S Φ k_X9_shakeAt v → Wk v → vc_X9_shakeAt_0 S Φ v l1 σ) : S 182 [aR 49, aI l1] σ Φ :=
  hS.2 182 M_X9_shakeAt k_X9_shakeAt _ _ _ mkt_X9_shakeAt (Nat.le_of_ble_eq_true rfl) (fun v hv hw => w_X9_shakeAt_0 hS hv hw   l1 σ (h v hv hw))
def vc_X9_worstTime_34 (S : Sp) (Φ : Rs) (v : Kt) (l1 : Int32) (l2 : Int32) (σ : St) : Prop := vp_in l2 40 ∧ (v 4 [some (aR 49), some (aI (σ.1 55 (l2 : Int32).toNatClampNeg)), some (aI (l2 + 1))] [] σ)
theorem w_X9_worstTime_34 {S : Sp} (hS : Sys S) {Φ : Rs} {v : Kt} (hv : Cl S Φ k_X9_worstTime v) (hw : Wk v) (l1 : Int32) (l2 : Int32) (σ : St) (h : vc_X9_worstTime_34 S Φ v l1 l2 σ) : v 34 [some (aR 49), some (aI l1), some (aI l2)] [] σ := by
  unfold vc_X9_worstTime_34 at h
  refine r_aload_n (pc := 34) hv 20 rfl rfl ?_
  refine r_getR (pc := 35) (b := 55) hv 21 rfl rfl rfl rfl ?_
  refine r_iload_n (pc := 38) hv 22 rfl rfl ?_
  refine r_iaload (pc := 39) (N := 40) hv 23 rfl rfl rfl (by decide) h.1 ?_
  replace h := h.2
  refine r_goto (pc := 40) hv 24 rfl  ?_
  refine r_istore_n (pc := 44) (lo' := [some (aR 49), some (aI (σ.1 55 (l2 : Int32).toNatClampNeg)), some (aI l2)]) hv 26 rfl rfl ?_
  refine r_iinc (pc := 45) (lo' := [some (aR 49), some (aI (σ.1 55 (l2 : Int32).toNatClampNeg)), some (aI (l2 + 1))]) hv 27 rfl rfl rfl ?_
  refine r_goto (pc := 48) hv 28 rfl  ?_
  exact h
def vc_X9_worstTime_4 (S : Sp) (Φ : Rs) (v : Kt) (l1 : Int32) (l2 : Int32) (σ : St) : Prop := ((σ.1 49 12 : Int32) ≤ l2 → (Φ [aI l1] σ)) ∧ (¬ ((σ.1 49 12 : Int32) ≤ l2) → (((l1 : Int32) < 0 → (vc_X9_worstTime_34 S Φ v  l1 l2 σ)) ∧ (¬ ((l1 : Int32) < 0) → (vp_in l2 40 ∧ (S 182 [aR 49, aI (σ.1 55 (l2 : Int32).toNatClampNeg)] σ (fun r σ1 => ∃ x2 : Int32, r = [aI x2] ∧ (S 182 [aR 49, aI l1] σ1 (fun r σ3 => ∃ x4 : Int32, r = [aI x4] ∧ (((x2 : Int32) ≤ x4 → (v 4 [some (aR 49), some (aI l1), some (aI (l2 + 1))] [] σ3)) ∧ (¬ ((x2 : Int32) ≤ x4) → (vc_X9_worstTime_34 S Φ v  l1 l2 σ3)))))))))))
theorem w_X9_worstTime_4 {S : Sp} (hS : Sys S) {Φ : Rs} {v : Kt} (hv : Cl S Φ k_X9_worstTime v) (hw : Wk v) (l1 : Int32) (l2 : Int32) (σ : St) (h : vc_X9_worstTime_4 S Φ v l1 l2 σ) : v 4 [some (aR 49), some (aI l1), some (aI l2)] [] σ := by
  unfold vc_X9_worstTime_4 at h
  refine r_iload_n (pc := 4) hv 4 rfl rfl ?_
  refine r_aload_n (pc := 5) hv 5 rfl rfl ?_
  refine r_getI (pc := 6) hv 6 rfl rfl rfl ?_
  refine r_icmp_ge (pc := 9) hv 7 rfl (fun c => ?_) (fun c => ?_)
  · replace h := h.1 c
    refine r_iload_n (pc := 51) hv 29 rfl rfl ?_
    exact r_ireturn (pc := 52) hv 30 rfl rfl h
  · replace h := h.2 c
    refine r_iload_n (pc := 12) hv 8 rfl rfl ?_
    refine r_if_lt (pc := 13) hv 9 rfl (fun c => ?_) (fun c => ?_)
    · replace h := h.1 c
      exact (w_X9_worstTime_34 hS hv hw   l1 l2  σ h)
    · replace h := h.2 c
      refine r_aload_n (pc := 16) hv 10 rfl rfl ?_
      refine r_aload_n (pc := 17) hv 11 rfl rfl ?_
      refine r_getR (pc := 18) (b := 55) hv 12 rfl rfl rfl rfl ?_
      refine r_iload_n (pc := 21) hv 13 rfl rfl ?_
      refine r_iaload (pc := 22) (N := 40) hv 14 rfl rfl rfl (by decide) h.1 ?_
      replace h := h.2
      refine r_callV (pc := 23) (l := [aI (σ.1 55 (l2 : Int32).toNatClampNeg)]) (av := [aI (σ.1 55 (l2 : Int32).toNatClampNeg)]) (a := 49) (t := []) hv 15 rfl rfl rfl rfl (rcv_o (by decide) rfl) trivial (hS.1 _ _ _ _ _ (fun r σ1 h => ?_) h)
      obtain ⟨x2, rfl, h⟩ := h
      show v 26 [some (aR 49), some (aI l1), some (aI l2)] [aI x2] σ1
      refine r_aload_n (pc := 26) hv 16 rfl rfl ?_
      refine r_iload_n (pc := 27) hv 17 rfl rfl ?_
      refine r_callV (pc := 28) (l := [aI l1]) (av := [aI l1]) (a := 49) (t := [aI x2]) hv 18 rfl rfl rfl rfl (rcv_o (by decide) rfl) trivial (hS.1 _ _ _ _ _ (fun r σ3 h => ?_) h)
      obtain ⟨x4, rfl, h⟩ := h
      show v 31 [some (aR 49), some (aI l1), some (aI l2)] [aI x4, aI x2] σ3
      refine r_icmp_le (pc := 31) hv 19 rfl (fun c => ?_) (fun c => ?_)
      · replace h := h.1 c
        refine r_iload_n (pc := 43) hv 25 rfl rfl ?_
        refine r_istore_n (pc := 44) (lo' := [some (aR 49), some (aI l1), some (aI l2)]) hv 26 rfl rfl ?_
        refine r_iinc (pc := 45) (lo' := [some (aR 49), some (aI l1), some (aI (l2 + 1))]) hv 27 rfl rfl rfl ?_
        refine r_goto (pc := 48) hv 28 rfl  ?_
        exact h
      · replace h := h.2 c
        exact (w_X9_worstTime_34 hS hv hw   l1 l2  σ3 h)
def vc_X9_worstTime_0 (S : Sp) (Φ : Rs) (v : Kt) (σ : St) : Prop := v 4 [some (aR 49), some (aI (-1)), some (aI 0)] [] σ
theorem w_X9_worstTime_0 {S : Sp} (hS : Sys S) {Φ : Rs} {v : Kt} (hv : Cl S Φ k_X9_worstTime v) (hw : Wk v) (σ : St) (h : vc_X9_worstTime_0 S Φ v  σ) : v 0 [some (aR 49), none, none] [] σ := by
  unfold vc_X9_worstTime_0 at h
  refine r_iconst (pc := 0) hv 0 rfl  ?_
  refine r_istore_n (pc := 1) (lo' := [some (aR 49), some (aI (-1)), none]) hv 1 rfl rfl ?_
  refine r_iconst (pc := 2) hv 2 rfl  ?_
  refine r_istore_n (pc := 3) (lo' := [some (aR 49), some (aI (-1)), some (aI 0)]) hv 3 rfl rfl ?_
  exact h
theorem m_X9_worstTime {S : Sp} (hS : Sys S) {σ : St} {Φ : Rs} (h : ∀ v : Kt, Cl S Φ k_X9_worstTime v → Wk v → vc_X9_worstTime_0 S Φ v  σ) : S 183 [aR 49] σ Φ :=
  hS.2 183 M_X9_worstTime k_X9_worstTime _ _ _ mkt_X9_worstTime (Nat.le_of_ble_eq_true rfl) (fun v hv hw => w_X9_worstTime_0 hS hv hw    σ (h v hv hw))
def vc_X9_worstShake_0 (S : Sp) (Φ : Rs) (v : Kt) (σ : St) : Prop := (¬ (σ.1 49 12 : Int32) = 0 → (S 183 [aR 49] σ (fun r σ1 => ∃ x2 : Int32, r = [aI x2] ∧ (S 182 [aR 49, aI x2] σ1 (fun r σ3 => ∃ x4 : Int32, r = [aI x4] ∧ (Φ [aI x4] σ3)))))) ∧ ((σ.1 49 12 : Int32) = 0 → (Φ [aI 0] σ))
theorem w_X9_worstShake_0 {S : Sp} (hS : Sys S) {Φ : Rs} {v : Kt} (hv : Cl S Φ k_X9_worstShake v) (hw : Wk v) (σ : St) (h : vc_X9_worstShake_0 S Φ v  σ) : v 0 [some (aR 49)] [] σ := by
  unfold vc_X9_worstShake_0 at h
  refine r_aload_n (pc := 0) hv 0 rfl rfl ?_
  refine r_getI (pc := 1) hv 1 rfl rfl rfl ?_
  refine r_if_ne (pc := 4) hv 2 rfl (fun c => ?_) (fun c => ?_)
  · replace h := h.1 c
    refine r_aload_n (pc := 11) hv 5 rfl rfl ?_
    refine r_aload_n (pc := 12) hv 6 rfl rfl ?_
    refine r_callV (pc := 13) (l := []) (av := []) (a := 49) (t := [aR 49]) hv 7 rfl rfl rfl rfl (rcv_o (by decide) rfl) trivial (hS.1 _ _ _ _ _ (fun r σ1 h => ?_) h)
    obtain ⟨x2, rfl, h⟩ := h
    show v 16 [some (aR 49)] [aI x2, aR 49] σ1
    refine r_callV (pc := 16) (l := [aI x2]) (av := [aI x2]) (a := 49) (t := []) hv 8 rfl rfl rfl rfl (rcv_o (by decide) rfl) trivial (hS.1 _ _ _ _ _ (fun r σ3 h => ?_) h)
    obtain ⟨x4, rfl, h⟩ := h
    show v 19 [some (aR 49)] [aI x4] σ3
    exact r_ireturn (pc := 19) hv 9 rfl rfl h
  · replace h := h.2 c
    refine r_iconst (pc := 7) hv 3 rfl  ?_
    refine r_goto (pc := 8) hv 4 rfl  ?_
    exact r_ireturn (pc := 19) hv 9 rfl rfl h
theorem m_X9_worstShake {S : Sp} (hS : Sys S) {σ : St} {Φ : Rs} (h : ∀ v : Kt, Cl S Φ k_X9_worstShake v → Wk v → vc_X9_worstShake_0 S Φ v  σ) : S 184 [aR 49] σ Φ :=
  hS.2 184 M_X9_worstShake k_X9_worstShake _ _ _ mkt_X9_worstShake (Nat.le_of_ble_eq_true rfl) (fun v hv hw => w_X9_worstShake_0 hS hv hw    σ (h v hv hw))
def vc_X9_over_38 (S : Sp) (Φ : Rs) (v : Kt) (l1 : Int32) (l2 : Int32) (s0 : Int32) (σ : St) : Prop := ((s0 : Int32) = 0 → (v 4 [some (aR 49), some (aI (l1 + 0)), some (aI (l2 + 1)), none] [] σ)) ∧ (¬ ((s0 : Int32) = 0) → (vp_in l2 40 ∧ (S 182 [aR 49, aI (σ.1 55 (l2 : Int32).toNatClampNeg)] σ (fun r σ1 => ∃ x2 : Int32, r = [aI x2] ∧ (vp_in 283 286 ∧ (((x2 : Int32) ≤ (σ1.1 50 (283 : Int32).toNatClampNeg) → (v 4 [some (aR 49), some (aI (l1 + 0)), some (aI (l2 + 1)), none] [] σ1)) ∧ (¬ ((x2 : Int32) ≤ (σ1.1 50 (283 : Int32).toNatClampNeg)) → (v 4 [some (aR 49), some (aI (l1 + 1)), some (aI (l2 + 1)), none] [] σ1))))))))
theorem w_X9_over_38 {S : Sp} (hS : Sys S) {Φ : Rs} {v : Kt} (hv : Cl S Φ k_X9_over v) (hw : Wk v) (l1 : Int32) (l2 : Int32) (s0 : Int32) (σ : St) (h : vc_X9_over_38 S Φ v l1 l2 s0 σ) : v 38 [some (aR 49), some (aI l1), some (aI l2), none] [aI s0] σ := by
  unfold vc_X9_over_38 at h
  refine r_istore_n (pc := 38) (lo' := [some (aR 49), some (aI l1), some (aI l2), some (aI s0)]) hv 24 rfl rfl ?_
  refine r_iload_n (pc := 39) hv 25 rfl rfl ?_
  refine r_iload_n (pc := 40) hv 26 rfl rfl ?_
  refine r_if_eq (pc := 41) hv 27 rfl (fun c => ?_) (fun c => ?_)
  · replace h := h.1 c
    refine r_iconst (pc := 69) hv 41 rfl  ?_
    refine r_iadd (pc := 70) hv 42 rfl  ?_
    refine r_istore_n (pc := 71) (lo' := [some (aR 49), some (aI (l1 + 0)), some (aI l2), some (aI s0)]) hv 43 rfl rfl ?_
    refine r_iinc (pc := 72) (lo' := [some (aR 49), some (aI (l1 + 0)), some (aI (l2 + 1)), some (aI s0)]) hv 44 rfl rfl rfl ?_
    refine r_goto (pc := 75) hv 45 rfl  ?_
    exact hw 4 [some (aR 49), some (aI (l1 + 0)), some (aI (l2 + 1)), none] _ _ _ ⟨rfl, ⟨rfl, ⟨rfl, trivial⟩⟩⟩ h
  · replace h := h.2 c
    refine r_aload_n (pc := 44) hv 28 rfl rfl ?_
    refine r_aload_n (pc := 45) hv 29 rfl rfl ?_
    refine r_getR (pc := 46) (b := 55) hv 30 rfl rfl rfl rfl ?_
    refine r_iload_n (pc := 49) hv 31 rfl rfl ?_
    refine r_iaload (pc := 50) (N := 40) hv 32 rfl rfl rfl (by decide) h.1 ?_
    replace h := h.2
    refine r_callV (pc := 51) (l := [aI (σ.1 55 (l2 : Int32).toNatClampNeg)]) (av := [aI (σ.1 55 (l2 : Int32).toNatClampNeg)]) (a := 49) (t := [aI l1]) hv 33 rfl rfl rfl rfl (rcv_o (by decide) rfl) trivial (hS.1 _ _ _ _ _ (fun r σ1 h => ?_) h)
    obtain ⟨x2, rfl, h⟩ := h
    show v 54 [some (aR 49), some (aI l1), some (aI l2), some (aI s0)] [aI x2, aI l1] σ1
    refine r_aload_n (pc := 54) hv 34 rfl rfl ?_
    refine r_getR (pc := 55) (b := 50) hv 35 rfl rfl rfl rfl ?_
    refine r_sipush (pc := 58) hv 36 rfl  ?_
    refine r_iaload (pc := 61) (N := 286) hv 37 rfl rfl rfl (by decide) h.1 ?_
    replace h := h.2
    refine r_icmp_le (pc := 62) hv 38 rfl (fun c => ?_) (fun c => ?_)
    · replace h := h.1 c
      refine r_iconst (pc := 69) hv 41 rfl  ?_
      refine r_iadd (pc := 70) hv 42 rfl  ?_
      refine r_istore_n (pc := 71) (lo' := [some (aR 49), some (aI (l1 + 0)), some (aI l2), some (aI s0)]) hv 43 rfl rfl ?_
      refine r_iinc (pc := 72) (lo' := [some (aR 49), some (aI (l1 + 0)), some (aI (l2 + 1)), some (aI s0)]) hv 44 rfl rfl rfl ?_
      refine r_goto (pc := 75) hv 45 rfl  ?_
      exact hw 4 [some (aR 49), some (aI (l1 + 0)), some (aI (l2 + 1)), none] _ _ _ ⟨rfl, ⟨rfl, ⟨rfl, trivial⟩⟩⟩ h
    · replace h := h.2 c
      refine r_iconst (pc := 65) hv 39 rfl  ?_
      refine r_goto (pc := 66) hv 40 rfl  ?_
      refine r_iadd (pc := 70) hv 42 rfl  ?_
      refine r_istore_n (pc := 71) (lo' := [some (aR 49), some (aI (l1 + 1)), some (aI l2), some (aI s0)]) hv 43 rfl rfl ?_
      refine r_iinc (pc := 72) (lo' := [some (aR 49), some (aI (l1 + 1)), some (aI (l2 + 1)), some (aI s0)]) hv 44 rfl rfl rfl ?_
      refine r_goto (pc := 75) hv 45 rfl  ?_
      exact hw 4 [some (aR 49), some (aI (l1 + 1)), some (aI (l2 + 1)), none] _ _ _ ⟨rfl, ⟨rfl, ⟨rfl, trivial⟩⟩⟩ h
def vc_X9_over_33 (S : Sp) (Φ : Rs) (v : Kt) (l1 : Int32) (l2 : Int32) (σ : St) : Prop := vc_X9_over_38 S Φ v  l1 l2 1 σ
theorem w_X9_over_33 {S : Sp} (hS : Sys S) {Φ : Rs} {v : Kt} (hv : Cl S Φ k_X9_over v) (hw : Wk v) (l1 : Int32) (l2 : Int32) (σ : St) (h : vc_X9_over_33 S Φ v l1 l2 σ) : v 33 [some (aR 49), some (aI l1), some (aI l2), none] [] σ := by
  unfold vc_X9_over_33 at h
  refine r_iconst (pc := 33) hv 21 rfl  ?_
  refine r_goto (pc := 34) hv 22 rfl  ?_
  exact (w_X9_over_38 hS hv hw   l1 l2 1  σ h)
def vc_X9_over_4 (S : Sp) (Φ : Rs) (v : Kt) (l1 : Int32) (l2 : Int32) (σ : St) : Prop := ((σ.1 49 12 : Int32) ≤ l2 → (Φ [aI l1] σ)) ∧ (¬ ((σ.1 49 12 : Int32) ≤ l2) → (((l2 : Int32) = 0 → (vc_X9_over_33 S Φ v  l1 l2 σ)) ∧ (¬ ((l2 : Int32) = 0) → (vp_in l2 40 ∧ (vp_in (l2 - 1) 40 ∧ (((σ.1 55 (l2 : Int32).toNatClampNeg : Int32) = (σ.1 55 (l2 - 1 : Int32).toNatClampNeg) → (vc_X9_over_38 S Φ v  l1 l2 0 σ)) ∧ (¬ ((σ.1 55 (l2 : Int32).toNatClampNeg : Int32) = (σ.1 55 (l2 - 1 : Int32).toNatClampNeg)) → (vc_X9_over_33 S Φ v  l1 l2 σ))))))))
theorem w_X9_over_4 {S : Sp} (hS : Sys S) {Φ : Rs} {v : Kt} (hv : Cl S Φ k_X9_over v) (hw : Wk v) (l1 : Int32) (l2 : Int32) (σ : St) (h : vc_X9_over_4 S Φ v l1 l2 σ) : v 4 [some (aR 49), some (aI l1), some (aI l2), none] [] σ := by
  unfold vc_X9_over_4 at h
  refine r_iload_n (pc := 4) hv 4 rfl rfl ?_
  refine r_aload_n (pc := 5) hv 5 rfl rfl ?_
  refine r_getI (pc := 6) hv 6 rfl rfl rfl ?_
  refine r_icmp_ge (pc := 9) hv 7 rfl (fun c => ?_) (fun c => ?_)
  · replace h := h.1 c
    refine r_iload_n (pc := 78) hv 46 rfl rfl ?_
    exact r_ireturn (pc := 79) hv 47 rfl rfl h
  · replace h := h.2 c
    refine r_iload_n (pc := 12) hv 8 rfl rfl ?_
    refine r_if_eq (pc := 13) hv 9 rfl (fun c => ?_) (fun c => ?_)
    · replace h := h.1 c
      exact (w_X9_over_33 hS hv hw   l1 l2  σ h)
    · replace h := h.2 c
      refine r_aload_n (pc := 16) hv 10 rfl rfl ?_
      refine r_getR (pc := 17) (b := 55) hv 11 rfl rfl rfl rfl ?_
      refine r_iload_n (pc := 20) hv 12 rfl rfl ?_
      refine r_iaload (pc := 21) (N := 40) hv 13 rfl rfl rfl (by decide) h.1 ?_
      replace h := h.2
      refine r_aload_n (pc := 22) hv 14 rfl rfl ?_
      refine r_getR (pc := 23) (b := 55) hv 15 rfl rfl rfl rfl ?_
      refine r_iload_n (pc := 26) hv 16 rfl rfl ?_
      refine r_iconst (pc := 27) hv 17 rfl  ?_
      refine r_isub (pc := 28) hv 18 rfl  ?_
      refine r_iaload (pc := 29) (N := 40) hv 19 rfl rfl rfl (by decide) h.1 ?_
      replace h := h.2
      refine r_icmp_eq (pc := 30) hv 20 rfl (fun c => ?_) (fun c => ?_)
      · replace h := h.1 c
        refine r_iconst (pc := 37) hv 23 rfl  ?_
        exact (w_X9_over_38 hS hv hw   l1 l2 0  σ h)
      · replace h := h.2 c
        exact (w_X9_over_33 hS hv hw   l1 l2  σ h)
def vc_X9_over_0 (S : Sp) (Φ : Rs) (v : Kt) (σ : St) : Prop := v 4 [some (aR 49), some (aI 0), some (aI 0), none] [] σ
theorem w_X9_over_0 {S : Sp} (hS : Sys S) {Φ : Rs} {v : Kt} (hv : Cl S Φ k_X9_over v) (hw : Wk v) (σ : St) (h : vc_X9_over_0 S Φ v  σ) : v 0 [some (aR 49), none, none, none] [] σ := by
  unfold vc_X9_over_0 at h
  refine r_iconst (pc := 0) hv 0 rfl  ?_
  refine r_istore_n (pc := 1) (lo' := [some (aR 49), some (aI 0), none, none]) hv 1 rfl rfl ?_
  refine r_iconst (pc := 2) hv 2 rfl  ?_
  refine r_istore_n (pc := 3) (lo' := [some (aR 49), some (aI 0), some (aI 0), none]) hv 3 rfl rfl ?_
  exact h
theorem m_X9_over {S : Sp} (hS : Sys S) {σ : St} {Φ : Rs} (h : ∀ v : Kt, Cl S Φ k_X9_over v → Wk v → vc_X9_over_0 S Φ v  σ) : S 185 [aR 49] σ Φ :=
  hS.2 185 M_X9_over k_X9_over _ _ _ mkt_X9_over (Nat.le_of_ble_eq_true rfl) (fun v hv hw => w_X9_over_0 hS hv hw    σ (h v hv hw))
def vc_X9_lays_0 (S : Sp) (Φ : Rs) (v : Kt) (σ : St) : Prop := S 175 [aR 49] σ (fun r σ1 => r = [] ∧ (S 181 [aR 49, aI (σ1.1 49 7)] σ1 (fun r σ2 => r = [] ∧ (Φ [] σ2))))
theorem w_X9_lays_0 {S : Sp} (hS : Sys S) {Φ : Rs} {v : Kt} (hv : Cl S Φ k_X9_lays v) (hw : Wk v) (σ : St) (h : vc_X9_lays_0 S Φ v  σ) : v 0 [some (aR 49)] [] σ := by
  unfold vc_X9_lays_0 at h
  refine r_aload_n (pc := 0) hv 0 rfl rfl ?_
  refine r_callV (pc := 1) (l := []) (av := []) (a := 49) (t := []) hv 1 rfl rfl rfl rfl (rcv_o (by decide) rfl) trivial (hS.1 _ _ _ _ _ (fun r σ1 h => ?_) h)
  obtain ⟨rfl, h⟩ := h
  show v 4 [some (aR 49)] [] σ1
  refine r_aload_n (pc := 4) hv 2 rfl rfl ?_
  refine r_aload_n (pc := 5) hv 3 rfl rfl ?_
  refine r_getI (pc := 6) hv 4 rfl rfl rfl ?_
  refine r_callV (pc := 9) (l := [aI (σ1.1 49 7)]) (av := [aI (σ1.1 49 7)]) (a := 49) (t := []) hv 5 rfl rfl rfl rfl (rcv_o (by decide) rfl) trivial (hS.1 _ _ _ _ _ (fun r σ2 h => ?_) h)
  obtain ⟨rfl, h⟩ := h
  show v 12 [some (aR 49)] [] σ2
  exact r_return (pc := 12) hv 6 rfl h
theorem m_X9_lays {S : Sp} (hS : Sys S) {σ : St} {Φ : Rs} (h : ∀ v : Kt, Cl S Φ k_X9_lays v → Wk v → vc_X9_lays_0 S Φ v  σ) : S 186 [aR 49] σ Φ :=
  hS.2 186 M_X9_lays k_X9_lays _ _ _ mkt_X9_lays (Nat.le_of_ble_eq_true rfl) (fun v hv hw => w_X9_lays_0 hS hv hw    σ (h v hv hw))
def vc_X9_shot_0 (S : Sp) (Φ : Rs) (v : Kt) (l1 : Int32) (l2 : Int32) (σ : St) : Prop := S 186 [aR 49] σ (fun r σ1 => r = [] ∧ (((b2 ((0 : Int64) ≤ ((l1 : Int32).toInt64) ∧ ((l1 : Int32).toInt64 : Int64) ≤ (((σ1.1 49 12) - 1 : Int32).toInt64)) : Int32) = 0 → (Φ [aI (-1)] σ1)) ∧ (¬ ((b2 ((0 : Int64) ≤ ((l1 : Int32).toInt64) ∧ ((l1 : Int32).toInt64 : Int64) ≤ (((σ1.1 49 12) - 1 : Int32).toInt64)) : Int32) = 0) → ((¬ (b2 ((0 : Int64) ≤ ((l2 : Int32).toInt64) ∧ ((l2 : Int32).toInt64 : Int64) ≤ 2) : Int32) = 0 → ((¬ (l2 : Int32) = 0 → ((¬ (l2 : Int32) = 1 → (vp_in l1 40 ∧ (Φ [aI (σ1.1 57 (l1 : Int32).toNatClampNeg)] σ1))) ∧ ((l2 : Int32) = 1 → (vp_in l1 40 ∧ (Φ [aI (σ1.1 56 (l1 : Int32).toNatClampNeg)] σ1))))) ∧ ((l2 : Int32) = 0 → (vp_in l1 40 ∧ (Φ [aI (σ1.1 55 (l1 : Int32).toNatClampNeg)] σ1))))) ∧ ((b2 ((0 : Int64) ≤ ((l2 : Int32).toInt64) ∧ ((l2 : Int32).toInt64 : Int64) ≤ 2) : Int32) = 0 → (Φ [aI (-1)] σ1))))))
theorem w_X9_shot_0 {S : Sp} (hS : Sys S) {Φ : Rs} {v : Kt} (hv : Cl S Φ k_X9_shot v) (hw : Wk v) (l1 : Int32) (l2 : Int32) (σ : St) (h : vc_X9_shot_0 S Φ v l1 l2 σ) : v 0 [some (aR 49), some (aI l1), some (aI l2)] [] σ := by
  unfold vc_X9_shot_0 at h
  refine r_aload_n (pc := 0) hv 0 rfl rfl ?_
  refine r_callV (pc := 1) (l := []) (av := []) (a := 49) (t := []) hv 1 rfl rfl rfl rfl (rcv_o (by decide) rfl) trivial (hS.1 _ _ _ _ _ (fun r σ1 h => ?_) h)
  obtain ⟨rfl, h⟩ := h
  show v 4 [some (aR 49), some (aI l1), some (aI l2)] [] σ1
  refine r_iload_n (pc := 4) hv 2 rfl rfl ?_
  refine r_i2l (pc := 5) hv 3 rfl  ?_
  refine r_lconst (pc := 6) hv 4 rfl  ?_
  refine r_aload_n (pc := 7) hv 5 rfl rfl ?_
  refine r_getI (pc := 8) hv 6 rfl rfl rfl ?_
  refine r_iconst (pc := 11) hv 7 rfl  ?_
  refine r_isub (pc := 12) hv 8 rfl  ?_
  refine r_i2l (pc := 13) hv 9 rfl  ?_
  refine r_callS (pc := 14) (l := [aL (((σ1.1 49 12) - 1 : Int32).toInt64), aL 0, aL ((l1 : Int32).toInt64)]) (av := [aL ((l1 : Int32).toInt64), aL 0, aL (((σ1.1 49 12) - 1 : Int32).toInt64)]) (t := []) hv 10 rfl (Or.inl rfl) rfl rfl rfl trivial (t_X9_in hS ?_)
  show v 17 [some (aR 49), some (aI l1), some (aI l2)] [aI (b2 ((0 : Int64) ≤ ((l1 : Int32).toInt64) ∧ ((l1 : Int32).toInt64 : Int64) ≤ (((σ1.1 49 12) - 1 : Int32).toInt64)))] σ1
  refine r_if_eq (pc := 17) hv 11 rfl (fun c => ?_) (fun c => ?_)
  · replace h := h.1 c
    refine r_iconst (pc := 32) hv 18 rfl  ?_
    exact r_ireturn (pc := 33) hv 19 rfl rfl h
  · replace h := h.2 c
    refine r_iload_n (pc := 20) hv 12 rfl rfl ?_
    refine r_i2l (pc := 21) hv 13 rfl  ?_
    refine r_lconst (pc := 22) hv 14 rfl  ?_
    refine r_ldc2_w (pc := 23) hv 15 rfl  ?_
    refine r_callS (pc := 26) (l := [aL 2, aL 0, aL ((l2 : Int32).toInt64)]) (av := [aL ((l2 : Int32).toInt64), aL 0, aL 2]) (t := []) hv 16 rfl (Or.inl rfl) rfl rfl rfl trivial (t_X9_in hS ?_)
    show v 29 [some (aR 49), some (aI l1), some (aI l2)] [aI (b2 ((0 : Int64) ≤ ((l2 : Int32).toInt64) ∧ ((l2 : Int32).toInt64 : Int64) ≤ 2))] σ1
    refine r_if_ne (pc := 29) hv 17 rfl (fun c => ?_) (fun c => ?_)
    · replace h := h.1 c
      refine r_iload_n (pc := 34) hv 20 rfl rfl ?_
      refine r_if_ne (pc := 35) hv 21 rfl (fun c => ?_) (fun c => ?_)
      · replace h := h.1 c
        refine r_iload_n (pc := 47) hv 27 rfl rfl ?_
        refine r_iconst (pc := 48) hv 28 rfl  ?_
        refine r_icmp_ne (pc := 49) hv 29 rfl (fun c => ?_) (fun c => ?_)
        · replace h := h.1 c
          refine r_aload_n (pc := 61) hv 35 rfl rfl ?_
          refine r_getR (pc := 62) (b := 57) hv 36 rfl rfl rfl rfl ?_
          refine r_iload_n (pc := 65) hv 37 rfl rfl ?_
          refine r_iaload (pc := 66) (N := 40) hv 38 rfl rfl rfl (by decide) h.1 ?_
          replace h := h.2
          exact r_ireturn (pc := 67) hv 39 rfl rfl h
        · replace h := h.2 c
          refine r_aload_n (pc := 52) hv 30 rfl rfl ?_
          refine r_getR (pc := 53) (b := 56) hv 31 rfl rfl rfl rfl ?_
          refine r_iload_n (pc := 56) hv 32 rfl rfl ?_
          refine r_iaload (pc := 57) (N := 40) hv 33 rfl rfl rfl (by decide) h.1 ?_
          replace h := h.2
          refine r_goto (pc := 58) hv 34 rfl  ?_
          exact r_ireturn (pc := 67) hv 39 rfl rfl h
      · replace h := h.2 c
        refine r_aload_n (pc := 38) hv 22 rfl rfl ?_
        refine r_getR (pc := 39) (b := 55) hv 23 rfl rfl rfl rfl ?_
        refine r_iload_n (pc := 42) hv 24 rfl rfl ?_
        refine r_iaload (pc := 43) (N := 40) hv 25 rfl rfl rfl (by decide) h.1 ?_
        replace h := h.2
        refine r_goto (pc := 44) hv 26 rfl  ?_
        exact r_ireturn (pc := 67) hv 39 rfl rfl h
    · replace h := h.2 c
      refine r_iconst (pc := 32) hv 18 rfl  ?_
      exact r_ireturn (pc := 33) hv 19 rfl rfl h
theorem m_X9_shot {S : Sp} (hS : Sys S) {l1 : Int32} {l2 : Int32} {σ : St} {Φ : Rs} (h : ∀ v : Kt, Cl S Φ k_X9_shot v → Wk v → vc_X9_shot_0 S Φ v l1 l2 σ) : S 187 [aR 49, aI l1, aI l2] σ Φ :=
  hS.2 187 M_X9_shot k_X9_shot _ _ _ mkt_X9_shot (Nat.le_of_ble_eq_true rfl) (fun v hv hw => w_X9_shot_0 hS hv hw   l1 l2 σ (h v hv hw))
def vc_X9_shake_0 (S : Sp) (Φ : Rs) (v : Kt) (l1 : Int32) (σ : St) : Prop := (¬ (b2 ((0 : Int64) ≤ ((l1 : Int32).toInt64) ∧ ((l1 : Int32).toInt64 : Int64) ≤ 99999) : Int32) = 0 → (S 186 [aR 49] σ (fun r σ1 => r = [] ∧ (S 182 [aR 49, aI l1] σ1 (fun r σ2 => ∃ x3 : Int32, r = [aI x3] ∧ (Φ [aI x3] σ2)))))) ∧ ((b2 ((0 : Int64) ≤ ((l1 : Int32).toInt64) ∧ ((l1 : Int32).toInt64 : Int64) ≤ 99999) : Int32) = 0 → (Φ [aI (-2)] σ))
theorem w_X9_shake_0 {S : Sp} (hS : Sys S) {Φ : Rs} {v : Kt} (hv : Cl S Φ k_X9_shake v) (hw : Wk v) (l1 : Int32) (σ : St) (h : vc_X9_shake_0 S Φ v l1 σ) : v 0 [some (aR 49), some (aI l1)] [] σ := by
  unfold vc_X9_shake_0 at h
  refine r_iload_n (pc := 0) hv 0 rfl rfl ?_
  refine r_i2l (pc := 1) hv 1 rfl  ?_
  refine r_lconst (pc := 2) hv 2 rfl  ?_
  refine r_ldc2_w (pc := 3) hv 3 rfl  ?_
  refine r_callS (pc := 6) (l := [aL 99999, aL 0, aL ((l1 : Int32).toInt64)]) (av := [aL ((l1 : Int32).toInt64), aL 0, aL 99999]) (t := []) hv 4 rfl (Or.inl rfl) rfl rfl rfl trivial (t_X9_in hS ?_)
  show v 9 [some (aR 49), some (aI l1)] [aI (b2 ((0 : Int64) ≤ ((l1 : Int32).toInt64) ∧ ((l1 : Int32).toInt64 : Int64) ≤ 99999))] σ
  refine r_if_ne (pc := 9) hv 5 rfl (fun c => ?_) (fun c => ?_)
  · replace h := h.1 c
    refine r_aload_n (pc := 15) hv 8 rfl rfl ?_
    refine r_callV (pc := 16) (l := []) (av := []) (a := 49) (t := []) hv 9 rfl rfl rfl rfl (rcv_o (by decide) rfl) trivial (hS.1 _ _ _ _ _ (fun r σ1 h => ?_) h)
    obtain ⟨rfl, h⟩ := h
    show v 19 [some (aR 49), some (aI l1)] [] σ1
    refine r_aload_n (pc := 19) hv 10 rfl rfl ?_
    refine r_iload_n (pc := 20) hv 11 rfl rfl ?_
    refine r_callV (pc := 21) (l := [aI l1]) (av := [aI l1]) (a := 49) (t := []) hv 12 rfl rfl rfl rfl (rcv_o (by decide) rfl) trivial (hS.1 _ _ _ _ _ (fun r σ2 h => ?_) h)
    obtain ⟨x3, rfl, h⟩ := h
    show v 24 [some (aR 49), some (aI l1)] [aI x3] σ2
    exact r_ireturn (pc := 24) hv 13 rfl rfl h
  · replace h := h.2 c
    refine r_bipush (pc := 12) hv 6 rfl  ?_
    exact r_ireturn (pc := 14) hv 7 rfl rfl h
theorem m_X9_shake {S : Sp} (hS : Sys S) {l1 : Int32} {σ : St} {Φ : Rs} (h : ∀ v : Kt, Cl S Φ k_X9_shake v → Wk v → vc_X9_shake_0 S Φ v l1 σ) : S 188 [aR 49, aI l1] σ Φ :=
  hS.2 188 M_X9_shake k_X9_shake _ _ _ mkt_X9_shake (Nat.le_of_ble_eq_true rfl) (fun v hv hw => w_X9_shake_0 hS hv hw   l1 σ (h v hv hw))
def vc_X9_worst_0 (S : Sp) (Φ : Rs) (v : Kt) (l1 : Int32) (σ : St) : Prop := (¬ (b2 ((0 : Int64) ≤ ((l1 : Int32).toInt64) ∧ ((l1 : Int32).toInt64 : Int64) ≤ 3) : Int32) = 0 → (S 186 [aR 49] σ (fun r σ1 => r = [] ∧ ((¬ (l1 : Int32) = 0 → ((¬ (l1 : Int32) = 1 → ((¬ (l1 : Int32) = 2 → (Φ [aI (σ1.1 49 12)] σ1)) ∧ ((l1 : Int32) = 2 → (S 185 [aR 49] σ1 (fun r σ2 => ∃ x3 : Int32, r = [aI x3] ∧ (Φ [aI x3] σ2)))))) ∧ ((l1 : Int32) = 1 → (S 183 [aR 49] σ1 (fun r σ4 => ∃ x5 : Int32, r = [aI x5] ∧ (Φ [aI x5] σ4)))))) ∧ ((l1 : Int32) = 0 → (S 184 [aR 49] σ1 (fun r σ6 => ∃ x7 : Int32, r = [aI x7] ∧ (Φ [aI x7] σ6)))))))) ∧ ((b2 ((0 : Int64) ≤ ((l1 : Int32).toInt64) ∧ ((l1 : Int32).toInt64 : Int64) ≤ 3) : Int32) = 0 → (Φ [aI (-1)] σ))
theorem w_X9_worst_0 {S : Sp} (hS : Sys S) {Φ : Rs} {v : Kt} (hv : Cl S Φ k_X9_worst v) (hw : Wk v) (l1 : Int32) (σ : St) (h : vc_X9_worst_0 S Φ v l1 σ) : v 0 [some (aR 49), some (aI l1)] [] σ := by
  unfold vc_X9_worst_0 at h
  refine r_iload_n (pc := 0) hv 0 rfl rfl ?_
  refine r_i2l (pc := 1) hv 1 rfl  ?_
  refine r_lconst (pc := 2) hv 2 rfl  ?_
  refine r_ldc2_w (pc := 3) hv 3 rfl  ?_
  refine r_callS (pc := 6) (l := [aL 3, aL 0, aL ((l1 : Int32).toInt64)]) (av := [aL ((l1 : Int32).toInt64), aL 0, aL 3]) (t := []) hv 4 rfl (Or.inl rfl) rfl rfl rfl trivial (t_X9_in hS ?_)
  show v 9 [some (aR 49), some (aI l1)] [aI (b2 ((0 : Int64) ≤ ((l1 : Int32).toInt64) ∧ ((l1 : Int32).toInt64 : Int64) ≤ 3))] σ
  refine r_if_ne (pc := 9) hv 5 rfl (fun c => ?_) (fun c => ?_)
  · replace h := h.1 c
    refine r_aload_n (pc := 14) hv 8 rfl rfl ?_
    refine r_callV (pc := 15) (l := []) (av := []) (a := 49) (t := []) hv 9 rfl rfl rfl rfl (rcv_o (by decide) rfl) trivial (hS.1 _ _ _ _ _ (fun r σ1 h => ?_) h)
    obtain ⟨rfl, h⟩ := h
    show v 18 [some (aR 49), some (aI l1)] [] σ1
    refine r_iload_n (pc := 18) hv 10 rfl rfl ?_
    refine r_if_ne (pc := 19) hv 11 rfl (fun c => ?_) (fun c => ?_)
    · replace h := h.1 c
      refine r_iload_n (pc := 29) hv 15 rfl rfl ?_
      refine r_iconst (pc := 30) hv 16 rfl  ?_
      refine r_icmp_ne (pc := 31) hv 17 rfl (fun c => ?_) (fun c => ?_)
      · replace h := h.1 c
        refine r_iload_n (pc := 41) hv 21 rfl rfl ?_
        refine r_iconst (pc := 42) hv 22 rfl  ?_
        refine r_icmp_ne (pc := 43) hv 23 rfl (fun c => ?_) (fun c => ?_)
        · replace h := h.1 c
          refine r_aload_n (pc := 53) hv 27 rfl rfl ?_
          refine r_getI (pc := 54) hv 28 rfl rfl rfl ?_
          exact r_ireturn (pc := 57) hv 29 rfl rfl h
        · replace h := h.2 c
          refine r_aload_n (pc := 46) hv 24 rfl rfl ?_
          refine r_callV (pc := 47) (l := []) (av := []) (a := 49) (t := []) hv 25 rfl rfl rfl rfl (rcv_o (by decide) rfl) trivial (hS.1 _ _ _ _ _ (fun r σ2 h => ?_) h)
          obtain ⟨x3, rfl, h⟩ := h
          show v 50 [some (aR 49), some (aI l1)] [aI x3] σ2
          refine r_goto (pc := 50) hv 26 rfl  ?_
          exact r_ireturn (pc := 57) hv 29 rfl rfl h
      · replace h := h.2 c
        refine r_aload_n (pc := 34) hv 18 rfl rfl ?_
        refine r_callV (pc := 35) (l := []) (av := []) (a := 49) (t := []) hv 19 rfl rfl rfl rfl (rcv_o (by decide) rfl) trivial (hS.1 _ _ _ _ _ (fun r σ4 h => ?_) h)
        obtain ⟨x5, rfl, h⟩ := h
        show v 38 [some (aR 49), some (aI l1)] [aI x5] σ4
        refine r_goto (pc := 38) hv 20 rfl  ?_
        exact r_ireturn (pc := 57) hv 29 rfl rfl h
    · replace h := h.2 c
      refine r_aload_n (pc := 22) hv 12 rfl rfl ?_
      refine r_callV (pc := 23) (l := []) (av := []) (a := 49) (t := []) hv 13 rfl rfl rfl rfl (rcv_o (by decide) rfl) trivial (hS.1 _ _ _ _ _ (fun r σ6 h => ?_) h)
      obtain ⟨x7, rfl, h⟩ := h
      show v 26 [some (aR 49), some (aI l1)] [aI x7] σ6
      refine r_goto (pc := 26) hv 14 rfl  ?_
      exact r_ireturn (pc := 57) hv 29 rfl rfl h
  · replace h := h.2 c
    refine r_iconst (pc := 12) hv 6 rfl  ?_
    exact r_ireturn (pc := 13) hv 7 rfl rfl h
theorem m_X9_worst {S : Sp} (hS : Sys S) {l1 : Int32} {σ : St} {Φ : Rs} (h : ∀ v : Kt, Cl S Φ k_X9_worst v → Wk v → vc_X9_worst_0 S Φ v l1 σ) : S 189 [aR 49, aI l1] σ Φ :=
  hS.2 189 M_X9_worst k_X9_worst _ _ _ mkt_X9_worst (Nat.le_of_ble_eq_true rfl) (fun v hv hw => w_X9_worst_0 hS hv hw   l1 σ (h v hv hw))
def vc_X9_safe_21 (S : Sp) (Φ : Rs) (v : Kt) (l1 : Int32) (l2 : Int32) (σ : St) : Prop := S 184 [aR 49] σ (fun r σ1 => ∃ x2 : Int32, r = [aI x2] ∧ (((l1 * x2 : Int32) ≤ (l2 * l2) → (Φ [aI l2] σ1)) ∧ (¬ ((l1 * x2 : Int32) ≤ (l2 * l2)) → (v 21 [some (aR 49), some (aI l1), some (aI (l2 + 1))] [] σ1))))
theorem w_X9_safe_21 {S : Sp} (hS : Sys S) {Φ : Rs} {v : Kt} (hv : Cl S Φ k_X9_safe v) (hw : Wk v) (l1 : Int32) (l2 : Int32) (σ : St) (h : vc_X9_safe_21 S Φ v l1 l2 σ) : v 21 [some (aR 49), some (aI l1), some (aI l2)] [] σ := by
  unfold vc_X9_safe_21 at h
  refine r_iload_n (pc := 21) hv 12 rfl rfl ?_
  refine r_iload_n (pc := 22) hv 13 rfl rfl ?_
  refine r_imul (pc := 23) hv 14 rfl  ?_
  refine r_iload_n (pc := 24) hv 15 rfl rfl ?_
  refine r_aload_n (pc := 25) hv 16 rfl rfl ?_
  refine r_callV (pc := 26) (l := []) (av := []) (a := 49) (t := [aI l1, aI (l2 * l2)]) hv 17 rfl rfl rfl rfl (rcv_o (by decide) rfl) trivial (hS.1 _ _ _ _ _ (fun r σ1 h => ?_) h)
  obtain ⟨x2, rfl, h⟩ := h
  show v 29 [some (aR 49), some (aI l1), some (aI l2)] [aI x2, aI l1, aI (l2 * l2)] σ1
  refine r_imul (pc := 29) hv 18 rfl  ?_
  refine r_icmp_ge (pc := 30) hv 19 rfl (fun c => ?_) (fun c => ?_)
  · replace h := h.1 c
    refine r_iload_n (pc := 39) hv 22 rfl rfl ?_
    exact r_ireturn (pc := 40) hv 23 rfl rfl h
  · replace h := h.2 c
    refine r_iinc (pc := 33) (lo' := [some (aR 49), some (aI l1), some (aI (l2 + 1))]) hv 20 rfl rfl rfl ?_
    refine r_goto (pc := 36) hv 21 rfl  ?_
    exact h
def vc_X9_safe_0 (S : Sp) (Φ : Rs) (v : Kt) (l1 : Int32) (σ : St) : Prop := (¬ (b2 ((1 : Int64) ≤ ((l1 : Int32).toInt64) ∧ ((l1 : Int32).toInt64 : Int64) ≤ 1000) : Int32) = 0 → (S 186 [aR 49] σ (fun r σ1 => r = [] ∧ (v 21 [some (aR 49), some (aI l1), some (aI 0)] [] σ1)))) ∧ ((b2 ((1 : Int64) ≤ ((l1 : Int32).toInt64) ∧ ((l1 : Int32).toInt64 : Int64) ≤ 1000) : Int32) = 0 → (Φ [aI (-2)] σ))
theorem w_X9_safe_0 {S : Sp} (hS : Sys S) {Φ : Rs} {v : Kt} (hv : Cl S Φ k_X9_safe v) (hw : Wk v) (l1 : Int32) (σ : St) (h : vc_X9_safe_0 S Φ v l1 σ) : v 0 [some (aR 49), some (aI l1), none] [] σ := by
  unfold vc_X9_safe_0 at h
  refine r_iload_n (pc := 0) hv 0 rfl rfl ?_
  refine r_i2l (pc := 1) hv 1 rfl  ?_
  refine r_lconst (pc := 2) hv 2 rfl  ?_
  refine r_ldc2_w (pc := 3) hv 3 rfl  ?_
  refine r_callS (pc := 6) (l := [aL 1000, aL 1, aL ((l1 : Int32).toInt64)]) (av := [aL ((l1 : Int32).toInt64), aL 1, aL 1000]) (t := []) hv 4 rfl (Or.inl rfl) rfl rfl rfl trivial (t_X9_in hS ?_)
  show v 9 [some (aR 49), some (aI l1), none] [aI (b2 ((1 : Int64) ≤ ((l1 : Int32).toInt64) ∧ ((l1 : Int32).toInt64 : Int64) ≤ 1000))] σ
  refine r_if_ne (pc := 9) hv 5 rfl (fun c => ?_) (fun c => ?_)
  · replace h := h.1 c
    refine r_aload_n (pc := 15) hv 8 rfl rfl ?_
    refine r_callV (pc := 16) (l := []) (av := []) (a := 49) (t := []) hv 9 rfl rfl rfl rfl (rcv_o (by decide) rfl) trivial (hS.1 _ _ _ _ _ (fun r σ1 h => ?_) h)
    obtain ⟨rfl, h⟩ := h
    show v 19 [some (aR 49), some (aI l1), none] [] σ1
    refine r_iconst (pc := 19) hv 10 rfl  ?_
    refine r_istore_n (pc := 20) (lo' := [some (aR 49), some (aI l1), some (aI 0)]) hv 11 rfl rfl ?_
    exact h
  · replace h := h.2 c
    refine r_bipush (pc := 12) hv 6 rfl  ?_
    exact r_ireturn (pc := 14) hv 7 rfl rfl h
theorem m_X9_safe {S : Sp} (hS : Sys S) {l1 : Int32} {σ : St} {Φ : Rs} (h : ∀ v : Kt, Cl S Φ k_X9_safe v → Wk v → vc_X9_safe_0 S Φ v l1 σ) : S 190 [aR 49, aI l1] σ Φ :=
  hS.2 190 M_X9_safe k_X9_safe _ _ _ mkt_X9_safe (Nat.le_of_ble_eq_true rfl) (fun v hv hw => w_X9_safe_0 hS hv hw   l1 σ (h v hv hw))
def vc_X9_ring_27 (S : Sp) (Φ : Rs) (v : Kt) (l1 : Int32) (l2 : Int64) (l4 : Int32) (σ : St) : Prop := vp_in 280 286 ∧ (((σ.1 50 (280 : Int32).toNatClampNeg : Int32) ≤ l4 → (Φ [aL l2] σ)) ∧ (¬ ((σ.1 50 (280 : Int32).toNatClampNeg : Int32) ≤ l4) → ((¬ (b2 (((σ.1 49 7 : Int32) >>> (l4 &&& 31)) &&& 1 = 1) : Int32) = 0 → (S 178 [aR 49, aI l4] σ (fun r σ1 => ∃ x2 : Int32, r = [aI x2] ∧ (S 157 [aR 49, aI l4] σ1 (fun r σ3 => ∃ x4 : Int32, r = [aI x4] ∧ (¬ (x2 + 1 : Int32) = 0 ∧ (((0 : Int32) ≤ l1 → (((x2 : Int32) < l1 → (v 27 [some (aR 49), some (aI l1), some (aL l2), none, some (aI (l4 + 1)), none, none] [] σ3)) ∧ (¬ ((x2 : Int32) < l1) → ((¬ (l1 : Int32) = 0 → (v 27 [some (aR 49), some (aI l1), some (aL (l2 + ((x4 / (x2 + 1) : Int32).toInt64))), none, some (aI (l4 + 1)), none, none] [] σ3)) ∧ ((l1 : Int32) = 0 → (S 157 [aR 49, aI l4] σ3 (fun r σ5 => ∃ x6 : Int32, r = [aI x6] ∧ (v 27 [some (aR 49), some (aI l1), some (aL (l2 + ((x6 - ((x4 / (x2 + 1)) * x2) : Int32).toInt64))), none, some (aI (l4 + 1)), none, none] [] σ5)))))))) ∧ (¬ ((0 : Int32) ≤ l1) → (v 27 [some (aR 49), some (aI l1), some (aL (l2 + (((((x4 / (x2 + 1)) * x2) * (x2 + 1)) / 2 : Int32).toInt64))), none, some (aI (l4 + 1)), none, none] [] σ3))))))))) ∧ ((b2 (((σ.1 49 7 : Int32) >>> (l4 &&& 31)) &&& 1 = 1) : Int32) = 0 → (v 27 [some (aR 49), some (aI l1), some (aL l2), none, some (aI (l4 + 1)), none, none] [] σ)))))
theorem w_X9_ring_27 {S : Sp} (hS : Sys S) {Φ : Rs} {v : Kt} (hv : Cl S Φ k_X9_ring v) (hw : Wk v) (l1 : Int32) (l2 : Int64) (l4 : Int32) (σ : St) (h : vc_X9_ring_27 S Φ v l1 l2 l4 σ) : v 27 [some (aR 49), some (aI l1), some (aL l2), none, some (aI l4), none, none] [] σ := by
  unfold vc_X9_ring_27 at h
  refine r_iload (pc := 27) hv 14 rfl rfl ?_
  refine r_aload_n (pc := 29) hv 15 rfl rfl ?_
  refine r_getR (pc := 30) (b := 50) hv 16 rfl rfl rfl rfl ?_
  refine r_sipush (pc := 33) hv 17 rfl  ?_
  refine r_iaload (pc := 36) (N := 286) hv 18 rfl rfl rfl (by decide) h.1 ?_
  replace h := h.2
  refine r_icmp_ge (pc := 37) hv 19 rfl (fun c => ?_) (fun c => ?_)
  · replace h := h.1 c
    refine r_lload_n (pc := 138) hv 76 rfl rfl ?_
    exact r_lreturn (pc := 139) hv 77 rfl h
  · replace h := h.2 c
    refine r_aload_n (pc := 40) hv 20 rfl rfl ?_
    refine r_aload_n (pc := 41) hv 21 rfl rfl ?_
    refine r_getI (pc := 42) hv 22 rfl rfl rfl ?_
    refine r_iload (pc := 45) hv 23 rfl rfl ?_
    refine r_callV (pc := 47) (l := [aI l4, aI (σ.1 49 7)]) (av := [aI (σ.1 49 7), aI l4]) (a := 49) (t := []) hv 24 rfl rfl rfl rfl (rcv_o (by decide) rfl) trivial (t_X9_has hS ?_)
    show v 50 [some (aR 49), some (aI l1), some (aL l2), none, some (aI l4), none, none] [aI (b2 (((σ.1 49 7 : Int32) >>> (l4 &&& 31)) &&& 1 = 1))] σ
    refine r_if_ne (pc := 50) hv 25 rfl (fun c => ?_) (fun c => ?_)
    · replace h := h.1 c
      refine r_aload_n (pc := 56) hv 27 rfl rfl ?_
      refine r_iload (pc := 57) hv 28 rfl rfl ?_
      refine r_callV (pc := 59) (l := [aI l4]) (av := [aI l4]) (a := 49) (t := []) hv 29 rfl rfl rfl rfl (rcv_o (by decide) rfl) trivial (hS.1 _ _ _ _ _ (fun r σ1 h => ?_) h)
      obtain ⟨x2, rfl, h⟩ := h
      show v 62 [some (aR 49), some (aI l1), some (aL l2), none, some (aI l4), none, none] [aI x2] σ1
      refine r_istore (pc := 62) (lo' := [some (aR 49), some (aI l1), some (aL l2), none, some (aI l4), some (aI x2), none]) hv 30 rfl rfl ?_
      refine r_aload_n (pc := 64) hv 31 rfl rfl ?_
      refine r_iload (pc := 65) hv 32 rfl rfl ?_
      refine r_callV (pc := 67) (l := [aI l4]) (av := [aI l4]) (a := 49) (t := []) hv 33 rfl rfl rfl rfl (rcv_o (by decide) rfl) trivial (hS.1 _ _ _ _ _ (fun r σ3 h => ?_) h)
      obtain ⟨x4, rfl, h⟩ := h
      show v 70 [some (aR 49), some (aI l1), some (aL l2), none, some (aI l4), some (aI x2), none] [aI x4] σ3
      refine r_iload (pc := 70) hv 34 rfl rfl ?_
      refine r_iconst (pc := 72) hv 35 rfl  ?_
      refine r_iadd (pc := 73) hv 36 rfl  ?_
      refine r_idiv (pc := 74) hv 37 rfl h.1 ?_
      replace h := h.2
      refine r_istore (pc := 75) (lo' := [some (aR 49), some (aI l1), some (aL l2), none, some (aI l4), some (aI x2), some (aI (x4 / (x2 + 1)))]) hv 38 rfl rfl ?_
      refine r_iload_n (pc := 77) hv 39 rfl rfl ?_
      refine r_if_ge (pc := 78) hv 40 rfl (fun c => ?_) (fun c => ?_)
      · replace h := h.1 c
        refine r_iload_n (pc := 100) hv 55 rfl rfl ?_
        refine r_iload (pc := 101) hv 56 rfl rfl ?_
        refine r_icmp_gt (pc := 103) hv 57 rfl (fun c => ?_) (fun c => ?_)
        · replace h := h.1 c
          refine r_iinc (pc := 132) (lo' := [some (aR 49), some (aI l1), some (aL l2), none, some (aI (l4 + 1)), some (aI x2), some (aI (x4 / (x2 + 1)))]) hv 74 rfl rfl rfl ?_
          refine r_goto (pc := 135) hv 75 rfl  ?_
          exact hw 27 [some (aR 49), some (aI l1), some (aL l2), none, some (aI (l4 + 1)), none, none] _ _ _ ⟨rfl, ⟨rfl, ⟨rfl, ⟨rfl, trivial⟩⟩⟩⟩ h
        · replace h := h.2 c
          refine r_lload_n (pc := 106) hv 58 rfl rfl ?_
          refine r_iload_n (pc := 107) hv 59 rfl rfl ?_
          refine r_if_ne (pc := 108) hv 60 rfl (fun c => ?_) (fun c => ?_)
          · replace h := h.1 c
            refine r_iload (pc := 127) hv 70 rfl rfl ?_
            refine r_i2l (pc := 129) hv 71 rfl  ?_
            refine r_ladd (pc := 130) hv 72 rfl  ?_
            refine r_lstore_n (pc := 131) (lo' := [some (aR 49), some (aI l1), some (aL (l2 + ((x4 / (x2 + 1) : Int32).toInt64))), none, some (aI l4), some (aI x2), some (aI (x4 / (x2 + 1)))]) hv 73 rfl rfl ?_
            refine r_iinc (pc := 132) (lo' := [some (aR 49), some (aI l1), some (aL (l2 + ((x4 / (x2 + 1) : Int32).toInt64))), none, some (aI (l4 + 1)), some (aI x2), some (aI (x4 / (x2 + 1)))]) hv 74 rfl rfl rfl ?_
            refine r_goto (pc := 135) hv 75 rfl  ?_
            exact hw 27 [some (aR 49), some (aI l1), some (aL (l2 + ((x4 / (x2 + 1) : Int32).toInt64))), none, some (aI (l4 + 1)), none, none] _ _ _ ⟨rfl, ⟨rfl, ⟨rfl, ⟨rfl, trivial⟩⟩⟩⟩ h
          · replace h := h.2 c
            refine r_aload_n (pc := 111) hv 61 rfl rfl ?_
            refine r_iload (pc := 112) hv 62 rfl rfl ?_
            refine r_callV (pc := 114) (l := [aI l4]) (av := [aI l4]) (a := 49) (t := [aL l2]) hv 63 rfl rfl rfl rfl (rcv_o (by decide) rfl) trivial (hS.1 _ _ _ _ _ (fun r σ5 h => ?_) h)
            obtain ⟨x6, rfl, h⟩ := h
            show v 117 [some (aR 49), some (aI l1), some (aL l2), none, some (aI l4), some (aI x2), some (aI (x4 / (x2 + 1)))] [aI x6, aL l2] σ5
            refine r_iload (pc := 117) hv 64 rfl rfl ?_
            refine r_iload (pc := 119) hv 65 rfl rfl ?_
            refine r_imul (pc := 121) hv 66 rfl  ?_
            refine r_isub (pc := 122) hv 67 rfl  ?_
            refine r_i2l (pc := 123) hv 68 rfl  ?_
            refine r_goto (pc := 124) hv 69 rfl  ?_
            refine r_ladd (pc := 130) hv 72 rfl  ?_
            refine r_lstore_n (pc := 131) (lo' := [some (aR 49), some (aI l1), some (aL (l2 + ((x6 - ((x4 / (x2 + 1)) * x2) : Int32).toInt64))), none, some (aI l4), some (aI x2), some (aI (x4 / (x2 + 1)))]) hv 73 rfl rfl ?_
            refine r_iinc (pc := 132) (lo' := [some (aR 49), some (aI l1), some (aL (l2 + ((x6 - ((x4 / (x2 + 1)) * x2) : Int32).toInt64))), none, some (aI (l4 + 1)), some (aI x2), some (aI (x4 / (x2 + 1)))]) hv 74 rfl rfl rfl ?_
            refine r_goto (pc := 135) hv 75 rfl  ?_
            exact hw 27 [some (aR 49), some (aI l1), some (aL (l2 + ((x6 - ((x4 / (x2 + 1)) * x2) : Int32).toInt64))), none, some (aI (l4 + 1)), none, none] _ _ _ ⟨rfl, ⟨rfl, ⟨rfl, ⟨rfl, trivial⟩⟩⟩⟩ h
      · replace h := h.2 c
        refine r_lload_n (pc := 81) hv 41 rfl rfl ?_
        refine r_iload (pc := 82) hv 42 rfl rfl ?_
        refine r_iload (pc := 84) hv 43 rfl rfl ?_
        refine r_imul (pc := 86) hv 44 rfl  ?_
        refine r_iload (pc := 87) hv 45 rfl rfl ?_
        refine r_iconst (pc := 89) hv 46 rfl  ?_
        refine r_iadd (pc := 90) hv 47 rfl  ?_
        refine r_imul (pc := 91) hv 48 rfl  ?_
        refine r_iconst (pc := 92) hv 49 rfl  ?_
        refine r_idiv (pc := 93) hv 50 rfl (by decide) ?_
        refine r_i2l (pc := 94) hv 51 rfl  ?_
        refine r_ladd (pc := 95) hv 52 rfl  ?_
        refine r_lstore_n (pc := 96) (lo' := [some (aR 49), some (aI l1), some (aL (l2 + (((((x4 / (x2 + 1)) * x2) * (x2 + 1)) / 2 : Int32).toInt64))), none, some (aI l4), some (aI x2), some (aI (x4 / (x2 + 1)))]) hv 53 rfl rfl ?_
        refine r_goto (pc := 97) hv 54 rfl  ?_
        refine r_iinc (pc := 132) (lo' := [some (aR 49), some (aI l1), some (aL (l2 + (((((x4 / (x2 + 1)) * x2) * (x2 + 1)) / 2 : Int32).toInt64))), none, some (aI (l4 + 1)), some (aI x2), some (aI (x4 / (x2 + 1)))]) hv 74 rfl rfl rfl ?_
        refine r_goto (pc := 135) hv 75 rfl  ?_
        exact hw 27 [some (aR 49), some (aI l1), some (aL (l2 + (((((x4 / (x2 + 1)) * x2) * (x2 + 1)) / 2 : Int32).toInt64))), none, some (aI (l4 + 1)), none, none] _ _ _ ⟨rfl, ⟨rfl, ⟨rfl, ⟨rfl, trivial⟩⟩⟩⟩ h
    · replace h := h.2 c
      refine r_goto (pc := 53) hv 26 rfl  ?_
      refine r_iinc (pc := 132) (lo' := [some (aR 49), some (aI l1), some (aL l2), none, some (aI (l4 + 1)), none, none]) hv 74 rfl rfl rfl ?_
      refine r_goto (pc := 135) hv 75 rfl  ?_
      exact h
def vc_X9_ring_0 (S : Sp) (Φ : Rs) (v : Kt) (l1 : Int32) (σ : St) : Prop := (¬ (b2 ((-1 : Int64) ≤ ((l1 : Int32).toInt64) ∧ ((l1 : Int32).toInt64 : Int64) ≤ 9) : Int32) = 0 → (S 175 [aR 49] σ (fun r σ1 => r = [] ∧ (v 27 [some (aR 49), some (aI l1), some (aL 0), none, some (aI 0), none, none] [] σ1)))) ∧ ((b2 ((-1 : Int64) ≤ ((l1 : Int32).toInt64) ∧ ((l1 : Int32).toInt64 : Int64) ≤ 9) : Int32) = 0 → (Φ [aL (-9223372036854775808)] σ))
theorem w_X9_ring_0 {S : Sp} (hS : Sys S) {Φ : Rs} {v : Kt} (hv : Cl S Φ k_X9_ring v) (hw : Wk v) (l1 : Int32) (σ : St) (h : vc_X9_ring_0 S Φ v l1 σ) : v 0 [some (aR 49), some (aI l1), none, none, none, none, none] [] σ := by
  unfold vc_X9_ring_0 at h
  refine r_iload_n (pc := 0) hv 0 rfl rfl ?_
  refine r_i2l (pc := 1) hv 1 rfl  ?_
  refine r_ldc2_w (pc := 2) hv 2 rfl  ?_
  refine r_ldc2_w (pc := 5) hv 3 rfl  ?_
  refine r_callS (pc := 8) (l := [aL 9, aL (-1), aL ((l1 : Int32).toInt64)]) (av := [aL ((l1 : Int32).toInt64), aL (-1), aL 9]) (t := []) hv 4 rfl (Or.inl rfl) rfl rfl rfl trivial (t_X9_in hS ?_)
  show v 11 [some (aR 49), some (aI l1), none, none, none, none, none] [aI (b2 ((-1 : Int64) ≤ ((l1 : Int32).toInt64) ∧ ((l1 : Int32).toInt64 : Int64) ≤ 9))] σ
  refine r_if_ne (pc := 11) hv 5 rfl (fun c => ?_) (fun c => ?_)
  · replace h := h.1 c
    refine r_aload_n (pc := 18) hv 8 rfl rfl ?_
    refine r_callV (pc := 19) (l := []) (av := []) (a := 49) (t := []) hv 9 rfl rfl rfl rfl (rcv_o (by decide) rfl) trivial (hS.1 _ _ _ _ _ (fun r σ1 h => ?_) h)
    obtain ⟨rfl, h⟩ := h
    show v 22 [some (aR 49), some (aI l1), none, none, none, none, none] [] σ1
    refine r_lconst (pc := 22) hv 10 rfl  ?_
    refine r_lstore_n (pc := 23) (lo' := [some (aR 49), some (aI l1), some (aL 0), none, none, none, none]) hv 11 rfl rfl ?_
    refine r_iconst (pc := 24) hv 12 rfl  ?_
    refine r_istore (pc := 25) (lo' := [some (aR 49), some (aI l1), some (aL 0), none, some (aI 0), none, none]) hv 13 rfl rfl ?_
    exact h
  · replace h := h.2 c
    refine r_ldc2_w (pc := 14) hv 6 rfl  ?_
    exact r_lreturn (pc := 17) hv 7 rfl h
theorem m_X9_ring {S : Sp} (hS : Sys S) {l1 : Int32} {σ : St} {Φ : Rs} (h : ∀ v : Kt, Cl S Φ k_X9_ring v → Wk v → vc_X9_ring_0 S Φ v l1 σ) : S 191 [aR 49, aI l1] σ Φ :=
  hS.2 191 M_X9_ring k_X9_ring _ _ _ mkt_X9_ring (Nat.le_of_ble_eq_true rfl) (fun v hv hw => w_X9_ring_0 hS hv hw   l1 σ (h v hv hw))
def vc_X9_sets_140 (S : Sp) (Φ : Rs) (v : Kt) (l1 : Int32) (l2 : Int32) (l3 : Int32) (l4 : Int32) (σ : St) : Prop := ((l4 : Int32) = 0 → (v 22 [some (aR 49), some (aI l1), some (aI (l2 ||| 0)), some (aI (l3 + 1)), none] [] σ)) ∧ (¬ ((l4 : Int32) = 0) → (v 22 [some (aR 49), some (aI l1), some (aI (l2 ||| (1 <<< (l3 &&& 31)))), some (aI (l3 + 1)), none] [] σ))
theorem w_X9_sets_140 {S : Sp} (hS : Sys S) {Φ : Rs} {v : Kt} (hv : Cl S Φ k_X9_sets v) (hw : Wk v) (l1 : Int32) (l2 : Int32) (l3 : Int32) (l4 : Int32) (σ : St) (h : vc_X9_sets_140 S Φ v l1 l2 l3 l4 σ) : v 140 [some (aR 49), some (aI l1), some (aI l2), some (aI l3), some (aI l4)] [] σ := by
  unfold vc_X9_sets_140 at h
  refine r_iload_n (pc := 140) hv 74 rfl rfl ?_
  refine r_iload (pc := 141) hv 75 rfl rfl ?_
  refine r_if_eq (pc := 143) hv 76 rfl (fun c => ?_) (fun c => ?_)
  · replace h := h.1 c
    refine r_iconst (pc := 152) hv 81 rfl  ?_
    refine r_ior (pc := 153) hv 82 rfl  ?_
    refine r_istore_n (pc := 154) (lo' := [some (aR 49), some (aI l1), some (aI (l2 ||| 0)), some (aI l3), some (aI l4)]) hv 83 rfl rfl ?_
    refine r_iinc (pc := 155) (lo' := [some (aR 49), some (aI l1), some (aI (l2 ||| 0)), some (aI (l3 + 1)), some (aI l4)]) hv 84 rfl rfl rfl ?_
    refine r_goto (pc := 158) hv 85 rfl  ?_
    exact hw 22 [some (aR 49), some (aI l1), some (aI (l2 ||| 0)), some (aI (l3 + 1)), none] _ _ _ ⟨rfl, ⟨rfl, ⟨rfl, ⟨rfl, trivial⟩⟩⟩⟩ h
  · replace h := h.2 c
    refine r_iconst (pc := 146) hv 77 rfl  ?_
    refine r_iload_n (pc := 147) hv 78 rfl rfl ?_
    refine r_ishl (pc := 148) hv 79 rfl  ?_
    refine r_goto (pc := 149) hv 80 rfl  ?_
    refine r_ior (pc := 153) hv 82 rfl  ?_
    refine r_istore_n (pc := 154) (lo' := [some (aR 49), some (aI l1), some (aI (l2 ||| (1 <<< (l3 &&& 31)))), some (aI l3), some (aI l4)]) hv 83 rfl rfl ?_
    refine r_iinc (pc := 155) (lo' := [some (aR 49), some (aI l1), some (aI (l2 ||| (1 <<< (l3 &&& 31)))), some (aI (l3 + 1)), some (aI l4)]) hv 84 rfl rfl rfl ?_
    refine r_goto (pc := 158) hv 85 rfl  ?_
    exact hw 22 [some (aR 49), some (aI l1), some (aI (l2 ||| (1 <<< (l3 &&& 31)))), some (aI (l3 + 1)), none] _ _ _ ⟨rfl, ⟨rfl, ⟨rfl, ⟨rfl, trivial⟩⟩⟩⟩ h
def vc_X9_sets_138 (S : Sp) (Φ : Rs) (v : Kt) (l1 : Int32) (l2 : Int32) (l3 : Int32) (s0 : Int32) (σ : St) : Prop := vc_X9_sets_140 S Φ v  l1 l2 l3 s0 σ
theorem w_X9_sets_138 {S : Sp} (hS : Sys S) {Φ : Rs} {v : Kt} (hv : Cl S Φ k_X9_sets v) (hw : Wk v) (l1 : Int32) (l2 : Int32) (l3 : Int32) (s0 : Int32) (σ : St) (h : vc_X9_sets_138 S Φ v l1 l2 l3 s0 σ) : v 138 [some (aR 49), some (aI l1), some (aI l2), some (aI l3), none] [aI s0] σ := by
  unfold vc_X9_sets_138 at h
  refine r_istore (pc := 138) (lo' := [some (aR 49), some (aI l1), some (aI l2), some (aI l3), some (aI s0)]) hv 73 rfl rfl ?_
  exact (w_X9_sets_140 hS hv hw   l1 l2 l3 s0  σ h)
def vc_X9_sets_137 (S : Sp) (Φ : Rs) (v : Kt) (l1 : Int32) (l2 : Int32) (l3 : Int32) (σ : St) : Prop := vc_X9_sets_138 S Φ v  l1 l2 l3 0 σ
theorem w_X9_sets_137 {S : Sp} (hS : Sys S) {Φ : Rs} {v : Kt} (hv : Cl S Φ k_X9_sets v) (hw : Wk v) (l1 : Int32) (l2 : Int32) (l3 : Int32) (σ : St) (h : vc_X9_sets_137 S Φ v l1 l2 l3 σ) : v 137 [some (aR 49), some (aI l1), some (aI l2), some (aI l3), none] [] σ := by
  unfold vc_X9_sets_137 at h
  refine r_iconst (pc := 137) hv 72 rfl  ?_
  exact (w_X9_sets_138 hS hv hw   l1 l2 l3 0  σ h)
def vc_X9_sets_133 (S : Sp) (Φ : Rs) (v : Kt) (l1 : Int32) (l2 : Int32) (l3 : Int32) (σ : St) : Prop := vc_X9_sets_138 S Φ v  l1 l2 l3 1 σ
theorem w_X9_sets_133 {S : Sp} (hS : Sys S) {Φ : Rs} {v : Kt} (hv : Cl S Φ k_X9_sets v) (hw : Wk v) (l1 : Int32) (l2 : Int32) (l3 : Int32) (σ : St) (h : vc_X9_sets_133 S Φ v l1 l2 l3 σ) : v 133 [some (aR 49), some (aI l1), some (aI l2), some (aI l3), none] [] σ := by
  unfold vc_X9_sets_133 at h
  refine r_iconst (pc := 133) hv 70 rfl  ?_
  refine r_goto (pc := 134) hv 71 rfl  ?_
  exact (w_X9_sets_138 hS hv hw   l1 l2 l3 1  σ h)
def vc_X9_sets_54 (S : Sp) (Φ : Rs) (v : Kt) (l1 : Int32) (l2 : Int32) (l3 : Int32) (s0 : Int32) (σ : St) : Prop := vc_X9_sets_140 S Φ v  l1 l2 l3 s0 σ
theorem w_X9_sets_54 {S : Sp} (hS : Sys S) {Φ : Rs} {v : Kt} (hv : Cl S Φ k_X9_sets v) (hw : Wk v) (l1 : Int32) (l2 : Int32) (l3 : Int32) (s0 : Int32) (σ : St) (h : vc_X9_sets_54 S Φ v l1 l2 l3 s0 σ) : v 54 [some (aR 49), some (aI l1), some (aI l2), some (aI l3), none] [aI s0] σ := by
  unfold vc_X9_sets_54 at h
  refine r_istore (pc := 54) (lo' := [some (aR 49), some (aI l1), some (aI l2), some (aI l3), some (aI s0)]) hv 31 rfl rfl ?_
  refine r_goto (pc := 56) hv 32 rfl  ?_
  exact (w_X9_sets_140 hS hv hw   l1 l2 l3 s0  σ h)
def vc_X9_sets_53 (S : Sp) (Φ : Rs) (v : Kt) (l1 : Int32) (l2 : Int32) (l3 : Int32) (σ : St) : Prop := vc_X9_sets_54 S Φ v  l1 l2 l3 0 σ
theorem w_X9_sets_53 {S : Sp} (hS : Sys S) {Φ : Rs} {v : Kt} (hv : Cl S Φ k_X9_sets v) (hw : Wk v) (l1 : Int32) (l2 : Int32) (l3 : Int32) (σ : St) (h : vc_X9_sets_53 S Φ v l1 l2 l3 σ) : v 53 [some (aR 49), some (aI l1), some (aI l2), some (aI l3), none] [] σ := by
  unfold vc_X9_sets_53 at h
  refine r_iconst (pc := 53) hv 30 rfl  ?_
  exact (w_X9_sets_54 hS hv hw   l1 l2 l3 0  σ h)
def vc_X9_sets_22 (S : Sp) (Φ : Rs) (v : Kt) (l1 : Int32) (l2 : Int32) (l3 : Int32) (σ : St) : Prop := ((31 : Int32) ≤ l3 → (Φ [aI l2] σ)) ∧ (¬ ((31 : Int32) ≤ l3) → ((¬ (l1 : Int32) = 4 → (((b2 ((0 : Int64) ≤ (l3 : Int32).toInt64 ∧ ((l3 : Int32).toInt64 : Int64) ≤ (σ.1 50 (280 : Int32).toNatClampNeg - 1 : Int32).toInt64) : Int32) = 0 → (vc_X9_sets_137 S Φ v  l1 l2 l3 σ)) ∧ (¬ ((b2 ((0 : Int64) ≤ (l3 : Int32).toInt64 ∧ ((l3 : Int32).toInt64 : Int64) ≤ (σ.1 50 (280 : Int32).toNatClampNeg - 1 : Int32).toInt64) : Int32) = 0) → ((¬ (l1 : Int32) = 0 → ((¬ (l1 : Int32) = 1 → ((¬ (l1 : Int32) = 2 → (vp_in l3 20 ∧ ((¬ (σ.1 53 (l3 : Int32).toNatClampNeg : Int32) = 1000000 → (vc_X9_sets_137 S Φ v  l1 l2 l3 σ)) ∧ ((σ.1 53 (l3 : Int32).toNatClampNeg : Int32) = 1000000 → (vc_X9_sets_133 S Φ v  l1 l2 l3 σ))))) ∧ ((l1 : Int32) = 2 → (vp_in (8 * l3 + 6) 286 ∧ (((b2 (σ.1 50 (8 * l3 + 6 : Int32).toNatClampNeg = 1) : Int32) = 0 → (vc_X9_sets_137 S Φ v  l1 l2 l3 σ)) ∧ (¬ ((b2 (σ.1 50 (8 * l3 + 6 : Int32).toNatClampNeg = 1) : Int32) = 0) → (vc_X9_sets_133 S Φ v  l1 l2 l3 σ))))))) ∧ ((l1 : Int32) = 1 → (((b2 (((σ.1 49 8 : Int32) >>> (l3 &&& 31)) &&& 1 = 1) : Int32) = 0 → (vc_X9_sets_137 S Φ v  l1 l2 l3 σ)) ∧ (¬ ((b2 (((σ.1 49 8 : Int32) >>> (l3 &&& 31)) &&& 1 = 1) : Int32) = 0) → (vc_X9_sets_133 S Φ v  l1 l2 l3 σ)))))) ∧ ((l1 : Int32) = 0 → (((b2 (((σ.1 49 7 : Int32) >>> (l3 &&& 31)) &&& 1 = 1) : Int32) = 0 → (vc_X9_sets_137 S Φ v  l1 l2 l3 σ)) ∧ (¬ ((b2 (((σ.1 49 7 : Int32) >>> (l3 &&& 31)) &&& 1 = 1) : Int32) = 0) → (vc_X9_sets_133 S Φ v  l1 l2 l3 σ)))))))) ∧ ((l1 : Int32) = 4 → (((b2 ((0 : Int64) ≤ (l3 : Int32).toInt64 ∧ ((l3 : Int32).toInt64 : Int64) ≤ (σ.1 50 (281 : Int32).toNatClampNeg - 1 : Int32).toInt64) : Int32) = 0 → (vc_X9_sets_53 S Φ v  l1 l2 l3 σ)) ∧ (¬ ((b2 ((0 : Int64) ≤ (l3 : Int32).toInt64 ∧ ((l3 : Int32).toInt64 : Int64) ≤ (σ.1 50 (281 : Int32).toNatClampNeg - 1 : Int32).toInt64) : Int32) = 0) → (S 176 [aR 49, aI l3] σ (fun r σ1 => ∃ x2 : Int32, r = [aI x2] ∧ (((x2 : Int32) = 0 → (vc_X9_sets_53 S Φ v  l1 l2 l3 σ1)) ∧ (¬ ((x2 : Int32) = 0) → (vc_X9_sets_54 S Φ v  l1 l2 l3 1 σ1))))))))))
theorem w_X9_sets_22 {S : Sp} (hS : Sys S) {Φ : Rs} {v : Kt} (hv : Cl S Φ k_X9_sets v) (hw : Wk v) (l1 : Int32) (l2 : Int32) (l3 : Int32) (σ : St) (h : vc_X9_sets_22 S Φ v l1 l2 l3 σ) : v 22 [some (aR 49), some (aI l1), some (aI l2), some (aI l3), none] [] σ := by
  unfold vc_X9_sets_22 at h
  refine r_iload_n (pc := 22) hv 14 rfl rfl ?_
  refine r_bipush (pc := 23) hv 15 rfl  ?_
  refine r_icmp_ge (pc := 25) hv 16 rfl (fun c => ?_) (fun c => ?_)
  · replace h := h.1 c
    refine r_iload_n (pc := 161) hv 86 rfl rfl ?_
    exact r_ireturn (pc := 162) hv 87 rfl rfl h
  · replace h := h.2 c
    refine r_iload_n (pc := 28) hv 17 rfl rfl ?_
    refine r_iconst (pc := 29) hv 18 rfl  ?_
    refine r_icmp_ne (pc := 30) hv 19 rfl (fun c => ?_) (fun c => ?_)
    · replace h := h.1 c
      refine r_aload_n (pc := 59) hv 33 rfl rfl ?_
      refine r_iload_n (pc := 60) hv 34 rfl rfl ?_
      refine r_callV (pc := 61) (l := [aI l3]) (av := [aI l3]) (a := 49) (t := []) hv 35 rfl rfl rfl rfl (rcv_o (by decide) rfl) trivial (t_X9_isHole hS ?_)
      show v 64 [some (aR 49), some (aI l1), some (aI l2), some (aI l3), none] [aI (b2 ((0 : Int64) ≤ (l3 : Int32).toInt64 ∧ ((l3 : Int32).toInt64 : Int64) ≤ (σ.1 50 (280 : Int32).toNatClampNeg - 1 : Int32).toInt64))] σ
      refine r_if_eq (pc := 64) hv 36 rfl (fun c => ?_) (fun c => ?_)
      · replace h := h.1 c
        exact (w_X9_sets_137 hS hv hw   l1 l2 l3  σ h)
      · replace h := h.2 c
        refine r_iload_n (pc := 67) hv 37 rfl rfl ?_
        refine r_if_ne (pc := 68) hv 38 rfl (fun c => ?_) (fun c => ?_)
        · replace h := h.1 c
          refine r_iload_n (pc := 86) hv 46 rfl rfl ?_
          refine r_iconst (pc := 87) hv 47 rfl  ?_
          refine r_icmp_ne (pc := 88) hv 48 rfl (fun c => ?_) (fun c => ?_)
          · replace h := h.1 c
            refine r_iload_n (pc := 106) hv 56 rfl rfl ?_
            refine r_iconst (pc := 107) hv 57 rfl  ?_
            refine r_icmp_ne (pc := 108) hv 58 rfl (fun c => ?_) (fun c => ?_)
            · replace h := h.1 c
              refine r_aload_n (pc := 122) hv 64 rfl rfl ?_
              refine r_getR (pc := 123) (b := 53) hv 65 rfl rfl rfl rfl ?_
              refine r_iload_n (pc := 126) hv 66 rfl rfl ?_
              refine r_iaload (pc := 127) (N := 20) hv 67 rfl rfl rfl (by decide) h.1 ?_
              replace h := h.2
              refine r_ldc (pc := 128) hv 68 rfl rfl ?_
              refine r_icmp_ne (pc := 130) hv 69 rfl (fun c => ?_) (fun c => ?_)
              · replace h := h.1 c
                exact (w_X9_sets_137 hS hv hw   l1 l2 l3  σ h)
              · replace h := h.2 c
                exact (w_X9_sets_133 hS hv hw   l1 l2 l3  σ h)
            · replace h := h.2 c
              refine r_aload_n (pc := 111) hv 59 rfl rfl ?_
              refine r_iload_n (pc := 112) hv 60 rfl rfl ?_
              refine r_callV (pc := 113) (l := [aI l3]) (av := [aI l3]) (a := 49) (t := []) hv 61 rfl rfl rfl rfl (rcv_o (by decide) rfl) trivial (t_X9_isDead hS h.1 ?_)
              replace h := h.2
              show v 116 [some (aR 49), some (aI l1), some (aI l2), some (aI l3), none] [aI (b2 (σ.1 50 (8 * l3 + 6 : Int32).toNatClampNeg = 1))] σ
              refine r_if_eq (pc := 116) hv 62 rfl (fun c => ?_) (fun c => ?_)
              · replace h := h.1 c
                exact (w_X9_sets_137 hS hv hw   l1 l2 l3  σ h)
              · replace h := h.2 c
                refine r_goto (pc := 119) hv 63 rfl  ?_
                exact (w_X9_sets_133 hS hv hw   l1 l2 l3  σ h)
          · replace h := h.2 c
            refine r_aload_n (pc := 91) hv 49 rfl rfl ?_
            refine r_aload_n (pc := 92) hv 50 rfl rfl ?_
            refine r_getI (pc := 93) hv 51 rfl rfl rfl ?_
            refine r_iload_n (pc := 96) hv 52 rfl rfl ?_
            refine r_callV (pc := 97) (l := [aI l3, aI (σ.1 49 8)]) (av := [aI (σ.1 49 8), aI l3]) (a := 49) (t := []) hv 53 rfl rfl rfl rfl (rcv_o (by decide) rfl) trivial (t_X9_has hS ?_)
            show v 100 [some (aR 49), some (aI l1), some (aI l2), some (aI l3), none] [aI (b2 (((σ.1 49 8 : Int32) >>> (l3 &&& 31)) &&& 1 = 1))] σ
            refine r_if_eq (pc := 100) hv 54 rfl (fun c => ?_) (fun c => ?_)
            · replace h := h.1 c
              exact (w_X9_sets_137 hS hv hw   l1 l2 l3  σ h)
            · replace h := h.2 c
              refine r_goto (pc := 103) hv 55 rfl  ?_
              exact (w_X9_sets_133 hS hv hw   l1 l2 l3  σ h)
        · replace h := h.2 c
          refine r_aload_n (pc := 71) hv 39 rfl rfl ?_
          refine r_aload_n (pc := 72) hv 40 rfl rfl ?_
          refine r_getI (pc := 73) hv 41 rfl rfl rfl ?_
          refine r_iload_n (pc := 76) hv 42 rfl rfl ?_
          refine r_callV (pc := 77) (l := [aI l3, aI (σ.1 49 7)]) (av := [aI (σ.1 49 7), aI l3]) (a := 49) (t := []) hv 43 rfl rfl rfl rfl (rcv_o (by decide) rfl) trivial (t_X9_has hS ?_)
          show v 80 [some (aR 49), some (aI l1), some (aI l2), some (aI l3), none] [aI (b2 (((σ.1 49 7 : Int32) >>> (l3 &&& 31)) &&& 1 = 1))] σ
          refine r_if_eq (pc := 80) hv 44 rfl (fun c => ?_) (fun c => ?_)
          · replace h := h.1 c
            exact (w_X9_sets_137 hS hv hw   l1 l2 l3  σ h)
          · replace h := h.2 c
            refine r_goto (pc := 83) hv 45 rfl  ?_
            exact (w_X9_sets_133 hS hv hw   l1 l2 l3  σ h)
    · replace h := h.2 c
      refine r_aload_n (pc := 33) hv 20 rfl rfl ?_
      refine r_iload_n (pc := 34) hv 21 rfl rfl ?_
      refine r_callV (pc := 35) (l := [aI l3]) (av := [aI l3]) (a := 49) (t := []) hv 22 rfl rfl rfl rfl (rcv_o (by decide) rfl) trivial (t_X9_isWire hS ?_)
      show v 38 [some (aR 49), some (aI l1), some (aI l2), some (aI l3), none] [aI (b2 ((0 : Int64) ≤ (l3 : Int32).toInt64 ∧ ((l3 : Int32).toInt64 : Int64) ≤ (σ.1 50 (281 : Int32).toNatClampNeg - 1 : Int32).toInt64))] σ
      refine r_if_eq (pc := 38) hv 23 rfl (fun c => ?_) (fun c => ?_)
      · replace h := h.1 c
        exact (w_X9_sets_53 hS hv hw   l1 l2 l3  σ h)
      · replace h := h.2 c
        refine r_aload_n (pc := 41) hv 24 rfl rfl ?_
        refine r_iload_n (pc := 42) hv 25 rfl rfl ?_
        refine r_callV (pc := 43) (l := [aI l3]) (av := [aI l3]) (a := 49) (t := []) hv 26 rfl rfl rfl rfl (rcv_o (by decide) rfl) trivial (hS.1 _ _ _ _ _ (fun r σ1 h => ?_) h)
        obtain ⟨x2, rfl, h⟩ := h
        show v 46 [some (aR 49), some (aI l1), some (aI l2), some (aI l3), none] [aI x2] σ1
        refine r_if_eq (pc := 46) hv 27 rfl (fun c => ?_) (fun c => ?_)
        · replace h := h.1 c
          exact (w_X9_sets_53 hS hv hw   l1 l2 l3  σ1 h)
        · replace h := h.2 c
          refine r_iconst (pc := 49) hv 28 rfl  ?_
          refine r_goto (pc := 50) hv 29 rfl  ?_
          exact (w_X9_sets_54 hS hv hw   l1 l2 l3 1  σ1 h)
def vc_X9_sets_0 (S : Sp) (Φ : Rs) (v : Kt) (l1 : Int32) (σ : St) : Prop := (¬ (b2 ((0 : Int64) ≤ ((l1 : Int32).toInt64) ∧ ((l1 : Int32).toInt64 : Int64) ≤ 4) : Int32) = 0 → (S 175 [aR 49] σ (fun r σ1 => r = [] ∧ (v 22 [some (aR 49), some (aI l1), some (aI 0), some (aI 0), none] [] σ1)))) ∧ ((b2 ((0 : Int64) ≤ ((l1 : Int32).toInt64) ∧ ((l1 : Int32).toInt64 : Int64) ≤ 4) : Int32) = 0 → (Φ [aI (-1)] σ))
theorem w_X9_sets_0 {S : Sp} (hS : Sys S) {Φ : Rs} {v : Kt} (hv : Cl S Φ k_X9_sets v) (hw : Wk v) (l1 : Int32) (σ : St) (h : vc_X9_sets_0 S Φ v l1 σ) : v 0 [some (aR 49), some (aI l1), none, none, none] [] σ := by
  unfold vc_X9_sets_0 at h
  refine r_iload_n (pc := 0) hv 0 rfl rfl ?_
  refine r_i2l (pc := 1) hv 1 rfl  ?_
  refine r_lconst (pc := 2) hv 2 rfl  ?_
  refine r_ldc2_w (pc := 3) hv 3 rfl  ?_
  refine r_callS (pc := 6) (l := [aL 4, aL 0, aL ((l1 : Int32).toInt64)]) (av := [aL ((l1 : Int32).toInt64), aL 0, aL 4]) (t := []) hv 4 rfl (Or.inl rfl) rfl rfl rfl trivial (t_X9_in hS ?_)
  show v 9 [some (aR 49), some (aI l1), none, none, none] [aI (b2 ((0 : Int64) ≤ ((l1 : Int32).toInt64) ∧ ((l1 : Int32).toInt64 : Int64) ≤ 4))] σ
  refine r_if_ne (pc := 9) hv 5 rfl (fun c => ?_) (fun c => ?_)
  · replace h := h.1 c
    refine r_aload_n (pc := 14) hv 8 rfl rfl ?_
    refine r_callV (pc := 15) (l := []) (av := []) (a := 49) (t := []) hv 9 rfl rfl rfl rfl (rcv_o (by decide) rfl) trivial (hS.1 _ _ _ _ _ (fun r σ1 h => ?_) h)
    obtain ⟨rfl, h⟩ := h
    show v 18 [some (aR 49), some (aI l1), none, none, none] [] σ1
    refine r_iconst (pc := 18) hv 10 rfl  ?_
    refine r_istore_n (pc := 19) (lo' := [some (aR 49), some (aI l1), some (aI 0), none, none]) hv 11 rfl rfl ?_
    refine r_iconst (pc := 20) hv 12 rfl  ?_
    refine r_istore_n (pc := 21) (lo' := [some (aR 49), some (aI l1), some (aI 0), some (aI 0), none]) hv 13 rfl rfl ?_
    exact h
  · replace h := h.2 c
    refine r_iconst (pc := 12) hv 6 rfl  ?_
    exact r_ireturn (pc := 13) hv 7 rfl rfl h
theorem m_X9_sets {S : Sp} (hS : Sys S) {l1 : Int32} {σ : St} {Φ : Rs} (h : ∀ v : Kt, Cl S Φ k_X9_sets v → Wk v → vc_X9_sets_0 S Φ v l1 σ) : S 192 [aR 49, aI l1] σ Φ :=
  hS.2 192 M_X9_sets k_X9_sets _ _ _ mkt_X9_sets (Nat.le_of_ble_eq_true rfl) (fun v hv hw => w_X9_sets_0 hS hv hw   l1 σ (h v hv hw))
def vc_X9_loads_59 (S : Sp) (Φ : Rs) (v : Kt) (l1 : Int32) (l2 : Int32) (l3 : Int32) (l4 : Int32) (l5 : Int32) (l6 : Int32) (l7 : Int32) (s0 : Int32) (σ : St) : Prop := (¬ (b2 ((0 : Int64) ≤ (s0 : Int32).toInt64 ∧ ((s0 : Int32).toInt64 : Int64) ≤ (σ.1 50 (280 : Int32).toNatClampNeg - 1 : Int32).toInt64) : Int32) = 0 → (S 156 [aR 49, aI s0] σ (fun r σ1 => ∃ x2 : Int32, r = [aI x2] ∧ (v 21 [some (aR 49), some (aI l1), some (aI l2), some (aI l3), some (aI l4), some (aI l5), some (aI (l6 + x2)), some (aI (l7 + 1)), none] [] σ1)))) ∧ ((b2 ((0 : Int64) ≤ (s0 : Int32).toInt64 ∧ ((s0 : Int32).toInt64 : Int64) ≤ (σ.1 50 (280 : Int32).toNatClampNeg - 1 : Int32).toInt64) : Int32) = 0 → (Φ [aI (-1)] σ))
theorem w_X9_loads_59 {S : Sp} (hS : Sys S) {Φ : Rs} {v : Kt} (hv : Cl S Φ k_X9_loads v) (hw : Wk v) (l1 : Int32) (l2 : Int32) (l3 : Int32) (l4 : Int32) (l5 : Int32) (l6 : Int32) (l7 : Int32) (s0 : Int32) (σ : St) (h : vc_X9_loads_59 S Φ v l1 l2 l3 l4 l5 l6 l7 s0 σ) : v 59 [some (aR 49), some (aI l1), some (aI l2), some (aI l3), some (aI l4), some (aI l5), some (aI l6), some (aI l7), none] [aI s0] σ := by
  unfold vc_X9_loads_59 at h
  refine r_istore (pc := 59) (lo' := [some (aR 49), some (aI l1), some (aI l2), some (aI l3), some (aI l4), some (aI l5), some (aI l6), some (aI l7), some (aI s0)]) hv 30 rfl rfl ?_
  refine r_aload_n (pc := 61) hv 31 rfl rfl ?_
  refine r_iload (pc := 62) hv 32 rfl rfl ?_
  refine r_callV (pc := 64) (l := [aI s0]) (av := [aI s0]) (a := 49) (t := []) hv 33 rfl rfl rfl rfl (rcv_o (by decide) rfl) trivial (t_X9_isHole hS ?_)
  show v 67 [some (aR 49), some (aI l1), some (aI l2), some (aI l3), some (aI l4), some (aI l5), some (aI l6), some (aI l7), some (aI s0)] [aI (b2 ((0 : Int64) ≤ (s0 : Int32).toInt64 ∧ ((s0 : Int32).toInt64 : Int64) ≤ (σ.1 50 (280 : Int32).toNatClampNeg - 1 : Int32).toInt64))] σ
  refine r_if_ne (pc := 67) hv 34 rfl (fun c => ?_) (fun c => ?_)
  · replace h := h.1 c
    refine r_iload (pc := 72) hv 37 rfl rfl ?_
    refine r_aload_n (pc := 74) hv 38 rfl rfl ?_
    refine r_iload (pc := 75) hv 39 rfl rfl ?_
    refine r_callV (pc := 77) (l := [aI s0]) (av := [aI s0]) (a := 49) (t := [aI l6]) hv 40 rfl rfl rfl rfl (rcv_o (by decide) rfl) trivial (hS.1 _ _ _ _ _ (fun r σ1 h => ?_) h)
    obtain ⟨x2, rfl, h⟩ := h
    show v 80 [some (aR 49), some (aI l1), some (aI l2), some (aI l3), some (aI l4), some (aI l5), some (aI l6), some (aI l7), some (aI s0)] [aI x2, aI l6] σ1
    refine r_iadd (pc := 80) hv 41 rfl  ?_
    refine r_istore (pc := 81) (lo' := [some (aR 49), some (aI l1), some (aI l2), some (aI l3), some (aI l4), some (aI l5), some (aI (l6 + x2)), some (aI l7), some (aI s0)]) hv 42 rfl rfl ?_
    refine r_iinc (pc := 83) (lo' := [some (aR 49), some (aI l1), some (aI l2), some (aI l3), some (aI l4), some (aI l5), some (aI (l6 + x2)), some (aI (l7 + 1)), some (aI s0)]) hv 43 rfl rfl rfl ?_
    refine r_goto (pc := 86) hv 44 rfl  ?_
    exact hw 21 [some (aR 49), some (aI l1), some (aI l2), some (aI l3), some (aI l4), some (aI l5), some (aI (l6 + x2)), some (aI (l7 + 1)), none] _ _ _ ⟨rfl, ⟨rfl, ⟨rfl, ⟨rfl, ⟨rfl, ⟨rfl, ⟨rfl, ⟨rfl, trivial⟩⟩⟩⟩⟩⟩⟩⟩ h
  · replace h := h.2 c
    refine r_iconst (pc := 70) hv 35 rfl  ?_
    exact r_ireturn (pc := 71) hv 36 rfl rfl h
def vc_X9_loads_21 (S : Sp) (Φ : Rs) (v : Kt) (l1 : Int32) (l2 : Int32) (l3 : Int32) (l4 : Int32) (l5 : Int32) (l6 : Int32) (l7 : Int32) (σ : St) : Prop := ((l1 : Int32) ≤ l7 → (Φ [aI l6] σ)) ∧ (¬ ((l1 : Int32) ≤ l7) → ((¬ (l7 : Int32) = 0 → ((¬ (l7 : Int32) = 1 → ((¬ (l7 : Int32) = 2 → (vc_X9_loads_59 S Φ v  l1 l2 l3 l4 l5 l6 l7 l5 σ)) ∧ ((l7 : Int32) = 2 → (vc_X9_loads_59 S Φ v  l1 l2 l3 l4 l5 l6 l7 l4 σ)))) ∧ ((l7 : Int32) = 1 → (vc_X9_loads_59 S Φ v  l1 l2 l3 l4 l5 l6 l7 l3 σ)))) ∧ ((l7 : Int32) = 0 → (vc_X9_loads_59 S Φ v  l1 l2 l3 l4 l5 l6 l7 l2 σ))))
theorem w_X9_loads_21 {S : Sp} (hS : Sys S) {Φ : Rs} {v : Kt} (hv : Cl S Φ k_X9_loads v) (hw : Wk v) (l1 : Int32) (l2 : Int32) (l3 : Int32) (l4 : Int32) (l5 : Int32) (l6 : Int32) (l7 : Int32) (σ : St) (h : vc_X9_loads_21 S Φ v l1 l2 l3 l4 l5 l6 l7 σ) : v 21 [some (aR 49), some (aI l1), some (aI l2), some (aI l3), some (aI l4), some (aI l5), some (aI l6), some (aI l7), none] [] σ := by
  unfold vc_X9_loads_21 at h
  refine r_iload (pc := 21) hv 12 rfl rfl ?_
  refine r_iload_n (pc := 23) hv 13 rfl rfl ?_
  refine r_icmp_ge (pc := 24) hv 14 rfl (fun c => ?_) (fun c => ?_)
  · replace h := h.1 c
    refine r_iload (pc := 89) hv 45 rfl rfl ?_
    exact r_ireturn (pc := 91) hv 46 rfl rfl h
  · replace h := h.2 c
    refine r_iload (pc := 27) hv 15 rfl rfl ?_
    refine r_if_ne (pc := 29) hv 16 rfl (fun c => ?_) (fun c => ?_)
    · replace h := h.1 c
      refine r_iload (pc := 36) hv 19 rfl rfl ?_
      refine r_iconst (pc := 38) hv 20 rfl  ?_
      refine r_icmp_ne (pc := 39) hv 21 rfl (fun c => ?_) (fun c => ?_)
      · replace h := h.1 c
        refine r_iload (pc := 46) hv 24 rfl rfl ?_
        refine r_iconst (pc := 48) hv 25 rfl  ?_
        refine r_icmp_ne (pc := 49) hv 26 rfl (fun c => ?_) (fun c => ?_)
        · replace h := h.1 c
          refine r_iload (pc := 57) hv 29 rfl rfl ?_
          exact (w_X9_loads_59 hS hv hw   l1 l2 l3 l4 l5 l6 l7 l5  σ h)
        · replace h := h.2 c
          refine r_iload (pc := 52) hv 27 rfl rfl ?_
          refine r_goto (pc := 54) hv 28 rfl  ?_
          exact (w_X9_loads_59 hS hv hw   l1 l2 l3 l4 l5 l6 l7 l4  σ h)
      · replace h := h.2 c
        refine r_iload_n (pc := 42) hv 22 rfl rfl ?_
        refine r_goto (pc := 43) hv 23 rfl  ?_
        exact (w_X9_loads_59 hS hv hw   l1 l2 l3 l4 l5 l6 l7 l3  σ h)
    · replace h := h.2 c
      refine r_iload_n (pc := 32) hv 17 rfl rfl ?_
      refine r_goto (pc := 33) hv 18 rfl  ?_
      exact (w_X9_loads_59 hS hv hw   l1 l2 l3 l4 l5 l6 l7 l2  σ h)
def vc_X9_loads_0 (S : Sp) (Φ : Rs) (v : Kt) (l1 : Int32) (l2 : Int32) (l3 : Int32) (l4 : Int32) (l5 : Int32) (σ : St) : Prop := (¬ (b2 ((0 : Int64) ≤ ((l1 : Int32).toInt64) ∧ ((l1 : Int32).toInt64 : Int64) ≤ 4) : Int32) = 0 → (v 21 [some (aR 49), some (aI l1), some (aI l2), some (aI l3), some (aI l4), some (aI l5), some (aI 0), some (aI 0), none] [] σ)) ∧ ((b2 ((0 : Int64) ≤ ((l1 : Int32).toInt64) ∧ ((l1 : Int32).toInt64 : Int64) ≤ 4) : Int32) = 0 → (Φ [aI (-2)] σ))
theorem w_X9_loads_0 {S : Sp} (hS : Sys S) {Φ : Rs} {v : Kt} (hv : Cl S Φ k_X9_loads v) (hw : Wk v) (l1 : Int32) (l2 : Int32) (l3 : Int32) (l4 : Int32) (l5 : Int32) (σ : St) (h : vc_X9_loads_0 S Φ v l1 l2 l3 l4 l5 σ) : v 0 [some (aR 49), some (aI l1), some (aI l2), some (aI l3), some (aI l4), some (aI l5), none, none, none] [] σ := by
  unfold vc_X9_loads_0 at h
  refine r_iload_n (pc := 0) hv 0 rfl rfl ?_
  refine r_i2l (pc := 1) hv 1 rfl  ?_
  refine r_lconst (pc := 2) hv 2 rfl  ?_
  refine r_ldc2_w (pc := 3) hv 3 rfl  ?_
  refine r_callS (pc := 6) (l := [aL 4, aL 0, aL ((l1 : Int32).toInt64)]) (av := [aL ((l1 : Int32).toInt64), aL 0, aL 4]) (t := []) hv 4 rfl (Or.inl rfl) rfl rfl rfl trivial (t_X9_in hS ?_)
  show v 9 [some (aR 49), some (aI l1), some (aI l2), some (aI l3), some (aI l4), some (aI l5), none, none, none] [aI (b2 ((0 : Int64) ≤ ((l1 : Int32).toInt64) ∧ ((l1 : Int32).toInt64 : Int64) ≤ 4))] σ
  refine r_if_ne (pc := 9) hv 5 rfl (fun c => ?_) (fun c => ?_)
  · replace h := h.1 c
    refine r_iconst (pc := 15) hv 8 rfl  ?_
    refine r_istore (pc := 16) (lo' := [some (aR 49), some (aI l1), some (aI l2), some (aI l3), some (aI l4), some (aI l5), some (aI 0), none, none]) hv 9 rfl rfl ?_
    refine r_iconst (pc := 18) hv 10 rfl  ?_
    refine r_istore (pc := 19) (lo' := [some (aR 49), some (aI l1), some (aI l2), some (aI l3), some (aI l4), some (aI l5), some (aI 0), some (aI 0), none]) hv 11 rfl rfl ?_
    exact h
  · replace h := h.2 c
    refine r_bipush (pc := 12) hv 6 rfl  ?_
    exact r_ireturn (pc := 14) hv 7 rfl rfl h
theorem m_X9_loads {S : Sp} (hS : Sys S) {l1 : Int32} {l2 : Int32} {l3 : Int32} {l4 : Int32} {l5 : Int32} {σ : St} {Φ : Rs} (h : ∀ v : Kt, Cl S Φ k_X9_loads v → Wk v → vc_X9_loads_0 S Φ v l1 l2 l3 l4 l5 σ) : S 193 [aR 49, aI l1, aI l2, aI l3, aI l4, aI l5] σ Φ :=
  hS.2 193 M_X9_loads k_X9_loads _ _ _ mkt_X9_loads (Nat.le_of_ble_eq_true rfl) (fun v hv hw => w_X9_loads_0 hS hv hw   l1 l2 l3 l4 l5 σ (h v hv hw))
def vc_X9_compares_0 (S : Sp) (Φ : Rs) (v : Kt) (l1 : Int32) (l2 : Int32) (l3 : Int32) (σ : St) : Prop := S 186 [aR 49] σ (fun r σ1 => r = [] ∧ (∀ σ2 : St, σ2 = upI σ1 49 13 ((l1 &&& ((σ1.1 49 7) ^^^ (-1))) &&& (l3 ^^^ (-1))) → (∀ σ3 : St, σ3 = upI σ2 49 14 ((σ2.1 49 8) &&& (l2 ^^^ (-1))) → (Φ [] σ3))))
theorem w_X9_compares_0 {S : Sp} (hS : Sys S) {Φ : Rs} {v : Kt} (hv : Cl S Φ k_X9_compares v) (hw : Wk v) (l1 : Int32) (l2 : Int32) (l3 : Int32) (σ : St) (h : vc_X9_compares_0 S Φ v l1 l2 l3 σ) : v 0 [some (aR 49), some (aI l1), some (aI l2), some (aI l3)] [] σ := by
  unfold vc_X9_compares_0 at h
  refine r_aload_n (pc := 0) hv 0 rfl rfl ?_
  refine r_callV (pc := 1) (l := []) (av := []) (a := 49) (t := []) hv 1 rfl rfl rfl rfl (rcv_o (by decide) rfl) trivial (hS.1 _ _ _ _ _ (fun r σ1 h => ?_) h)
  obtain ⟨rfl, h⟩ := h
  show v 4 [some (aR 49), some (aI l1), some (aI l2), some (aI l3)] [] σ1
  refine r_aload_n (pc := 4) hv 2 rfl rfl ?_
  refine r_iload_n (pc := 5) hv 3 rfl rfl ?_
  refine r_aload_n (pc := 6) hv 4 rfl rfl ?_
  refine r_getI (pc := 7) hv 5 rfl rfl rfl ?_
  refine r_iconst (pc := 10) hv 6 rfl  ?_
  refine r_ixor (pc := 11) hv 7 rfl  ?_
  refine r_iand (pc := 12) hv 8 rfl  ?_
  refine r_iload_n (pc := 13) hv 9 rfl rfl ?_
  refine r_iconst (pc := 14) hv 10 rfl  ?_
  refine r_ixor (pc := 15) hv 11 rfl  ?_
  refine r_iand (pc := 16) hv 12 rfl  ?_
  refine r_putI (pc := 17) hv 13 rfl rfl rfl ?_
  obtain ⟨σ2, e_σ2⟩ : ∃ y : St, y = upI σ1 49 13 ((l1 &&& ((σ1.1 49 7) ^^^ (-1))) &&& (l3 ^^^ (-1))) := ⟨_, rfl⟩
  rw [← e_σ2]
  replace h := h σ2 e_σ2
  refine r_aload_n (pc := 20) hv 14 rfl rfl ?_
  refine r_aload_n (pc := 21) hv 15 rfl rfl ?_
  refine r_getI (pc := 22) hv 16 rfl rfl rfl ?_
  refine r_iload_n (pc := 25) hv 17 rfl rfl ?_
  refine r_iconst (pc := 26) hv 18 rfl  ?_
  refine r_ixor (pc := 27) hv 19 rfl  ?_
  refine r_iand (pc := 28) hv 20 rfl  ?_
  refine r_putI (pc := 29) hv 21 rfl rfl rfl ?_
  obtain ⟨σ3, e_σ3⟩ : ∃ y : St, y = upI σ2 49 14 ((σ2.1 49 8) &&& (l2 ^^^ (-1))) := ⟨_, rfl⟩
  rw [← e_σ3]
  replace h := h σ3 e_σ3
  exact r_return (pc := 32) hv 22 rfl h
theorem m_X9_compares {S : Sp} (hS : Sys S) {l1 : Int32} {l2 : Int32} {l3 : Int32} {σ : St} {Φ : Rs} (h : ∀ v : Kt, Cl S Φ k_X9_compares v → Wk v → vc_X9_compares_0 S Φ v l1 l2 l3 σ) : S 194 [aR 49, aI l1, aI l2, aI l3] σ Φ :=
  hS.2 194 M_X9_compares k_X9_compares _ _ _ mkt_X9_compares (Nat.le_of_ble_eq_true rfl) (fun v hv hw => w_X9_compares_0 hS hv hw   l1 l2 l3 σ (h v hv hw))
def vc_X9_misfires_0 (S : Sp) (Φ : Rs) (v : Kt) (l1 : Int32) (σ : St) : Prop := S 175 [aR 49] σ (fun r σ1 => r = [] ∧ (S 146 [aR 50, aR 52] σ1 (fun r σ2 => r = [] ∧ (vp_in ((8 * l1) + 6) 286 ∧ (∀ σ3 : St, σ3 = upI σ2 50 ((8 * l1) + 6 : Int32).toNatClampNeg 1 → (S 194 [aR 49, aI (σ1.1 49 7), aI (σ1.1 49 8), aI (1 <<< (l1 &&& 31))] σ3 (fun r σ4 => r = [] ∧ (S 184 [aR 49] σ4 (fun r σ5 => ∃ x6 : Int32, r = [aI x6] ∧ (∀ σ7 : St, σ7 = upI σ5 49 15 x6 → (S 185 [aR 49] σ7 (fun r σ8 => ∃ x9 : Int32, r = [aI x9] ∧ (∀ σ10 : St, σ10 = upI σ8 49 16 x9 → (S 146 [aR 52, aR 50] σ10 (fun r σ11 => r = [] ∧ (Φ [] σ11))))))))))))))))
theorem w_X9_misfires_0 {S : Sp} (hS : Sys S) {Φ : Rs} {v : Kt} (hv : Cl S Φ k_X9_misfires v) (hw : Wk v) (l1 : Int32) (σ : St) (h : vc_X9_misfires_0 S Φ v l1 σ) : v 0 [some (aR 49), some (aI l1), none, none] [] σ := by
  unfold vc_X9_misfires_0 at h
  refine r_aload_n (pc := 0) hv 0 rfl rfl ?_
  refine r_callV (pc := 1) (l := []) (av := []) (a := 49) (t := []) hv 1 rfl rfl rfl rfl (rcv_o (by decide) rfl) trivial (hS.1 _ _ _ _ _ (fun r σ1 h => ?_) h)
  obtain ⟨rfl, h⟩ := h
  show v 4 [some (aR 49), some (aI l1), none, none] [] σ1
  refine r_aload_n (pc := 4) hv 2 rfl rfl ?_
  refine r_getI (pc := 5) hv 3 rfl rfl rfl ?_
  refine r_istore_n (pc := 8) (lo' := [some (aR 49), some (aI l1), some (aI (σ1.1 49 7)), none]) hv 4 rfl rfl ?_
  refine r_aload_n (pc := 9) hv 5 rfl rfl ?_
  refine r_getI (pc := 10) hv 6 rfl rfl rfl ?_
  refine r_istore_n (pc := 13) (lo' := [some (aR 49), some (aI l1), some (aI (σ1.1 49 7)), some (aI (σ1.1 49 8))]) hv 7 rfl rfl ?_
  refine r_aload_n (pc := 14) hv 8 rfl rfl ?_
  refine r_getR (pc := 15) (b := 50) hv 9 rfl rfl rfl rfl ?_
  refine r_aload_n (pc := 18) hv 10 rfl rfl ?_
  refine r_getR (pc := 19) (b := 52) hv 11 rfl rfl rfl rfl ?_
  refine r_callS (pc := 22) (l := [aR 52, aR 50]) (av := [aR 50, aR 52]) (t := []) hv 12 rfl (Or.inl rfl) rfl rfl rfl trivial (hS.1 _ _ _ _ _ (fun r σ2 h => ?_) h)
  obtain ⟨rfl, h⟩ := h
  show v 25 [some (aR 49), some (aI l1), some (aI (σ1.1 49 7)), some (aI (σ1.1 49 8))] [] σ2
  refine r_aload_n (pc := 25) hv 13 rfl rfl ?_
  refine r_getR (pc := 26) (b := 50) hv 14 rfl rfl rfl rfl ?_
  refine r_bipush (pc := 29) hv 15 rfl  ?_
  refine r_iload_n (pc := 31) hv 16 rfl rfl ?_
  refine r_imul (pc := 32) hv 17 rfl  ?_
  refine r_bipush (pc := 33) hv 18 rfl  ?_
  refine r_iadd (pc := 35) hv 19 rfl  ?_
  refine r_iconst (pc := 36) hv 20 rfl  ?_
  refine r_iastore (pc := 37) (N := 286) hv 21 rfl rfl rfl h.1 ?_
  replace h := h.2
  obtain ⟨σ3, e_σ3⟩ : ∃ y : St, y = upI σ2 50 ((8 * l1) + 6 : Int32).toNatClampNeg 1 := ⟨_, rfl⟩
  rw [← e_σ3]
  replace h := h σ3 e_σ3
  refine r_aload_n (pc := 38) hv 22 rfl rfl ?_
  refine r_iload_n (pc := 39) hv 23 rfl rfl ?_
  refine r_iload_n (pc := 40) hv 24 rfl rfl ?_
  refine r_iconst (pc := 41) hv 25 rfl  ?_
  refine r_iload_n (pc := 42) hv 26 rfl rfl ?_
  refine r_ishl (pc := 43) hv 27 rfl  ?_
  refine r_callV (pc := 44) (l := [aI (1 <<< (l1 &&& 31)), aI (σ1.1 49 8), aI (σ1.1 49 7)]) (av := [aI (σ1.1 49 7), aI (σ1.1 49 8), aI (1 <<< (l1 &&& 31))]) (a := 49) (t := []) hv 28 rfl rfl rfl rfl (rcv_o (by decide) rfl) trivial (hS.1 _ _ _ _ _ (fun r σ4 h => ?_) h)
  obtain ⟨rfl, h⟩ := h
  show v 47 [some (aR 49), some (aI l1), some (aI (σ1.1 49 7)), some (aI (σ1.1 49 8))] [] σ4
  refine r_aload_n (pc := 47) hv 29 rfl rfl ?_
  refine r_aload_n (pc := 48) hv 30 rfl rfl ?_
  refine r_callV (pc := 49) (l := []) (av := []) (a := 49) (t := [aR 49]) hv 31 rfl rfl rfl rfl (rcv_o (by decide) rfl) trivial (hS.1 _ _ _ _ _ (fun r σ5 h => ?_) h)
  obtain ⟨x6, rfl, h⟩ := h
  show v 52 [some (aR 49), some (aI l1), some (aI (σ1.1 49 7)), some (aI (σ1.1 49 8))] [aI x6, aR 49] σ5
  refine r_putI (pc := 52) hv 32 rfl rfl rfl ?_
  obtain ⟨σ7, e_σ7⟩ : ∃ y : St, y = upI σ5 49 15 x6 := ⟨_, rfl⟩
  rw [← e_σ7]
  replace h := h σ7 e_σ7
  refine r_aload_n (pc := 55) hv 33 rfl rfl ?_
  refine r_aload_n (pc := 56) hv 34 rfl rfl ?_
  refine r_callV (pc := 57) (l := []) (av := []) (a := 49) (t := [aR 49]) hv 35 rfl rfl rfl rfl (rcv_o (by decide) rfl) trivial (hS.1 _ _ _ _ _ (fun r σ8 h => ?_) h)
  obtain ⟨x9, rfl, h⟩ := h
  show v 60 [some (aR 49), some (aI l1), some (aI (σ1.1 49 7)), some (aI (σ1.1 49 8))] [aI x9, aR 49] σ8
  refine r_putI (pc := 60) hv 36 rfl rfl rfl ?_
  obtain ⟨σ10, e_σ10⟩ : ∃ y : St, y = upI σ8 49 16 x9 := ⟨_, rfl⟩
  rw [← e_σ10]
  replace h := h σ10 e_σ10
  refine r_aload_n (pc := 63) hv 37 rfl rfl ?_
  refine r_getR (pc := 64) (b := 52) hv 38 rfl rfl rfl rfl ?_
  refine r_aload_n (pc := 67) hv 39 rfl rfl ?_
  refine r_getR (pc := 68) (b := 50) hv 40 rfl rfl rfl rfl ?_
  refine r_callS (pc := 71) (l := [aR 50, aR 52]) (av := [aR 52, aR 50]) (t := []) hv 41 rfl (Or.inl rfl) rfl rfl rfl trivial (hS.1 _ _ _ _ _ (fun r σ11 h => ?_) h)
  obtain ⟨rfl, h⟩ := h
  show v 74 [some (aR 49), some (aI l1), some (aI (σ1.1 49 7)), some (aI (σ1.1 49 8))] [] σ11
  exact r_return (pc := 74) hv 42 rfl h
theorem m_X9_misfires {S : Sp} (hS : Sys S) {l1 : Int32} {σ : St} {Φ : Rs} (h : ∀ v : Kt, Cl S Φ k_X9_misfires v → Wk v → vc_X9_misfires_0 S Φ v l1 σ) : S 195 [aR 49, aI l1] σ Φ :=
  hS.2 195 M_X9_misfires k_X9_misfires _ _ _ mkt_X9_misfires (Nat.le_of_ble_eq_true rfl) (fun v hv hw => w_X9_misfires_0 hS hv hw   l1 σ (h v hv hw))
def vc_X9_breaks_0 (S : Sp) (Φ : Rs) (v : Kt) (l1 : Int32) (σ : St) : Prop := S 175 [aR 49] σ (fun r σ1 => r = [] ∧ (S 146 [aR 50, aR 52] σ1 (fun r σ2 => r = [] ∧ (S 167 [aR 49, aI l1] σ2 (fun r σ3 => r = [] ∧ (S 194 [aR 49, aI (σ1.1 49 7), aI (σ1.1 49 8), aI 0] σ3 (fun r σ4 => r = [] ∧ (S 184 [aR 49] σ4 (fun r σ5 => ∃ x6 : Int32, r = [aI x6] ∧ (∀ σ7 : St, σ7 = upI σ5 49 15 x6 → (S 185 [aR 49] σ7 (fun r σ8 => ∃ x9 : Int32, r = [aI x9] ∧ (∀ σ10 : St, σ10 = upI σ8 49 16 x9 → (S 146 [aR 52, aR 50] σ10 (fun r σ11 => r = [] ∧ (Φ [] σ11))))))))))))))))
theorem w_X9_breaks_0 {S : Sp} (hS : Sys S) {Φ : Rs} {v : Kt} (hv : Cl S Φ k_X9_breaks v) (hw : Wk v) (l1 : Int32) (σ : St) (h : vc_X9_breaks_0 S Φ v l1 σ) : v 0 [some (aR 49), some (aI l1), none, none] [] σ := by
  unfold vc_X9_breaks_0 at h
  refine r_aload_n (pc := 0) hv 0 rfl rfl ?_
  refine r_callV (pc := 1) (l := []) (av := []) (a := 49) (t := []) hv 1 rfl rfl rfl rfl (rcv_o (by decide) rfl) trivial (hS.1 _ _ _ _ _ (fun r σ1 h => ?_) h)
  obtain ⟨rfl, h⟩ := h
  show v 4 [some (aR 49), some (aI l1), none, none] [] σ1
  refine r_aload_n (pc := 4) hv 2 rfl rfl ?_
  refine r_getI (pc := 5) hv 3 rfl rfl rfl ?_
  refine r_istore_n (pc := 8) (lo' := [some (aR 49), some (aI l1), some (aI (σ1.1 49 7)), none]) hv 4 rfl rfl ?_
  refine r_aload_n (pc := 9) hv 5 rfl rfl ?_
  refine r_getI (pc := 10) hv 6 rfl rfl rfl ?_
  refine r_istore_n (pc := 13) (lo' := [some (aR 49), some (aI l1), some (aI (σ1.1 49 7)), some (aI (σ1.1 49 8))]) hv 7 rfl rfl ?_
  refine r_aload_n (pc := 14) hv 8 rfl rfl ?_
  refine r_getR (pc := 15) (b := 50) hv 9 rfl rfl rfl rfl ?_
  refine r_aload_n (pc := 18) hv 10 rfl rfl ?_
  refine r_getR (pc := 19) (b := 52) hv 11 rfl rfl rfl rfl ?_
  refine r_callS (pc := 22) (l := [aR 52, aR 50]) (av := [aR 50, aR 52]) (t := []) hv 12 rfl (Or.inl rfl) rfl rfl rfl trivial (hS.1 _ _ _ _ _ (fun r σ2 h => ?_) h)
  obtain ⟨rfl, h⟩ := h
  show v 25 [some (aR 49), some (aI l1), some (aI (σ1.1 49 7)), some (aI (σ1.1 49 8))] [] σ2
  refine r_aload_n (pc := 25) hv 13 rfl rfl ?_
  refine r_iload_n (pc := 26) hv 14 rfl rfl ?_
  refine r_callV (pc := 27) (l := [aI l1]) (av := [aI l1]) (a := 49) (t := []) hv 15 rfl rfl rfl rfl (rcv_o (by decide) rfl) trivial (hS.1 _ _ _ _ _ (fun r σ3 h => ?_) h)
  obtain ⟨rfl, h⟩ := h
  show v 30 [some (aR 49), some (aI l1), some (aI (σ1.1 49 7)), some (aI (σ1.1 49 8))] [] σ3
  refine r_aload_n (pc := 30) hv 16 rfl rfl ?_
  refine r_iload_n (pc := 31) hv 17 rfl rfl ?_
  refine r_iload_n (pc := 32) hv 18 rfl rfl ?_
  refine r_iconst (pc := 33) hv 19 rfl  ?_
  refine r_callV (pc := 34) (l := [aI 0, aI (σ1.1 49 8), aI (σ1.1 49 7)]) (av := [aI (σ1.1 49 7), aI (σ1.1 49 8), aI 0]) (a := 49) (t := []) hv 20 rfl rfl rfl rfl (rcv_o (by decide) rfl) trivial (hS.1 _ _ _ _ _ (fun r σ4 h => ?_) h)
  obtain ⟨rfl, h⟩ := h
  show v 37 [some (aR 49), some (aI l1), some (aI (σ1.1 49 7)), some (aI (σ1.1 49 8))] [] σ4
  refine r_aload_n (pc := 37) hv 21 rfl rfl ?_
  refine r_aload_n (pc := 38) hv 22 rfl rfl ?_
  refine r_callV (pc := 39) (l := []) (av := []) (a := 49) (t := [aR 49]) hv 23 rfl rfl rfl rfl (rcv_o (by decide) rfl) trivial (hS.1 _ _ _ _ _ (fun r σ5 h => ?_) h)
  obtain ⟨x6, rfl, h⟩ := h
  show v 42 [some (aR 49), some (aI l1), some (aI (σ1.1 49 7)), some (aI (σ1.1 49 8))] [aI x6, aR 49] σ5
  refine r_putI (pc := 42) hv 24 rfl rfl rfl ?_
  obtain ⟨σ7, e_σ7⟩ : ∃ y : St, y = upI σ5 49 15 x6 := ⟨_, rfl⟩
  rw [← e_σ7]
  replace h := h σ7 e_σ7
  refine r_aload_n (pc := 45) hv 25 rfl rfl ?_
  refine r_aload_n (pc := 46) hv 26 rfl rfl ?_
  refine r_callV (pc := 47) (l := []) (av := []) (a := 49) (t := [aR 49]) hv 27 rfl rfl rfl rfl (rcv_o (by decide) rfl) trivial (hS.1 _ _ _ _ _ (fun r σ8 h => ?_) h)
  obtain ⟨x9, rfl, h⟩ := h
  show v 50 [some (aR 49), some (aI l1), some (aI (σ1.1 49 7)), some (aI (σ1.1 49 8))] [aI x9, aR 49] σ8
  refine r_putI (pc := 50) hv 28 rfl rfl rfl ?_
  obtain ⟨σ10, e_σ10⟩ : ∃ y : St, y = upI σ8 49 16 x9 := ⟨_, rfl⟩
  rw [← e_σ10]
  replace h := h σ10 e_σ10
  refine r_aload_n (pc := 53) hv 29 rfl rfl ?_
  refine r_getR (pc := 54) (b := 52) hv 30 rfl rfl rfl rfl ?_
  refine r_aload_n (pc := 57) hv 31 rfl rfl ?_
  refine r_getR (pc := 58) (b := 50) hv 32 rfl rfl rfl rfl ?_
  refine r_callS (pc := 61) (l := [aR 50, aR 52]) (av := [aR 52, aR 50]) (t := []) hv 33 rfl (Or.inl rfl) rfl rfl rfl trivial (hS.1 _ _ _ _ _ (fun r σ11 h => ?_) h)
  obtain ⟨rfl, h⟩ := h
  show v 64 [some (aR 49), some (aI l1), some (aI (σ1.1 49 7)), some (aI (σ1.1 49 8))] [] σ11
  exact r_return (pc := 64) hv 34 rfl h
theorem m_X9_breaks {S : Sp} (hS : Sys S) {l1 : Int32} {σ : St} {Φ : Rs} (h : ∀ v : Kt, Cl S Φ k_X9_breaks v → Wk v → vc_X9_breaks_0 S Φ v l1 σ) : S 196 [aR 49, aI l1] σ Φ :=
  hS.2 196 M_X9_breaks k_X9_breaks _ _ _ mkt_X9_breaks (Nat.le_of_ble_eq_true rfl) (fun v hv hw => w_X9_breaks_0 hS hv hw   l1 σ (h v hv hw))
def vc_X9_misfire_0 (S : Sp) (Φ : Rs) (v : Kt) (l1 : Int32) (l2 : Int32) (σ : St) : Prop := ((b2 ((0 : Int64) ≤ (l1 : Int32).toInt64 ∧ ((l1 : Int32).toInt64 : Int64) ≤ (σ.1 50 (280 : Int32).toNatClampNeg - 1 : Int32).toInt64) : Int32) = 0 → (Φ [aI (-1)] σ)) ∧ (¬ ((b2 ((0 : Int64) ≤ (l1 : Int32).toInt64 ∧ ((l1 : Int32).toInt64 : Int64) ≤ (σ.1 50 (280 : Int32).toNatClampNeg - 1 : Int32).toInt64) : Int32) = 0) → ((¬ (b2 ((0 : Int64) ≤ ((l2 : Int32).toInt64) ∧ ((l2 : Int32).toInt64 : Int64) ≤ 3) : Int32) = 0 → (S 195 [aR 49, aI l1] σ (fun r σ1 => r = [] ∧ (S 197 [aR 49, aI l2] σ1 (fun r σ2 => ∃ x3 : Int32, r = [aI x3] ∧ (Φ [aI x3] σ2)))))) ∧ ((b2 ((0 : Int64) ≤ ((l2 : Int32).toInt64) ∧ ((l2 : Int32).toInt64 : Int64) ≤ 3) : Int32) = 0 → (Φ [aI (-1)] σ))))
theorem w_X9_misfire_0 {S : Sp} (hS : Sys S) {Φ : Rs} {v : Kt} (hv : Cl S Φ k_X9_misfire v) (hw : Wk v) (l1 : Int32) (l2 : Int32) (σ : St) (h : vc_X9_misfire_0 S Φ v l1 l2 σ) : v 0 [some (aR 49), some (aI l1), some (aI l2)] [] σ := by
  unfold vc_X9_misfire_0 at h
  refine r_aload_n (pc := 0) hv 0 rfl rfl ?_
  refine r_iload_n (pc := 1) hv 1 rfl rfl ?_
  refine r_callV (pc := 2) (l := [aI l1]) (av := [aI l1]) (a := 49) (t := []) hv 2 rfl rfl rfl rfl (rcv_o (by decide) rfl) trivial (t_X9_isHole hS ?_)
  show v 5 [some (aR 49), some (aI l1), some (aI l2)] [aI (b2 ((0 : Int64) ≤ (l1 : Int32).toInt64 ∧ ((l1 : Int32).toInt64 : Int64) ≤ (σ.1 50 (280 : Int32).toNatClampNeg - 1 : Int32).toInt64))] σ
  refine r_if_eq (pc := 5) hv 3 rfl (fun c => ?_) (fun c => ?_)
  · replace h := h.1 c
    refine r_iconst (pc := 20) hv 10 rfl  ?_
    exact r_ireturn (pc := 21) hv 11 rfl rfl h
  · replace h := h.2 c
    refine r_iload_n (pc := 8) hv 4 rfl rfl ?_
    refine r_i2l (pc := 9) hv 5 rfl  ?_
    refine r_lconst (pc := 10) hv 6 rfl  ?_
    refine r_ldc2_w (pc := 11) hv 7 rfl  ?_
    refine r_callS (pc := 14) (l := [aL 3, aL 0, aL ((l2 : Int32).toInt64)]) (av := [aL ((l2 : Int32).toInt64), aL 0, aL 3]) (t := []) hv 8 rfl (Or.inl rfl) rfl rfl rfl trivial (t_X9_in hS ?_)
    show v 17 [some (aR 49), some (aI l1), some (aI l2)] [aI (b2 ((0 : Int64) ≤ ((l2 : Int32).toInt64) ∧ ((l2 : Int32).toInt64 : Int64) ≤ 3))] σ
    refine r_if_ne (pc := 17) hv 9 rfl (fun c => ?_) (fun c => ?_)
    · replace h := h.1 c
      refine r_aload_n (pc := 22) hv 12 rfl rfl ?_
      refine r_iload_n (pc := 23) hv 13 rfl rfl ?_
      refine r_callV (pc := 24) (l := [aI l1]) (av := [aI l1]) (a := 49) (t := []) hv 14 rfl rfl rfl rfl (rcv_o (by decide) rfl) trivial (hS.1 _ _ _ _ _ (fun r σ1 h => ?_) h)
      obtain ⟨rfl, h⟩ := h
      show v 27 [some (aR 49), some (aI l1), some (aI l2)] [] σ1
      refine r_aload_n (pc := 27) hv 15 rfl rfl ?_
      refine r_iload_n (pc := 28) hv 16 rfl rfl ?_
      refine r_callV (pc := 29) (l := [aI l2]) (av := [aI l2]) (a := 49) (t := []) hv 17 rfl rfl rfl rfl (rcv_o (by decide) rfl) trivial (hS.1 _ _ _ _ _ (fun r σ2 h => ?_) h)
      obtain ⟨x3, rfl, h⟩ := h
      show v 32 [some (aR 49), some (aI l1), some (aI l2)] [aI x3] σ2
      exact r_ireturn (pc := 32) hv 18 rfl rfl h
    · replace h := h.2 c
      refine r_iconst (pc := 20) hv 10 rfl  ?_
      exact r_ireturn (pc := 21) hv 11 rfl rfl h
theorem m_X9_misfire {S : Sp} (hS : Sys S) {l1 : Int32} {l2 : Int32} {σ : St} {Φ : Rs} (h : ∀ v : Kt, Cl S Φ k_X9_misfire v → Wk v → vc_X9_misfire_0 S Φ v l1 l2 σ) : S 198 [aR 49, aI l1, aI l2] σ Φ :=
  hS.2 198 M_X9_misfire k_X9_misfire _ _ _ mkt_X9_misfire (Nat.le_of_ble_eq_true rfl) (fun v hv hw => w_X9_misfire_0 hS hv hw   l1 l2 σ (h v hv hw))
def vc_X9_broken_0 (S : Sp) (Φ : Rs) (v : Kt) (l1 : Int32) (l2 : Int32) (σ : St) : Prop := ((b2 ((0 : Int64) ≤ (l1 : Int32).toInt64 ∧ ((l1 : Int32).toInt64 : Int64) ≤ (σ.1 50 (281 : Int32).toNatClampNeg - 1 : Int32).toInt64) : Int32) = 0 → (Φ [aI (-1)] σ)) ∧ (¬ ((b2 ((0 : Int64) ≤ (l1 : Int32).toInt64 ∧ ((l1 : Int32).toInt64 : Int64) ≤ (σ.1 50 (281 : Int32).toNatClampNeg - 1 : Int32).toInt64) : Int32) = 0) → ((¬ (b2 ((0 : Int64) ≤ ((l2 : Int32).toInt64) ∧ ((l2 : Int32).toInt64 : Int64) ≤ 3) : Int32) = 0 → (S 196 [aR 49, aI l1] σ (fun r σ1 => r = [] ∧ (S 197 [aR 49, aI l2] σ1 (fun r σ2 => ∃ x3 : Int32, r = [aI x3] ∧ (Φ [aI x3] σ2)))))) ∧ ((b2 ((0 : Int64) ≤ ((l2 : Int32).toInt64) ∧ ((l2 : Int32).toInt64 : Int64) ≤ 3) : Int32) = 0 → (Φ [aI (-1)] σ))))
theorem w_X9_broken_0 {S : Sp} (hS : Sys S) {Φ : Rs} {v : Kt} (hv : Cl S Φ k_X9_broken v) (hw : Wk v) (l1 : Int32) (l2 : Int32) (σ : St) (h : vc_X9_broken_0 S Φ v l1 l2 σ) : v 0 [some (aR 49), some (aI l1), some (aI l2)] [] σ := by
  unfold vc_X9_broken_0 at h
  refine r_aload_n (pc := 0) hv 0 rfl rfl ?_
  refine r_iload_n (pc := 1) hv 1 rfl rfl ?_
  refine r_callV (pc := 2) (l := [aI l1]) (av := [aI l1]) (a := 49) (t := []) hv 2 rfl rfl rfl rfl (rcv_o (by decide) rfl) trivial (t_X9_isWire hS ?_)
  show v 5 [some (aR 49), some (aI l1), some (aI l2)] [aI (b2 ((0 : Int64) ≤ (l1 : Int32).toInt64 ∧ ((l1 : Int32).toInt64 : Int64) ≤ (σ.1 50 (281 : Int32).toNatClampNeg - 1 : Int32).toInt64))] σ
  refine r_if_eq (pc := 5) hv 3 rfl (fun c => ?_) (fun c => ?_)
  · replace h := h.1 c
    refine r_iconst (pc := 20) hv 10 rfl  ?_
    exact r_ireturn (pc := 21) hv 11 rfl rfl h
  · replace h := h.2 c
    refine r_iload_n (pc := 8) hv 4 rfl rfl ?_
    refine r_i2l (pc := 9) hv 5 rfl  ?_
    refine r_lconst (pc := 10) hv 6 rfl  ?_
    refine r_ldc2_w (pc := 11) hv 7 rfl  ?_
    refine r_callS (pc := 14) (l := [aL 3, aL 0, aL ((l2 : Int32).toInt64)]) (av := [aL ((l2 : Int32).toInt64), aL 0, aL 3]) (t := []) hv 8 rfl (Or.inl rfl) rfl rfl rfl trivial (t_X9_in hS ?_)
    show v 17 [some (aR 49), some (aI l1), some (aI l2)] [aI (b2 ((0 : Int64) ≤ ((l2 : Int32).toInt64) ∧ ((l2 : Int32).toInt64 : Int64) ≤ 3))] σ
    refine r_if_ne (pc := 17) hv 9 rfl (fun c => ?_) (fun c => ?_)
    · replace h := h.1 c
      refine r_aload_n (pc := 22) hv 12 rfl rfl ?_
      refine r_iload_n (pc := 23) hv 13 rfl rfl ?_
      refine r_callV (pc := 24) (l := [aI l1]) (av := [aI l1]) (a := 49) (t := []) hv 14 rfl rfl rfl rfl (rcv_o (by decide) rfl) trivial (hS.1 _ _ _ _ _ (fun r σ1 h => ?_) h)
      obtain ⟨rfl, h⟩ := h
      show v 27 [some (aR 49), some (aI l1), some (aI l2)] [] σ1
      refine r_aload_n (pc := 27) hv 15 rfl rfl ?_
      refine r_iload_n (pc := 28) hv 16 rfl rfl ?_
      refine r_callV (pc := 29) (l := [aI l2]) (av := [aI l2]) (a := 49) (t := []) hv 17 rfl rfl rfl rfl (rcv_o (by decide) rfl) trivial (hS.1 _ _ _ _ _ (fun r σ2 h => ?_) h)
      obtain ⟨x3, rfl, h⟩ := h
      show v 32 [some (aR 49), some (aI l1), some (aI l2)] [aI x3] σ2
      exact r_ireturn (pc := 32) hv 18 rfl rfl h
    · replace h := h.2 c
      refine r_iconst (pc := 20) hv 10 rfl  ?_
      exact r_ireturn (pc := 21) hv 11 rfl rfl h
theorem m_X9_broken {S : Sp} (hS : Sys S) {l1 : Int32} {l2 : Int32} {σ : St} {Φ : Rs} (h : ∀ v : Kt, Cl S Φ k_X9_broken v → Wk v → vc_X9_broken_0 S Φ v l1 l2 σ) : S 199 [aR 49, aI l1, aI l2] σ Φ :=
  hS.2 199 M_X9_broken k_X9_broken _ _ _ mkt_X9_broken (Nat.le_of_ble_eq_true rfl) (fun v hv hw => w_X9_broken_0 hS hv hw   l1 l2 σ (h v hv hw))
def vc_X9_critical_90 (S : Sp) (Φ : Rs) (v : Kt) (l1 : Int32) (l2 : Int32) (l3 : Int32) (l4 : Int32) (l5 : Int32) (s0 : Int32) (σ : St) : Prop := ((l5 : Int32) ≤ l3 → (v 19 [some (aR 49), some (aI l1), some (aI s0), some (aI l3), some (aI (l4 + 1)), none] [] σ)) ∧ (¬ ((l5 : Int32) ≤ l3) → (v 19 [some (aR 49), some (aI l1), some (aI s0), some (aI l5), some (aI (l4 + 1)), none] [] σ))
theorem w_X9_critical_90 {S : Sp} (hS : Sys S) {Φ : Rs} {v : Kt} (hv : Cl S Φ k_X9_critical v) (hw : Wk v) (l1 : Int32) (l2 : Int32) (l3 : Int32) (l4 : Int32) (l5 : Int32) (s0 : Int32) (σ : St) (h : vc_X9_critical_90 S Φ v l1 l2 l3 l4 l5 s0 σ) : v 90 [some (aR 49), some (aI l1), some (aI l2), some (aI l3), some (aI l4), some (aI l5)] [aI s0] σ := by
  unfold vc_X9_critical_90 at h
  refine r_istore_n (pc := 90) (lo' := [some (aR 49), some (aI l1), some (aI s0), some (aI l3), some (aI l4), some (aI l5)]) hv 47 rfl rfl ?_
  refine r_iload (pc := 91) hv 48 rfl rfl ?_
  refine r_iload_n (pc := 93) hv 49 rfl rfl ?_
  refine r_icmp_le (pc := 94) hv 50 rfl (fun c => ?_) (fun c => ?_)
  · replace h := h.1 c
    refine r_iload_n (pc := 102) hv 53 rfl rfl ?_
    refine r_istore_n (pc := 103) (lo' := [some (aR 49), some (aI l1), some (aI s0), some (aI l3), some (aI l4), some (aI l5)]) hv 54 rfl rfl ?_
    refine r_iinc (pc := 104) (lo' := [some (aR 49), some (aI l1), some (aI s0), some (aI l3), some (aI (l4 + 1)), some (aI l5)]) hv 55 rfl rfl rfl ?_
    refine r_goto (pc := 107) hv 56 rfl  ?_
    exact hw 19 [some (aR 49), some (aI l1), some (aI s0), some (aI l3), some (aI (l4 + 1)), none] _ _ _ ⟨rfl, ⟨rfl, ⟨rfl, ⟨rfl, ⟨rfl, trivial⟩⟩⟩⟩⟩ h
  · replace h := h.2 c
    refine r_iload (pc := 97) hv 51 rfl rfl ?_
    refine r_goto (pc := 99) hv 52 rfl  ?_
    refine r_istore_n (pc := 103) (lo' := [some (aR 49), some (aI l1), some (aI s0), some (aI l5), some (aI l4), some (aI l5)]) hv 54 rfl rfl ?_
    refine r_iinc (pc := 104) (lo' := [some (aR 49), some (aI l1), some (aI s0), some (aI l5), some (aI (l4 + 1)), some (aI l5)]) hv 55 rfl rfl rfl ?_
    refine r_goto (pc := 107) hv 56 rfl  ?_
    exact hw 19 [some (aR 49), some (aI l1), some (aI s0), some (aI l5), some (aI (l4 + 1)), none] _ _ _ ⟨rfl, ⟨rfl, ⟨rfl, ⟨rfl, ⟨rfl, trivial⟩⟩⟩⟩⟩ h
def vc_X9_critical_61 (S : Sp) (Φ : Rs) (v : Kt) (l1 : Int32) (l2 : Int32) (l3 : Int32) (l4 : Int32) (σ : St) : Prop := S 147 [aI (σ.1 49 13)] σ (fun r σ1 => ∃ x2 : Int32, r = [aI x2] ∧ (S 147 [aI (σ1.1 49 14)] σ1 (fun r σ3 => ∃ x4 : Int32, r = [aI x4] ∧ (((x2 + x4 : Int32) ≤ l3 → (vc_X9_critical_90 S Φ v  l1 l2 l3 l4 (x2 + x4) l2 σ3)) ∧ (¬ ((x2 + x4 : Int32) ≤ l3) → (vc_X9_critical_90 S Φ v  l1 l2 l3 l4 (x2 + x4) l4 σ3))))))
theorem w_X9_critical_61 {S : Sp} (hS : Sys S) {Φ : Rs} {v : Kt} (hv : Cl S Φ k_X9_critical v) (hw : Wk v) (l1 : Int32) (l2 : Int32) (l3 : Int32) (l4 : Int32) (σ : St) (h : vc_X9_critical_61 S Φ v l1 l2 l3 l4 σ) : v 61 [some (aR 49), some (aI l1), some (aI l2), some (aI l3), some (aI l4), none] [] σ := by
  unfold vc_X9_critical_61 at h
  refine r_aload_n (pc := 61) hv 33 rfl rfl ?_
  refine r_getI (pc := 62) hv 34 rfl rfl rfl ?_
  refine r_callS (pc := 65) (l := [aI (σ.1 49 13)]) (av := [aI (σ.1 49 13)]) (t := []) hv 35 rfl (Or.inl rfl) rfl rfl rfl trivial (hS.1 _ _ _ _ _ (fun r σ1 h => ?_) h)
  obtain ⟨x2, rfl, h⟩ := h
  show v 68 [some (aR 49), some (aI l1), some (aI l2), some (aI l3), some (aI l4), none] [aI x2] σ1
  refine r_aload_n (pc := 68) hv 36 rfl rfl ?_
  refine r_getI (pc := 69) hv 37 rfl rfl rfl ?_
  refine r_callS (pc := 72) (l := [aI (σ1.1 49 14)]) (av := [aI (σ1.1 49 14)]) (t := [aI x2]) hv 38 rfl (Or.inl rfl) rfl rfl rfl trivial (hS.1 _ _ _ _ _ (fun r σ3 h => ?_) h)
  obtain ⟨x4, rfl, h⟩ := h
  show v 75 [some (aR 49), some (aI l1), some (aI l2), some (aI l3), some (aI l4), none] [aI x4, aI x2] σ3
  refine r_iadd (pc := 75) hv 39 rfl  ?_
  refine r_istore (pc := 76) (lo' := [some (aR 49), some (aI l1), some (aI l2), some (aI l3), some (aI l4), some (aI (x2 + x4))]) hv 40 rfl rfl ?_
  refine r_iload (pc := 78) hv 41 rfl rfl ?_
  refine r_iload_n (pc := 80) hv 42 rfl rfl ?_
  refine r_icmp_le (pc := 81) hv 43 rfl (fun c => ?_) (fun c => ?_)
  · replace h := h.1 c
    refine r_iload_n (pc := 89) hv 46 rfl rfl ?_
    exact (w_X9_critical_90 hS hv hw   l1 l2 l3 l4 (x2 + x4) l2  σ3 h)
  · replace h := h.2 c
    refine r_iload (pc := 84) hv 44 rfl rfl ?_
    refine r_goto (pc := 86) hv 45 rfl  ?_
    exact (w_X9_critical_90 hS hv hw   l1 l2 l3 l4 (x2 + x4) l4  σ3 h)
def vc_X9_critical_38 (S : Sp) (Φ : Rs) (v : Kt) (l1 : Int32) (l2 : Int32) (l3 : Int32) (l4 : Int32) (s0 : Int32) (s2 : Int32) (σ : St) : Prop := vp_in s0 286 ∧ (((σ.1 50 (s0 : Int32).toNatClampNeg : Int32) ≤ s2 → (Φ [aI l2] σ)) ∧ (¬ ((σ.1 50 (s0 : Int32).toNatClampNeg : Int32) ≤ s2) → ((¬ (l1 : Int32) = 0 → (S 196 [aR 49, aI l4] σ (fun r σ1 => r = [] ∧ (vc_X9_critical_61 S Φ v  l1 l2 l3 l4 σ1)))) ∧ ((l1 : Int32) = 0 → (S 195 [aR 49, aI l4] σ (fun r σ2 => r = [] ∧ (vc_X9_critical_61 S Φ v  l1 l2 l3 l4 σ2)))))))
theorem w_X9_critical_38 {S : Sp} (hS : Sys S) {Φ : Rs} {v : Kt} (hv : Cl S Φ k_X9_critical v) (hw : Wk v) (l1 : Int32) (l2 : Int32) (l3 : Int32) (l4 : Int32) (s0 : Int32) (s2 : Int32) (σ : St) (h : vc_X9_critical_38 S Φ v l1 l2 l3 l4 s0 s2 σ) : v 38 [some (aR 49), some (aI l1), some (aI l2), some (aI l3), some (aI l4), none] [aI s0, aR 50, aI s2] σ := by
  unfold vc_X9_critical_38 at h
  refine r_iaload (pc := 38) (N := 286) hv 22 rfl rfl rfl (by decide) h.1 ?_
  replace h := h.2
  refine r_icmp_ge (pc := 39) hv 23 rfl (fun c => ?_) (fun c => ?_)
  · replace h := h.1 c
    refine r_iload_n (pc := 110) hv 57 rfl rfl ?_
    exact r_ireturn (pc := 111) hv 58 rfl rfl h
  · replace h := h.2 c
    refine r_iload_n (pc := 42) hv 24 rfl rfl ?_
    refine r_if_ne (pc := 43) hv 25 rfl (fun c => ?_) (fun c => ?_)
    · replace h := h.1 c
      refine r_aload_n (pc := 55) hv 30 rfl rfl ?_
      refine r_iload (pc := 56) hv 31 rfl rfl ?_
      refine r_callV (pc := 58) (l := [aI l4]) (av := [aI l4]) (a := 49) (t := []) hv 32 rfl rfl rfl rfl (rcv_o (by decide) rfl) trivial (hS.1 _ _ _ _ _ (fun r σ1 h => ?_) h)
      obtain ⟨rfl, h⟩ := h
      show v 61 [some (aR 49), some (aI l1), some (aI l2), some (aI l3), some (aI l4), none] [] σ1
      exact (w_X9_critical_61 hS hv hw   l1 l2 l3 l4  σ1 h)
    · replace h := h.2 c
      refine r_aload_n (pc := 46) hv 26 rfl rfl ?_
      refine r_iload (pc := 47) hv 27 rfl rfl ?_
      refine r_callV (pc := 49) (l := [aI l4]) (av := [aI l4]) (a := 49) (t := []) hv 28 rfl rfl rfl rfl (rcv_o (by decide) rfl) trivial (hS.1 _ _ _ _ _ (fun r σ2 h => ?_) h)
      obtain ⟨rfl, h⟩ := h
      show v 52 [some (aR 49), some (aI l1), some (aI l2), some (aI l3), some (aI l4), none] [] σ2
      refine r_goto (pc := 52) hv 29 rfl  ?_
      exact (w_X9_critical_61 hS hv hw   l1 l2 l3 l4  σ2 h)
def vc_X9_critical_19 (S : Sp) (Φ : Rs) (v : Kt) (l1 : Int32) (l2 : Int32) (l3 : Int32) (l4 : Int32) (σ : St) : Prop := (¬ (l1 : Int32) = 0 → (vc_X9_critical_38 S Φ v  l1 l2 l3 l4 281 l4 σ)) ∧ ((l1 : Int32) = 0 → (vc_X9_critical_38 S Φ v  l1 l2 l3 l4 280 l4 σ))
theorem w_X9_critical_19 {S : Sp} (hS : Sys S) {Φ : Rs} {v : Kt} (hv : Cl S Φ k_X9_critical v) (hw : Wk v) (l1 : Int32) (l2 : Int32) (l3 : Int32) (l4 : Int32) (σ : St) (h : vc_X9_critical_19 S Φ v l1 l2 l3 l4 σ) : v 19 [some (aR 49), some (aI l1), some (aI l2), some (aI l3), some (aI l4), none] [] σ := by
  unfold vc_X9_critical_19 at h
  refine r_iload (pc := 19) hv 14 rfl rfl ?_
  refine r_aload_n (pc := 21) hv 15 rfl rfl ?_
  refine r_getR (pc := 22) (b := 50) hv 16 rfl rfl rfl rfl ?_
  refine r_iload_n (pc := 25) hv 17 rfl rfl ?_
  refine r_if_ne (pc := 26) hv 18 rfl (fun c => ?_) (fun c => ?_)
  · replace h := h.1 c
    refine r_sipush (pc := 35) hv 21 rfl  ?_
    exact (w_X9_critical_38 hS hv hw   l1 l2 l3 l4 281 l4  σ h)
  · replace h := h.2 c
    refine r_sipush (pc := 29) hv 19 rfl  ?_
    refine r_goto (pc := 32) hv 20 rfl  ?_
    exact (w_X9_critical_38 hS hv hw   l1 l2 l3 l4 280 l4  σ h)
def vc_X9_critical_0 (S : Sp) (Φ : Rs) (v : Kt) (l1 : Int32) (σ : St) : Prop := (¬ (b2 ((0 : Int64) ≤ ((l1 : Int32).toInt64) ∧ ((l1 : Int32).toInt64 : Int64) ≤ 1) : Int32) = 0 → (v 19 [some (aR 49), some (aI l1), some (aI (-1)), some (aI (-1)), some (aI 0), none] [] σ)) ∧ ((b2 ((0 : Int64) ≤ ((l1 : Int32).toInt64) ∧ ((l1 : Int32).toInt64 : Int64) ≤ 1) : Int32) = 0 → (Φ [aI (-1)] σ))
theorem w_X9_critical_0 {S : Sp} (hS : Sys S) {Φ : Rs} {v : Kt} (hv : Cl S Φ k_X9_critical v) (hw : Wk v) (l1 : Int32) (σ : St) (h : vc_X9_critical_0 S Φ v l1 σ) : v 0 [some (aR 49), some (aI l1), none, none, none, none] [] σ := by
  unfold vc_X9_critical_0 at h
  refine r_iload_n (pc := 0) hv 0 rfl rfl ?_
  refine r_i2l (pc := 1) hv 1 rfl  ?_
  refine r_lconst (pc := 2) hv 2 rfl  ?_
  refine r_lconst (pc := 3) hv 3 rfl  ?_
  refine r_callS (pc := 4) (l := [aL 1, aL 0, aL ((l1 : Int32).toInt64)]) (av := [aL ((l1 : Int32).toInt64), aL 0, aL 1]) (t := []) hv 4 rfl (Or.inl rfl) rfl rfl rfl trivial (t_X9_in hS ?_)
  show v 7 [some (aR 49), some (aI l1), none, none, none, none] [aI (b2 ((0 : Int64) ≤ ((l1 : Int32).toInt64) ∧ ((l1 : Int32).toInt64 : Int64) ≤ 1))] σ
  refine r_if_ne (pc := 7) hv 5 rfl (fun c => ?_) (fun c => ?_)
  · replace h := h.1 c
    refine r_iconst (pc := 12) hv 8 rfl  ?_
    refine r_istore_n (pc := 13) (lo' := [some (aR 49), some (aI l1), some (aI (-1)), none, none, none]) hv 9 rfl rfl ?_
    refine r_iconst (pc := 14) hv 10 rfl  ?_
    refine r_istore_n (pc := 15) (lo' := [some (aR 49), some (aI l1), some (aI (-1)), some (aI (-1)), none, none]) hv 11 rfl rfl ?_
    refine r_iconst (pc := 16) hv 12 rfl  ?_
    refine r_istore (pc := 17) (lo' := [some (aR 49), some (aI l1), some (aI (-1)), some (aI (-1)), some (aI 0), none]) hv 13 rfl rfl ?_
    exact h
  · replace h := h.2 c
    refine r_iconst (pc := 10) hv 6 rfl  ?_
    exact r_ireturn (pc := 11) hv 7 rfl rfl h
theorem m_X9_critical {S : Sp} (hS : Sys S) {l1 : Int32} {σ : St} {Φ : Rs} (h : ∀ v : Kt, Cl S Φ k_X9_critical v → Wk v → vc_X9_critical_0 S Φ v l1 σ) : S 200 [aR 49, aI l1] σ Φ :=
  hS.2 200 M_X9_critical k_X9_critical _ _ _ mkt_X9_critical (Nat.le_of_ble_eq_true rfl) (fun v hv hw => w_X9_critical_0 hS hv hw   l1 σ (h v hv hw))
def vc_X9_fits_0 (S : Sp) (Φ : Rs) (v : Kt) (l1 : Int32) (σ : St) : Prop := S 174 [aR 49, aI l1, aI (σ.1 49 18)] σ (fun r σ1 => ∃ x2 : Int32, r = [aI x2] ∧ ((¬ (x2 : Int32) = 0 → (S 181 [aR 49, aI ((σ1.1 49 18) ||| (1 <<< (l1 &&& 31)))] σ1 (fun r σ3 => r = [] ∧ (S 184 [aR 49] σ3 (fun r σ4 => ∃ x5 : Int32, r = [aI x5] ∧ (vp_in 283 286 ∧ (((σ4.1 50 (283 : Int32).toNatClampNeg : Int32) < x5 → (Φ [aI 0] σ4)) ∧ (¬ ((σ4.1 50 (283 : Int32).toNatClampNeg : Int32) < x5) → (Φ [aI 1] σ4))))))))) ∧ ((x2 : Int32) = 0 → (Φ [aI 0] σ1))))
theorem w_X9_fits_0 {S : Sp} (hS : Sys S) {Φ : Rs} {v : Kt} (hv : Cl S Φ k_X9_fits v) (hw : Wk v) (l1 : Int32) (σ : St) (h : vc_X9_fits_0 S Φ v l1 σ) : v 0 [some (aR 49), some (aI l1)] [] σ := by
  unfold vc_X9_fits_0 at h
  refine r_aload_n (pc := 0) hv 0 rfl rfl ?_
  refine r_iload_n (pc := 1) hv 1 rfl rfl ?_
  refine r_aload_n (pc := 2) hv 2 rfl rfl ?_
  refine r_getI (pc := 3) hv 3 rfl rfl rfl ?_
  refine r_callV (pc := 6) (l := [aI (σ.1 49 18), aI l1]) (av := [aI l1, aI (σ.1 49 18)]) (a := 49) (t := []) hv 4 rfl rfl rfl rfl (rcv_o (by decide) rfl) trivial (hS.1 _ _ _ _ _ (fun r σ1 h => ?_) h)
  obtain ⟨x2, rfl, h⟩ := h
  show v 9 [some (aR 49), some (aI l1)] [aI x2] σ1
  refine r_if_ne (pc := 9) hv 5 rfl (fun c => ?_) (fun c => ?_)
  · replace h := h.1 c
    refine r_aload_n (pc := 14) hv 8 rfl rfl ?_
    refine r_aload_n (pc := 15) hv 9 rfl rfl ?_
    refine r_getI (pc := 16) hv 10 rfl rfl rfl ?_
    refine r_iconst (pc := 19) hv 11 rfl  ?_
    refine r_iload_n (pc := 20) hv 12 rfl rfl ?_
    refine r_ishl (pc := 21) hv 13 rfl  ?_
    refine r_ior (pc := 22) hv 14 rfl  ?_
    refine r_callV (pc := 23) (l := [aI ((σ1.1 49 18) ||| (1 <<< (l1 &&& 31)))]) (av := [aI ((σ1.1 49 18) ||| (1 <<< (l1 &&& 31)))]) (a := 49) (t := []) hv 15 rfl rfl rfl rfl (rcv_o (by decide) rfl) trivial (hS.1 _ _ _ _ _ (fun r σ3 h => ?_) h)
    obtain ⟨rfl, h⟩ := h
    show v 26 [some (aR 49), some (aI l1)] [] σ3
    refine r_aload_n (pc := 26) hv 16 rfl rfl ?_
    refine r_callV (pc := 27) (l := []) (av := []) (a := 49) (t := []) hv 17 rfl rfl rfl rfl (rcv_o (by decide) rfl) trivial (hS.1 _ _ _ _ _ (fun r σ4 h => ?_) h)
    obtain ⟨x5, rfl, h⟩ := h
    show v 30 [some (aR 49), some (aI l1)] [aI x5] σ4
    refine r_aload_n (pc := 30) hv 18 rfl rfl ?_
    refine r_getR (pc := 31) (b := 50) hv 19 rfl rfl rfl rfl ?_
    refine r_sipush (pc := 34) hv 20 rfl  ?_
    refine r_iaload (pc := 37) (N := 286) hv 21 rfl rfl rfl (by decide) h.1 ?_
    replace h := h.2
    refine r_icmp_gt (pc := 38) hv 22 rfl (fun c => ?_) (fun c => ?_)
    · replace h := h.1 c
      refine r_iconst (pc := 45) hv 25 rfl  ?_
      exact r_zreturn (pc := 46) hv 26 rfl rfl (Or.inl rfl) h
    · replace h := h.2 c
      refine r_iconst (pc := 41) hv 23 rfl  ?_
      refine r_goto (pc := 42) hv 24 rfl  ?_
      exact r_zreturn (pc := 46) hv 26 rfl rfl (Or.inr rfl) h
  · replace h := h.2 c
    refine r_iconst (pc := 12) hv 6 rfl  ?_
    exact r_zreturn (pc := 13) hv 7 rfl rfl (Or.inl rfl) h
theorem m_X9_fits {S : Sp} (hS : Sys S) {l1 : Int32} {σ : St} {Φ : Rs} (h : ∀ v : Kt, Cl S Φ k_X9_fits v → Wk v → vc_X9_fits_0 S Φ v l1 σ) : S 201 [aR 49, aI l1] σ Φ :=
  hS.2 201 M_X9_fits k_X9_fits _ _ _ mkt_X9_fits (Nat.le_of_ble_eq_true rfl) (fun v hv hw => w_X9_fits_0 hS hv hw   l1 σ (h v hv hw))
def vc_X9_plans_2 (S : Sp) (Φ : Rs) (v : Kt) (l1 : Int32) (l2 : Int32) (σ : St) : Prop := ((999 : Int32) < l2 → (Φ [] σ)) ∧ (¬ ((999 : Int32) < l2) → (vp_in l1 20 ∧ (vp_in l1 20 ∧ (∀ σ1 : St, σ1 = upI σ 54 (l1 : Int32).toNatClampNeg ((σ.1 53 (l1 : Int32).toNatClampNeg) + l2) → (S 201 [aR 49, aI l1] σ1 (fun r σ2 => ∃ x3 : Int32, r = [aI x3] ∧ (((x3 : Int32) = 0 → (vp_in 284 286 ∧ (v 2 [some (aR 49), some (aI l1), some (aI (l2 + (σ2.1 50 (284 : Int32).toNatClampNeg)))] [] σ2))) ∧ (¬ ((x3 : Int32) = 0) → (vp_in l1 20 ∧ (∀ σ4 : St, σ4 = upI σ2 58 (l1 : Int32).toNatClampNeg l2 → (∀ σ5 : St, σ5 = upI σ4 49 18 ((σ4.1 49 18) ||| (1 <<< (l1 &&& 31))) → (Φ [] σ5))))))))))))
theorem w_X9_plans_2 {S : Sp} (hS : Sys S) {Φ : Rs} {v : Kt} (hv : Cl S Φ k_X9_plans v) (hw : Wk v) (l1 : Int32) (l2 : Int32) (σ : St) (h : vc_X9_plans_2 S Φ v l1 l2 σ) : v 2 [some (aR 49), some (aI l1), some (aI l2)] [] σ := by
  unfold vc_X9_plans_2 at h
  refine r_iload_n (pc := 2) hv 2 rfl rfl ?_
  refine r_sipush (pc := 3) hv 3 rfl  ?_
  refine r_icmp_gt (pc := 6) hv 4 rfl (fun c => ?_) (fun c => ?_)
  · replace h := h.1 c
    exact r_return (pc := 65) hv 41 rfl h
  · replace h := h.2 c
    refine r_aload_n (pc := 9) hv 5 rfl rfl ?_
    refine r_getR (pc := 10) (b := 54) hv 6 rfl rfl rfl rfl ?_
    refine r_iload_n (pc := 13) hv 7 rfl rfl ?_
    refine r_aload_n (pc := 14) hv 8 rfl rfl ?_
    refine r_getR (pc := 15) (b := 53) hv 9 rfl rfl rfl rfl ?_
    refine r_iload_n (pc := 18) hv 10 rfl rfl ?_
    refine r_iaload (pc := 19) (N := 20) hv 11 rfl rfl rfl (by decide) h.1 ?_
    replace h := h.2
    refine r_iload_n (pc := 20) hv 12 rfl rfl ?_
    refine r_iadd (pc := 21) hv 13 rfl  ?_
    refine r_iastore (pc := 22) (N := 20) hv 14 rfl rfl rfl h.1 ?_
    replace h := h.2
    obtain ⟨σ1, e_σ1⟩ : ∃ y : St, y = upI σ 54 (l1 : Int32).toNatClampNeg ((σ.1 53 (l1 : Int32).toNatClampNeg) + l2) := ⟨_, rfl⟩
    rw [← e_σ1]
    replace h := h σ1 e_σ1
    refine r_aload_n (pc := 23) hv 15 rfl rfl ?_
    refine r_iload_n (pc := 24) hv 16 rfl rfl ?_
    refine r_callV (pc := 25) (l := [aI l1]) (av := [aI l1]) (a := 49) (t := []) hv 17 rfl rfl rfl rfl (rcv_o (by decide) rfl) trivial (hS.1 _ _ _ _ _ (fun r σ2 h => ?_) h)
    obtain ⟨x3, rfl, h⟩ := h
    show v 28 [some (aR 49), some (aI l1), some (aI l2)] [aI x3] σ2
    refine r_if_eq (pc := 28) hv 18 rfl (fun c => ?_) (fun c => ?_)
    · replace h := h.1 c
      refine r_iload_n (pc := 51) hv 33 rfl rfl ?_
      refine r_aload_n (pc := 52) hv 34 rfl rfl ?_
      refine r_getR (pc := 53) (b := 50) hv 35 rfl rfl rfl rfl ?_
      refine r_sipush (pc := 56) hv 36 rfl  ?_
      refine r_iaload (pc := 59) (N := 286) hv 37 rfl rfl rfl (by decide) h.1 ?_
      replace h := h.2
      refine r_iadd (pc := 60) hv 38 rfl  ?_
      refine r_istore_n (pc := 61) (lo' := [some (aR 49), some (aI l1), some (aI (l2 + (σ2.1 50 (284 : Int32).toNatClampNeg)))]) hv 39 rfl rfl ?_
      refine r_goto (pc := 62) hv 40 rfl  ?_
      exact h
    · replace h := h.2 c
      refine r_aload_n (pc := 31) hv 19 rfl rfl ?_
      refine r_getR (pc := 32) (b := 58) hv 20 rfl rfl rfl rfl ?_
      refine r_iload_n (pc := 35) hv 21 rfl rfl ?_
      refine r_iload_n (pc := 36) hv 22 rfl rfl ?_
      refine r_iastore (pc := 37) (N := 20) hv 23 rfl rfl rfl h.1 ?_
      replace h := h.2
      obtain ⟨σ4, e_σ4⟩ : ∃ y : St, y = upI σ2 58 (l1 : Int32).toNatClampNeg l2 := ⟨_, rfl⟩
      rw [← e_σ4]
      replace h := h σ4 e_σ4
      refine r_aload_n (pc := 38) hv 24 rfl rfl ?_
      refine r_dup (pc := 39) hv 25 rfl trivial ?_
      refine r_getI (pc := 40) hv 26 rfl rfl rfl ?_
      refine r_iconst (pc := 43) hv 27 rfl  ?_
      refine r_iload_n (pc := 44) hv 28 rfl rfl ?_
      refine r_ishl (pc := 45) hv 29 rfl  ?_
      refine r_ior (pc := 46) hv 30 rfl  ?_
      refine r_putI (pc := 47) hv 31 rfl rfl rfl ?_
      obtain ⟨σ5, e_σ5⟩ : ∃ y : St, y = upI σ4 49 18 ((σ4.1 49 18) ||| (1 <<< (l1 &&& 31))) := ⟨_, rfl⟩
      rw [← e_σ5]
      replace h := h σ5 e_σ5
      exact r_return (pc := 50) hv 32 rfl h
def vc_X9_plans_0 (S : Sp) (Φ : Rs) (v : Kt) (l1 : Int32) (σ : St) : Prop := v 2 [some (aR 49), some (aI l1), some (aI 0)] [] σ
theorem w_X9_plans_0 {S : Sp} (hS : Sys S) {Φ : Rs} {v : Kt} (hv : Cl S Φ k_X9_plans v) (hw : Wk v) (l1 : Int32) (σ : St) (h : vc_X9_plans_0 S Φ v l1 σ) : v 0 [some (aR 49), some (aI l1), none] [] σ := by
  unfold vc_X9_plans_0 at h
  refine r_iconst (pc := 0) hv 0 rfl  ?_
  refine r_istore_n (pc := 1) (lo' := [some (aR 49), some (aI l1), some (aI 0)]) hv 1 rfl rfl ?_
  exact h
theorem m_X9_plans {S : Sp} (hS : Sys S) {l1 : Int32} {σ : St} {Φ : Rs} (h : ∀ v : Kt, Cl S Φ k_X9_plans v → Wk v → vc_X9_plans_0 S Φ v l1 σ) : S 202 [aR 49, aI l1] σ Φ :=
  hS.2 202 M_X9_plans k_X9_plans _ _ _ mkt_X9_plans (Nat.le_of_ble_eq_true rfl) (fun v hv hw => w_X9_plans_0 hS hv hw   l1 σ (h v hv hw))
