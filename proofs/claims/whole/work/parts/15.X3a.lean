def vc_X3_draw_41 (S : Sp) (Φ : Rs) (v : Kt) (l1 : Int32) (l2 : Int32) (σ : St) : Prop := vp_in 1 7 ∧ (((sv 102 (1 : Int32).toNatClampNeg : Int32) < l2 → (v 30 [some (aR 27), some (aI (l1 + 1)), none, none] [] σ)) ∧ (¬ ((sv 102 (1 : Int32).toNatClampNeg : Int32) < l2) → (S 37 [aR 1, aI l1, aI l2] σ (fun r σ1 => ∃ x2 : Int32, r = [aI x2] ∧ (((x2 : Int32) = (-1) → (v 41 [some (aR 27), some (aI l1), some (aI (l2 + 1)), none] [] σ1)) ∧ (¬ ((x2 : Int32) = (-1)) → (((b2 (¬ (x2 : Int32) < 0 ∧ ¬ 20 ≤ (x2 : Int32) ∧ ¬ ((σ1.1 13 4 : Int32) >>> (x2 &&& 31)) &&& 1 = 0) : Int32) = 0 → (v 41 [some (aR 27), some (aI l1), some (aI (l2 + 1)), none] [] σ1)) ∧ (¬ ((b2 (¬ (x2 : Int32) < 0 ∧ ¬ 20 ≤ (x2 : Int32) ∧ ¬ ((σ1.1 13 4 : Int32) >>> (x2 &&& 31)) &&& 1 = 0) : Int32) = 0) → (S 49 [aR 27, aI x2] σ1 (fun r σ3 => r = [] ∧ (v 41 [some (aR 27), some (aI l1), some (aI (l2 + 1)), none] [] σ3)))))))))))
theorem w_X3_draw_41 {S : Sp} (hS : Sys S) {Φ : Rs} {v : Kt} (hv : Cl S Φ k_X3_draw v) (hw : Wk v) (l1 : Int32) (l2 : Int32) (σ : St) (h : vc_X3_draw_41 S Φ v l1 l2 σ) : v 41 [some (aR 27), some (aI l1), some (aI l2), none] [] σ := by
  unfold vc_X3_draw_41 at h
  refine r_iload_n (pc := 41) hv 23 rfl rfl ?_
  refine r_gets (pc := 42) hv 24 rfl  ?_
  refine r_iconst (pc := 45) hv 25 rfl  ?_
  refine r_ialoadS (pc := 46) (N := 7) hv 26 rfl rfl rfl (by decide) h.1 ?_
  replace h := h.2
  refine r_icmp_gt (pc := 47) hv 27 rfl (fun c => ?_) (fun c => ?_)
  · replace h := h.1 c
    refine r_iinc (pc := 87) (lo' := [some (aR 27), some (aI (l1 + 1)), some (aI l2), none]) hv 47 rfl rfl rfl ?_
    refine r_goto (pc := 90) hv 48 rfl  ?_
    exact hw 30 [some (aR 27), some (aI (l1 + 1)), none, none] _ _ _ ⟨rfl, ⟨rfl, trivial⟩⟩ h
  · replace h := h.2 c
    refine r_aload_n (pc := 50) hv 28 rfl rfl ?_
    refine r_getR (pc := 51) (b := 1) hv 29 rfl rfl rfl rfl ?_
    refine r_iload_n (pc := 54) hv 30 rfl rfl ?_
    refine r_iload_n (pc := 55) hv 31 rfl rfl ?_
    refine r_callV (pc := 56) (l := [aI l2, aI l1]) (av := [aI l1, aI l2]) (a := 1) (t := []) hv 32 rfl rfl rfl rfl (rcv_o (by decide) rfl) trivial (hS.1 _ _ _ _ _ (fun r σ1 h => ?_) h)
    obtain ⟨x2, rfl, h⟩ := h
    show v 59 [some (aR 27), some (aI l1), some (aI l2), none] [aI x2] σ1
    refine r_istore_n (pc := 59) (lo' := [some (aR 27), some (aI l1), some (aI l2), some (aI x2)]) hv 33 rfl rfl ?_
    refine r_iload_n (pc := 60) hv 34 rfl rfl ?_
    refine r_iconst (pc := 61) hv 35 rfl  ?_
    refine r_icmp_eq (pc := 62) hv 36 rfl (fun c => ?_) (fun c => ?_)
    · replace h := h.1 c
      refine r_iinc (pc := 81) (lo' := [some (aR 27), some (aI l1), some (aI (l2 + 1)), some (aI x2)]) hv 45 rfl rfl rfl ?_
      refine r_goto (pc := 84) hv 46 rfl  ?_
      exact hw 41 [some (aR 27), some (aI l1), some (aI (l2 + 1)), none] _ _ _ ⟨rfl, ⟨rfl, ⟨rfl, trivial⟩⟩⟩ h
    · replace h := h.2 c
      refine r_aload_n (pc := 65) hv 37 rfl rfl ?_
      refine r_getR (pc := 66) (b := 13) hv 38 rfl rfl rfl rfl ?_
      refine r_iload_n (pc := 69) hv 39 rfl rfl ?_
      refine r_callV (pc := 70) (l := [aI x2]) (av := [aI x2]) (a := 13) (t := []) hv 40 rfl rfl rfl rfl (rcv_o (by decide) rfl) trivial (t_X0_doesFire hS isBl_13 ?_)
      show v 73 [some (aR 27), some (aI l1), some (aI l2), some (aI x2)] [aI (b2 (¬ (x2 : Int32) < 0 ∧ ¬ 20 ≤ (x2 : Int32) ∧ ¬ ((σ1.1 13 4 : Int32) >>> (x2 &&& 31)) &&& 1 = 0))] σ1
      refine r_if_eq (pc := 73) hv 41 rfl (fun c => ?_) (fun c => ?_)
      · replace h := h.1 c
        refine r_iinc (pc := 81) (lo' := [some (aR 27), some (aI l1), some (aI (l2 + 1)), some (aI x2)]) hv 45 rfl rfl rfl ?_
        refine r_goto (pc := 84) hv 46 rfl  ?_
        exact hw 41 [some (aR 27), some (aI l1), some (aI (l2 + 1)), none] _ _ _ ⟨rfl, ⟨rfl, ⟨rfl, trivial⟩⟩⟩ h
      · replace h := h.2 c
        refine r_aload_n (pc := 76) hv 42 rfl rfl ?_
        refine r_iload_n (pc := 77) hv 43 rfl rfl ?_
        refine r_callV (pc := 78) (l := [aI x2]) (av := [aI x2]) (a := 27) (t := []) hv 44 rfl rfl rfl rfl (rcv_o (by decide) rfl) trivial (hS.1 _ _ _ _ _ (fun r σ3 h => ?_) h)
        obtain ⟨rfl, h⟩ := h
        show v 81 [some (aR 27), some (aI l1), some (aI l2), some (aI x2)] [] σ3
        refine r_iinc (pc := 81) (lo' := [some (aR 27), some (aI l1), some (aI (l2 + 1)), some (aI x2)]) hv 45 rfl rfl rfl ?_
        refine r_goto (pc := 84) hv 46 rfl  ?_
        exact hw 41 [some (aR 27), some (aI l1), some (aI (l2 + 1)), none] _ _ _ ⟨rfl, ⟨rfl, ⟨rfl, trivial⟩⟩⟩ h
def vc_X3_draw_30 (S : Sp) (Φ : Rs) (v : Kt) (l1 : Int32) (σ : St) : Prop := vp_in 0 7 ∧ (((sv 102 (0 : Int32).toNatClampNeg : Int32) < l1 → (vp_in 0 3 ∧ (vp_in 1 3 ∧ (S 86 [aR 30, aI (σ.1 4 (0 : Int32).toNatClampNeg), aI (σ.1 4 (1 : Int32).toNatClampNeg)] σ (fun r σ1 => r = [] ∧ (Φ [] σ1)))))) ∧ (¬ ((sv 102 (0 : Int32).toNatClampNeg : Int32) < l1) → (v 41 [some (aR 27), some (aI l1), some (aI 0), none] [] σ)))
theorem w_X3_draw_30 {S : Sp} (hS : Sys S) {Φ : Rs} {v : Kt} (hv : Cl S Φ k_X3_draw v) (hw : Wk v) (l1 : Int32) (σ : St) (h : vc_X3_draw_30 S Φ v l1 σ) : v 30 [some (aR 27), some (aI l1), none, none] [] σ := by
  unfold vc_X3_draw_30 at h
  refine r_iload_n (pc := 30) hv 16 rfl rfl ?_
  refine r_gets (pc := 31) hv 17 rfl  ?_
  refine r_iconst (pc := 34) hv 18 rfl  ?_
  refine r_ialoadS (pc := 35) (N := 7) hv 19 rfl rfl rfl (by decide) h.1 ?_
  replace h := h.2
  refine r_icmp_gt (pc := 36) hv 20 rfl (fun c => ?_) (fun c => ?_)
  · replace h := h.1 c
    refine r_aload_n (pc := 93) hv 49 rfl rfl ?_
    refine r_getR (pc := 94) (b := 30) hv 50 rfl rfl rfl rfl ?_
    refine r_aload_n (pc := 97) hv 51 rfl rfl ?_
    refine r_getR (pc := 98) (b := 1) hv 52 rfl rfl rfl rfl ?_
    refine r_getR (pc := 101) (b := 4) hv 53 rfl rfl rfl rfl ?_
    refine r_iconst (pc := 104) hv 54 rfl  ?_
    refine r_iaload (pc := 105) (N := 3) hv 55 rfl rfl rfl (by decide) h.1 ?_
    replace h := h.2
    refine r_aload_n (pc := 106) hv 56 rfl rfl ?_
    refine r_getR (pc := 107) (b := 1) hv 57 rfl rfl rfl rfl ?_
    refine r_getR (pc := 110) (b := 4) hv 58 rfl rfl rfl rfl ?_
    refine r_iconst (pc := 113) hv 59 rfl  ?_
    refine r_iaload (pc := 114) (N := 3) hv 60 rfl rfl rfl (by decide) h.1 ?_
    replace h := h.2
    refine r_callV (pc := 115) (l := [aI (σ.1 4 (1 : Int32).toNatClampNeg), aI (σ.1 4 (0 : Int32).toNatClampNeg)]) (av := [aI (σ.1 4 (0 : Int32).toNatClampNeg), aI (σ.1 4 (1 : Int32).toNatClampNeg)]) (a := 30) (t := []) hv 61 rfl rfl rfl rfl (rcv_o (by decide) rfl) trivial (hS.1 _ _ _ _ _ (fun r σ1 h => ?_) h)
    obtain ⟨rfl, h⟩ := h
    show v 118 [some (aR 27), some (aI l1), none, none] [] σ1
    exact r_return (pc := 118) hv 62 rfl h
  · replace h := h.2 c
    refine r_iconst (pc := 39) hv 21 rfl  ?_
    refine r_istore_n (pc := 40) (lo' := [some (aR 27), some (aI l1), some (aI 0), none]) hv 22 rfl rfl ?_
    exact h
def vc_X3_draw_0 (S : Sp) (Φ : Rs) (v : Kt) (σ : St) : Prop := S 241 [aR 28, aI (-1)] σ (fun r σ1 => r = [] ∧ (S 241 [aR 29, aI (-1)] σ1 (fun r σ2 => r = [] ∧ (∀ σ3 : St, σ3 = upI σ2 27 5 0 → (S 82 [aR 30] σ3 (fun r σ4 => r = [] ∧ (v 30 [some (aR 27), some (aI 0), none, none] [] σ4)))))))
theorem w_X3_draw_0 {S : Sp} (hS : Sys S) {Φ : Rs} {v : Kt} (hv : Cl S Φ k_X3_draw v) (hw : Wk v) (σ : St) (h : vc_X3_draw_0 S Φ v  σ) : v 0 [some (aR 27), none, none, none] [] σ := by
  unfold vc_X3_draw_0 at h
  refine r_aload_n (pc := 0) hv 0 rfl rfl ?_
  refine r_getR (pc := 1) (b := 28) hv 1 rfl rfl rfl rfl ?_
  refine r_iconst (pc := 4) hv 2 rfl  ?_
  refine r_callS (pc := 5) (l := [aI (-1), aR 28]) (av := [aR 28, aI (-1)]) (t := []) hv 3 rfl (Or.inl rfl) rfl rfl rfl trivial (hS.1 _ _ _ _ _ (fun r σ1 h => ?_) h)
  obtain ⟨rfl, h⟩ := h
  show v 8 [some (aR 27), none, none, none] [] σ1
  refine r_aload_n (pc := 8) hv 4 rfl rfl ?_
  refine r_getR (pc := 9) (b := 29) hv 5 rfl rfl rfl rfl ?_
  refine r_iconst (pc := 12) hv 6 rfl  ?_
  refine r_callS (pc := 13) (l := [aI (-1), aR 29]) (av := [aR 29, aI (-1)]) (t := []) hv 7 rfl (Or.inl rfl) rfl rfl rfl trivial (hS.1 _ _ _ _ _ (fun r σ2 h => ?_) h)
  obtain ⟨rfl, h⟩ := h
  show v 16 [some (aR 27), none, none, none] [] σ2
  refine r_aload_n (pc := 16) hv 8 rfl rfl ?_
  refine r_iconst (pc := 17) hv 9 rfl  ?_
  refine r_putI (pc := 18) hv 10 rfl rfl rfl ?_
  obtain ⟨σ3, e_σ3⟩ : ∃ y : St, y = upI σ2 27 5 0 := ⟨_, rfl⟩
  rw [← e_σ3]
  replace h := h σ3 e_σ3
  refine r_aload_n (pc := 21) hv 11 rfl rfl ?_
  refine r_getR (pc := 22) (b := 30) hv 12 rfl rfl rfl rfl ?_
  refine r_callV (pc := 25) (l := []) (av := []) (a := 30) (t := []) hv 13 rfl rfl rfl rfl (rcv_o (by decide) rfl) trivial (hS.1 _ _ _ _ _ (fun r σ4 h => ?_) h)
  obtain ⟨rfl, h⟩ := h
  show v 28 [some (aR 27), none, none, none] [] σ4
  refine r_iconst (pc := 28) hv 14 rfl  ?_
  refine r_istore_n (pc := 29) (lo' := [some (aR 27), some (aI 0), none, none]) hv 15 rfl rfl ?_
  exact h
theorem m_X3_draw {S : Sp} (hS : Sys S) {σ : St} {Φ : Rs} (h : ∀ v : Kt, Cl S Φ k_X3_draw v → Wk v → vc_X3_draw_0 S Φ v  σ) : S 48 [aR 27] σ Φ :=
  hS.2 48 M_X3_draw k_X3_draw _ _ _ mkt_X3_draw (Nat.le_of_ble_eq_true rfl) (fun v hv hw => w_X3_draw_0 hS hv hw    σ (h v hv hw))
def vc_X3_settle_64 (S : Sp) (Φ : Rs) (v : Kt) (l1 : Int32) (l2 : Int32) (l3 : Int32) (l4 : Int32) (σ : St) : Prop := ((999 : Int32) < l4 → (Φ [] σ)) ∧ (¬ ((999 : Int32) < l4) → (vp_in l1 20 ∧ ((((σ.1 14 (l1 : Int32).toNatClampNeg) + l4 : Int32) < l2 → (v 64 [some (aR 27), some (aI l1), some (aI l2), some (aI l3), some (aI (l4 + l3)), none] [] σ)) ∧ (¬ (((σ.1 14 (l1 : Int32).toNatClampNeg) + l4 : Int32) < l2) → (S 50 [aR 27, aI ((σ.1 14 (l1 : Int32).toNatClampNeg) + l4)] σ (fun r σ1 => ∃ x2 : Int32, r = [aI x2] ∧ (((x2 : Int32) = 0 → (v 64 [some (aR 27), some (aI l1), some (aI l2), some (aI l3), some (aI (l4 + l3)), none] [] σ1)) ∧ (¬ ((x2 : Int32) = 0) → (vp_in l1 20 ∧ (∀ σ3 : St, σ3 = upI σ1 28 (l1 : Int32).toNatClampNeg l4 → (vp_in l1 20 ∧ (∀ σ4 : St, σ4 = upI σ3 29 (l1 : Int32).toNatClampNeg ((σ.1 14 (l1 : Int32).toNatClampNeg) + l4) → (∀ σ5 : St, σ5 = upI σ4 27 5 ((σ4.1 27 5) ||| (bitO l1)) → (S 83 [aR 30, aR 1, aI l1, aI ((σ.1 14 (l1 : Int32).toNatClampNeg) + l4)] σ5 (fun r σ6 => r = [] ∧ (Φ [] σ6))))))))))))))))
theorem w_X3_settle_64 {S : Sp} (hS : Sys S) {Φ : Rs} {v : Kt} (hv : Cl S Φ k_X3_settle v) (hw : Wk v) (l1 : Int32) (l2 : Int32) (l3 : Int32) (l4 : Int32) (σ : St) (h : vc_X3_settle_64 S Φ v l1 l2 l3 l4 σ) : v 64 [some (aR 27), some (aI l1), some (aI l2), some (aI l3), some (aI l4), none] [] σ := by
  unfold vc_X3_settle_64 at h
  refine r_iload (pc := 64) hv 35 rfl rfl ?_
  refine r_sipush (pc := 66) hv 36 rfl  ?_
  refine r_icmp_gt (pc := 69) hv 37 rfl (fun c => ?_) (fun c => ?_)
  · replace h := h.1 c
    exact r_return (pc := 154) hv 83 rfl h
  · replace h := h.2 c
    refine r_aload_n (pc := 72) hv 38 rfl rfl ?_
    refine r_getR (pc := 73) (b := 13) hv 39 rfl rfl rfl rfl ?_
    refine r_getR (pc := 76) (b := 14) hv 40 rfl rfl rfl rfl ?_
    refine r_iload_n (pc := 79) hv 41 rfl rfl ?_
    refine r_iaload (pc := 80) (N := 20) hv 42 rfl rfl rfl (by decide) h.1 ?_
    replace h := h.2
    refine r_iload (pc := 81) hv 43 rfl rfl ?_
    refine r_iadd (pc := 83) hv 44 rfl  ?_
    refine r_istore (pc := 84) (lo' := [some (aR 27), some (aI l1), some (aI l2), some (aI l3), some (aI l4), some (aI ((σ.1 14 (l1 : Int32).toNatClampNeg) + l4))]) hv 45 rfl rfl ?_
    refine r_iload (pc := 86) hv 46 rfl rfl ?_
    refine r_iload_n (pc := 88) hv 47 rfl rfl ?_
    refine r_icmp_lt (pc := 89) hv 48 rfl (fun c => ?_) (fun c => ?_)
    · replace h := h.1 c
      refine r_iload (pc := 145) hv 78 rfl rfl ?_
      refine r_iload_n (pc := 147) hv 79 rfl rfl ?_
      refine r_iadd (pc := 148) hv 80 rfl  ?_
      refine r_istore (pc := 149) (lo' := [some (aR 27), some (aI l1), some (aI l2), some (aI l3), some (aI (l4 + l3)), some (aI ((σ.1 14 (l1 : Int32).toNatClampNeg) + l4))]) hv 81 rfl rfl ?_
      refine r_goto (pc := 151) hv 82 rfl  ?_
      exact hw 64 [some (aR 27), some (aI l1), some (aI l2), some (aI l3), some (aI (l4 + l3)), none] _ _ _ ⟨rfl, ⟨rfl, ⟨rfl, ⟨rfl, ⟨rfl, trivial⟩⟩⟩⟩⟩ h
    · replace h := h.2 c
      refine r_aload_n (pc := 92) hv 49 rfl rfl ?_
      refine r_iload (pc := 93) hv 50 rfl rfl ?_
      refine r_callV (pc := 95) (l := [aI ((σ.1 14 (l1 : Int32).toNatClampNeg) + l4)]) (av := [aI ((σ.1 14 (l1 : Int32).toNatClampNeg) + l4)]) (a := 27) (t := []) hv 51 rfl rfl rfl rfl (rcv_o (by decide) rfl) trivial (hS.1 _ _ _ _ _ (fun r σ1 h => ?_) h)
      obtain ⟨x2, rfl, h⟩ := h
      show v 98 [some (aR 27), some (aI l1), some (aI l2), some (aI l3), some (aI l4), some (aI ((σ.1 14 (l1 : Int32).toNatClampNeg) + l4))] [aI x2] σ1
      refine r_if_eq (pc := 98) hv 52 rfl (fun c => ?_) (fun c => ?_)
      · replace h := h.1 c
        refine r_iload (pc := 145) hv 78 rfl rfl ?_
        refine r_iload_n (pc := 147) hv 79 rfl rfl ?_
        refine r_iadd (pc := 148) hv 80 rfl  ?_
        refine r_istore (pc := 149) (lo' := [some (aR 27), some (aI l1), some (aI l2), some (aI l3), some (aI (l4 + l3)), some (aI ((σ.1 14 (l1 : Int32).toNatClampNeg) + l4))]) hv 81 rfl rfl ?_
        refine r_goto (pc := 151) hv 82 rfl  ?_
        exact hw 64 [some (aR 27), some (aI l1), some (aI l2), some (aI l3), some (aI (l4 + l3)), none] _ _ _ ⟨rfl, ⟨rfl, ⟨rfl, ⟨rfl, ⟨rfl, trivial⟩⟩⟩⟩⟩ h
      · replace h := h.2 c
        refine r_aload_n (pc := 101) hv 53 rfl rfl ?_
        refine r_getR (pc := 102) (b := 28) hv 54 rfl rfl rfl rfl ?_
        refine r_iload_n (pc := 105) hv 55 rfl rfl ?_
        refine r_iload (pc := 106) hv 56 rfl rfl ?_
        refine r_iastore (pc := 108) (N := 20) hv 57 rfl rfl rfl h.1 ?_
        replace h := h.2
        obtain ⟨σ3, e_σ3⟩ : ∃ y : St, y = upI σ1 28 (l1 : Int32).toNatClampNeg l4 := ⟨_, rfl⟩
        rw [← e_σ3]
        replace h := h σ3 e_σ3
        refine r_aload_n (pc := 109) hv 58 rfl rfl ?_
        refine r_getR (pc := 110) (b := 29) hv 59 rfl rfl rfl rfl ?_
        refine r_iload_n (pc := 113) hv 60 rfl rfl ?_
        refine r_iload (pc := 114) hv 61 rfl rfl ?_
        refine r_iastore (pc := 116) (N := 20) hv 62 rfl rfl rfl h.1 ?_
        replace h := h.2
        obtain ⟨σ4, e_σ4⟩ : ∃ y : St, y = upI σ3 29 (l1 : Int32).toNatClampNeg ((σ.1 14 (l1 : Int32).toNatClampNeg) + l4) := ⟨_, rfl⟩
        rw [← e_σ4]
        replace h := h σ4 e_σ4
        refine r_aload_n (pc := 117) hv 63 rfl rfl ?_
        refine r_dup (pc := 118) hv 64 rfl trivial ?_
        refine r_getI (pc := 119) hv 65 rfl rfl rfl ?_
        refine r_iload_n (pc := 122) hv 66 rfl rfl ?_
        refine r_callS (pc := 123) (l := [aI l1]) (av := [aI l1]) (t := [aI (σ4.1 27 5), aR 27]) hv 67 rfl (Or.inr rfl) rfl rfl rfl trivial (t_X8_bitOf hS ?_)
        show v 126 [some (aR 27), some (aI l1), some (aI l2), some (aI l3), some (aI l4), some (aI ((σ.1 14 (l1 : Int32).toNatClampNeg) + l4))] [aI (bitO l1), aI (σ4.1 27 5), aR 27] σ4
        refine r_ior (pc := 126) hv 68 rfl  ?_
        refine r_putI (pc := 127) hv 69 rfl rfl rfl ?_
        obtain ⟨σ5, e_σ5⟩ : ∃ y : St, y = upI σ4 27 5 ((σ4.1 27 5) ||| (bitO l1)) := ⟨_, rfl⟩
        rw [← e_σ5]
        replace h := h σ5 e_σ5
        refine r_aload_n (pc := 130) hv 70 rfl rfl ?_
        refine r_getR (pc := 131) (b := 30) hv 71 rfl rfl rfl rfl ?_
        refine r_aload_n (pc := 134) hv 72 rfl rfl ?_
        refine r_getR (pc := 135) (b := 1) hv 73 rfl rfl rfl rfl ?_
        refine r_iload_n (pc := 138) hv 74 rfl rfl ?_
        refine r_iload (pc := 139) hv 75 rfl rfl ?_
        refine r_callV (pc := 141) (l := [aI ((σ.1 14 (l1 : Int32).toNatClampNeg) + l4), aI l1, aR 1]) (av := [aR 1, aI l1, aI ((σ.1 14 (l1 : Int32).toNatClampNeg) + l4)]) (a := 30) (t := []) hv 76 rfl rfl rfl rfl (rcv_o (by decide) rfl) trivial (hS.1 _ _ _ _ _ (fun r σ6 h => ?_) h)
        obtain ⟨rfl, h⟩ := h
        show v 144 [some (aR 27), some (aI l1), some (aI l2), some (aI l3), some (aI l4), some (aI ((σ.1 14 (l1 : Int32).toNatClampNeg) + l4))] [] σ6
        exact r_return (pc := 144) hv 77 rfl h
def vc_X3_settle_0 (S : Sp) (Φ : Rs) (v : Kt) (l1 : Int32) (σ : St) : Prop := S 47 [aR 1, aI l1, aI (σ.1 27 5), aR 29] σ (fun r σ1 => ∃ x2 : Int32, r = [aI x2] ∧ ((¬ (x2 : Int32) = (-1) → (S 41 [aR 1, aI l1] σ1 (fun r σ3 => ∃ x4 : Int32, r = [aI x4] ∧ (∀ σ5 : St, σ5 = upI σ3 27 6 x4 → (S 42 [aR 1, aI l1] σ5 (fun r σ6 => ∃ x7 : Int32, r = [aI x7] ∧ (∀ σ8 : St, σ8 = upI σ6 27 7 x7 → (vp_in 2 3 ∧ (v 64 [some (aR 27), some (aI l1), some (aI x2), some (aI (if (σ8.1 4 (2 : Int32).toNatClampNeg : Int32) < 1 then 1 else (σ8.1 4 (2 : Int32).toNatClampNeg))), some (aI 0), none] [] σ8))))))))) ∧ ((x2 : Int32) = (-1) → (Φ [] σ1))))
theorem w_X3_settle_0 {S : Sp} (hS : Sys S) {Φ : Rs} {v : Kt} (hv : Cl S Φ k_X3_settle v) (hw : Wk v) (l1 : Int32) (σ : St) (h : vc_X3_settle_0 S Φ v l1 σ) : v 0 [some (aR 27), some (aI l1), none, none, none, none] [] σ := by
  unfold vc_X3_settle_0 at h
  refine r_aload_n (pc := 0) hv 0 rfl rfl ?_
  refine r_getR (pc := 1) (b := 1) hv 1 rfl rfl rfl rfl ?_
  refine r_iload_n (pc := 4) hv 2 rfl rfl ?_
  refine r_aload_n (pc := 5) hv 3 rfl rfl ?_
  refine r_getI (pc := 6) hv 4 rfl rfl rfl ?_
  refine r_aload_n (pc := 9) hv 5 rfl rfl ?_
  refine r_getR (pc := 10) (b := 29) hv 6 rfl rfl rfl rfl ?_
  refine r_callV (pc := 13) (l := [aR 29, aI (σ.1 27 5), aI l1]) (av := [aI l1, aI (σ.1 27 5), aR 29]) (a := 1) (t := []) hv 7 rfl rfl rfl rfl (rcv_o (by decide) rfl) trivial (hS.1 _ _ _ _ _ (fun r σ1 h => ?_) h)
  obtain ⟨x2, rfl, h⟩ := h
  show v 16 [some (aR 27), some (aI l1), none, none, none, none] [aI x2] σ1
  refine r_istore_n (pc := 16) (lo' := [some (aR 27), some (aI l1), some (aI x2), none, none, none]) hv 8 rfl rfl ?_
  refine r_iload_n (pc := 17) hv 9 rfl rfl ?_
  refine r_iconst (pc := 18) hv 10 rfl  ?_
  refine r_icmp_ne (pc := 19) hv 11 rfl (fun c => ?_) (fun c => ?_)
  · replace h := h.1 c
    refine r_aload_n (pc := 23) hv 13 rfl rfl ?_
    refine r_aload_n (pc := 24) hv 14 rfl rfl ?_
    refine r_getR (pc := 25) (b := 1) hv 15 rfl rfl rfl rfl ?_
    refine r_iload_n (pc := 28) hv 16 rfl rfl ?_
    refine r_callV (pc := 29) (l := [aI l1]) (av := [aI l1]) (a := 1) (t := [aR 27]) hv 17 rfl rfl rfl rfl (rcv_o (by decide) rfl) trivial (hS.1 _ _ _ _ _ (fun r σ3 h => ?_) h)
    obtain ⟨x4, rfl, h⟩ := h
    show v 32 [some (aR 27), some (aI l1), some (aI x2), none, none, none] [aI x4, aR 27] σ3
    refine r_putI (pc := 32) hv 18 rfl rfl rfl ?_
    obtain ⟨σ5, e_σ5⟩ : ∃ y : St, y = upI σ3 27 6 x4 := ⟨_, rfl⟩
    rw [← e_σ5]
    replace h := h σ5 e_σ5
    refine r_aload_n (pc := 35) hv 19 rfl rfl ?_
    refine r_aload_n (pc := 36) hv 20 rfl rfl ?_
    refine r_getR (pc := 37) (b := 1) hv 21 rfl rfl rfl rfl ?_
    refine r_iload_n (pc := 40) hv 22 rfl rfl ?_
    refine r_callV (pc := 41) (l := [aI l1]) (av := [aI l1]) (a := 1) (t := [aR 27]) hv 23 rfl rfl rfl rfl (rcv_o (by decide) rfl) trivial (hS.1 _ _ _ _ _ (fun r σ6 h => ?_) h)
    obtain ⟨x7, rfl, h⟩ := h
    show v 44 [some (aR 27), some (aI l1), some (aI x2), none, none, none] [aI x7, aR 27] σ6
    refine r_putI (pc := 44) hv 24 rfl rfl rfl ?_
    obtain ⟨σ8, e_σ8⟩ : ∃ y : St, y = upI σ6 27 7 x7 := ⟨_, rfl⟩
    rw [← e_σ8]
    replace h := h σ8 e_σ8
    refine r_aload_n (pc := 47) hv 25 rfl rfl ?_
    refine r_getR (pc := 48) (b := 1) hv 26 rfl rfl rfl rfl ?_
    refine r_getR (pc := 51) (b := 4) hv 27 rfl rfl rfl rfl ?_
    refine r_iconst (pc := 54) hv 28 rfl  ?_
    refine r_iaload (pc := 55) (N := 3) hv 29 rfl rfl rfl (by decide) h.1 ?_
    replace h := h.2
    refine r_iconst (pc := 56) hv 30 rfl  ?_
    refine r_max (pc := 57) hv 31 rfl rfl trivial ?_
    refine r_istore_n (pc := 60) (lo' := [some (aR 27), some (aI l1), some (aI x2), some (aI (if (σ8.1 4 (2 : Int32).toNatClampNeg : Int32) < 1 then 1 else (σ8.1 4 (2 : Int32).toNatClampNeg))), none, none]) hv 32 rfl rfl ?_
    refine r_iconst (pc := 61) hv 33 rfl  ?_
    refine r_istore (pc := 62) (lo' := [some (aR 27), some (aI l1), some (aI x2), some (aI (if (σ8.1 4 (2 : Int32).toNatClampNeg : Int32) < 1 then 1 else (σ8.1 4 (2 : Int32).toNatClampNeg))), some (aI 0), none]) hv 34 rfl rfl ?_
    exact h
  · replace h := h.2 c
    exact r_return (pc := 22) hv 12 rfl h
theorem m_X3_settle {S : Sp} (hS : Sys S) {l1 : Int32} {σ : St} {Φ : Rs} (h : ∀ v : Kt, Cl S Φ k_X3_settle v → Wk v → vc_X3_settle_0 S Φ v l1 σ) : S 49 [aR 27, aI l1] σ Φ :=
  hS.2 49 M_X3_settle k_X3_settle _ _ _ mkt_X3_settle (Nat.le_of_ble_eq_true rfl) (fun v hv hw => w_X3_settle_0 hS hv hw   l1 σ (h v hv hw))
def vc_X3_isQuiet_49 (S : Sp) (Φ : Rs) (v : Kt) (l1 : Int32) (l2 : Int32) (l3 : Int32) (l4 : Int32) (σ : St) : Prop := ((σ.1 30 3 : Int32) ≤ l4 → (Φ [aI 1] σ)) ∧ (¬ ((σ.1 30 3 : Int32) ≤ l4) → (vp_in l4 40 ∧ (((l3 : Int32) < (σ.1 31 (l4 : Int32).toNatClampNeg) → (Φ [aI 1] σ)) ∧ (¬ ((l3 : Int32) < (σ.1 31 (l4 : Int32).toNatClampNeg)) → (vp_in l4 40 ∧ (vp_in 0 3 ∧ (((σ.1 31 (l4 : Int32).toNatClampNeg : Int32) ≤ (l1 - (σ.1 4 (0 : Int32).toNatClampNeg)) → (v 49 [some (aR 27), some (aI l1), some (aI l2), some (aI l3), some (aI (l4 + 1)), none] [] σ)) ∧ (¬ ((σ.1 31 (l4 : Int32).toNatClampNeg : Int32) ≤ (l1 - (σ.1 4 (0 : Int32).toNatClampNeg))) → (S 51 [aR 27, aI l1, aI (σ.1 31 (l4 : Int32).toNatClampNeg)] σ (fun r σ1 => ∃ x2 : Int32, r = [aI x2] ∧ (((x2 : Int32) ≤ l2 → (v 49 [some (aR 27), some (aI l1), some (aI l2), some (aI l3), some (aI (l4 + 1)), none] [] σ1)) ∧ (¬ ((x2 : Int32) ≤ l2) → (Φ [aI 0] σ1)))))))))))))
theorem w_X3_isQuiet_49 {S : Sp} (hS : Sys S) {Φ : Rs} {v : Kt} (hv : Cl S Φ k_X3_isQuiet v) (hw : Wk v) (l1 : Int32) (l2 : Int32) (l3 : Int32) (l4 : Int32) (σ : St) (h : vc_X3_isQuiet_49 S Φ v l1 l2 l3 l4 σ) : v 49 [some (aR 27), some (aI l1), some (aI l2), some (aI l3), some (aI l4), none] [] σ := by
  unfold vc_X3_isQuiet_49 at h
  refine r_iload (pc := 49) hv 31 rfl rfl ?_
  refine r_aload_n (pc := 51) hv 32 rfl rfl ?_
  refine r_getR (pc := 52) (b := 30) hv 33 rfl rfl rfl rfl ?_
  refine r_getI (pc := 55) hv 34 rfl rfl rfl ?_
  refine r_icmp_ge (pc := 58) hv 35 rfl (fun c => ?_) (fun c => ?_)
  · replace h := h.1 c
    refine r_iconst (pc := 122) hv 68 rfl  ?_
    exact r_zreturn (pc := 123) hv 69 rfl rfl (Or.inr rfl) h
  · replace h := h.2 c
    refine r_aload_n (pc := 61) hv 36 rfl rfl ?_
    refine r_getR (pc := 62) (b := 30) hv 37 rfl rfl rfl rfl ?_
    refine r_getR (pc := 65) (b := 31) hv 38 rfl rfl rfl rfl ?_
    refine r_iload (pc := 68) hv 39 rfl rfl ?_
    refine r_iaload (pc := 70) (N := 40) hv 40 rfl rfl rfl (by decide) h.1 ?_
    replace h := h.2
    refine r_iload_n (pc := 71) hv 41 rfl rfl ?_
    refine r_icmp_gt (pc := 72) hv 42 rfl (fun c => ?_) (fun c => ?_)
    · replace h := h.1 c
      refine r_iconst (pc := 122) hv 68 rfl  ?_
      exact r_zreturn (pc := 123) hv 69 rfl rfl (Or.inr rfl) h
    · replace h := h.2 c
      refine r_aload_n (pc := 75) hv 43 rfl rfl ?_
      refine r_getR (pc := 76) (b := 30) hv 44 rfl rfl rfl rfl ?_
      refine r_getR (pc := 79) (b := 31) hv 45 rfl rfl rfl rfl ?_
      refine r_iload (pc := 82) hv 46 rfl rfl ?_
      refine r_iaload (pc := 84) (N := 40) hv 47 rfl rfl rfl (by decide) h.1 ?_
      replace h := h.2
      refine r_istore (pc := 85) (lo' := [some (aR 27), some (aI l1), some (aI l2), some (aI l3), some (aI l4), some (aI (σ.1 31 (l4 : Int32).toNatClampNeg))]) hv 48 rfl rfl ?_
      refine r_iload (pc := 87) hv 49 rfl rfl ?_
      refine r_iload_n (pc := 89) hv 50 rfl rfl ?_
      refine r_aload_n (pc := 90) hv 51 rfl rfl ?_
      refine r_getR (pc := 91) (b := 1) hv 52 rfl rfl rfl rfl ?_
      refine r_getR (pc := 94) (b := 4) hv 53 rfl rfl rfl rfl ?_
      refine r_iconst (pc := 97) hv 54 rfl  ?_
      refine r_iaload (pc := 98) (N := 3) hv 55 rfl rfl rfl (by decide) h.1 ?_
      replace h := h.2
      refine r_isub (pc := 99) hv 56 rfl  ?_
      refine r_icmp_le (pc := 100) hv 57 rfl (fun c => ?_) (fun c => ?_)
      · replace h := h.1 c
        refine r_iinc (pc := 116) (lo' := [some (aR 27), some (aI l1), some (aI l2), some (aI l3), some (aI (l4 + 1)), some (aI (σ.1 31 (l4 : Int32).toNatClampNeg))]) hv 66 rfl rfl rfl ?_
        refine r_goto (pc := 119) hv 67 rfl  ?_
        exact hw 49 [some (aR 27), some (aI l1), some (aI l2), some (aI l3), some (aI (l4 + 1)), none] _ _ _ ⟨rfl, ⟨rfl, ⟨rfl, ⟨rfl, ⟨rfl, trivial⟩⟩⟩⟩⟩ h
      · replace h := h.2 c
        refine r_aload_n (pc := 103) hv 58 rfl rfl ?_
        refine r_iload_n (pc := 104) hv 59 rfl rfl ?_
        refine r_iload (pc := 105) hv 60 rfl rfl ?_
        refine r_callV (pc := 107) (l := [aI (σ.1 31 (l4 : Int32).toNatClampNeg), aI l1]) (av := [aI l1, aI (σ.1 31 (l4 : Int32).toNatClampNeg)]) (a := 27) (t := []) hv 61 rfl rfl rfl rfl (rcv_o (by decide) rfl) trivial (hS.1 _ _ _ _ _ (fun r σ1 h => ?_) h)
        obtain ⟨x2, rfl, h⟩ := h
        show v 110 [some (aR 27), some (aI l1), some (aI l2), some (aI l3), some (aI l4), some (aI (σ.1 31 (l4 : Int32).toNatClampNeg))] [aI x2] σ1
        refine r_iload_n (pc := 110) hv 62 rfl rfl ?_
        refine r_icmp_le (pc := 111) hv 63 rfl (fun c => ?_) (fun c => ?_)
        · replace h := h.1 c
          refine r_iinc (pc := 116) (lo' := [some (aR 27), some (aI l1), some (aI l2), some (aI l3), some (aI (l4 + 1)), some (aI (σ.1 31 (l4 : Int32).toNatClampNeg))]) hv 66 rfl rfl rfl ?_
          refine r_goto (pc := 119) hv 67 rfl  ?_
          exact hw 49 [some (aR 27), some (aI l1), some (aI l2), some (aI l3), some (aI (l4 + 1)), none] _ _ _ ⟨rfl, ⟨rfl, ⟨rfl, ⟨rfl, ⟨rfl, trivial⟩⟩⟩⟩⟩ h
        · replace h := h.2 c
          refine r_iconst (pc := 114) hv 64 rfl  ?_
          exact r_zreturn (pc := 115) hv 65 rfl rfl (Or.inl rfl) h
def vc_X3_isQuiet_46 (S : Sp) (Φ : Rs) (v : Kt) (l1 : Int32) (l2 : Int32) (l3 : Int32) (σ : St) : Prop := v 49 [some (aR 27), some (aI l1), some (aI l2), some (aI l3), some (aI 0), none] [] σ
theorem w_X3_isQuiet_46 {S : Sp} (hS : Sys S) {Φ : Rs} {v : Kt} (hv : Cl S Φ k_X3_isQuiet v) (hw : Wk v) (l1 : Int32) (l2 : Int32) (l3 : Int32) (σ : St) (h : vc_X3_isQuiet_46 S Φ v l1 l2 l3 σ) : v 46 [some (aR 27), some (aI l1), some (aI l2), some (aI l3), none, none] [] σ := by
  unfold vc_X3_isQuiet_46 at h
  refine r_iconst (pc := 46) hv 29 rfl  ?_
  refine r_istore (pc := 47) (lo' := [some (aR 27), some (aI l1), some (aI l2), some (aI l3), some (aI 0), none]) hv 30 rfl rfl ?_
  exact h
def vc_X3_isQuiet_0 (S : Sp) (Φ : Rs) (v : Kt) (l1 : Int32) (σ : St) : Prop := vp_in 1 3 ∧ (S 51 [aR 27, aI l1, aI l1] σ (fun r σ1 => ∃ x2 : Int32, r = [aI x2] ∧ (((x2 : Int32) ≤ (σ.1 4 (1 : Int32).toNatClampNeg) → (((σ1.1 27 7 : Int32) ≤ 0 → (vc_X3_isQuiet_46 S Φ v  l1 (σ.1 4 (1 : Int32).toNatClampNeg) (l1 + 17) σ1)) ∧ (¬ ((σ1.1 27 7 : Int32) ≤ 0) → (S 51 [aR 27, aI l1, aI (l1 + 17)] σ1 (fun r σ3 => ∃ x4 : Int32, r = [aI x4] ∧ (((x4 : Int32) ≤ (σ.1 4 (1 : Int32).toNatClampNeg) → (vc_X3_isQuiet_46 S Φ v  l1 (σ.1 4 (1 : Int32).toNatClampNeg) (l1 + 17) σ3)) ∧ (¬ ((x4 : Int32) ≤ (σ.1 4 (1 : Int32).toNatClampNeg)) → (Φ [aI 0] σ3)))))))) ∧ (¬ ((x2 : Int32) ≤ (σ.1 4 (1 : Int32).toNatClampNeg)) → (Φ [aI 0] σ1)))))
theorem w_X3_isQuiet_0 {S : Sp} (hS : Sys S) {Φ : Rs} {v : Kt} (hv : Cl S Φ k_X3_isQuiet v) (hw : Wk v) (l1 : Int32) (σ : St) (h : vc_X3_isQuiet_0 S Φ v l1 σ) : v 0 [some (aR 27), some (aI l1), none, none, none, none] [] σ := by
  unfold vc_X3_isQuiet_0 at h
  refine r_aload_n (pc := 0) hv 0 rfl rfl ?_
  refine r_getR (pc := 1) (b := 1) hv 1 rfl rfl rfl rfl ?_
  refine r_getR (pc := 4) (b := 4) hv 2 rfl rfl rfl rfl ?_
  refine r_iconst (pc := 7) hv 3 rfl  ?_
  refine r_iaload (pc := 8) (N := 3) hv 4 rfl rfl rfl (by decide) h.1 ?_
  replace h := h.2
  refine r_istore_n (pc := 9) (lo' := [some (aR 27), some (aI l1), some (aI (σ.1 4 (1 : Int32).toNatClampNeg)), none, none, none]) hv 5 rfl rfl ?_
  refine r_iload_n (pc := 10) hv 6 rfl rfl ?_
  refine r_bipush (pc := 11) hv 7 rfl  ?_
  refine r_iadd (pc := 13) hv 8 rfl  ?_
  refine r_istore_n (pc := 14) (lo' := [some (aR 27), some (aI l1), some (aI (σ.1 4 (1 : Int32).toNatClampNeg)), some (aI (l1 + 17)), none, none]) hv 9 rfl rfl ?_
  refine r_aload_n (pc := 15) hv 10 rfl rfl ?_
  refine r_iload_n (pc := 16) hv 11 rfl rfl ?_
  refine r_iload_n (pc := 17) hv 12 rfl rfl ?_
  refine r_callV (pc := 18) (l := [aI l1, aI l1]) (av := [aI l1, aI l1]) (a := 27) (t := []) hv 13 rfl rfl rfl rfl (rcv_o (by decide) rfl) trivial (hS.1 _ _ _ _ _ (fun r σ1 h => ?_) h)
  obtain ⟨x2, rfl, h⟩ := h
  show v 21 [some (aR 27), some (aI l1), some (aI (σ.1 4 (1 : Int32).toNatClampNeg)), some (aI (l1 + 17)), none, none] [aI x2] σ1
  refine r_iload_n (pc := 21) hv 14 rfl rfl ?_
  refine r_icmp_le (pc := 22) hv 15 rfl (fun c => ?_) (fun c => ?_)
  · replace h := h.1 c
    refine r_aload_n (pc := 27) hv 18 rfl rfl ?_
    refine r_getI (pc := 28) hv 19 rfl rfl rfl ?_
    refine r_if_le (pc := 31) hv 20 rfl (fun c => ?_) (fun c => ?_)
    · replace h := h.1 c
      exact (w_X3_isQuiet_46 hS hv hw   l1 (σ.1 4 (1 : Int32).toNatClampNeg) (l1 + 17)  σ1 h)
    · replace h := h.2 c
      refine r_aload_n (pc := 34) hv 21 rfl rfl ?_
      refine r_iload_n (pc := 35) hv 22 rfl rfl ?_
      refine r_iload_n (pc := 36) hv 23 rfl rfl ?_
      refine r_callV (pc := 37) (l := [aI (l1 + 17), aI l1]) (av := [aI l1, aI (l1 + 17)]) (a := 27) (t := []) hv 24 rfl rfl rfl rfl (rcv_o (by decide) rfl) trivial (hS.1 _ _ _ _ _ (fun r σ3 h => ?_) h)
      obtain ⟨x4, rfl, h⟩ := h
      show v 40 [some (aR 27), some (aI l1), some (aI (σ.1 4 (1 : Int32).toNatClampNeg)), some (aI (l1 + 17)), none, none] [aI x4] σ3
      refine r_iload_n (pc := 40) hv 25 rfl rfl ?_
      refine r_icmp_le (pc := 41) hv 26 rfl (fun c => ?_) (fun c => ?_)
      · replace h := h.1 c
        exact (w_X3_isQuiet_46 hS hv hw   l1 (σ.1 4 (1 : Int32).toNatClampNeg) (l1 + 17)  σ3 h)
      · replace h := h.2 c
        refine r_iconst (pc := 44) hv 27 rfl  ?_
        exact r_zreturn (pc := 45) hv 28 rfl rfl (Or.inl rfl) h
  · replace h := h.2 c
    refine r_iconst (pc := 25) hv 16 rfl  ?_
    exact r_zreturn (pc := 26) hv 17 rfl rfl (Or.inl rfl) h
theorem m_X3_isQuiet {S : Sp} (hS : Sys S) {l1 : Int32} {σ : St} {Φ : Rs} (h : ∀ v : Kt, Cl S Φ k_X3_isQuiet v → Wk v → vc_X3_isQuiet_0 S Φ v l1 σ) : S 50 [aR 27, aI l1] σ Φ :=
  hS.2 50 M_X3_isQuiet k_X3_isQuiet _ _ _ mkt_X3_isQuiet (Nat.le_of_ble_eq_true rfl) (fun v hv hw => w_X3_isQuiet_0 hS hv hw   l1 σ (h v hv hw))
def vc_X3_shakeWith_50 (S : Sp) (Φ : Rs) (v : Kt) (l1 : Int32) (l2 : Int32) (l3 : Int32) (l4 : Int32) (σ : St) : Prop := ((l1 + 17 : Int32) < l2 → (Φ [aI l4] σ)) ∧ (¬ ((l1 + 17 : Int32) < l2) → (((l3 : Int32) ≤ (l1 + 17) → (Φ [aI l4] σ)) ∧ (¬ ((l3 : Int32) ≤ (l1 + 17)) → (Φ [aI (l4 + (σ.1 27 7))] σ))))
theorem w_X3_shakeWith_50 {S : Sp} (hS : Sys S) {Φ : Rs} {v : Kt} (hv : Cl S Φ k_X3_shakeWith v) (hw : Wk v) (l1 : Int32) (l2 : Int32) (l3 : Int32) (l4 : Int32) (σ : St) (h : vc_X3_shakeWith_50 S Φ v l1 l2 l3 l4 σ) : v 50 [some (aR 27), some (aI l1), some (aI l2), some (aI l3), some (aI l4)] [] σ := by
  unfold vc_X3_shakeWith_50 at h
  refine r_iload_n (pc := 50) hv 29 rfl rfl ?_
  refine r_bipush (pc := 51) hv 30 rfl  ?_
  refine r_iadd (pc := 53) hv 31 rfl  ?_
  refine r_iload_n (pc := 54) hv 32 rfl rfl ?_
  refine r_icmp_lt (pc := 55) hv 33 rfl (fun c => ?_) (fun c => ?_)
  · replace h := h.1 c
    refine r_iload (pc := 75) hv 44 rfl rfl ?_
    exact r_ireturn (pc := 77) hv 45 rfl rfl h
  · replace h := h.2 c
    refine r_iload_n (pc := 58) hv 34 rfl rfl ?_
    refine r_bipush (pc := 59) hv 35 rfl  ?_
    refine r_iadd (pc := 61) hv 36 rfl  ?_
    refine r_iload_n (pc := 62) hv 37 rfl rfl ?_
    refine r_icmp_ge (pc := 63) hv 38 rfl (fun c => ?_) (fun c => ?_)
    · replace h := h.1 c
      refine r_iload (pc := 75) hv 44 rfl rfl ?_
      exact r_ireturn (pc := 77) hv 45 rfl rfl h
    · replace h := h.2 c
      refine r_iload (pc := 66) hv 39 rfl rfl ?_
      refine r_aload_n (pc := 68) hv 40 rfl rfl ?_
      refine r_getI (pc := 69) hv 41 rfl rfl rfl ?_
      refine r_iadd (pc := 72) hv 42 rfl  ?_
      refine r_istore (pc := 73) (lo' := [some (aR 27), some (aI l1), some (aI l2), some (aI l3), some (aI (l4 + (σ.1 27 7)))]) hv 43 rfl rfl ?_
      refine r_iload (pc := 75) hv 44 rfl rfl ?_
      exact r_ireturn (pc := 77) hv 45 rfl rfl h
def vc_X3_shakeWith_0 (S : Sp) (Φ : Rs) (v : Kt) (l1 : Int32) (l2 : Int32) (σ : St) : Prop := vp_in 0 3 ∧ (vp_in 0 3 ∧ (S 85 [aR 30, aI l2, aI (σ.1 4 (0 : Int32).toNatClampNeg)] σ (fun r σ1 => ∃ x2 : Int32, r = [aI x2] ∧ (((l1 : Int32) < l2 → (vc_X3_shakeWith_50 S Φ v  l1 l2 (l2 + (σ.1 4 (0 : Int32).toNatClampNeg)) x2 σ1)) ∧ (¬ ((l1 : Int32) < l2) → (((l2 + (σ.1 4 (0 : Int32).toNatClampNeg) : Int32) ≤ l1 → (vc_X3_shakeWith_50 S Φ v  l1 l2 (l2 + (σ.1 4 (0 : Int32).toNatClampNeg)) x2 σ1)) ∧ (¬ ((l2 + (σ.1 4 (0 : Int32).toNatClampNeg) : Int32) ≤ l1) → (vc_X3_shakeWith_50 S Φ v  l1 l2 (l2 + (σ.1 4 (0 : Int32).toNatClampNeg)) (x2 + (σ1.1 27 6)) σ1))))))))
theorem w_X3_shakeWith_0 {S : Sp} (hS : Sys S) {Φ : Rs} {v : Kt} (hv : Cl S Φ k_X3_shakeWith v) (hw : Wk v) (l1 : Int32) (l2 : Int32) (σ : St) (h : vc_X3_shakeWith_0 S Φ v l1 l2 σ) : v 0 [some (aR 27), some (aI l1), some (aI l2), none, none] [] σ := by
  unfold vc_X3_shakeWith_0 at h
  refine r_iload_n (pc := 0) hv 0 rfl rfl ?_
  refine r_aload_n (pc := 1) hv 1 rfl rfl ?_
  refine r_getR (pc := 2) (b := 1) hv 2 rfl rfl rfl rfl ?_
  refine r_getR (pc := 5) (b := 4) hv 3 rfl rfl rfl rfl ?_
  refine r_iconst (pc := 8) hv 4 rfl  ?_
  refine r_iaload (pc := 9) (N := 3) hv 5 rfl rfl rfl (by decide) h.1 ?_
  replace h := h.2
  refine r_iadd (pc := 10) hv 6 rfl  ?_
  refine r_istore_n (pc := 11) (lo' := [some (aR 27), some (aI l1), some (aI l2), some (aI (l2 + (σ.1 4 (0 : Int32).toNatClampNeg))), none]) hv 7 rfl rfl ?_
  refine r_aload_n (pc := 12) hv 8 rfl rfl ?_
  refine r_getR (pc := 13) (b := 30) hv 9 rfl rfl rfl rfl ?_
  refine r_iload_n (pc := 16) hv 10 rfl rfl ?_
  refine r_aload_n (pc := 17) hv 11 rfl rfl ?_
  refine r_getR (pc := 18) (b := 1) hv 12 rfl rfl rfl rfl ?_
  refine r_getR (pc := 21) (b := 4) hv 13 rfl rfl rfl rfl ?_
  refine r_iconst (pc := 24) hv 14 rfl  ?_
  refine r_iaload (pc := 25) (N := 3) hv 15 rfl rfl rfl (by decide) h.1 ?_
  replace h := h.2
  refine r_callV (pc := 26) (l := [aI (σ.1 4 (0 : Int32).toNatClampNeg), aI l2]) (av := [aI l2, aI (σ.1 4 (0 : Int32).toNatClampNeg)]) (a := 30) (t := []) hv 16 rfl rfl rfl rfl (rcv_o (by decide) rfl) trivial (hS.1 _ _ _ _ _ (fun r σ1 h => ?_) h)
  obtain ⟨x2, rfl, h⟩ := h
  show v 29 [some (aR 27), some (aI l1), some (aI l2), some (aI (l2 + (σ.1 4 (0 : Int32).toNatClampNeg))), none] [aI x2] σ1
  refine r_istore (pc := 29) (lo' := [some (aR 27), some (aI l1), some (aI l2), some (aI (l2 + (σ.1 4 (0 : Int32).toNatClampNeg))), some (aI x2)]) hv 17 rfl rfl ?_
  refine r_iload_n (pc := 31) hv 18 rfl rfl ?_
  refine r_iload_n (pc := 32) hv 19 rfl rfl ?_
  refine r_icmp_lt (pc := 33) hv 20 rfl (fun c => ?_) (fun c => ?_)
  · replace h := h.1 c
    exact (w_X3_shakeWith_50 hS hv hw   l1 l2 (l2 + (σ.1 4 (0 : Int32).toNatClampNeg)) x2  σ1 h)
  · replace h := h.2 c
    refine r_iload_n (pc := 36) hv 21 rfl rfl ?_
    refine r_iload_n (pc := 37) hv 22 rfl rfl ?_
    refine r_icmp_ge (pc := 38) hv 23 rfl (fun c => ?_) (fun c => ?_)
    · replace h := h.1 c
      exact (w_X3_shakeWith_50 hS hv hw   l1 l2 (l2 + (σ.1 4 (0 : Int32).toNatClampNeg)) x2  σ1 h)
    · replace h := h.2 c
      refine r_iload (pc := 41) hv 24 rfl rfl ?_
      refine r_aload_n (pc := 43) hv 25 rfl rfl ?_
      refine r_getI (pc := 44) hv 26 rfl rfl rfl ?_
      refine r_iadd (pc := 47) hv 27 rfl  ?_
      refine r_istore (pc := 48) (lo' := [some (aR 27), some (aI l1), some (aI l2), some (aI (l2 + (σ.1 4 (0 : Int32).toNatClampNeg))), some (aI (x2 + (σ1.1 27 6)))]) hv 28 rfl rfl ?_
      exact (w_X3_shakeWith_50 hS hv hw   l1 l2 (l2 + (σ.1 4 (0 : Int32).toNatClampNeg)) (x2 + (σ1.1 27 6))  σ1 h)
theorem m_X3_shakeWith {S : Sp} (hS : Sys S) {l1 : Int32} {l2 : Int32} {σ : St} {Φ : Rs} (h : ∀ v : Kt, Cl S Φ k_X3_shakeWith v → Wk v → vc_X3_shakeWith_0 S Φ v l1 l2 σ) : S 51 [aR 27, aI l1, aI l2] σ Φ :=
  hS.2 51 M_X3_shakeWith k_X3_shakeWith _ _ _ mkt_X3_shakeWith (Nat.le_of_ble_eq_true rfl) (fun v hv hw => w_X3_shakeWith_0 hS hv hw   l1 l2 σ (h v hv hw))
def vc_X3_latest_4 (S : Sp) (Φ : Rs) (v : Kt) (l1 : Int32) (l2 : Int32) (σ : St) : Prop := ((σ.1 1 3 : Int32) ≤ l2 → (Φ [aI l1] σ)) ∧ (¬ ((σ.1 1 3 : Int32) ≤ l2) → (vp_in l2 20 ∧ (v 4 [some (aR 27), some (aI (if (l1 : Int32) < (σ.1 29 (l2 : Int32).toNatClampNeg) then (σ.1 29 (l2 : Int32).toNatClampNeg) else l1)), some (aI (l2 + 1))] [] σ)))
theorem w_X3_latest_4 {S : Sp} (hS : Sys S) {Φ : Rs} {v : Kt} (hv : Cl S Φ k_X3_latest v) (hw : Wk v) (l1 : Int32) (l2 : Int32) (σ : St) (h : vc_X3_latest_4 S Φ v l1 l2 σ) : v 4 [some (aR 27), some (aI l1), some (aI l2)] [] σ := by
  unfold vc_X3_latest_4 at h
  refine r_iload_n (pc := 4) hv 4 rfl rfl ?_
  refine r_aload_n (pc := 5) hv 5 rfl rfl ?_
  refine r_getR (pc := 6) (b := 1) hv 6 rfl rfl rfl rfl ?_
  refine r_getI (pc := 9) hv 7 rfl rfl rfl ?_
  refine r_icmp_ge (pc := 12) hv 8 rfl (fun c => ?_) (fun c => ?_)
  · replace h := h.1 c
    refine r_iload_n (pc := 32) hv 18 rfl rfl ?_
    exact r_ireturn (pc := 33) hv 19 rfl rfl h
  · replace h := h.2 c
    refine r_iload_n (pc := 15) hv 9 rfl rfl ?_
    refine r_aload_n (pc := 16) hv 10 rfl rfl ?_
    refine r_getR (pc := 17) (b := 29) hv 11 rfl rfl rfl rfl ?_
    refine r_iload_n (pc := 20) hv 12 rfl rfl ?_
    refine r_iaload (pc := 21) (N := 20) hv 13 rfl rfl rfl (by decide) h.1 ?_
    replace h := h.2
    refine r_max (pc := 22) hv 14 rfl rfl trivial ?_
    refine r_istore_n (pc := 25) (lo' := [some (aR 27), some (aI (if (l1 : Int32) < (σ.1 29 (l2 : Int32).toNatClampNeg) then (σ.1 29 (l2 : Int32).toNatClampNeg) else l1)), some (aI l2)]) hv 15 rfl rfl ?_
    refine r_iinc (pc := 26) (lo' := [some (aR 27), some (aI (if (l1 : Int32) < (σ.1 29 (l2 : Int32).toNatClampNeg) then (σ.1 29 (l2 : Int32).toNatClampNeg) else l1)), some (aI (l2 + 1))]) hv 16 rfl rfl rfl ?_
    refine r_goto (pc := 29) hv 17 rfl  ?_
    exact h
def vc_X3_latest_0 (S : Sp) (Φ : Rs) (v : Kt) (σ : St) : Prop := v 4 [some (aR 27), some (aI (-1)), some (aI 0)] [] σ
theorem w_X3_latest_0 {S : Sp} (hS : Sys S) {Φ : Rs} {v : Kt} (hv : Cl S Φ k_X3_latest v) (hw : Wk v) (σ : St) (h : vc_X3_latest_0 S Φ v  σ) : v 0 [some (aR 27), none, none] [] σ := by
  unfold vc_X3_latest_0 at h
  refine r_iconst (pc := 0) hv 0 rfl  ?_
  refine r_istore_n (pc := 1) (lo' := [some (aR 27), some (aI (-1)), none]) hv 1 rfl rfl ?_
  refine r_iconst (pc := 2) hv 2 rfl  ?_
  refine r_istore_n (pc := 3) (lo' := [some (aR 27), some (aI (-1)), some (aI 0)]) hv 3 rfl rfl ?_
  exact h
theorem m_X3_latest {S : Sp} (hS : Sys S) {σ : St} {Φ : Rs} (h : ∀ v : Kt, Cl S Φ k_X3_latest v → Wk v → vc_X3_latest_0 S Φ v  σ) : S 52 [aR 27] σ Φ :=
  hS.2 52 M_X3_latest k_X3_latest _ _ _ mkt_X3_latest (Nat.le_of_ble_eq_true rfl) (fun v hv hw => w_X3_latest_0 hS hv hw    σ (h v hv hw))
