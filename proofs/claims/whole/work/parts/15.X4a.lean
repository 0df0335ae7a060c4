def vc_X4_takeByte_0 (S : Sp) (Φ : Rs) (v : Kt) (l1 : Int32) (σ : St) : Prop := ((l1 : Int32) < 0 → (Φ [aI (-2)] σ)) ∧ (¬ ((l1 : Int32) < 0) → (((l1 : Int32) ≤ 127 → (((σ.1 36 1 : Int32) < 80 → (vp_in (σ.1 36 1) 80 ∧ (∀ σ1 : St, σ1 = upI σ 37 (σ.1 36 1 : Int32).toNatClampNeg ((l1 : Int32).toInt8.toInt32 : Int32).toInt8.toInt32 → (∀ σ2 : St, σ2 = upI σ1 36 1 ((σ1.1 36 1) + 1) → (Φ [aI (σ2.1 36 1)] σ2))))) ∧ (¬ ((σ.1 36 1 : Int32) < 80) → (Φ [aI (-4)] σ)))) ∧ (¬ ((l1 : Int32) ≤ 127) → (Φ [aI (-2)] σ))))
theorem w_X4_takeByte_0 {S : Sp} (hS : Sys S) {Φ : Rs} {v : Kt} (hv : Cl S Φ k_X4_takeByte v) (hw : Wk v) (l1 : Int32) (σ : St) (h : vc_X4_takeByte_0 S Φ v l1 σ) : v 0 [some (aR 36), some (aI l1)] [] σ := by
  unfold vc_X4_takeByte_0 at h
  refine r_iload_n (pc := 0) hv 0 rfl rfl ?_
  refine r_if_lt (pc := 1) hv 1 rfl (fun c => ?_) (fun c => ?_)
  · replace h := h.1 c
    refine r_bipush (pc := 10) hv 5 rfl  ?_
    exact r_ireturn (pc := 12) hv 6 rfl rfl h
  · replace h := h.2 c
    refine r_iload_n (pc := 4) hv 2 rfl rfl ?_
    refine r_bipush (pc := 5) hv 3 rfl  ?_
    refine r_icmp_le (pc := 7) hv 4 rfl (fun c => ?_) (fun c => ?_)
    · replace h := h.1 c
      refine r_aload_n (pc := 13) hv 7 rfl rfl ?_
      refine r_getI (pc := 14) hv 8 rfl rfl rfl ?_
      refine r_bipush (pc := 17) hv 9 rfl  ?_
      refine r_icmp_lt (pc := 19) hv 10 rfl (fun c => ?_) (fun c => ?_)
      · replace h := h.1 c
        refine r_aload_n (pc := 25) hv 13 rfl rfl ?_
        refine r_getR (pc := 26) (b := 37) hv 14 rfl rfl rfl rfl ?_
        refine r_aload_n (pc := 29) hv 15 rfl rfl ?_
        refine r_getI (pc := 30) hv 16 rfl rfl rfl ?_
        refine r_iload_n (pc := 33) hv 17 rfl rfl ?_
        refine r_i2b (pc := 34) hv 18 rfl  ?_
        refine r_bastore (pc := 35) (N := 80) hv 19 rfl rfl rfl h.1 ?_
        replace h := h.2
        obtain ⟨σ1, e_σ1⟩ : ∃ y : St, y = upI σ 37 (σ.1 36 1 : Int32).toNatClampNeg ((l1 : Int32).toInt8.toInt32 : Int32).toInt8.toInt32 := ⟨_, rfl⟩
        rw [← e_σ1]
        replace h := h σ1 e_σ1
        refine r_aload_n (pc := 36) hv 20 rfl rfl ?_
        refine r_dup (pc := 37) hv 21 rfl trivial ?_
        refine r_getI (pc := 38) hv 22 rfl rfl rfl ?_
        refine r_iconst (pc := 41) hv 23 rfl  ?_
        refine r_iadd (pc := 42) hv 24 rfl  ?_
        refine r_putI (pc := 43) hv 25 rfl rfl rfl ?_
        obtain ⟨σ2, e_σ2⟩ : ∃ y : St, y = upI σ1 36 1 ((σ1.1 36 1) + 1) := ⟨_, rfl⟩
        rw [← e_σ2]
        replace h := h σ2 e_σ2
        refine r_aload_n (pc := 46) hv 26 rfl rfl ?_
        refine r_getI (pc := 47) hv 27 rfl rfl rfl ?_
        exact r_ireturn (pc := 50) hv 28 rfl rfl h
      · replace h := h.2 c
        refine r_bipush (pc := 22) hv 11 rfl  ?_
        exact r_ireturn (pc := 24) hv 12 rfl rfl h
    · replace h := h.2 c
      refine r_bipush (pc := 10) hv 5 rfl  ?_
      exact r_ireturn (pc := 12) hv 6 rfl rfl h
theorem m_X4_takeByte {S : Sp} (hS : Sys S) {l1 : Int32} {σ : St} {Φ : Rs} (h : ∀ v : Kt, Cl S Φ k_X4_takeByte v → Wk v → vc_X4_takeByte_0 S Φ v l1 σ) : S 53 [aR 36, aI l1] σ Φ :=
  hS.2 53 M_X4_takeByte k_X4_takeByte _ _ _ mkt_X4_takeByte (Nat.le_of_ble_eq_true rfl) (fun v hv hw => w_X4_takeByte_0 hS hv hw   l1 σ (h v hv hw))
def vc_X4_parse_10 (S : Sp) (Φ : Rs) (v : Kt) (σ : St) : Prop := ((13 : Int32) ≤ (σ.1 36 2) → (S 63 [aR 36] σ (fun r σ1 => r = [] ∧ (Φ [aI (σ1.1 36 7)] σ1)))) ∧ (¬ ((13 : Int32) ≤ (σ.1 36 2)) → (S 55 [aR 36] σ (fun r σ2 => ∃ x3 : Int32, r = [aI x3] ∧ ((¬ (x3 : Int32) = 0 → (∀ σ4 : St, σ4 = upI σ2 36 2 ((σ2.1 36 2) + 1) → (S 63 [aR 36] σ4 (fun r σ5 => r = [] ∧ ((¬ (σ5.1 36 6 : Int32) = 0 → (((σ5.1 36 6 : Int32) = 3 → (v 10 [some (aR 36)] [] σ5)) ∧ (¬ ((σ5.1 36 6 : Int32) = 3) → (Φ [aI (σ5.1 36 7)] σ5)))) ∧ ((σ5.1 36 6 : Int32) = 0 → (Φ [aI (-1)] σ5))))))) ∧ ((x3 : Int32) = 0 → (Φ [aI (σ2.1 36 7)] σ2))))))
theorem w_X4_parse_10 {S : Sp} (hS : Sys S) {Φ : Rs} {v : Kt} (hv : Cl S Φ k_X4_parse v) (hw : Wk v) (σ : St) (h : vc_X4_parse_10 S Φ v  σ) : v 10 [some (aR 36)] [] σ := by
  unfold vc_X4_parse_10 at h
  refine r_aload_n (pc := 10) hv 6 rfl rfl ?_
  refine r_getI (pc := 11) hv 7 rfl rfl rfl ?_
  refine r_bipush (pc := 14) hv 8 rfl  ?_
  refine r_icmp_ge (pc := 16) hv 9 rfl (fun c => ?_) (fun c => ?_)
  · replace h := h.1 c
    refine r_aload_n (pc := 67) hv 36 rfl rfl ?_
    refine r_callV (pc := 68) (l := []) (av := []) (a := 36) (t := []) hv 37 rfl rfl rfl rfl (rcv_o (by decide) rfl) trivial (hS.1 _ _ _ _ _ (fun r σ1 h => ?_) h)
    obtain ⟨rfl, h⟩ := h
    show v 71 [some (aR 36)] [] σ1
    refine r_aload_n (pc := 71) hv 38 rfl rfl ?_
    refine r_getI (pc := 72) hv 39 rfl rfl rfl ?_
    exact r_ireturn (pc := 75) hv 40 rfl rfl h
  · replace h := h.2 c
    refine r_aload_n (pc := 19) hv 10 rfl rfl ?_
    refine r_callV (pc := 20) (l := []) (av := []) (a := 36) (t := []) hv 11 rfl rfl rfl rfl (rcv_o (by decide) rfl) trivial (hS.1 _ _ _ _ _ (fun r σ2 h => ?_) h)
    obtain ⟨x3, rfl, h⟩ := h
    show v 23 [some (aR 36)] [aI x3] σ2
    refine r_if_ne (pc := 23) hv 12 rfl (fun c => ?_) (fun c => ?_)
    · replace h := h.1 c
      refine r_aload_n (pc := 31) hv 16 rfl rfl ?_
      refine r_dup (pc := 32) hv 17 rfl trivial ?_
      refine r_getI (pc := 33) hv 18 rfl rfl rfl ?_
      refine r_iconst (pc := 36) hv 19 rfl  ?_
      refine r_iadd (pc := 37) hv 20 rfl  ?_
      refine r_putI (pc := 38) hv 21 rfl rfl rfl ?_
      obtain ⟨σ4, e_σ4⟩ : ∃ y : St, y = upI σ2 36 2 ((σ2.1 36 2) + 1) := ⟨_, rfl⟩
      rw [← e_σ4]
      replace h := h σ4 e_σ4
      refine r_aload_n (pc := 41) hv 22 rfl rfl ?_
      refine r_callV (pc := 42) (l := []) (av := []) (a := 36) (t := []) hv 23 rfl rfl rfl rfl (rcv_o (by decide) rfl) trivial (hS.1 _ _ _ _ _ (fun r σ5 h => ?_) h)
      obtain ⟨rfl, h⟩ := h
      show v 45 [some (aR 36)] [] σ5
      refine r_aload_n (pc := 45) hv 24 rfl rfl ?_
      refine r_getI (pc := 46) hv 25 rfl rfl rfl ?_
      refine r_if_ne (pc := 49) hv 26 rfl (fun c => ?_) (fun c => ?_)
      · replace h := h.1 c
        refine r_aload_n (pc := 54) hv 29 rfl rfl ?_
        refine r_getI (pc := 55) hv 30 rfl rfl rfl ?_
        refine r_iconst (pc := 58) hv 31 rfl  ?_
        refine r_icmp_eq (pc := 59) hv 32 rfl (fun c => ?_) (fun c => ?_)
        · replace h := h.1 c
          exact h
        · replace h := h.2 c
          refine r_aload_n (pc := 62) hv 33 rfl rfl ?_
          refine r_getI (pc := 63) hv 34 rfl rfl rfl ?_
          exact r_ireturn (pc := 66) hv 35 rfl rfl h
      · replace h := h.2 c
        refine r_iconst (pc := 52) hv 27 rfl  ?_
        exact r_ireturn (pc := 53) hv 28 rfl rfl h
    · replace h := h.2 c
      refine r_aload_n (pc := 26) hv 13 rfl rfl ?_
      refine r_getI (pc := 27) hv 14 rfl rfl rfl ?_
      exact r_ireturn (pc := 30) hv 15 rfl rfl h
def vc_X4_parse_0 (S : Sp) (Φ : Rs) (v : Kt) (σ : St) : Prop := ∀ σ1 : St, σ1 = upI σ 36 2 0 → (∀ σ2 : St, σ2 = upI σ1 36 8 0 → (v 10 [some (aR 36)] [] σ2))
theorem w_X4_parse_0 {S : Sp} (hS : Sys S) {Φ : Rs} {v : Kt} (hv : Cl S Φ k_X4_parse v) (hw : Wk v) (σ : St) (h : vc_X4_parse_0 S Φ v  σ) : v 0 [some (aR 36)] [] σ := by
  unfold vc_X4_parse_0 at h
  refine r_aload_n (pc := 0) hv 0 rfl rfl ?_
  refine r_iconst (pc := 1) hv 1 rfl  ?_
  refine r_putI (pc := 2) hv 2 rfl rfl rfl ?_
  obtain ⟨σ1, e_σ1⟩ : ∃ y : St, y = upI σ 36 2 0 := ⟨_, rfl⟩
  rw [← e_σ1]
  replace h := h σ1 e_σ1
  refine r_aload_n (pc := 5) hv 3 rfl rfl ?_
  refine r_iconst (pc := 6) hv 4 rfl  ?_
  refine r_putI (pc := 7) hv 5 rfl rfl rfl ?_
  obtain ⟨σ2, e_σ2⟩ : ∃ y : St, y = upI σ1 36 8 0 := ⟨_, rfl⟩
  rw [← e_σ2]
  replace h := h σ2 e_σ2
  exact h
theorem m_X4_parse {S : Sp} (hS : Sys S) {σ : St} {Φ : Rs} (h : ∀ v : Kt, Cl S Φ k_X4_parse v → Wk v → vc_X4_parse_0 S Φ v  σ) : S 54 [aR 36] σ Φ :=
  hS.2 54 M_X4_parse k_X4_parse _ _ _ mkt_X4_parse (Nat.le_of_ble_eq_true rfl) (fun v hv hw => w_X4_parse_0 hS hv hw    σ (h v hv hw))
def vc_X4_parseStatement_47 (S : Sp) (Φ : Rs) (v : Kt) (l1 : Int32) (l2 : Nat) (l3 : Int32) (σ : St) : Prop := S 242 [aR l2] σ (fun r σ1 => ∃ x2 : Int32, r = [aI x2] ∧ (((x2 : Int32) ≤ l3 → (Φ [aI 1] σ1)) ∧ (¬ ((x2 : Int32) ≤ l3) → (((6 : Int32) ≤ l3 → (Φ [aI 1] σ1)) ∧ (¬ ((6 : Int32) ≤ l3) → (S 63 [aR 36] σ1 (fun r σ3 => r = [] ∧ (S 243 [aR l2, aI l3] σ3 (fun r σ4 => ∃ x5 : Int32, r = [aI x5] ∧ (S 59 [aR 36, aI x5] σ4 (fun r σ6 => ∃ x7 : Int32, r = [aI x7] ∧ ((¬ (x7 : Int32) = (-2) → (vp_in (((σ6.1 36 2) * 6) + l3) 78 ∧ (∀ σ8 : St, σ8 = upI σ6 40 (((σ6.1 36 2) * 6) + l3 : Int32).toNatClampNeg x7 → (v 47 [some (aR 36), some (aI l1), some (aR l2), some (aI (l3 + 1)), none] [] σ8)))) ∧ ((x7 : Int32) = (-2) → (Φ [aI 0] σ6))))))))))))))
theorem w_X4_parseStatement_47 {S : Sp} (hS : Sys S) {Φ : Rs} {v : Kt} (hv : Cl S Φ k_X4_parseStatement v) (hw : Wk v) (l1 : Int32) (l2 : Nat) (l3 : Int32) (h_l2 : isStr l2) (σ : St) (h : vc_X4_parseStatement_47 S Φ v l1 l2 l3 σ) : v 47 [some (aR 36), some (aI l1), some (aR l2), some (aI l3), none] [] σ := by
  unfold vc_X4_parseStatement_47 at h
  refine r_iload_n (pc := 47) hv 28 rfl rfl ?_
  refine r_aload_n (pc := 48) hv 29 rfl rfl ?_
  refine r_callV (pc := 49) (l := []) (av := []) (a := l2) (t := [aI l3]) hv 30 rfl rfl rfl rfl (rcv_s h_l2) trivial (hS.1 _ _ _ _ _ (fun r σ1 h => ?_) h)
  obtain ⟨x2, rfl, h⟩ := h
  show v 52 [some (aR 36), some (aI l1), some (aR l2), some (aI l3), none] [aI x2, aI l3] σ1
  refine r_icmp_ge (pc := 52) hv 31 rfl (fun c => ?_) (fun c => ?_)
  · replace h := h.1 c
    refine r_iconst (pc := 107) hv 60 rfl  ?_
    exact r_zreturn (pc := 108) hv 61 rfl rfl (Or.inr rfl) h
  · replace h := h.2 c
    refine r_iload_n (pc := 55) hv 32 rfl rfl ?_
    refine r_bipush (pc := 56) hv 33 rfl  ?_
    refine r_icmp_ge (pc := 58) hv 34 rfl (fun c => ?_) (fun c => ?_)
    · replace h := h.1 c
      refine r_iconst (pc := 107) hv 60 rfl  ?_
      exact r_zreturn (pc := 108) hv 61 rfl rfl (Or.inr rfl) h
    · replace h := h.2 c
      refine r_aload_n (pc := 61) hv 35 rfl rfl ?_
      refine r_callV (pc := 62) (l := []) (av := []) (a := 36) (t := []) hv 36 rfl rfl rfl rfl (rcv_o (by decide) rfl) trivial (hS.1 _ _ _ _ _ (fun r σ3 h => ?_) h)
      obtain ⟨rfl, h⟩ := h
      show v 65 [some (aR 36), some (aI l1), some (aR l2), some (aI l3), none] [] σ3
      refine r_aload_n (pc := 65) hv 37 rfl rfl ?_
      refine r_aload_n (pc := 66) hv 38 rfl rfl ?_
      refine r_iload_n (pc := 67) hv 39 rfl rfl ?_
      refine r_callV (pc := 68) (l := [aI l3]) (av := [aI l3]) (a := l2) (t := [aR 36]) hv 40 rfl rfl rfl rfl (rcv_s h_l2) trivial (hS.1 _ _ _ _ _ (fun r σ4 h => ?_) h)
      obtain ⟨x5, rfl, h⟩ := h
      show v 71 [some (aR 36), some (aI l1), some (aR l2), some (aI l3), none] [aI x5, aR 36] σ4
      refine r_callV (pc := 71) (l := [aI x5]) (av := [aI x5]) (a := 36) (t := []) hv 41 rfl rfl rfl rfl (rcv_o (by decide) rfl) trivial (hS.1 _ _ _ _ _ (fun r σ6 h => ?_) h)
      obtain ⟨x7, rfl, h⟩ := h
      show v 74 [some (aR 36), some (aI l1), some (aR l2), some (aI l3), none] [aI x7] σ6
      refine r_istore (pc := 74) (lo' := [some (aR 36), some (aI l1), some (aR l2), some (aI l3), some (aI x7)]) hv 42 rfl rfl ?_
      refine r_iload (pc := 76) hv 43 rfl rfl ?_
      refine r_bipush (pc := 78) hv 44 rfl  ?_
      refine r_icmp_ne (pc := 80) hv 45 rfl (fun c => ?_) (fun c => ?_)
      · replace h := h.1 c
        refine r_aload_n (pc := 85) hv 48 rfl rfl ?_
        refine r_getR (pc := 86) (b := 40) hv 49 rfl rfl rfl rfl ?_
        refine r_aload_n (pc := 89) hv 50 rfl rfl ?_
        refine r_getI (pc := 90) hv 51 rfl rfl rfl ?_
        refine r_bipush (pc := 93) hv 52 rfl  ?_
        refine r_imul (pc := 95) hv 53 rfl  ?_
        refine r_iload_n (pc := 96) hv 54 rfl rfl ?_
        refine r_iadd (pc := 97) hv 55 rfl  ?_
        refine r_iload (pc := 98) hv 56 rfl rfl ?_
        refine r_iastore (pc := 100) (N := 78) hv 57 rfl rfl rfl h.1 ?_
        replace h := h.2
        obtain ⟨σ8, e_σ8⟩ : ∃ y : St, y = upI σ6 40 (((σ6.1 36 2) * 6) + l3 : Int32).toNatClampNeg x7 := ⟨_, rfl⟩
        rw [← e_σ8]
        replace h := h σ8 e_σ8
        refine r_iinc (pc := 101) (lo' := [some (aR 36), some (aI l1), some (aR l2), some (aI (l3 + 1)), some (aI x7)]) hv 58 rfl rfl rfl ?_
        refine r_goto (pc := 104) hv 59 rfl  ?_
        exact hw 47 [some (aR 36), some (aI l1), some (aR l2), some (aI (l3 + 1)), none] _ _ _ ⟨rfl, ⟨rfl, ⟨rfl, ⟨rfl, trivial⟩⟩⟩⟩ h
      · replace h := h.2 c
        refine r_iconst (pc := 83) hv 46 rfl  ?_
        exact r_zreturn (pc := 84) hv 47 rfl rfl (Or.inl rfl) h
def vc_X4_parseStatement_0 (S : Sp) (Φ : Rs) (v : Kt) (σ : St) : Prop := S 63 [aR 36] σ (fun r σ1 => r = [] ∧ (S 58 [aR 36] σ1 (fun r σ2 => ∃ x3 : Int32, r = [aI x3] ∧ ((¬ (x3 : Int32) = (-2) → (vp_in (σ2.1 36 2) 13 ∧ (∀ σ4 : St, σ4 = upI σ2 38 (σ2.1 36 2 : Int32).toNatClampNeg x3 → (vp_in (σ4.1 36 2) 13 ∧ (∀ σ5 : St, σ5 = upI σ4 39 (σ4.1 36 2 : Int32).toNatClampNeg (σ4.1 36 7) → (S 57 [aI x3] σ5 (fun r σ6 => ∃ w7 : Nat, r = [aR w7] ∧ isStr w7 ∧ (v 47 [some (aR 36), some (aI x3), some (aR w7), some (aI 0), none] [] σ6)))))))) ∧ ((x3 : Int32) = (-2) → (Φ [aI 0] σ2))))))
theorem w_X4_parseStatement_0 {S : Sp} (hS : Sys S) {Φ : Rs} {v : Kt} (hv : Cl S Φ k_X4_parseStatement v) (hw : Wk v) (σ : St) (h : vc_X4_parseStatement_0 S Φ v  σ) : v 0 [some (aR 36), none, none, none, none] [] σ := by
  unfold vc_X4_parseStatement_0 at h
  refine r_aload_n (pc := 0) hv 0 rfl rfl ?_
  refine r_callV (pc := 1) (l := []) (av := []) (a := 36) (t := []) hv 1 rfl rfl rfl rfl (rcv_o (by decide) rfl) trivial (hS.1 _ _ _ _ _ (fun r σ1 h => ?_) h)
  obtain ⟨rfl, h⟩ := h
  show v 4 [some (aR 36), none, none, none, none] [] σ1
  refine r_aload_n (pc := 4) hv 2 rfl rfl ?_
  refine r_callV (pc := 5) (l := []) (av := []) (a := 36) (t := []) hv 3 rfl rfl rfl rfl (rcv_o (by decide) rfl) trivial (hS.1 _ _ _ _ _ (fun r σ2 h => ?_) h)
  obtain ⟨x3, rfl, h⟩ := h
  show v 8 [some (aR 36), none, none, none, none] [aI x3] σ2
  refine r_istore_n (pc := 8) (lo' := [some (aR 36), some (aI x3), none, none, none]) hv 4 rfl rfl ?_
  refine r_iload_n (pc := 9) hv 5 rfl rfl ?_
  refine r_bipush (pc := 10) hv 6 rfl  ?_
  refine r_icmp_ne (pc := 12) hv 7 rfl (fun c => ?_) (fun c => ?_)
  · replace h := h.1 c
    refine r_aload_n (pc := 17) hv 10 rfl rfl ?_
    refine r_getR (pc := 18) (b := 38) hv 11 rfl rfl rfl rfl ?_
    refine r_aload_n (pc := 21) hv 12 rfl rfl ?_
    refine r_getI (pc := 22) hv 13 rfl rfl rfl ?_
    refine r_iload_n (pc := 25) hv 14 rfl rfl ?_
    refine r_iastore (pc := 26) (N := 13) hv 15 rfl rfl rfl h.1 ?_
    replace h := h.2
    obtain ⟨σ4, e_σ4⟩ : ∃ y : St, y = upI σ2 38 (σ2.1 36 2 : Int32).toNatClampNeg x3 := ⟨_, rfl⟩
    rw [← e_σ4]
    replace h := h σ4 e_σ4
    refine r_aload_n (pc := 27) hv 16 rfl rfl ?_
    refine r_getR (pc := 28) (b := 39) hv 17 rfl rfl rfl rfl ?_
    refine r_aload_n (pc := 31) hv 18 rfl rfl ?_
    refine r_getI (pc := 32) hv 19 rfl rfl rfl ?_
    refine r_aload_n (pc := 35) hv 20 rfl rfl ?_
    refine r_getI (pc := 36) hv 21 rfl rfl rfl ?_
    refine r_iastore (pc := 39) (N := 13) hv 22 rfl rfl rfl h.1 ?_
    replace h := h.2
    obtain ⟨σ5, e_σ5⟩ : ∃ y : St, y = upI σ4 39 (σ4.1 36 2 : Int32).toNatClampNeg (σ4.1 36 7) := ⟨_, rfl⟩
    rw [← e_σ5]
    replace h := h σ5 e_σ5
    refine r_iload_n (pc := 40) hv 23 rfl rfl ?_
    refine r_callS (pc := 41) (l := [aI x3]) (av := [aI x3]) (t := []) hv 24 rfl (Or.inl rfl) rfl rfl rfl trivial (hS.1 _ _ _ _ _ (fun r σ6 h => ?_) h)
    obtain ⟨w7, rfl, h_w7, h⟩ := h
    show v 44 [some (aR 36), some (aI x3), none, none, none] [aR w7] σ6
    refine r_astore_n (pc := 44) (lo' := [some (aR 36), some (aI x3), some (aR w7), none, none]) hv 25 rfl rfl ?_
    refine r_iconst (pc := 45) hv 26 rfl  ?_
    refine r_istore_n (pc := 46) (lo' := [some (aR 36), some (aI x3), some (aR w7), some (aI 0), none]) hv 27 rfl rfl ?_
    exact h
  · replace h := h.2 c
    refine r_iconst (pc := 15) hv 8 rfl  ?_
    exact r_zreturn (pc := 16) hv 9 rfl rfl (Or.inl rfl) h
theorem m_X4_parseStatement {S : Sp} (hS : Sys S) {σ : St} {Φ : Rs} (h : ∀ v : Kt, Cl S Φ k_X4_parseStatement v → Wk v → vc_X4_parseStatement_0 S Φ v  σ) : S 55 [aR 36] σ Φ :=
  hS.2 55 M_X4_parseStatement k_X4_parseStatement _ _ _ mkt_X4_parseStatement (Nat.le_of_ble_eq_true rfl) (fun v hv hw => w_X4_parseStatement_0 hS hv hw    σ (h v hv hw))
def vc_X4_verbWord_0 (S : Sp) (Φ : Rs) (v : Kt) (l0 : Int32) (σ : St) : Prop := ((l0 : Int32) = 0 → (Φ [aR 200] σ)) ∧ (¬ ((l0 : Int32) = 0) → (((l0 : Int32) = 1 → (Φ [aR 201] σ)) ∧ (¬ ((l0 : Int32) = 1) → (((l0 : Int32) = 2 → (Φ [aR 202] σ)) ∧ (¬ ((l0 : Int32) = 2) → (((l0 : Int32) = 3 → (Φ [aR 203] σ)) ∧ (¬ ((l0 : Int32) = 3) → (((l0 : Int32) = 4 → (Φ [aR 204] σ)) ∧ (¬ ((l0 : Int32) = 4) → (Φ [aR 205] σ))))))))))
theorem w_X4_verbWord_0 {S : Sp} (hS : Sys S) {Φ : Rs} {v : Kt} (hv : Cl S Φ k_X4_verbWord v) (hw : Wk v) (l0 : Int32) (σ : St) (h : vc_X4_verbWord_0 S Φ v l0 σ) : v 0 [some (aI l0)] [] σ := by
  unfold vc_X4_verbWord_0 at h
  refine r_iload_n (pc := 0) hv 0 rfl rfl ?_
  refine r_tab (pc := 1) hv 1 rfl ?_
  refine ⟨fun c => ?_, fun c => ?_⟩
  · replace h := h.1 c
    show v 36 [some (aI l0)] [] σ
    refine r_ldcS (pc := 36) hv 2 rfl rfl ?_
    exact r_areturn (pc := 38) hv 3 rfl h
  · replace h := h.2 c
    refine ⟨fun c => ?_, fun c => ?_⟩
    · replace h := h.1 c
      show v 39 [some (aI l0)] [] σ
      refine r_ldcS (pc := 39) hv 4 rfl rfl ?_
      exact r_areturn (pc := 41) hv 5 rfl h
    · replace h := h.2 c
      refine ⟨fun c => ?_, fun c => ?_⟩
      · replace h := h.1 c
        show v 42 [some (aI l0)] [] σ
        refine r_ldcS (pc := 42) hv 6 rfl rfl ?_
        exact r_areturn (pc := 44) hv 7 rfl h
      · replace h := h.2 c
        refine ⟨fun c => ?_, fun c => ?_⟩
        · replace h := h.1 c
          show v 45 [some (aI l0)] [] σ
          refine r_ldcS (pc := 45) hv 8 rfl rfl ?_
          exact r_areturn (pc := 47) hv 9 rfl h
        · replace h := h.2 c
          refine ⟨fun c => ?_, fun c => ?_⟩
          · replace h := h.1 c
            show v 48 [some (aI l0)] [] σ
            refine r_ldcS (pc := 48) hv 10 rfl rfl ?_
            exact r_areturn (pc := 50) hv 11 rfl h
          · replace h := h.2 c
            show v 51 [some (aI l0)] [] σ
            refine r_ldcS (pc := 51) hv 12 rfl rfl ?_
            exact r_areturn (pc := 53) hv 13 rfl h
theorem m_X4_verbWord {S : Sp} (hS : Sys S) {l0 : Int32} {σ : St} {Φ : Rs} (h : ∀ v : Kt, Cl S Φ k_X4_verbWord v → Wk v → vc_X4_verbWord_0 S Φ v l0 σ) : S 56 [aI l0] σ Φ :=
  hS.2 56 M_X4_verbWord k_X4_verbWord _ _ _ mkt_X4_verbWord (Nat.le_of_ble_eq_true rfl) (fun v hv hw => w_X4_verbWord_0 hS hv hw   l0 σ (h v hv hw))
def vc_X4_shapeOf_0 (S : Sp) (Φ : Rs) (v : Kt) (l0 : Int32) (σ : St) : Prop := ((l0 : Int32) = 0 → (Φ [aR 206] σ)) ∧ (¬ ((l0 : Int32) = 0) → (((l0 : Int32) = 1 → (Φ [aR 207] σ)) ∧ (¬ ((l0 : Int32) = 1) → (Φ [aR 208] σ))))
theorem w_X4_shapeOf_0 {S : Sp} (hS : Sys S) {Φ : Rs} {v : Kt} (hv : Cl S Φ k_X4_shapeOf v) (hw : Wk v) (l0 : Int32) (σ : St) (h : vc_X4_shapeOf_0 S Φ v l0 σ) : v 0 [some (aI l0)] [] σ := by
  unfold vc_X4_shapeOf_0 at h
  refine r_iload_n (pc := 0) hv 0 rfl rfl ?_
  refine r_look (pc := 1) hv 1 rfl ?_
  refine ⟨fun c => ?_, fun c => ?_⟩
  · replace h := h.1 c
    show v 28 [some (aI l0)] [] σ
    refine r_ldcS (pc := 28) hv 2 rfl rfl ?_
    exact r_areturn (pc := 30) hv 3 rfl h
  · replace h := h.2 c
    refine ⟨fun c => ?_, fun c => ?_⟩
    · replace h := h.1 c
      show v 31 [some (aI l0)] [] σ
      refine r_ldcS (pc := 31) hv 4 rfl rfl ?_
      exact r_areturn (pc := 33) hv 5 rfl h
    · replace h := h.2 c
      show v 34 [some (aI l0)] [] σ
      refine r_ldcS (pc := 34) hv 6 rfl rfl ?_
      exact r_areturn (pc := 36) hv 7 rfl h
theorem m_X4_shapeOf {S : Sp} (hS : Sys S) {l0 : Int32} {σ : St} {Φ : Rs} (h : ∀ v : Kt, Cl S Φ k_X4_shapeOf v → Wk v → vc_X4_shapeOf_0 S Φ v l0 σ) : S 57 [aI l0] σ Φ :=
  hS.2 57 M_X4_shapeOf k_X4_shapeOf _ _ _ mkt_X4_shapeOf (Nat.le_of_ble_eq_true rfl) (fun v hv hw => w_X4_shapeOf_0 hS hv hw   l0 σ (h v hv hw))
def vc_X4_verbHere_2 (S : Sp) (Φ : Rs) (v : Kt) (l1 : Int32) (σ : St) : Prop := ((6 : Int32) ≤ l1 → (Φ [aI (-2)] σ)) ∧ (¬ ((6 : Int32) ≤ l1) → (S 56 [aI l1] σ (fun r σ1 => ∃ w2 : Nat, r = [aR w2] ∧ isStr w2 ∧ (S 62 [aR 36, aR w2] σ1 (fun r σ3 => ∃ x4 : Int32, r = [aI x4] ∧ (((x4 : Int32) = 0 → (v 2 [some (aR 36), some (aI (l1 + 1))] [] σ3)) ∧ (¬ ((x4 : Int32) = 0) → (Φ [aI l1] σ3))))))))
theorem w_X4_verbHere_2 {S : Sp} (hS : Sys S) {Φ : Rs} {v : Kt} (hv : Cl S Φ k_X4_verbHere v) (hw : Wk v) (l1 : Int32) (σ : St) (h : vc_X4_verbHere_2 S Φ v l1 σ) : v 2 [some (aR 36), some (aI l1)] [] σ := by
  unfold vc_X4_verbHere_2 at h
  refine r_iload_n (pc := 2) hv 2 rfl rfl ?_
  refine r_bipush (pc := 3) hv 3 rfl  ?_
  refine r_icmp_ge (pc := 5) hv 4 rfl (fun c => ?_) (fun c => ?_)
  · replace h := h.1 c
    refine r_bipush (pc := 27) hv 14 rfl  ?_
    exact r_ireturn (pc := 29) hv 15 rfl rfl h
  · replace h := h.2 c
    refine r_aload_n (pc := 8) hv 5 rfl rfl ?_
    refine r_iload_n (pc := 9) hv 6 rfl rfl ?_
    refine r_callS (pc := 10) (l := [aI l1]) (av := [aI l1]) (t := [aR 36]) hv 7 rfl (Or.inl rfl) rfl rfl rfl trivial (hS.1 _ _ _ _ _ (fun r σ1 h => ?_) h)
    obtain ⟨w2, rfl, h_w2, h⟩ := h
    show v 13 [some (aR 36), some (aI l1)] [aR w2, aR 36] σ1
    refine r_callV (pc := 13) (l := [aR w2]) (av := [aR w2]) (a := 36) (t := []) hv 8 rfl rfl rfl rfl (rcv_o (by decide) rfl) trivial (hS.1 _ _ _ _ _ (fun r σ3 h => ?_) h)
    obtain ⟨x4, rfl, h⟩ := h
    show v 16 [some (aR 36), some (aI l1)] [aI x4] σ3
    refine r_if_eq (pc := 16) hv 9 rfl (fun c => ?_) (fun c => ?_)
    · replace h := h.1 c
      refine r_iinc (pc := 21) (lo' := [some (aR 36), some (aI (l1 + 1))]) hv 12 rfl rfl rfl ?_
      refine r_goto (pc := 24) hv 13 rfl  ?_
      exact h
    · replace h := h.2 c
      refine r_iload_n (pc := 19) hv 10 rfl rfl ?_
      exact r_ireturn (pc := 20) hv 11 rfl rfl h
def vc_X4_verbHere_0 (S : Sp) (Φ : Rs) (v : Kt) (σ : St) : Prop := v 2 [some (aR 36), some (aI 0)] [] σ
theorem w_X4_verbHere_0 {S : Sp} (hS : Sys S) {Φ : Rs} {v : Kt} (hv : Cl S Φ k_X4_verbHere v) (hw : Wk v) (σ : St) (h : vc_X4_verbHere_0 S Φ v  σ) : v 0 [some (aR 36), none] [] σ := by
  unfold vc_X4_verbHere_0 at h
  refine r_iconst (pc := 0) hv 0 rfl  ?_
  refine r_istore_n (pc := 1) (lo' := [some (aR 36), some (aI 0)]) hv 1 rfl rfl ?_
  exact h
theorem m_X4_verbHere {S : Sp} (hS : Sys S) {σ : St} {Φ : Rs} (h : ∀ v : Kt, Cl S Φ k_X4_verbHere v → Wk v → vc_X4_verbHere_0 S Φ v  σ) : S 58 [aR 36] σ Φ :=
  hS.2 58 M_X4_verbHere k_X4_verbHere _ _ _ mkt_X4_verbHere (Nat.le_of_ble_eq_true rfl) (fun v hv hw => w_X4_verbHere_0 hS hv hw    σ (h v hv hw))
def vc_X4_valueHere_28 (S : Sp) (Φ : Rs) (v : Kt) (l1 : Int32) (σ : St) : Prop := (¬ (σ.1 36 6 : Int32) = 2 → (Φ [aI (-2)] σ)) ∧ ((σ.1 36 6 : Int32) = 2 → (S 61 [aR 36] σ (fun r σ1 => ∃ x2 : Int32, r = [aI x2] ∧ (Φ [aI x2] σ1))))
theorem w_X4_valueHere_28 {S : Sp} (hS : Sys S) {Φ : Rs} {v : Kt} (hv : Cl S Φ k_X4_valueHere v) (hw : Wk v) (l1 : Int32) (σ : St) (h : vc_X4_valueHere_28 S Φ v l1 σ) : v 28 [some (aR 36), some (aI l1)] [] σ := by
  unfold vc_X4_valueHere_28 at h
  refine r_aload_n (pc := 28) hv 15 rfl rfl ?_
  refine r_getI (pc := 29) hv 16 rfl rfl rfl ?_
  refine r_iconst (pc := 32) hv 17 rfl  ?_
  refine r_icmp_ne (pc := 33) hv 18 rfl (fun c => ?_) (fun c => ?_)
  · replace h := h.1 c
    refine r_bipush (pc := 43) hv 22 rfl  ?_
    exact r_ireturn (pc := 45) hv 23 rfl rfl h
  · replace h := h.2 c
    refine r_aload_n (pc := 36) hv 19 rfl rfl ?_
    refine r_callV (pc := 37) (l := []) (av := []) (a := 36) (t := []) hv 20 rfl rfl rfl rfl (rcv_o (by decide) rfl) trivial (hS.1 _ _ _ _ _ (fun r σ1 h => ?_) h)
    obtain ⟨x2, rfl, h⟩ := h
    show v 40 [some (aR 36), some (aI l1)] [aI x2] σ1
    refine r_goto (pc := 40) hv 21 rfl  ?_
    exact r_ireturn (pc := 45) hv 23 rfl rfl h
def vc_X4_valueHere_0 (S : Sp) (Φ : Rs) (v : Kt) (l1 : Int32) (σ : St) : Prop := (¬ (l1 : Int32) = 107 → ((¬ (l1 : Int32) = 102 → (vc_X4_valueHere_28 S Φ v  l1 σ)) ∧ ((l1 : Int32) = 102 → (S 62 [aR 36, aR 214] σ (fun r σ1 => ∃ x2 : Int32, r = [aI x2] ∧ (((x2 : Int32) = 0 → (vc_X4_valueHere_28 S Φ v  l1 σ1)) ∧ (¬ ((x2 : Int32) = 0) → (Φ [aI (-1)] σ1)))))))) ∧ ((l1 : Int32) = 107 → (S 60 [aR 36] σ (fun r σ3 => ∃ x4 : Int32, r = [aI x4] ∧ (Φ [aI x4] σ3))))
theorem w_X4_valueHere_0 {S : Sp} (hS : Sys S) {Φ : Rs} {v : Kt} (hv : Cl S Φ k_X4_valueHere v) (hw : Wk v) (l1 : Int32) (σ : St) (h : vc_X4_valueHere_0 S Φ v l1 σ) : v 0 [some (aR 36), some (aI l1)] [] σ := by
  unfold vc_X4_valueHere_0 at h
  refine r_iload_n (pc := 0) hv 0 rfl rfl ?_
  refine r_bipush (pc := 1) hv 1 rfl  ?_
  refine r_icmp_ne (pc := 3) hv 2 rfl (fun c => ?_) (fun c => ?_)
  · replace h := h.1 c
    refine r_iload_n (pc := 11) hv 6 rfl rfl ?_
    refine r_bipush (pc := 12) hv 7 rfl  ?_
    refine r_icmp_ne (pc := 14) hv 8 rfl (fun c => ?_) (fun c => ?_)
    · replace h := h.1 c
      exact (w_X4_valueHere_28 hS hv hw   l1  σ h)
    · replace h := h.2 c
      refine r_aload_n (pc := 17) hv 9 rfl rfl ?_
      refine r_ldcS (pc := 18) hv 10 rfl rfl ?_
      refine r_callV (pc := 20) (l := [aR 214]) (av := [aR 214]) (a := 36) (t := []) hv 11 rfl rfl rfl rfl (rcv_o (by decide) rfl) trivial (hS.1 _ _ _ _ _ (fun r σ1 h => ?_) h)
      obtain ⟨x2, rfl, h⟩ := h
      show v 23 [some (aR 36), some (aI l1)] [aI x2] σ1
      refine r_if_eq (pc := 23) hv 12 rfl (fun c => ?_) (fun c => ?_)
      · replace h := h.1 c
        exact (w_X4_valueHere_28 hS hv hw   l1  σ1 h)
      · replace h := h.2 c
        refine r_iconst (pc := 26) hv 13 rfl  ?_
        exact r_ireturn (pc := 27) hv 14 rfl rfl h
  · replace h := h.2 c
    refine r_aload_n (pc := 6) hv 3 rfl rfl ?_
    refine r_callV (pc := 7) (l := []) (av := []) (a := 36) (t := []) hv 4 rfl rfl rfl rfl (rcv_o (by decide) rfl) trivial (hS.1 _ _ _ _ _ (fun r σ3 h => ?_) h)
    obtain ⟨x4, rfl, h⟩ := h
    show v 10 [some (aR 36), some (aI l1)] [aI x4] σ3
    exact r_ireturn (pc := 10) hv 5 rfl rfl h
theorem m_X4_valueHere {S : Sp} (hS : Sys S) {l1 : Int32} {σ : St} {Φ : Rs} (h : ∀ v : Kt, Cl S Φ k_X4_valueHere v → Wk v → vc_X4_valueHere_0 S Φ v l1 σ) : S 59 [aR 36, aI l1] σ Φ :=
  hS.2 59 M_X4_valueHere k_X4_valueHere _ _ _ mkt_X4_valueHere (Nat.le_of_ble_eq_true rfl) (fun v hv hw => w_X4_valueHere_0 hS hv hw   l1 σ (h v hv hw))
def vc_X4_kindHere_2 (S : Sp) (Φ : Rs) (v : Kt) (l1 : Int32) (σ : St) : Prop := ((6 : Int32) ≤ l1 → (Φ [aI (-2)] σ)) ∧ (¬ ((6 : Int32) ≤ l1) → (S 22 [aI l1] σ (fun r σ1 => ∃ w2 : Nat, r = [aR w2] ∧ isStr w2 ∧ (S 62 [aR 36, aR w2] σ1 (fun r σ3 => ∃ x4 : Int32, r = [aI x4] ∧ (((x4 : Int32) = 0 → (v 2 [some (aR 36), some (aI (l1 + 1))] [] σ3)) ∧ (¬ ((x4 : Int32) = 0) → (Φ [aI l1] σ3))))))))
theorem w_X4_kindHere_2 {S : Sp} (hS : Sys S) {Φ : Rs} {v : Kt} (hv : Cl S Φ k_X4_kindHere v) (hw : Wk v) (l1 : Int32) (σ : St) (h : vc_X4_kindHere_2 S Φ v l1 σ) : v 2 [some (aR 36), some (aI l1)] [] σ := by
  unfold vc_X4_kindHere_2 at h
  refine r_iload_n (pc := 2) hv 2 rfl rfl ?_
  refine r_bipush (pc := 3) hv 3 rfl  ?_
  refine r_icmp_ge (pc := 5) hv 4 rfl (fun c => ?_) (fun c => ?_)
  · replace h := h.1 c
    refine r_bipush (pc := 27) hv 14 rfl  ?_
    exact r_ireturn (pc := 29) hv 15 rfl rfl h
  · replace h := h.2 c
    refine r_aload_n (pc := 8) hv 5 rfl rfl ?_
    refine r_iload_n (pc := 9) hv 6 rfl rfl ?_
    refine r_callS (pc := 10) (l := [aI l1]) (av := [aI l1]) (t := [aR 36]) hv 7 rfl (Or.inl rfl) rfl rfl rfl trivial (hS.1 _ _ _ _ _ (fun r σ1 h => ?_) h)
    obtain ⟨w2, rfl, h_w2, h⟩ := h
    show v 13 [some (aR 36), some (aI l1)] [aR w2, aR 36] σ1
    refine r_callV (pc := 13) (l := [aR w2]) (av := [aR w2]) (a := 36) (t := []) hv 8 rfl rfl rfl rfl (rcv_o (by decide) rfl) trivial (hS.1 _ _ _ _ _ (fun r σ3 h => ?_) h)
    obtain ⟨x4, rfl, h⟩ := h
    show v 16 [some (aR 36), some (aI l1)] [aI x4] σ3
    refine r_if_eq (pc := 16) hv 9 rfl (fun c => ?_) (fun c => ?_)
    · replace h := h.1 c
      refine r_iinc (pc := 21) (lo' := [some (aR 36), some (aI (l1 + 1))]) hv 12 rfl rfl rfl ?_
      refine r_goto (pc := 24) hv 13 rfl  ?_
      exact h
    · replace h := h.2 c
      refine r_iload_n (pc := 19) hv 10 rfl rfl ?_
      exact r_ireturn (pc := 20) hv 11 rfl rfl h
def vc_X4_kindHere_0 (S : Sp) (Φ : Rs) (v : Kt) (σ : St) : Prop := v 2 [some (aR 36), some (aI 0)] [] σ
theorem w_X4_kindHere_0 {S : Sp} (hS : Sys S) {Φ : Rs} {v : Kt} (hv : Cl S Φ k_X4_kindHere v) (hw : Wk v) (σ : St) (h : vc_X4_kindHere_0 S Φ v  σ) : v 0 [some (aR 36), none] [] σ := by
  unfold vc_X4_kindHere_0 at h
  refine r_iconst (pc := 0) hv 0 rfl  ?_
  refine r_istore_n (pc := 1) (lo' := [some (aR 36), some (aI 0)]) hv 1 rfl rfl ?_
  exact h
theorem m_X4_kindHere {S : Sp} (hS : Sys S) {σ : St} {Φ : Rs} (h : ∀ v : Kt, Cl S Φ k_X4_kindHere v → Wk v → vc_X4_kindHere_0 S Φ v  σ) : S 60 [aR 36] σ Φ :=
  hS.2 60 M_X4_kindHere k_X4_kindHere _ _ _ mkt_X4_kindHere (Nat.le_of_ble_eq_true rfl) (fun v hv hw => w_X4_kindHere_0 hS hv hw    σ (h v hv hw))
def vc_X4_numberHere_7 (S : Sp) (Φ : Rs) (v : Kt) (l1 : Int32) (l2 : Int32) (σ : St) : Prop := ((σ.1 36 8 : Int32) ≤ l2 → (Φ [aI l1] σ)) ∧ (¬ ((σ.1 36 8 : Int32) ≤ l2) → (((σ.1 36 1 : Int32) ≤ l2 → (Φ [aI l1] σ)) ∧ (¬ ((σ.1 36 1 : Int32) ≤ l2) → (vp_in l2 80 ∧ (v 7 [some (aR 36), some (aI (((l1 * 10) + (σ.1 37 (l2 : Int32).toNatClampNeg)) - 48)), some (aI (l2 + 1))] [] σ)))))
theorem w_X4_numberHere_7 {S : Sp} (hS : Sys S) {Φ : Rs} {v : Kt} (hv : Cl S Φ k_X4_numberHere v) (hw : Wk v) (l1 : Int32) (l2 : Int32) (σ : St) (h : vc_X4_numberHere_7 S Φ v l1 l2 σ) : v 7 [some (aR 36), some (aI l1), some (aI l2)] [] σ := by
  unfold vc_X4_numberHere_7 at h
  refine r_iload_n (pc := 7) hv 5 rfl rfl ?_
  refine r_aload_n (pc := 8) hv 6 rfl rfl ?_
  refine r_getI (pc := 9) hv 7 rfl rfl rfl ?_
  refine r_icmp_ge (pc := 12) hv 8 rfl (fun c => ?_) (fun c => ?_)
  · replace h := h.1 c
    refine r_iload_n (pc := 44) hv 26 rfl rfl ?_
    exact r_ireturn (pc := 45) hv 27 rfl rfl h
  · replace h := h.2 c
    refine r_iload_n (pc := 15) hv 9 rfl rfl ?_
    refine r_aload_n (pc := 16) hv 10 rfl rfl ?_
    refine r_getI (pc := 17) hv 11 rfl rfl rfl ?_
    refine r_icmp_ge (pc := 20) hv 12 rfl (fun c => ?_) (fun c => ?_)
    · replace h := h.1 c
      refine r_iload_n (pc := 44) hv 26 rfl rfl ?_
      exact r_ireturn (pc := 45) hv 27 rfl rfl h
    · replace h := h.2 c
      refine r_iload_n (pc := 23) hv 13 rfl rfl ?_
      refine r_bipush (pc := 24) hv 14 rfl  ?_
      refine r_imul (pc := 26) hv 15 rfl  ?_
      refine r_aload_n (pc := 27) hv 16 rfl rfl ?_
      refine r_getR (pc := 28) (b := 37) hv 17 rfl rfl rfl rfl ?_
      refine r_iload_n (pc := 31) hv 18 rfl rfl ?_
      refine r_baload (pc := 32) (N := 80) hv 19 rfl rfl rfl h.1 ?_
      replace h := h.2
      refine r_iadd (pc := 33) hv 20 rfl  ?_
      refine r_bipush (pc := 34) hv 21 rfl  ?_
      refine r_isub (pc := 36) hv 22 rfl  ?_
      refine r_istore_n (pc := 37) (lo' := [some (aR 36), some (aI (((l1 * 10) + (σ.1 37 (l2 : Int32).toNatClampNeg)) - 48)), some (aI l2)]) hv 23 rfl rfl ?_
      refine r_iinc (pc := 38) (lo' := [some (aR 36), some (aI (((l1 * 10) + (σ.1 37 (l2 : Int32).toNatClampNeg)) - 48)), some (aI (l2 + 1))]) hv 24 rfl rfl rfl ?_
      refine r_goto (pc := 41) hv 25 rfl  ?_
      exact h
def vc_X4_numberHere_0 (S : Sp) (Φ : Rs) (v : Kt) (σ : St) : Prop := v 7 [some (aR 36), some (aI 0), some (aI (σ.1 36 7))] [] σ
theorem w_X4_numberHere_0 {S : Sp} (hS : Sys S) {Φ : Rs} {v : Kt} (hv : Cl S Φ k_X4_numberHere v) (hw : Wk v) (σ : St) (h : vc_X4_numberHere_0 S Φ v  σ) : v 0 [some (aR 36), none, none] [] σ := by
  unfold vc_X4_numberHere_0 at h
  refine r_iconst (pc := 0) hv 0 rfl  ?_
  refine r_istore_n (pc := 1) (lo' := [some (aR 36), some (aI 0), none]) hv 1 rfl rfl ?_
  refine r_aload_n (pc := 2) hv 2 rfl rfl ?_
  refine r_getI (pc := 3) hv 3 rfl rfl rfl ?_
  refine r_istore_n (pc := 6) (lo' := [some (aR 36), some (aI 0), some (aI (σ.1 36 7))]) hv 4 rfl rfl ?_
  exact h
theorem m_X4_numberHere {S : Sp} (hS : Sys S) {σ : St} {Φ : Rs} (h : ∀ v : Kt, Cl S Φ k_X4_numberHere v → Wk v → vc_X4_numberHere_0 S Φ v  σ) : S 61 [aR 36] σ Φ :=
  hS.2 61 M_X4_numberHere k_X4_numberHere _ _ _ mkt_X4_numberHere (Nat.le_of_ble_eq_true rfl) (fun v hv hw => w_X4_numberHere_0 hS hv hw    σ (h v hv hw))
def vc_X4_isWordHere_28 (S : Sp) (Φ : Rs) (v : Kt) (w : Nat) (l2 : Int32) (σ : St) : Prop := S 242 [aR w] σ (fun r σ1 => ∃ x2 : Int32, r = [aI x2] ∧ (((x2 : Int32) ≤ l2 → (Φ [aI 1] σ1)) ∧ (¬ ((x2 : Int32) ≤ l2) → (((σ1.1 36 1 : Int32) ≤ ((σ1.1 36 7) + l2) → (Φ [aI 1] σ1)) ∧ (¬ ((σ1.1 36 1 : Int32) ≤ ((σ1.1 36 7) + l2)) → (vp_in ((σ1.1 36 7) + l2) 80 ∧ (S 243 [aR w, aI l2] σ1 (fun r σ3 => ∃ x4 : Int32, r = [aI x4] ∧ (((σ1.1 37 ((σ1.1 36 7) + l2 : Int32).toNatClampNeg : Int32) = x4 → (v 28 [some (aR 36), some (aR w), some (aI (l2 + 1))] [] σ3)) ∧ (¬ ((σ1.1 37 ((σ1.1 36 7) + l2 : Int32).toNatClampNeg : Int32) = x4) → (Φ [aI 0] σ3)))))))))))
theorem w_X4_isWordHere_28 {S : Sp} (hS : Sys S) {Φ : Rs} {v : Kt} (hv : Cl S Φ k_X4_isWordHere v) (hw : Wk v) (w : Nat) (h_w : isStr w) (l2 : Int32) (σ : St) (h : vc_X4_isWordHere_28 S Φ v w l2 σ) : v 28 [some (aR 36), some (aR w), some (aI l2)] [] σ := by
  unfold vc_X4_isWordHere_28 at h
  refine r_iload_n (pc := 28) hv 16 rfl rfl ?_
  refine r_aload_n (pc := 29) hv 17 rfl rfl ?_
  refine r_callV (pc := 30) (l := []) (av := []) (a := w) (t := [aI l2]) hv 18 rfl rfl rfl rfl (rcv_s h_w) trivial (hS.1 _ _ _ _ _ (fun r σ1 h => ?_) h)
  obtain ⟨x2, rfl, h⟩ := h
  show v 33 [some (aR 36), some (aR w), some (aI l2)] [aI x2, aI l2] σ1
  refine r_icmp_ge (pc := 33) hv 19 rfl (fun c => ?_) (fun c => ?_)
  · replace h := h.1 c
    refine r_iconst (pc := 76) hv 42 rfl  ?_
    exact r_zreturn (pc := 77) hv 43 rfl rfl (Or.inr rfl) h
  · replace h := h.2 c
    refine r_aload_n (pc := 36) hv 20 rfl rfl ?_
    refine r_getI (pc := 37) hv 21 rfl rfl rfl ?_
    refine r_iload_n (pc := 40) hv 22 rfl rfl ?_
    refine r_iadd (pc := 41) hv 23 rfl  ?_
    refine r_aload_n (pc := 42) hv 24 rfl rfl ?_
    refine r_getI (pc := 43) hv 25 rfl rfl rfl ?_
    refine r_icmp_ge (pc := 46) hv 26 rfl (fun c => ?_) (fun c => ?_)
    · replace h := h.1 c
      refine r_iconst (pc := 76) hv 42 rfl  ?_
      exact r_zreturn (pc := 77) hv 43 rfl rfl (Or.inr rfl) h
    · replace h := h.2 c
      refine r_aload_n (pc := 49) hv 27 rfl rfl ?_
      refine r_getR (pc := 50) (b := 37) hv 28 rfl rfl rfl rfl ?_
      refine r_aload_n (pc := 53) hv 29 rfl rfl ?_
      refine r_getI (pc := 54) hv 30 rfl rfl rfl ?_
      refine r_iload_n (pc := 57) hv 31 rfl rfl ?_
      refine r_iadd (pc := 58) hv 32 rfl  ?_
      refine r_baload (pc := 59) (N := 80) hv 33 rfl rfl rfl h.1 ?_
      replace h := h.2
      refine r_aload_n (pc := 60) hv 34 rfl rfl ?_
      refine r_iload_n (pc := 61) hv 35 rfl rfl ?_
      refine r_callV (pc := 62) (l := [aI l2]) (av := [aI l2]) (a := w) (t := [aI (σ1.1 37 ((σ1.1 36 7) + l2 : Int32).toNatClampNeg)]) hv 36 rfl rfl rfl rfl (rcv_s h_w) trivial (hS.1 _ _ _ _ _ (fun r σ3 h => ?_) h)
      obtain ⟨x4, rfl, h⟩ := h
      show v 65 [some (aR 36), some (aR w), some (aI l2)] [aI x4, aI (σ1.1 37 ((σ1.1 36 7) + l2 : Int32).toNatClampNeg)] σ3
      refine r_icmp_eq (pc := 65) hv 37 rfl (fun c => ?_) (fun c => ?_)
      · replace h := h.1 c
        refine r_iinc (pc := 70) (lo' := [some (aR 36), some (aR w), some (aI (l2 + 1))]) hv 40 rfl rfl rfl ?_
        refine r_goto (pc := 73) hv 41 rfl  ?_
        exact h
      · replace h := h.2 c
        refine r_iconst (pc := 68) hv 38 rfl  ?_
        exact r_zreturn (pc := 69) hv 39 rfl rfl (Or.inl rfl) h
def vc_X4_isWordHere_0 (S : Sp) (Φ : Rs) (v : Kt) (w : Nat) (σ : St) : Prop := (¬ (σ.1 36 6 : Int32) = 1 → (Φ [aI 0] σ)) ∧ ((σ.1 36 6 : Int32) = 1 → (S 242 [aR w] σ (fun r σ1 => ∃ x2 : Int32, r = [aI x2] ∧ ((((σ.1 36 8) - (σ.1 36 7) : Int32) = x2 → (v 28 [some (aR 36), some (aR w), some (aI 0)] [] σ1)) ∧ (¬ (((σ.1 36 8) - (σ.1 36 7) : Int32) = x2) → (Φ [aI 0] σ1))))))
theorem w_X4_isWordHere_0 {S : Sp} (hS : Sys S) {Φ : Rs} {v : Kt} (hv : Cl S Φ k_X4_isWordHere v) (hw : Wk v) (w : Nat) (h_w : isStr w) (σ : St) (h : vc_X4_isWordHere_0 S Φ v w σ) : v 0 [some (aR 36), some (aR w), none] [] σ := by
  unfold vc_X4_isWordHere_0 at h
  refine r_aload_n (pc := 0) hv 0 rfl rfl ?_
  refine r_getI (pc := 1) hv 1 rfl rfl rfl ?_
  refine r_iconst (pc := 4) hv 2 rfl  ?_
  refine r_icmp_ne (pc := 5) hv 3 rfl (fun c => ?_) (fun c => ?_)
  · replace h := h.1 c
    refine r_iconst (pc := 24) hv 12 rfl  ?_
    exact r_zreturn (pc := 25) hv 13 rfl rfl (Or.inl rfl) h
  · replace h := h.2 c
    refine r_aload_n (pc := 8) hv 4 rfl rfl ?_
    refine r_getI (pc := 9) hv 5 rfl rfl rfl ?_
    refine r_aload_n (pc := 12) hv 6 rfl rfl ?_
    refine r_getI (pc := 13) hv 7 rfl rfl rfl ?_
    refine r_isub (pc := 16) hv 8 rfl  ?_
    refine r_aload_n (pc := 17) hv 9 rfl rfl ?_
    refine r_callV (pc := 18) (l := []) (av := []) (a := w) (t := [aI ((σ.1 36 8) - (σ.1 36 7))]) hv 10 rfl rfl rfl rfl (rcv_s h_w) trivial (hS.1 _ _ _ _ _ (fun r σ1 h => ?_) h)
    obtain ⟨x2, rfl, h⟩ := h
    show v 21 [some (aR 36), some (aR w), none] [aI x2, aI ((σ.1 36 8) - (σ.1 36 7))] σ1
    refine r_icmp_eq (pc := 21) hv 11 rfl (fun c => ?_) (fun c => ?_)
    · replace h := h.1 c
      refine r_iconst (pc := 26) hv 14 rfl  ?_
      refine r_istore_n (pc := 27) (lo' := [some (aR 36), some (aR w), some (aI 0)]) hv 15 rfl rfl ?_
      exact h
    · replace h := h.2 c
      refine r_iconst (pc := 24) hv 12 rfl  ?_
      exact r_zreturn (pc := 25) hv 13 rfl rfl (Or.inl rfl) h
theorem m_X4_isWordHere {S : Sp} (hS : Sys S) {w : Nat} (h_w : isStr w) {σ : St} {Φ : Rs} (h : ∀ v : Kt, Cl S Φ k_X4_isWordHere v → Wk v → vc_X4_isWordHere_0 S Φ v w σ) : S 62 [aR 36, aR w] σ Φ :=
  hS.2 62 M_X4_isWordHere k_X4_isWordHere _ _ _ mkt_X4_isWordHere (Nat.le_of_ble_eq_true rfl) (fun v hv hw => w_X4_isWordHere_0 hS hv hw w h_w  σ (h v hv hw))
def vc_X4_nextToken_166 (S : Sp) (Φ : Rs) (v : Kt) (l1 : Int32) (σ : St) : Prop := (¬ (σ.1 36 6 : Int32) = 2 → (Φ [] σ)) ∧ ((σ.1 36 6 : Int32) = 2 → ((((σ.1 36 8) - (σ.1 36 7) : Int32) ≤ 4 → (Φ [] σ)) ∧ (¬ (((σ.1 36 8) - (σ.1 36 7) : Int32) ≤ 4) → (∀ σ1 : St, σ1 = upI σ 36 6 4 → (Φ [] σ1)))))
theorem w_X4_nextToken_166 {S : Sp} (hS : Sys S) {Φ : Rs} {v : Kt} (hv : Cl S Φ k_X4_nextToken v) (hw : Wk v) (l1 : Int32) (σ : St) (h : vc_X4_nextToken_166 S Φ v l1 σ) : v 166 [some (aR 36), some (aI l1)] [] σ := by
  unfold vc_X4_nextToken_166 at h
  refine r_aload_n (pc := 166) hv 85 rfl rfl ?_
  refine r_getI (pc := 167) hv 86 rfl rfl rfl ?_
  refine r_iconst (pc := 170) hv 87 rfl  ?_
  refine r_icmp_ne (pc := 171) hv 88 rfl (fun c => ?_) (fun c => ?_)
  · replace h := h.1 c
    exact r_return (pc := 192) hv 99 rfl h
  · replace h := h.2 c
    refine r_aload_n (pc := 174) hv 89 rfl rfl ?_
    refine r_getI (pc := 175) hv 90 rfl rfl rfl ?_
    refine r_aload_n (pc := 178) hv 91 rfl rfl ?_
    refine r_getI (pc := 179) hv 92 rfl rfl rfl ?_
    refine r_isub (pc := 182) hv 93 rfl  ?_
    refine r_iconst (pc := 183) hv 94 rfl  ?_
    refine r_icmp_le (pc := 184) hv 95 rfl (fun c => ?_) (fun c => ?_)
    · replace h := h.1 c
      exact r_return (pc := 192) hv 99 rfl h
    · replace h := h.2 c
      refine r_aload_n (pc := 187) hv 96 rfl rfl ?_
      refine r_iconst (pc := 188) hv 97 rfl  ?_
      refine r_putI (pc := 189) hv 98 rfl rfl rfl ?_
      obtain ⟨σ1, e_σ1⟩ : ∃ y : St, y = upI σ 36 6 4 := ⟨_, rfl⟩
      rw [← e_σ1]
      replace h := h σ1 e_σ1
      exact r_return (pc := 192) hv 99 rfl h
def vc_X4_nextToken_119 (S : Sp) (Φ : Rs) (v : Kt) (l1 : Int32) (σ : St) : Prop := ((l1 : Int32) = 0 → (vc_X4_nextToken_166 S Φ v  l1 σ)) ∧ (¬ ((l1 : Int32) = 0) → (((σ.1 36 1 : Int32) ≤ (σ.1 36 8) → (vc_X4_nextToken_166 S Φ v  l1 σ)) ∧ (¬ ((σ.1 36 1 : Int32) ≤ (σ.1 36 8)) → (vp_in (σ.1 36 8) 80 ∧ (S 64 [aI (σ.1 37 (σ.1 36 8 : Int32).toNatClampNeg)] σ (fun r σ1 => ∃ x2 : Int32, r = [aI x2] ∧ ((¬ (x2 : Int32) = (σ1.1 36 6) → (vc_X4_nextToken_166 S Φ v  l1 σ1)) ∧ ((x2 : Int32) = (σ1.1 36 6) → (∀ σ3 : St, σ3 = upI σ1 36 8 ((σ1.1 36 8) + 1) → (v 119 [some (aR 36), some (aI l1)] [] σ3))))))))))
theorem w_X4_nextToken_119 {S : Sp} (hS : Sys S) {Φ : Rs} {v : Kt} (hv : Cl S Φ k_X4_nextToken v) (hw : Wk v) (l1 : Int32) (σ : St) (h : vc_X4_nextToken_119 S Φ v l1 σ) : v 119 [some (aR 36), some (aI l1)] [] σ := by
  unfold vc_X4_nextToken_119 at h
  refine r_iload_n (pc := 119) hv 62 rfl rfl ?_
  refine r_if_eq (pc := 120) hv 63 rfl (fun c => ?_) (fun c => ?_)
  · replace h := h.1 c
    exact (w_X4_nextToken_166 hS hv hw   l1  σ h)
  · replace h := h.2 c
    refine r_aload_n (pc := 123) hv 64 rfl rfl ?_
    refine r_getI (pc := 124) hv 65 rfl rfl rfl ?_
    refine r_aload_n (pc := 127) hv 66 rfl rfl ?_
    refine r_getI (pc := 128) hv 67 rfl rfl rfl ?_
    refine r_icmp_ge (pc := 131) hv 68 rfl (fun c => ?_) (fun c => ?_)
    · replace h := h.1 c
      exact (w_X4_nextToken_166 hS hv hw   l1  σ h)
    · replace h := h.2 c
      refine r_aload_n (pc := 134) hv 69 rfl rfl ?_
      refine r_getR (pc := 135) (b := 37) hv 70 rfl rfl rfl rfl ?_
      refine r_aload_n (pc := 138) hv 71 rfl rfl ?_
      refine r_getI (pc := 139) hv 72 rfl rfl rfl ?_
      refine r_baload (pc := 142) (N := 80) hv 73 rfl rfl rfl h.1 ?_
      replace h := h.2
      refine r_callS (pc := 143) (l := [aI (σ.1 37 (σ.1 36 8 : Int32).toNatClampNeg)]) (av := [aI (σ.1 37 (σ.1 36 8 : Int32).toNatClampNeg)]) (t := []) hv 74 rfl (Or.inl rfl) rfl rfl rfl trivial (hS.1 _ _ _ _ _ (fun r σ1 h => ?_) h)
      obtain ⟨x2, rfl, h⟩ := h
      show v 146 [some (aR 36), some (aI l1)] [aI x2] σ1
      refine r_aload_n (pc := 146) hv 75 rfl rfl ?_
      refine r_getI (pc := 147) hv 76 rfl rfl rfl ?_
      refine r_icmp_ne (pc := 150) hv 77 rfl (fun c => ?_) (fun c => ?_)
      · replace h := h.1 c
        exact (w_X4_nextToken_166 hS hv hw   l1  σ1 h)
      · replace h := h.2 c
        refine r_aload_n (pc := 153) hv 78 rfl rfl ?_
        refine r_dup (pc := 154) hv 79 rfl trivial ?_
        refine r_getI (pc := 155) hv 80 rfl rfl rfl ?_
        refine r_iconst (pc := 158) hv 81 rfl  ?_
        refine r_iadd (pc := 159) hv 82 rfl  ?_
        refine r_putI (pc := 160) hv 83 rfl rfl rfl ?_
        obtain ⟨σ3, e_σ3⟩ : ∃ y : St, y = upI σ1 36 8 ((σ1.1 36 8) + 1) := ⟨_, rfl⟩
        rw [← e_σ3]
        replace h := h σ3 e_σ3
        refine r_goto (pc := 163) hv 84 rfl  ?_
        exact h
def vc_X4_nextToken_118 (S : Sp) (Φ : Rs) (v : Kt) (s0 : Int32) (σ : St) : Prop := v 119 [some (aR 36), some (aI s0)] [] σ
theorem w_X4_nextToken_118 {S : Sp} (hS : Sys S) {Φ : Rs} {v : Kt} (hv : Cl S Φ k_X4_nextToken v) (hw : Wk v) (s0 : Int32) (σ : St) (h : vc_X4_nextToken_118 S Φ v s0 σ) : v 118 [some (aR 36), none] [aI s0] σ := by
  unfold vc_X4_nextToken_118 at h
  refine r_istore_n (pc := 118) (lo' := [some (aR 36), some (aI s0)]) hv 61 rfl rfl ?_
  exact h
def vc_X4_nextToken_113 (S : Sp) (Φ : Rs) (v : Kt) (σ : St) : Prop := vc_X4_nextToken_118 S Φ v  1 σ
theorem w_X4_nextToken_113 {S : Sp} (hS : Sys S) {Φ : Rs} {v : Kt} (hv : Cl S Φ k_X4_nextToken v) (hw : Wk v) (σ : St) (h : vc_X4_nextToken_113 S Φ v  σ) : v 113 [some (aR 36), none] [] σ := by
  unfold vc_X4_nextToken_113 at h
  refine r_iconst (pc := 113) hv 58 rfl  ?_
  refine r_goto (pc := 114) hv 59 rfl  ?_
  exact (w_X4_nextToken_118 hS hv hw   1  σ h)
def vc_X4_nextToken_46 (S : Sp) (Φ : Rs) (v : Kt) (σ : St) : Prop := ∀ σ1 : St, σ1 = upI σ 36 8 (σ.1 36 7) → (((σ1.1 36 7 : Int32) < (σ1.1 36 1) → (vp_in (σ1.1 36 7) 80 ∧ (S 64 [aI (σ1.1 37 (σ1.1 36 7 : Int32).toNatClampNeg)] σ1 (fun r σ2 => ∃ x3 : Int32, r = [aI x3] ∧ (∀ σ4 : St, σ4 = upI σ2 36 6 x3 → (∀ σ5 : St, σ5 = upI σ4 36 8 ((σ4.1 36 8) + 1) → (((σ5.1 36 6 : Int32) = 1 → (vc_X4_nextToken_113 S Φ v   σ5)) ∧ (¬ ((σ5.1 36 6 : Int32) = 1) → ((¬ (σ5.1 36 6 : Int32) = 2 → (vc_X4_nextToken_118 S Φ v  0 σ5)) ∧ ((σ5.1 36 6 : Int32) = 2 → (vc_X4_nextToken_113 S Φ v   σ5))))))))))) ∧ (¬ ((σ1.1 36 7 : Int32) < (σ1.1 36 1)) → (∀ σ6 : St, σ6 = upI σ1 36 6 0 → (Φ [] σ6))))
theorem w_X4_nextToken_46 {S : Sp} (hS : Sys S) {Φ : Rs} {v : Kt} (hv : Cl S Φ k_X4_nextToken v) (hw : Wk v) (σ : St) (h : vc_X4_nextToken_46 S Φ v  σ) : v 46 [some (aR 36), none] [] σ := by
  unfold vc_X4_nextToken_46 at h
  refine r_aload_n (pc := 46) hv 23 rfl rfl ?_
  refine r_aload_n (pc := 47) hv 24 rfl rfl ?_
  refine r_getI (pc := 48) hv 25 rfl rfl rfl ?_
  refine r_putI (pc := 51) hv 26 rfl rfl rfl ?_
  obtain ⟨σ1, e_σ1⟩ : ∃ y : St, y = upI σ 36 8 (σ.1 36 7) := ⟨_, rfl⟩
  rw [← e_σ1]
  replace h := h σ1 e_σ1
  refine r_aload_n (pc := 54) hv 27 rfl rfl ?_
  refine r_getI (pc := 55) hv 28 rfl rfl rfl ?_
  refine r_aload_n (pc := 58) hv 29 rfl rfl ?_
  refine r_getI (pc := 59) hv 30 rfl rfl rfl ?_
  refine r_icmp_lt (pc := 62) hv 31 rfl (fun c => ?_) (fun c => ?_)
  · replace h := h.1 c
    refine r_aload_n (pc := 71) hv 36 rfl rfl ?_
    refine r_aload_n (pc := 72) hv 37 rfl rfl ?_
    refine r_getR (pc := 73) (b := 37) hv 38 rfl rfl rfl rfl ?_
    refine r_aload_n (pc := 76) hv 39 rfl rfl ?_
    refine r_getI (pc := 77) hv 40 rfl rfl rfl ?_
    refine r_baload (pc := 80) (N := 80) hv 41 rfl rfl rfl h.1 ?_
    replace h := h.2
    refine r_callS (pc := 81) (l := [aI (σ1.1 37 (σ1.1 36 7 : Int32).toNatClampNeg)]) (av := [aI (σ1.1 37 (σ1.1 36 7 : Int32).toNatClampNeg)]) (t := [aR 36]) hv 42 rfl (Or.inl rfl) rfl rfl rfl trivial (hS.1 _ _ _ _ _ (fun r σ2 h => ?_) h)
    obtain ⟨x3, rfl, h⟩ := h
    show v 84 [some (aR 36), none] [aI x3, aR 36] σ2
    refine r_putI (pc := 84) hv 43 rfl rfl rfl ?_
    obtain ⟨σ4, e_σ4⟩ : ∃ y : St, y = upI σ2 36 6 x3 := ⟨_, rfl⟩
    rw [← e_σ4]
    replace h := h σ4 e_σ4
    refine r_aload_n (pc := 87) hv 44 rfl rfl ?_
    refine r_dup (pc := 88) hv 45 rfl trivial ?_
    refine r_getI (pc := 89) hv 46 rfl rfl rfl ?_
    refine r_iconst (pc := 92) hv 47 rfl  ?_
    refine r_iadd (pc := 93) hv 48 rfl  ?_
    refine r_putI (pc := 94) hv 49 rfl rfl rfl ?_
    obtain ⟨σ5, e_σ5⟩ : ∃ y : St, y = upI σ4 36 8 ((σ4.1 36 8) + 1) := ⟨_, rfl⟩
    rw [← e_σ5]
    replace h := h σ5 e_σ5
    refine r_aload_n (pc := 97) hv 50 rfl rfl ?_
    refine r_getI (pc := 98) hv 51 rfl rfl rfl ?_
    refine r_iconst (pc := 101) hv 52 rfl  ?_
    refine r_icmp_eq (pc := 102) hv 53 rfl (fun c => ?_) (fun c => ?_)
    · replace h := h.1 c
      exact (w_X4_nextToken_113 hS hv hw     σ5 h)
    · replace h := h.2 c
      refine r_aload_n (pc := 105) hv 54 rfl rfl ?_
      refine r_getI (pc := 106) hv 55 rfl rfl rfl ?_
      refine r_iconst (pc := 109) hv 56 rfl  ?_
      refine r_icmp_ne (pc := 110) hv 57 rfl (fun c => ?_) (fun c => ?_)
      · replace h := h.1 c
        refine r_iconst (pc := 117) hv 60 rfl  ?_
        exact (w_X4_nextToken_118 hS hv hw   0  σ5 h)
      · replace h := h.2 c
        exact (w_X4_nextToken_113 hS hv hw     σ5 h)
  · replace h := h.2 c
    refine r_aload_n (pc := 65) hv 32 rfl rfl ?_
    refine r_iconst (pc := 66) hv 33 rfl  ?_
    refine r_putI (pc := 67) hv 34 rfl rfl rfl ?_
    obtain ⟨σ6, e_σ6⟩ : ∃ y : St, y = upI σ1 36 6 0 := ⟨_, rfl⟩
    rw [← e_σ6]
    replace h := h σ6 e_σ6
    exact r_return (pc := 70) hv 35 rfl h
def vc_X4_nextToken_8 (S : Sp) (Φ : Rs) (v : Kt) (σ : St) : Prop := ((σ.1 36 1 : Int32) ≤ (σ.1 36 7) → (vc_X4_nextToken_46 S Φ v   σ)) ∧ (¬ ((σ.1 36 1 : Int32) ≤ (σ.1 36 7)) → (vp_in (σ.1 36 7) 80 ∧ ((¬ (σ.1 37 (σ.1 36 7 : Int32).toNatClampNeg : Int32) = 32 → (vc_X4_nextToken_46 S Φ v   σ)) ∧ ((σ.1 37 (σ.1 36 7 : Int32).toNatClampNeg : Int32) = 32 → (∀ σ1 : St, σ1 = upI σ 36 7 ((σ.1 36 7) + 1) → (v 8 [some (aR 36), none] [] σ1))))))
theorem w_X4_nextToken_8 {S : Sp} (hS : Sys S) {Φ : Rs} {v : Kt} (hv : Cl S Φ k_X4_nextToken v) (hw : Wk v) (σ : St) (h : vc_X4_nextToken_8 S Φ v  σ) : v 8 [some (aR 36), none] [] σ := by
  unfold vc_X4_nextToken_8 at h
  refine r_aload_n (pc := 8) hv 4 rfl rfl ?_
  refine r_getI (pc := 9) hv 5 rfl rfl rfl ?_
  refine r_aload_n (pc := 12) hv 6 rfl rfl ?_
  refine r_getI (pc := 13) hv 7 rfl rfl rfl ?_
  refine r_icmp_ge (pc := 16) hv 8 rfl (fun c => ?_) (fun c => ?_)
  · replace h := h.1 c
    exact (w_X4_nextToken_46 hS hv hw     σ h)
  · replace h := h.2 c
    refine r_aload_n (pc := 19) hv 9 rfl rfl ?_
    refine r_getR (pc := 20) (b := 37) hv 10 rfl rfl rfl rfl ?_
    refine r_aload_n (pc := 23) hv 11 rfl rfl ?_
    refine r_getI (pc := 24) hv 12 rfl rfl rfl ?_
    refine r_baload (pc := 27) (N := 80) hv 13 rfl rfl rfl h.1 ?_
    replace h := h.2
    refine r_bipush (pc := 28) hv 14 rfl  ?_
    refine r_icmp_ne (pc := 30) hv 15 rfl (fun c => ?_) (fun c => ?_)
    · replace h := h.1 c
      exact (w_X4_nextToken_46 hS hv hw     σ h)
    · replace h := h.2 c
      refine r_aload_n (pc := 33) hv 16 rfl rfl ?_
      refine r_dup (pc := 34) hv 17 rfl trivial ?_
      refine r_getI (pc := 35) hv 18 rfl rfl rfl ?_
      refine r_iconst (pc := 38) hv 19 rfl  ?_
      refine r_iadd (pc := 39) hv 20 rfl  ?_
      refine r_putI (pc := 40) hv 21 rfl rfl rfl ?_
      obtain ⟨σ1, e_σ1⟩ : ∃ y : St, y = upI σ 36 7 ((σ.1 36 7) + 1) := ⟨_, rfl⟩
      rw [← e_σ1]
      replace h := h σ1 e_σ1
      refine r_goto (pc := 43) hv 22 rfl  ?_
      exact h
def vc_X4_nextToken_0 (S : Sp) (Φ : Rs) (v : Kt) (σ : St) : Prop := ∀ σ1 : St, σ1 = upI σ 36 7 (σ.1 36 8) → (v 8 [some (aR 36), none] [] σ1)
theorem w_X4_nextToken_0 {S : Sp} (hS : Sys S) {Φ : Rs} {v : Kt} (hv : Cl S Φ k_X4_nextToken v) (hw : Wk v) (σ : St) (h : vc_X4_nextToken_0 S Φ v  σ) : v 0 [some (aR 36), none] [] σ := by
  unfold vc_X4_nextToken_0 at h
  refine r_aload_n (pc := 0) hv 0 rfl rfl ?_
  refine r_aload_n (pc := 1) hv 1 rfl rfl ?_
  refine r_getI (pc := 2) hv 2 rfl rfl rfl ?_
  refine r_putI (pc := 5) hv 3 rfl rfl rfl ?_
  obtain ⟨σ1, e_σ1⟩ : ∃ y : St, y = upI σ 36 7 (σ.1 36 8) := ⟨_, rfl⟩
  rw [← e_σ1]
  replace h := h σ1 e_σ1
  exact h
theorem m_X4_nextToken {S : Sp} (hS : Sys S) {σ : St} {Φ : Rs} (h : ∀ v : Kt, Cl S Φ k_X4_nextToken v → Wk v → vc_X4_nextToken_0 S Φ v  σ) : S 63 [aR 36] σ Φ :=
  hS.2 63 M_X4_nextToken k_X4_nextToken _ _ _ mkt_X4_nextToken (Nat.le_of_ble_eq_true rfl) (fun v hv hw => w_X4_nextToken_0 hS hv hw    σ (h v hv hw))
def vc_X4_sortOf_28 (S : Sp) (Φ : Rs) (v : Kt) (l0 : Int32) (σ : St) : Prop := (¬ (l0 : Int32) = 59 → (Φ [aI 4] σ)) ∧ ((l0 : Int32) = 59 → (Φ [aI 3] σ))
theorem w_X4_sortOf_28 {S : Sp} (hS : Sys S) {Φ : Rs} {v : Kt} (hv : Cl S Φ k_X4_sortOf v) (hw : Wk v) (l0 : Int32) (σ : St) (h : vc_X4_sortOf_28 S Φ v l0 σ) : v 28 [some (aI l0)] [] σ := by
  unfold vc_X4_sortOf_28 at h
  refine r_iload_n (pc := 28) hv 16 rfl rfl ?_
  refine r_bipush (pc := 29) hv 17 rfl  ?_
  refine r_icmp_ne (pc := 31) hv 18 rfl (fun c => ?_) (fun c => ?_)
  · replace h := h.1 c
    refine r_iconst (pc := 38) hv 21 rfl  ?_
    exact r_ireturn (pc := 39) hv 22 rfl rfl h
  · replace h := h.2 c
    refine r_iconst (pc := 34) hv 19 rfl  ?_
    refine r_goto (pc := 35) hv 20 rfl  ?_
    exact r_ireturn (pc := 39) hv 22 rfl rfl h
def vc_X4_sortOf_14 (S : Sp) (Φ : Rs) (v : Kt) (l0 : Int32) (σ : St) : Prop := ((l0 : Int32) < 48 → (vc_X4_sortOf_28 S Φ v  l0 σ)) ∧ (¬ ((l0 : Int32) < 48) → (((57 : Int32) < l0 → (vc_X4_sortOf_28 S Φ v  l0 σ)) ∧ (¬ ((57 : Int32) < l0) → (Φ [aI 2] σ))))
theorem w_X4_sortOf_14 {S : Sp} (hS : Sys S) {Φ : Rs} {v : Kt} (hv : Cl S Φ k_X4_sortOf v) (hw : Wk v) (l0 : Int32) (σ : St) (h : vc_X4_sortOf_14 S Φ v l0 σ) : v 14 [some (aI l0)] [] σ := by
  unfold vc_X4_sortOf_14 at h
  refine r_iload_n (pc := 14) hv 8 rfl rfl ?_
  refine r_bipush (pc := 15) hv 9 rfl  ?_
  refine r_icmp_lt (pc := 17) hv 10 rfl (fun c => ?_) (fun c => ?_)
  · replace h := h.1 c
    exact (w_X4_sortOf_28 hS hv hw   l0  σ h)
  · replace h := h.2 c
    refine r_iload_n (pc := 20) hv 11 rfl rfl ?_
    refine r_bipush (pc := 21) hv 12 rfl  ?_
    refine r_icmp_gt (pc := 23) hv 13 rfl (fun c => ?_) (fun c => ?_)
    · replace h := h.1 c
      exact (w_X4_sortOf_28 hS hv hw   l0  σ h)
    · replace h := h.2 c
      refine r_iconst (pc := 26) hv 14 rfl  ?_
      exact r_ireturn (pc := 27) hv 15 rfl rfl h
def vc_X4_sortOf_0 (S : Sp) (Φ : Rs) (v : Kt) (l0 : Int32) (σ : St) : Prop := ((l0 : Int32) < 97 → (vc_X4_sortOf_14 S Φ v  l0 σ)) ∧ (¬ ((l0 : Int32) < 97) → (((122 : Int32) < l0 → (vc_X4_sortOf_14 S Φ v  l0 σ)) ∧ (¬ ((122 : Int32) < l0) → (Φ [aI 1] σ))))
theorem w_X4_sortOf_0 {S : Sp} (hS : Sys S) {Φ : Rs} {v : Kt} (hv : Cl S Φ k_X4_sortOf v) (hw : Wk v) (l0 : Int32) (σ : St) (h : vc_X4_sortOf_0 S Φ v l0 σ) : v 0 [some (aI l0)] [] σ := by
  unfold vc_X4_sortOf_0 at h
  refine r_iload_n (pc := 0) hv 0 rfl rfl ?_
  refine r_bipush (pc := 1) hv 1 rfl  ?_
  refine r_icmp_lt (pc := 3) hv 2 rfl (fun c => ?_) (fun c => ?_)
  · replace h := h.1 c
    exact (w_X4_sortOf_14 hS hv hw   l0  σ h)
  · replace h := h.2 c
    refine r_iload_n (pc := 6) hv 3 rfl rfl ?_
    refine r_bipush (pc := 7) hv 4 rfl  ?_
    refine r_icmp_gt (pc := 9) hv 5 rfl (fun c => ?_) (fun c => ?_)
    · replace h := h.1 c
      exact (w_X4_sortOf_14 hS hv hw   l0  σ h)
    · replace h := h.2 c
      refine r_iconst (pc := 12) hv 6 rfl  ?_
      exact r_ireturn (pc := 13) hv 7 rfl rfl h
theorem m_X4_sortOf {S : Sp} (hS : Sys S) {l0 : Int32} {σ : St} {Φ : Rs} (h : ∀ v : Kt, Cl S Φ k_X4_sortOf v → Wk v → vc_X4_sortOf_0 S Φ v l0 σ) : S 64 [aI l0] σ Φ :=
  hS.2 64 M_X4_sortOf k_X4_sortOf _ _ _ mkt_X4_sortOf (Nat.le_of_ble_eq_true rfl) (fun v hv hw => w_X4_sortOf_0 hS hv hw   l0 σ (h v hv hw))
def vc_X4_carryOut_2 (S : Sp) (Φ : Rs) (v : Kt) (p : Nat) (l2 : Int32) (σ : St) : Prop := ((σ.1 36 2 : Int32) ≤ l2 → (Φ [aI (-1)] σ)) ∧ (¬ ((σ.1 36 2 : Int32) ≤ l2) → (((13 : Int32) ≤ l2 → (Φ [aI (-1)] σ)) ∧ (¬ ((13 : Int32) ≤ l2) → (S 66 [aR 36, aR p, aI l2] σ (fun r σ1 => ∃ x2 : Int32, r = [aI x2] ∧ ((¬ (x2 : Int32) = 0 → (v 2 [some (aR 36), some (aR p), some (aI (l2 + 1))] [] σ1)) ∧ ((x2 : Int32) = 0 → (vp_in l2 13 ∧ (Φ [aI (σ1.1 39 (l2 : Int32).toNatClampNeg)] σ1)))))))))
theorem w_X4_carryOut_2 {S : Sp} (hS : Sys S) {Φ : Rs} {v : Kt} (hv : Cl S Φ k_X4_carryOut v) (hw : Wk v) (p : Nat) (h_p : isPat p) (l2 : Int32) (σ : St) (h : vc_X4_carryOut_2 S Φ v p l2 σ) : v 2 [some (aR 36), some (aR p), some (aI l2)] [] σ := by
  unfold vc_X4_carryOut_2 at h
  refine r_iload_n (pc := 2) hv 2 rfl rfl ?_
  refine r_aload_n (pc := 3) hv 3 rfl rfl ?_
  refine r_getI (pc := 4) hv 4 rfl rfl rfl ?_
  refine r_icmp_ge (pc := 7) hv 5 rfl (fun c => ?_) (fun c => ?_)
  · replace h := h.1 c
    refine r_iconst (pc := 38) hv 21 rfl  ?_
    exact r_ireturn (pc := 39) hv 22 rfl rfl h
  · replace h := h.2 c
    refine r_iload_n (pc := 10) hv 6 rfl rfl ?_
    refine r_bipush (pc := 11) hv 7 rfl  ?_
    refine r_icmp_ge (pc := 13) hv 8 rfl (fun c => ?_) (fun c => ?_)
    · replace h := h.1 c
      refine r_iconst (pc := 38) hv 21 rfl  ?_
      exact r_ireturn (pc := 39) hv 22 rfl rfl h
    · replace h := h.2 c
      refine r_aload_n (pc := 16) hv 9 rfl rfl ?_
      refine r_aload_n (pc := 17) hv 10 rfl rfl ?_
      refine r_iload_n (pc := 18) hv 11 rfl rfl ?_
      refine r_callV (pc := 19) (l := [aI l2, aR p]) (av := [aR p, aI l2]) (a := 36) (t := []) hv 12 rfl rfl rfl rfl (rcv_o (by decide) rfl) trivial (hS.1 _ _ _ _ _ (fun r σ1 h => ?_) h)
      obtain ⟨x2, rfl, h⟩ := h
      show v 22 [some (aR 36), some (aR p), some (aI l2)] [aI x2] σ1
      refine r_if_ne (pc := 22) hv 13 rfl (fun c => ?_) (fun c => ?_)
      · replace h := h.1 c
        refine r_iinc (pc := 32) (lo' := [some (aR 36), some (aR p), some (aI (l2 + 1))]) hv 19 rfl rfl rfl ?_
        refine r_goto (pc := 35) hv 20 rfl  ?_
        exact h
      · replace h := h.2 c
        refine r_aload_n (pc := 25) hv 14 rfl rfl ?_
        refine r_getR (pc := 26) (b := 39) hv 15 rfl rfl rfl rfl ?_
        refine r_iload_n (pc := 29) hv 16 rfl rfl ?_
        refine r_iaload (pc := 30) (N := 13) hv 17 rfl rfl rfl (by decide) h.1 ?_
        replace h := h.2
        exact r_ireturn (pc := 31) hv 18 rfl rfl h
def vc_X4_carryOut_0 (S : Sp) (Φ : Rs) (v : Kt) (p : Nat) (σ : St) : Prop := v 2 [some (aR 36), some (aR p), some (aI 0)] [] σ
theorem w_X4_carryOut_0 {S : Sp} (hS : Sys S) {Φ : Rs} {v : Kt} (hv : Cl S Φ k_X4_carryOut v) (hw : Wk v) (p : Nat) (h_p : isPat p) (σ : St) (h : vc_X4_carryOut_0 S Φ v p σ) : v 0 [some (aR 36), some (aR p), none] [] σ := by
  unfold vc_X4_carryOut_0 at h
  refine r_iconst (pc := 0) hv 0 rfl  ?_
  refine r_istore_n (pc := 1) (lo' := [some (aR 36), some (aR p), some (aI 0)]) hv 1 rfl rfl ?_
  exact h
theorem m_X4_carryOut {S : Sp} (hS : Sys S) {p : Nat} (h_p : isPat p) {σ : St} {Φ : Rs} (h : ∀ v : Kt, Cl S Φ k_X4_carryOut v → Wk v → vc_X4_carryOut_0 S Φ v p σ) : S 65 [aR 36, aR p] σ Φ :=
  hS.2 65 M_X4_carryOut k_X4_carryOut _ _ _ mkt_X4_carryOut (Nat.le_of_ble_eq_true rfl) (fun v hv hw => w_X4_carryOut_0 hS hv hw p h_p  σ (h v hv hw))
def vc_X4_isDone_0 (S : Sp) (Φ : Rs) (v : Kt) (p : Nat) (l2 : Int32) (σ : St) : Prop := vp_in l2 13 ∧ (((σ.1 38 (l2 : Int32).toNatClampNeg : Int32) = 0 → (vp_in (l2 * 6) 78 ∧ (vp_in ((l2 * 6) + 1) 78 ∧ (vp_in ((l2 * 6) + 2) 78 ∧ (vp_in ((l2 * 6) + 3) 78 ∧ (vp_in ((l2 * 6) + 4) 78 ∧ (vp_in ((l2 * 6) + 5) 78 ∧ (S 29 [aR p, aI (σ.1 40 (l2 * 6 : Int32).toNatClampNeg), aI (σ.1 40 ((l2 * 6) + 1 : Int32).toNatClampNeg), aI (σ.1 40 ((l2 * 6) + 2 : Int32).toNatClampNeg), aI (σ.1 40 ((l2 * 6) + 3 : Int32).toNatClampNeg), aI (σ.1 40 ((l2 * 6) + 4 : Int32).toNatClampNeg), aI (σ.1 40 ((l2 * 6) + 5 : Int32).toNatClampNeg)] σ (fun r σ1 => ∃ x2 : Int32, r = [aI x2] ∧ (((x2 : Int32) < 0 → (Φ [aI 0] σ1)) ∧ (¬ ((x2 : Int32) < 0) → (Φ [aI 1] σ1)))))))))))) ∧ (¬ ((σ.1 38 (l2 : Int32).toNatClampNeg : Int32) = 0) → (((σ.1 38 (l2 : Int32).toNatClampNeg : Int32) = 1 → (vp_in (l2 * 6) 78 ∧ (vp_in ((l2 * 6) + 1) 78 ∧ (vp_in ((l2 * 6) + 2) 78 ∧ (S 33 [aR p, aI (σ.1 40 (l2 * 6 : Int32).toNatClampNeg), aI (σ.1 40 ((l2 * 6) + 1 : Int32).toNatClampNeg), aI (σ.1 40 ((l2 * 6) + 2 : Int32).toNatClampNeg)] σ (fun r σ3 => ∃ x4 : Int32, r = [aI x4] ∧ (((x4 : Int32) < 0 → (Φ [aI 0] σ3)) ∧ (¬ ((x4 : Int32) < 0) → (Φ [aI 1] σ3))))))))) ∧ (¬ ((σ.1 38 (l2 : Int32).toNatClampNeg : Int32) = 1) → (((σ.1 38 (l2 : Int32).toNatClampNeg : Int32) = 5 → (vp_in (l2 * 6) 78 ∧ (S 32 [aR p, aI (σ.1 40 (l2 * 6 : Int32).toNatClampNeg), aI 6, aI 1] σ (fun r σ5 => ∃ x6 : Int32, r = [aI x6] ∧ ((¬ (x6 : Int32) = 0 → (Φ [aI 0] σ5)) ∧ ((x6 : Int32) = 0 → (Φ [aI 1] σ5))))))) ∧ (¬ ((σ.1 38 (l2 : Int32).toNatClampNeg : Int32) = 5) → (vp_in (l2 * 6) 78 ∧ (S 36 [aR p, aI ((σ.1 38 (l2 : Int32).toNatClampNeg) - 2), aI (σ.1 40 (l2 * 6 : Int32).toNatClampNeg)] σ (fun r σ7 => ∃ x8 : Int32, r = [aI x8] ∧ (((x8 : Int32) < 0 → (Φ [aI 0] σ7)) ∧ (¬ ((x8 : Int32) < 0) → (Φ [aI 1] σ7))))))))))))
theorem w_X4_isDone_0 {S : Sp} (hS : Sys S) {Φ : Rs} {v : Kt} (hv : Cl S Φ k_X4_isDone v) (hw : Wk v) (p : Nat) (h_p : isPat p) (l2 : Int32) (σ : St) (h : vc_X4_isDone_0 S Φ v p l2 σ) : v 0 [some (aR 36), some (aR p), some (aI l2), none, none, none] [] σ := by
  unfold vc_X4_isDone_0 at h
  refine r_aload_n (pc := 0) hv 0 rfl rfl ?_
  refine r_getR (pc := 1) (b := 40) hv 1 rfl rfl rfl rfl ?_
  refine r_astore_n (pc := 4) (lo' := [some (aR 36), some (aR p), some (aI l2), some (aR 40), none, none]) hv 2 rfl rfl ?_
  refine r_iload_n (pc := 5) hv 3 rfl rfl ?_
  refine r_bipush (pc := 6) hv 4 rfl  ?_
  refine r_imul (pc := 8) hv 5 rfl  ?_
  refine r_istore (pc := 9) (lo' := [some (aR 36), some (aR p), some (aI l2), some (aR 40), some (aI (l2 * 6)), none]) hv 6 rfl rfl ?_
  refine r_aload_n (pc := 11) hv 7 rfl rfl ?_
  refine r_getR (pc := 12) (b := 38) hv 8 rfl rfl rfl rfl ?_
  refine r_iload_n (pc := 15) hv 9 rfl rfl ?_
  refine r_iaload (pc := 16) (N := 13) hv 10 rfl rfl rfl (by decide) h.1 ?_
  replace h := h.2
  refine r_istore (pc := 17) (lo' := [some (aR 36), some (aR p), some (aI l2), some (aR 40), some (aI (l2 * 6)), some (aI (σ.1 38 (l2 : Int32).toNatClampNeg))]) hv 11 rfl rfl ?_
  refine r_iload (pc := 19) hv 12 rfl rfl ?_
  refine r_look (pc := 21) hv 13 rfl ?_
  refine ⟨fun c => ?_, fun c => ?_⟩
  · replace h := h.1 c
    show v 56 [some (aR 36), some (aR p), some (aI l2), some (aR 40), some (aI (l2 * 6)), some (aI (σ.1 38 (l2 : Int32).toNatClampNeg))] [] σ
    refine r_aload_n (pc := 56) hv 14 rfl rfl ?_
    refine r_aload_n (pc := 57) hv 15 rfl rfl ?_
    refine r_iload (pc := 58) hv 16 rfl rfl ?_
    refine r_iaload (pc := 60) (N := 78) hv 17 rfl rfl rfl (by decide) h.1 ?_
    replace h := h.2
    refine r_aload_n (pc := 61) hv 18 rfl rfl ?_
    refine r_iload (pc := 62) hv 19 rfl rfl ?_
    refine r_iconst (pc := 64) hv 20 rfl  ?_
    refine r_iadd (pc := 65) hv 21 rfl  ?_
    refine r_iaload (pc := 66) (N := 78) hv 22 rfl rfl rfl (by decide) h.1 ?_
    replace h := h.2
    refine r_aload_n (pc := 67) hv 23 rfl rfl ?_
    refine r_iload (pc := 68) hv 24 rfl rfl ?_
    refine r_iconst (pc := 70) hv 25 rfl  ?_
    refine r_iadd (pc := 71) hv 26 rfl  ?_
    refine r_iaload (pc := 72) (N := 78) hv 27 rfl rfl rfl (by decide) h.1 ?_
    replace h := h.2
    refine r_aload_n (pc := 73) hv 28 rfl rfl ?_
    refine r_iload (pc := 74) hv 29 rfl rfl ?_
    refine r_iconst (pc := 76) hv 30 rfl  ?_
    refine r_iadd (pc := 77) hv 31 rfl  ?_
    refine r_iaload (pc := 78) (N := 78) hv 32 rfl rfl rfl (by decide) h.1 ?_
    replace h := h.2
    refine r_aload_n (pc := 79) hv 33 rfl rfl ?_
    refine r_iload (pc := 80) hv 34 rfl rfl ?_
    refine r_iconst (pc := 82) hv 35 rfl  ?_
    refine r_iadd (pc := 83) hv 36 rfl  ?_
    refine r_iaload (pc := 84) (N := 78) hv 37 rfl rfl rfl (by decide) h.1 ?_
    replace h := h.2
    refine r_aload_n (pc := 85) hv 38 rfl rfl ?_
    refine r_iload (pc := 86) hv 39 rfl rfl ?_
    refine r_iconst (pc := 88) hv 40 rfl  ?_
    refine r_iadd (pc := 89) hv 41 rfl  ?_
    refine r_iaload (pc := 90) (N := 78) hv 42 rfl rfl rfl (by decide) h.1 ?_
    replace h := h.2
    refine r_callV (pc := 91) (l := [aI (σ.1 40 ((l2 * 6) + 5 : Int32).toNatClampNeg), aI (σ.1 40 ((l2 * 6) + 4 : Int32).toNatClampNeg), aI (σ.1 40 ((l2 * 6) + 3 : Int32).toNatClampNeg), aI (σ.1 40 ((l2 * 6) + 2 : Int32).toNatClampNeg), aI (σ.1 40 ((l2 * 6) + 1 : Int32).toNatClampNeg), aI (σ.1 40 (l2 * 6 : Int32).toNatClampNeg)]) (av := [aI (σ.1 40 (l2 * 6 : Int32).toNatClampNeg), aI (σ.1 40 ((l2 * 6) + 1 : Int32).toNatClampNeg), aI (σ.1 40 ((l2 * 6) + 2 : Int32).toNatClampNeg), aI (σ.1 40 ((l2 * 6) + 3 : Int32).toNatClampNeg), aI (σ.1 40 ((l2 * 6) + 4 : Int32).toNatClampNeg), aI (σ.1 40 ((l2 * 6) + 5 : Int32).toNatClampNeg)]) (a := p) (t := []) hv 43 rfl rfl rfl rfl (rcv_o (by decide) (isPat_oc h_p)) trivial (hS.1 _ _ _ _ _ (fun r σ1 h => ?_) h)
    obtain ⟨x2, rfl, h⟩ := h
    show v 94 [some (aR 36), some (aR p), some (aI l2), some (aR 40), some (aI (l2 * 6)), some (aI (σ.1 38 (l2 : Int32).toNatClampNeg))] [aI x2] σ1
    refine r_if_lt (pc := 94) hv 44 rfl (fun c => ?_) (fun c => ?_)
    · replace h := h.1 c
      refine r_iconst (pc := 101) hv 47 rfl  ?_
      exact r_zreturn (pc := 102) hv 48 rfl rfl (Or.inl rfl) h
    · replace h := h.2 c
      refine r_iconst (pc := 97) hv 45 rfl  ?_
      refine r_goto (pc := 98) hv 46 rfl  ?_
      exact r_zreturn (pc := 102) hv 48 rfl rfl (Or.inr rfl) h
  · replace h := h.2 c
    refine ⟨fun c => ?_, fun c => ?_⟩
    · replace h := h.1 c
      show v 103 [some (aR 36), some (aR p), some (aI l2), some (aR 40), some (aI (l2 * 6)), some (aI (σ.1 38 (l2 : Int32).toNatClampNeg))] [] σ
      refine r_aload_n (pc := 103) hv 49 rfl rfl ?_
      refine r_aload_n (pc := 104) hv 50 rfl rfl ?_
      refine r_iload (pc := 105) hv 51 rfl rfl ?_
      refine r_iaload (pc := 107) (N := 78) hv 52 rfl rfl rfl (by decide) h.1 ?_
      replace h := h.2
      refine r_aload_n (pc := 108) hv 53 rfl rfl ?_
      refine r_iload (pc := 109) hv 54 rfl rfl ?_
      refine r_iconst (pc := 111) hv 55 rfl  ?_
      refine r_iadd (pc := 112) hv 56 rfl  ?_
      refine r_iaload (pc := 113) (N := 78) hv 57 rfl rfl rfl (by decide) h.1 ?_
      replace h := h.2
      refine r_aload_n (pc := 114) hv 58 rfl rfl ?_
      refine r_iload (pc := 115) hv 59 rfl rfl ?_
      refine r_iconst (pc := 117) hv 60 rfl  ?_
      refine r_iadd (pc := 118) hv 61 rfl  ?_
      refine r_iaload (pc := 119) (N := 78) hv 62 rfl rfl rfl (by decide) h.1 ?_
      replace h := h.2
      refine r_callV (pc := 120) (l := [aI (σ.1 40 ((l2 * 6) + 2 : Int32).toNatClampNeg), aI (σ.1 40 ((l2 * 6) + 1 : Int32).toNatClampNeg), aI (σ.1 40 (l2 * 6 : Int32).toNatClampNeg)]) (av := [aI (σ.1 40 (l2 * 6 : Int32).toNatClampNeg), aI (σ.1 40 ((l2 * 6) + 1 : Int32).toNatClampNeg), aI (σ.1 40 ((l2 * 6) + 2 : Int32).toNatClampNeg)]) (a := p) (t := []) hv 63 rfl rfl rfl rfl (rcv_o (by decide) (isPat_oc h_p)) trivial (hS.1 _ _ _ _ _ (fun r σ3 h => ?_) h)
      obtain ⟨x4, rfl, h⟩ := h
      show v 123 [some (aR 36), some (aR p), some (aI l2), some (aR 40), some (aI (l2 * 6)), some (aI (σ.1 38 (l2 : Int32).toNatClampNeg))] [aI x4] σ3
      refine r_if_lt (pc := 123) hv 64 rfl (fun c => ?_) (fun c => ?_)
      · replace h := h.1 c
        refine r_iconst (pc := 130) hv 67 rfl  ?_
        exact r_zreturn (pc := 131) hv 68 rfl rfl (Or.inl rfl) h
      · replace h := h.2 c
        refine r_iconst (pc := 126) hv 65 rfl  ?_
        refine r_goto (pc := 127) hv 66 rfl  ?_
        exact r_zreturn (pc := 131) hv 68 rfl rfl (Or.inr rfl) h
    · replace h := h.2 c
      refine ⟨fun c => ?_, fun c => ?_⟩
      · replace h := h.1 c
        show v 132 [some (aR 36), some (aR p), some (aI l2), some (aR 40), some (aI (l2 * 6)), some (aI (σ.1 38 (l2 : Int32).toNatClampNeg))] [] σ
        refine r_aload_n (pc := 132) hv 69 rfl rfl ?_
        refine r_aload_n (pc := 133) hv 70 rfl rfl ?_
        refine r_iload (pc := 134) hv 71 rfl rfl ?_
        refine r_iaload (pc := 136) (N := 78) hv 72 rfl rfl rfl (by decide) h.1 ?_
        replace h := h.2
        refine r_bipush (pc := 137) hv 73 rfl  ?_
        refine r_iconst (pc := 139) hv 74 rfl  ?_
        refine r_callV (pc := 140) (l := [aI 1, aI 6, aI (σ.1 40 (l2 * 6 : Int32).toNatClampNeg)]) (av := [aI (σ.1 40 (l2 * 6 : Int32).toNatClampNeg), aI 6, aI 1]) (a := p) (t := []) hv 75 rfl rfl rfl rfl (rcv_o (by decide) (isPat_oc h_p)) trivial (hS.1 _ _ _ _ _ (fun r σ5 h => ?_) h)
        obtain ⟨x6, rfl, h⟩ := h
        show v 143 [some (aR 36), some (aR p), some (aI l2), some (aR 40), some (aI (l2 * 6)), some (aI (σ.1 38 (l2 : Int32).toNatClampNeg))] [aI x6] σ5
        refine r_if_ne (pc := 143) hv 76 rfl (fun c => ?_) (fun c => ?_)
        · replace h := h.1 c
          refine r_iconst (pc := 150) hv 79 rfl  ?_
          exact r_zreturn (pc := 151) hv 80 rfl rfl (Or.inl rfl) h
        · replace h := h.2 c
          refine r_iconst (pc := 146) hv 77 rfl  ?_
          refine r_goto (pc := 147) hv 78 rfl  ?_
          exact r_zreturn (pc := 151) hv 80 rfl rfl (Or.inr rfl) h
      · replace h := h.2 c
        show v 152 [some (aR 36), some (aR p), some (aI l2), some (aR 40), some (aI (l2 * 6)), some (aI (σ.1 38 (l2 : Int32).toNatClampNeg))] [] σ
        refine r_aload_n (pc := 152) hv 81 rfl rfl ?_
        refine r_iload (pc := 153) hv 82 rfl rfl ?_
        refine r_iconst (pc := 155) hv 83 rfl  ?_
        refine r_isub (pc := 156) hv 84 rfl  ?_
        refine r_aload_n (pc := 157) hv 85 rfl rfl ?_
        refine r_iload (pc := 158) hv 86 rfl rfl ?_
        refine r_iaload (pc := 160) (N := 78) hv 87 rfl rfl rfl (by decide) h.1 ?_
        replace h := h.2
        refine r_callV (pc := 161) (l := [aI (σ.1 40 (l2 * 6 : Int32).toNatClampNeg), aI ((σ.1 38 (l2 : Int32).toNatClampNeg) - 2)]) (av := [aI ((σ.1 38 (l2 : Int32).toNatClampNeg) - 2), aI (σ.1 40 (l2 * 6 : Int32).toNatClampNeg)]) (a := p) (t := []) hv 88 rfl rfl rfl rfl (rcv_o (by decide) (isPat_oc h_p)) trivial (hS.1 _ _ _ _ _ (fun r σ7 h => ?_) h)
        obtain ⟨x8, rfl, h⟩ := h
        show v 164 [some (aR 36), some (aR p), some (aI l2), some (aR 40), some (aI (l2 * 6)), some (aI (σ.1 38 (l2 : Int32).toNatClampNeg))] [aI x8] σ7
        refine r_if_lt (pc := 164) hv 89 rfl (fun c => ?_) (fun c => ?_)
        · replace h := h.1 c
          refine r_iconst (pc := 171) hv 92 rfl  ?_
          exact r_zreturn (pc := 172) hv 93 rfl rfl (Or.inl rfl) h
        · replace h := h.2 c
          refine r_iconst (pc := 167) hv 90 rfl  ?_
          refine r_goto (pc := 168) hv 91 rfl  ?_
          exact r_zreturn (pc := 172) hv 93 rfl rfl (Or.inr rfl) h
theorem m_X4_isDone {S : Sp} (hS : Sys S) {p : Nat} (h_p : isPat p) {l2 : Int32} {σ : St} {Φ : Rs} (h : ∀ v : Kt, Cl S Φ k_X4_isDone v → Wk v → vc_X4_isDone_0 S Φ v p l2 σ) : S 66 [aR 36, aR p, aI l2] σ Φ :=
  hS.2 66 M_X4_isDone k_X4_isDone _ _ _ mkt_X4_isDone (Nat.le_of_ble_eq_true rfl) (fun v hv hw => w_X4_isDone_0 hS hv hw p h_p l2 σ (h v hv hw))
