def vc_X8_read_0 (S : Sp) (Φ : Rs) (v : Kt) (σ : St) : Prop := S 54 [aR 36] σ (fun r σ1 => ∃ x2 : Int32, r = [aI x2] ∧ (∀ σ3 : St, σ3 = upI σ1 36 1 0 → (((x2 : Int32) = (-1) → (S 23 [aR 9, aR 1] σ3 (fun r σ4 => r = [] ∧ (S 65 [aR 36, aR 9] σ4 (fun r σ5 => ∃ x6 : Int32, r = [aI x6] ∧ (((x6 : Int32) = (-1) → (S 23 [aR 1, aR 9] σ5 (fun r σ7 => r = [] ∧ (∀ σ8 : St, σ8 = upI σ7 0 14 ((σ7.1 0 14) + 1) → (S 129 [aR 0, aI (σ8.1 36 2)] σ8 (fun r σ9 => ∃ x10 : Int32, r = [aI x10] ∧ (Φ [aI x10] σ9))))))) ∧ (¬ ((x6 : Int32) = (-1)) → (Φ [aI ((-300) - x6)] σ5)))))))) ∧ (¬ ((x2 : Int32) = (-1)) → (Φ [aI ((-100) - x2)] σ3)))))
theorem w_X8_read_0 {S : Sp} (hS : Sys S) {Φ : Rs} {v : Kt} (hv : Cl S Φ k_X8_read v) (hw : Wk v) (σ : St) (h : vc_X8_read_0 S Φ v  σ) : v 0 [some (aR 0), none] [] σ := by
  unfold vc_X8_read_0 at h
  refine r_aload_n (pc := 0) hv 0 rfl rfl ?_
  refine r_getR (pc := 1) (b := 36) hv 1 rfl rfl rfl rfl ?_
  refine r_callV (pc := 4) (l := []) (av := []) (a := 36) (t := []) hv 2 rfl rfl rfl rfl (rcv_o (by decide) rfl) trivial (hS.1 _ _ _ _ _ (fun r σ1 h => ?_) h)
  obtain ⟨x2, rfl, h⟩ := h
  show v 7 [some (aR 0), none] [aI x2] σ1
  refine r_istore_n (pc := 7) (lo' := [some (aR 0), some (aI x2)]) hv 3 rfl rfl ?_
  refine r_aload_n (pc := 8) hv 4 rfl rfl ?_
  refine r_getR (pc := 9) (b := 36) hv 5 rfl rfl rfl rfl ?_
  refine r_iconst (pc := 12) hv 6 rfl  ?_
  refine r_putI (pc := 13) hv 7 rfl rfl rfl ?_
  obtain ⟨σ3, e_σ3⟩ : ∃ y : St, y = upI σ1 36 1 0 := ⟨_, rfl⟩
  rw [← e_σ3]
  replace h := h σ3 e_σ3
  refine r_iload_n (pc := 16) hv 8 rfl rfl ?_
  refine r_iconst (pc := 17) hv 9 rfl  ?_
  refine r_icmp_eq (pc := 18) hv 10 rfl (fun c => ?_) (fun c => ?_)
  · replace h := h.1 c
    refine r_aload_n (pc := 26) hv 15 rfl rfl ?_
    refine r_getR (pc := 27) (b := 9) hv 16 rfl rfl rfl rfl ?_
    refine r_aload_n (pc := 30) hv 17 rfl rfl ?_
    refine r_getR (pc := 31) (b := 1) hv 18 rfl rfl rfl rfl ?_
    refine r_callV (pc := 34) (l := [aR 1]) (av := [aR 1]) (a := 9) (t := []) hv 19 rfl rfl rfl rfl (rcv_o (by decide) rfl) trivial (hS.1 _ _ _ _ _ (fun r σ4 h => ?_) h)
    obtain ⟨rfl, h⟩ := h
    show v 37 [some (aR 0), some (aI x2)] [] σ4
    refine r_aload_n (pc := 37) hv 20 rfl rfl ?_
    refine r_getR (pc := 38) (b := 36) hv 21 rfl rfl rfl rfl ?_
    refine r_aload_n (pc := 41) hv 22 rfl rfl ?_
    refine r_getR (pc := 42) (b := 9) hv 23 rfl rfl rfl rfl ?_
    refine r_callV (pc := 45) (l := [aR 9]) (av := [aR 9]) (a := 36) (t := []) hv 24 rfl rfl rfl rfl (rcv_o (by decide) rfl) trivial (hS.1 _ _ _ _ _ (fun r σ5 h => ?_) h)
    obtain ⟨x6, rfl, h⟩ := h
    show v 48 [some (aR 0), some (aI x2)] [aI x6] σ5
    refine r_istore_n (pc := 48) (lo' := [some (aR 0), some (aI x6)]) hv 25 rfl rfl ?_
    refine r_iload_n (pc := 49) hv 26 rfl rfl ?_
    refine r_iconst (pc := 50) hv 27 rfl  ?_
    refine r_icmp_eq (pc := 51) hv 28 rfl (fun c => ?_) (fun c => ?_)
    · replace h := h.1 c
      refine r_aload_n (pc := 60) hv 33 rfl rfl ?_
      refine r_getR (pc := 61) (b := 1) hv 34 rfl rfl rfl rfl ?_
      refine r_aload_n (pc := 64) hv 35 rfl rfl ?_
      refine r_getR (pc := 65) (b := 9) hv 36 rfl rfl rfl rfl ?_
      refine r_callV (pc := 68) (l := [aR 9]) (av := [aR 9]) (a := 1) (t := []) hv 37 rfl rfl rfl rfl (rcv_o (by decide) rfl) trivial (hS.1 _ _ _ _ _ (fun r σ7 h => ?_) h)
      obtain ⟨rfl, h⟩ := h
      show v 71 [some (aR 0), some (aI x6)] [] σ7
      refine r_aload_n (pc := 71) hv 38 rfl rfl ?_
      refine r_dup (pc := 72) hv 39 rfl trivial ?_
      refine r_getI (pc := 73) hv 40 rfl rfl rfl ?_
      refine r_iconst (pc := 76) hv 41 rfl  ?_
      refine r_iadd (pc := 77) hv 42 rfl  ?_
      refine r_putI (pc := 78) hv 43 rfl rfl rfl ?_
      obtain ⟨σ8, e_σ8⟩ : ∃ y : St, y = upI σ7 0 14 ((σ7.1 0 14) + 1) := ⟨_, rfl⟩
      rw [← e_σ8]
      replace h := h σ8 e_σ8
      refine r_aload_n (pc := 81) hv 44 rfl rfl ?_
      refine r_aload_n (pc := 82) hv 45 rfl rfl ?_
      refine r_getR (pc := 83) (b := 36) hv 46 rfl rfl rfl rfl ?_
      refine r_getI (pc := 86) hv 47 rfl rfl rfl ?_
      refine r_callV (pc := 89) (l := [aI (σ8.1 36 2)]) (av := [aI (σ8.1 36 2)]) (a := 0) (t := []) hv 48 rfl rfl rfl rfl (rcv_o (by decide) rfl) trivial (hS.1 _ _ _ _ _ (fun r σ9 h => ?_) h)
      obtain ⟨x10, rfl, h⟩ := h
      show v 92 [some (aR 0), some (aI x6)] [aI x10] σ9
      exact r_ireturn (pc := 92) hv 49 rfl rfl h
    · replace h := h.2 c
      refine r_sipush (pc := 54) hv 29 rfl  ?_
      refine r_iload_n (pc := 57) hv 30 rfl rfl ?_
      refine r_isub (pc := 58) hv 31 rfl  ?_
      exact r_ireturn (pc := 59) hv 32 rfl rfl h
  · replace h := h.2 c
    refine r_bipush (pc := 21) hv 11 rfl  ?_
    refine r_iload_n (pc := 23) hv 12 rfl rfl ?_
    refine r_isub (pc := 24) hv 13 rfl  ?_
    exact r_ireturn (pc := 25) hv 14 rfl rfl h
theorem m_X8_read {S : Sp} (hS : Sys S) {σ : St} {Φ : Rs} (h : ∀ v : Kt, Cl S Φ k_X8_read v → Wk v → vc_X8_read_0 S Φ v  σ) : S 115 [aR 0] σ Φ :=
  hS.2 115 M_X8_read k_X8_read _ _ _ mkt_X8_read (Nat.le_of_ble_eq_true rfl) (fun v hv hw => w_X8_read_0 hS hv hw    σ (h v hv hw))
def vc_X8_spell_0 (S : Sp) (Φ : Rs) (v : Kt) (σ : St) : Prop := S 133 [aR 0] σ (fun r σ1 => r = [aR 34] ∧ (Φ [aI (σ1.1 34 1)] σ1))
theorem w_X8_spell_0 {S : Sp} (hS : Sys S) {Φ : Rs} {v : Kt} (hv : Cl S Φ k_X8_spell v) (hw : Wk v) (σ : St) (h : vc_X8_spell_0 S Φ v  σ) : v 0 [some (aR 0)] [] σ := by
  unfold vc_X8_spell_0 at h
  refine r_aload_n (pc := 0) hv 0 rfl rfl ?_
  refine r_callV (pc := 1) (l := []) (av := []) (a := 0) (t := []) hv 1 rfl rfl rfl rfl (rcv_o (by decide) rfl) trivial (hS.1 _ _ _ _ _ (fun r σ1 h => ?_) h)
  obtain ⟨rfl, h⟩ := h
  show v 4 [some (aR 0)] [aR 34] σ1
  refine r_getI (pc := 4) hv 2 rfl rfl rfl ?_
  exact r_ireturn (pc := 7) hv 3 rfl rfl h
theorem m_X8_spell {S : Sp} (hS : Sys S) {σ : St} {Φ : Rs} (h : ∀ v : Kt, Cl S Φ k_X8_spell v → Wk v → vc_X8_spell_0 S Φ v  σ) : S 116 [aR 0] σ Φ :=
  hS.2 116 M_X8_spell k_X8_spell _ _ _ mkt_X8_spell (Nat.le_of_ble_eq_true rfl) (fun v hv hw => w_X8_spell_0 hS hv hw    σ (h v hv hw))
def vc_X8_paper_0 (S : Sp) (Φ : Rs) (v : Kt) (l1 : Int32) (σ : St) : Prop := S 133 [aR 0] σ (fun r σ1 => r = [aR 34] ∧ (((l1 : Int32) < 0 → (Φ [aI (-1)] σ1)) ∧ (¬ ((l1 : Int32) < 0) → (((l1 : Int32) < (σ1.1 34 1) → (vp_in l1 1239 ∧ (Φ [aI (σ1.1 35 (l1 : Int32).toNatClampNeg)] σ1))) ∧ (¬ ((l1 : Int32) < (σ1.1 34 1)) → (Φ [aI (-1)] σ1))))))
theorem w_X8_paper_0 {S : Sp} (hS : Sys S) {Φ : Rs} {v : Kt} (hv : Cl S Φ k_X8_paper v) (hw : Wk v) (l1 : Int32) (σ : St) (h : vc_X8_paper_0 S Φ v l1 σ) : v 0 [some (aR 0), some (aI l1), none] [] σ := by
  unfold vc_X8_paper_0 at h
  refine r_aload_n (pc := 0) hv 0 rfl rfl ?_
  refine r_callV (pc := 1) (l := []) (av := []) (a := 0) (t := []) hv 1 rfl rfl rfl rfl (rcv_o (by decide) rfl) trivial (hS.1 _ _ _ _ _ (fun r σ1 h => ?_) h)
  obtain ⟨rfl, h⟩ := h
  show v 4 [some (aR 0), some (aI l1), none] [aR 34] σ1
  refine r_astore_n (pc := 4) (lo' := [some (aR 0), some (aI l1), some (aR 34)]) hv 2 rfl rfl ?_
  refine r_iload_n (pc := 5) hv 3 rfl rfl ?_
  refine r_if_lt (pc := 6) hv 4 rfl (fun c => ?_) (fun c => ?_)
  · replace h := h.1 c
    refine r_iconst (pc := 17) hv 9 rfl  ?_
    refine r_goto (pc := 18) hv 10 rfl  ?_
    exact r_ireturn (pc := 27) hv 15 rfl rfl h
  · replace h := h.2 c
    refine r_iload_n (pc := 9) hv 5 rfl rfl ?_
    refine r_aload_n (pc := 10) hv 6 rfl rfl ?_
    refine r_getI (pc := 11) hv 7 rfl rfl rfl ?_
    refine r_icmp_lt (pc := 14) hv 8 rfl (fun c => ?_) (fun c => ?_)
    · replace h := h.1 c
      refine r_aload_n (pc := 21) hv 11 rfl rfl ?_
      refine r_getR (pc := 22) (b := 35) hv 12 rfl rfl rfl rfl ?_
      refine r_iload_n (pc := 25) hv 13 rfl rfl ?_
      refine r_baload (pc := 26) (N := 1239) hv 14 rfl rfl rfl h.1 ?_
      replace h := h.2
      exact r_ireturn (pc := 27) hv 15 rfl rfl h
    · replace h := h.2 c
      refine r_iconst (pc := 17) hv 9 rfl  ?_
      refine r_goto (pc := 18) hv 10 rfl  ?_
      exact r_ireturn (pc := 27) hv 15 rfl rfl h
theorem m_X8_paper {S : Sp} (hS : Sys S) {l1 : Int32} {σ : St} {Φ : Rs} (h : ∀ v : Kt, Cl S Φ k_X8_paper v → Wk v → vc_X8_paper_0 S Φ v l1 σ) : S 117 [aR 0, aI l1] σ Φ :=
  hS.2 117 M_X8_paper k_X8_paper _ _ _ mkt_X8_paper (Nat.le_of_ble_eq_true rfl) (fun v hv hw => w_X8_paper_0 hS hv hw   l1 σ (h v hv hw))
def vc_X8_step_0 (S : Sp) (Φ : Rs) (v : Kt) (σ : St) : Prop := S 131 [aR 0] σ (fun r σ1 => r = [aR 13] ∧ (((σ1.1 1 5 : Int32) < (σ1.1 16 3) → (vp_in (σ1.1 1 5) 40 ∧ (∀ σ2 : St, σ2 = upI σ1 1 5 ((σ1.1 1 5) + 1) → (Φ [aI (σ1.1 19 (σ1.1 1 5 : Int32).toNatClampNeg)] σ2)))) ∧ (¬ ((σ1.1 1 5 : Int32) < (σ1.1 16 3)) → (Φ [aI (-3)] σ1))))
theorem w_X8_step_0 {S : Sp} (hS : Sys S) {Φ : Rs} {v : Kt} (hv : Cl S Φ k_X8_step v) (hw : Wk v) (σ : St) (h : vc_X8_step_0 S Φ v  σ) : v 0 [some (aR 0), none, none] [] σ := by
  unfold vc_X8_step_0 at h
  refine r_aload_n (pc := 0) hv 0 rfl rfl ?_
  refine r_callV (pc := 1) (l := []) (av := []) (a := 0) (t := []) hv 1 rfl rfl rfl rfl (rcv_o (by decide) rfl) trivial (hS.1 _ _ _ _ _ (fun r σ1 h => ?_) h)
  obtain ⟨rfl, h⟩ := h
  show v 4 [some (aR 0), none, none] [aR 13] σ1
  refine r_getR (pc := 4) (b := 16) hv 2 rfl rfl rfl rfl ?_
  refine r_astore_n (pc := 7) (lo' := [some (aR 0), some (aR 16), none]) hv 3 rfl rfl ?_
  refine r_aload_n (pc := 8) hv 4 rfl rfl ?_
  refine r_getR (pc := 9) (b := 1) hv 5 rfl rfl rfl rfl ?_
  refine r_getI (pc := 12) hv 6 rfl rfl rfl ?_
  refine r_aload_n (pc := 15) hv 7 rfl rfl ?_
  refine r_getI (pc := 16) hv 8 rfl rfl rfl ?_
  refine r_icmp_lt (pc := 19) hv 9 rfl (fun c => ?_) (fun c => ?_)
  · replace h := h.1 c
    refine r_aload_n (pc := 25) hv 12 rfl rfl ?_
    refine r_getR (pc := 26) (b := 19) hv 13 rfl rfl rfl rfl ?_
    refine r_aload_n (pc := 29) hv 14 rfl rfl ?_
    refine r_getR (pc := 30) (b := 1) hv 15 rfl rfl rfl rfl ?_
    refine r_getI (pc := 33) hv 16 rfl rfl rfl ?_
    refine r_iaload (pc := 36) (N := 40) hv 17 rfl rfl rfl (by decide) h.1 ?_
    replace h := h.2
    refine r_istore_n (pc := 37) (lo' := [some (aR 0), some (aR 16), some (aI (σ1.1 19 (σ1.1 1 5 : Int32).toNatClampNeg))]) hv 18 rfl rfl ?_
    refine r_aload_n (pc := 38) hv 19 rfl rfl ?_
    refine r_getR (pc := 39) (b := 1) hv 20 rfl rfl rfl rfl ?_
    refine r_dup (pc := 42) hv 21 rfl trivial ?_
    refine r_getI (pc := 43) hv 22 rfl rfl rfl ?_
    refine r_iconst (pc := 46) hv 23 rfl  ?_
    refine r_iadd (pc := 47) hv 24 rfl  ?_
    refine r_putI (pc := 48) hv 25 rfl rfl rfl ?_
    obtain ⟨σ2, e_σ2⟩ : ∃ y : St, y = upI σ1 1 5 ((σ1.1 1 5) + 1) := ⟨_, rfl⟩
    rw [← e_σ2]
    replace h := h σ2 e_σ2
    refine r_iload_n (pc := 51) hv 26 rfl rfl ?_
    exact r_ireturn (pc := 52) hv 27 rfl rfl h
  · replace h := h.2 c
    refine r_bipush (pc := 22) hv 10 rfl  ?_
    exact r_ireturn (pc := 24) hv 11 rfl rfl h
theorem m_X8_step {S : Sp} (hS : Sys S) {σ : St} {Φ : Rs} (h : ∀ v : Kt, Cl S Φ k_X8_step v → Wk v → vc_X8_step_0 S Φ v  σ) : S 118 [aR 0] σ Φ :=
  hS.2 118 M_X8_step k_X8_step _ _ _ mkt_X8_step (Nat.le_of_ble_eq_true rfl) (fun v hv hw => w_X8_step_0 hS hv hw    σ (h v hv hw))
def vc_X8_stepped_0 (S : Sp) (Φ : Rs) (v : Kt) (l1 : Int32) (σ : St) : Prop := S 131 [aR 0] σ (fun r σ1 => r = [aR 13] ∧ (((l1 : Int32) = 0 → (Φ [aI (σ1.1 1 5)] σ1)) ∧ (¬ ((l1 : Int32) = 0) → (((l1 : Int32) = 1 → (S 88 [aR 16, aI (σ1.1 1 5)] σ1 (fun r σ2 => ∃ x3 : Int32, r = [aI x3] ∧ (Φ [aI x3] σ2)))) ∧ (¬ ((l1 : Int32) = 1) → (((l1 : Int32) = 2 → (S 89 [aR 16, aI (σ1.1 1 5)] σ1 (fun r σ4 => ∃ x5 : Int32, r = [aI x5] ∧ (Φ [aI x5] σ4)))) ∧ (¬ ((l1 : Int32) = 2) → (((l1 : Int32) = 3 → (S 90 [aR 16, aI (σ1.1 1 5)] σ1 (fun r σ6 => ∃ x7 : Int32, r = [aI x7] ∧ (Φ [aI ((σ1.1 13 4) &&& (x7 ^^^ (-1)))] σ6)))) ∧ (¬ ((l1 : Int32) = 3) → (Φ [aI (-1)] σ1))))))))))
theorem w_X8_stepped_0 {S : Sp} (hS : Sys S) {Φ : Rs} {v : Kt} (hv : Cl S Φ k_X8_stepped v) (hw : Wk v) (l1 : Int32) (σ : St) (h : vc_X8_stepped_0 S Φ v l1 σ) : v 0 [some (aR 0), some (aI l1), none] [] σ := by
  unfold vc_X8_stepped_0 at h
  refine r_aload_n (pc := 0) hv 0 rfl rfl ?_
  refine r_callV (pc := 1) (l := []) (av := []) (a := 0) (t := []) hv 1 rfl rfl rfl rfl (rcv_o (by decide) rfl) trivial (hS.1 _ _ _ _ _ (fun r σ1 h => ?_) h)
  obtain ⟨rfl, h⟩ := h
  show v 4 [some (aR 0), some (aI l1), none] [aR 13] σ1
  refine r_astore_n (pc := 4) (lo' := [some (aR 0), some (aI l1), some (aR 13)]) hv 2 rfl rfl ?_
  refine r_iload_n (pc := 5) hv 3 rfl rfl ?_
  refine r_tab (pc := 6) hv 4 rfl ?_
  refine ⟨fun c => ?_, fun c => ?_⟩
  · replace h := h.1 c
    show v 36 [some (aR 0), some (aI l1), some (aR 13)] [] σ1
    refine r_aload_n (pc := 36) hv 5 rfl rfl ?_
    refine r_getR (pc := 37) (b := 1) hv 6 rfl rfl rfl rfl ?_
    refine r_getI (pc := 40) hv 7 rfl rfl rfl ?_
    exact r_ireturn (pc := 43) hv 8 rfl rfl h
  · replace h := h.2 c
    refine ⟨fun c => ?_, fun c => ?_⟩
    · replace h := h.1 c
      show v 44 [some (aR 0), some (aI l1), some (aR 13)] [] σ1
      refine r_aload_n (pc := 44) hv 9 rfl rfl ?_
      refine r_getR (pc := 45) (b := 16) hv 10 rfl rfl rfl rfl ?_
      refine r_aload_n (pc := 48) hv 11 rfl rfl ?_
      refine r_getR (pc := 49) (b := 1) hv 12 rfl rfl rfl rfl ?_
      refine r_getI (pc := 52) hv 13 rfl rfl rfl ?_
      refine r_callV (pc := 55) (l := [aI (σ1.1 1 5)]) (av := [aI (σ1.1 1 5)]) (a := 16) (t := []) hv 14 rfl rfl rfl rfl (rcv_o (by decide) rfl) trivial (hS.1 _ _ _ _ _ (fun r σ2 h => ?_) h)
      obtain ⟨x3, rfl, h⟩ := h
      show v 58 [some (aR 0), some (aI l1), some (aR 13)] [aI x3] σ2
      exact r_ireturn (pc := 58) hv 15 rfl rfl h
    · replace h := h.2 c
      refine ⟨fun c => ?_, fun c => ?_⟩
      · replace h := h.1 c
        show v 59 [some (aR 0), some (aI l1), some (aR 13)] [] σ1
        refine r_aload_n (pc := 59) hv 16 rfl rfl ?_
        refine r_getR (pc := 60) (b := 16) hv 17 rfl rfl rfl rfl ?_
        refine r_aload_n (pc := 63) hv 18 rfl rfl ?_
        refine r_getR (pc := 64) (b := 1) hv 19 rfl rfl rfl rfl ?_
        refine r_getI (pc := 67) hv 20 rfl rfl rfl ?_
        refine r_callV (pc := 70) (l := [aI (σ1.1 1 5)]) (av := [aI (σ1.1 1 5)]) (a := 16) (t := []) hv 21 rfl rfl rfl rfl (rcv_o (by decide) rfl) trivial (hS.1 _ _ _ _ _ (fun r σ4 h => ?_) h)
        obtain ⟨x5, rfl, h⟩ := h
        show v 73 [some (aR 0), some (aI l1), some (aR 13)] [aI x5] σ4
        exact r_ireturn (pc := 73) hv 22 rfl rfl h
      · replace h := h.2 c
        refine ⟨fun c => ?_, fun c => ?_⟩
        · replace h := h.1 c
          show v 74 [some (aR 0), some (aI l1), some (aR 13)] [] σ1
          refine r_aload_n (pc := 74) hv 23 rfl rfl ?_
          refine r_getI (pc := 75) hv 24 rfl rfl rfl ?_
          refine r_aload_n (pc := 78) hv 25 rfl rfl ?_
          refine r_getR (pc := 79) (b := 16) hv 26 rfl rfl rfl rfl ?_
          refine r_aload_n (pc := 82) hv 27 rfl rfl ?_
          refine r_getR (pc := 83) (b := 1) hv 28 rfl rfl rfl rfl ?_
          refine r_getI (pc := 86) hv 29 rfl rfl rfl ?_
          refine r_callV (pc := 89) (l := [aI (σ1.1 1 5)]) (av := [aI (σ1.1 1 5)]) (a := 16) (t := [aI (σ1.1 13 4)]) hv 30 rfl rfl rfl rfl (rcv_o (by decide) rfl) trivial (hS.1 _ _ _ _ _ (fun r σ6 h => ?_) h)
          obtain ⟨x7, rfl, h⟩ := h
          show v 92 [some (aR 0), some (aI l1), some (aR 13)] [aI x7, aI (σ1.1 13 4)] σ6
          refine r_iconst (pc := 92) hv 31 rfl  ?_
          refine r_ixor (pc := 93) hv 32 rfl  ?_
          refine r_iand (pc := 94) hv 33 rfl  ?_
          exact r_ireturn (pc := 95) hv 34 rfl rfl h
        · replace h := h.2 c
          show v 96 [some (aR 0), some (aI l1), some (aR 13)] [] σ1
          refine r_iconst (pc := 96) hv 35 rfl  ?_
          exact r_ireturn (pc := 97) hv 36 rfl rfl h
theorem m_X8_stepped {S : Sp} (hS : Sys S) {l1 : Int32} {σ : St} {Φ : Rs} (h : ∀ v : Kt, Cl S Φ k_X8_stepped v → Wk v → vc_X8_stepped_0 S Φ v l1 σ) : S 119 [aR 0, aI l1] σ Φ :=
  hS.2 119 M_X8_stepped k_X8_stepped _ _ _ mkt_X8_stepped (Nat.le_of_ble_eq_true rfl) (fun v hv hw => w_X8_stepped_0 hS hv hw   l1 σ (h v hv hw))
def vc_X8_list_0 (S : Sp) (Φ : Rs) (v : Kt) (l1 : Int32) (l2 : Int32) (σ : St) : Prop := (¬ (b2 (¬ (l1 : Int32) < 0 ∧ ¬ 4 ≤ (l1 : Int32)) : Int32) = 0 → (((l2 : Int32) ≤ 40 → (((-1 : Int32) ≤ l2 → (S 79 [aR 41, aI l1, aI l2] σ (fun r σ1 => r = [] ∧ (Φ [aI 1] σ1)))) ∧ (¬ ((-1 : Int32) ≤ l2) → (Φ [aI (-14)] σ)))) ∧ (¬ ((l2 : Int32) ≤ 40) → (Φ [aI (-2)] σ)))) ∧ ((b2 (¬ (l1 : Int32) < 0 ∧ ¬ 4 ≤ (l1 : Int32)) : Int32) = 0 → (Φ [aI (-1)] σ))
theorem w_X8_list_0 {S : Sp} (hS : Sys S) {Φ : Rs} {v : Kt} (hv : Cl S Φ k_X8_list v) (hw : Wk v) (l1 : Int32) (l2 : Int32) (σ : St) (h : vc_X8_list_0 S Φ v l1 l2 σ) : v 0 [some (aR 0), some (aI l1), some (aI l2)] [] σ := by
  unfold vc_X8_list_0 at h
  refine r_iload_n (pc := 0) hv 0 rfl rfl ?_
  refine r_callS (pc := 1) (l := [aI l1]) (av := [aI l1]) (t := []) hv 1 rfl (Or.inl rfl) rfl rfl rfl trivial (t_X6_isList hS ?_)
  show v 4 [some (aR 0), some (aI l1), some (aI l2)] [aI (b2 (¬ (l1 : Int32) < 0 ∧ ¬ 4 ≤ (l1 : Int32)))] σ
  refine r_if_ne (pc := 4) hv 2 rfl (fun c => ?_) (fun c => ?_)
  · replace h := h.1 c
    refine r_iload_n (pc := 9) hv 5 rfl rfl ?_
    refine r_bipush (pc := 10) hv 6 rfl  ?_
    refine r_icmp_le (pc := 12) hv 7 rfl (fun c => ?_) (fun c => ?_)
    · replace h := h.1 c
      refine r_iload_n (pc := 18) hv 10 rfl rfl ?_
      refine r_iconst (pc := 19) hv 11 rfl  ?_
      refine r_icmp_ge (pc := 20) hv 12 rfl (fun c => ?_) (fun c => ?_)
      · replace h := h.1 c
        refine r_aload_n (pc := 26) hv 15 rfl rfl ?_
        refine r_getR (pc := 27) (b := 41) hv 16 rfl rfl rfl rfl ?_
        refine r_iload_n (pc := 30) hv 17 rfl rfl ?_
        refine r_iload_n (pc := 31) hv 18 rfl rfl ?_
        refine r_callV (pc := 32) (l := [aI l2, aI l1]) (av := [aI l1, aI l2]) (a := 41) (t := []) hv 19 rfl rfl rfl rfl (rcv_o (by decide) rfl) trivial (hS.1 _ _ _ _ _ (fun r σ1 h => ?_) h)
        obtain ⟨rfl, h⟩ := h
        show v 35 [some (aR 0), some (aI l1), some (aI l2)] [] σ1
        refine r_iconst (pc := 35) hv 20 rfl  ?_
        exact r_ireturn (pc := 36) hv 21 rfl rfl h
      · replace h := h.2 c
        refine r_bipush (pc := 23) hv 13 rfl  ?_
        exact r_ireturn (pc := 25) hv 14 rfl rfl h
    · replace h := h.2 c
      refine r_bipush (pc := 15) hv 8 rfl  ?_
      exact r_ireturn (pc := 17) hv 9 rfl rfl h
  · replace h := h.2 c
    refine r_iconst (pc := 7) hv 3 rfl  ?_
    exact r_ireturn (pc := 8) hv 4 rfl rfl h
theorem m_X8_list {S : Sp} (hS : Sys S) {l1 : Int32} {l2 : Int32} {σ : St} {Φ : Rs} (h : ∀ v : Kt, Cl S Φ k_X8_list v → Wk v → vc_X8_list_0 S Φ v l1 l2 σ) : S 120 [aR 0, aI l1, aI l2] σ Φ :=
  hS.2 120 M_X8_list k_X8_list _ _ _ mkt_X8_list (Nat.le_of_ble_eq_true rfl) (fun v hv hw => w_X8_list_0 hS hv hw   l1 l2 σ (h v hv hw))
def vc_X8_put_0 (S : Sp) (Φ : Rs) (v : Kt) (l1 : Int32) (l2 : Int32) (l3 : Int64) (σ : St) : Prop := (¬ (b2 (¬ (l1 : Int32) < 0 ∧ ¬ 4 ≤ (l1 : Int32)) : Int32) = 0 → (vp_in l1 4 ∧ (((b2 (σ.1 47 (l1 : Int32).toNatClampNeg = -1) : Int32) = 0 → (vp_in l1 4 ∧ ((¬ (b2 (¬ (l2 : Int32) < 0 ∧ ¬ σ.1 47 (l1 : Int32).toNatClampNeg ≤ l2) : Int32) = 0 → (vp_in l1 4 ∧ (vp_in l2 40 ∧ (∀ σ1 : St, σ1 = upJ σ (43 + (l1 : Int32).toNatClampNeg) (l2 : Int32).toNatClampNeg l3 → (Φ [aI 1] σ1))))) ∧ ((b2 (¬ (l2 : Int32) < 0 ∧ ¬ σ.1 47 (l1 : Int32).toNatClampNeg ≤ l2) : Int32) = 0 → (Φ [aI (-12)] σ))))) ∧ (¬ ((b2 (σ.1 47 (l1 : Int32).toNatClampNeg = -1) : Int32) = 0) → (Φ [aI (-11)] σ))))) ∧ ((b2 (¬ (l1 : Int32) < 0 ∧ ¬ 4 ≤ (l1 : Int32)) : Int32) = 0 → (Φ [aI (-1)] σ))
theorem w_X8_put_0 {S : Sp} (hS : Sys S) {Φ : Rs} {v : Kt} (hv : Cl S Φ k_X8_put v) (hw : Wk v) (l1 : Int32) (l2 : Int32) (l3 : Int64) (σ : St) (h : vc_X8_put_0 S Φ v l1 l2 l3 σ) : v 0 [some (aR 0), some (aI l1), some (aI l2), some (aL l3), none] [] σ := by
  unfold vc_X8_put_0 at h
  refine r_iload_n (pc := 0) hv 0 rfl rfl ?_
  refine r_callS (pc := 1) (l := [aI l1]) (av := [aI l1]) (t := []) hv 1 rfl (Or.inl rfl) rfl rfl rfl trivial (t_X6_isList hS ?_)
  show v 4 [some (aR 0), some (aI l1), some (aI l2), some (aL l3), none] [aI (b2 (¬ (l1 : Int32) < 0 ∧ ¬ 4 ≤ (l1 : Int32)))] σ
  refine r_if_ne (pc := 4) hv 2 rfl (fun c => ?_) (fun c => ?_)
  · replace h := h.1 c
    refine r_aload_n (pc := 9) hv 5 rfl rfl ?_
    refine r_getR (pc := 10) (b := 41) hv 6 rfl rfl rfl rfl ?_
    refine r_iload_n (pc := 13) hv 7 rfl rfl ?_
    refine r_callV (pc := 14) (l := [aI l1]) (av := [aI l1]) (a := 41) (t := []) hv 8 rfl rfl rfl rfl (rcv_o (by decide) rfl) trivial (t_X6_isMissing hS h.1 ?_)
    replace h := h.2
    show v 17 [some (aR 0), some (aI l1), some (aI l2), some (aL l3), none] [aI (b2 (σ.1 47 (l1 : Int32).toNatClampNeg = -1))] σ
    refine r_if_eq (pc := 17) hv 9 rfl (fun c => ?_) (fun c => ?_)
    · replace h := h.1 c
      refine r_aload_n (pc := 23) hv 12 rfl rfl ?_
      refine r_getR (pc := 24) (b := 41) hv 13 rfl rfl rfl rfl ?_
      refine r_iload_n (pc := 27) hv 14 rfl rfl ?_
      refine r_iload_n (pc := 28) hv 15 rfl rfl ?_
      refine r_callV (pc := 29) (l := [aI l2, aI l1]) (av := [aI l1, aI l2]) (a := 41) (t := []) hv 16 rfl rfl rfl rfl (rcv_o (by decide) rfl) trivial (t_X6_hasPlace hS h.1 ?_)
      replace h := h.2
      show v 32 [some (aR 0), some (aI l1), some (aI l2), some (aL l3), none] [aI (b2 (¬ (l2 : Int32) < 0 ∧ ¬ σ.1 47 (l1 : Int32).toNatClampNeg ≤ l2))] σ
      refine r_if_ne (pc := 32) hv 17 rfl (fun c => ?_) (fun c => ?_)
      · replace h := h.1 c
        refine r_aload_n (pc := 38) hv 20 rfl rfl ?_
        refine r_getR (pc := 39) (b := 41) hv 21 rfl rfl rfl rfl ?_
        refine r_getR (pc := 42) (b := 42) hv 22 rfl rfl rfl rfl ?_
        refine r_iload_n (pc := 45) hv 23 rfl rfl ?_
        have hrow46 := h.1
        refine r_aaload (pc := 46) hv 24 rfl rfl h.1 ?_
        replace h := h.2
        refine r_iload_n (pc := 47) hv 25 rfl rfl ?_
        refine r_lload_n (pc := 48) hv 26 rfl rfl ?_
        refine r_lastore (pc := 49) (N := 40) hv 27 rfl (row_t hrow46) (row_l hrow46) h.1 ?_
        replace h := h.2
        obtain ⟨σ1, e_σ1⟩ : ∃ y : St, y = upJ σ (43 + (l1 : Int32).toNatClampNeg) (l2 : Int32).toNatClampNeg l3 := ⟨_, rfl⟩
        rw [← e_σ1]
        replace h := h σ1 e_σ1
        refine r_iconst (pc := 50) hv 28 rfl  ?_
        exact r_ireturn (pc := 51) hv 29 rfl rfl h
      · replace h := h.2 c
        refine r_bipush (pc := 35) hv 18 rfl  ?_
        exact r_ireturn (pc := 37) hv 19 rfl rfl h
    · replace h := h.2 c
      refine r_bipush (pc := 20) hv 10 rfl  ?_
      exact r_ireturn (pc := 22) hv 11 rfl rfl h
  · replace h := h.2 c
    refine r_iconst (pc := 7) hv 3 rfl  ?_
    exact r_ireturn (pc := 8) hv 4 rfl rfl h
theorem m_X8_put {S : Sp} (hS : Sys S) {l1 : Int32} {l2 : Int32} {l3 : Int64} {σ : St} {Φ : Rs} (h : ∀ v : Kt, Cl S Φ k_X8_put v → Wk v → vc_X8_put_0 S Φ v l1 l2 l3 σ) : S 121 [aR 0, aI l1, aI l2, aL l3] σ Φ :=
  hS.2 121 M_X8_put k_X8_put _ _ _ mkt_X8_put (Nat.le_of_ble_eq_true rfl) (fun v hv hw => w_X8_put_0 hS hv hw   l1 l2 l3 σ (h v hv hw))
def vc_X8_get_0 (S : Sp) (Φ : Rs) (v : Kt) (l1 : Int32) (l2 : Int32) (σ : St) : Prop := ((b2 (¬ (l1 : Int32) < 0 ∧ ¬ 4 ≤ (l1 : Int32)) : Int32) = 0 → (Φ [aL (-9223372036854775808)] σ)) ∧ (¬ ((b2 (¬ (l1 : Int32) < 0 ∧ ¬ 4 ≤ (l1 : Int32)) : Int32) = 0) → (vp_in l1 4 ∧ (((b2 (¬ (l2 : Int32) < 0 ∧ ¬ σ.1 47 (l1 : Int32).toNatClampNeg ≤ l2) : Int32) = 0 → (Φ [aL (-9223372036854775808)] σ)) ∧ (¬ ((b2 (¬ (l2 : Int32) < 0 ∧ ¬ σ.1 47 (l1 : Int32).toNatClampNeg ≤ l2) : Int32) = 0) → (vp_in l1 4 ∧ (vp_in l2 40 ∧ (Φ [aL (σ.2 (43 + (l1 : Int32).toNatClampNeg) (l2 : Int32).toNatClampNeg)] σ)))))))
theorem w_X8_get_0 {S : Sp} (hS : Sys S) {Φ : Rs} {v : Kt} (hv : Cl S Φ k_X8_get v) (hw : Wk v) (l1 : Int32) (l2 : Int32) (σ : St) (h : vc_X8_get_0 S Φ v l1 l2 σ) : v 0 [some (aR 0), some (aI l1), some (aI l2)] [] σ := by
  unfold vc_X8_get_0 at h
  refine r_iload_n (pc := 0) hv 0 rfl rfl ?_
  refine r_callS (pc := 1) (l := [aI l1]) (av := [aI l1]) (t := []) hv 1 rfl (Or.inl rfl) rfl rfl rfl trivial (t_X6_isList hS ?_)
  show v 4 [some (aR 0), some (aI l1), some (aI l2)] [aI (b2 (¬ (l1 : Int32) < 0 ∧ ¬ 4 ≤ (l1 : Int32)))] σ
  refine r_if_eq (pc := 4) hv 2 rfl (fun c => ?_) (fun c => ?_)
  · replace h := h.1 c
    refine r_ldc2_w (pc := 33) hv 17 rfl  ?_
    exact r_lreturn (pc := 36) hv 18 rfl h
  · replace h := h.2 c
    refine r_aload_n (pc := 7) hv 3 rfl rfl ?_
    refine r_getR (pc := 8) (b := 41) hv 4 rfl rfl rfl rfl ?_
    refine r_iload_n (pc := 11) hv 5 rfl rfl ?_
    refine r_iload_n (pc := 12) hv 6 rfl rfl ?_
    refine r_callV (pc := 13) (l := [aI l2, aI l1]) (av := [aI l1, aI l2]) (a := 41) (t := []) hv 7 rfl rfl rfl rfl (rcv_o (by decide) rfl) trivial (t_X6_hasPlace hS h.1 ?_)
    replace h := h.2
    show v 16 [some (aR 0), some (aI l1), some (aI l2)] [aI (b2 (¬ (l2 : Int32) < 0 ∧ ¬ σ.1 47 (l1 : Int32).toNatClampNeg ≤ l2))] σ
    refine r_if_eq (pc := 16) hv 8 rfl (fun c => ?_) (fun c => ?_)
    · replace h := h.1 c
      refine r_ldc2_w (pc := 33) hv 17 rfl  ?_
      exact r_lreturn (pc := 36) hv 18 rfl h
    · replace h := h.2 c
      refine r_aload_n (pc := 19) hv 9 rfl rfl ?_
      refine r_getR (pc := 20) (b := 41) hv 10 rfl rfl rfl rfl ?_
      refine r_getR (pc := 23) (b := 42) hv 11 rfl rfl rfl rfl ?_
      refine r_iload_n (pc := 26) hv 12 rfl rfl ?_
      have hrow27 := h.1
      refine r_aaload (pc := 27) hv 13 rfl rfl h.1 ?_
      replace h := h.2
      refine r_iload_n (pc := 28) hv 14 rfl rfl ?_
      refine r_laload (pc := 29) (N := 40) hv 15 rfl (row_t hrow27) (row_l hrow27) h.1 ?_
      replace h := h.2
      refine r_goto (pc := 30) hv 16 rfl  ?_
      exact r_lreturn (pc := 36) hv 18 rfl h
theorem m_X8_get {S : Sp} (hS : Sys S) {l1 : Int32} {l2 : Int32} {σ : St} {Φ : Rs} (h : ∀ v : Kt, Cl S Φ k_X8_get v → Wk v → vc_X8_get_0 S Φ v l1 l2 σ) : S 122 [aR 0, aI l1, aI l2] σ Φ :=
  hS.2 122 M_X8_get k_X8_get _ _ _ mkt_X8_get (Nat.le_of_ble_eq_true rfl) (fun v hv hw => w_X8_get_0 hS hv hw   l1 l2 σ (h v hv hw))
def vc_X8_fill_0 (S : Sp) (Φ : Rs) (v : Kt) (l1 : Int32) (l2 : Int32) (σ : St) : Prop := ((b2 (¬ (l1 : Int32) < 0 ∧ ¬ 4 ≤ (l1 : Int32)) : Int32) = 0 → (Φ [aI (-1)] σ)) ∧ (¬ ((b2 (¬ (l1 : Int32) < 0 ∧ ¬ 4 ≤ (l1 : Int32)) : Int32) = 0) → ((¬ (b2 (¬ (l2 : Int32) < 0 ∧ ¬ 3 ≤ (l2 : Int32)) : Int32) = 0 → (vp_in l1 4 ∧ (((b2 (σ.1 47 (l1 : Int32).toNatClampNeg = -1) : Int32) = 0 → (S 131 [aR 0] σ (fun r σ1 => r = [aR 13] ∧ (S 15 [aR 13, aI l2, aR 48] σ1 (fun r σ2 => ∃ x3 : Int32, r = [aI x3] ∧ (S 80 [aR 41, aI l1, aR 48, aI x3] σ2 (fun r σ4 => ∃ x5 : Int32, r = [aI x5] ∧ (Φ [aI x5] σ4)))))))) ∧ (¬ ((b2 (σ.1 47 (l1 : Int32).toNatClampNeg = -1) : Int32) = 0) → (Φ [aI (-11)] σ))))) ∧ ((b2 (¬ (l2 : Int32) < 0 ∧ ¬ 3 ≤ (l2 : Int32)) : Int32) = 0 → (Φ [aI (-1)] σ))))
theorem w_X8_fill_0 {S : Sp} (hS : Sys S) {Φ : Rs} {v : Kt} (hv : Cl S Φ k_X8_fill v) (hw : Wk v) (l1 : Int32) (l2 : Int32) (σ : St) (h : vc_X8_fill_0 S Φ v l1 l2 σ) : v 0 [some (aR 0), some (aI l1), some (aI l2)] [] σ := by
  unfold vc_X8_fill_0 at h
  refine r_iload_n (pc := 0) hv 0 rfl rfl ?_
  refine r_callS (pc := 1) (l := [aI l1]) (av := [aI l1]) (t := []) hv 1 rfl (Or.inl rfl) rfl rfl rfl trivial (t_X6_isList hS ?_)
  show v 4 [some (aR 0), some (aI l1), some (aI l2)] [aI (b2 (¬ (l1 : Int32) < 0 ∧ ¬ 4 ≤ (l1 : Int32)))] σ
  refine r_if_eq (pc := 4) hv 2 rfl (fun c => ?_) (fun c => ?_)
  · replace h := h.1 c
    refine r_iconst (pc := 14) hv 6 rfl  ?_
    exact r_ireturn (pc := 15) hv 7 rfl rfl h
  · replace h := h.2 c
    refine r_iload_n (pc := 7) hv 3 rfl rfl ?_
    refine r_callS (pc := 8) (l := [aI l2]) (av := [aI l2]) (t := []) hv 4 rfl (Or.inl rfl) rfl rfl rfl trivial (t_X0_canLayOut hS ?_)
    show v 11 [some (aR 0), some (aI l1), some (aI l2)] [aI (b2 (¬ (l2 : Int32) < 0 ∧ ¬ 3 ≤ (l2 : Int32)))] σ
    refine r_if_ne (pc := 11) hv 5 rfl (fun c => ?_) (fun c => ?_)
    · replace h := h.1 c
      refine r_aload_n (pc := 16) hv 8 rfl rfl ?_
      refine r_getR (pc := 17) (b := 41) hv 9 rfl rfl rfl rfl ?_
      refine r_iload_n (pc := 20) hv 10 rfl rfl ?_
      refine r_callV (pc := 21) (l := [aI l1]) (av := [aI l1]) (a := 41) (t := []) hv 11 rfl rfl rfl rfl (rcv_o (by decide) rfl) trivial (t_X6_isMissing hS h.1 ?_)
      replace h := h.2
      show v 24 [some (aR 0), some (aI l1), some (aI l2)] [aI (b2 (σ.1 47 (l1 : Int32).toNatClampNeg = -1))] σ
      refine r_if_eq (pc := 24) hv 12 rfl (fun c => ?_) (fun c => ?_)
      · replace h := h.1 c
        refine r_aload_n (pc := 30) hv 15 rfl rfl ?_
        refine r_getR (pc := 31) (b := 41) hv 16 rfl rfl rfl rfl ?_
        refine r_iload_n (pc := 34) hv 17 rfl rfl ?_
        refine r_aload_n (pc := 35) hv 18 rfl rfl ?_
        refine r_getR (pc := 36) (b := 48) hv 19 rfl rfl rfl rfl ?_
        refine r_aload_n (pc := 39) hv 20 rfl rfl ?_
        refine r_callV (pc := 40) (l := []) (av := []) (a := 0) (t := [aR 48, aI l1, aR 41]) hv 21 rfl rfl rfl rfl (rcv_o (by decide) rfl) trivial (hS.1 _ _ _ _ _ (fun r σ1 h => ?_) h)
        obtain ⟨rfl, h⟩ := h
        show v 43 [some (aR 0), some (aI l1), some (aI l2)] [aR 13, aR 48, aI l1, aR 41] σ1
        refine r_iload_n (pc := 43) hv 22 rfl rfl ?_
        refine r_aload_n (pc := 44) hv 23 rfl rfl ?_
        refine r_getR (pc := 45) (b := 48) hv 24 rfl rfl rfl rfl ?_
        refine r_callV (pc := 48) (l := [aR 48, aI l2]) (av := [aI l2, aR 48]) (a := 13) (t := [aR 48, aI l1, aR 41]) hv 25 rfl rfl rfl rfl (rcv_o (by decide) rfl) trivial (hS.1 _ _ _ _ _ (fun r σ2 h => ?_) h)
        obtain ⟨x3, rfl, h⟩ := h
        show v 51 [some (aR 0), some (aI l1), some (aI l2)] [aI x3, aR 48, aI l1, aR 41] σ2
        refine r_callV (pc := 51) (l := [aI x3, aR 48, aI l1]) (av := [aI l1, aR 48, aI x3]) (a := 41) (t := []) hv 26 rfl rfl rfl rfl (rcv_o (by decide) rfl) trivial (hS.1 _ _ _ _ _ (fun r σ4 h => ?_) h)
        obtain ⟨x5, rfl, h⟩ := h
        show v 54 [some (aR 0), some (aI l1), some (aI l2)] [aI x5] σ4
        exact r_ireturn (pc := 54) hv 27 rfl rfl h
      · replace h := h.2 c
        refine r_bipush (pc := 27) hv 13 rfl  ?_
        exact r_ireturn (pc := 29) hv 14 rfl rfl h
    · replace h := h.2 c
      refine r_iconst (pc := 14) hv 6 rfl  ?_
      exact r_ireturn (pc := 15) hv 7 rfl rfl h
theorem m_X8_fill {S : Sp} (hS : Sys S) {l1 : Int32} {l2 : Int32} {σ : St} {Φ : Rs} (h : ∀ v : Kt, Cl S Φ k_X8_fill v → Wk v → vc_X8_fill_0 S Φ v l1 l2 σ) : S 123 [aR 0, aI l1, aI l2] σ Φ :=
  hS.2 123 M_X8_fill k_X8_fill _ _ _ mkt_X8_fill (Nat.le_of_ble_eq_true rfl) (fun v hv hw => w_X8_fill_0 hS hv hw   l1 l2 σ (h v hv hw))
def vc_X8_judge_0 (S : Sp) (Φ : Rs) (v : Kt) (l1 : Int32) (l2 : Int32) (σ : St) : Prop := ((b2 (¬ (l1 : Int32) < 0 ∧ ¬ 4 ≤ (l1 : Int32)) : Int32) = 0 → (Φ [aI (-1)] σ)) ∧ (¬ ((b2 (¬ (l1 : Int32) < 0 ∧ ¬ 4 ≤ (l1 : Int32)) : Int32) = 0) → ((¬ (b2 (¬ (l2 : Int32) < 0 ∧ ¬ 3 ≤ (l2 : Int32)) : Int32) = 0 → (vp_in l1 4 ∧ (((b2 (σ.1 47 (l1 : Int32).toNatClampNeg = -1) : Int32) = 0 → (S 131 [aR 0] σ (fun r σ1 => r = [aR 13] ∧ (S 15 [aR 13, aI l2, aR 48] σ1 (fun r σ2 => ∃ x3 : Int32, r = [aI x3] ∧ (S 81 [aR 41, aI l1, aR 48, aI x3] σ2 (fun r σ4 => ∃ x5 : Int32, r = [aI x5] ∧ (Φ [aI x5] σ4)))))))) ∧ (¬ ((b2 (σ.1 47 (l1 : Int32).toNatClampNeg = -1) : Int32) = 0) → (Φ [aI (-11)] σ))))) ∧ ((b2 (¬ (l2 : Int32) < 0 ∧ ¬ 3 ≤ (l2 : Int32)) : Int32) = 0 → (Φ [aI (-1)] σ))))
theorem w_X8_judge_0 {S : Sp} (hS : Sys S) {Φ : Rs} {v : Kt} (hv : Cl S Φ k_X8_judge v) (hw : Wk v) (l1 : Int32) (l2 : Int32) (σ : St) (h : vc_X8_judge_0 S Φ v l1 l2 σ) : v 0 [some (aR 0), some (aI l1), some (aI l2)] [] σ := by
  unfold vc_X8_judge_0 at h
  refine r_iload_n (pc := 0) hv 0 rfl rfl ?_
  refine r_callS (pc := 1) (l := [aI l1]) (av := [aI l1]) (t := []) hv 1 rfl (Or.inl rfl) rfl rfl rfl trivial (t_X6_isList hS ?_)
  show v 4 [some (aR 0), some (aI l1), some (aI l2)] [aI (b2 (¬ (l1 : Int32) < 0 ∧ ¬ 4 ≤ (l1 : Int32)))] σ
  refine r_if_eq (pc := 4) hv 2 rfl (fun c => ?_) (fun c => ?_)
  · replace h := h.1 c
    refine r_iconst (pc := 14) hv 6 rfl  ?_
    exact r_ireturn (pc := 15) hv 7 rfl rfl h
  · replace h := h.2 c
    refine r_iload_n (pc := 7) hv 3 rfl rfl ?_
    refine r_callS (pc := 8) (l := [aI l2]) (av := [aI l2]) (t := []) hv 4 rfl (Or.inl rfl) rfl rfl rfl trivial (t_X0_canLayOut hS ?_)
    show v 11 [some (aR 0), some (aI l1), some (aI l2)] [aI (b2 (¬ (l2 : Int32) < 0 ∧ ¬ 3 ≤ (l2 : Int32)))] σ
    refine r_if_ne (pc := 11) hv 5 rfl (fun c => ?_) (fun c => ?_)
    · replace h := h.1 c
      refine r_aload_n (pc := 16) hv 8 rfl rfl ?_
      refine r_getR (pc := 17) (b := 41) hv 9 rfl rfl rfl rfl ?_
      refine r_iload_n (pc := 20) hv 10 rfl rfl ?_
      refine r_callV (pc := 21) (l := [aI l1]) (av := [aI l1]) (a := 41) (t := []) hv 11 rfl rfl rfl rfl (rcv_o (by decide) rfl) trivial (t_X6_isMissing hS h.1 ?_)
      replace h := h.2
      show v 24 [some (aR 0), some (aI l1), some (aI l2)] [aI (b2 (σ.1 47 (l1 : Int32).toNatClampNeg = -1))] σ
      refine r_if_eq (pc := 24) hv 12 rfl (fun c => ?_) (fun c => ?_)
      · replace h := h.1 c
        refine r_aload_n (pc := 30) hv 15 rfl rfl ?_
        refine r_getR (pc := 31) (b := 41) hv 16 rfl rfl rfl rfl ?_
        refine r_iload_n (pc := 34) hv 17 rfl rfl ?_
        refine r_aload_n (pc := 35) hv 18 rfl rfl ?_
        refine r_getR (pc := 36) (b := 48) hv 19 rfl rfl rfl rfl ?_
        refine r_aload_n (pc := 39) hv 20 rfl rfl ?_
        refine r_callV (pc := 40) (l := []) (av := []) (a := 0) (t := [aR 48, aI l1, aR 41]) hv 21 rfl rfl rfl rfl (rcv_o (by decide) rfl) trivial (hS.1 _ _ _ _ _ (fun r σ1 h => ?_) h)
        obtain ⟨rfl, h⟩ := h
        show v 43 [some (aR 0), some (aI l1), some (aI l2)] [aR 13, aR 48, aI l1, aR 41] σ1
        refine r_iload_n (pc := 43) hv 22 rfl rfl ?_
        refine r_aload_n (pc := 44) hv 23 rfl rfl ?_
        refine r_getR (pc := 45) (b := 48) hv 24 rfl rfl rfl rfl ?_
        refine r_callV (pc := 48) (l := [aR 48, aI l2]) (av := [aI l2, aR 48]) (a := 13) (t := [aR 48, aI l1, aR 41]) hv 25 rfl rfl rfl rfl (rcv_o (by decide) rfl) trivial (hS.1 _ _ _ _ _ (fun r σ2 h => ?_) h)
        obtain ⟨x3, rfl, h⟩ := h
        show v 51 [some (aR 0), some (aI l1), some (aI l2)] [aI x3, aR 48, aI l1, aR 41] σ2
        refine r_callV (pc := 51) (l := [aI x3, aR 48, aI l1]) (av := [aI l1, aR 48, aI x3]) (a := 41) (t := []) hv 26 rfl rfl rfl rfl (rcv_o (by decide) rfl) trivial (hS.1 _ _ _ _ _ (fun r σ4 h => ?_) h)
        obtain ⟨x5, rfl, h⟩ := h
        show v 54 [some (aR 0), some (aI l1), some (aI l2)] [aI x5] σ4
        exact r_ireturn (pc := 54) hv 27 rfl rfl h
      · replace h := h.2 c
        refine r_bipush (pc := 27) hv 13 rfl  ?_
        exact r_ireturn (pc := 29) hv 14 rfl rfl h
    · replace h := h.2 c
      refine r_iconst (pc := 14) hv 6 rfl  ?_
      exact r_ireturn (pc := 15) hv 7 rfl rfl h
theorem m_X8_judge {S : Sp} (hS : Sys S) {l1 : Int32} {l2 : Int32} {σ : St} {Φ : Rs} (h : ∀ v : Kt, Cl S Φ k_X8_judge v → Wk v → vc_X8_judge_0 S Φ v l1 l2 σ) : S 124 [aR 0, aI l1, aI l2] σ Φ :=
  hS.2 124 M_X8_judge k_X8_judge _ _ _ mkt_X8_judge (Nat.le_of_ble_eq_true rfl) (fun v hv hw => w_X8_judge_0 hS hv hw   l1 l2 σ (h v hv hw))
def vc_X8_move_0 (S : Sp) (Φ : Rs) (v : Kt) (l1 : Int32) (l2 : Int32) (l3 : Int32) (l4 : Int32) (l5 : Int32) (σ : St) : Prop := ((b2 (¬ (l1 : Int32) < 0 ∧ ¬ 4 ≤ (l1 : Int32)) : Int32) = 0 → (Φ [aI (-1)] σ)) ∧ (¬ ((b2 (¬ (l1 : Int32) < 0 ∧ ¬ 4 ≤ (l1 : Int32)) : Int32) = 0) → ((¬ (b2 (¬ (l3 : Int32) < 0 ∧ ¬ 4 ≤ (l3 : Int32)) : Int32) = 0 → (vp_in l1 4 ∧ ((¬ (b2 (σ.1 47 (l1 : Int32).toNatClampNeg = -1) : Int32) = 0 → (Φ [aI (-11)] σ)) ∧ ((b2 (σ.1 47 (l1 : Int32).toNatClampNeg = -1) : Int32) = 0 → (vp_in l3 4 ∧ (((b2 (σ.1 47 (l3 : Int32).toNatClampNeg = -1) : Int32) = 0 → (vp_in l1 4 ∧ (((b2 (¬ (l2 : Int32) < 0 ∧ ¬ (l5 : Int32) < 0 ∧ ¬ σ.1 47 (l1 : Int32).toNatClampNeg < l2 ∧ ¬ σ.1 47 (l1 : Int32).toNatClampNeg - l2 < l5) : Int32) = 0 → (Φ [aI (-12)] σ)) ∧ (¬ ((b2 (¬ (l2 : Int32) < 0 ∧ ¬ (l5 : Int32) < 0 ∧ ¬ σ.1 47 (l1 : Int32).toNatClampNeg < l2 ∧ ¬ σ.1 47 (l1 : Int32).toNatClampNeg - l2 < l5) : Int32) = 0) → (vp_in l3 4 ∧ ((¬ (b2 (¬ (l4 : Int32) < 0 ∧ ¬ (l5 : Int32) < 0 ∧ ¬ σ.1 47 (l3 : Int32).toNatClampNeg < l4 ∧ ¬ σ.1 47 (l3 : Int32).toNatClampNeg - l4 < l5) : Int32) = 0 → (vp_in l1 4 ∧ (vp_in l3 4 ∧ ((¬ (l2 : Int32) < 0 ∧ ¬ (l4 : Int32) < 0 ∧ ¬ (l5 : Int32) < 0 ∧ (l2 : Int32).toNatClampNeg + (l5 : Int32).toNatClampNeg ≤ 40 ∧ (l4 : Int32).toNatClampNeg + (l5 : Int32).toNatClampNeg ≤ 40) ∧ (∀ σ1 : St, σ1 = cpJ σ (43 + (l1 : Int32).toNatClampNeg) (43 + (l3 : Int32).toNatClampNeg) (l2 : Int32).toNatClampNeg (l4 : Int32).toNatClampNeg (l5 : Int32).toNatClampNeg → (Φ [aI l5] σ1)))))) ∧ ((b2 (¬ (l4 : Int32) < 0 ∧ ¬ (l5 : Int32) < 0 ∧ ¬ σ.1 47 (l3 : Int32).toNatClampNeg < l4 ∧ ¬ σ.1 47 (l3 : Int32).toNatClampNeg - l4 < l5) : Int32) = 0 → (Φ [aI (-12)] σ)))))))) ∧ (¬ ((b2 (σ.1 47 (l3 : Int32).toNatClampNeg = -1) : Int32) = 0) → (Φ [aI (-11)] σ)))))))) ∧ ((b2 (¬ (l3 : Int32) < 0 ∧ ¬ 4 ≤ (l3 : Int32)) : Int32) = 0 → (Φ [aI (-1)] σ))))
theorem w_X8_move_0 {S : Sp} (hS : Sys S) {Φ : Rs} {v : Kt} (hv : Cl S Φ k_X8_move v) (hw : Wk v) (l1 : Int32) (l2 : Int32) (l3 : Int32) (l4 : Int32) (l5 : Int32) (σ : St) (h : vc_X8_move_0 S Φ v l1 l2 l3 l4 l5 σ) : v 0 [some (aR 0), some (aI l1), some (aI l2), some (aI l3), some (aI l4), some (aI l5)] [] σ := by
  unfold vc_X8_move_0 at h
  refine r_iload_n (pc := 0) hv 0 rfl rfl ?_
  refine r_callS (pc := 1) (l := [aI l1]) (av := [aI l1]) (t := []) hv 1 rfl (Or.inl rfl) rfl rfl rfl trivial (t_X6_isList hS ?_)
  show v 4 [some (aR 0), some (aI l1), some (aI l2), some (aI l3), some (aI l4), some (aI l5)] [aI (b2 (¬ (l1 : Int32) < 0 ∧ ¬ 4 ≤ (l1 : Int32)))] σ
  refine r_if_eq (pc := 4) hv 2 rfl (fun c => ?_) (fun c => ?_)
  · replace h := h.1 c
    refine r_iconst (pc := 14) hv 6 rfl  ?_
    exact r_ireturn (pc := 15) hv 7 rfl rfl h
  · replace h := h.2 c
    refine r_iload_n (pc := 7) hv 3 rfl rfl ?_
    refine r_callS (pc := 8) (l := [aI l3]) (av := [aI l3]) (t := []) hv 4 rfl (Or.inl rfl) rfl rfl rfl trivial (t_X6_isList hS ?_)
    show v 11 [some (aR 0), some (aI l1), some (aI l2), some (aI l3), some (aI l4), some (aI l5)] [aI (b2 (¬ (l3 : Int32) < 0 ∧ ¬ 4 ≤ (l3 : Int32)))] σ
    refine r_if_ne (pc := 11) hv 5 rfl (fun c => ?_) (fun c => ?_)
    · replace h := h.1 c
      refine r_aload_n (pc := 16) hv 8 rfl rfl ?_
      refine r_getR (pc := 17) (b := 41) hv 9 rfl rfl rfl rfl ?_
      refine r_iload_n (pc := 20) hv 10 rfl rfl ?_
      refine r_callV (pc := 21) (l := [aI l1]) (av := [aI l1]) (a := 41) (t := []) hv 11 rfl rfl rfl rfl (rcv_o (by decide) rfl) trivial (t_X6_isMissing hS h.1 ?_)
      replace h := h.2
      show v 24 [some (aR 0), some (aI l1), some (aI l2), some (aI l3), some (aI l4), some (aI l5)] [aI (b2 (σ.1 47 (l1 : Int32).toNatClampNeg = -1))] σ
      refine r_if_ne (pc := 24) hv 12 rfl (fun c => ?_) (fun c => ?_)
      · replace h := h.1 c
        refine r_bipush (pc := 38) hv 18 rfl  ?_
        exact r_ireturn (pc := 40) hv 19 rfl rfl h
      · replace h := h.2 c
        refine r_aload_n (pc := 27) hv 13 rfl rfl ?_
        refine r_getR (pc := 28) (b := 41) hv 14 rfl rfl rfl rfl ?_
        refine r_iload_n (pc := 31) hv 15 rfl rfl ?_
        refine r_callV (pc := 32) (l := [aI l3]) (av := [aI l3]) (a := 41) (t := []) hv 16 rfl rfl rfl rfl (rcv_o (by decide) rfl) trivial (t_X6_isMissing hS h.1 ?_)
        replace h := h.2
        show v 35 [some (aR 0), some (aI l1), some (aI l2), some (aI l3), some (aI l4), some (aI l5)] [aI (b2 (σ.1 47 (l3 : Int32).toNatClampNeg = -1))] σ
        refine r_if_eq (pc := 35) hv 17 rfl (fun c => ?_) (fun c => ?_)
        · replace h := h.1 c
          refine r_aload_n (pc := 41) hv 20 rfl rfl ?_
          refine r_getR (pc := 42) (b := 41) hv 21 rfl rfl rfl rfl ?_
          refine r_iload_n (pc := 45) hv 22 rfl rfl ?_
          refine r_iload_n (pc := 46) hv 23 rfl rfl ?_
          refine r_iload (pc := 47) hv 24 rfl rfl ?_
          refine r_callV (pc := 49) (l := [aI l5, aI l2, aI l1]) (av := [aI l1, aI l2, aI l5]) (a := 41) (t := []) hv 25 rfl rfl rfl rfl (rcv_o (by decide) rfl) trivial (t_X6_hasSpan hS h.1 ?_)
          replace h := h.2
          show v 52 [some (aR 0), some (aI l1), some (aI l2), some (aI l3), some (aI l4), some (aI l5)] [aI (b2 (¬ (l2 : Int32) < 0 ∧ ¬ (l5 : Int32) < 0 ∧ ¬ σ.1 47 (l1 : Int32).toNatClampNeg < l2 ∧ ¬ σ.1 47 (l1 : Int32).toNatClampNeg - l2 < l5))] σ
          refine r_if_eq (pc := 52) hv 26 rfl (fun c => ?_) (fun c => ?_)
          · replace h := h.1 c
            refine r_bipush (pc := 70) hv 34 rfl  ?_
            exact r_ireturn (pc := 72) hv 35 rfl rfl h
          · replace h := h.2 c
            refine r_aload_n (pc := 55) hv 27 rfl rfl ?_
            refine r_getR (pc := 56) (b := 41) hv 28 rfl rfl rfl rfl ?_
            refine r_iload_n (pc := 59) hv 29 rfl rfl ?_
            refine r_iload (pc := 60) hv 30 rfl rfl ?_
            refine r_iload (pc := 62) hv 31 rfl rfl ?_
            refine r_callV (pc := 64) (l := [aI l5, aI l4, aI l3]) (av := [aI l3, aI l4, aI l5]) (a := 41) (t := []) hv 32 rfl rfl rfl rfl (rcv_o (by decide) rfl) trivial (t_X6_hasSpan hS h.1 ?_)
            replace h := h.2
            show v 67 [some (aR 0), some (aI l1), some (aI l2), some (aI l3), some (aI l4), some (aI l5)] [aI (b2 (¬ (l4 : Int32) < 0 ∧ ¬ (l5 : Int32) < 0 ∧ ¬ σ.1 47 (l3 : Int32).toNatClampNeg < l4 ∧ ¬ σ.1 47 (l3 : Int32).toNatClampNeg - l4 < l5))] σ
            refine r_if_ne (pc := 67) hv 33 rfl (fun c => ?_) (fun c => ?_)
            · replace h := h.1 c
              refine r_aload_n (pc := 73) hv 36 rfl rfl ?_
              refine r_getR (pc := 74) (b := 41) hv 37 rfl rfl rfl rfl ?_
              refine r_getR (pc := 77) (b := 42) hv 38 rfl rfl rfl rfl ?_
              refine r_iload_n (pc := 80) hv 39 rfl rfl ?_
              have hrow81 := h.1
              refine r_aaload (pc := 81) hv 40 rfl rfl h.1 ?_
              replace h := h.2
              refine r_iload_n (pc := 82) hv 41 rfl rfl ?_
              refine r_aload_n (pc := 83) hv 42 rfl rfl ?_
              refine r_getR (pc := 84) (b := 41) hv 43 rfl rfl rfl rfl ?_
              refine r_getR (pc := 87) (b := 42) hv 44 rfl rfl rfl rfl ?_
              refine r_iload_n (pc := 90) hv 45 rfl rfl ?_
              have hrow91 := h.1
              refine r_aaload (pc := 91) hv 46 rfl rfl h.1 ?_
              replace h := h.2
              refine r_iload (pc := 92) hv 47 rfl rfl ?_
              refine r_iload (pc := 94) hv 48 rfl rfl ?_
              refine r_copyJ (pc := 96) hv 49 rfl rfl (row_t hrow81) (row_t hrow91) (row_l hrow81) (row_l hrow91) trivial h.1.1 h.1.2.1 h.1.2.2.1 h.1.2.2.2.1 h.1.2.2.2.2 ?_
              replace h := h.2
              obtain ⟨σ1, e_σ1⟩ : ∃ y : St, y = cpJ σ (43 + (l1 : Int32).toNatClampNeg) (43 + (l3 : Int32).toNatClampNeg) (l2 : Int32).toNatClampNeg (l4 : Int32).toNatClampNeg (l5 : Int32).toNatClampNeg := ⟨_, rfl⟩
              rw [← e_σ1]
              replace h := h σ1 e_σ1
              refine r_iload (pc := 99) hv 50 rfl rfl ?_
              exact r_ireturn (pc := 101) hv 51 rfl rfl h
            · replace h := h.2 c
              refine r_bipush (pc := 70) hv 34 rfl  ?_
              exact r_ireturn (pc := 72) hv 35 rfl rfl h
        · replace h := h.2 c
          refine r_bipush (pc := 38) hv 18 rfl  ?_
          exact r_ireturn (pc := 40) hv 19 rfl rfl h
    · replace h := h.2 c
      refine r_iconst (pc := 14) hv 6 rfl  ?_
      exact r_ireturn (pc := 15) hv 7 rfl rfl h
theorem m_X8_move {S : Sp} (hS : Sys S) {l1 : Int32} {l2 : Int32} {l3 : Int32} {l4 : Int32} {l5 : Int32} {σ : St} {Φ : Rs} (h : ∀ v : Kt, Cl S Φ k_X8_move v → Wk v → vc_X8_move_0 S Φ v l1 l2 l3 l4 l5 σ) : S 125 [aR 0, aI l1, aI l2, aI l3, aI l4, aI l5] σ Φ :=
  hS.2 125 M_X8_move k_X8_move _ _ _ mkt_X8_move (Nat.le_of_ble_eq_true rfl) (fun v hv hw => w_X8_move_0 hS hv hw   l1 l2 l3 l4 l5 σ (h v hv hw))
def vc_X8_count_0 (S : Sp) (Φ : Rs) (v : Kt) (l1 : Int32) (σ : St) : Prop := ((l1 : Int32) = 0 → (Φ [aI (σ.1 1 3)] σ)) ∧ (¬ ((l1 : Int32) = 0) → (((l1 : Int32) = 1 → (Φ [aI (σ.1 1 4)] σ)) ∧ (¬ ((l1 : Int32) = 1) → (((l1 : Int32) = 2 → (Φ [aI (σ.1 36 1)] σ)) ∧ (¬ ((l1 : Int32) = 2) → (((l1 : Int32) = 3 → (Φ [aI (σ.1 0 14)] σ)) ∧ (¬ ((l1 : Int32) = 3) → (((l1 : Int32) = 4 → (vp_in 0 3 ∧ (Φ [aI (σ.1 4 (0 : Int32).toNatClampNeg)] σ))) ∧ (¬ ((l1 : Int32) = 4) → (((l1 : Int32) = 5 → (vp_in 1 3 ∧ (Φ [aI (σ.1 4 (1 : Int32).toNatClampNeg)] σ))) ∧ (¬ ((l1 : Int32) = 5) → (((l1 : Int32) = 6 → (vp_in 2 3 ∧ (Φ [aI (σ.1 4 (2 : Int32).toNatClampNeg)] σ))) ∧ (¬ ((l1 : Int32) = 6) → (Φ [aI (-1)] σ))))))))))))))
theorem w_X8_count_0 {S : Sp} (hS : Sys S) {Φ : Rs} {v : Kt} (hv : Cl S Φ k_X8_count v) (hw : Wk v) (l1 : Int32) (σ : St) (h : vc_X8_count_0 S Φ v l1 σ) : v 0 [some (aR 0), some (aI l1)] [] σ := by
  unfold vc_X8_count_0 at h
  refine r_iload_n (pc := 0) hv 0 rfl rfl ?_
  refine r_tab (pc := 1) hv 1 rfl ?_
  refine ⟨fun c => ?_, fun c => ?_⟩
  · replace h := h.1 c
    show v 44 [some (aR 0), some (aI l1)] [] σ
    refine r_aload_n (pc := 44) hv 2 rfl rfl ?_
    refine r_getR (pc := 45) (b := 1) hv 3 rfl rfl rfl rfl ?_
    refine r_getI (pc := 48) hv 4 rfl rfl rfl ?_
    exact r_ireturn (pc := 51) hv 5 rfl rfl h
  · replace h := h.2 c
    refine ⟨fun c => ?_, fun c => ?_⟩
    · replace h := h.1 c
      show v 52 [some (aR 0), some (aI l1)] [] σ
      refine r_aload_n (pc := 52) hv 6 rfl rfl ?_
      refine r_getR (pc := 53) (b := 1) hv 7 rfl rfl rfl rfl ?_
      refine r_getI (pc := 56) hv 8 rfl rfl rfl ?_
      exact r_ireturn (pc := 59) hv 9 rfl rfl h
    · replace h := h.2 c
      refine ⟨fun c => ?_, fun c => ?_⟩
      · replace h := h.1 c
        show v 60 [some (aR 0), some (aI l1)] [] σ
        refine r_aload_n (pc := 60) hv 10 rfl rfl ?_
        refine r_getR (pc := 61) (b := 36) hv 11 rfl rfl rfl rfl ?_
        refine r_getI (pc := 64) hv 12 rfl rfl rfl ?_
        exact r_ireturn (pc := 67) hv 13 rfl rfl h
      · replace h := h.2 c
        refine ⟨fun c => ?_, fun c => ?_⟩
        · replace h := h.1 c
          show v 68 [some (aR 0), some (aI l1)] [] σ
          refine r_aload_n (pc := 68) hv 14 rfl rfl ?_
          refine r_getI (pc := 69) hv 15 rfl rfl rfl ?_
          exact r_ireturn (pc := 72) hv 16 rfl rfl h
        · replace h := h.2 c
          refine ⟨fun c => ?_, fun c => ?_⟩
          · replace h := h.1 c
            show v 73 [some (aR 0), some (aI l1)] [] σ
            refine r_aload_n (pc := 73) hv 17 rfl rfl ?_
            refine r_getR (pc := 74) (b := 1) hv 18 rfl rfl rfl rfl ?_
            refine r_getR (pc := 77) (b := 4) hv 19 rfl rfl rfl rfl ?_
            refine r_iconst (pc := 80) hv 20 rfl  ?_
            refine r_iaload (pc := 81) (N := 3) hv 21 rfl rfl rfl (by decide) h.1 ?_
            replace h := h.2
            exact r_ireturn (pc := 82) hv 22 rfl rfl h
          · replace h := h.2 c
            refine ⟨fun c => ?_, fun c => ?_⟩
            · replace h := h.1 c
              show v 83 [some (aR 0), some (aI l1)] [] σ
              refine r_aload_n (pc := 83) hv 23 rfl rfl ?_
              refine r_getR (pc := 84) (b := 1) hv 24 rfl rfl rfl rfl ?_
              refine r_getR (pc := 87) (b := 4) hv 25 rfl rfl rfl rfl ?_
              refine r_iconst (pc := 90) hv 26 rfl  ?_
              refine r_iaload (pc := 91) (N := 3) hv 27 rfl rfl rfl (by decide) h.1 ?_
              replace h := h.2
              exact r_ireturn (pc := 92) hv 28 rfl rfl h
            · replace h := h.2 c
              refine ⟨fun c => ?_, fun c => ?_⟩
              · replace h := h.1 c
                show v 93 [some (aR 0), some (aI l1)] [] σ
                refine r_aload_n (pc := 93) hv 29 rfl rfl ?_
                refine r_getR (pc := 94) (b := 1) hv 30 rfl rfl rfl rfl ?_
                refine r_getR (pc := 97) (b := 4) hv 31 rfl rfl rfl rfl ?_
                refine r_iconst (pc := 100) hv 32 rfl  ?_
                refine r_iaload (pc := 101) (N := 3) hv 33 rfl rfl rfl (by decide) h.1 ?_
                replace h := h.2
                exact r_ireturn (pc := 102) hv 34 rfl rfl h
              · replace h := h.2 c
                show v 103 [some (aR 0), some (aI l1)] [] σ
                refine r_iconst (pc := 103) hv 35 rfl  ?_
                exact r_ireturn (pc := 104) hv 36 rfl rfl h
theorem m_X8_count {S : Sp} (hS : Sys S) {l1 : Int32} {σ : St} {Φ : Rs} (h : ∀ v : Kt, Cl S Φ k_X8_count v → Wk v → vc_X8_count_0 S Φ v l1 σ) : S 126 [aR 0, aI l1] σ Φ :=
  hS.2 126 M_X8_count k_X8_count _ _ _ mkt_X8_count (Nat.le_of_ble_eq_true rfl) (fun v hv hw => w_X8_count_0 hS hv hw   l1 σ (h v hv hw))
def vc_X8_image_0 (S : Sp) (Φ : Rs) (v : Kt) (σ : St) : Prop := S 23 [aR 5, aR 1] σ (fun r σ1 => r = [] ∧ (∀ σ2 : St, σ2 = upI σ1 0 10 1 → (Φ [aI (σ2.1 5 3)] σ2)))
theorem w_X8_image_0 {S : Sp} (hS : Sys S) {Φ : Rs} {v : Kt} (hv : Cl S Φ k_X8_image v) (hw : Wk v) (σ : St) (h : vc_X8_image_0 S Φ v  σ) : v 0 [some (aR 0)] [] σ := by
  unfold vc_X8_image_0 at h
  refine r_aload_n (pc := 0) hv 0 rfl rfl ?_
  refine r_getR (pc := 1) (b := 5) hv 1 rfl rfl rfl rfl ?_
  refine r_aload_n (pc := 4) hv 2 rfl rfl ?_
  refine r_getR (pc := 5) (b := 1) hv 3 rfl rfl rfl rfl ?_
  refine r_callV (pc := 8) (l := [aR 1]) (av := [aR 1]) (a := 5) (t := []) hv 4 rfl rfl rfl rfl (rcv_o (by decide) rfl) trivial (hS.1 _ _ _ _ _ (fun r σ1 h => ?_) h)
  obtain ⟨rfl, h⟩ := h
  show v 11 [some (aR 0)] [] σ1
  refine r_aload_n (pc := 11) hv 5 rfl rfl ?_
  refine r_iconst (pc := 12) hv 6 rfl  ?_
  refine r_putZ (pc := 13) hv 7 rfl rfl rfl (Or.inr rfl) ?_
  obtain ⟨σ2, e_σ2⟩ : ∃ y : St, y = upI σ1 0 10 1 := ⟨_, rfl⟩
  rw [← e_σ2]
  replace h := h σ2 e_σ2
  refine r_aload_n (pc := 16) hv 8 rfl rfl ?_
  refine r_getR (pc := 17) (b := 5) hv 9 rfl rfl rfl rfl ?_
  refine r_getI (pc := 20) hv 10 rfl rfl rfl ?_
  exact r_ireturn (pc := 23) hv 11 rfl rfl h
theorem m_X8_image {S : Sp} (hS : Sys S) {σ : St} {Φ : Rs} (h : ∀ v : Kt, Cl S Φ k_X8_image v → Wk v → vc_X8_image_0 S Φ v  σ) : S 127 [aR 0] σ Φ :=
  hS.2 127 M_X8_image k_X8_image _ _ _ mkt_X8_image (Nat.le_of_ble_eq_true rfl) (fun v hv hw => w_X8_image_0 hS hv hw    σ (h v hv hw))
def vc_X8_undo_0 (S : Sp) (Φ : Rs) (v : Kt) (σ : St) : Prop := (¬ (σ.1 0 10 : Int32) = 0 → (S 23 [aR 1, aR 5] σ (fun r σ1 => r = [] ∧ (S 130 [aR 0] σ1 (fun r σ2 => r = [] ∧ (Φ [aI (σ2.1 1 3)] σ2)))))) ∧ ((σ.1 0 10 : Int32) = 0 → (Φ [aI (-3)] σ))
theorem w_X8_undo_0 {S : Sp} (hS : Sys S) {Φ : Rs} {v : Kt} (hv : Cl S Φ k_X8_undo v) (hw : Wk v) (σ : St) (h : vc_X8_undo_0 S Φ v  σ) : v 0 [some (aR 0)] [] σ := by
  unfold vc_X8_undo_0 at h
  refine r_aload_n (pc := 0) hv 0 rfl rfl ?_
  refine r_getI (pc := 1) hv 1 rfl rfl rfl ?_
  refine r_if_ne (pc := 4) hv 2 rfl (fun c => ?_) (fun c => ?_)
  · replace h := h.1 c
    refine r_aload_n (pc := 10) hv 5 rfl rfl ?_
    refine r_getR (pc := 11) (b := 1) hv 6 rfl rfl rfl rfl ?_
    refine r_aload_n (pc := 14) hv 7 rfl rfl ?_
    refine r_getR (pc := 15) (b := 5) hv 8 rfl rfl rfl rfl ?_
    refine r_callV (pc := 18) (l := [aR 5]) (av := [aR 5]) (a := 1) (t := []) hv 9 rfl rfl rfl rfl (rcv_o (by decide) rfl) trivial (hS.1 _ _ _ _ _ (fun r σ1 h => ?_) h)
    obtain ⟨rfl, h⟩ := h
    show v 21 [some (aR 0)] [] σ1
    refine r_aload_n (pc := 21) hv 10 rfl rfl ?_
    refine r_callV (pc := 22) (l := []) (av := []) (a := 0) (t := []) hv 11 rfl rfl rfl rfl (rcv_o (by decide) rfl) trivial (hS.1 _ _ _ _ _ (fun r σ2 h => ?_) h)
    obtain ⟨rfl, h⟩ := h
    show v 25 [some (aR 0)] [] σ2
    refine r_aload_n (pc := 25) hv 12 rfl rfl ?_
    refine r_getR (pc := 26) (b := 1) hv 13 rfl rfl rfl rfl ?_
    refine r_getI (pc := 29) hv 14 rfl rfl rfl ?_
    exact r_ireturn (pc := 32) hv 15 rfl rfl h
  · replace h := h.2 c
    refine r_bipush (pc := 7) hv 3 rfl  ?_
    exact r_ireturn (pc := 9) hv 4 rfl rfl h
theorem m_X8_undo {S : Sp} (hS : Sys S) {σ : St} {Φ : Rs} (h : ∀ v : Kt, Cl S Φ k_X8_undo v → Wk v → vc_X8_undo_0 S Φ v  σ) : S 128 [aR 0] σ Φ :=
  hS.2 128 M_X8_undo k_X8_undo _ _ _ mkt_X8_undo (Nat.le_of_ble_eq_true rfl) (fun v hv hw => w_X8_undo_0 hS hv hw    σ (h v hv hw))
def vc_X8_settled_0 (S : Sp) (Φ : Rs) (v : Kt) (l1 : Int32) (σ : St) : Prop := ((l1 : Int32) < 0 → (Φ [aI l1] σ)) ∧ (¬ ((l1 : Int32) < 0) → (∀ σ1 : St, σ1 = upI σ 1 5 0 → (S 130 [aR 0] σ1 (fun r σ2 => r = [] ∧ (Φ [aI l1] σ2)))))
theorem w_X8_settled_0 {S : Sp} (hS : Sys S) {Φ : Rs} {v : Kt} (hv : Cl S Φ k_X8_settled v) (hw : Wk v) (l1 : Int32) (σ : St) (h : vc_X8_settled_0 S Φ v l1 σ) : v 0 [some (aR 0), some (aI l1)] [] σ := by
  unfold vc_X8_settled_0 at h
  refine r_iload_n (pc := 0) hv 0 rfl rfl ?_
  refine r_if_lt (pc := 1) hv 1 rfl (fun c => ?_) (fun c => ?_)
  · replace h := h.1 c
    refine r_iload_n (pc := 16) hv 8 rfl rfl ?_
    exact r_ireturn (pc := 17) hv 9 rfl rfl h
  · replace h := h.2 c
    refine r_aload_n (pc := 4) hv 2 rfl rfl ?_
    refine r_getR (pc := 5) (b := 1) hv 3 rfl rfl rfl rfl ?_
    refine r_iconst (pc := 8) hv 4 rfl  ?_
    refine r_putI (pc := 9) hv 5 rfl rfl rfl ?_
    obtain ⟨σ1, e_σ1⟩ : ∃ y : St, y = upI σ 1 5 0 := ⟨_, rfl⟩
    rw [← e_σ1]
    replace h := h σ1 e_σ1
    refine r_aload_n (pc := 12) hv 6 rfl rfl ?_
    refine r_callV (pc := 13) (l := []) (av := []) (a := 0) (t := []) hv 7 rfl rfl rfl rfl (rcv_o (by decide) rfl) trivial (hS.1 _ _ _ _ _ (fun r σ2 h => ?_) h)
    obtain ⟨rfl, h⟩ := h
    show v 16 [some (aR 0), some (aI l1)] [] σ2
    refine r_iload_n (pc := 16) hv 8 rfl rfl ?_
    exact r_ireturn (pc := 17) hv 9 rfl rfl h
theorem m_X8_settled {S : Sp} (hS : Sys S) {l1 : Int32} {σ : St} {Φ : Rs} (h : ∀ v : Kt, Cl S Φ k_X8_settled v → Wk v → vc_X8_settled_0 S Φ v l1 σ) : S 129 [aR 0, aI l1] σ Φ :=
  hS.2 129 M_X8_settled k_X8_settled _ _ _ mkt_X8_settled (Nat.le_of_ble_eq_true rfl) (fun v hv hw => w_X8_settled_0 hS hv hw   l1 σ (h v hv hw))
def vc_X8_forget_0 (S : Sp) (Φ : Rs) (v : Kt) (σ : St) : Prop := ∀ σ1 : St, σ1 = upI σ 0 11 0 → (∀ σ2 : St, σ2 = upI σ1 0 12 0 → (∀ σ3 : St, σ3 = upI σ2 0 13 0 → (Φ [] σ3)))
theorem w_X8_forget_0 {S : Sp} (hS : Sys S) {Φ : Rs} {v : Kt} (hv : Cl S Φ k_X8_forget v) (hw : Wk v) (σ : St) (h : vc_X8_forget_0 S Φ v  σ) : v 0 [some (aR 0)] [] σ := by
  unfold vc_X8_forget_0 at h
  refine r_aload_n (pc := 0) hv 0 rfl rfl ?_
  refine r_iconst (pc := 1) hv 1 rfl  ?_
  refine r_putZ (pc := 2) hv 2 rfl rfl rfl (Or.inl rfl) ?_
  obtain ⟨σ1, e_σ1⟩ : ∃ y : St, y = upI σ 0 11 0 := ⟨_, rfl⟩
  rw [← e_σ1]
  replace h := h σ1 e_σ1
  refine r_aload_n (pc := 5) hv 3 rfl rfl ?_
  refine r_iconst (pc := 6) hv 4 rfl  ?_
  refine r_putZ (pc := 7) hv 5 rfl rfl rfl (Or.inl rfl) ?_
  obtain ⟨σ2, e_σ2⟩ : ∃ y : St, y = upI σ1 0 12 0 := ⟨_, rfl⟩
  rw [← e_σ2]
  replace h := h σ2 e_σ2
  refine r_aload_n (pc := 10) hv 6 rfl rfl ?_
  refine r_iconst (pc := 11) hv 7 rfl  ?_
  refine r_putZ (pc := 12) hv 8 rfl rfl rfl (Or.inl rfl) ?_
  obtain ⟨σ3, e_σ3⟩ : ∃ y : St, y = upI σ2 0 13 0 := ⟨_, rfl⟩
  rw [← e_σ3]
  replace h := h σ3 e_σ3
  exact r_return (pc := 15) hv 9 rfl h
theorem m_X8_forget {S : Sp} (hS : Sys S) {σ : St} {Φ : Rs} (h : ∀ v : Kt, Cl S Φ k_X8_forget v → Wk v → vc_X8_forget_0 S Φ v  σ) : S 130 [aR 0] σ Φ :=
  hS.2 130 M_X8_forget k_X8_forget _ _ _ mkt_X8_forget (Nat.le_of_ble_eq_true rfl) (fun v hv hw => w_X8_forget_0 hS hv hw    σ (h v hv hw))
def vc_X8_reckoned_0 (S : Sp) (Φ : Rs) (v : Kt) (σ : St) : Prop := (¬ (σ.1 0 11 : Int32) = 0 → (Φ [aR 13] σ)) ∧ ((σ.1 0 11 : Int32) = 0 → (S 38 [aR 1] σ (fun r σ1 => ∃ x2 : Int32, r = [aI x2] ∧ (S 0 [aR 13, aI x2, aI (-1)] σ1 (fun r σ3 => r = [] ∧ (S 1 [aR 13] σ3 (fun r σ4 => r = [] ∧ (∀ σ5 : St, σ5 = upI σ4 0 11 1 → (Φ [aR 13] σ5)))))))))
theorem w_X8_reckoned_0 {S : Sp} (hS : Sys S) {Φ : Rs} {v : Kt} (hv : Cl S Φ k_X8_reckoned v) (hw : Wk v) (σ : St) (h : vc_X8_reckoned_0 S Φ v  σ) : v 0 [some (aR 0)] [] σ := by
  unfold vc_X8_reckoned_0 at h
  refine r_aload_n (pc := 0) hv 0 rfl rfl ?_
  refine r_getI (pc := 1) hv 1 rfl rfl rfl ?_
  refine r_if_ne (pc := 4) hv 2 rfl (fun c => ?_) (fun c => ?_)
  · replace h := h.1 c
    refine r_aload_n (pc := 34) hv 16 rfl rfl ?_
    refine r_getR (pc := 35) (b := 13) hv 17 rfl rfl rfl rfl ?_
    exact r_areturn (pc := 38) hv 18 rfl h
  · replace h := h.2 c
    refine r_aload_n (pc := 7) hv 3 rfl rfl ?_
    refine r_getR (pc := 8) (b := 13) hv 4 rfl rfl rfl rfl ?_
    refine r_aload_n (pc := 11) hv 5 rfl rfl ?_
    refine r_getR (pc := 12) (b := 1) hv 6 rfl rfl rfl rfl ?_
    refine r_callV (pc := 15) (l := []) (av := []) (a := 1) (t := [aR 13]) hv 7 rfl rfl rfl rfl (rcv_o (by decide) rfl) trivial (hS.1 _ _ _ _ _ (fun r σ1 h => ?_) h)
    obtain ⟨x2, rfl, h⟩ := h
    show v 18 [some (aR 0)] [aI x2, aR 13] σ1
    refine r_iconst (pc := 18) hv 8 rfl  ?_
    refine r_callV (pc := 19) (l := [aI (-1), aI x2]) (av := [aI x2, aI (-1)]) (a := 13) (t := []) hv 9 rfl rfl rfl rfl (rcv_o (by decide) rfl) trivial (hS.1 _ _ _ _ _ (fun r σ3 h => ?_) h)
    obtain ⟨rfl, h⟩ := h
    show v 22 [some (aR 0)] [] σ3
    refine r_aload_n (pc := 22) hv 10 rfl rfl ?_
    refine r_getR (pc := 23) (b := 13) hv 11 rfl rfl rfl rfl ?_
    refine r_callV (pc := 26) (l := []) (av := []) (a := 13) (t := []) hv 12 rfl rfl rfl rfl (rcv_o (by decide) rfl) trivial (hS.1 _ _ _ _ _ (fun r σ4 h => ?_) h)
    obtain ⟨rfl, h⟩ := h
    show v 29 [some (aR 0)] [] σ4
    refine r_aload_n (pc := 29) hv 13 rfl rfl ?_
    refine r_iconst (pc := 30) hv 14 rfl  ?_
    refine r_putZ (pc := 31) hv 15 rfl rfl rfl (Or.inr rfl) ?_
    obtain ⟨σ5, e_σ5⟩ : ∃ y : St, y = upI σ4 0 11 1 := ⟨_, rfl⟩
    rw [← e_σ5]
    replace h := h σ5 e_σ5
    refine r_aload_n (pc := 34) hv 16 rfl rfl ?_
    refine r_getR (pc := 35) (b := 13) hv 17 rfl rfl rfl rfl ?_
    exact r_areturn (pc := 38) hv 18 rfl h
theorem m_X8_reckoned {S : Sp} (hS : Sys S) {σ : St} {Φ : Rs} (h : ∀ v : Kt, Cl S Φ k_X8_reckoned v → Wk v → vc_X8_reckoned_0 S Φ v  σ) : S 131 [aR 0] σ Φ :=
  hS.2 131 M_X8_reckoned k_X8_reckoned _ _ _ mkt_X8_reckoned (Nat.le_of_ble_eq_true rfl) (fun v hv hw => w_X8_reckoned_0 hS hv hw    σ (h v hv hw))
def vc_X8_drawn_0 (S : Sp) (Φ : Rs) (v : Kt) (σ : St) : Prop := (¬ (σ.1 0 12 : Int32) = 0 → (Φ [aR 27] σ)) ∧ ((σ.1 0 12 : Int32) = 0 → (S 131 [aR 0] σ (fun r σ1 => r = [aR 13] ∧ (S 48 [aR 27] σ1 (fun r σ2 => r = [] ∧ (∀ σ3 : St, σ3 = upI σ2 0 12 1 → (Φ [aR 27] σ3)))))))
theorem w_X8_drawn_0 {S : Sp} (hS : Sys S) {Φ : Rs} {v : Kt} (hv : Cl S Φ k_X8_drawn v) (hw : Wk v) (σ : St) (h : vc_X8_drawn_0 S Φ v  σ) : v 0 [some (aR 0)] [] σ := by
  unfold vc_X8_drawn_0 at h
  refine r_aload_n (pc := 0) hv 0 rfl rfl ?_
  refine r_getI (pc := 1) hv 1 rfl rfl rfl ?_
  refine r_if_ne (pc := 4) hv 2 rfl (fun c => ?_) (fun c => ?_)
  · replace h := h.1 c
    refine r_aload_n (pc := 24) hv 12 rfl rfl ?_
    refine r_getR (pc := 25) (b := 27) hv 13 rfl rfl rfl rfl ?_
    exact r_areturn (pc := 28) hv 14 rfl h
  · replace h := h.2 c
    refine r_aload_n (pc := 7) hv 3 rfl rfl ?_
    refine r_callV (pc := 8) (l := []) (av := []) (a := 0) (t := []) hv 4 rfl rfl rfl rfl (rcv_o (by decide) rfl) trivial (hS.1 _ _ _ _ _ (fun r σ1 h => ?_) h)
    obtain ⟨rfl, h⟩ := h
    show v 11 [some (aR 0)] [aR 13] σ1
    refine r_pop (pc := 11) hv 5 rfl trivial ?_
    refine r_aload_n (pc := 12) hv 6 rfl rfl ?_
    refine r_getR (pc := 13) (b := 27) hv 7 rfl rfl rfl rfl ?_
    refine r_callV (pc := 16) (l := []) (av := []) (a := 27) (t := []) hv 8 rfl rfl rfl rfl (rcv_o (by decide) rfl) trivial (hS.1 _ _ _ _ _ (fun r σ2 h => ?_) h)
    obtain ⟨rfl, h⟩ := h
    show v 19 [some (aR 0)] [] σ2
    refine r_aload_n (pc := 19) hv 9 rfl rfl ?_
    refine r_iconst (pc := 20) hv 10 rfl  ?_
    refine r_putZ (pc := 21) hv 11 rfl rfl rfl (Or.inr rfl) ?_
    obtain ⟨σ3, e_σ3⟩ : ∃ y : St, y = upI σ2 0 12 1 := ⟨_, rfl⟩
    rw [← e_σ3]
    replace h := h σ3 e_σ3
    refine r_aload_n (pc := 24) hv 12 rfl rfl ?_
    refine r_getR (pc := 25) (b := 27) hv 13 rfl rfl rfl rfl ?_
    exact r_areturn (pc := 28) hv 14 rfl h
theorem m_X8_drawn {S : Sp} (hS : Sys S) {σ : St} {Φ : Rs} (h : ∀ v : Kt, Cl S Φ k_X8_drawn v → Wk v → vc_X8_drawn_0 S Φ v  σ) : S 132 [aR 0] σ Φ :=
  hS.2 132 M_X8_drawn k_X8_drawn _ _ _ mkt_X8_drawn (Nat.le_of_ble_eq_true rfl) (fun v hv hw => w_X8_drawn_0 hS hv hw    σ (h v hv hw))
def vc_X8_written_0 (S : Sp) (Φ : Rs) (v : Kt) (σ : St) : Prop := (¬ (σ.1 0 13 : Int32) = 0 → (Φ [aR 34] σ)) ∧ ((σ.1 0 13 : Int32) = 0 → (S 67 [aR 34, aR 1] σ (fun r σ1 => r = [] ∧ (∀ σ2 : St, σ2 = upI σ1 0 13 1 → (Φ [aR 34] σ2)))))
theorem w_X8_written_0 {S : Sp} (hS : Sys S) {Φ : Rs} {v : Kt} (hv : Cl S Φ k_X8_written v) (hw : Wk v) (σ : St) (h : vc_X8_written_0 S Φ v  σ) : v 0 [some (aR 0)] [] σ := by
  unfold vc_X8_written_0 at h
  refine r_aload_n (pc := 0) hv 0 rfl rfl ?_
  refine r_getI (pc := 1) hv 1 rfl rfl rfl ?_
  refine r_if_ne (pc := 4) hv 2 rfl (fun c => ?_) (fun c => ?_)
  · replace h := h.1 c
    refine r_aload_n (pc := 23) hv 11 rfl rfl ?_
    refine r_getR (pc := 24) (b := 34) hv 12 rfl rfl rfl rfl ?_
    exact r_areturn (pc := 27) hv 13 rfl h
  · replace h := h.2 c
    refine r_aload_n (pc := 7) hv 3 rfl rfl ?_
    refine r_getR (pc := 8) (b := 34) hv 4 rfl rfl rfl rfl ?_
    refine r_aload_n (pc := 11) hv 5 rfl rfl ?_
    refine r_getR (pc := 12) (b := 1) hv 6 rfl rfl rfl rfl ?_
    refine r_callV (pc := 15) (l := [aR 1]) (av := [aR 1]) (a := 34) (t := []) hv 7 rfl rfl rfl rfl (rcv_o (by decide) rfl) trivial (hS.1 _ _ _ _ _ (fun r σ1 h => ?_) h)
    obtain ⟨rfl, h⟩ := h
    show v 18 [some (aR 0)] [] σ1
    refine r_aload_n (pc := 18) hv 8 rfl rfl ?_
    refine r_iconst (pc := 19) hv 9 rfl  ?_
    refine r_putZ (pc := 20) hv 10 rfl rfl rfl (Or.inr rfl) ?_
    obtain ⟨σ2, e_σ2⟩ : ∃ y : St, y = upI σ1 0 13 1 := ⟨_, rfl⟩
    rw [← e_σ2]
    replace h := h σ2 e_σ2
    refine r_aload_n (pc := 23) hv 11 rfl rfl ?_
    refine r_getR (pc := 24) (b := 34) hv 12 rfl rfl rfl rfl ?_
    exact r_areturn (pc := 27) hv 13 rfl h
theorem m_X8_written {S : Sp} (hS : Sys S) {σ : St} {Φ : Rs} (h : ∀ v : Kt, Cl S Φ k_X8_written v → Wk v → vc_X8_written_0 S Φ v  σ) : S 133 [aR 0] σ Φ :=
  hS.2 133 M_X8_written k_X8_written _ _ _ mkt_X8_written (Nat.le_of_ble_eq_true rfl) (fun v hv hw => w_X8_written_0 hS hv hw    σ (h v hv hw))
def vc_X8_think_0 (S : Sp) (Φ : Rs) (v : Kt) (l1 : Int32) (l2 : Int32) (σ : St) : Prop := S 38 [aR 1] σ (fun r σ1 => ∃ x2 : Int32, r = [aI x2] ∧ (S 0 [aR 20, aI (x2 ||| (bitO l1)), aI l2] σ1 (fun r σ3 => r = [] ∧ (Φ [] σ3))))
theorem w_X8_think_0 {S : Sp} (hS : Sys S) {Φ : Rs} {v : Kt} (hv : Cl S Φ k_X8_think v) (hw : Wk v) (l1 : Int32) (l2 : Int32) (σ : St) (h : vc_X8_think_0 S Φ v l1 l2 σ) : v 0 [some (aR 0), some (aI l1), some (aI l2)] [] σ := by
  unfold vc_X8_think_0 at h
  refine r_aload_n (pc := 0) hv 0 rfl rfl ?_
  refine r_getR (pc := 1) (b := 20) hv 1 rfl rfl rfl rfl ?_
  refine r_aload_n (pc := 4) hv 2 rfl rfl ?_
  refine r_getR (pc := 5) (b := 1) hv 3 rfl rfl rfl rfl ?_
  refine r_callV (pc := 8) (l := []) (av := []) (a := 1) (t := [aR 20]) hv 4 rfl rfl rfl rfl (rcv_o (by decide) rfl) trivial (hS.1 _ _ _ _ _ (fun r σ1 h => ?_) h)
  obtain ⟨x2, rfl, h⟩ := h
  show v 11 [some (aR 0), some (aI l1), some (aI l2)] [aI x2, aR 20] σ1
  refine r_iload_n (pc := 11) hv 5 rfl rfl ?_
  refine r_callS (pc := 12) (l := [aI l1]) (av := [aI l1]) (t := [aI x2, aR 20]) hv 6 rfl (Or.inl rfl) rfl rfl rfl trivial (t_X8_bitOf hS ?_)
  show v 15 [some (aR 0), some (aI l1), some (aI l2)] [aI (bitO l1), aI x2, aR 20] σ1
  refine r_ior (pc := 15) hv 7 rfl  ?_
  refine r_iload_n (pc := 16) hv 8 rfl rfl ?_
  refine r_callV (pc := 17) (l := [aI l2, aI (x2 ||| (bitO l1))]) (av := [aI (x2 ||| (bitO l1)), aI l2]) (a := 20) (t := []) hv 9 rfl rfl rfl rfl (rcv_o (by decide) rfl) trivial (hS.1 _ _ _ _ _ (fun r σ3 h => ?_) h)
  obtain ⟨rfl, h⟩ := h
  show v 20 [some (aR 0), some (aI l1), some (aI l2)] [] σ3
  exact r_return (pc := 20) hv 10 rfl h
theorem m_X8_think {S : Sp} (hS : Sys S) {l1 : Int32} {l2 : Int32} {σ : St} {Φ : Rs} (h : ∀ v : Kt, Cl S Φ k_X8_think v → Wk v → vc_X8_think_0 S Φ v l1 l2 σ) : S 134 [aR 0, aI l1, aI l2] σ Φ :=
  hS.2 134 M_X8_think k_X8_think _ _ _ mkt_X8_think (Nat.le_of_ble_eq_true rfl) (fun v hv hw => w_X8_think_0 hS hv hw   l1 l2 σ (h v hv hw))
def vc_X8_harmTold_0 (S : Sp) (Φ : Rs) (v : Kt) (l1 : Int32) (l2 : Int32) (l3 : Int32) (σ : St) : Prop := S 131 [aR 0] σ (fun r σ1 => r = [aR 13] ∧ (S 134 [aR 0, aI l1, aI l2] σ1 (fun r σ2 => r = [] ∧ ((¬ (l3 : Int32) = 0 → ((¬ (l3 : Int32) = 1 → (S 1 [aR 20] σ2 (fun r σ3 => r = [] ∧ ((¬ (l3 : Int32) = 2 → (Φ [aI (σ3.1 23 6)] σ3)) ∧ ((l3 : Int32) = 2 → (Φ [aI (σ3.1 23 4)] σ3)))))) ∧ ((l3 : Int32) = 1 → (Φ [aI (σ2.1 20 5 &&& (σ2.1 13 5 ^^^ -1))] σ2)))) ∧ ((l3 : Int32) = 0 → (Φ [aI ((σ2.1 13 4 &&& (σ2.1 20 4 ^^^ -1)) &&& (bitO l1 ^^^ -1))] σ2))))))
theorem w_X8_harmTold_0 {S : Sp} (hS : Sys S) {Φ : Rs} {v : Kt} (hv : Cl S Φ k_X8_harmTold v) (hw : Wk v) (l1 : Int32) (l2 : Int32) (l3 : Int32) (σ : St) (h : vc_X8_harmTold_0 S Φ v l1 l2 l3 σ) : v 0 [some (aR 0), some (aI l1), some (aI l2), some (aI l3)] [] σ := by
  unfold vc_X8_harmTold_0 at h
  refine r_aload_n (pc := 0) hv 0 rfl rfl ?_
  refine r_callV (pc := 1) (l := []) (av := []) (a := 0) (t := []) hv 1 rfl rfl rfl rfl (rcv_o (by decide) rfl) trivial (hS.1 _ _ _ _ _ (fun r σ1 h => ?_) h)
  obtain ⟨rfl, h⟩ := h
  show v 4 [some (aR 0), some (aI l1), some (aI l2), some (aI l3)] [aR 13] σ1
  refine r_pop (pc := 4) hv 2 rfl trivial ?_
  refine r_aload_n (pc := 5) hv 3 rfl rfl ?_
  refine r_iload_n (pc := 6) hv 4 rfl rfl ?_
  refine r_iload_n (pc := 7) hv 5 rfl rfl ?_
  refine r_callV (pc := 8) (l := [aI l2, aI l1]) (av := [aI l1, aI l2]) (a := 0) (t := []) hv 6 rfl rfl rfl rfl (rcv_o (by decide) rfl) trivial (hS.1 _ _ _ _ _ (fun r σ2 h => ?_) h)
  obtain ⟨rfl, h⟩ := h
  show v 11 [some (aR 0), some (aI l1), some (aI l2), some (aI l3)] [] σ2
  refine r_iload_n (pc := 11) hv 7 rfl rfl ?_
  refine r_if_ne (pc := 12) hv 8 rfl (fun c => ?_) (fun c => ?_)
  · replace h := h.1 c
    refine r_iload_n (pc := 21) hv 13 rfl rfl ?_
    refine r_iconst (pc := 22) hv 14 rfl  ?_
    refine r_icmp_ne (pc := 23) hv 15 rfl (fun c => ?_) (fun c => ?_)
    · replace h := h.1 c
      refine r_aload_n (pc := 31) hv 19 rfl rfl ?_
      refine r_getR (pc := 32) (b := 20) hv 20 rfl rfl rfl rfl ?_
      refine r_callV (pc := 35) (l := []) (av := []) (a := 20) (t := []) hv 21 rfl rfl rfl rfl (rcv_o (by decide) rfl) trivial (hS.1 _ _ _ _ _ (fun r σ3 h => ?_) h)
      obtain ⟨rfl, h⟩ := h
      show v 38 [some (aR 0), some (aI l1), some (aI l2), some (aI l3)] [] σ3
      refine r_iload_n (pc := 38) hv 22 rfl rfl ?_
      refine r_iconst (pc := 39) hv 23 rfl  ?_
      refine r_icmp_ne (pc := 40) hv 24 rfl (fun c => ?_) (fun c => ?_)
      · replace h := h.1 c
        refine r_aload_n (pc := 56) hv 30 rfl rfl ?_
        refine r_getR (pc := 57) (b := 20) hv 31 rfl rfl rfl rfl ?_
        refine r_getR (pc := 60) (b := 23) hv 32 rfl rfl rfl rfl ?_
        refine r_getI (pc := 63) hv 33 rfl rfl rfl ?_
        exact r_ireturn (pc := 66) hv 34 rfl rfl h
      · replace h := h.2 c
        refine r_aload_n (pc := 43) hv 25 rfl rfl ?_
        refine r_getR (pc := 44) (b := 20) hv 26 rfl rfl rfl rfl ?_
        refine r_getR (pc := 47) (b := 23) hv 27 rfl rfl rfl rfl ?_
        refine r_getI (pc := 50) hv 28 rfl rfl rfl ?_
        refine r_goto (pc := 53) hv 29 rfl  ?_
        exact r_ireturn (pc := 66) hv 34 rfl rfl h
    · replace h := h.2 c
      refine r_aload_n (pc := 26) hv 16 rfl rfl ?_
      refine r_callV (pc := 27) (l := []) (av := []) (a := 0) (t := []) hv 17 rfl rfl rfl rfl (rcv_o (by decide) rfl) trivial (t_X8_bared hS ?_)
      show v 30 [some (aR 0), some (aI l1), some (aI l2), some (aI l3)] [aI (σ2.1 20 5 &&& (σ2.1 13 5 ^^^ -1))] σ2
      exact r_ireturn (pc := 30) hv 18 rfl rfl h
  · replace h := h.2 c
    refine r_aload_n (pc := 15) hv 9 rfl rfl ?_
    refine r_iload_n (pc := 16) hv 10 rfl rfl ?_
    refine r_callV (pc := 17) (l := [aI l1]) (av := [aI l1]) (a := 0) (t := []) hv 11 rfl rfl rfl rfl (rcv_o (by decide) rfl) trivial (t_X8_lostBy hS ?_)
    show v 20 [some (aR 0), some (aI l1), some (aI l2), some (aI l3)] [aI ((σ2.1 13 4 &&& (σ2.1 20 4 ^^^ -1)) &&& (bitO l1 ^^^ -1))] σ2
    exact r_ireturn (pc := 20) hv 12 rfl rfl h
theorem m_X8_harmTold {S : Sp} (hS : Sys S) {l1 : Int32} {l2 : Int32} {l3 : Int32} {σ : St} {Φ : Rs} (h : ∀ v : Kt, Cl S Φ k_X8_harmTold v → Wk v → vc_X8_harmTold_0 S Φ v l1 l2 l3 σ) : S 138 [aR 0, aI l1, aI l2, aI l3] σ Φ :=
  hS.2 138 M_X8_harmTold k_X8_harmTold _ _ _ mkt_X8_harmTold (Nat.le_of_ble_eq_true rfl) (fun v hv hw => w_X8_harmTold_0 hS hv hw   l1 l2 l3 σ (h v hv hw))
def vc_X8_mostHarmful_44 (S : Sp) (Φ : Rs) (v : Kt) (l1 : Int32) (l2 : Int32) (l3 : Int32) (l4 : Int32) (l5 : Int32) (l6 : Int32) (s0 : Int32) (s1 : Int32) (σ : St) : Prop := S 134 [aR 0, aI s1, aI s0] σ (fun r σ1 => r = [] ∧ (S 237 [aI ((σ1.1 13 4 &&& (σ1.1 20 4 ^^^ -1)) &&& (bitO l6 ^^^ -1))] σ1 (fun r σ2 => ∃ x3 : Int32, r = [aI x3] ∧ (S 237 [aI (σ2.1 20 5 &&& (σ2.1 13 5 ^^^ -1))] σ2 (fun r σ4 => ∃ x5 : Int32, r = [aI x5] ∧ (((x3 + x5 : Int32) ≤ l4 → (v 13 [some (aR 0), some (aI l1), some (aI l2), some (aI l3), some (aI l4), some (aI (l5 + 1)), none, none] [] σ4)) ∧ (¬ ((x3 + x5 : Int32) ≤ l4) → (v 13 [some (aR 0), some (aI l1), some (aI l2), some (aI l5), some (aI (x3 + x5)), some (aI (l5 + 1)), none, none] [] σ4))))))))
theorem w_X8_mostHarmful_44 {S : Sp} (hS : Sys S) {Φ : Rs} {v : Kt} (hv : Cl S Φ k_X8_mostHarmful v) (hw : Wk v) (l1 : Int32) (l2 : Int32) (l3 : Int32) (l4 : Int32) (l5 : Int32) (l6 : Int32) (s0 : Int32) (s1 : Int32) (σ : St) (h : vc_X8_mostHarmful_44 S Φ v l1 l2 l3 l4 l5 l6 s0 s1 σ) : v 44 [some (aR 0), some (aI l1), some (aI l2), some (aI l3), some (aI l4), some (aI l5), some (aI l6), none] [aI s0, aI s1, aR 0] σ := by
  unfold vc_X8_mostHarmful_44 at h
  refine r_callV (pc := 44) (l := [aI s0, aI s1]) (av := [aI s1, aI s0]) (a := 0) (t := []) hv 25 rfl rfl rfl rfl (rcv_o (by decide) rfl) trivial (hS.1 _ _ _ _ _ (fun r σ1 h => ?_) h)
  obtain ⟨rfl, h⟩ := h
  show v 47 [some (aR 0), some (aI l1), some (aI l2), some (aI l3), some (aI l4), some (aI l5), some (aI l6), none] [] σ1
  refine r_aload_n (pc := 47) hv 26 rfl rfl ?_
  refine r_iload (pc := 48) hv 27 rfl rfl ?_
  refine r_callV (pc := 50) (l := [aI l6]) (av := [aI l6]) (a := 0) (t := []) hv 28 rfl rfl rfl rfl (rcv_o (by decide) rfl) trivial (t_X8_lostBy hS ?_)
  show v 53 [some (aR 0), some (aI l1), some (aI l2), some (aI l3), some (aI l4), some (aI l5), some (aI l6), none] [aI ((σ1.1 13 4 &&& (σ1.1 20 4 ^^^ -1)) &&& (bitO l6 ^^^ -1))] σ1
  refine r_callS (pc := 53) (l := [aI ((σ1.1 13 4 &&& (σ1.1 20 4 ^^^ -1)) &&& (bitO l6 ^^^ -1))]) (av := [aI ((σ1.1 13 4 &&& (σ1.1 20 4 ^^^ -1)) &&& (bitO l6 ^^^ -1))]) (t := []) hv 29 rfl (Or.inl rfl) rfl rfl rfl trivial (hS.1 _ _ _ _ _ (fun r σ2 h => ?_) h)
  obtain ⟨x3, rfl, h⟩ := h
  show v 56 [some (aR 0), some (aI l1), some (aI l2), some (aI l3), some (aI l4), some (aI l5), some (aI l6), none] [aI x3] σ2
  refine r_aload_n (pc := 56) hv 30 rfl rfl ?_
  refine r_callV (pc := 57) (l := []) (av := []) (a := 0) (t := [aI x3]) hv 31 rfl rfl rfl rfl (rcv_o (by decide) rfl) trivial (t_X8_bared hS ?_)
  show v 60 [some (aR 0), some (aI l1), some (aI l2), some (aI l3), some (aI l4), some (aI l5), some (aI l6), none] [aI (σ2.1 20 5 &&& (σ2.1 13 5 ^^^ -1)), aI x3] σ2
  refine r_callS (pc := 60) (l := [aI (σ2.1 20 5 &&& (σ2.1 13 5 ^^^ -1))]) (av := [aI (σ2.1 20 5 &&& (σ2.1 13 5 ^^^ -1))]) (t := [aI x3]) hv 32 rfl (Or.inl rfl) rfl rfl rfl trivial (hS.1 _ _ _ _ _ (fun r σ4 h => ?_) h)
  obtain ⟨x5, rfl, h⟩ := h
  show v 63 [some (aR 0), some (aI l1), some (aI l2), some (aI l3), some (aI l4), some (aI l5), some (aI l6), none] [aI x5, aI x3] σ4
  refine r_iadd (pc := 63) hv 33 rfl  ?_
  refine r_istore (pc := 64) (lo' := [some (aR 0), some (aI l1), some (aI l2), some (aI l3), some (aI l4), some (aI l5), some (aI l6), some (aI (x3 + x5))]) hv 34 rfl rfl ?_
  refine r_iload (pc := 66) hv 35 rfl rfl ?_
  refine r_iload (pc := 68) hv 36 rfl rfl ?_
  refine r_icmp_le (pc := 70) hv 37 rfl (fun c => ?_) (fun c => ?_)
  · replace h := h.1 c
    refine r_iinc (pc := 80) (lo' := [some (aR 0), some (aI l1), some (aI l2), some (aI l3), some (aI l4), some (aI (l5 + 1)), some (aI l6), some (aI (x3 + x5))]) hv 42 rfl rfl rfl ?_
    refine r_goto (pc := 83) hv 43 rfl  ?_
    exact hw 13 [some (aR 0), some (aI l1), some (aI l2), some (aI l3), some (aI l4), some (aI (l5 + 1)), none, none] _ _ _ ⟨rfl, ⟨rfl, ⟨rfl, ⟨rfl, ⟨rfl, ⟨rfl, trivial⟩⟩⟩⟩⟩⟩ h
  · replace h := h.2 c
    refine r_iload (pc := 73) hv 38 rfl rfl ?_
    refine r_istore (pc := 75) (lo' := [some (aR 0), some (aI l1), some (aI l2), some (aI l3), some (aI (x3 + x5)), some (aI l5), some (aI l6), some (aI (x3 + x5))]) hv 39 rfl rfl ?_
    refine r_iload (pc := 77) hv 40 rfl rfl ?_
    refine r_istore_n (pc := 79) (lo' := [some (aR 0), some (aI l1), some (aI l2), some (aI l5), some (aI (x3 + x5)), some (aI l5), some (aI l6), some (aI (x3 + x5))]) hv 41 rfl rfl ?_
    refine r_iinc (pc := 80) (lo' := [some (aR 0), some (aI l1), some (aI l2), some (aI l5), some (aI (x3 + x5)), some (aI (l5 + 1)), some (aI l6), some (aI (x3 + x5))]) hv 42 rfl rfl rfl ?_
    refine r_goto (pc := 83) hv 43 rfl  ?_
    exact hw 13 [some (aR 0), some (aI l1), some (aI l2), some (aI l5), some (aI (x3 + x5)), some (aI (l5 + 1)), none, none] _ _ _ ⟨rfl, ⟨rfl, ⟨rfl, ⟨rfl, ⟨rfl, ⟨rfl, trivial⟩⟩⟩⟩⟩⟩ h
def vc_X8_mostHarmful_29 (S : Sp) (Φ : Rs) (v : Kt) (l1 : Int32) (l2 : Int32) (l3 : Int32) (l4 : Int32) (l5 : Int32) (s0 : Int32) (σ : St) : Prop := ((l2 : Int32) = 0 → (vc_X8_mostHarmful_44 S Φ v  l1 l2 l3 l4 l5 s0 l5 s0 σ)) ∧ (¬ ((l2 : Int32) = 0) → (vc_X8_mostHarmful_44 S Φ v  l1 l2 l3 l4 l5 s0 (-1) s0 σ))
theorem w_X8_mostHarmful_29 {S : Sp} (hS : Sys S) {Φ : Rs} {v : Kt} (hv : Cl S Φ k_X8_mostHarmful v) (hw : Wk v) (l1 : Int32) (l2 : Int32) (l3 : Int32) (l4 : Int32) (l5 : Int32) (s0 : Int32) (σ : St) (h : vc_X8_mostHarmful_29 S Φ v l1 l2 l3 l4 l5 s0 σ) : v 29 [some (aR 0), some (aI l1), some (aI l2), some (aI l3), some (aI l4), some (aI l5), none, none] [aI s0] σ := by
  unfold vc_X8_mostHarmful_29 at h
  refine r_istore (pc := 29) (lo' := [some (aR 0), some (aI l1), some (aI l2), some (aI l3), some (aI l4), some (aI l5), some (aI s0), none]) hv 17 rfl rfl ?_
  refine r_aload_n (pc := 31) hv 18 rfl rfl ?_
  refine r_iload (pc := 32) hv 19 rfl rfl ?_
  refine r_iload_n (pc := 34) hv 20 rfl rfl ?_
  refine r_if_eq (pc := 35) hv 21 rfl (fun c => ?_) (fun c => ?_)
  · replace h := h.1 c
    refine r_iload (pc := 42) hv 24 rfl rfl ?_
    exact (w_X8_mostHarmful_44 hS hv hw   l1 l2 l3 l4 l5 s0 l5 s0  σ h)
  · replace h := h.2 c
    refine r_iconst (pc := 38) hv 22 rfl  ?_
    refine r_goto (pc := 39) hv 23 rfl  ?_
    exact (w_X8_mostHarmful_44 hS hv hw   l1 l2 l3 l4 l5 s0 (-1) s0  σ h)
def vc_X8_mostHarmful_13 (S : Sp) (Φ : Rs) (v : Kt) (l1 : Int32) (l2 : Int32) (l3 : Int32) (l4 : Int32) (l5 : Int32) (σ : St) : Prop := ((l1 : Int32) ≤ l5 → (Φ [aI l3] σ)) ∧ (¬ ((l1 : Int32) ≤ l5) → (((l2 : Int32) = 0 → (vc_X8_mostHarmful_29 S Φ v  l1 l2 l3 l4 l5 (-1) σ)) ∧ (¬ ((l2 : Int32) = 0) → (vc_X8_mostHarmful_29 S Φ v  l1 l2 l3 l4 l5 l5 σ))))
theorem w_X8_mostHarmful_13 {S : Sp} (hS : Sys S) {Φ : Rs} {v : Kt} (hv : Cl S Φ k_X8_mostHarmful v) (hw : Wk v) (l1 : Int32) (l2 : Int32) (l3 : Int32) (l4 : Int32) (l5 : Int32) (σ : St) (h : vc_X8_mostHarmful_13 S Φ v l1 l2 l3 l4 l5 σ) : v 13 [some (aR 0), some (aI l1), some (aI l2), some (aI l3), some (aI l4), some (aI l5), none, none] [] σ := by
  unfold vc_X8_mostHarmful_13 at h
  refine r_iload (pc := 13) hv 9 rfl rfl ?_
  refine r_iload_n (pc := 15) hv 10 rfl rfl ?_
  refine r_icmp_ge (pc := 16) hv 11 rfl (fun c => ?_) (fun c => ?_)
  · replace h := h.1 c
    refine r_iload_n (pc := 86) hv 44 rfl rfl ?_
    exact r_ireturn (pc := 87) hv 45 rfl rfl h
  · replace h := h.2 c
    refine r_iload_n (pc := 19) hv 12 rfl rfl ?_
    refine r_if_eq (pc := 20) hv 13 rfl (fun c => ?_) (fun c => ?_)
    · replace h := h.1 c
      refine r_iconst (pc := 28) hv 16 rfl  ?_
      exact (w_X8_mostHarmful_29 hS hv hw   l1 l2 l3 l4 l5 (-1)  σ h)
    · replace h := h.2 c
      refine r_iload (pc := 23) hv 14 rfl rfl ?_
      refine r_goto (pc := 25) hv 15 rfl  ?_
      exact (w_X8_mostHarmful_29 hS hv hw   l1 l2 l3 l4 l5 l5  σ h)
def vc_X8_mostHarmful_0 (S : Sp) (Φ : Rs) (v : Kt) (l1 : Int32) (l2 : Int32) (σ : St) : Prop := S 131 [aR 0] σ (fun r σ1 => r = [aR 13] ∧ (v 13 [some (aR 0), some (aI l1), some (aI l2), some (aI (-1)), some (aI (-1)), some (aI 0), none, none] [] σ1))
theorem w_X8_mostHarmful_0 {S : Sp} (hS : Sys S) {Φ : Rs} {v : Kt} (hv : Cl S Φ k_X8_mostHarmful v) (hw : Wk v) (l1 : Int32) (l2 : Int32) (σ : St) (h : vc_X8_mostHarmful_0 S Φ v l1 l2 σ) : v 0 [some (aR 0), some (aI l1), some (aI l2), none, none, none, none, none] [] σ := by
  unfold vc_X8_mostHarmful_0 at h
  refine r_aload_n (pc := 0) hv 0 rfl rfl ?_
  refine r_callV (pc := 1) (l := []) (av := []) (a := 0) (t := []) hv 1 rfl rfl rfl rfl (rcv_o (by decide) rfl) trivial (hS.1 _ _ _ _ _ (fun r σ1 h => ?_) h)
  obtain ⟨rfl, h⟩ := h
  show v 4 [some (aR 0), some (aI l1), some (aI l2), none, none, none, none, none] [aR 13] σ1
  refine r_pop (pc := 4) hv 2 rfl trivial ?_
  refine r_iconst (pc := 5) hv 3 rfl  ?_
  refine r_istore_n (pc := 6) (lo' := [some (aR 0), some (aI l1), some (aI l2), some (aI (-1)), none, none, none, none]) hv 4 rfl rfl ?_
  refine r_iconst (pc := 7) hv 5 rfl  ?_
  refine r_istore (pc := 8) (lo' := [some (aR 0), some (aI l1), some (aI l2), some (aI (-1)), some (aI (-1)), none, none, none]) hv 6 rfl rfl ?_
  refine r_iconst (pc := 10) hv 7 rfl  ?_
  refine r_istore (pc := 11) (lo' := [some (aR 0), some (aI l1), some (aI l2), some (aI (-1)), some (aI (-1)), some (aI 0), none, none]) hv 8 rfl rfl ?_
  exact h
theorem m_X8_mostHarmful {S : Sp} (hS : Sys S) {l1 : Int32} {l2 : Int32} {σ : St} {Φ : Rs} (h : ∀ v : Kt, Cl S Φ k_X8_mostHarmful v → Wk v → vc_X8_mostHarmful_0 S Φ v l1 l2 σ) : S 139 [aR 0, aI l1, aI l2] σ Φ :=
  hS.2 139 M_X8_mostHarmful k_X8_mostHarmful _ _ _ mkt_X8_mostHarmful (Nat.le_of_ble_eq_true rfl) (fun v hv hw => w_X8_mostHarmful_0 hS hv hw   l1 l2 σ (h v hv hw))
