def vc_X5_write_29 (S : Sp) (Φ : Rs) (v : Kt) (p : Nat) (l2 : Int32) (σ : St) : Prop := ((σ.1 p 4 : Int32) ≤ l2 → (Φ [] σ)) ∧ (¬ ((σ.1 p 4 : Int32) ≤ l2) → (S 69 [aR 34, aR p, aI l2] σ (fun r σ1 => r = [] ∧ (v 29 [some (aR 34), some (aR p), some (aI (l2 + 1))] [] σ1))))
theorem w_X5_write_29 {S : Sp} (hS : Sys S) {Φ : Rs} {v : Kt} (hv : Cl S Φ k_X5_write v) (hw : Wk v) (p : Nat) (h_p : isPat p) (l2 : Int32) (σ : St) (h : vc_X5_write_29 S Φ v p l2 σ) : v 29 [some (aR 34), some (aR p), some (aI l2)] [] σ := by
  unfold vc_X5_write_29 at h
  refine r_iload_n (pc := 29) hv 17 rfl rfl ?_
  refine r_aload_n (pc := 30) hv 18 rfl rfl ?_
  refine r_getI (pc := 31) hv 19 rfl rfl (isPat_oc h_p) ?_
  refine r_icmp_ge (pc := 34) hv 20 rfl (fun c => ?_) (fun c => ?_)
  · replace h := h.1 c
    exact r_return (pc := 49) hv 27 rfl h
  · replace h := h.2 c
    refine r_aload_n (pc := 37) hv 21 rfl rfl ?_
    refine r_aload_n (pc := 38) hv 22 rfl rfl ?_
    refine r_iload_n (pc := 39) hv 23 rfl rfl ?_
    refine r_callV (pc := 40) (l := [aI l2, aR p]) (av := [aR p, aI l2]) (a := 34) (t := []) hv 24 rfl rfl rfl rfl (rcv_o (by decide) rfl) trivial (hS.1 _ _ _ _ _ (fun r σ1 h => ?_) h)
    obtain ⟨rfl, h⟩ := h
    show v 43 [some (aR 34), some (aR p), some (aI l2)] [] σ1
    refine r_iinc (pc := 43) (lo' := [some (aR 34), some (aR p), some (aI (l2 + 1))]) hv 25 rfl rfl rfl ?_
    refine r_goto (pc := 46) hv 26 rfl  ?_
    exact h
def vc_X5_write_7 (S : Sp) (Φ : Rs) (v : Kt) (p : Nat) (l2 : Int32) (σ : St) : Prop := ((σ.1 p 3 : Int32) ≤ l2 → (v 29 [some (aR 34), some (aR p), some (aI 0)] [] σ)) ∧ (¬ ((σ.1 p 3 : Int32) ≤ l2) → (S 68 [aR 34, aR p, aI l2] σ (fun r σ1 => r = [] ∧ (v 7 [some (aR 34), some (aR p), some (aI (l2 + 1))] [] σ1))))
theorem w_X5_write_7 {S : Sp} (hS : Sys S) {Φ : Rs} {v : Kt} (hv : Cl S Φ k_X5_write v) (hw : Wk v) (p : Nat) (h_p : isPat p) (l2 : Int32) (σ : St) (h : vc_X5_write_7 S Φ v p l2 σ) : v 7 [some (aR 34), some (aR p), some (aI l2)] [] σ := by
  unfold vc_X5_write_7 at h
  refine r_iload_n (pc := 7) hv 5 rfl rfl ?_
  refine r_aload_n (pc := 8) hv 6 rfl rfl ?_
  refine r_getI (pc := 9) hv 7 rfl rfl (isPat_oc h_p) ?_
  refine r_icmp_ge (pc := 12) hv 8 rfl (fun c => ?_) (fun c => ?_)
  · replace h := h.1 c
    refine r_iconst (pc := 27) hv 15 rfl  ?_
    refine r_istore_n (pc := 28) (lo' := [some (aR 34), some (aR p), some (aI 0)]) hv 16 rfl rfl ?_
    exact h
  · replace h := h.2 c
    refine r_aload_n (pc := 15) hv 9 rfl rfl ?_
    refine r_aload_n (pc := 16) hv 10 rfl rfl ?_
    refine r_iload_n (pc := 17) hv 11 rfl rfl ?_
    refine r_callV (pc := 18) (l := [aI l2, aR p]) (av := [aR p, aI l2]) (a := 34) (t := []) hv 12 rfl rfl rfl rfl (rcv_o (by decide) rfl) trivial (hS.1 _ _ _ _ _ (fun r σ1 h => ?_) h)
    obtain ⟨rfl, h⟩ := h
    show v 21 [some (aR 34), some (aR p), some (aI l2)] [] σ1
    refine r_iinc (pc := 21) (lo' := [some (aR 34), some (aR p), some (aI (l2 + 1))]) hv 13 rfl rfl rfl ?_
    refine r_goto (pc := 24) hv 14 rfl  ?_
    exact h
def vc_X5_write_0 (S : Sp) (Φ : Rs) (v : Kt) (p : Nat) (σ : St) : Prop := ∀ σ1 : St, σ1 = upI σ 34 1 0 → (v 7 [some (aR 34), some (aR p), some (aI 0)] [] σ1)
theorem w_X5_write_0 {S : Sp} (hS : Sys S) {Φ : Rs} {v : Kt} (hv : Cl S Φ k_X5_write v) (hw : Wk v) (p : Nat) (h_p : isPat p) (σ : St) (h : vc_X5_write_0 S Φ v p σ) : v 0 [some (aR 34), some (aR p), none] [] σ := by
  unfold vc_X5_write_0 at h
  refine r_aload_n (pc := 0) hv 0 rfl rfl ?_
  refine r_iconst (pc := 1) hv 1 rfl  ?_
  refine r_putI (pc := 2) hv 2 rfl rfl rfl ?_
  obtain ⟨σ1, e_σ1⟩ : ∃ y : St, y = upI σ 34 1 0 := ⟨_, rfl⟩
  rw [← e_σ1]
  replace h := h σ1 e_σ1
  refine r_iconst (pc := 5) hv 3 rfl  ?_
  refine r_istore_n (pc := 6) (lo' := [some (aR 34), some (aR p), some (aI 0)]) hv 4 rfl rfl ?_
  exact h
theorem m_X5_write {S : Sp} (hS : Sys S) {p : Nat} (h_p : isPat p) {σ : St} {Φ : Rs} (h : ∀ v : Kt, Cl S Φ k_X5_write v → Wk v → vc_X5_write_0 S Φ v p σ) : S 67 [aR 34, aR p] σ Φ :=
  hS.2 67 M_X5_write k_X5_write _ _ _ mkt_X5_write (Nat.le_of_ble_eq_true rfl) (fun v hv hw => w_X5_write_0 hS hv hw p h_p  σ (h v hv hw))
def vc_X5_writeHole_0 (S : Sp) (Φ : Rs) (v : Kt) (p : Nat) (l2 : Int32) (σ : St) : Prop := S 70 [aR 34, aR 200] σ (fun r σ1 => r = [] ∧ (vp_in (l2 * 9 + 0) 180 ∧ (S 73 [aR 34, aI (σ1.1 (p + 1) (l2 * 9 + 0 : Int32).toNatClampNeg)] σ1 (fun r σ2 => r = [] ∧ (vp_in (l2 * 9 + 1) 180 ∧ (S 73 [aR 34, aI (σ2.1 (p + 1) (l2 * 9 + 1 : Int32).toNatClampNeg)] σ2 (fun r σ3 => r = [] ∧ (vp_in (l2 * 9 + 2) 180 ∧ (S 22 [aI (σ3.1 (p + 1) (l2 * 9 + 2 : Int32).toNatClampNeg)] σ3 (fun r σ4 => ∃ w5 : Nat, r = [aR w5] ∧ isStr w5 ∧ (S 71 [aR 34, aR w5] σ4 (fun r σ6 => r = [] ∧ (vp_in (l2 * 9 + 3) 180 ∧ (S 73 [aR 34, aI (σ6.1 (p + 1) (l2 * 9 + 3 : Int32).toNatClampNeg)] σ6 (fun r σ7 => r = [] ∧ (vp_in (l2 * 9 + 4) 180 ∧ (S 73 [aR 34, aI (σ7.1 (p + 1) (l2 * 9 + 4 : Int32).toNatClampNeg)] σ7 (fun r σ8 => r = [] ∧ (vp_in (l2 * 9 + 5) 180 ∧ (S 73 [aR 34, aI (σ8.1 (p + 1) (l2 * 9 + 5 : Int32).toNatClampNeg)] σ8 (fun r σ9 => r = [] ∧ (Φ [] σ9))))))))))))))))))))))
theorem w_X5_writeHole_0 {S : Sp} (hS : Sys S) {Φ : Rs} {v : Kt} (hv : Cl S Φ k_X5_writeHole v) (hw : Wk v) (p : Nat) (h_p : isPat p) (l2 : Int32) (σ : St) (h : vc_X5_writeHole_0 S Φ v p l2 σ) : v 0 [some (aR 34), some (aR p), some (aI l2)] [] σ := by
  unfold vc_X5_writeHole_0 at h
  refine r_aload_n (pc := 0) hv 0 rfl rfl ?_
  refine r_ldcS (pc := 1) hv 1 rfl rfl ?_
  refine r_callV (pc := 3) (l := [aR 200]) (av := [aR 200]) (a := 34) (t := []) hv 2 rfl rfl rfl rfl (rcv_o (by decide) rfl) trivial (hS.1 _ _ _ _ _ (fun r σ1 h => ?_) h)
  obtain ⟨rfl, h⟩ := h
  show v 6 [some (aR 34), some (aR p), some (aI l2)] [] σ1
  refine r_aload_n (pc := 6) hv 3 rfl rfl ?_
  refine r_aload_n (pc := 7) hv 4 rfl rfl ?_
  refine r_iload_n (pc := 8) hv 5 rfl rfl ?_
  refine r_iconst (pc := 9) hv 6 rfl  ?_
  refine r_callV (pc := 10) (l := [aI 0, aI l2]) (av := [aI l2, aI 0]) (a := p) (t := [aR 34]) hv 7 rfl rfl rfl rfl (rcv_o (by decide) (isPat_oc h_p)) trivial (t_X2_mark hS h_p h.1 ?_)
  replace h := h.2
  show v 13 [some (aR 34), some (aR p), some (aI l2)] [aI (σ1.1 (p + 1) (l2 * 9 + 0 : Int32).toNatClampNeg), aR 34] σ1
  refine r_callV (pc := 13) (l := [aI (σ1.1 (p + 1) (l2 * 9 + 0 : Int32).toNatClampNeg)]) (av := [aI (σ1.1 (p + 1) (l2 * 9 + 0 : Int32).toNatClampNeg)]) (a := 34) (t := []) hv 8 rfl rfl rfl rfl (rcv_o (by decide) rfl) trivial (hS.1 _ _ _ _ _ (fun r σ2 h => ?_) h)
  obtain ⟨rfl, h⟩ := h
  show v 16 [some (aR 34), some (aR p), some (aI l2)] [] σ2
  refine r_aload_n (pc := 16) hv 9 rfl rfl ?_
  refine r_aload_n (pc := 17) hv 10 rfl rfl ?_
  refine r_iload_n (pc := 18) hv 11 rfl rfl ?_
  refine r_iconst (pc := 19) hv 12 rfl  ?_
  refine r_callV (pc := 20) (l := [aI 1, aI l2]) (av := [aI l2, aI 1]) (a := p) (t := [aR 34]) hv 13 rfl rfl rfl rfl (rcv_o (by decide) (isPat_oc h_p)) trivial (t_X2_mark hS h_p h.1 ?_)
  replace h := h.2
  show v 23 [some (aR 34), some (aR p), some (aI l2)] [aI (σ2.1 (p + 1) (l2 * 9 + 1 : Int32).toNatClampNeg), aR 34] σ2
  refine r_callV (pc := 23) (l := [aI (σ2.1 (p + 1) (l2 * 9 + 1 : Int32).toNatClampNeg)]) (av := [aI (σ2.1 (p + 1) (l2 * 9 + 1 : Int32).toNatClampNeg)]) (a := 34) (t := []) hv 14 rfl rfl rfl rfl (rcv_o (by decide) rfl) trivial (hS.1 _ _ _ _ _ (fun r σ3 h => ?_) h)
  obtain ⟨rfl, h⟩ := h
  show v 26 [some (aR 34), some (aR p), some (aI l2)] [] σ3
  refine r_aload_n (pc := 26) hv 15 rfl rfl ?_
  refine r_aload_n (pc := 27) hv 16 rfl rfl ?_
  refine r_iload_n (pc := 28) hv 17 rfl rfl ?_
  refine r_iconst (pc := 29) hv 18 rfl  ?_
  refine r_callV (pc := 30) (l := [aI 2, aI l2]) (av := [aI l2, aI 2]) (a := p) (t := [aR 34]) hv 19 rfl rfl rfl rfl (rcv_o (by decide) (isPat_oc h_p)) trivial (t_X2_mark hS h_p h.1 ?_)
  replace h := h.2
  show v 33 [some (aR 34), some (aR p), some (aI l2)] [aI (σ3.1 (p + 1) (l2 * 9 + 2 : Int32).toNatClampNeg), aR 34] σ3
  refine r_callS (pc := 33) (l := [aI (σ3.1 (p + 1) (l2 * 9 + 2 : Int32).toNatClampNeg)]) (av := [aI (σ3.1 (p + 1) (l2 * 9 + 2 : Int32).toNatClampNeg)]) (t := [aR 34]) hv 20 rfl (Or.inl rfl) rfl rfl rfl trivial (hS.1 _ _ _ _ _ (fun r σ4 h => ?_) h)
  obtain ⟨w5, rfl, h_w5, h⟩ := h
  show v 36 [some (aR 34), some (aR p), some (aI l2)] [aR w5, aR 34] σ4
  refine r_callV (pc := 36) (l := [aR w5]) (av := [aR w5]) (a := 34) (t := []) hv 21 rfl rfl rfl rfl (rcv_o (by decide) rfl) trivial (hS.1 _ _ _ _ _ (fun r σ6 h => ?_) h)
  obtain ⟨rfl, h⟩ := h
  show v 39 [some (aR 34), some (aR p), some (aI l2)] [] σ6
  refine r_aload_n (pc := 39) hv 22 rfl rfl ?_
  refine r_aload_n (pc := 40) hv 23 rfl rfl ?_
  refine r_iload_n (pc := 41) hv 24 rfl rfl ?_
  refine r_iconst (pc := 42) hv 25 rfl  ?_
  refine r_callV (pc := 43) (l := [aI 3, aI l2]) (av := [aI l2, aI 3]) (a := p) (t := [aR 34]) hv 26 rfl rfl rfl rfl (rcv_o (by decide) (isPat_oc h_p)) trivial (t_X2_mark hS h_p h.1 ?_)
  replace h := h.2
  show v 46 [some (aR 34), some (aR p), some (aI l2)] [aI (σ6.1 (p + 1) (l2 * 9 + 3 : Int32).toNatClampNeg), aR 34] σ6
  refine r_callV (pc := 46) (l := [aI (σ6.1 (p + 1) (l2 * 9 + 3 : Int32).toNatClampNeg)]) (av := [aI (σ6.1 (p + 1) (l2 * 9 + 3 : Int32).toNatClampNeg)]) (a := 34) (t := []) hv 27 rfl rfl rfl rfl (rcv_o (by decide) rfl) trivial (hS.1 _ _ _ _ _ (fun r σ7 h => ?_) h)
  obtain ⟨rfl, h⟩ := h
  show v 49 [some (aR 34), some (aR p), some (aI l2)] [] σ7
  refine r_aload_n (pc := 49) hv 28 rfl rfl ?_
  refine r_aload_n (pc := 50) hv 29 rfl rfl ?_
  refine r_iload_n (pc := 51) hv 30 rfl rfl ?_
  refine r_iconst (pc := 52) hv 31 rfl  ?_
  refine r_callV (pc := 53) (l := [aI 4, aI l2]) (av := [aI l2, aI 4]) (a := p) (t := [aR 34]) hv 32 rfl rfl rfl rfl (rcv_o (by decide) (isPat_oc h_p)) trivial (t_X2_mark hS h_p h.1 ?_)
  replace h := h.2
  show v 56 [some (aR 34), some (aR p), some (aI l2)] [aI (σ7.1 (p + 1) (l2 * 9 + 4 : Int32).toNatClampNeg), aR 34] σ7
  refine r_callV (pc := 56) (l := [aI (σ7.1 (p + 1) (l2 * 9 + 4 : Int32).toNatClampNeg)]) (av := [aI (σ7.1 (p + 1) (l2 * 9 + 4 : Int32).toNatClampNeg)]) (a := 34) (t := []) hv 33 rfl rfl rfl rfl (rcv_o (by decide) rfl) trivial (hS.1 _ _ _ _ _ (fun r σ8 h => ?_) h)
  obtain ⟨rfl, h⟩ := h
  show v 59 [some (aR 34), some (aR p), some (aI l2)] [] σ8
  refine r_aload_n (pc := 59) hv 34 rfl rfl ?_
  refine r_aload_n (pc := 60) hv 35 rfl rfl ?_
  refine r_iload_n (pc := 61) hv 36 rfl rfl ?_
  refine r_iconst (pc := 62) hv 37 rfl  ?_
  refine r_callV (pc := 63) (l := [aI 5, aI l2]) (av := [aI l2, aI 5]) (a := p) (t := [aR 34]) hv 38 rfl rfl rfl rfl (rcv_o (by decide) (isPat_oc h_p)) trivial (t_X2_mark hS h_p h.1 ?_)
  replace h := h.2
  show v 66 [some (aR 34), some (aR p), some (aI l2)] [aI (σ8.1 (p + 1) (l2 * 9 + 5 : Int32).toNatClampNeg), aR 34] σ8
  refine r_callV (pc := 66) (l := [aI (σ8.1 (p + 1) (l2 * 9 + 5 : Int32).toNatClampNeg)]) (av := [aI (σ8.1 (p + 1) (l2 * 9 + 5 : Int32).toNatClampNeg)]) (a := 34) (t := []) hv 39 rfl rfl rfl rfl (rcv_o (by decide) rfl) trivial (hS.1 _ _ _ _ _ (fun r σ9 h => ?_) h)
  obtain ⟨rfl, h⟩ := h
  show v 69 [some (aR 34), some (aR p), some (aI l2)] [] σ9
  exact r_return (pc := 69) hv 40 rfl h
theorem m_X5_writeHole {S : Sp} (hS : Sys S) {p : Nat} (h_p : isPat p) {l2 : Int32} {σ : St} {Φ : Rs} (h : ∀ v : Kt, Cl S Φ k_X5_writeHole v → Wk v → vc_X5_writeHole_0 S Φ v p l2 σ) : S 68 [aR 34, aR p, aI l2] σ Φ :=
  hS.2 68 M_X5_writeHole k_X5_writeHole _ _ _ mkt_X5_writeHole (Nat.le_of_ble_eq_true rfl) (fun v hv hw => w_X5_writeHole_0 hS hv hw p h_p l2 σ (h v hv hw))
def vc_X5_writeWire_35 (S : Sp) (Φ : Rs) (v : Kt) (p : Nat) (l2 : Int32) (σ : St) : Prop := vp_in (l2 * 3 + 1) 120 ∧ (S 73 [aR 34, aI (σ.1 (p + 2) (l2 * 3 + 1 : Int32).toNatClampNeg)] σ (fun r σ1 => r = [] ∧ (vp_in (l2 * 3 + 2) 120 ∧ (S 73 [aR 34, aI (σ1.1 (p + 2) (l2 * 3 + 2 : Int32).toNatClampNeg)] σ1 (fun r σ2 => r = [] ∧ (Φ [] σ2))))))
theorem w_X5_writeWire_35 {S : Sp} (hS : Sys S) {Φ : Rs} {v : Kt} (hv : Cl S Φ k_X5_writeWire v) (hw : Wk v) (p : Nat) (h_p : isPat p) (l2 : Int32) (σ : St) (h : vc_X5_writeWire_35 S Φ v p l2 σ) : v 35 [some (aR 34), some (aR p), some (aI l2)] [] σ := by
  unfold vc_X5_writeWire_35 at h
  refine r_aload_n (pc := 35) hv 19 rfl rfl ?_
  refine r_aload_n (pc := 36) hv 20 rfl rfl ?_
  refine r_iload_n (pc := 37) hv 21 rfl rfl ?_
  refine r_iconst (pc := 38) hv 22 rfl  ?_
  refine r_callV (pc := 39) (l := [aI 1, aI l2]) (av := [aI l2, aI 1]) (a := p) (t := [aR 34]) hv 23 rfl rfl rfl rfl (rcv_o (by decide) (isPat_oc h_p)) trivial (t_X2_cord hS h_p h.1 ?_)
  replace h := h.2
  show v 42 [some (aR 34), some (aR p), some (aI l2)] [aI (σ.1 (p + 2) (l2 * 3 + 1 : Int32).toNatClampNeg), aR 34] σ
  refine r_callV (pc := 42) (l := [aI (σ.1 (p + 2) (l2 * 3 + 1 : Int32).toNatClampNeg)]) (av := [aI (σ.1 (p + 2) (l2 * 3 + 1 : Int32).toNatClampNeg)]) (a := 34) (t := []) hv 24 rfl rfl rfl rfl (rcv_o (by decide) rfl) trivial (hS.1 _ _ _ _ _ (fun r σ1 h => ?_) h)
  obtain ⟨rfl, h⟩ := h
  show v 45 [some (aR 34), some (aR p), some (aI l2)] [] σ1
  refine r_aload_n (pc := 45) hv 25 rfl rfl ?_
  refine r_aload_n (pc := 46) hv 26 rfl rfl ?_
  refine r_iload_n (pc := 47) hv 27 rfl rfl ?_
  refine r_iconst (pc := 48) hv 28 rfl  ?_
  refine r_callV (pc := 49) (l := [aI 2, aI l2]) (av := [aI l2, aI 2]) (a := p) (t := [aR 34]) hv 29 rfl rfl rfl rfl (rcv_o (by decide) (isPat_oc h_p)) trivial (t_X2_cord hS h_p h.1 ?_)
  replace h := h.2
  show v 52 [some (aR 34), some (aR p), some (aI l2)] [aI (σ1.1 (p + 2) (l2 * 3 + 2 : Int32).toNatClampNeg), aR 34] σ1
  refine r_callV (pc := 52) (l := [aI (σ1.1 (p + 2) (l2 * 3 + 2 : Int32).toNatClampNeg)]) (av := [aI (σ1.1 (p + 2) (l2 * 3 + 2 : Int32).toNatClampNeg)]) (a := 34) (t := []) hv 30 rfl rfl rfl rfl (rcv_o (by decide) rfl) trivial (hS.1 _ _ _ _ _ (fun r σ2 h => ?_) h)
  obtain ⟨rfl, h⟩ := h
  show v 55 [some (aR 34), some (aR p), some (aI l2)] [] σ2
  exact r_return (pc := 55) hv 31 rfl h
def vc_X5_writeWire_0 (S : Sp) (Φ : Rs) (v : Kt) (p : Nat) (l2 : Int32) (σ : St) : Prop := S 70 [aR 34, aR 201] σ (fun r σ1 => r = [] ∧ (vp_in (l2 * 3 + 0) 120 ∧ ((¬ (σ1.1 (p + 2) (l2 * 3 + 0 : Int32).toNatClampNeg : Int32) = (-1) → (vp_in (l2 * 3 + 0) 120 ∧ (S 73 [aR 34, aI (σ1.1 (p + 2) (l2 * 3 + 0 : Int32).toNatClampNeg)] σ1 (fun r σ2 => r = [] ∧ (vc_X5_writeWire_35 S Φ v p l2 σ2))))) ∧ ((σ1.1 (p + 2) (l2 * 3 + 0 : Int32).toNatClampNeg : Int32) = (-1) → (S 71 [aR 34, aR 214] σ1 (fun r σ3 => r = [] ∧ (vc_X5_writeWire_35 S Φ v p l2 σ3)))))))
theorem w_X5_writeWire_0 {S : Sp} (hS : Sys S) {Φ : Rs} {v : Kt} (hv : Cl S Φ k_X5_writeWire v) (hw : Wk v) (p : Nat) (h_p : isPat p) (l2 : Int32) (σ : St) (h : vc_X5_writeWire_0 S Φ v p l2 σ) : v 0 [some (aR 34), some (aR p), some (aI l2)] [] σ := by
  unfold vc_X5_writeWire_0 at h
  refine r_aload_n (pc := 0) hv 0 rfl rfl ?_
  refine r_ldcS (pc := 1) hv 1 rfl rfl ?_
  refine r_callV (pc := 3) (l := [aR 201]) (av := [aR 201]) (a := 34) (t := []) hv 2 rfl rfl rfl rfl (rcv_o (by decide) rfl) trivial (hS.1 _ _ _ _ _ (fun r σ1 h => ?_) h)
  obtain ⟨rfl, h⟩ := h
  show v 6 [some (aR 34), some (aR p), some (aI l2)] [] σ1
  refine r_aload_n (pc := 6) hv 3 rfl rfl ?_
  refine r_iload_n (pc := 7) hv 4 rfl rfl ?_
  refine r_iconst (pc := 8) hv 5 rfl  ?_
  refine r_callV (pc := 9) (l := [aI 0, aI l2]) (av := [aI l2, aI 0]) (a := p) (t := []) hv 6 rfl rfl rfl rfl (rcv_o (by decide) (isPat_oc h_p)) trivial (t_X2_cord hS h_p h.1 ?_)
  replace h := h.2
  show v 12 [some (aR 34), some (aR p), some (aI l2)] [aI (σ1.1 (p + 2) (l2 * 3 + 0 : Int32).toNatClampNeg)] σ1
  refine r_iconst (pc := 12) hv 7 rfl  ?_
  refine r_icmp_ne (pc := 13) hv 8 rfl (fun c => ?_) (fun c => ?_)
  · replace h := h.1 c
    refine r_aload_n (pc := 25) hv 13 rfl rfl ?_
    refine r_aload_n (pc := 26) hv 14 rfl rfl ?_
    refine r_iload_n (pc := 27) hv 15 rfl rfl ?_
    refine r_iconst (pc := 28) hv 16 rfl  ?_
    refine r_callV (pc := 29) (l := [aI 0, aI l2]) (av := [aI l2, aI 0]) (a := p) (t := [aR 34]) hv 17 rfl rfl rfl rfl (rcv_o (by decide) (isPat_oc h_p)) trivial (t_X2_cord hS h_p h.1 ?_)
    replace h := h.2
    show v 32 [some (aR 34), some (aR p), some (aI l2)] [aI (σ1.1 (p + 2) (l2 * 3 + 0 : Int32).toNatClampNeg), aR 34] σ1
    refine r_callV (pc := 32) (l := [aI (σ1.1 (p + 2) (l2 * 3 + 0 : Int32).toNatClampNeg)]) (av := [aI (σ1.1 (p + 2) (l2 * 3 + 0 : Int32).toNatClampNeg)]) (a := 34) (t := []) hv 18 rfl rfl rfl rfl (rcv_o (by decide) rfl) trivial (hS.1 _ _ _ _ _ (fun r σ2 h => ?_) h)
    obtain ⟨rfl, h⟩ := h
    show v 35 [some (aR 34), some (aR p), some (aI l2)] [] σ2
    exact (w_X5_writeWire_35 hS hv hw p h_p l2  σ2 h)
  · replace h := h.2 c
    refine r_aload_n (pc := 16) hv 9 rfl rfl ?_
    refine r_ldcS (pc := 17) hv 10 rfl rfl ?_
    refine r_callV (pc := 19) (l := [aR 214]) (av := [aR 214]) (a := 34) (t := []) hv 11 rfl rfl rfl rfl (rcv_o (by decide) rfl) trivial (hS.1 _ _ _ _ _ (fun r σ3 h => ?_) h)
    obtain ⟨rfl, h⟩ := h
    show v 22 [some (aR 34), some (aR p), some (aI l2)] [] σ3
    refine r_goto (pc := 22) hv 12 rfl  ?_
    exact (w_X5_writeWire_35 hS hv hw p h_p l2  σ3 h)
theorem m_X5_writeWire {S : Sp} (hS : Sys S) {p : Nat} (h_p : isPat p) {l2 : Int32} {σ : St} {Φ : Rs} (h : ∀ v : Kt, Cl S Φ k_X5_writeWire v → Wk v → vc_X5_writeWire_0 S Φ v p l2 σ) : S 69 [aR 34, aR p, aI l2] σ Φ :=
  hS.2 69 M_X5_writeWire k_X5_writeWire _ _ _ mkt_X5_writeWire (Nat.le_of_ble_eq_true rfl) (fun v hv hw => w_X5_writeWire_0 hS hv hw p h_p l2 σ (h v hv hw))
def vc_X5_begin_0 (S : Sp) (Φ : Rs) (v : Kt) (w : Nat) (σ : St) : Prop := ((σ.1 34 1 : Int32) ≤ 0 → (S 72 [aR 34, aR w] σ (fun r σ1 => r = [] ∧ (Φ [] σ1)))) ∧ (¬ ((σ.1 34 1 : Int32) ≤ 0) → (S 74 [aR 34, aI 59] σ (fun r σ2 => r = [] ∧ (S 72 [aR 34, aR w] σ2 (fun r σ3 => r = [] ∧ (Φ [] σ3))))))
theorem w_X5_begin_0 {S : Sp} (hS : Sys S) {Φ : Rs} {v : Kt} (hv : Cl S Φ k_X5_begin v) (hw : Wk v) (w : Nat) (h_w : isStr w) (σ : St) (h : vc_X5_begin_0 S Φ v w σ) : v 0 [some (aR 34), some (aR w)] [] σ := by
  unfold vc_X5_begin_0 at h
  refine r_aload_n (pc := 0) hv 0 rfl rfl ?_
  refine r_getI (pc := 1) hv 1 rfl rfl rfl ?_
  refine r_if_le (pc := 4) hv 2 rfl (fun c => ?_) (fun c => ?_)
  · replace h := h.1 c
    refine r_aload_n (pc := 13) hv 6 rfl rfl ?_
    refine r_aload_n (pc := 14) hv 7 rfl rfl ?_
    refine r_callV (pc := 15) (l := [aR w]) (av := [aR w]) (a := 34) (t := []) hv 8 rfl rfl rfl rfl (rcv_o (by decide) rfl) trivial (hS.1 _ _ _ _ _ (fun r σ1 h => ?_) h)
    obtain ⟨rfl, h⟩ := h
    show v 18 [some (aR 34), some (aR w)] [] σ1
    exact r_return (pc := 18) hv 9 rfl h
  · replace h := h.2 c
    refine r_aload_n (pc := 7) hv 3 rfl rfl ?_
    refine r_bipush (pc := 8) hv 4 rfl  ?_
    refine r_callV (pc := 10) (l := [aI 59]) (av := [aI 59]) (a := 34) (t := []) hv 5 rfl rfl rfl rfl (rcv_o (by decide) rfl) trivial (hS.1 _ _ _ _ _ (fun r σ2 h => ?_) h)
    obtain ⟨rfl, h⟩ := h
    show v 13 [some (aR 34), some (aR w)] [] σ2
    refine r_aload_n (pc := 13) hv 6 rfl rfl ?_
    refine r_aload_n (pc := 14) hv 7 rfl rfl ?_
    refine r_callV (pc := 15) (l := [aR w]) (av := [aR w]) (a := 34) (t := []) hv 8 rfl rfl rfl rfl (rcv_o (by decide) rfl) trivial (hS.1 _ _ _ _ _ (fun r σ3 h => ?_) h)
    obtain ⟨rfl, h⟩ := h
    show v 18 [some (aR 34), some (aR w)] [] σ3
    exact r_return (pc := 18) hv 9 rfl h
theorem m_X5_begin {S : Sp} (hS : Sys S) {w : Nat} (h_w : isStr w) {σ : St} {Φ : Rs} (h : ∀ v : Kt, Cl S Φ k_X5_begin v → Wk v → vc_X5_begin_0 S Φ v w σ) : S 70 [aR 34, aR w] σ Φ :=
  hS.2 70 M_X5_begin k_X5_begin _ _ _ mkt_X5_begin (Nat.le_of_ble_eq_true rfl) (fun v hv hw => w_X5_begin_0 hS hv hw w h_w  σ (h v hv hw))
def vc_X5_writeWord_0 (S : Sp) (Φ : Rs) (v : Kt) (w : Nat) (σ : St) : Prop := S 74 [aR 34, aI 32] σ (fun r σ1 => r = [] ∧ (S 72 [aR 34, aR w] σ1 (fun r σ2 => r = [] ∧ (Φ [] σ2))))
theorem w_X5_writeWord_0 {S : Sp} (hS : Sys S) {Φ : Rs} {v : Kt} (hv : Cl S Φ k_X5_writeWord v) (hw : Wk v) (w : Nat) (h_w : isStr w) (σ : St) (h : vc_X5_writeWord_0 S Φ v w σ) : v 0 [some (aR 34), some (aR w)] [] σ := by
  unfold vc_X5_writeWord_0 at h
  refine r_aload_n (pc := 0) hv 0 rfl rfl ?_
  refine r_bipush (pc := 1) hv 1 rfl  ?_
  refine r_callV (pc := 3) (l := [aI 32]) (av := [aI 32]) (a := 34) (t := []) hv 2 rfl rfl rfl rfl (rcv_o (by decide) rfl) trivial (hS.1 _ _ _ _ _ (fun r σ1 h => ?_) h)
  obtain ⟨rfl, h⟩ := h
  show v 6 [some (aR 34), some (aR w)] [] σ1
  refine r_aload_n (pc := 6) hv 3 rfl rfl ?_
  refine r_aload_n (pc := 7) hv 4 rfl rfl ?_
  refine r_callV (pc := 8) (l := [aR w]) (av := [aR w]) (a := 34) (t := []) hv 5 rfl rfl rfl rfl (rcv_o (by decide) rfl) trivial (hS.1 _ _ _ _ _ (fun r σ2 h => ?_) h)
  obtain ⟨rfl, h⟩ := h
  show v 11 [some (aR 34), some (aR w)] [] σ2
  exact r_return (pc := 11) hv 6 rfl h
theorem m_X5_writeWord {S : Sp} (hS : Sys S) {w : Nat} (h_w : isStr w) {σ : St} {Φ : Rs} (h : ∀ v : Kt, Cl S Φ k_X5_writeWord v → Wk v → vc_X5_writeWord_0 S Φ v w σ) : S 71 [aR 34, aR w] σ Φ :=
  hS.2 71 M_X5_writeWord k_X5_writeWord _ _ _ mkt_X5_writeWord (Nat.le_of_ble_eq_true rfl) (fun v hv hw => w_X5_writeWord_0 hS hv hw w h_w  σ (h v hv hw))
def vc_X5_writeLetters_2 (S : Sp) (Φ : Rs) (v : Kt) (w : Nat) (l2 : Int32) (σ : St) : Prop := S 242 [aR w] σ (fun r σ1 => ∃ x2 : Int32, r = [aI x2] ∧ (((x2 : Int32) ≤ l2 → (Φ [] σ1)) ∧ (¬ ((x2 : Int32) ≤ l2) → (S 243 [aR w, aI l2] σ1 (fun r σ3 => ∃ x4 : Int32, r = [aI x4] ∧ (S 74 [aR 34, aI x4] σ3 (fun r σ5 => r = [] ∧ (v 2 [some (aR 34), some (aR w), some (aI (l2 + 1))] [] σ5))))))))
theorem w_X5_writeLetters_2 {S : Sp} (hS : Sys S) {Φ : Rs} {v : Kt} (hv : Cl S Φ k_X5_writeLetters v) (hw : Wk v) (w : Nat) (h_w : isStr w) (l2 : Int32) (σ : St) (h : vc_X5_writeLetters_2 S Φ v w l2 σ) : v 2 [some (aR 34), some (aR w), some (aI l2)] [] σ := by
  unfold vc_X5_writeLetters_2 at h
  refine r_iload_n (pc := 2) hv 2 rfl rfl ?_
  refine r_aload_n (pc := 3) hv 3 rfl rfl ?_
  refine r_callV (pc := 4) (l := []) (av := []) (a := w) (t := [aI l2]) hv 4 rfl rfl rfl rfl (rcv_s h_w) trivial (hS.1 _ _ _ _ _ (fun r σ1 h => ?_) h)
  obtain ⟨x2, rfl, h⟩ := h
  show v 7 [some (aR 34), some (aR w), some (aI l2)] [aI x2, aI l2] σ1
  refine r_icmp_ge (pc := 7) hv 5 rfl (fun c => ?_) (fun c => ?_)
  · replace h := h.1 c
    exact r_return (pc := 25) hv 13 rfl h
  · replace h := h.2 c
    refine r_aload_n (pc := 10) hv 6 rfl rfl ?_
    refine r_aload_n (pc := 11) hv 7 rfl rfl ?_
    refine r_iload_n (pc := 12) hv 8 rfl rfl ?_
    refine r_callV (pc := 13) (l := [aI l2]) (av := [aI l2]) (a := w) (t := [aR 34]) hv 9 rfl rfl rfl rfl (rcv_s h_w) trivial (hS.1 _ _ _ _ _ (fun r σ3 h => ?_) h)
    obtain ⟨x4, rfl, h⟩ := h
    show v 16 [some (aR 34), some (aR w), some (aI l2)] [aI x4, aR 34] σ3
    refine r_callV (pc := 16) (l := [aI x4]) (av := [aI x4]) (a := 34) (t := []) hv 10 rfl rfl rfl rfl (rcv_o (by decide) rfl) trivial (hS.1 _ _ _ _ _ (fun r σ5 h => ?_) h)
    obtain ⟨rfl, h⟩ := h
    show v 19 [some (aR 34), some (aR w), some (aI l2)] [] σ5
    refine r_iinc (pc := 19) (lo' := [some (aR 34), some (aR w), some (aI (l2 + 1))]) hv 11 rfl rfl rfl ?_
    refine r_goto (pc := 22) hv 12 rfl  ?_
    exact h
def vc_X5_writeLetters_0 (S : Sp) (Φ : Rs) (v : Kt) (w : Nat) (σ : St) : Prop := v 2 [some (aR 34), some (aR w), some (aI 0)] [] σ
theorem w_X5_writeLetters_0 {S : Sp} (hS : Sys S) {Φ : Rs} {v : Kt} (hv : Cl S Φ k_X5_writeLetters v) (hw : Wk v) (w : Nat) (h_w : isStr w) (σ : St) (h : vc_X5_writeLetters_0 S Φ v w σ) : v 0 [some (aR 34), some (aR w), none] [] σ := by
  unfold vc_X5_writeLetters_0 at h
  refine r_iconst (pc := 0) hv 0 rfl  ?_
  refine r_istore_n (pc := 1) (lo' := [some (aR 34), some (aR w), some (aI 0)]) hv 1 rfl rfl ?_
  exact h
theorem m_X5_writeLetters {S : Sp} (hS : Sys S) {w : Nat} (h_w : isStr w) {σ : St} {Φ : Rs} (h : ∀ v : Kt, Cl S Φ k_X5_writeLetters v → Wk v → vc_X5_writeLetters_0 S Φ v w σ) : S 72 [aR 34, aR w] σ Φ :=
  hS.2 72 M_X5_writeLetters k_X5_writeLetters _ _ _ mkt_X5_writeLetters (Nat.le_of_ble_eq_true rfl) (fun v hv hw => w_X5_writeLetters_0 hS hv hw w h_w  σ (h v hv hw))
def vc_X5_writeNumber_46 (S : Sp) (Φ : Rs) (v : Kt) (l1 : Int32) (σ : St) : Prop := S 74 [aR 34, aI (48 + (l1 - l1 / 10 * 10))] σ (fun r σ1 => r = [] ∧ (Φ [] σ1))
theorem w_X5_writeNumber_46 {S : Sp} (hS : Sys S) {Φ : Rs} {v : Kt} (hv : Cl S Φ k_X5_writeNumber v) (hw : Wk v) (l1 : Int32) (σ : St) (h : vc_X5_writeNumber_46 S Φ v l1 σ) : v 46 [some (aR 34), some (aI l1)] [] σ := by
  unfold vc_X5_writeNumber_46 at h
  refine r_aload_n (pc := 46) hv 27 rfl rfl ?_
  refine r_bipush (pc := 47) hv 28 rfl  ?_
  refine r_iload_n (pc := 49) hv 29 rfl rfl ?_
  refine r_bipush (pc := 50) hv 30 rfl  ?_
  refine r_irem (pc := 52) hv 31 rfl (by decide) ?_
  refine r_iadd (pc := 53) hv 32 rfl  ?_
  refine r_callV (pc := 54) (l := [aI (48 + (l1 - l1 / 10 * 10))]) (av := [aI (48 + (l1 - l1 / 10 * 10))]) (a := 34) (t := []) hv 33 rfl rfl rfl rfl (rcv_o (by decide) rfl) trivial (hS.1 _ _ _ _ _ (fun r σ1 h => ?_) h)
  obtain ⟨rfl, h⟩ := h
  show v 57 [some (aR 34), some (aI l1)] [] σ1
  exact r_return (pc := 57) hv 34 rfl h
def vc_X5_writeNumber_26 (S : Sp) (Φ : Rs) (v : Kt) (l1 : Int32) (σ : St) : Prop := ((l1 : Int32) < 10 → (vc_X5_writeNumber_46 S Φ v  l1 σ)) ∧ (¬ ((l1 : Int32) < 10) → (S 74 [aR 34, aI (48 + ((l1 / 10) - (l1 / 10) / 10 * 10))] σ (fun r σ1 => r = [] ∧ (vc_X5_writeNumber_46 S Φ v  l1 σ1))))
theorem w_X5_writeNumber_26 {S : Sp} (hS : Sys S) {Φ : Rs} {v : Kt} (hv : Cl S Φ k_X5_writeNumber v) (hw : Wk v) (l1 : Int32) (σ : St) (h : vc_X5_writeNumber_26 S Φ v l1 σ) : v 26 [some (aR 34), some (aI l1)] [] σ := by
  unfold vc_X5_writeNumber_26 at h
  refine r_iload_n (pc := 26) hv 15 rfl rfl ?_
  refine r_bipush (pc := 27) hv 16 rfl  ?_
  refine r_icmp_lt (pc := 29) hv 17 rfl (fun c => ?_) (fun c => ?_)
  · replace h := h.1 c
    exact (w_X5_writeNumber_46 hS hv hw   l1  σ h)
  · replace h := h.2 c
    refine r_aload_n (pc := 32) hv 18 rfl rfl ?_
    refine r_bipush (pc := 33) hv 19 rfl  ?_
    refine r_iload_n (pc := 35) hv 20 rfl rfl ?_
    refine r_bipush (pc := 36) hv 21 rfl  ?_
    refine r_idiv (pc := 38) hv 22 rfl (by decide) ?_
    refine r_bipush (pc := 39) hv 23 rfl  ?_
    refine r_irem (pc := 41) hv 24 rfl (by decide) ?_
    refine r_iadd (pc := 42) hv 25 rfl  ?_
    refine r_callV (pc := 43) (l := [aI (48 + ((l1 / 10) - (l1 / 10) / 10 * 10))]) (av := [aI (48 + ((l1 / 10) - (l1 / 10) / 10 * 10))]) (a := 34) (t := []) hv 26 rfl rfl rfl rfl (rcv_o (by decide) rfl) trivial (hS.1 _ _ _ _ _ (fun r σ1 h => ?_) h)
    obtain ⟨rfl, h⟩ := h
    show v 46 [some (aR 34), some (aI l1)] [] σ1
    exact (w_X5_writeNumber_46 hS hv hw   l1  σ1 h)
def vc_X5_writeNumber_0 (S : Sp) (Φ : Rs) (v : Kt) (l1 : Int32) (σ : St) : Prop := S 74 [aR 34, aI 32] σ (fun r σ1 => r = [] ∧ (((l1 : Int32) < 100 → (vc_X5_writeNumber_26 S Φ v  l1 σ1)) ∧ (¬ ((l1 : Int32) < 100) → (S 74 [aR 34, aI (48 + ((l1 / 100) - (l1 / 100) / 10 * 10))] σ1 (fun r σ2 => r = [] ∧ (vc_X5_writeNumber_26 S Φ v  l1 σ2))))))
theorem w_X5_writeNumber_0 {S : Sp} (hS : Sys S) {Φ : Rs} {v : Kt} (hv : Cl S Φ k_X5_writeNumber v) (hw : Wk v) (l1 : Int32) (σ : St) (h : vc_X5_writeNumber_0 S Φ v l1 σ) : v 0 [some (aR 34), some (aI l1)] [] σ := by
  unfold vc_X5_writeNumber_0 at h
  refine r_aload_n (pc := 0) hv 0 rfl rfl ?_
  refine r_bipush (pc := 1) hv 1 rfl  ?_
  refine r_callV (pc := 3) (l := [aI 32]) (av := [aI 32]) (a := 34) (t := []) hv 2 rfl rfl rfl rfl (rcv_o (by decide) rfl) trivial (hS.1 _ _ _ _ _ (fun r σ1 h => ?_) h)
  obtain ⟨rfl, h⟩ := h
  show v 6 [some (aR 34), some (aI l1)] [] σ1
  refine r_iload_n (pc := 6) hv 3 rfl rfl ?_
  refine r_bipush (pc := 7) hv 4 rfl  ?_
  refine r_icmp_lt (pc := 9) hv 5 rfl (fun c => ?_) (fun c => ?_)
  · replace h := h.1 c
    exact (w_X5_writeNumber_26 hS hv hw   l1  σ1 h)
  · replace h := h.2 c
    refine r_aload_n (pc := 12) hv 6 rfl rfl ?_
    refine r_bipush (pc := 13) hv 7 rfl  ?_
    refine r_iload_n (pc := 15) hv 8 rfl rfl ?_
    refine r_bipush (pc := 16) hv 9 rfl  ?_
    refine r_idiv (pc := 18) hv 10 rfl (by decide) ?_
    refine r_bipush (pc := 19) hv 11 rfl  ?_
    refine r_irem (pc := 21) hv 12 rfl (by decide) ?_
    refine r_iadd (pc := 22) hv 13 rfl  ?_
    refine r_callV (pc := 23) (l := [aI (48 + ((l1 / 100) - (l1 / 100) / 10 * 10))]) (av := [aI (48 + ((l1 / 100) - (l1 / 100) / 10 * 10))]) (a := 34) (t := []) hv 14 rfl rfl rfl rfl (rcv_o (by decide) rfl) trivial (hS.1 _ _ _ _ _ (fun r σ2 h => ?_) h)
    obtain ⟨rfl, h⟩ := h
    show v 26 [some (aR 34), some (aI l1)] [] σ2
    exact (w_X5_writeNumber_26 hS hv hw   l1  σ2 h)
theorem m_X5_writeNumber {S : Sp} (hS : Sys S) {l1 : Int32} {σ : St} {Φ : Rs} (h : ∀ v : Kt, Cl S Φ k_X5_writeNumber v → Wk v → vc_X5_writeNumber_0 S Φ v l1 σ) : S 73 [aR 34, aI l1] σ Φ :=
  hS.2 73 M_X5_writeNumber k_X5_writeNumber _ _ _ mkt_X5_writeNumber (Nat.le_of_ble_eq_true rfl) (fun v hv hw => w_X5_writeNumber_0 hS hv hw   l1 σ (h v hv hw))
def vc_X5_writeByte_0 (S : Sp) (Φ : Rs) (v : Kt) (l1 : Int32) (σ : St) : Prop := ((σ.1 34 1 : Int32) < 1239 → (vp_in (σ.1 34 1) 1239 ∧ (∀ σ1 : St, σ1 = upI σ 35 (σ.1 34 1 : Int32).toNatClampNeg ((l1 : Int32).toInt8.toInt32 : Int32).toInt8.toInt32 → (∀ σ2 : St, σ2 = upI σ1 34 1 ((σ1.1 34 1) + 1) → (Φ [] σ2))))) ∧ (¬ ((σ.1 34 1 : Int32) < 1239) → (Φ [] σ))
theorem w_X5_writeByte_0 {S : Sp} (hS : Sys S) {Φ : Rs} {v : Kt} (hv : Cl S Φ k_X5_writeByte v) (hw : Wk v) (l1 : Int32) (σ : St) (h : vc_X5_writeByte_0 S Φ v l1 σ) : v 0 [some (aR 34), some (aI l1)] [] σ := by
  unfold vc_X5_writeByte_0 at h
  refine r_aload_n (pc := 0) hv 0 rfl rfl ?_
  refine r_getI (pc := 1) hv 1 rfl rfl rfl ?_
  refine r_sipush (pc := 4) hv 2 rfl  ?_
  refine r_icmp_lt (pc := 7) hv 3 rfl (fun c => ?_) (fun c => ?_)
  · replace h := h.1 c
    refine r_aload_n (pc := 11) hv 5 rfl rfl ?_
    refine r_getR (pc := 12) (b := 35) hv 6 rfl rfl rfl rfl ?_
    refine r_aload_n (pc := 15) hv 7 rfl rfl ?_
    refine r_getI (pc := 16) hv 8 rfl rfl rfl ?_
    refine r_iload_n (pc := 19) hv 9 rfl rfl ?_
    refine r_i2b (pc := 20) hv 10 rfl  ?_
    refine r_bastore (pc := 21) (N := 1239) hv 11 rfl rfl rfl h.1 ?_
    replace h := h.2
    obtain ⟨σ1, e_σ1⟩ : ∃ y : St, y = upI σ 35 (σ.1 34 1 : Int32).toNatClampNeg ((l1 : Int32).toInt8.toInt32 : Int32).toInt8.toInt32 := ⟨_, rfl⟩
    rw [← e_σ1]
    replace h := h σ1 e_σ1
    refine r_aload_n (pc := 22) hv 12 rfl rfl ?_
    refine r_dup (pc := 23) hv 13 rfl trivial ?_
    refine r_getI (pc := 24) hv 14 rfl rfl rfl ?_
    refine r_iconst (pc := 27) hv 15 rfl  ?_
    refine r_iadd (pc := 28) hv 16 rfl  ?_
    refine r_putI (pc := 29) hv 17 rfl rfl rfl ?_
    obtain ⟨σ2, e_σ2⟩ : ∃ y : St, y = upI σ1 34 1 ((σ1.1 34 1) + 1) := ⟨_, rfl⟩
    rw [← e_σ2]
    replace h := h σ2 e_σ2
    exact r_return (pc := 32) hv 18 rfl h
  · replace h := h.2 c
    exact r_return (pc := 10) hv 4 rfl h
theorem m_X5_writeByte {S : Sp} (hS : Sys S) {l1 : Int32} {σ : St} {Φ : Rs} (h : ∀ v : Kt, Cl S Φ k_X5_writeByte v → Wk v → vc_X5_writeByte_0 S Φ v l1 σ) : S 74 [aR 34, aI l1] σ Φ :=
  hS.2 74 M_X5_writeByte k_X5_writeByte _ _ _ mkt_X5_writeByte (Nat.le_of_ble_eq_true rfl) (fun v hv hw => w_X5_writeByte_0 hS hv hw   l1 σ (h v hv hw))
