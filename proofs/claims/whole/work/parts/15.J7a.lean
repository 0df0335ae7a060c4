def vc_J7_fill_d0a16_6 (S : Sp) (Φ : Rs) (v : Kt) (a : Nat) (l1 : Int64) (l3 : Int32) (l4 : Int32) (σ : St) : Prop := ((l4 : Int32) ≤ l3 → (Φ [] σ)) ∧ (¬ ((l4 : Int32) ≤ l3) → (vp_in l3 40 ∧ (∀ σ1 : St, σ1 = upJ σ a (l3 : Int32).toNatClampNeg l1 → (v 6 [some (aR a), some (aL l1), none, some (aI (l3 + 1)), some (aI l4)] [] σ1))))
theorem w_J7_fill_d0a16_6 {S : Sp} (hS : Sys S) {Φ : Rs} {v : Kt} (hv : Cl S Φ k_J7_fill_d0a16 v) (hw : Wk v) (a : Nat) (h_a : isArr 4 a 40) (l1 : Int64) (l3 : Int32) (l4 : Int32) (σ : St) (h : vc_J7_fill_d0a16_6 S Φ v a l1 l3 l4 σ) : v 6 [some (aR a), some (aL l1), none, some (aI l3), some (aI l4)] [] σ := by
  unfold vc_J7_fill_d0a16_6 at h
  refine r_iload_n (pc := 6) hv 5 rfl rfl ?_
  refine r_iload (pc := 7) hv 6 rfl rfl ?_
  refine r_icmp_ge (pc := 9) hv 7 rfl (fun c => ?_) (fun c => ?_)
  · replace h := h.1 c
    exact r_return (pc := 22) hv 14 rfl h
  · replace h := h.2 c
    refine r_aload_n (pc := 12) hv 8 rfl rfl ?_
    refine r_iload_n (pc := 13) hv 9 rfl rfl ?_
    refine r_lload_n (pc := 14) hv 10 rfl rfl ?_
    refine r_lastore (pc := 15) (N := 40) hv 11 rfl h_a.1 h_a.2.1 h.1 ?_
    replace h := h.2
    obtain ⟨σ1, e_σ1⟩ : ∃ y : St, y = upJ σ a (l3 : Int32).toNatClampNeg l1 := ⟨_, rfl⟩
    rw [← e_σ1]
    replace h := h σ1 e_σ1
    refine r_iinc (pc := 16) (lo' := [some (aR a), some (aL l1), none, some (aI (l3 + 1)), some (aI l4)]) hv 12 rfl rfl rfl ?_
    refine r_goto (pc := 19) hv 13 rfl  ?_
    exact h
def vc_J7_fill_d0a16_0 (S : Sp) (Φ : Rs) (v : Kt) (a : Nat) (l1 : Int64) (σ : St) : Prop := v 6 [some (aR a), some (aL l1), none, some (aI 0), some (aI (Int32.ofNat 40))] [] σ
theorem w_J7_fill_d0a16_0 {S : Sp} (hS : Sys S) {Φ : Rs} {v : Kt} (hv : Cl S Φ k_J7_fill_d0a16 v) (hw : Wk v) (a : Nat) (h_a : isArr 4 a 40) (l1 : Int64) (σ : St) (h : vc_J7_fill_d0a16_0 S Φ v a l1 σ) : v 0 [some (aR a), some (aL l1), none, none, none] [] σ := by
  unfold vc_J7_fill_d0a16_0 at h
  refine r_iconst (pc := 0) hv 0 rfl  ?_
  refine r_istore_n (pc := 1) (lo' := [some (aR a), some (aL l1), none, some (aI 0), none]) hv 1 rfl rfl ?_
  refine r_aload_n (pc := 2) hv 2 rfl rfl ?_
  refine r_alen (pc := 3) (N := 40) hv 3 rfl (by rw [h_a.1]; decide) h_a.2.1 ?_
  refine r_istore (pc := 4) (lo' := [some (aR a), some (aL l1), none, some (aI 0), some (aI (Int32.ofNat 40))]) hv 4 rfl rfl ?_
  exact h
theorem m_J7_fill_d0a16 {S : Sp} (hS : Sys S) {a : Nat} (h_a : isArr 4 a 40) {l1 : Int64} {σ : St} {Φ : Rs} (h : ∀ v : Kt, Cl S Φ k_J7_fill_d0a16 v → Wk v → vc_J7_fill_d0a16_0 S Φ v a l1 σ) : S 240 [aR a, aL l1] σ Φ :=
  hS.2 240 M_J7_fill_d0a16 k_J7_fill_d0a16 _ _ _ mkt_J7_fill_d0a16 (Nat.le_of_ble_eq_true rfl) (fun v hv hw => w_J7_fill_d0a16_0 hS hv hw a h_a l1 σ (h v hv hw))
def vc_J7_fill_53178_5 (S : Sp) (Φ : Rs) (v : Kt) (a : Nat) (l1 : Int32) (l2 : Int32) (l3 : Int32) (σ : St) : Prop := ((l3 : Int32) ≤ l2 → (Φ [] σ)) ∧ (¬ ((l3 : Int32) ≤ l2) → (vp_in l2 20 ∧ (∀ σ1 : St, σ1 = upI σ a (l2 : Int32).toNatClampNeg l1 → (v 5 [some (aR a), some (aI l1), some (aI (l2 + 1)), some (aI l3)] [] σ1))))
theorem w_J7_fill_53178_5 {S : Sp} (hS : Sys S) {Φ : Rs} {v : Kt} (hv : Cl S Φ k_J7_fill_53178 v) (hw : Wk v) (a : Nat) (h_a : isArr 1 a 20) (l1 : Int32) (l2 : Int32) (l3 : Int32) (σ : St) (h : vc_J7_fill_53178_5 S Φ v a l1 l2 l3 σ) : v 5 [some (aR a), some (aI l1), some (aI l2), some (aI l3)] [] σ := by
  unfold vc_J7_fill_53178_5 at h
  refine r_iload_n (pc := 5) hv 5 rfl rfl ?_
  refine r_iload_n (pc := 6) hv 6 rfl rfl ?_
  refine r_icmp_ge (pc := 7) hv 7 rfl (fun c => ?_) (fun c => ?_)
  · replace h := h.1 c
    exact r_return (pc := 20) hv 14 rfl h
  · replace h := h.2 c
    refine r_aload_n (pc := 10) hv 8 rfl rfl ?_
    refine r_iload_n (pc := 11) hv 9 rfl rfl ?_
    refine r_iload_n (pc := 12) hv 10 rfl rfl ?_
    refine r_iastore (pc := 13) (N := 20) hv 11 rfl h_a.1 h_a.2.1 h.1 ?_
    replace h := h.2
    obtain ⟨σ1, e_σ1⟩ : ∃ y : St, y = upI σ a (l2 : Int32).toNatClampNeg l1 := ⟨_, rfl⟩
    rw [← e_σ1]
    replace h := h σ1 e_σ1
    refine r_iinc (pc := 14) (lo' := [some (aR a), some (aI l1), some (aI (l2 + 1)), some (aI l3)]) hv 12 rfl rfl rfl ?_
    refine r_goto (pc := 17) hv 13 rfl  ?_
    exact h
def vc_J7_fill_53178_0 (S : Sp) (Φ : Rs) (v : Kt) (a : Nat) (l1 : Int32) (σ : St) : Prop := v 5 [some (aR a), some (aI l1), some (aI 0), some (aI (Int32.ofNat 20))] [] σ
theorem w_J7_fill_53178_0 {S : Sp} (hS : Sys S) {Φ : Rs} {v : Kt} (hv : Cl S Φ k_J7_fill_53178 v) (hw : Wk v) (a : Nat) (h_a : isArr 1 a 20) (l1 : Int32) (σ : St) (h : vc_J7_fill_53178_0 S Φ v a l1 σ) : v 0 [some (aR a), some (aI l1), none, none] [] σ := by
  unfold vc_J7_fill_53178_0 at h
  refine r_iconst (pc := 0) hv 0 rfl  ?_
  refine r_istore_n (pc := 1) (lo' := [some (aR a), some (aI l1), some (aI 0), none]) hv 1 rfl rfl ?_
  refine r_aload_n (pc := 2) hv 2 rfl rfl ?_
  refine r_alen (pc := 3) (N := 20) hv 3 rfl (by rw [h_a.1]; decide) h_a.2.1 ?_
  refine r_istore_n (pc := 4) (lo' := [some (aR a), some (aI l1), some (aI 0), some (aI (Int32.ofNat 20))]) hv 4 rfl rfl ?_
  exact h
theorem m_J7_fill_53178 {S : Sp} (hS : Sys S) {a : Nat} (h_a : isArr 1 a 20) {l1 : Int32} {σ : St} {Φ : Rs} (h : ∀ v : Kt, Cl S Φ k_J7_fill_53178 v → Wk v → vc_J7_fill_53178_0 S Φ v a l1 σ) : S 241 [aR a, aI l1] σ Φ :=
  hS.2 241 M_J7_fill_53178 k_J7_fill_53178 _ _ _ mkt_J7_fill_53178 (Nat.le_of_ble_eq_true rfl) (fun v hv hw => w_J7_fill_53178_0 hS hv hw a h_a l1 σ (h v hv hw))
