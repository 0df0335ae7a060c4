def vc_X9_isHole_0 (S : Sp) (Φ : Rs) (v : Kt) (l1 : Int32) (σ : St) : Prop := vp_in 280 286 ∧ (Φ [aI (b2 ((0 : Int64) ≤ ((l1 : Int32).toInt64) ∧ ((l1 : Int32).toInt64 : Int64) ≤ (((σ.1 50 (280 : Int32).toNatClampNeg) - 1 : Int32).toInt64)))] σ)
theorem w_X9_isHole_0 {S : Sp} (hS : Sys S) {Φ : Rs} {v : Kt} (hv : Cl S Φ k_X9_isHole v) (hw : Wk v) (l1 : Int32) (σ : St) (h : vc_X9_isHole_0 S Φ v l1 σ) : v 0 [some (aR 49), some (aI l1)] [] σ := by
  unfold vc_X9_isHole_0 at h
  refine r_iload_n (pc := 0) hv 0 rfl rfl ?_
  refine r_i2l (pc := 1) hv 1 rfl  ?_
  refine r_lconst (pc := 2) hv 2 rfl  ?_
  refine r_aload_n (pc := 3) hv 3 rfl rfl ?_
  refine r_getR (pc := 4) (b := 50) hv 4 rfl rfl rfl rfl ?_
  refine r_sipush (pc := 7) hv 5 rfl  ?_
  refine r_iaload (pc := 10) (N := 286) hv 6 rfl rfl rfl (by decide) h.1 ?_
  replace h := h.2
  refine r_iconst (pc := 11) hv 7 rfl  ?_
  refine r_isub (pc := 12) hv 8 rfl  ?_
  refine r_i2l (pc := 13) hv 9 rfl  ?_
  refine r_callS (pc := 14) (l := [aL (((σ.1 50 (280 : Int32).toNatClampNeg) - 1 : Int32).toInt64), aL 0, aL ((l1 : Int32).toInt64)]) (av := [aL ((l1 : Int32).toInt64), aL 0, aL (((σ.1 50 (280 : Int32).toNatClampNeg) - 1 : Int32).toInt64)]) (t := []) hv 10 rfl (Or.inl rfl) rfl rfl rfl trivial (t_X9_in hS ?_)
  show v 17 [some (aR 49), some (aI l1)] [aI (b2 ((0 : Int64) ≤ ((l1 : Int32).toInt64) ∧ ((l1 : Int32).toInt64 : Int64) ≤ (((σ.1 50 (280 : Int32).toNatClampNeg) - 1 : Int32).toInt64)))] σ
  exact r_zreturn (pc := 17) hv 11 rfl rfl (b2_01 _) h
theorem m_X9_isHole {S : Sp} (hS : Sys S) {l1 : Int32} {σ : St} {Φ : Rs} (h : ∀ v : Kt, Cl S Φ k_X9_isHole v → Wk v → vc_X9_isHole_0 S Φ v l1 σ) : S 148 [aR 49, aI l1] σ Φ :=
  hS.2 148 M_X9_isHole k_X9_isHole _ _ _ mkt_X9_isHole (Nat.le_of_ble_eq_true rfl) (fun v hv hw => w_X9_isHole_0 hS hv hw   l1 σ (h v hv hw))
def vc_X9_isWire_0 (S : Sp) (Φ : Rs) (v : Kt) (l1 : Int32) (σ : St) : Prop := vp_in 281 286 ∧ (Φ [aI (b2 ((0 : Int64) ≤ ((l1 : Int32).toInt64) ∧ ((l1 : Int32).toInt64 : Int64) ≤ (((σ.1 50 (281 : Int32).toNatClampNeg) - 1 : Int32).toInt64)))] σ)
theorem w_X9_isWire_0 {S : Sp} (hS : Sys S) {Φ : Rs} {v : Kt} (hv : Cl S Φ k_X9_isWire v) (hw : Wk v) (l1 : Int32) (σ : St) (h : vc_X9_isWire_0 S Φ v l1 σ) : v 0 [some (aR 49), some (aI l1)] [] σ := by
  unfold vc_X9_isWire_0 at h
  refine r_iload_n (pc := 0) hv 0 rfl rfl ?_
  refine r_i2l (pc := 1) hv 1 rfl  ?_
  refine r_lconst (pc := 2) hv 2 rfl  ?_
  refine r_aload_n (pc := 3) hv 3 rfl rfl ?_
  refine r_getR (pc := 4) (b := 50) hv 4 rfl rfl rfl rfl ?_
  refine r_sipush (pc := 7) hv 5 rfl  ?_
  refine r_iaload (pc := 10) (N := 286) hv 6 rfl rfl rfl (by decide) h.1 ?_
  replace h := h.2
  refine r_iconst (pc := 11) hv 7 rfl  ?_
  refine r_isub (pc := 12) hv 8 rfl  ?_
  refine r_i2l (pc := 13) hv 9 rfl  ?_
  refine r_callS (pc := 14) (l := [aL (((σ.1 50 (281 : Int32).toNatClampNeg) - 1 : Int32).toInt64), aL 0, aL ((l1 : Int32).toInt64)]) (av := [aL ((l1 : Int32).toInt64), aL 0, aL (((σ.1 50 (281 : Int32).toNatClampNeg) - 1 : Int32).toInt64)]) (t := []) hv 10 rfl (Or.inl rfl) rfl rfl rfl trivial (t_X9_in hS ?_)
  show v 17 [some (aR 49), some (aI l1)] [aI (b2 ((0 : Int64) ≤ ((l1 : Int32).toInt64) ∧ ((l1 : Int32).toInt64 : Int64) ≤ (((σ.1 50 (281 : Int32).toNatClampNeg) - 1 : Int32).toInt64)))] σ
  exact r_zreturn (pc := 17) hv 11 rfl rfl (b2_01 _) h
theorem m_X9_isWire {S : Sp} (hS : Sys S) {l1 : Int32} {σ : St} {Φ : Rs} (h : ∀ v : Kt, Cl S Φ k_X9_isWire v → Wk v → vc_X9_isWire_0 S Φ v l1 σ) : S 149 [aR 49, aI l1] σ Φ :=
  hS.2 149 M_X9_isWire k_X9_isWire _ _ _ mkt_X9_isWire (Nat.le_of_ble_eq_true rfl) (fun v hv hw => w_X9_isWire_0 hS hv hw   l1 σ (h v hv hw))
def vc_X9_isList_0 (S : Sp) (Φ : Rs) (v : Kt) (l0 : Int32) (σ : St) : Prop := Φ [aI (b2 ((0 : Int64) ≤ ((l0 : Int32).toInt64) ∧ ((l0 : Int32).toInt64 : Int64) ≤ 3))] σ
theorem w_X9_isList_0 {S : Sp} (hS : Sys S) {Φ : Rs} {v : Kt} (hv : Cl S Φ k_X9_isList v) (hw : Wk v) (l0 : Int32) (σ : St) (h : vc_X9_isList_0 S Φ v l0 σ) : v 0 [some (aI l0)] [] σ := by
  unfold vc_X9_isList_0 at h
  refine r_iload_n (pc := 0) hv 0 rfl rfl ?_
  refine r_i2l (pc := 1) hv 1 rfl  ?_
  refine r_lconst (pc := 2) hv 2 rfl  ?_
  refine r_ldc2_w (pc := 3) hv 3 rfl  ?_
  refine r_callS (pc := 6) (l := [aL 3, aL 0, aL ((l0 : Int32).toInt64)]) (av := [aL ((l0 : Int32).toInt64), aL 0, aL 3]) (t := []) hv 4 rfl (Or.inl rfl) rfl rfl rfl trivial (t_X9_in hS ?_)
  show v 9 [some (aI l0)] [aI (b2 ((0 : Int64) ≤ ((l0 : Int32).toInt64) ∧ ((l0 : Int32).toInt64 : Int64) ≤ 3))] σ
  exact r_zreturn (pc := 9) hv 5 rfl rfl (b2_01 _) h
theorem m_X9_isList {S : Sp} (hS : Sys S) {l0 : Int32} {σ : St} {Φ : Rs} (h : ∀ v : Kt, Cl S Φ k_X9_isList v → Wk v → vc_X9_isList_0 S Φ v l0 σ) : S 226 [aI l0] σ Φ :=
  hS.2 226 M_X9_isList k_X9_isList _ _ _ mkt_X9_isList (Nat.le_of_ble_eq_true rfl) (fun v hv hw => w_X9_isList_0 hS hv hw   l0 σ (h v hv hw))
def vc_X9_isDead_0 (S : Sp) (Φ : Rs) (v : Kt) (l1 : Int32) (σ : St) : Prop := vp_in (8 * l1 + 6) 286 ∧ ((¬ (σ.1 50 (8 * l1 + 6 : Int32).toNatClampNeg : Int32) = 1 → (Φ [aI 0] σ)) ∧ ((σ.1 50 (8 * l1 + 6 : Int32).toNatClampNeg : Int32) = 1 → (Φ [aI 1] σ)))
theorem w_X9_isDead_0 {S : Sp} (hS : Sys S) {Φ : Rs} {v : Kt} (hv : Cl S Φ k_X9_isDead v) (hw : Wk v) (l1 : Int32) (σ : St) (h : vc_X9_isDead_0 S Φ v l1 σ) : v 0 [some (aR 49), some (aI l1)] [] σ := by
  unfold vc_X9_isDead_0 at h
  refine r_aload_n (pc := 0) hv 0 rfl rfl ?_
  refine r_iload_n (pc := 1) hv 1 rfl rfl ?_
  refine r_bipush (pc := 2) hv 2 rfl  ?_
  refine r_callV (pc := 4) (l := [aI 6, aI l1]) (av := [aI l1, aI 6]) (a := 49) (t := []) hv 3 rfl rfl rfl rfl (rcv_o (by decide) rfl) trivial (t_X9_its hS h.1 ?_)
  replace h := h.2
  show v 7 [some (aR 49), some (aI l1)] [aI (σ.1 50 (8 * l1 + 6 : Int32).toNatClampNeg)] σ
  refine r_iconst (pc := 7) hv 4 rfl  ?_
  refine r_icmp_ne (pc := 8) hv 5 rfl (fun c => ?_) (fun c => ?_)
  · replace h := h.1 c
    refine r_iconst (pc := 15) hv 8 rfl  ?_
    exact r_zreturn (pc := 16) hv 9 rfl rfl (Or.inl rfl) h
  · replace h := h.2 c
    refine r_iconst (pc := 11) hv 6 rfl  ?_
    refine r_goto (pc := 12) hv 7 rfl  ?_
    exact r_zreturn (pc := 16) hv 9 rfl rfl (Or.inr rfl) h
theorem m_X9_isDead {S : Sp} (hS : Sys S) {l1 : Int32} {σ : St} {Φ : Rs} (h : ∀ v : Kt, Cl S Φ k_X9_isDead v → Wk v → vc_X9_isDead_0 S Φ v l1 σ) : S 152 [aR 49, aI l1] σ Φ :=
  hS.2 152 M_X9_isDead k_X9_isDead _ _ _ mkt_X9_isDead (Nat.le_of_ble_eq_true rfl) (fun v hv hw => w_X9_isDead_0 hS hv hw   l1 σ (h v hv hw))
def vc_X0_doesFire_0 (S : Sp) (Φ : Rs) (v : Kt) (b : Nat) (l1 : Int32) (σ : St) : Prop := Φ [aI (b2 (¬ (l1 : Int32) < 0 ∧ ¬ 20 ≤ (l1 : Int32) ∧ ¬ ((σ.1 b 4 : Int32) >>> (l1 &&& 31)) &&& 1 = 0))] σ
theorem w_X0_doesFire_0 {S : Sp} (hS : Sys S) {Φ : Rs} {v : Kt} (hv : Cl S Φ k_X0_doesFire v) (hw : Wk v) (b : Nat) (h_b : isBl b) (l1 : Int32) (σ : St) (h : vc_X0_doesFire_0 S Φ v b l1 σ) : v 0 [some (aR b), some (aI l1)] [] σ := by
  unfold vc_X0_doesFire_0 at h
  refine r_aload_n (pc := 0) hv 0 rfl rfl ?_
  refine r_getI (pc := 1) hv 1 rfl rfl (isBl_oc h_b) ?_
  refine r_iload_n (pc := 4) hv 2 rfl rfl ?_
  refine r_callS (pc := 5) (l := [aI l1, aI (σ.1 b 4)]) (av := [aI (σ.1 b 4), aI l1]) (t := []) hv 3 rfl (Or.inr rfl) rfl rfl rfl trivial (t_X8_hasBit hS ?_)
  show v 8 [some (aR b), some (aI l1)] [aI (b2 (¬ (l1 : Int32) < 0 ∧ ¬ 20 ≤ (l1 : Int32) ∧ ¬ ((σ.1 b 4 : Int32) >>> (l1 &&& 31)) &&& 1 = 0))] σ
  exact r_zreturn (pc := 8) hv 4 rfl rfl (b2_01 _) h
theorem m_X0_doesFire {S : Sp} (hS : Sys S) {b : Nat} (h_b : isBl b) {l1 : Int32} {σ : St} {Φ : Rs} (h : ∀ v : Kt, Cl S Φ k_X0_doesFire v → Wk v → vc_X0_doesFire_0 S Φ v b l1 σ) : S 6 [aR b, aI l1] σ Φ :=
  hS.2 6 M_X0_doesFire k_X0_doesFire _ _ _ mkt_X0_doesFire (Nat.le_of_ble_eq_true rfl) (fun v hv hw => w_X0_doesFire_0 hS hv hw b h_b l1 σ (h v hv hw))
def vc_X0_isBuried_0 (S : Sp) (Φ : Rs) (v : Kt) (b : Nat) (l1 : Int32) (σ : St) : Prop := Φ [aI (b2 (¬ (l1 : Int32) < 0 ∧ ¬ 20 ≤ (l1 : Int32) ∧ ¬ ((σ.1 b 5 : Int32) >>> (l1 &&& 31)) &&& 1 = 0))] σ
theorem w_X0_isBuried_0 {S : Sp} (hS : Sys S) {Φ : Rs} {v : Kt} (hv : Cl S Φ k_X0_isBuried v) (hw : Wk v) (b : Nat) (h_b : isBl b) (l1 : Int32) (σ : St) (h : vc_X0_isBuried_0 S Φ v b l1 σ) : v 0 [some (aR b), some (aI l1)] [] σ := by
  unfold vc_X0_isBuried_0 at h
  refine r_aload_n (pc := 0) hv 0 rfl rfl ?_
  refine r_getI (pc := 1) hv 1 rfl rfl (isBl_oc h_b) ?_
  refine r_iload_n (pc := 4) hv 2 rfl rfl ?_
  refine r_callS (pc := 5) (l := [aI l1, aI (σ.1 b 5)]) (av := [aI (σ.1 b 5), aI l1]) (t := []) hv 3 rfl (Or.inr rfl) rfl rfl rfl trivial (t_X8_hasBit hS ?_)
  show v 8 [some (aR b), some (aI l1)] [aI (b2 (¬ (l1 : Int32) < 0 ∧ ¬ 20 ≤ (l1 : Int32) ∧ ¬ ((σ.1 b 5 : Int32) >>> (l1 &&& 31)) &&& 1 = 0))] σ
  exact r_zreturn (pc := 8) hv 4 rfl rfl (b2_01 _) h
theorem m_X0_isBuried {S : Sp} (hS : Sys S) {b : Nat} (h_b : isBl b) {l1 : Int32} {σ : St} {Φ : Rs} (h : ∀ v : Kt, Cl S Φ k_X0_isBuried v → Wk v → vc_X0_isBuried_0 S Φ v b l1 σ) : S 7 [aR b, aI l1] σ Φ :=
  hS.2 7 M_X0_isBuried k_X0_isBuried _ _ _ mkt_X0_isBuried (Nat.le_of_ble_eq_true rfl) (fun v hv hw => w_X0_isBuried_0 hS hv hw b h_b l1 σ (h v hv hw))
def vc_X8_lostBy_0 (S : Sp) (Φ : Rs) (v : Kt) (l1 : Int32) (σ : St) : Prop := Φ [aI (((σ.1 13 4) &&& ((σ.1 20 4) ^^^ (-1))) &&& ((bitO l1) ^^^ (-1)))] σ
theorem w_X8_lostBy_0 {S : Sp} (hS : Sys S) {Φ : Rs} {v : Kt} (hv : Cl S Φ k_X8_lostBy v) (hw : Wk v) (l1 : Int32) (σ : St) (h : vc_X8_lostBy_0 S Φ v l1 σ) : v 0 [some (aR 0), some (aI l1)] [] σ := by
  unfold vc_X8_lostBy_0 at h
  refine r_aload_n (pc := 0) hv 0 rfl rfl ?_
  refine r_getR (pc := 1) (b := 13) hv 1 rfl rfl rfl rfl ?_
  refine r_getI (pc := 4) hv 2 rfl rfl rfl ?_
  refine r_aload_n (pc := 7) hv 3 rfl rfl ?_
  refine r_getR (pc := 8) (b := 20) hv 4 rfl rfl rfl rfl ?_
  refine r_getI (pc := 11) hv 5 rfl rfl rfl ?_
  refine r_iconst (pc := 14) hv 6 rfl  ?_
  refine r_ixor (pc := 15) hv 7 rfl  ?_
  refine r_iand (pc := 16) hv 8 rfl  ?_
  refine r_iload_n (pc := 17) hv 9 rfl rfl ?_
  refine r_callS (pc := 18) (l := [aI l1]) (av := [aI l1]) (t := [aI ((σ.1 13 4) &&& ((σ.1 20 4) ^^^ (-1)))]) hv 10 rfl (Or.inl rfl) rfl rfl rfl trivial (t_X8_bitOf hS ?_)
  show v 21 [some (aR 0), some (aI l1)] [aI (bitO l1), aI ((σ.1 13 4) &&& ((σ.1 20 4) ^^^ (-1)))] σ
  refine r_iconst (pc := 21) hv 11 rfl  ?_
  refine r_ixor (pc := 22) hv 12 rfl  ?_
  refine r_iand (pc := 23) hv 13 rfl  ?_
  exact r_ireturn (pc := 24) hv 14 rfl rfl h
theorem m_X8_lostBy {S : Sp} (hS : Sys S) {l1 : Int32} {σ : St} {Φ : Rs} (h : ∀ v : Kt, Cl S Φ k_X8_lostBy v → Wk v → vc_X8_lostBy_0 S Φ v l1 σ) : S 135 [aR 0, aI l1] σ Φ :=
  hS.2 135 M_X8_lostBy k_X8_lostBy _ _ _ mkt_X8_lostBy (Nat.le_of_ble_eq_true rfl) (fun v hv hw => w_X8_lostBy_0 hS hv hw   l1 σ (h v hv hw))
def vc_X8_bared_0 (S : Sp) (Φ : Rs) (v : Kt) (σ : St) : Prop := Φ [aI ((σ.1 20 5) &&& ((σ.1 13 5) ^^^ (-1)))] σ
theorem w_X8_bared_0 {S : Sp} (hS : Sys S) {Φ : Rs} {v : Kt} (hv : Cl S Φ k_X8_bared v) (hw : Wk v) (σ : St) (h : vc_X8_bared_0 S Φ v  σ) : v 0 [some (aR 0)] [] σ := by
  unfold vc_X8_bared_0 at h
  refine r_aload_n (pc := 0) hv 0 rfl rfl ?_
  refine r_getR (pc := 1) (b := 20) hv 1 rfl rfl rfl rfl ?_
  refine r_getI (pc := 4) hv 2 rfl rfl rfl ?_
  refine r_aload_n (pc := 7) hv 3 rfl rfl ?_
  refine r_getR (pc := 8) (b := 13) hv 4 rfl rfl rfl rfl ?_
  refine r_getI (pc := 11) hv 5 rfl rfl rfl ?_
  refine r_iconst (pc := 14) hv 6 rfl  ?_
  refine r_ixor (pc := 15) hv 7 rfl  ?_
  refine r_iand (pc := 16) hv 8 rfl  ?_
  exact r_ireturn (pc := 17) hv 9 rfl rfl h
theorem m_X8_bared {S : Sp} (hS : Sys S) {σ : St} {Φ : Rs} (h : ∀ v : Kt, Cl S Φ k_X8_bared v → Wk v → vc_X8_bared_0 S Φ v  σ) : S 136 [aR 0] σ Φ :=
  hS.2 136 M_X8_bared k_X8_bared _ _ _ mkt_X8_bared (Nat.le_of_ble_eq_true rfl) (fun v hv hw => w_X8_bared_0 hS hv hw    σ (h v hv hw))
def vc_X2_hasShots_0 (S : Sp) (Φ : Rs) (v : Kt) (p : Nat) (l1 : Int32) (σ : St) : Prop := vp_in (l1 * 9 + 2) 180 ∧ (((σ.1 (p + 1) (l1 * 9 + 2 : Int32).toNatClampNeg : Int32) = 5 → (Φ [aI 0] σ)) ∧ (¬ ((σ.1 (p + 1) (l1 * 9 + 2 : Int32).toNatClampNeg : Int32) = 5) → (Φ [aI 1] σ)))
theorem w_X2_hasShots_0 {S : Sp} (hS : Sys S) {Φ : Rs} {v : Kt} (hv : Cl S Φ k_X2_hasShots v) (hw : Wk v) (p : Nat) (h_p : isPat p) (l1 : Int32) (σ : St) (h : vc_X2_hasShots_0 S Φ v p l1 σ) : v 0 [some (aR p), some (aI l1)] [] σ := by
  unfold vc_X2_hasShots_0 at h
  refine r_aload_n (pc := 0) hv 0 rfl rfl ?_
  refine r_iload_n (pc := 1) hv 1 rfl rfl ?_
  refine r_iconst (pc := 2) hv 2 rfl  ?_
  refine r_callV (pc := 3) (l := [aI 2, aI l1]) (av := [aI l1, aI 2]) (a := p) (t := []) hv 3 rfl rfl rfl rfl (rcv_o (by decide) (isPat_oc h_p)) trivial (t_X2_mark hS h_p h.1 ?_)
  replace h := h.2
  show v 6 [some (aR p), some (aI l1)] [aI (σ.1 (p + 1) (l1 * 9 + 2 : Int32).toNatClampNeg)] σ
  refine r_iconst (pc := 6) hv 4 rfl  ?_
  refine r_icmp_eq (pc := 7) hv 5 rfl (fun c => ?_) (fun c => ?_)
  · replace h := h.1 c
    refine r_iconst (pc := 14) hv 8 rfl  ?_
    exact r_zreturn (pc := 15) hv 9 rfl rfl (Or.inl rfl) h
  · replace h := h.2 c
    refine r_iconst (pc := 10) hv 6 rfl  ?_
    refine r_goto (pc := 11) hv 7 rfl  ?_
    exact r_zreturn (pc := 15) hv 9 rfl rfl (Or.inr rfl) h
theorem m_X2_hasShots {S : Sp} (hS : Sys S) {p : Nat} (h_p : isPat p) {l1 : Int32} {σ : St} {Φ : Rs} (h : ∀ v : Kt, Cl S Φ k_X2_hasShots v → Wk v → vc_X2_hasShots_0 S Φ v p l1 σ) : S 44 [aR p, aI l1] σ Φ :=
  hS.2 44 M_X2_hasShots k_X2_hasShots _ _ _ mkt_X2_hasShots (Nat.le_of_ble_eq_true rfl) (fun v hv hw => w_X2_hasShots_0 hS hv hw p h_p l1 σ (h v hv hw))
