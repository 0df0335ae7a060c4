section C20b
variable {S : Sp} {σ : St} {Φ : Rs} {P : Pl} {D : Int → Bool} {g : Int} {b : Nat}
theorem c_X9_fires (hS : Sys S) (hM : MP 50 P σ) (hW : WF P) (hk : ∀ σ', Fr FM σ σ' → FS P (dd P) (-1) σ' → Φ [] σ') : S 175 [aR 49] σ Φ := by
  refine m_X9_fires hS (fun v hv hw => ?_)
  have g0 := WF_0 hW
  unfold vc_X9_fires_0
  refine c_X9_signals hS hM hW (fun σ1 f1 c1 hG => ⟨rfl, fun σ2 e2 => ?_⟩)
  have f2 : Fr FM σ σ2 := by rw [e2]; exact Fr_up (Fr_mo f1 (fun k j q => Or.inl q)) (Or.inr (Or.inr ⟨rfl, Or.inl rfl⟩))
  -- who is buried
  have L2 : ∀ (d : Nat) (h : Int) (σ3 : St), (P 280 - h).toNat = d → 0 ≤ h → h ≤ P 280 → Fr FM σ σ3 → (∀ h, 0 ≤ h ∧ h < 20 → σ3.1 53 h.toNat = iI (sgA P (dd P) (-1) h)) → (∀ k, 0 ≤ k → k < P 280 → fr P (dd P) (-1) k = true → σ3.1 54 k.toNat = iI (tm P (dd P) (-1) k)) → σ3.1 49 7 = bm (fr P (dd P) (-1)) (P 280) → σ3.1 49 8 = bm (bur P (dd P) (-1)) h → v 94 [some (aR 49), some (aI (iI h))] [] σ3 := by
    intro d
    induction d with
    | zero =>
      intro h σ3 hd h0 h1 hf a1 a2 a3 a4
      refine w_X9_fires_94 hS hv hw _ σ3 ?_
      unfold vc_X9_fires_94
      have mp := MP_f hM hf (fun j => by unfold FM; omega)
      rw [show h = P 280 by omega] at a4 ⊢
      try simp (disch := omega) only [iI_lit, iL_lit, iI_add, iI_sub, iI_mul, iI_neg, iI_lt, iI_le, iI_eq, iI_tn, iI_div, iI_l, iL_add, iL_sub, iL_mul, iL_neg, iL_le, iL_lt, iL_eq, iL_ite, vp_T, b2_ne0, b2_eq1, nn_imp, true_and, iI_ite, not_true_eq_false, not_false_eq_true, true_implies, false_implies, and_true, Int.reduceLT, Int.reduceLE, Int.reduceEq, or_false, false_or, true_or, or_true, false_and, and_false, mp _]
      exact ⟨fun _ => hk σ3 hf ⟨a1, a2, a3, a4, hG⟩, fun c => by omega⟩
    | succ d ih =>
      intro h σ3 hd h0 h1 hf a1 a2 a3 a4
      refine w_X9_fires_94 hS hv hw _ σ3 ?_
      unfold vc_X9_fires_94
      have mp := MP_f hM hf (fun j => by unfold FM; omega)
      have N : bur P (dd P) (-1) h = false → ∀ σ4, σ4 = upI σ3 49 8 (bm (bur P (dd P) (-1)) h ||| iI 0) → v 94 [some (aR 49), some (aI (iI (h + 1)))] [] σ4 := by
        intro q σ4 e4
        rw [bm_one, bm_sf h0 q] at e4
        refine ih (h + 1) σ4 (by omega) (by omega) (by omega) (by rw [e4]; exact Fr_up hf (Or.inr (Or.inr ⟨rfl, Or.inr rfl⟩))) ?_ ?_ ?_ ?_
        · rw [e4]; intro k hk; rw [up_n (by omega)]; exact a1 k hk
        · rw [e4]; intro k k0 k1 kf; rw [up_n (by omega)]; exact a2 k k0 k1 kf
        · rw [e4, up_m (by omega)]; exact a3
        · rw [e4]; exact up_h rfl
      have Y : bur P (dd P) (-1) h = true → ∀ σ4, σ4 = upI σ3 49 8 (bm (bur P (dd P) (-1)) h ||| (iI 1 <<< (iI h &&& iI 31))) → v 94 [some (aR 49), some (aI (iI (h + 1)))] [] σ4 := by
        intro q σ4 e4
        rw [bm_st h0 q] at e4
        refine ih (h + 1) σ4 (by omega) (by omega) (by omega) (by rw [e4]; exact Fr_up hf (Or.inr (Or.inr ⟨rfl, Or.inr rfl⟩))) ?_ ?_ ?_ ?_
        · rw [e4]; intro k hk; rw [up_n (by omega)]; exact a1 k hk
        · rw [e4]; intro k k0 k1 kf; rw [up_n (by omega)]; exact a2 k k0 k1 kf
        · rw [e4, up_m (by omega)]; exact a3
        · rw [e4]; exact up_h rfl
      have hz : h < P 280 := by omega
      unfold bur at N Y
      try simp (disch := omega) only [iI_lit, iL_lit, iI_add, iI_sub, iI_mul, iI_neg, iI_lt, iI_le, iI_eq, iI_tn, iI_div, iI_l, iL_add, iL_sub, iL_mul, iL_neg, iL_le, iL_lt, iL_eq, iL_ite, vp_T, b2_ne0, b2_eq1, nn_imp, true_and, iI_ite, not_true_eq_false, not_false_eq_true, true_implies, false_implies, and_true, Int.reduceLT, Int.reduceLE, Int.reduceEq, or_false, false_or, true_or, or_true, false_and, and_false, mp _, a3, a4, bs_0, bs_1, bs_bm, Bool.and_eq_true, decide_eq_true_eq, Bool.not_eq_false, Bool.not_eq_true]
      refine ⟨fun c => by omega, fun _ => ⟨fun c => ?_, fun c => ?_⟩⟩
      · refine N ?_
        cases q : fr P (dd P) (-1) h
        · rfl
        · exact absurd ⟨hz, q⟩ c
      · have tr := tm_r hW hG h0 hz c.2
        have hq : bur P (dd P) (-1) h = !dec (rlv P (fr P (dd P) (-1)) (tm P (dd P) (-1)) (tm P (dd P) (-1) h) h) := by unfold bur; rw [c.2, Bool.true_and]
        unfold bur at hq
        rw [hq] at N Y
        refine c_X9_isRelieved hS mp hW (F := fr P (dd P) (-1)) (T := tm P (dd P) (-1)) (fun k k0 k1 kf => ⟨a2 k k0 k1 kf, by have := tm_r hW hG k0 k1 kf; omega⟩) h0 hz (a2 h h0 hz c.2) (by omega) ⟨_, rfl, ?_⟩
        try simp (disch := omega) only [iI_lit, iL_lit, iI_add, iI_sub, iI_mul, iI_neg, iI_lt, iI_le, iI_eq, iI_tn, iI_div, iI_l, iL_add, iL_sub, iL_mul, iL_neg, iL_le, iL_lt, iL_eq, iL_ite, vp_T, b2_ne0, b2_eq1, nn_imp, true_and, iI_ite, not_true_eq_false, not_false_eq_true, true_implies, false_implies, and_true, Int.reduceLT, Int.reduceLE, Int.reduceEq, or_false, false_or, true_or, or_true, false_and, and_false, a4]
        refine ⟨fun q => N (by rw [q]; rfl), fun q => Y (by rw [Bool.eq_false_iff.mpr q]; rfl)⟩
  -- who fires
  have L1 : ∀ (d : Nat) (h : Int) (σ3 : St), (P 280 - h).toNat = d → 0 ≤ h → h ≤ P 280 → Fr FM σ σ3 → (∀ h, 0 ≤ h ∧ h < 20 → σ3.1 53 h.toNat = iI (sgA P (dd P) (-1) h)) → (∀ k, 0 ≤ k → k < h → fr P (dd P) (-1) k = true → σ3.1 54 k.toNat = iI (tm P (dd P) (-1) k)) → σ3.1 49 7 = bm (fr P (dd P) (-1)) h → v 11 [some (aR 49), some (aI (iI h))] [] σ3 := by
    intro d
    induction d with
    | zero =>
      intro h σ3 hd h0 h1 hf a1 a2 a3
      refine w_X9_fires_11 hS hv hw _ σ3 ?_
      unfold vc_X9_fires_11
      have mp := MP_f hM hf (fun j => by unfold FM; omega)
      rw [show h = P 280 by omega] at a2 a3 ⊢
      try simp (disch := omega) only [iI_lit, iL_lit, iI_add, iI_sub, iI_mul, iI_neg, iI_lt, iI_le, iI_eq, iI_tn, iI_div, iI_l, iL_add, iL_sub, iL_mul, iL_neg, iL_le, iL_lt, iL_eq, iL_ite, vp_T, b2_ne0, b2_eq1, nn_imp, true_and, iI_ite, not_true_eq_false, not_false_eq_true, true_implies, false_implies, and_true, Int.reduceLT, Int.reduceLE, Int.reduceEq, or_false, false_or, true_or, or_true, false_and, and_false, mp _]
      refine ⟨fun _ σ4 e4 => ?_, fun c => by omega⟩
      refine L2 _ 0 σ4 rfl (by omega) (by omega) (by rw [e4]; exact Fr_up hf (Or.inr (Or.inr ⟨rfl, Or.inr rfl⟩))) ?_ ?_ ?_ ?_
      · rw [e4]; intro k hk; rw [up_n (by omega)]; exact a1 k hk
      · rw [e4]; intro k k0 k1 kf; rw [up_n (by omega)]; exact a2 k k0 k1 kf
      · rw [e4, up_m (by omega)]; exact a3
      · rw [e4, bm_z]; exact up_h rfl
    | succ d ih =>
      intro h σ3 hd h0 h1 hf a1 a2 a3
      refine w_X9_fires_11 hS hv hw _ σ3 ?_
      unfold vc_X9_fires_11
      have mp := MP_f hM hf (fun j => by unfold FM; omega)
      have hz : h < P 280 := by omega
      have gh := WF_h hW h0 hz
      have sr := sg_r hW hG h0 hz
      have fl0 := kfl_0 (k := P (8 * h + 2)) (c := P (8 * h + 3)) (by omega) (by omega)
      have flr := fl_r hW h0 hz
      have hi : fr P (dd P) (-1) h = true ↔ _ := fr_i
      have hd6 : dd P h = true ↔ P (8 * h + 6) = 1 := by unfold dd; exact decide_eq_true_iff
      have N : ¬ (fr P (dd P) (-1) h = true) → v 11 [some (aR 49), some (aI (iI (h + 1)))] [] σ3 := by
        intro q
        have q : fr P (dd P) (-1) h = false := Bool.eq_false_iff.mpr q
        refine ih (h + 1) σ3 (by omega) (by omega) (by omega) hf a1 (fun k k0 k1 kf => ?_) (by rw [a3]; exact bm_sf h0 q)
        by_cases e : k < h
        · exact a2 k k0 e kf
        · rw [show k = h by omega, q] at kf; exact absurd kf (by decide)
      have s1 : σ3.1 53 h.toNat = iI (sg P (dd P) (-1) h) := by rw [a1 h (by omega), sgA_n hz]
      try simp (disch := omega) only [iI_lit, iL_lit, iI_add, iI_sub, iI_mul, iI_neg, iI_lt, iI_le, iI_eq, iI_tn, iI_div, iI_l, iL_add, iL_sub, iL_mul, iL_neg, iL_le, iL_lt, iL_eq, iL_ite, vp_T, b2_ne0, b2_eq1, nn_imp, true_and, iI_ite, not_true_eq_false, not_false_eq_true, true_implies, false_implies, and_true, Int.reduceLT, Int.reduceLE, Int.reduceEq, or_false, false_or, true_or, or_true, false_and, and_false, mp _, s1]
      refine ⟨fun c => by omega, fun _ => ⟨fun c => N (fun z => by have := (hi.mp z).1; omega), fun c => ⟨fun e => N (fun z => (hi.mp z).2.1 (hd6.mpr e)), fun e => ?_⟩⟩⟩
      refine c_X9_firstLoad hS mp hW h0 hz ⟨_, rfl, ?_⟩
      try simp (disch := omega) only [iI_lit, iL_lit, iI_add, iI_sub, iI_mul, iI_neg, iI_lt, iI_le, iI_eq, iI_tn, iI_div, iI_l, iL_add, iL_sub, iL_mul, iL_neg, iL_le, iL_lt, iL_eq, iL_ite, vp_T, b2_ne0, b2_eq1, nn_imp, true_and, iI_ite, not_true_eq_false, not_false_eq_true, true_implies, false_implies, and_true, Int.reduceLT, Int.reduceLE, Int.reduceEq, or_false, false_or, true_or, or_true, false_and, and_false, mp _, s1, a3]
      refine ⟨fun q => N (fun z => (hi.mp z).2.2 (fl0.mp q)), fun q σ4 e4 => ?_⟩
      have hfr : fr P (dd P) (-1) h = true := hi.mpr ⟨by omega, fun z => e (hd6.mp z), fun z => q (by unfold fl; exact fl0.mpr z)⟩
      rw [bm_st h0 hfr] at e4
      have f4 : Fr FM σ σ4 := by rw [e4]; exact Fr_up hf (Or.inr (Or.inr ⟨rfl, Or.inl rfl⟩))
      have mp4 := MP_f hM f4 (fun j => by unfold FM; omega)
      have s4 : σ4.1 53 h.toNat = iI (sg P (dd P) (-1) h) := by rw [e4, up_n (by omega)]; exact s1
      try simp (disch := omega) only [iI_lit, iL_lit, iI_add, iI_sub, iI_mul, iI_neg, iI_lt, iI_le, iI_eq, iI_tn, iI_div, iI_l, iL_add, iL_sub, iL_mul, iL_neg, iL_le, iL_lt, iL_eq, iL_ite, vp_T, b2_ne0, b2_eq1, nn_imp, true_and, iI_ite, not_true_eq_false, not_false_eq_true, true_implies, false_implies, and_true, Int.reduceLT, Int.reduceLE, Int.reduceEq, or_false, false_or, true_or, or_true, false_and, and_false, mp4 _, s4]
      intro σ5 e5
      refine ih (h + 1) σ5 (by omega) (by omega) (by omega) (by rw [e5]; exact Fr_up f4 (Or.inr (Or.inl rfl))) ?_ ?_ ?_
      · rw [e5, e4]; intro k hk; rw [up_n (by omega), up_n (by omega)]; exact a1 k hk
      · rw [e5, e4]
        intro k k0 k1 kf
        by_cases e : k = h
        · subst e; exact up_h rfl
        · rw [up_m (by omega), up_n (by omega)]; exact a2 k k0 (by omega) kf
      · rw [e5, up_n (by omega), e4]; exact up_h rfl
  rw [iI_lit]
  refine L1 _ 0 σ2 rfl (by omega) (by omega) f2 ?_ (fun k k0 k1 => by omega) ?_
  · rw [e2]; intro k hk; rw [up_n (by omega)]; exact c1 k hk
  · rw [e2, bm_z, ← iI_lit]; exact up_h rfl
theorem c_X0_findFiring (hS : Sys S) (h_b : isBl b) (hC : CP 1 P σ) (hW : WF P) (hs : ∀ h, 0 ≤ h ∧ h < 20 → σ.1 (b + 1) h.toNat = iI (rp (sgA P D g h))) (hG : Sg P D g (sg P D g)) (hD : σ.1 b 6 = bm D (P 280)) (hk : ∀ σ', Fr (fun k j => k = b + 2 ∨ (k = b ∧ j = 4)) σ σ' → (∀ h, 0 ≤ h → h < P 280 → σ'.1 (b + 2) h.toNat = iI (if fr P D g h = true then tm P D g h else -1)) → σ'.1 b 4 = bm (fr P D g) (P 280) → Φ [] σ') : S 4 [aR b] σ Φ := by
  refine m_X0_findFiring hS h_b (fun v hv hw => ?_)
  have g0 := WF_0 hW
  have hb : 13 ≤ b ∧ b < 27 := h_b.2.2.2.2.1
  unfold vc_X0_findFiring_0
  intro σ2 e2
  have L1 : ∀ (d : Nat) (h : Int) (σ3 : St), (P 280 - h).toNat = d → 0 ≤ h → h ≤ P 280 → Fr (fun k j => k = b + 2 ∨ (k = b ∧ j = 4)) σ σ3 → (∀ k, 0 ≤ k → k < h → σ3.1 (b + 2) k.toNat = iI (if fr P D g k = true then tm P D g k else -1)) → σ3.1 b 4 = bm (fr P D g) h → v 7 [some (aR b), some (aI (iI h)), none] [] σ3 := by
    intro d
    induction d with
    | zero =>
      intro h σ3 hd h0 h1 hf a2 a3
      refine w_X0_findFiring_7 hS hv hw b h_b _ σ3 ?_
      unfold vc_X0_findFiring_7
      have cp := CP_f hC hf (fun k j h1 h2 => by omega)
      rw [show h = P 280 by omega] at a2 a3 ⊢
      try simp (disch := omega) only [iI_lit, iL_lit, iI_add, iI_sub, iI_mul, iI_neg, iI_lt, iI_le, iI_eq, iI_tn, iI_div, iI_l, iL_add, iL_sub, iL_mul, iL_neg, iL_le, iL_lt, iL_eq, iL_ite, vp_T, b2_ne0, b2_eq1, nn_imp, true_and, iI_ite, not_true_eq_false, not_false_eq_true, true_implies, false_implies, and_true, Int.reduceLT, Int.reduceLE, Int.reduceEq, or_false, false_or, true_or, or_true, false_and, and_false, CP_n cp]
      exact ⟨fun _ => hk σ3 hf a2 a3, fun c => by omega⟩
    | succ d ih =>
      intro h σ3 hd h0 h1 hf a2 a3
      refine w_X0_findFiring_7 hS hv hw b h_b _ σ3 ?_
      unfold vc_X0_findFiring_7
      have cp := CP_f hC hf (fun k j h1 h2 => by omega)
      have hz : h < P 280 := by omega
      have gh := WF_h hW h0 hz
      have sr := sg_r hW hG h0 hz
      have hi : fr P D g h = true ↔ _ := fr_i
      have s1 : σ3.1 (b + 1) h.toNat = iI (rp (sg P D g h)) := by rw [hf.1 _ _ (by omega), hs h (by omega), sgA_n hz]
      have d1 : σ3.1 b 6 = bm D (P 280) := by rw [hf.1 _ _ (by omega)]; exact hD
      have rp1 : -1 ≤ rp (sg P D g h) ∧ rp (sg P D g h) ≤ 10000 ∧ (rp (sg P D g h) = -1 ↔ sg P D g h = 1000000) ∧ (¬ sg P D g h = 1000000 → rp (sg P D g h) = sg P D g h) := by
        unfold rp; split <;> omega
      have N : ¬ (fr P D g h = true) → vc_X0_findFiring_54 S Φ v b (iI h) σ3 := by
        intro q
        unfold vc_X0_findFiring_54 vc_X0_findFiring_55 vc_X0_findFiring_85
        try simp (disch := omega) only [iI_lit, iL_lit, iI_add, iI_sub, iI_mul, iI_neg, iI_lt, iI_le, iI_eq, iI_tn, iI_div, iI_l, iL_add, iL_sub, iL_mul, iL_neg, iL_le, iL_lt, iL_eq, iL_ite, vp_T, b2_ne0, b2_eq1, nn_imp, true_and, iI_ite, not_true_eq_false, not_false_eq_true, true_implies, false_implies, and_true, Int.reduceLT, Int.reduceLE, Int.reduceEq, or_false, false_or, true_or, or_true, false_and, and_false]
        intro σ4 e4
        refine ih (h + 1) σ4 (by omega) (by omega) (by omega) (by rw [e4]; exact Fr_up hf (Or.inl rfl)) (fun k k0 k1 => ?_) ?_
        · rw [e4]
          by_cases e : k = h
          · subst e; rw [up_h rfl, if_neg q]
          · rw [up_m (by omega)]; exact a2 k k0 (by omega)
        · rw [e4, up_n (by omega), a3]; exact bm_sf h0 (Bool.eq_false_iff.mpr q)
      try simp (disch := omega) only [iI_lit, iL_lit, iI_add, iI_sub, iI_mul, iI_neg, iI_lt, iI_le, iI_eq, iI_tn, iI_div, iI_l, iL_add, iL_sub, iL_mul, iL_neg, iL_le, iL_lt, iL_eq, iL_ite, vp_T, b2_ne0, b2_eq1, nn_imp, true_and, iI_ite, not_true_eq_false, not_false_eq_true, true_implies, false_implies, and_true, Int.reduceLT, Int.reduceLE, Int.reduceEq, or_false, false_or, true_or, or_true, false_and, and_false, CP_n cp, CP_m cp, s1, d1, bs_0, bs_1, bs_bm, Bool.and_eq_true, decide_eq_true_eq, Bool.not_eq_false, Bool.not_eq_true]
      refine ⟨fun c => by omega, fun _ => ⟨fun c => N (fun z => by have := (hi.mp z).1; omega), fun c => ⟨fun e => N (fun z => (hi.mp z).2.1 e.2.2.2), fun e => ⟨fun q => N (fun z => (hi.mp z).2.2 q), fun q => ?_⟩⟩⟩⟩
      have hfr : fr P D g h = true := hi.mpr ⟨by omega, fun z => e ⟨by omega, by omega, hz, z⟩, q⟩
      unfold vc_X0_findFiring_55 vc_X0_findFiring_85
      try simp (disch := omega) only [iI_lit, iL_lit, iI_add, iI_sub, iI_mul, iI_neg, iI_lt, iI_le, iI_eq, iI_tn, iI_div, iI_l, iL_add, iL_sub, iL_mul, iL_neg, iL_le, iL_lt, iL_eq, iL_ite, vp_T, b2_ne0, b2_eq1, nn_imp, true_and, iI_ite, not_true_eq_false, not_false_eq_true, true_implies, false_implies, and_true, Int.reduceLT, Int.reduceLE, Int.reduceEq, or_false, false_or, true_or, or_true, false_and, and_false, CP_m cp, s1]
      intro σ4 e4
      have x4 : σ4.1 b 4 = bm (fr P D g) h := by rw [e4, up_n (by omega)]; exact a3
      try simp (disch := omega) only [iI_lit, iL_lit, iI_add, iI_sub, iI_mul, iI_neg, iI_lt, iI_le, iI_eq, iI_tn, iI_div, iI_l, iL_add, iL_sub, iL_mul, iL_neg, iL_le, iL_lt, iL_eq, iL_ite, vp_T, b2_ne0, b2_eq1, nn_imp, true_and, iI_ite, not_true_eq_false, not_false_eq_true, true_implies, false_implies, and_true, Int.reduceLT, Int.reduceLE, Int.reduceEq, or_false, false_or, true_or, or_true, false_and, and_false, x4, bitO_i]
      intro σ5 e5
      rw [bm_st h0 hfr] at e5
      refine ih (h + 1) σ5 (by omega) (by omega) (by omega) (by rw [e5, e4]; exact Fr_up (Fr_up hf (Or.inl rfl)) (Or.inr ⟨rfl, rfl⟩)) (fun k k0 k1 => ?_) (by rw [e5]; exact up_h rfl)
      rw [e5, up_n (by omega), e4]
      by_cases e : k = h
      · subst e; rw [up_h rfl, if_pos hfr, rp1.2.2.2 (by omega)]; rfl
      · rw [up_m (by omega)]; exact a2 k k0 (by omega)
  rw [iI_lit]
  refine L1 _ 0 σ2 rfl (by omega) (by omega) (by rw [e2]; exact Fr_up Fr_rf (Or.inr ⟨rfl, rfl⟩)) (fun k k0 k1 => by omega) ?_
  rw [e2, bm_z, ← iI_lit]; exact up_h rfl
theorem c_X0_findBuried (hS : Sys S) (h_b : isBl b) (hC : CP 1 P σ) (hW : WF P) (hG : Sg P D g (sg P D g)) (ht : ∀ h, 0 ≤ h → h < P 280 → σ.1 (b + 2) h.toNat = iI (if fr P D g h = true then tm P D g h else -1)) (hF : σ.1 b 4 = bm (fr P D g) (P 280)) (hk : ∀ σ', Fr (fun k j => k = b ∧ j = 5) σ σ' → σ'.1 b 5 = bm (bur P D g) (P 280) → Φ [] σ') : S 5 [aR b] σ Φ := by
  refine m_X0_findBuried hS h_b (fun v hv hw => ?_)
  have g0 := WF_0 hW
  have hb : 13 ≤ b ∧ b < 27 := h_b.2.2.2.2.1
  unfold vc_X0_findBuried_0
  intro σ2 e2
  have L1 : ∀ (d : Nat) (h : Int) (σ3 : St), (P 280 - h).toNat = d → 0 ≤ h → h ≤ P 280 → Fr (fun k j => k = b ∧ j = 5) σ σ3 → σ3.1 b 5 = bm (bur P D g) h → v 7 [some (aR b), some (aI (iI h)), none] [] σ3 := by
    intro d
    induction d with
    | zero =>
      intro h σ3 hd h0 h1 hf a3
      refine w_X0_findBuried_7 hS hv hw b h_b _ σ3 ?_
      unfold vc_X0_findBuried_7
      have cp := CP_f hC hf (fun k j h1 h2 => by omega)
      rw [show h = P 280 by omega] at a3 ⊢
      try simp (disch := omega) only [iI_lit, iL_lit, iI_add, iI_sub, iI_mul, iI_neg, iI_lt, iI_le, iI_eq, iI_tn, iI_div, iI_l, iL_add, iL_sub, iL_mul, iL_neg, iL_le, iL_lt, iL_eq, iL_ite, vp_T, b2_ne0, b2_eq1, nn_imp, true_and, iI_ite, not_true_eq_false, not_false_eq_true, true_implies, false_implies, and_true, Int.reduceLT, Int.reduceLE, Int.reduceEq, or_false, false_or, true_or, or_true, false_and, and_false, CP_n cp]
      exact ⟨fun _ => hk σ3 hf a3, fun c => by omega⟩
    | succ d ih =>
      intro h σ3 hd h0 h1 hf a3
      refine w_X0_findBuried_7 hS hv hw b h_b _ σ3 ?_
      unfold vc_X0_findBuried_7
      have cp := CP_f hC hf (fun k j h1 h2 => by omega)
      have hz : h < P 280 := by omega
      have f4 : σ3.1 b 4 = bm (fr P D g) (P 280) := by rw [hf.1 _ _ (by omega)]; exact hF
      have t4 : ∀ k, 0 ≤ k → k < P 280 → σ3.1 (b + 2) k.toNat = iI (if fr P D g k = true then tm P D g k else -1) := fun k k0 k1 => by rw [hf.1 _ _ (by omega)]; exact ht k k0 k1
      have N : bur P D g h = false → v 7 [some (aR b), some (aI (iI (h + 1))), none] [] σ3 := fun q => ih (h + 1) σ3 (by omega) (by omega) (by omega) hf (by rw [a3]; exact bm_sf h0 q)
      have Y : ∀ x, bur P D g h = true → vc_X0_findBuried_61 S Φ v b (iI h) x σ3 := by
        intro x q
        unfold vc_X0_findBuried_61
        try simp (disch := omega) only [iI_lit, iL_lit, iI_add, iI_sub, iI_mul, iI_neg, iI_lt, iI_le, iI_eq, iI_tn, iI_div, iI_l, iL_add, iL_sub, iL_mul, iL_neg, iL_le, iL_lt, iL_eq, iL_ite, vp_T, b2_ne0, b2_eq1, nn_imp, true_and, iI_ite, not_true_eq_false, not_false_eq_true, true_implies, false_implies, and_true, Int.reduceLT, Int.reduceLE, Int.reduceEq, or_false, false_or, true_or, or_true, false_and, and_false, a3, bitO_i]
        intro σ4 e4
        rw [bm_st h0 q] at e4
        exact ih (h + 1) σ4 (by omega) (by omega) (by omega) (by rw [e4]; exact Fr_up hf ⟨rfl, rfl⟩) (by rw [e4]; exact up_h rfl)
      try simp (disch := omega) only [iI_lit, iL_lit, iI_add, iI_sub, iI_mul, iI_neg, iI_lt, iI_le, iI_eq, iI_tn, iI_div, iI_l, iL_add, iL_sub, iL_mul, iL_neg, iL_le, iL_lt, iL_eq, iL_ite, vp_T, b2_ne0, b2_eq1, nn_imp, true_and, iI_ite, not_true_eq_false, not_false_eq_true, true_implies, false_implies, and_true, Int.reduceLT, Int.reduceLE, Int.reduceEq, or_false, false_or, true_or, or_true, false_and, and_false, CP_n cp, f4, bs_0, bs_1, bs_bm, Bool.and_eq_true, decide_eq_true_eq, Bool.not_eq_false, Bool.not_eq_true]
      refine ⟨fun c => by omega, fun _ => ⟨fun c => ?_, fun c => ?_⟩⟩
      · have c2 := c.2.2.2
        have tr := tm_r hW hG h0 hz c2
        have th := t4 h h0 hz
        rw [if_pos c2] at th
        have hq : bur P D g h = !dec (rlv P (fr P D g) (tm P D g) (tm P D g h) h) := by unfold bur; rw [c2, Bool.true_and]
        refine c_X2_reliefOf hS isPat_1 ⟨isBl_t2 h_b, isBl_l2 h_b, isBl_lt2 h_b⟩ cp hW (F := fr P D g) (T := tm P D g) (fun k k0 k1 kf => ⟨by rw [t4 k k0 k1, if_pos kf], by have := tm_r hW hG k0 k1 kf; omega⟩) h0 hz (fun x hx hrl => ⟨_, rfl, ?_⟩)
        have hrl := hrl (tm P D g h) tr.1
        try simp (disch := omega) only [iI_lit, iL_lit, iI_add, iI_sub, iI_mul, iI_neg, iI_lt, iI_le, iI_eq, iI_tn, iI_div, iI_l, iL_add, iL_sub, iL_mul, iL_neg, iL_le, iL_lt, iL_eq, iL_ite, vp_T, b2_ne0, b2_eq1, nn_imp, true_and, iI_ite, not_true_eq_false, not_false_eq_true, true_implies, false_implies, and_true, Int.reduceLT, Int.reduceLE, Int.reduceEq, or_false, false_or, true_or, or_true, false_and, and_false, th]
        refine ⟨fun q => Y _ ?_, fun q => ⟨fun q2 => N ?_, fun q2 => Y _ ?_⟩⟩
        · rw [hq, dec_f.mpr (fun z => by have := hrl.mpr z; omega)]; rfl
        · rw [hq, dec_t.mpr (hrl.mp ⟨by omega, q2⟩)]; rfl
        · rw [hq, dec_f.mpr (fun z => by have := hrl.mpr z; omega)]; rfl
      · refine N ?_
        unfold bur
        cases q : fr P D g h
        · rfl
        · exact absurd ⟨by omega, by omega, hz, q⟩ c
  rw [iI_lit]
  refine L1 _ 0 σ2 rfl (by omega) (by omega) (by rw [e2]; exact Fr_up Fr_rf ⟨rfl, rfl⟩) ?_
  rw [e2, bm_z, ← iI_lit]; exact up_h rfl
theorem c_X0_reckon (hS : Sys S) (h_b : isBl b) (hC : CP 1 P σ) (hW : WF P) (hg : -1 ≤ g ∧ g < 40) (hk : ∀ σ', Fr (FB b) σ σ' → BS b P D g σ' → Φ [] σ') : S 0 [aR b, aI (bm D (P 280)), aI (iI g)] σ Φ := by
  refine m_X0_reckon hS h_b (fun v hv hw => ?_)
  have hb : 13 ≤ b ∧ b < 27 := h_b.2.2.2.2.1
  unfold vc_X0_reckon_0
  intro σ1 e1
  have f1 : Fr (FB b) σ σ1 := by rw [e1]; exact Fr_up Fr_rf (Or.inr (Or.inr ⟨rfl, Or.inr (Or.inr rfl)⟩))
  have d1 : σ1.1 b 6 = bm D (P 280) := by rw [e1]; exact up_h rfl
  have CC : ∀ σ2, Fr (FB b) σ σ2 → CP 1 P σ2 := fun σ2 f => CP_f hC f (fun k j h1 h2 => by unfold FB; omega)
  refine c_X0_findSignals hS h_b (CC σ1 f1) hW d1 hg (fun σ2 f2 s2 hG => ⟨rfl, ?_⟩)
  have f2' := Fr_tr f1 (Fr_mo f2 (fun k j q => by unfold FB; omega))
  refine c_X0_findFiring hS h_b (CC σ2 f2') hW s2 hG (by rw [f2.1 _ _ (by omega)]; exact d1) (fun σ3 f3 t3 b3 => ⟨rfl, ?_⟩)
  have f3' := Fr_tr f2' (Fr_mo f3 (fun k j q => by unfold FB; omega))
  refine c_X0_findBuried hS h_b (CC σ3 f3') hW hG t3 b3 (fun σ4 f4 b4 => ⟨rfl, ?_⟩)
  have f4' := Fr_tr f3' (Fr_mo f4 (fun k j q => by unfold FB; omega))
  refine hk σ4 f4' ⟨fun h hh => ?_, fun h h0 h1 => ?_, ⟨?_, b4, ?_⟩, hG⟩
  · rw [f4.1 _ _ (by omega), f3.1 _ _ (by omega)]; exact s2 h hh
  · rw [f4.1 _ _ (by omega)]; exact t3 h h0 h1
  · rw [f4.1 _ _ (by omega)]; exact b3
  · rw [f4.1 _ _ (by omega), f3.1 _ _ (by omega), f2.1 _ _ (by omega)]; exact d1
end C20b
