section C40c
variable {S : Sp} {σ σ' : St} {Φ : Rs} {A : Ab} {P' : Pl}
theorem CI_mu (h : CI A σ) (hf : Fr FMU σ σ') (hC : CP 1 P' σ') (hc : CLR σ') : CI (P', A.2) σ' := by
  obtain ⟨_, ⟨h5, h6⟩, h7, h8, h9⟩ := h
  exact ⟨⟨hC, CLR_R hc, CLR_D hc, CLR_W hc⟩, ⟨by rw [hf.1 _ _ (by unfold FMU; omega)]; exact h5, fun b => CP_f (h6 b) hf (fun k j x y => by unfold FMU; omega)⟩, by rw [hf.1 _ _ (by unfold FMU; omega)]; exact h7, TX_f h8 hf (fun i => by unfold FMU; omega) (by unfold FMU; omega), LC_f (d := fun _ => False) h9 (Fr_Gr hf) (fun j => by unfold FMU; omega) (fun k x y q => q)⟩
theorem IM_mu (h : IM A σ) (hf : Fr MQf σ σ') (hm : MP 50 P' σ') : IM (P', A.2) σ' := by
  obtain ⟨_, ⟨h5, h6⟩, h7, h8, h9, h10⟩ := h
  exact ⟨hm, ⟨by rw [hf.1 _ _ (by unfold MQf; omega)]; exact h5, fun b => MP_f (h6 b) hf (fun j => by unfold MQf; omega)⟩, by rw [hf.1 _ _ (by unfold MQf; omega)]; exact h7, TX_f h8 hf (fun i => by unfold MQf; omega) (by unfold MQf; omega), LM_f (d := fun _ => False) h9 (Fr_Gr hf) (fun j => by unfold MQf; omega) (fun q => q), WLM_f h10 hf (fun j => by unfold MQf; omega)⟩
theorem FMU_C (h : Fr FMU σ σ') : Gr cC dC σ σ' := Fr_Gr (Fr_mo h (fun k j q => by unfold FMU at q; unfold cC; omega))
theorem mu_end {y : AV} {σ1 σ2 : St} (hA : OKA A) (hJ : JJ A σ) (f1 : Fr FMU σ σ1) (hC : CP 1 P' σ1) (hc : CLR σ1) (f2 : Fr MQf σ1 σ2) (hm : MP 50 P' σ2) (hW : WF P') (hk : CLK P') : Nx y [y] σ2 :=
  ⟨rfl, (P', A.2), ⟨hW, hk, hA.2.2⟩, CI_g (CI_mu hJ.1 f1 hC hc) (MQ_M f2), IM_mu (IM_g hJ.2 (FMU_C f1)) f2 hm⟩
theorem F50_Q (h : Fr F50 σ σ') : Fr MQf σ σ' := Fr_mo h (fun k j q => Or.inl q)
theorem no_end {y : AV} (hA : OKA A) (hJ : JJ A σ) : Nx y [y] σ := q_end hA hJ Fr_rf hJ.1.1.2.1 hJ.1.1.2.2.1 hJ.1.1.2.2.2 Fr_rf (JJ_m1 hJ Fr_rf)
theorem JJ_mu (hJ : JJ A σ) {σ1 : St} (f1 : Fr FMU σ σ1) : MP 50 A.1 σ1 := MP_f hJ.2.1 f1 (fun j => by unfold FMU; omega)
theorem s_hole (hS : Sys S) (hA : OKA A) (hJ : JJ A σ) {r c k ch b i : Int} (r1 : -2147483648 ≤ r ∧ r < 2147483648) (r2 : -2147483648 ≤ c ∧ c < 2147483648) (r3 : -2147483648 ≤ k ∧ k < 2147483648) (r4 : -2147483648 ≤ ch ∧ ch < 2147483648) (r5 : -2147483648 ≤ b ∧ b < 2147483648) (r6 : -2147483648 ≤ i ∧ i < 2147483648) : S 91 [aR 0, aI (iI r), aI (iI c), aI (iI k), aI (iI ch), aI (iI b), aI (iI i)] σ (fun q σ1 => ∃ y : Int32, q = [aI y] ∧ S 161 [aR 49, aI (iI r), aI (iI c), aI (iI k), aI (iI ch), aI (iI b), aI (iI i)] σ1 (Nx (aI y))) := by
  have m0 := JJ_m1 hJ Fr_rf
  refine c_X8_hole hS hJ.1.1.1 hA.1 r1 r2 r3 r4 r5 r6 (fun e => ⟨_, rfl, ?_⟩) (fun e e2 => ⟨_, rfl, ?_⟩) (fun e e2 e3 => ⟨_, rfl, ?_⟩) (fun e e2 e3 σ1 f1 c1 d1 => ⟨_, rfl, ?_⟩)
  · exact c_X9_hole hS m0 hA.1 r1 r2 r3 r4 r5 r6 (fun _ => no_end hA hJ) (fun x => absurd x e) (fun x => absurd x e) (fun x => absurd x e)
  · exact c_X9_hole hS m0 hA.1 r1 r2 r3 r4 r5 r6 (fun x => absurd e x) (fun _ _ => no_end hA hJ) (fun _ x => absurd x e2) (fun _ x => absurd x e2)
  · exact c_X9_hole hS m0 hA.1 r1 r2 r3 r4 r5 r6 (fun x => absurd e x) (fun _ x => absurd e2 x) (fun _ _ _ => no_end hA hJ) (fun _ _ x => absurd x (by omega))
  · have w := addH_W hA.1 e e2 e3
    exact c_X9_hole hS (JJ_mu hJ f1) hA.1 r1 r2 r3 r4 r5 r6 (fun x => absurd e x) (fun _ x => absurd e2 x) (fun _ _ x => absurd x (by omega)) (fun _ _ _ σ2 f2 m2 => mu_end hA hJ f1 c1 d1 (F50_Q f2) m2 (pu_C w (by omega)) (CLK_0 w))
theorem s_becomes (hS : Sys S) (hA : OKA A) (hJ : JJ A σ) {h what x : Int} (r1 : -2147483648 ≤ h ∧ h < 2147483648) (r2 : -2147483648 ≤ what ∧ what < 2147483648) (r3 : -2147483648 ≤ x ∧ x < 2147483648) : S 93 [aR 0, aI (iI h), aI (iI what), aI (iI x)] σ (fun q σ1 => ∃ y : Int32, q = [aI y] ∧ S 164 [aR 49, aI (iI h), aI (iI what), aI (iI x)] σ1 (Nx (aI y))) := by
  have m0 := JJ_m1 hJ Fr_rf
  refine c_X8_becomes hS hJ.1.1.1 hA.1 r1 r2 r3 (fun e => ⟨_, rfl, ?_⟩) (fun e e2 => ⟨_, rfl, ?_⟩) (fun e e2 σ1 f1 c1 d1 => ⟨_, rfl, ?_⟩)
  · exact c_X9_becomes hS m0 hA.1 r1 r2 r3 (fun _ => no_end hA hJ) (fun x => absurd x e) (fun x => absurd x e)
  · exact c_X9_becomes hS m0 hA.1 r1 r2 r3 (fun x => absurd e x) (fun _ _ => no_end hA hJ) (fun _ x => absurd x e2)
  · have w := pu_W hA.1 e.1 e.2 e2
    exact c_X9_becomes hS (JJ_mu hJ f1) hA.1 r1 r2 r3 (fun x => absurd e x) (fun _ x => absurd e2 x) (fun _ _ σ2 f2 m2 => mu_end hA hJ f1 c1 d1 (F50_Q f2) m2 (pu_C w (by omega)) (CLK_0 w))
theorem s_wire (hS : Sys S) (hA : OKA A) (hJ : JJ A σ) {f t d : Int} (r1 : -2147483648 ≤ f ∧ f < 2147483648) (r2 : -2147483648 ≤ t ∧ t < 2147483648) (r3 : -2147483648 ≤ d ∧ d < 2147483648) : S 95 [aR 0, aI (iI f), aI (iI t), aI (iI d)] σ (fun q σ1 => ∃ y : Int32, q = [aI y] ∧ S 166 [aR 49, aI (iI f), aI (iI t), aI (iI d)] σ1 (Nx (aI y))) := by
  have m0 := JJ_m1 hJ Fr_rf
  refine c_X8_wire hS hJ.1.1.1 hA.1 r1 r2 r3 (fun e => ⟨_, rfl, ?_⟩) (fun e e2 => ⟨_, rfl, ?_⟩) (fun e e2 e3 => ⟨_, rfl, ?_⟩) (fun e e2 e3 σ1 f1 c1 d1 => ⟨_, rfl, ?_⟩)
  · exact c_X9_wire hS m0 hA.1 r1 r2 r3 (fun _ => no_end hA hJ) (fun x => absurd x e) (fun x => absurd x e) (fun x => absurd x e)
  · exact c_X9_wire hS m0 hA.1 r1 r2 r3 (fun x => absurd e x) (fun _ _ => no_end hA hJ) (fun _ x => absurd x e2) (fun _ x => absurd x e2)
  · exact c_X9_wire hS m0 hA.1 r1 r2 r3 (fun x => absurd e x) (fun _ x => absurd e2 x) (fun _ _ _ => no_end hA hJ) (fun _ _ x => absurd x (by omega))
  · have w := addW_W hA.1 (f := f) (t := t) (d := d) (by omega) e.2.1 e2 e3
    exact c_X9_wire hS (JJ_mu hJ f1) hA.1 r1 r2 r3 (fun x => absurd e x) (fun _ x => absurd e2 x) (fun _ _ x => absurd x (by omega)) (fun _ _ _ σ2 f2 m2 => mu_end hA hJ f1 c1 d1 (F50_Q f2) m2 (pu_C w (by omega)) (CLK_0 w))
theorem s_cut (hS : Sys S) (hA : OKA A) (hJ : JJ A σ) {w : Int} (r1 : -2147483648 ≤ w ∧ w < 2147483648) : S 97 [aR 0, aI (iI w)] σ (fun q σ1 => ∃ y : Int32, q = [aI y] ∧ S 168 [aR 49, aI (iI w)] σ1 (Nx (aI y))) := by
  have m0 := JJ_m1 hJ Fr_rf
  refine c_X8_cut hS hJ.1.1.1 hA.1 r1 (fun e => ⟨_, rfl, ?_⟩) (fun e σ1 f1 c1 d1 => ⟨_, rfl, ?_⟩)
  · exact c_X9_cut hS m0 hA.1 r1 (fun _ => no_end hA hJ) (fun x => absurd x e)
  · have w := cutP_W hA.1 e.1 e.2
    exact c_X9_cut hS (JJ_mu hJ f1) hA.1 r1 (fun x => absurd e x) (fun _ σ2 f2 m2 => mu_end hA hJ f1 c1 d1 (F50_Q f2) m2 (pu_C w (by omega)) (CLK_0 w))
theorem s_rule (hS : Sys S) (hA : OKA A) (hJ : JJ A σ) {what x : Int} (r1 : -2147483648 ≤ what ∧ what < 2147483648) (r2 : -2147483648 ≤ x ∧ x < 2147483648) : S 98 [aR 0, aI (iI what), aI (iI x)] σ (fun q σ1 => ∃ y : Int32, q = [aI y] ∧ S 169 [aR 49, aI (iI what), aI (iI x)] σ1 (Nx (aI y))) := by
  have m0 := JJ_m1 hJ Fr_rf
  refine c_X8_rule hS hJ.1.1.1 hA.1 r1 r2 (fun e => ⟨_, rfl, ?_⟩) (fun e e2 => ⟨_, rfl, ?_⟩) (fun e e2 σ1 f1 c1 d1 => ⟨_, rfl, ?_⟩)
  · exact c_X9_rule hS m0 hA.1 r1 r2 (fun _ => no_end hA hJ) (fun x => absurd x e) (fun x => absurd x e)
  · exact c_X9_rule hS m0 hA.1 r1 r2 (fun x => absurd e x) (fun _ _ => no_end hA hJ) (fun _ x => absurd x e2)
  · have w := pu_R hA.1 e2
    exact c_X9_rule hS (JJ_mu hJ f1) hA.1 r1 r2 (fun x => absurd e x) (fun _ x => absurd e2 x) (fun _ _ σ2 f2 m2 => mu_end hA hJ f1 c1 d1 (F50_Q f2) m2 (pu_C w (by omega)) (CLK_0 w))
theorem s_drop (hS : Sys S) (hA : OKA A) (hJ : JJ A σ) : S 99 [aR 0] σ (fun q σ1 => ∃ y : Int32, q = [aI y] ∧ S 170 [aR 49] σ1 (Nx (aI y))) := by
  have m0 := JJ_m1 hJ Fr_rf
  refine c_X8_drop hS hJ.1.1.1 hA.1 (fun e => ⟨_, rfl, ?_⟩) (fun e σ1 f1 c1 d1 => ⟨_, rfl, ?_⟩)
  · exact c_X9_drop hS m0 hA.1 (fun _ => no_end hA hJ) (fun x => absurd e (by omega))
  · have w := dropP_W hA.1 e
    exact c_X9_drop hS (JJ_mu hJ f1) hA.1 (fun x => absurd x (by omega)) (fun _ σ2 f2 m2 => mu_end hA hJ f1 c1 d1 (F50_Q f2) m2 (pu_C w (by omega)) (CLK_0 w))
theorem s_adopt (hS : Sys S) (hA : OKA A) (hJ : JJ A σ) : S 113 [aR 0] σ (fun q σ1 => ∃ y : Int32, q = [aI y] ∧ S 206 [aR 49] σ1 (Nx (aI y))) := by
  have w := (adP_W hA.1).1
  refine c_X8_adopt hS hJ.1.1.1 hA.1 hJ.1.1.2.1 hJ.1.1.2.2.1 (fun σ1 f1 c1 d1 => ⟨_, rfl, ?_⟩)
  exact c_X9_adopt hS (JJ_mu hJ f1) hA.1 (fun σ2 f2 m2 => mu_end hA hJ f1 c1 d1 (Fr_mo f2 (fun k j q => by unfold FAD FPL at q; unfold MQf; omega)) m2 (pu_C w (by omega)) (CLK_0 w))
theorem s_count (hS : Sys S) (hA : OKA A) (hJ : JJ A σ) {w : Int} (r1 : -2147483648 ≤ w ∧ w < 2147483648) : S 126 [aR 0, aI (iI w)] σ (fun q σ1 => ∃ y : Int32, q = [aI y] ∧ S 234 [aR 49, aI (iI w)] σ1 (Nx (aI y))) := by
  refine c_X8_count hS hJ.1.1.1 r1 ⟨_, rfl, c_X9_count hS (JJ_m1 hJ Fr_rf) r1 ?_⟩
  rw [hJ.1.2.2.2.1.1, hJ.1.2.2.1, hJ.2.2.2.2.1.1, hJ.2.2.2.1]
  exact no_end hA hJ
end C40c
