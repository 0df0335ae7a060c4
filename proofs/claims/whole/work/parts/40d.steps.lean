section C40d
variable {S : Sp} {σ σ' : St} {Φ : Rs} {A : Ab} {P' : Pl}
theorem WRd_st {P : Pl} (hW : WF P) (h : WRd P σ) : WRd (stP P) σ := by
  unfold stP; split
  · exact k_WRd hW h
  · exact h
theorem s_step (hS : Sys S) (hA : OKA A) (hJ : JJ A σ) : S 118 [aR 0] σ (fun q σ1 => ∃ y : Int32, q = [aI y] ∧ S 224 [aR 49] σ1 (Nx (aI y))) := by
  have w := stP_W hA.1 hA.2.1
  obtain ⟨⟨hC, hR, hD, hWr⟩, ⟨h5, h6⟩, h7, h8, h9⟩ := hJ.1
  refine c_X8_step hS hC hA.1 hR hD (fun σ1 f1 c1 k1 d1 => ⟨_, rfl, ?_⟩)
  have F1 : Gr cC dC σ σ1 := Fr_Gr (Fr_mo f1 (fun k j q => by unfold FSP at q; unfold cC; omega))
  refine c_X9_step hS (MP_f hJ.2.1 f1 (fun j => by unfold FSP; omega)) hA.1 (fun σ2 f2 m2 => ⟨rfl, (stP A.1, A.2), ⟨w.1, w.2, hA.2.2⟩, CI_g ?_ (Fr_Gr (Fr_mo f2 (fun k j q => by unfold FL FM FSH at q; unfold cM; omega))), IM_mu (IM_g hJ.2 F1) (Fr_mo f2 (fun k j q => by unfold FL FM FSH at q; unfold MQf; omega)) m2⟩)
  exact ⟨⟨c1, k1, d1, WRd_st hA.1 (WRd_f hWr f1 (fun k j q => by unfold FSP; omega))⟩, ⟨by rw [f1.1 _ _ (by unfold FSP; omega)]; exact h5, fun b => CP_f (h6 b) f1 (fun k j x y => by unfold FSP; omega)⟩, by rw [f1.1 _ _ (by unfold FSP; omega)]; exact h7, TX_f h8 f1 (fun i => by unfold FSP; omega) (by unfold FSP; omega), LC_f (d := fun _ => False) h9 (Fr_Gr f1) (fun j => by unfold FSP; omega) (fun k x y q => q)⟩
theorem s_image (hS : Sys S) (hA : OKA A) (hJ : JJ A σ) : S 127 [aR 0] σ (fun q σ1 => ∃ y : Int32, q = [aI y] ∧ S 235 [aR 49] σ1 (Nx (aI y))) := by
  obtain ⟨⟨hC, hR, hD, hWr⟩, ⟨h5, h6⟩, h7, h8, h9⟩ := hJ.1
  refine c_X8_image hS hC hA.1 (fun σ1 f1 c1 e1 => ⟨_, rfl, ?_⟩)
  have F1 : Gr cC dC σ σ1 := Fr_Gr (Fr_mo f1 (fun k j q => by unfold cC; omega))
  have I1 := IM_g hJ.2 F1
  refine c_X9_image hS I1.1 (fun σ2 f2 m2 e2 => ⟨rfl, (A.1, A.1, true, A.2.2.2), ⟨hA.1, hA.2.1, fun _ => ⟨hA.1, hA.2.1⟩, hA.2.2.2⟩, CI_g ?_ (Fr_Gr (Fr_mo f2 (fun k j q => by unfold cM; omega))), ?_⟩)
  · exact ⟨⟨CP_f hC f1 (fun k j x y => by omega), RKd_f hR f1 (fun k j x y => by omega) (by omega), PDd_f hD f1 (fun k j x y => by omega) (by omega), WRd_f hWr f1 (fun k j q => by omega)⟩, ⟨e1, fun _ => c1⟩, by rw [f1.1 _ _ (by omega)]; exact h7, TX_f h8 f1 (fun i => by omega) (by omega), LC_f (d := fun _ => False) h9 (Fr_Gr f1) (fun j => by omega) (fun k x y q => q)⟩
  · obtain ⟨g1, ⟨g2, g3⟩, g4, g5, g6, g7⟩ := I1
    exact ⟨MP_f g1 f2 (fun j => by omega), ⟨e2, fun _ => m2⟩, by rw [f2.1 _ _ (by omega)]; exact g4, TX_f g5 f2 (fun i => by omega) (by omega), LM_f (d := fun _ => False) g6 (Fr_Gr f2) (fun j => by omega) (fun q => q), WLM_f g7 f2 (fun j => by omega)⟩
theorem s_undo (hS : Sys S) (hA : OKA A) (hJ : JJ A σ) : S 128 [aR 0] σ (fun q σ1 => ∃ y : Int32, q = [aI y] ∧ S 236 [aR 49] σ1 (Nx (aI y))) := by
  have hi := hJ.1.2.1
  have hm := hJ.2.2.1
  refine c_X8_undo hS (b := A.2.2.1) (K := A.2.1) hi.1 (fun b => ⟨hi.2 b, (hA.2.2.1 b).1⟩) (fun b => ⟨_, rfl, ?_⟩) (fun b σ1 f1 c1 d1 => ⟨_, rfl, ?_⟩)
  · exact c_X9_undo hS (b := A.2.2.1) (K := A.2.1) hm.1 hm.2 (fun _ => no_end hA hJ) (fun x => absurd (b.symm.trans x) (by decide))
  · have I1 := (IM_g hJ.2 (FMU_C f1)).2.1
    exact c_X9_undo hS (b := A.2.2.1) (K := A.2.1) I1.1 I1.2 (fun x => absurd (x.symm.trans b) (by decide)) (fun _ σ2 f2 m2 => mu_end hA hJ f1 c1 d1 (F50_Q f2) m2 (hA.2.2.1 b).1 (hA.2.2.1 b).2)
theorem s_feed (hS : Sys S) (hA : OKA A) (hJ : JJ A σ) {b : Int} (r1 : -2147483648 ≤ b ∧ b < 2147483648) : S 114 [aR 0, aI (iI b)] σ (fun q σ1 => ∃ y : Int32, q = [aI y] ∧ S 207 [aR 49, aI (iI b)] σ1 (Nx (aI y))) := by
  obtain ⟨⟨hC, hR, hD, hWr⟩, ⟨h5, h6⟩, h7, h8, h9⟩ := hJ.1
  refine c_X8_feed hS h8 hA.2.2.2.1 r1 (fun σ1 f1 t1 => ⟨_, rfl, ?_⟩)
  have F1 : Gr cC dC σ σ1 := Fr_Gr (Fr_mo f1 (fun k j q => by unfold cC; omega))
  have I1 := IM_g hJ.2 F1
  refine c_X9_feed hS I1.2.2.2.1 hA.2.2.2.1 r1 (fun σ2 f2 t2 => ⟨rfl, (A.1, A.2.1, A.2.2.1, A.2.2.2.1, nFeed b A.2.2.2.2.1, A.2.2.2.2.2), ⟨hA.1, hA.2.1, hA.2.2.1, nFeed_W hA.2.2.2.1, hA.2.2.2.2⟩, CI_g ?_ (Fr_Gr (Fr_mo f2 (fun k j q => by unfold cM; omega))), ?_⟩)
  · exact ⟨⟨CP_f hC f1 (fun k j x y => by omega), RKd_f hR f1 (fun k j x y => by omega) (by omega), PDd_f hD f1 (fun k j x y => by omega) (by omega), WRd_f hWr f1 (fun k j q => by omega)⟩, ⟨by rw [f1.1 _ _ (by omega)]; exact h5, fun b => CP_f (h6 b) f1 (fun k j x y => by omega)⟩, by rw [f1.1 _ _ (by omega)]; exact h7, t1, LC_f (d := fun _ => False) h9 (Fr_Gr f1) (fun j => by omega) (fun k x y q => q)⟩
  · obtain ⟨g1, ⟨g2, g3⟩, g4, g5, g6, g7⟩ := I1
    exact ⟨MP_f g1 f2 (fun j => by omega), ⟨by rw [f2.1 _ _ (by omega)]; exact g2, fun b => MP_f (g3 b) f2 (fun j => by omega)⟩, by rw [f2.1 _ _ (by omega)]; exact g4, t2, LM_f (d := fun _ => False) g6 (Fr_Gr f2) (fun j => by omega) (fun q => q), WLM_f g7 f2 (fun j => by omega)⟩
/-- the class after its lists have changed -/
theorem CI_L {L' : Ls} {c : Nat → Nat → Prop} (h : CI A σ) (hf : Gr c DC σ σ') (hc : ∀ k j, c k j → (13 ≤ k ∧ k ≤ 19) ∨ (k = 0 ∧ j = 11) ∨ k = 47 ∨ k = 48) (hR : RKd A.1 σ') (hL : LC L' σ') : CI (A.1, A.2.1, A.2.2.1, A.2.2.2.1, A.2.2.2.2.1, L') σ' := by
  obtain ⟨⟨hC, _, hD, hWr⟩, ⟨h5, h6⟩, h7, h8, h9⟩ := h
  have f : Fr c σ (σ'.1, σ.2) := Gr_Fr hf
  have n : ∀ k j, ¬ ((13 ≤ k ∧ k ≤ 19) ∨ (k = 0 ∧ j = 11) ∨ k = 47 ∨ k = 48) → ¬ c k j := fun k j a b => a (hc k j b)
  exact ⟨⟨CP_f (σ' := (σ'.1, σ.2)) hC f (fun k j x y => n k j (by omega)), hR, PDd_f (σ' := (σ'.1, σ.2)) hD f (fun k j x y => n k j (by omega)) (n _ _ (by omega)), WRd_f (σ' := (σ'.1, σ.2)) hWr f (fun k j q => n k j (by omega))⟩, ⟨by rw [hf.1 _ _ (n _ _ (by omega))]; exact h5, fun b => CP_f (σ' := (σ'.1, σ.2)) (h6 b) f (fun k j x y => n k j (by omega))⟩, by rw [hf.1 _ _ (n _ _ (by omega))]; exact h7, TX_f (σ' := (σ'.1, σ.2)) h8 f (fun i => n _ _ (by omega)) (n _ _ (by omega)), hL⟩
theorem IM_L {L' : Ls} {c : Nat → Nat → Prop} (h : IM A σ) (hf : Gr c DM σ σ') (hc : ∀ k j, c k j → (53 ≤ k ∧ k ≤ 57) ∨ (k = 49 ∧ (j = 7 ∨ j = 8 ∨ j = 12)) ∨ k = 65 ∨ k = 66) (hL : LM L' σ') : IM (A.1, A.2.1, A.2.2.1, A.2.2.2.1, A.2.2.2.2.1, L') σ' := by
  obtain ⟨g1, ⟨g2, g3⟩, g4, g5, g6, g7⟩ := h
  have f : Fr c σ (σ'.1, σ.2) := Gr_Fr hf
  have n : ∀ k j, ¬ ((53 ≤ k ∧ k ≤ 57) ∨ (k = 49 ∧ (j = 7 ∨ j = 8 ∨ j = 12)) ∨ k = 65 ∨ k = 66) → ¬ c k j := fun k j a b => a (hc k j b)
  exact ⟨MP_f (σ' := (σ'.1, σ.2)) g1 f (fun j => n _ _ (by omega)), ⟨by rw [hf.1 _ _ (n _ _ (by omega))]; exact g2, fun b => MP_f (σ' := (σ'.1, σ.2)) (g3 b) f (fun j => n _ _ (by omega))⟩, by rw [hf.1 _ _ (n _ _ (by omega))]; exact g4, TX_f (σ' := (σ'.1, σ.2)) g5 f (fun i => n _ _ (by omega)) (n _ _ (by omega)), hL, WLM_f (σ' := (σ'.1, σ.2)) g7 f (fun j => ⟨n _ _ (by omega), n _ _ (by omega)⟩)⟩
theorem L_end {L' : Ls} {y : AV} {c d : Nat → Nat → Prop} {σ1 σ2 : St} (hA : OKA A) (hJ : JJ A σ) (f1 : Gr c DC σ σ1) (hc : ∀ k j, c k j → (13 ≤ k ∧ k ≤ 19) ∨ (k = 0 ∧ j = 11) ∨ k = 47 ∨ k = 48) (hR : RKd A.1 σ1) (h1 : LC L' σ1) (f2 : Gr d DM σ1 σ2) (hd : ∀ k j, d k j → (53 ≤ k ∧ k ≤ 57) ∨ (k = 49 ∧ (j = 7 ∨ j = 8 ∨ j = 12)) ∨ k = 65 ∨ k = 66) (h2 : LM L' σ2) (ho : okL L') : Nx y [y] σ2 :=
  ⟨rfl, (A.1, A.2.1, A.2.2.1, A.2.2.2.1, A.2.2.2.2.1, L'), ⟨hA.1, hA.2.1, hA.2.2.1, hA.2.2.2.1, ho⟩, CI_g (CI_L hJ.1 f1 hc hR h1) (Gr_mo f2 (fun k j q => by have := hd k j q; unfold cM; omega) (fun k q => by unfold DM at q; unfold dM; omega)), IM_L (IM_g hJ.2 (Gr_mo f1 (fun k j q => by have := hc k j q; unfold cC; omega) (fun k q => by unfold DC at q; unfold dC; omega))) f2 hd h2⟩
theorem JJ_L {c : Nat → Nat → Prop} {σ1 : St} (hJ : JJ A σ) (f1 : Gr c DC σ σ1) (hc : ∀ k j, c k j → (13 ≤ k ∧ k ≤ 19) ∨ (k = 0 ∧ j = 11) ∨ k = 47 ∨ k = 48) : IM A σ1 := IM_g hJ.2 (Gr_mo f1 (fun k j q => by have := hc k j q; unfold cC; omega) (fun k q => by unfold DC at q; unfold dC; omega))
theorem R_L {c : Nat → Nat → Prop} {σ1 : St} (hJ : JJ A σ) (f1 : Gr c DC σ σ1) (hc : ∀ k j, c k j → k = 47) : RKd A.1 σ1 := RKd_f (σ' := (σ1.1, σ.2)) hJ.1.1.2.1 (Gr_Fr f1) (fun k j x y q => by have := hc k j q; omega) (fun q => by have := hc _ _ q; omega)
theorem s_list (hS : Sys S) (hA : OKA A) (hJ : JJ A σ) {l n : Int} (r1 : -2147483648 ≤ l ∧ l < 2147483648) (r2 : -2147483648 ≤ n ∧ n < 2147483648) : S 120 [aR 0, aI (iI l), aI (iI n)] σ (fun q σ1 => ∃ y : Int32, q = [aI y] ∧ S 227 [aR 49, aI (iI l), aI (iI n)] σ1 (Nx (aI y))) :=
  c_X8_list hS hJ.1.2.2.2.2 r1 r2 (fun σ1 f1 h1 => ⟨_, rfl, c_X9_list hS (JJ_L hJ f1 (fun k j q => by omega)).2.2.2.2.1 r1 r2 (fun σ2 f2 h2 => L_end hA hJ f1 (fun k j q => by omega) (R_L hJ f1 (fun k j q => q)) h1 f2 (fun k j q => by omega) h2 (nList_ok hA.2.2.2.2))⟩)
theorem s_put (hS : Sys S) (hA : OKA A) (hJ : JJ A σ) {l i : Int} {x : Int64} (r1 : -2147483648 ≤ l ∧ l < 2147483648) (r2 : -2147483648 ≤ i ∧ i < 2147483648) : S 121 [aR 0, aI (iI l), aI (iI i), aL x] σ (fun q σ1 => ∃ y : Int32, q = [aI y] ∧ S 228 [aR 49, aI (iI l), aI (iI i), aL x] σ1 (Nx (aI y))) :=
  c_X8_put hS hJ.1.2.2.2.2 hA.2.2.2.2 r1 r2 (fun σ1 f1 h1 => ⟨_, rfl, c_X9_put hS (JJ_L hJ f1 (fun k j q => q.elim)).2.2.2.2.1 hA.2.2.2.2 r1 r2 (fun σ2 f2 h2 => L_end hA hJ f1 (fun k j q => q.elim) (R_L hJ f1 (fun k j q => q.elim)) h1 f2 (fun k j q => q.elim) h2 (nPut_ok hA.2.2.2.2))⟩)
theorem s_get (hS : Sys S) (hA : OKA A) (hJ : JJ A σ) {l i : Int} (r1 : -2147483648 ≤ l ∧ l < 2147483648) (r2 : -2147483648 ≤ i ∧ i < 2147483648) : S 122 [aR 0, aI (iI l), aI (iI i)] σ (fun q σ1 => ∃ y : Int64, q = [aL y] ∧ S 229 [aR 49, aI (iI l), aI (iI i)] σ1 (Nx (aL y))) :=
  c_X8_get hS hJ.1.2.2.2.2 hA.2.2.2.2 r1 r2 ⟨_, rfl, c_X9_get hS hJ.2.2.2.2.2.1 hA.2.2.2.2 r1 r2 (no_end hA hJ)⟩
theorem s_fill (hS : Sys S) (hA : OKA A) (hJ : JJ A σ) {l w : Int} (r1 : -2147483648 ≤ l ∧ l < 2147483648) (r2 : -2147483648 ≤ w ∧ w < 2147483648) : S 123 [aR 0, aI (iI l), aI (iI w)] σ (fun q σ1 => ∃ y : Int32, q = [aI y] ∧ S 231 [aR 49, aI (iI l), aI (iI w)] σ1 (Nx (aI y))) :=
  c_X8_fill hS hJ.1.1.1 hA.1 hJ.1.1.2.1 hJ.1.2.2.2.2 hA.2.2.2.2 r1 r2 (fun σ1 f1 k1 h1 => ⟨_, rfl, c_X9_fill hS (JJ_L hJ f1 (fun k j q => by unfold FFI at q; omega)).1 hA.1 (JJ_L hJ f1 (fun k j q => by unfold FFI at q; omega)).2.2.2.2.1 hA.2.2.2.2 r1 r2 (fun σ2 f2 h2 => L_end hA hJ f1 (fun k j q => by unfold FFI at q; omega) k1 h1 f2 (fun k j q => by unfold FLY FL FM FSH at q; omega) h2 (nFill_ok hA.2.2.2.2))⟩)
theorem s_move (hS : Sys S) (hA : OKA A) (hJ : JJ A σ) {l i o j n : Int} (r1 : -2147483648 ≤ l ∧ l < 2147483648) (r2 : -2147483648 ≤ i ∧ i < 2147483648) (r3 : -2147483648 ≤ o ∧ o < 2147483648) (r4 : -2147483648 ≤ j ∧ j < 2147483648) (r5 : -2147483648 ≤ n ∧ n < 2147483648) : S 125 [aR 0, aI (iI l), aI (iI i), aI (iI o), aI (iI j), aI (iI n)] σ (fun q σ1 => ∃ y : Int32, q = [aI y] ∧ S 233 [aR 49, aI (iI l), aI (iI i), aI (iI o), aI (iI j), aI (iI n)] σ1 (Nx (aI y))) :=
  c_X8_move hS hJ.1.2.2.2.2 hA.2.2.2.2 r1 r2 r3 r4 r5 (fun σ1 f1 h1 => ⟨_, rfl, c_X9_move hS (JJ_L hJ f1 (fun k j q => q.elim)).2.2.2.2.1 hA.2.2.2.2 r1 r2 r3 r4 r5 (fun σ2 f2 h2 => L_end hA hJ f1 (fun k j q => q.elim) (R_L hJ f1 (fun k j q => q.elim)) h1 f2 (fun k j q => q.elim) h2 (nMove_ok hA.2.2.2.2))⟩)
theorem s_read (hS : Sys S) (hT0 : SysT S) (hA : OKA A) (hJ : JJ A σ) : S 115 [aR 0] σ (fun q σ1 => ∃ y : Int32, q = [aI y] ∧ S 218 [aR 49] σ1 (Nx (aI y))) := by
  obtain ⟨⟨hC, hR, hD, hWr⟩, ⟨h5, h6⟩, h7, h8, h9⟩ := hJ.1
  have WE : WT ([] : List Int) := ⟨Nat.zero_le _, fun i hi => absurd hi (Nat.not_lt_zero i)⟩
  have pv := prsT_v hA.2.2.2.1 13 0 (Int.le_refl 0) (by omega)
  have er := exS_r _ A.1 hA.1 pv.1
  refine c_X8_read hS hT0 h8 hA.2.2.2.1 hC hA.1 (fun ok σ1 f1 t1 => ⟨_, rfl, ?_⟩) (fun ok σ1 f1 c1 d1 t1 x1 => ⟨_, rfl, ?_⟩)
  · have F1 : Gr cC dC σ σ1 := Fr_Gr (Fr_mo f1 (fun k j q => by unfold FR1 at q; unfold cC; omega))
    obtain ⟨g1, ⟨g2, g3⟩, g4, g5, g6, g7⟩ := IM_g hJ.2 F1
    refine c_X9_read hS g5 hA.2.2.2.1 g7 g1 hA.1 (fun _ σ2 f2 m2 t2 => ⟨rfl, (A.1, A.2.1, A.2.2.1, A.2.2.2.1, [], A.2.2.2.2.2), ⟨hA.1, hA.2.1, hA.2.2.1, WE, hA.2.2.2.2⟩, CI_g ?_ (Fr_Gr (Fr_mo f2 (fun k j q => by unfold FRM FTS FNA FNX at q; unfold cM; omega))), ?_⟩) (fun x => absurd x ok)
    · exact ⟨⟨CP_f hC f1 (fun k j x y => by unfold FR1; omega), RKd_f hR f1 (fun k j x y => by unfold FR1; omega) (by unfold FR1; omega), PDd_f hD f1 (fun k j x y => by unfold FR1; omega) (by unfold FR1; omega), WRd_f hWr f1 (fun k j q => by unfold FR1; omega)⟩, ⟨by rw [f1.1 _ _ (by unfold FR1; omega)]; exact h5, fun b => CP_f (h6 b) f1 (fun k j x y => by unfold FR1; omega)⟩, by rw [f1.1 _ _ (by unfold FR1; omega)]; exact h7, t1, LC_f (d := fun _ => False) h9 (Fr_Gr f1) (fun j => by unfold FR1; omega) (fun k x y q => q)⟩
    · exact ⟨m2, ⟨by rw [f2.1 _ _ (by unfold FRM FTS FNA FNX; omega)]; exact g2, fun b => MP_f (g3 b) f2 (fun j => by unfold FRM FTS FNA FNX; omega)⟩, by rw [f2.1 _ _ (by unfold FRM FTS FNA FNX; omega)]; exact g4, t2, LM_f (d := fun _ => False) g6 (Fr_Gr f2) (fun j => by unfold FRM FTS FNA FNX; omega) (fun q => q), WLM_f g7 f2 (fun j => by unfold FRM FTS FNA FNX; omega)⟩
  · have F1 : Gr cC dC σ σ1 := Fr_Gr (Fr_mo f1 (fun k j q => by unfold FR2 FR1 FMU at q; unfold cC; omega))
    obtain ⟨g1, ⟨g2, g3⟩, g4, g5, g6, g7⟩ := IM_g hJ.2 F1
    refine c_X9_read hS g5 hA.2.2.2.1 g7 g1 hA.1 (fun x => absurd ok x) (fun _ σ2 f2 m2 t2 x2 => ⟨rfl, (pu (exS (prsT A.2.2.2.2.1 13 0).1 A.1).1 285 0, A.2.1, A.2.2.1, A.2.2.2.1 + iI 1, [], A.2.2.2.2.2), ⟨pu_C er.1 (by omega), CLK_0 er.1, hA.2.2.1, WE, hA.2.2.2.2⟩, CI_g ?_ (Fr_Gr (Fr_mo f2 (fun k j q => by unfold FRN FRM FTS FNA FNX at q; unfold cM; omega))), ?_⟩)
    · exact ⟨⟨c1, CLR_R d1, CLR_D d1, CLR_W d1⟩, ⟨by rw [f1.1 _ _ (by unfold FR2 FR1 FMU; omega)]; exact h5, fun b => CP_f (h6 b) f1 (fun k j x y => by unfold FR2 FR1 FMU; omega)⟩, by rw [x1, h7], t1, LC_f (d := fun _ => False) h9 (Fr_Gr f1) (fun j => by unfold FR2 FR1 FMU; omega) (fun k x y q => q)⟩
    · exact ⟨m2, ⟨by rw [f2.1 _ _ (by unfold FRN FRM FTS FNA FNX; omega)]; exact g2, fun b => MP_f (g3 b) f2 (fun j => by unfold FRN FRM FTS FNA FNX; omega)⟩, by rw [x2, g4], t2, LM_f (d := fun _ => False) g6 (Fr_Gr f2) (fun j => by unfold FRN FRM FTS FNA FNX; omega) (fun q => q), WLM_f g7 f2 (fun j => by unfold FRN FRM FTS FNA FNX; omega)⟩
end C40d
