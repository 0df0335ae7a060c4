/-! both objects over one abstract state: pattern, image, is there one, texts, tape, lists -/
abbrev Ab : Type := Pl × Pl × Bool × Int32 × List Int × Ls
def OKA (A : Ab) : Prop := WF A.1 ∧ CLK A.1 ∧ (A.2.2.1 = true → WF A.2.1 ∧ CLK A.2.1) ∧ WT A.2.2.2.2.1 ∧ okL A.2.2.2.2.2
def CI (A : Ab) (σ : St) : Prop := (CP 1 A.1 σ ∧ RKd A.1 σ ∧ PDd A.1 σ ∧ WRd A.1 σ) ∧ (σ.1 0 10 = iI (if A.2.2.1 = true then 1 else 0) ∧ (A.2.2.1 = true → CP 5 A.2.1 σ)) ∧ σ.1 0 14 = A.2.2.2.1 ∧ TRc A.2.2.2.2.1 σ ∧ LC A.2.2.2.2.2 σ
def IM (A : Ab) (σ : St) : Prop := MP 50 A.1 σ ∧ (σ.1 49 3 = iI (if A.2.2.1 = true then 1 else 0) ∧ (A.2.2.1 = true → MP 51 A.2.1 σ)) ∧ σ.1 49 4 = A.2.2.2.1 ∧ TRm A.2.2.2.2.1 σ ∧ LM A.2.2.2.2.2 σ ∧ WLM σ
def JJ (A : Ab) (σ : St) : Prop := CI A σ ∧ IM A σ
/-- places of the class, places of the reference -/
def cC : Nat → Nat → Prop := fun k _ => k < 49
def cM : Nat → Nat → Prop := fun k _ => 49 ≤ k
def dC : Nat → Prop := fun k => k < 49
def dM : Nat → Prop := fun k => 49 ≤ k
/-- what a question to the class may touch -/
def CQ : Nat → Nat → Prop := fun k j => (13 ≤ k ∧ k ≤ 35) ∨ k = 48 ∨ (k = 0 ∧ (j = 11 ∨ j = 12 ∨ j = 13))
/-- what a question to the reference may touch -/
def MQf : Nat → Nat → Prop := fun k j => k = 50 ∨ (52 ≤ k ∧ k ≤ 58) ∨ k = 62 ∨ k = 63 ∨ k = 66 ∨ (k = 49 ∧ ¬ j = 3 ∧ ¬ j = 4 ∧ ¬ j = 20)
section C40
variable {S : Sp} {σ σ' : St} {Φ : Rs} {A : Ab}
theorem CI_g (h : CI A σ) (hf : Gr cM dM σ σ') : CI A σ' := by
  obtain ⟨⟨h1, h2, h3, h4⟩, ⟨h5, h6⟩, h7, h8, h9⟩ := h
  have f : Fr cM σ (σ'.1, σ.2) := Gr_Fr hf
  refine ⟨⟨CP_f (σ' := (σ'.1, σ.2)) h1 f (fun k j x y => by unfold cM; omega), RKd_f (σ' := (σ'.1, σ.2)) h2 f (fun k j x y => by unfold cM; omega) (by unfold cM; omega), PDd_f (σ' := (σ'.1, σ.2)) h3 f (fun k j x y => by unfold cM; omega) (by unfold cM; omega), WRd_f (σ' := (σ'.1, σ.2)) h4 f (fun k j q => by unfold cM; omega)⟩, ⟨by rw [hf.1 _ _ (by unfold cM; omega)]; exact h5, fun b => CP_f (σ' := (σ'.1, σ.2)) (h6 b) f (fun k j x y => by unfold cM; omega)⟩, by rw [hf.1 _ _ (by unfold cM; omega)]; exact h7, TX_f (σ' := (σ'.1, σ.2)) h8 f (fun i => by unfold cM; omega) (by unfold cM; omega), LC_f h9 hf (fun j => by unfold cM; omega) (fun k x y => by unfold dM; omega)⟩
theorem IM_g (h : IM A σ) (hf : Gr cC dC σ σ') : IM A σ' := by
  obtain ⟨h1, ⟨h5, h6⟩, h7, h8, h9, h10⟩ := h
  have f : Fr cC σ (σ'.1, σ.2) := Gr_Fr hf
  exact ⟨MP_f (σ' := (σ'.1, σ.2)) h1 f (fun j => by unfold cC; omega), ⟨by rw [hf.1 _ _ (by unfold cC; omega)]; exact h5, fun b => MP_f (σ' := (σ'.1, σ.2)) (h6 b) f (fun j => by unfold cC; omega)⟩, by rw [hf.1 _ _ (by unfold cC; omega)]; exact h7, TX_f (σ' := (σ'.1, σ.2)) h8 f (fun i => by unfold cC; omega) (by unfold cC; omega), LM_f h9 hf (fun j => by unfold cC; omega) (by unfold dC; omega), WLM_f (σ' := (σ'.1, σ.2)) h10 f (fun j => by unfold cC; omega)⟩
/-- a question leaves the class as it is -/
theorem CI_q (h : CI A σ) (hf : Fr CQ σ σ') (h2 : RKd A.1 σ') (h3 : PDd A.1 σ') (h4 : WRd A.1 σ') : CI A σ' := by
  obtain ⟨⟨h1, _, _, _⟩, ⟨h5, h6⟩, h7, h8, h9⟩ := h
  exact ⟨⟨CP_f h1 hf (fun k j x y => by unfold CQ; omega), h2, h3, h4⟩, ⟨by rw [hf.1 _ _ (by unfold CQ; omega)]; exact h5, fun b => CP_f (h6 b) hf (fun k j x y => by unfold CQ; omega)⟩, by rw [hf.1 _ _ (by unfold CQ; omega)]; exact h7, TX_f h8 hf (fun i => by unfold CQ; omega) (by unfold CQ; omega), LC_f (d := fun _ => False) h9 (Fr_Gr hf) (fun j => by unfold CQ; omega) (fun k x y q => q)⟩
/-- a question leaves the reference as it is -/
theorem IM_q (h : IM A σ) (hf : Fr MQf σ σ') (h1 : MP 50 A.1 σ') : IM A σ' := by
  obtain ⟨_, ⟨h5, h6⟩, h7, h8, h9, h10⟩ := h
  exact ⟨h1, ⟨by rw [hf.1 _ _ (by unfold MQf; omega)]; exact h5, fun b => MP_f (h6 b) hf (fun j => by unfold MQf; omega)⟩, by rw [hf.1 _ _ (by unfold MQf; omega)]; exact h7, TX_f h8 hf (fun i => by unfold MQf; omega) (by unfold MQf; omega), LM_f (d := fun _ => False) h9 (Fr_Gr hf) (fun j => by unfold MQf; omega) (fun q => q), WLM_f h10 hf (fun j => by unfold MQf; omega)⟩
theorem CQ_C (h : Fr CQ σ σ') : Gr cC dC σ σ' := Fr_Gr (Fr_mo h (fun k j q => by unfold CQ at q; unfold cC; omega))
theorem MQ_M (h : Fr MQf σ σ') : Gr cM dM σ σ' := Fr_Gr (Fr_mo h (fun k j q => by unfold MQf at q; unfold cM; omega))
/-- the next call's ground -/
def Nx (y : AV) (r : List AV) (σ : St) : Prop := r = [y] ∧ ∃ A, OKA A ∧ JJ A σ
theorem q_end {y : AV} {σ1 σ2 : St} (hA : OKA A) (hJ : JJ A σ) (f1 : Fr CQ σ σ1) (h2 : RKd A.1 σ1) (h3 : PDd A.1 σ1) (h4 : WRd A.1 σ1) (f2 : Fr MQf σ1 σ2) (hm : MP 50 A.1 σ2) : Nx y [y] σ2 :=
  ⟨rfl, A, hA, CI_g (CI_q hJ.1 f1 h2 h3 h4) (MQ_M f2), IM_q (IM_g hJ.2 (CQ_C f1)) f2 hm⟩
theorem JJ_m1 (hJ : JJ A σ) {σ1 : St} (f1 : Fr CQ σ σ1) : MP 50 A.1 σ1 := MP_f hJ.2.1 f1 (fun j => by unfold CQ; omega)
theorem s_of (hS : Sys S) (hA : OKA A) (hJ : JJ A σ) {h w : Int} (r1 : -2147483648 ≤ h ∧ h < 2147483648) (r2 : -2147483648 ≤ w ∧ w < 2147483648) : S 92 [aR 0, aI (iI h), aI (iI w)] σ (fun r σ1 => ∃ y : Int32, r = [aI y] ∧ S 163 [aR 49, aI (iI h), aI (iI w)] σ1 (Nx (aI y))) :=
  c_X8_of hS hJ.1.1.1 hA.1 r1 r2 ⟨_, rfl, c_X9_of hS (JJ_m1 hJ Fr_rf) hA.1 r1 r2 (q_end hA hJ Fr_rf hJ.1.1.2.1 hJ.1.1.2.2.1 hJ.1.1.2.2.2 Fr_rf (JJ_m1 hJ Fr_rf))⟩
theorem s_taken (hS : Sys S) (hA : OKA A) (hJ : JJ A σ) {h w : Int} (r1 : -2147483648 ≤ h ∧ h < 2147483648) (r2 : -2147483648 ≤ w ∧ w < 2147483648) : S 94 [aR 0, aI (iI h), aI (iI w)] σ (fun r σ1 => ∃ y : Int32, r = [aI y] ∧ S 165 [aR 49, aI (iI h), aI (iI w)] σ1 (Nx (aI y))) :=
  c_X8_taken hS hJ.1.1.1 hA.1 r1 r2 ⟨_, rfl, c_X9_taken hS (JJ_m1 hJ Fr_rf) hA.1 r1 r2 (q_end hA hJ Fr_rf hJ.1.1.2.1 hJ.1.1.2.2.1 hJ.1.1.2.2.2 Fr_rf (JJ_m1 hJ Fr_rf))⟩
end C40
