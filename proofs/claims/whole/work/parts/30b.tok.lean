/-! the class's tokens -/
def so (b : Int) : Int := if fLe b = true then 1 else if fDi b = true then 2 else if b = 59 then 3 else 4
theorem fLe_t {b : Int} : fLe b = true ↔ (97 ≤ b ∧ b ≤ 122) := decide_eq_true_iff
theorem fDi_t {b : Int} : fDi b = true ↔ (48 ≤ b ∧ b ≤ 57) := decide_eq_true_iff
theorem fSp_t {b : Int} : fSp b = true ↔ b = 32 := decide_eq_true_iff
def KC (T : List Int) (p : Int) (σ : St) : Prop := σ.1 36 6 = iI (tK T p) ∧ σ.1 36 7 = iI (tS T p) ∧ σ.1 36 8 = iI (tE T p)
def FTK : Nat → Nat → Prop := fun k j => k = 36 ∧ (j = 6 ∨ j = 7 ∨ j = 8)
theorem so_1 {b : Int} : so b = 1 ↔ fLe b = true := by
  unfold so
  by_cases c : fLe b = true
  · rw [if_pos c]; exact ⟨fun _ => c, fun _ => rfl⟩
  · rw [if_neg c]
    by_cases d : fDi b = true
    · rw [if_pos d]; exact ⟨fun e => by omega, fun e => absurd e c⟩
    · rw [if_neg d]; exact ⟨fun e => by split at e <;> omega, fun e => absurd e c⟩
theorem so_2 {b : Int} : so b = 2 ↔ fDi b = true := by
  unfold so
  by_cases c : fLe b = true
  · rw [if_pos c]; exact ⟨fun e => by omega, fun e => by rw [fLe_t] at c; rw [fDi_t] at e; omega⟩
  · rw [if_neg c]
    by_cases d : fDi b = true
    · rw [if_pos d]; exact ⟨fun _ => d, fun _ => rfl⟩
    · rw [if_neg d]; exact ⟨fun e => by split at e <;> omega, fun e => absurd e d⟩
section C30b
variable {S : Sp} {σ : St} {Φ : Rs} {T : List Int} {p : Int}
theorem c_X4_sortOf (hS : Sys S) {b : Int} (hb : 0 ≤ b ∧ b ≤ 127) (hk : Φ [aI (iI (so b))] σ) : S 64 [aI (iI b)] σ Φ := by
  refine m_X4_sortOf hS (fun v hv hw => ?_)
  unfold vc_X4_sortOf_0 vc_X4_sortOf_14 vc_X4_sortOf_28
  unfold so at hk
  simp only [fLe_t, fDi_t] at hk
  try simp (disch := omega) only [iI_lit, iL_lit, iI_add, iI_sub, iI_mul, iI_neg, iI_lt, iI_le, iI_eq, iI_tn, iI_div, iI_l, iL_add, iL_sub, iL_mul, iL_neg, iL_le, iL_lt, iL_eq, iL_ite, vp_T, b2_ne0, b2_eq1, nn_imp, true_and, iI_ite, not_true_eq_false, not_false_eq_true, true_implies, false_implies, and_true, Int.reduceLT, Int.reduceLE, Int.reduceEq, or_false, false_or, true_or, or_true, false_and, and_false]
  refine ⟨fun a => ⟨fun b => ⟨fun c => ?_, fun c => ?_⟩, fun b => ⟨fun d => ⟨fun c => ?_, fun c => ?_⟩, fun d => ?_⟩⟩, fun a => ⟨fun b => ⟨fun c => ⟨fun d => ?_, fun d => ?_⟩, fun c => ⟨fun d => ⟨fun e => ?_, fun e => ?_⟩, fun d => ?_⟩⟩, fun b => ?_⟩⟩ <;> first | exact (by simp (disch := omega) only [if_pos, if_neg] at hk; exact hk) | omega
theorem TRc_b {σ' : St} (h : TRc T σ') {i : Int} (h0 : 0 ≤ i) (h1 : i < (T.length : Nat)) : σ'.1 37 i.toNat = iI (hr T i) := by
  rw [hr_i h0 h1]; exact h.2 i.toNat (by omega)
theorem TRc_k {σ' : St} (h : TRc T σ) (hf : Fr FTK σ σ') : TRc T σ' := TX_f h hf (fun i => by unfold FTK; omega) (by unfold FTK; omega)
theorem c_X4_nextToken (hS : Sys S) (hT : TRc T σ) (hW : WT T) (h0 : 0 ≤ p) (h1 : p ≤ (T.length : Nat)) (h8 : σ.1 36 8 = iI p) (hk : ∀ σ', Fr FTK σ σ' → KC T p σ' → Φ [] σ') : S 63 [aR 36] σ Φ := by
  refine m_X4_nextToken hS (fun v hv hw => ?_)
  have l := hW.1
  unfold vc_X4_nextToken_0
  intro σ1 e1
  have sr := tS_r h0 h1
  have er := tE_r hW h0 h1
  have hn := hr_n hW (i := tS T p) (by omega)
  have hR := hr_r hW (tS T p)
  -- the end
  have T3 : ∀ (l1 : Int) (σ2 : St), Fr FTK σ σ2 → σ2.1 36 6 = iI (so (hr T (tS T p))) → σ2.1 36 7 = iI (tS T p) → σ2.1 36 8 = iI (tE T p) → ¬ hr T (tS T p) = -1 → vc_X4_nextToken_166 S Φ v (iI l1) σ2 := by
    intro l1 σ2 hf k6 k7 k8 hne
    have sor : 1 ≤ so (hr T (tS T p)) ∧ so (hr T (tS T p)) ≤ 4 := by unfold so; (repeat' split) <;> omega
    unfold vc_X4_nextToken_166
    try simp (disch := omega) only [iI_lit, iL_lit, iI_add, iI_sub, iI_mul, iI_neg, iI_lt, iI_le, iI_eq, iI_tn, iI_div, iI_l, iL_add, iL_sub, iL_mul, iL_neg, iL_le, iL_lt, iL_eq, iL_ite, vp_T, b2_ne0, b2_eq1, nn_imp, true_and, iI_ite, not_true_eq_false, not_false_eq_true, true_implies, false_implies, and_true, Int.reduceLT, Int.reduceLE, Int.reduceEq, or_false, false_or, true_or, or_true, false_and, and_false, k6, k7, k8]
    refine ⟨fun c => hk σ2 hf ⟨?_, k7, k8⟩, fun c => ⟨fun d => hk σ2 hf ⟨?_, k7, k8⟩, fun d σ3 e3 => hk σ3 (by rw [e3]; exact Fr_up hf (by unfold FTK; omega)) ⟨?_, ?_, ?_⟩⟩⟩
    · rw [k6]
      rw [so_2] at c
      unfold tK so
      by_cases a : fLe (hr T (tS T p)) = true
      · rw [if_pos a, if_pos a]
      · rw [if_neg a, if_neg a, if_neg c, if_neg c, if_neg hne]
    · rw [k6]
      have c' := c
      rw [so_2] at c
      have a : ¬ fLe (hr T (tS T p)) = true := fun e => by have := so_1.mpr e; omega
      unfold tK
      rw [if_neg a, if_pos c, if_pos d, c']
    · rw [so_2] at c
      have a : ¬ fLe (hr T (tS T p)) = true := fun e => by have := so_1.mpr e; have := so_2.mpr c; omega
      unfold tK
      rw [e3, up_h rfl, if_neg a, if_pos c, if_neg d]
    · rw [e3, up_m (by omega)]; exact k7
    · rw [e3, up_m (by omega)]; exact k8
  -- a run
  have T2 : ∀ (f : Int → Bool) (c : Int), f (-1) = false → (∀ b, so b = c ↔ f b = true) → (c = 1 ∨ c = 2) → so (hr T (tS T p)) = c → tE T p = rn T f (tS T p) → ∀ (d : Nat) (i : Int) (σ2 : St), ((T.length : Nat) - i).toNat = d → tS T p < i → i ≤ (T.length : Nat) → Fr FTK σ σ2 → σ2.1 36 6 = iI (so (hr T (tS T p))) → σ2.1 36 7 = iI (tS T p) → σ2.1 36 8 = iI i → rn T f (tS T p) = rn T f i → v 119 [some (aR 36), some (aI (iI 1))] [] σ2 := by
    intro f c hf1 hfc hc hs he d
    have hne : ¬ hr T (tS T p) = -1 := fun e => by rw [e] at hs; have := (hfc _).mp hs; rw [hf1] at this; exact absurd this (by decide)
    induction d with
    | zero =>
      intro i σ2 hd i0 i1 hf k6 k7 k8 hr1
      refine w_X4_nextToken_119 hS hv hw _ σ2 ?_
      unfold vc_X4_nextToken_119
      have q : i = (T.length : Nat) := by omega
      have sz := (TRc_k hT hf).1
      try simp (disch := omega) only [iI_lit, iL_lit, iI_add, iI_sub, iI_mul, iI_neg, iI_lt, iI_le, iI_eq, iI_tn, iI_div, iI_l, iL_add, iL_sub, iL_mul, iL_neg, iL_le, iL_lt, iL_eq, iL_ite, vp_T, b2_ne0, b2_eq1, nn_imp, true_and, iI_ite, not_true_eq_false, not_false_eq_true, true_implies, false_implies, and_true, Int.reduceLT, Int.reduceLE, Int.reduceEq, or_false, false_or, true_or, or_true, false_and, and_false, sz, k8]
      refine ⟨fun _ => T3 1 σ2 hf k6 k7 ?_ hne, fun c => by omega⟩
      rw [he, hr1, rn_f (by rw [hr_o (by omega), hf1]; decide)]; exact k8
    | succ d ih =>
      intro i σ2 hd i0 i1 hf k6 k7 k8 hr1
      refine w_X4_nextToken_119 hS hv hw _ σ2 ?_
      unfold vc_X4_nextToken_119
      have sz := (TRc_k hT hf).1
      have tb := TRc_b (TRc_k hT hf) (i := i) (by omega) (by omega)
      have hb := hr_r hW i
      have hb0 : ¬ hr T i = -1 := fun e => by have := (hr_n hW (i := i) (by omega)).mp e; omega
      have sor : 1 ≤ so (hr T i) ∧ so (hr T i) ≤ 4 := by unfold so; (repeat' split) <;> omega
      try simp (disch := omega) only [iI_lit, iL_lit, iI_add, iI_sub, iI_mul, iI_neg, iI_lt, iI_le, iI_eq, iI_tn, iI_div, iI_l, iL_add, iL_sub, iL_mul, iL_neg, iL_le, iL_lt, iL_eq, iL_ite, vp_T, b2_ne0, b2_eq1, nn_imp, true_and, iI_ite, not_true_eq_false, not_false_eq_true, true_implies, false_implies, and_true, Int.reduceLT, Int.reduceLE, Int.reduceEq, or_false, false_or, true_or, or_true, false_and, and_false, sz, k8, tb]
      refine ⟨fun c => by omega, fun _ => ?_⟩
      refine c_X4_sortOf hS (by omega) ⟨_, rfl, ?_⟩
      have k6' := k6
      rw [hs] at k6'
      try simp (disch := omega) only [iI_lit, iL_lit, iI_add, iI_sub, iI_mul, iI_neg, iI_lt, iI_le, iI_eq, iI_tn, iI_div, iI_l, iL_add, iL_sub, iL_mul, iL_neg, iL_le, iL_lt, iL_eq, iL_ite, vp_T, b2_ne0, b2_eq1, nn_imp, true_and, iI_ite, not_true_eq_false, not_false_eq_true, true_implies, false_implies, and_true, Int.reduceLT, Int.reduceLE, Int.reduceEq, or_false, false_or, true_or, or_true, false_and, and_false, k6', k8]
      refine ⟨fun q => T3 1 σ2 hf k6 k7 ?_ hne, fun q σ3 e3 => ?_⟩
      · rw [he, hr1, rn_f (fun w => q ((hfc _).mpr w))]; exact k8
      · have w := (hfc _).mp q
        have r := rn_t hf1 w
        refine ih (i + 1) σ3 (by omega) (by omega) (by omega) (by rw [e3]; exact Fr_up hf (by unfold FTK; omega)) (by rw [e3, up_m (by omega)]; exact k6) (by rw [e3, up_m (by omega)]; exact k7) (by rw [e3]; exact up_h rfl) (by rw [hr1]; exact r.2)
  -- behind the spaces
  have T1 : ∀ (σ2 : St), Fr FTK σ σ2 → σ2.1 36 7 = iI (tS T p) → vc_X4_nextToken_46 S Φ v σ2 := by
    intro σ2 hf k7
    unfold vc_X4_nextToken_46
    rw [k7]
    intro σ3 e3
    have f3 : Fr FTK σ σ3 := by rw [e3]; exact Fr_up hf (by unfold FTK; omega)
    have k7' : σ3.1 36 7 = iI (tS T p) := by rw [e3, up_m (by omega)]; exact k7
    have sz := (TRc_k hT f3).1
    try simp (disch := omega) only [iI_lit, iL_lit, iI_add, iI_sub, iI_mul, iI_neg, iI_lt, iI_le, iI_eq, iI_tn, iI_div, iI_l, iL_add, iL_sub, iL_mul, iL_neg, iL_le, iL_lt, iL_eq, iL_ite, vp_T, b2_ne0, b2_eq1, nn_imp, true_and, iI_ite, not_true_eq_false, not_false_eq_true, true_implies, false_implies, and_true, Int.reduceLT, Int.reduceLE, Int.reduceEq, or_false, false_or, true_or, or_true, false_and, and_false, k7', sz]
    refine ⟨fun c => ?_, fun c σ4 e4 => ?_⟩
    · have tb := TRc_b (TRc_k hT f3) (i := tS T p) (by omega) (by omega)
      have hb0 : ¬ hr T (tS T p) = -1 := fun e => by have := hn.mp e; omega
      have sor : 1 ≤ so (hr T (tS T p)) ∧ so (hr T (tS T p)) ≤ 4 := by unfold so; (repeat' split) <;> omega
      try simp (disch := omega) only [iI_lit, iL_lit, iI_add, iI_sub, iI_mul, iI_neg, iI_lt, iI_le, iI_eq, iI_tn, iI_div, iI_l, iL_add, iL_sub, iL_mul, iL_neg, iL_le, iL_lt, iL_eq, iL_ite, vp_T, b2_ne0, b2_eq1, nn_imp, true_and, iI_ite, not_true_eq_false, not_false_eq_true, true_implies, false_implies, and_true, Int.reduceLT, Int.reduceLE, Int.reduceEq, or_false, false_or, true_or, or_true, false_and, and_false, tb]
      refine c_X4_sortOf hS (by omega) ⟨_, rfl, fun σ4 e4 => ?_⟩
      have k8 : σ4.1 36 8 = iI (tS T p) := by rw [e4, up_m (by omega), e3]; exact up_h rfl
      try simp (disch := omega) only [iI_lit, iL_lit, iI_add, iI_sub, iI_mul, iI_neg, iI_lt, iI_le, iI_eq, iI_tn, iI_div, iI_l, iL_add, iL_sub, iL_mul, iL_neg, iL_le, iL_lt, iL_eq, iL_ite, vp_T, b2_ne0, b2_eq1, nn_imp, true_and, iI_ite, not_true_eq_false, not_false_eq_true, true_implies, false_implies, and_true, Int.reduceLT, Int.reduceLE, Int.reduceEq, or_false, false_or, true_or, or_true, false_and, and_false, k8]
      intro σ5 e5
      have f5 : Fr FTK σ σ5 := by rw [e5, e4]; exact Fr_up (Fr_up f3 (by unfold FTK; omega)) (by unfold FTK; omega)
      have k6 : σ5.1 36 6 = iI (so (hr T (tS T p))) := by rw [e5, up_m (by omega), e4]; exact up_h rfl
      have k7 : σ5.1 36 7 = iI (tS T p) := by rw [e5, up_m (by omega), e4, up_m (by omega)]; exact k7'
      have k8' : σ5.1 36 8 = iI (tS T p + 1) := by rw [e5]; exact up_h rfl
      unfold vc_X4_nextToken_113 vc_X4_nextToken_118
      try simp (disch := omega) only [iI_lit, iL_lit, iI_add, iI_sub, iI_mul, iI_neg, iI_lt, iI_le, iI_eq, iI_tn, iI_div, iI_l, iL_add, iL_sub, iL_mul, iL_neg, iL_le, iL_lt, iL_eq, iL_ite, vp_T, b2_ne0, b2_eq1, nn_imp, true_and, iI_ite, not_true_eq_false, not_false_eq_true, true_implies, false_implies, and_true, Int.reduceLT, Int.reduceLE, Int.reduceEq, or_false, false_or, true_or, or_true, false_and, and_false, k6]
      refine ⟨fun q => ?_, fun q => ⟨fun q2 => ?_, fun q2 => ?_⟩⟩
      · have a := so_1.mp q
        exact T2 fLe 1 (by decide) (fun b => so_1) (Or.inl rfl) q (by unfold tE; rw [if_pos a]) _ (tS T p + 1) σ5 rfl (by omega) (by omega) f5 k6 k7 k8' (rn_t (by decide) a).2
      · have a : ¬ fLe (hr T (tS T p)) = true := fun e => q (so_1.mpr e)
        have b : ¬ fDi (hr T (tS T p)) = true := fun e => q2 (so_2.mpr e)
        refine w_X4_nextToken_119 hS hv hw _ σ5 ?_
        unfold vc_X4_nextToken_119
        try simp (disch := omega) only [iI_lit, iL_lit, iI_add, iI_sub, iI_mul, iI_neg, iI_lt, iI_le, iI_eq, iI_tn, iI_div, iI_l, iL_add, iL_sub, iL_mul, iL_neg, iL_le, iL_lt, iL_eq, iL_ite, vp_T, b2_ne0, b2_eq1, nn_imp, true_and, iI_ite, not_true_eq_false, not_false_eq_true, true_implies, false_implies, and_true, Int.reduceLT, Int.reduceLE, Int.reduceEq, or_false, false_or, true_or, or_true, false_and, and_false]
        refine T3 0 σ5 f5 k6 k7 ?_ hb0
        unfold tE
        rw [if_neg a, if_neg b, if_neg hb0]; exact k8'
      · have a : ¬ fLe (hr T (tS T p)) = true := fun e => q (so_1.mpr e)
        have b := so_2.mp q2
        exact T2 fDi 2 (by decide) (fun b => so_2) (Or.inr rfl) q2 (by unfold tE; rw [if_neg a, if_pos b]) _ (tS T p + 1) σ5 rfl (by omega) (by omega) f5 k6 k7 k8' (rn_t (by decide) b).2
    · have e : hr T (tS T p) = -1 := hn.mpr (by omega)
      refine hk σ4 (by rw [e4]; exact Fr_up f3 (by unfold FTK; omega)) ⟨?_, ?_, ?_⟩
      · unfold tK; rw [e4, up_h rfl, e, if_neg (by decide), if_neg (by decide), if_neg (by decide), if_pos rfl]
      · rw [e4, up_m (by omega)]; exact k7'
      · unfold tE; rw [e, if_neg (by decide), if_neg (by decide), if_pos rfl, e4, up_m (by omega), e3]; exact up_h rfl
  -- the spaces
  have T0 : ∀ (d : Nat) (i : Int) (σ2 : St), ((T.length : Nat) - i).toNat = d → p ≤ i → i ≤ (T.length : Nat) → Fr FTK σ σ2 → σ2.1 36 7 = iI i → rn T fSp p = rn T fSp i → v 8 [some (aR 36), none] [] σ2 := by
    intro d
    induction d with
    | zero =>
      intro i σ2 hd i0 i1 hf k7 he
      refine w_X4_nextToken_8 hS hv hw σ2 ?_
      unfold vc_X4_nextToken_8
      have sz := (TRc_k hT hf).1
      try simp (disch := omega) only [iI_lit, iL_lit, iI_add, iI_sub, iI_mul, iI_neg, iI_lt, iI_le, iI_eq, iI_tn, iI_div, iI_l, iL_add, iL_sub, iL_mul, iL_neg, iL_le, iL_lt, iL_eq, iL_ite, vp_T, b2_ne0, b2_eq1, nn_imp, true_and, iI_ite, not_true_eq_false, not_false_eq_true, true_implies, false_implies, and_true, Int.reduceLT, Int.reduceLE, Int.reduceEq, or_false, false_or, true_or, or_true, false_and, and_false, sz, k7]
      refine ⟨fun _ => T1 σ2 hf ?_, fun c => by omega⟩
      unfold tS; rw [he, rn_f (by rw [hr_o (by omega)]; decide)]; exact k7
    | succ d ih =>
      intro i σ2 hd i0 i1 hf k7 he
      refine w_X4_nextToken_8 hS hv hw σ2 ?_
      unfold vc_X4_nextToken_8
      have sz := (TRc_k hT hf).1
      have tb := TRc_b (TRc_k hT hf) (i := i) (by omega) (by omega)
      have hb := hr_r hW i
      try simp (disch := omega) only [iI_lit, iL_lit, iI_add, iI_sub, iI_mul, iI_neg, iI_lt, iI_le, iI_eq, iI_tn, iI_div, iI_l, iL_add, iL_sub, iL_mul, iL_neg, iL_le, iL_lt, iL_eq, iL_ite, vp_T, b2_ne0, b2_eq1, nn_imp, true_and, iI_ite, not_true_eq_false, not_false_eq_true, true_implies, false_implies, and_true, Int.reduceLT, Int.reduceLE, Int.reduceEq, or_false, false_or, true_or, or_true, false_and, and_false, sz, k7, tb]
      refine ⟨fun c => by omega, fun _ => ⟨fun q => T1 σ2 hf ?_, fun q σ3 e3 => ?_⟩⟩
      · unfold tS; rw [he, rn_f (fun w => q (fSp_t.mp w))]; exact k7
      · have r := rn_t (T := T) (f := fSp) (by decide) (fSp_t.mpr q)
        exact ih (i + 1) σ3 (by omega) (by omega) (by omega) (by rw [e3]; exact Fr_up hf (by unfold FTK; omega)) (by rw [e3]; exact up_h rfl) (by rw [he]; exact r.2)
  exact T0 _ p σ1 rfl (Int.le_refl p) h1 (by rw [e1]; exact Fr_up Fr_rf (by unfold FTK; omega)) (by rw [e1, h8]; exact up_h rfl) rfl
end C30b
