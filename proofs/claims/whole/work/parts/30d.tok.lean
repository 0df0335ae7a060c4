/-! the reference's tokens -/
def KM (T : List Int) (p : Int) (σ : St) : Prop := σ.1 49 25 = iI (tC T p) ∧ σ.1 49 24 = iI (tS T p) ∧ (¬ tC T p = 23 → σ.1 49 23 = iI (tE T p)) ∧ (tC T p = 20 → σ.1 49 26 = iI (tV T p))
def FNX : Nat → Nat → Prop := fun k j => k = 49 ∧ (j = 23 ∨ j = 24 ∨ j = 25 ∨ j = 26)
theorem dig_b {T : List Int} {s i : Int} (h : ∀ q, s ≤ q → q < i → 48 ≤ hr T q ∧ hr T q ≤ 57) (i0 : s ≤ i) (i1 : i - s ≤ 4) : 0 ≤ lp (fun i a => a * 10 + hr T i - 48) s i 0 ∧ lp (fun i a => a * 10 + hr T i - 48) s i 0 ≤ 9999 ∧ (i - s < 4 → lp (fun i a => a * 10 + hr T i - 48) s i 0 ≤ 999) := by
  have := lp_inv (f := fun i a => a * 10 + hr T i - 48) (a := 0) (fun i (a : Int) => (i = s ∧ a = 0) ∨ (i = s + 1 ∧ 0 ≤ a ∧ a ≤ 9) ∨ (i = s + 2 ∧ 0 ≤ a ∧ a ≤ 99) ∨ (i = s + 3 ∧ 0 ≤ a ∧ a ≤ 999) ∨ (i = s + 4 ∧ 0 ≤ a ∧ a ≤ 9999)) _ rfl i0 (Or.inl ⟨rfl, rfl⟩) (fun k a k0 k1 ha => by
    have b := h k k0 k1
    omega)
  omega
section C30d
variable {S : Sp} {σ : St} {Φ : Rs} {T : List Int} {p : Int}
theorem TRm_b {σ' : St} (h : TRm T σ') {i : Int} (h0 : 0 ≤ i) (h1 : i < (T.length : Nat)) : σ'.1 59 i.toNat = iI (hr T i) := by
  rw [hr_i h0 h1]; exact h.2 i.toNat (by omega)
theorem TRm_k {σ' : St} (h : TRm T σ) (hf : Fr FNX σ σ') : TRm T σ' := TX_f h hf (fun i => by unfold FNX; omega) (by unfold FNX; omega)
theorem WLM_k {σ' : St} (h : WLM σ) (hf : Fr FNX σ σ') : WLM σ' := WLM_f h hf (fun j => by unfold FNX; omega)
theorem c_X9_here (hS : Sys S) (hT : TRm T σ) (hW : WT T) {i : Int} (h0 : 0 ≤ i) (h1 : i ≤ (T.length : Nat)) (h3 : σ.1 49 23 = iI i) (hk : Φ [aI (iI (hr T i))] σ) : S 208 [aR 49] σ Φ := by
  refine m_X9_here hS (fun v hv hw => ?_)
  unfold vc_X9_here_0
  have sz := hT.1
  have l := hW.1
  try simp (disch := omega) only [iI_lit, iL_lit, iI_add, iI_sub, iI_mul, iI_neg, iI_lt, iI_le, iI_eq, iI_tn, iI_div, iI_l, iL_add, iL_sub, iL_mul, iL_neg, iL_le, iL_lt, iL_eq, iL_ite, vp_T, b2_ne0, b2_eq1, nn_imp, true_and, iI_ite, not_true_eq_false, not_false_eq_true, true_implies, false_implies, and_true, Int.reduceLT, Int.reduceLE, Int.reduceEq, or_false, false_or, true_or, or_true, false_and, and_false, h3, sz]
  refine ⟨fun c => ?_, fun c => ?_⟩
  · rw [hr_o c] at hk; exact hk
  · try simp (disch := omega) only [iI_lit, iL_lit, iI_add, iI_sub, iI_mul, iI_neg, iI_lt, iI_le, iI_eq, iI_tn, iI_div, iI_l, iL_add, iL_sub, iL_mul, iL_neg, iL_le, iL_lt, iL_eq, iL_ite, vp_T, b2_ne0, b2_eq1, nn_imp, true_and, iI_ite, not_true_eq_false, not_false_eq_true, true_implies, false_implies, and_true, Int.reduceLT, Int.reduceLE, Int.reduceEq, or_false, false_or, true_or, or_true, false_and, and_false]
    rw [TRm_b hT h0 (by omega)]; exact hk
theorem c_X9_wordHere (hS : Sys S) (hT : TRm T σ) (hW : WT T) (hL : WLM σ) (h0 : 0 ≤ p) (h1 : p ≤ (T.length : Nat)) (hl : fLe (hr T (tS T p)) = true) (h3 : σ.1 49 23 = iI (tS T p)) (h4 : σ.1 49 24 = iI (tS T p)) (hk : ∀ σ', Fr (fun k j => k = 49 ∧ j = 23) σ σ' → σ'.1 49 23 = iI (tE T p) → Φ [aI (iI (tC T p))] σ') : S 209 [aR 49] σ Φ := by
  refine m_X9_wordHere hS (fun v hv hw => ?_)
  have l := hW.1
  have sr := tS_r h0 h1
  have er := tE_r hW h0 h1
  have cr := tC_r (T := T) (p := p)
  have ee : tE T p = rn T fLe (tS T p) := by unfold tE; rw [if_pos hl]
  have k1 : tK T p = 1 := by unfold tK; rw [if_pos hl]
  have FX : ∀ {σ'}, Fr (fun k j => k = 49 ∧ j = 23) σ σ' → Fr FNX σ σ' := fun f => Fr_mo f (fun k j q => by unfold FNX; omega)
  -- which word
  have W : ∀ (σ1 : St), Fr (fun k j => k = 49 ∧ j = 23) σ σ1 → σ1.1 49 23 = iI (tE T p) → ∀ (d k : Nat), 12 - k = d → k ≤ 12 → (∀ j : Nat, j < k → ¬ tC T p = j) → v 32 [some (aR 49), some (aI (iI k)), none, none] [] σ1 := by
    intro σ1 hf a3 d
    have hk := hk σ1 hf a3
    have a4 : σ1.1 49 24 = iI (tS T p) := by rw [hf.1 _ _ (by omega)]; exact h4
    have L1 := WLM_k hL (FX hf)
    have T1 := TRm_k hT (FX hf)
    induction d with
    | zero =>
      intro k hd hk2 hj
      refine w_X9_wordHere_32 hS hv hw _ σ1 ?_
      unfold vc_X9_wordHere_32
      have e23 : tC T p = 23 := by
        have ck := tC_k (T := T) (p := p)
        rcases cr with q | q
        · exact absurd (show tC T p = (((tC T p).toNat : Nat) : Int) by omega) (hj _ (by omega))
        · omega
      rw [e23] at hk
      try simp (disch := omega) only [iI_lit, iL_lit, iI_add, iI_sub, iI_mul, iI_neg, iI_lt, iI_le, iI_eq, iI_tn, iI_div, iI_l, iL_add, iL_sub, iL_mul, iL_neg, iL_le, iL_lt, iL_eq, iL_ite, vp_T, b2_ne0, b2_eq1, nn_imp, true_and, iI_ite, not_true_eq_false, not_false_eq_true, true_implies, false_implies, and_true, Int.reduceLT, Int.reduceLE, Int.reduceEq, or_false, false_or, true_or, or_true, false_and, and_false]
      exact ⟨fun _ => hk, fun c => by omega⟩
    | succ d ih =>
      intro k hd hk2 hj
      refine w_X9_wordHere_32 hS hv hw _ σ1 ?_
      unfold vc_X9_wordHere_32 vc_X9_wordHere_70
      obtain ⟨w1, w2, w3, w4, w5, w6⟩ := wrd_l k (by omega)
      have b0 : σ1.1 61 (k : Int).toNat = iI (begs[k]?.getD 0) := by rw [show (k : Int).toNat = k by omega]; exact L1.2 k (by omega)
      have b1 : σ1.1 61 ((k : Int) + 1).toNat = iI (begs[k + 1]?.getD 0) := by rw [show ((k : Int) + 1).toNat = k + 1 by omega]; exact L1.2 (k + 1) (by omega)
      have tw := tC_w (T := T) (p := p) (k := k) (by omega)
      have N : ¬ tC T p = k → v 32 [some (aR 49), some (aI (iI ((k : Int) + 1))), none, none] [] σ1 := fun q => by
        have := ih (k + 1) (by omega) (by omega) (fun j hj2 => by
          by_cases e : j = k
          · subst e; exact q
          · exact hj j (by omega))
        exact this
      have N0 : ¬ tC T p = k → ∀ i : Int, (0 ≤ i ∧ i ≤ 80) → v 76 [some (aR 49), some (aI (iI k)), some (aI (iI 0)), some (aI (iI i))] [] σ1 := fun q i hi => by
        refine w_X9_wordHere_76 hS hv hw _ _ _ σ1 ?_
        unfold vc_X9_wordHere_76 vc_X9_wordHere_127
        try simp (disch := omega) only [iI_lit, iL_lit, iI_add, iI_sub, iI_mul, iI_neg, iI_lt, iI_le, iI_eq, iI_tn, iI_div, iI_l, iL_add, iL_sub, iL_mul, iL_neg, iL_le, iL_lt, iL_eq, iL_ite, vp_T, b2_ne0, b2_eq1, nn_imp, true_and, iI_ite, not_true_eq_false, not_false_eq_true, true_implies, false_implies, and_true, Int.reduceLT, Int.reduceLE, Int.reduceEq, or_false, false_or, true_or, or_true, false_and, and_false, a3]
        exact ⟨fun _ => N q, fun _ => N q⟩
      try simp (disch := omega) only [iI_lit, iL_lit, iI_add, iI_sub, iI_mul, iI_neg, iI_lt, iI_le, iI_eq, iI_tn, iI_div, iI_l, iL_add, iL_sub, iL_mul, iL_neg, iL_le, iL_lt, iL_eq, iL_ite, vp_T, b2_ne0, b2_eq1, nn_imp, true_and, iI_ite, not_true_eq_false, not_false_eq_true, true_implies, false_implies, and_true, Int.reduceLT, Int.reduceLE, Int.reduceEq, or_false, false_or, true_or, or_true, false_and, and_false, a3, a4, b0, b1]
      refine ⟨fun c => by omega, fun _ => ⟨fun c => N0 (fun q => c (by have := (tw.mp q).2.1; omega)) _ (by omega), fun c => ?_⟩⟩
      have A : ∀ (m i : Nat), (wrd k).length - i = m → i ≤ (wrd k).length → (∀ j : Nat, j < i → hr T (tS T p + j) = (wrd k)[j]?.getD 0) → v 76 [some (aR 49), some (aI (iI k)), some (aI (iI 1)), some (aI (iI (tS T p + i)))] [] σ1 := by
        intro m
        induction m with
        | zero =>
          intro i hm hi hj2
          refine w_X9_wordHere_76 hS hv hw _ _ _ σ1 ?_
          unfold vc_X9_wordHere_76 vc_X9_wordHere_127
          have e : tC T p = k := tw.mpr ⟨k1, by omega, fun j hj3 => hj2 j (by omega)⟩
          rw [e] at hk
          try simp (disch := omega) only [iI_lit, iL_lit, iI_add, iI_sub, iI_mul, iI_neg, iI_lt, iI_le, iI_eq, iI_tn, iI_div, iI_l, iL_add, iL_sub, iL_mul, iL_neg, iL_le, iL_lt, iL_eq, iL_ite, vp_T, b2_ne0, b2_eq1, nn_imp, true_and, iI_ite, not_true_eq_false, not_false_eq_true, true_implies, false_implies, and_true, Int.reduceLT, Int.reduceLE, Int.reduceEq, or_false, false_or, true_or, or_true, false_and, and_false, a3]
          exact ⟨fun _ => hk, fun c => by omega⟩
        | succ m ihm =>
          intro i hm hi hj2
          refine w_X9_wordHere_76 hS hv hw _ _ _ σ1 ?_
          unfold vc_X9_wordHere_76 vc_X9_wordHere_127
          have tb := TRm_b T1 (i := tS T p + i) (by omega) (by omega)
          have hb := hr_r hW (tS T p + i)
          have l1 : σ1.1 60 (begs[k]?.getD 0 + (tS T p + (i : Nat)) - tS T p).toNat = iI ((wrd k)[i]?.getD 0) := by
            rw [show (begs[k]?.getD 0 + (tS T p + (i : Nat)) - tS T p).toNat = (begs[k]?.getD 0).toNat + i by omega, L1.1 _ (by omega), w6 i (by omega)]
          have wb := wrd_b k (by omega) i (by omega)
          try simp (disch := omega) only [iI_lit, iL_lit, iI_add, iI_sub, iI_mul, iI_neg, iI_lt, iI_le, iI_eq, iI_tn, iI_div, iI_l, iL_add, iL_sub, iL_mul, iL_neg, iL_le, iL_lt, iL_eq, iL_ite, vp_T, b2_ne0, b2_eq1, nn_imp, true_and, iI_ite, not_true_eq_false, not_false_eq_true, true_implies, false_implies, and_true, Int.reduceLT, Int.reduceLE, Int.reduceEq, or_false, false_or, true_or, or_true, false_and, and_false, a3, a4, b0, tb, l1]
          refine ⟨fun c => by omega, fun _ => ⟨fun q => N0 (fun z => q ((tw.mp z).2.2 i (by omega))) _ (by omega), fun q => ?_⟩⟩
          have := ihm (i + 1) (by omega) (by omega) (fun j hj3 => by
            by_cases e : j = i
            · subst e; exact q
            · exact hj2 j (by omega))
          rw [show tS T p + ((i + 1 : Nat) : Int) = tS T p + (i : Nat) + 1 by omega] at this
          exact this
      have := A _ 0 rfl (by omega) (fun j hj2 => by omega)
      rw [show tS T p + ((0 : Nat) : Int) = tS T p by omega] at this
      exact this
  -- the letters
  have A : ∀ (d : Nat) (i : Int) (σ1 : St), ((T.length : Nat) - i).toNat = d → tS T p ≤ i → i ≤ (T.length : Nat) → Fr (fun k j => k = 49 ∧ j = 23) σ σ1 → σ1.1 49 23 = iI i → rn T fLe (tS T p) = rn T fLe i → vc_X9_wordHere_0 S Φ v σ1 := by
    intro d
    induction d with
    | zero =>
      intro i σ1 hd i0 i1 hf a3 he
      unfold vc_X9_wordHere_0
      refine c_X9_here hS (TRm_k hT (FX hf)) hW (by omega) i1 a3 ⟨_, rfl, ?_⟩
      rw [hr_o (by omega)]
      try simp (disch := omega) only [iI_lit, iL_lit, iI_add, iI_sub, iI_mul, iI_neg, iI_lt, iI_le, iI_eq, iI_tn, iI_div, iI_l, iL_add, iL_sub, iL_mul, iL_neg, iL_le, iL_lt, iL_eq, iL_ite, vp_T, b2_ne0, b2_eq1, nn_imp, true_and, iI_ite, not_true_eq_false, not_false_eq_true, true_implies, false_implies, and_true, Int.reduceLT, Int.reduceLE, Int.reduceEq, or_false, false_or, true_or, or_true, false_and, and_false]
      refine W σ1 hf ?_ _ 0 rfl (by omega) (fun j hj => by omega)
      rw [ee, he, rn_f (by rw [hr_o (by omega)]; decide)]; exact a3
    | succ d ih =>
      intro i σ1 hd i0 i1 hf a3 he
      unfold vc_X9_wordHere_0
      refine c_X9_here hS (TRm_k hT (FX hf)) hW (by omega) i1 a3 ⟨_, rfl, ?_⟩
      have hb := hr_r hW i
      try simp (disch := omega) only [iI_lit, iL_lit, iI_add, iI_sub, iI_mul, iI_neg, iI_lt, iI_le, iI_eq, iI_tn, iI_div, iI_l, iL_add, iL_sub, iL_mul, iL_neg, iL_le, iL_lt, iL_eq, iL_ite, vp_T, b2_ne0, b2_eq1, nn_imp, true_and, iI_ite, not_true_eq_false, not_false_eq_true, true_implies, false_implies, and_true, Int.reduceLT, Int.reduceLE, Int.reduceEq, or_false, false_or, true_or, or_true, false_and, and_false, a3]
      refine ⟨fun c => ?_, fun c σ2 e2 => ?_⟩
      · refine W σ1 hf ?_ _ 0 rfl (by omega) (fun j hj => by omega)
        rw [ee, he, rn_f (fun w => c (fLe_t.mp w))]; exact a3
      · have r := rn_t (T := T) (f := fLe) (by decide) (fLe_t.mpr c)
        exact w_X9_wordHere_0 hS hv hw σ2 (ih (i + 1) σ2 (by omega) (by omega) (by omega) (by rw [e2]; exact Fr_up hf ⟨rfl, rfl⟩) (by rw [e2]; exact up_h rfl) (by rw [he]; exact r.2))
  exact A _ (tS T p) σ rfl (Int.le_refl _) sr.2.1 Fr_rf h3 rfl
theorem c_X9_numberHere (hS : Sys S) (hT : TRm T σ) (hW : WT T) (h0 : 0 ≤ p) (h1 : p ≤ (T.length : Nat)) (hl : fDi (hr T (tS T p)) = true) (h3 : σ.1 49 23 = iI (tS T p)) (h4 : σ.1 49 24 = iI (tS T p)) (hk : ∀ σ', Fr (fun k j => k = 49 ∧ (j = 23 ∨ j = 26)) σ σ' → σ'.1 49 23 = iI (tE T p) → (tC T p = 20 → σ'.1 49 26 = iI (tV T p)) → Φ [aI (iI (tC T p))] σ') : S 210 [aR 49] σ Φ := by
  refine m_X9_numberHere hS (fun v hv hw => ?_)
  have l := hW.1
  have sr := tS_r h0 h1
  have er := tE_r hW h0 h1
  have nl : ¬ fLe (hr T (tS T p)) = true := fun e => by rw [fLe_t] at e; rw [fDi_t] at hl; omega
  have ee : tE T p = rn T fDi (tS T p) := by unfold tE; rw [if_neg nl, if_pos hl]
  have dg := (rn_r (T := T) (f := fDi) (by decide) _ (tS T p) rfl).2.2.1
  have ck := tC_k (T := T) (p := p)
  have c20 : tE T p - tS T p ≤ 4 → tC T p = 20 := fun q => ck.1.mpr (by unfold tK; rw [if_neg nl, if_pos hl, if_pos q])
  have c23 : ¬ tE T p - tS T p ≤ 4 → tC T p = 23 := fun q => by
    have : tK T p = 4 := by unfold tK; rw [if_neg nl, if_pos hl, if_neg q]
    unfold tC; rw [this]; rfl
  unfold vc_X9_numberHere_0
  intro σ0 e0
  have FX : ∀ {σ'}, Fr (fun k j => k = 49 ∧ (j = 23 ∨ j = 26)) σ σ' → Fr FNX σ σ' := fun f => Fr_mo f (fun k j q => by unfold FNX; omega)
  have A : ∀ (d : Nat) (i : Int) (σ1 : St), ((T.length : Nat) - i).toNat = d → tS T p ≤ i → i ≤ (T.length : Nat) → Fr (fun k j => k = 49 ∧ (j = 23 ∨ j = 26)) σ σ1 → σ1.1 49 23 = iI i → (i - tS T p ≤ 4 → σ1.1 49 26 = iI (lp (fun i a => a * 10 + hr T i - 48) (tS T p) i 0)) → rn T fDi (tS T p) = rn T fDi i → i ≤ rn T fDi (tS T p) → v 5 [some (aR 49)] [] σ1 := by
    intro d
    induction d with
    | zero =>
      intro i σ1 hd i0 i1 hf a3 a6 he hi
      refine w_X9_numberHere_5 hS hv hw σ1 ?_
      unfold vc_X9_numberHere_5
      have a4 : σ1.1 49 24 = iI (tS T p) := by rw [hf.1 _ _ (by omega)]; exact h4
      refine c_X9_here hS (TRm_k hT (FX hf)) hW (by omega) i1 a3 ⟨_, rfl, ?_⟩
      have q : tE T p = i := by rw [ee, he, rn_f (by rw [hr_o (by omega)]; decide)]
      rw [hr_o (by omega)]
      try simp (disch := omega) only [iI_lit, iL_lit, iI_add, iI_sub, iI_mul, iI_neg, iI_lt, iI_le, iI_eq, iI_tn, iI_div, iI_l, iL_add, iL_sub, iL_mul, iL_neg, iL_le, iL_lt, iL_eq, iL_ite, vp_T, b2_ne0, b2_eq1, nn_imp, true_and, iI_ite, not_true_eq_false, not_false_eq_true, true_implies, false_implies, and_true, Int.reduceLT, Int.reduceLE, Int.reduceEq, or_false, false_or, true_or, or_true, false_and, and_false, a3, a4]
      refine ⟨fun c => ?_, fun c => ?_⟩
      · have := c20 (by omega)
        have hk := hk σ1 hf (by rw [q]; exact a3) (fun _ => by unfold tV; rw [q]; exact a6 (by omega))
        rw [this] at hk; exact hk
      · have := c23 (by omega)
        have hk := hk σ1 hf (by rw [q]; exact a3) (fun w => by omega)
        rw [this] at hk; exact hk
    | succ d ih =>
      intro i σ1 hd i0 i1 hf a3 a6 he hi
      refine w_X9_numberHere_5 hS hv hw σ1 ?_
      unfold vc_X9_numberHere_5 vc_X9_numberHere_58
      have a4 : σ1.1 49 24 = iI (tS T p) := by rw [hf.1 _ _ (by omega)]; exact h4
      have T1 := TRm_k hT (FX hf)
      refine c_X9_here hS T1 hW (by omega) i1 a3 ⟨_, rfl, ?_⟩
      have hb := hr_r hW i
      try simp (disch := omega) only [iI_lit, iL_lit, iI_add, iI_sub, iI_mul, iI_neg, iI_lt, iI_le, iI_eq, iI_tn, iI_div, iI_l, iL_add, iL_sub, iL_mul, iL_neg, iL_le, iL_lt, iL_eq, iL_ite, vp_T, b2_ne0, b2_eq1, nn_imp, true_and, iI_ite, not_true_eq_false, not_false_eq_true, true_implies, false_implies, and_true, Int.reduceLT, Int.reduceLE, Int.reduceEq, or_false, false_or, true_or, or_true, false_and, and_false, a3, a4]
      refine ⟨fun e => ?_, fun e => ⟨fun c => ?_, fun c => ?_⟩⟩
      · have q : tE T p = i := by rw [ee, he, rn_f (fun w => e (fDi_t.mp w))]
        refine ⟨fun c => ?_, fun c => ?_⟩
        · have := c20 (by omega)
          have hk := hk σ1 hf (by rw [q]; exact a3) (fun _ => by unfold tV; rw [q]; exact a6 (by omega))
          rw [this] at hk; exact hk
        · have := c23 (by omega)
          have hk := hk σ1 hf (by rw [q]; exact a3) (fun w => by omega)
          rw [this] at hk; exact hk
      · intro σ2 e2
        have a3' : σ2.1 49 23 = iI i := by rw [e2, up_m (by omega)]; exact a3
        try simp (disch := omega) only [iI_lit, iL_lit, iI_add, iI_sub, iI_mul, iI_neg, iI_lt, iI_le, iI_eq, iI_tn, iI_div, iI_l, iL_add, iL_sub, iL_mul, iL_neg, iL_le, iL_lt, iL_eq, iL_ite, vp_T, b2_ne0, b2_eq1, nn_imp, true_and, iI_ite, not_true_eq_false, not_false_eq_true, true_implies, false_implies, and_true, Int.reduceLT, Int.reduceLE, Int.reduceEq, or_false, false_or, true_or, or_true, false_and, and_false, a3']
        intro σ3 e3
        have r := rn_t (T := T) (f := fDi) (by decide) (fDi_t.mpr e)
        have r2 := rn_r (T := T) (f := fDi) (by decide) _ (i + 1) rfl
        exact ih (i + 1) σ3 (by omega) (by omega) (by omega) (by rw [e3, e2]; exact Fr_up (Fr_up hf ⟨rfl, Or.inr rfl⟩) ⟨rfl, Or.inl rfl⟩) (by rw [e3]; exact up_h rfl) (fun w => by omega) (by rw [he]; exact r.2) (by rw [he, r.2]; exact r2.1)
      · refine c_X9_here hS T1 hW (by omega) i1 a3 ⟨_, rfl, ?_⟩
        have nb := dig_b (T := T) (s := tS T p) (i := i) (fun q q0 q1 => fDi_t.mp (dg q q0 (by omega))) i0 (by omega)
        have a6 := a6 (by omega)
        try simp (disch := omega) only [iI_lit, iL_lit, iI_add, iI_sub, iI_mul, iI_neg, iI_lt, iI_le, iI_eq, iI_tn, iI_div, iI_l, iL_add, iL_sub, iL_mul, iL_neg, iL_le, iL_lt, iL_eq, iL_ite, vp_T, b2_ne0, b2_eq1, nn_imp, true_and, iI_ite, not_true_eq_false, not_false_eq_true, true_implies, false_implies, and_true, Int.reduceLT, Int.reduceLE, Int.reduceEq, or_false, false_or, true_or, or_true, false_and, and_false, a6]
        intro σ2 e2
        have a3' : σ2.1 49 23 = iI i := by rw [e2, up_m (by omega)]; exact a3
        try simp (disch := omega) only [iI_lit, iL_lit, iI_add, iI_sub, iI_mul, iI_neg, iI_lt, iI_le, iI_eq, iI_tn, iI_div, iI_l, iL_add, iL_sub, iL_mul, iL_neg, iL_le, iL_lt, iL_eq, iL_ite, vp_T, b2_ne0, b2_eq1, nn_imp, true_and, iI_ite, not_true_eq_false, not_false_eq_true, true_implies, false_implies, and_true, Int.reduceLT, Int.reduceLE, Int.reduceEq, or_false, false_or, true_or, or_true, false_and, and_false, a3']
        intro σ3 e3
        have r := rn_t (T := T) (f := fDi) (by decide) (fDi_t.mpr e)
        have r2 := rn_r (T := T) (f := fDi) (by decide) _ (i + 1) rfl
        refine ih (i + 1) σ3 (by omega) (by omega) (by omega) (by rw [e3, e2]; exact Fr_up (Fr_up hf ⟨rfl, Or.inr rfl⟩) ⟨rfl, Or.inl rfl⟩) (by rw [e3]; exact up_h rfl) (fun w => ?_) (by rw [he]; exact r.2) (by rw [he, r.2]; exact r2.1)
        rw [lp_l _ _ i0, e3, up_m (by omega), e2, up_h rfl, Int.mul_comm]
  refine A _ (tS T p) σ0 rfl (Int.le_refl _) sr.2.1 (by rw [e0]; exact Fr_up Fr_rf ⟨rfl, Or.inr rfl⟩) (by rw [e0, up_m (by omega)]; exact h3) (fun _ => by rw [lp_z _ _ (Int.le_refl _), e0]; exact up_h rfl) rfl (by rw [← ee]; exact er.1)
theorem c_X9_next (hS : Sys S) (hT : TRm T σ) (hW : WT T) (hL : WLM σ) (h0 : 0 ≤ p) (h1 : p ≤ (T.length : Nat)) (h3 : σ.1 49 23 = iI p) (hk : ∀ σ', Fr FNX σ σ' → KM T p σ' → Φ [] σ') : S 211 [aR 49] σ Φ := by
  refine m_X9_next hS (fun v hv hw => ?_)
  have l := hW.1
  have sr := tS_r h0 h1
  have er := tE_r hW h0 h1
  have ck := tC_k (T := T) (p := p)
  have A : ∀ (d : Nat) (i : Int) (σ1 : St), ((T.length : Nat) - i).toNat = d → p ≤ i → i ≤ (T.length : Nat) → Fr FNX σ σ1 → σ1.1 49 23 = iI i → rn T fSp p = rn T fSp i → vc_X9_next_0 S Φ v σ1 := by
    intro d
    induction d with
    | zero =>
      intro i σ1 hd i0 i1 hf a3 he
      unfold vc_X9_next_0
      refine c_X9_here hS (TRm_k hT hf) hW (by omega) i1 a3 ⟨_, rfl, ?_⟩
      have q : tS T p = i := by unfold tS; rw [he, rn_f (by rw [hr_o (by omega)]; decide)]
      have e1 : hr T (tS T p) = -1 := hr_o (by omega)
      rw [hr_o (by omega)]
      try simp (disch := omega) only [iI_lit, iL_lit, iI_add, iI_sub, iI_mul, iI_neg, iI_lt, iI_le, iI_eq, iI_tn, iI_div, iI_l, iL_add, iL_sub, iL_mul, iL_neg, iL_le, iL_lt, iL_eq, iL_ite, vp_T, b2_ne0, b2_eq1, nn_imp, true_and, iI_ite, not_true_eq_false, not_false_eq_true, true_implies, false_implies, and_true, Int.reduceLT, Int.reduceLE, Int.reduceEq, or_false, false_or, true_or, or_true, false_and, and_false, a3]
      intro σ3 e3
      have f3 : Fr FNX σ σ3 := by rw [e3]; exact Fr_up hf (by unfold FNX; omega)
      have a3' : σ3.1 49 23 = iI i := by rw [e3, up_m (by omega)]; exact a3
      refine c_X9_here hS (TRm_k hT f3) hW (by omega) i1 a3' ⟨_, rfl, ?_⟩
      rw [hr_o (by omega)]
      have k0 : tC T p = 22 := ck.2.2.mpr (by unfold tK; rw [e1]; rfl)
      try simp (disch := omega) only [iI_lit, iL_lit, iI_add, iI_sub, iI_mul, iI_neg, iI_lt, iI_le, iI_eq, iI_tn, iI_div, iI_l, iL_add, iL_sub, iL_mul, iL_neg, iL_le, iL_lt, iL_eq, iL_ite, vp_T, b2_ne0, b2_eq1, nn_imp, true_and, iI_ite, not_true_eq_false, not_false_eq_true, true_implies, false_implies, and_true, Int.reduceLT, Int.reduceLE, Int.reduceEq, or_false, false_or, true_or, or_true, false_and, and_false]
      intro σ4 e4
      refine hk σ4 (by rw [e4]; exact Fr_up f3 (by unfold FNX; omega)) ⟨by rw [e4, up_h rfl, k0], by rw [e4, up_m (by omega), e3, up_h rfl, q], fun _ => ?_, fun w => by omega⟩
      rw [e4, up_m (by omega), a3']
      unfold tE
      rw [e1, if_neg (by decide), if_neg (by decide), if_pos rfl, q]
    | succ d ih =>
      intro i σ1 hd i0 i1 hf a3 he
      unfold vc_X9_next_0
      refine c_X9_here hS (TRm_k hT hf) hW (by omega) i1 a3 ⟨_, rfl, ?_⟩
      have hb := hr_r hW i
      try simp (disch := omega) only [iI_lit, iL_lit, iI_add, iI_sub, iI_mul, iI_neg, iI_lt, iI_le, iI_eq, iI_tn, iI_div, iI_l, iL_add, iL_sub, iL_mul, iL_neg, iL_le, iL_lt, iL_eq, iL_ite, vp_T, b2_ne0, b2_eq1, nn_imp, true_and, iI_ite, not_true_eq_false, not_false_eq_true, true_implies, false_implies, and_true, Int.reduceLT, Int.reduceLE, Int.reduceEq, or_false, false_or, true_or, or_true, false_and, and_false, a3]
      refine ⟨fun c σ3 e3 => ?_, fun c σ2 e2 => ?_⟩
      · have q : tS T p = i := by unfold tS; rw [he, rn_f (fun w => c (fSp_t.mp w))]
        have f3 : Fr FNX σ σ3 := by rw [e3]; exact Fr_up hf (by unfold FNX; omega)
        have a3' : σ3.1 49 23 = iI i := by rw [e3, up_m (by omega)]; exact a3
        have a4' : σ3.1 49 24 = iI i := by rw [e3]; exact up_h rfl
        refine c_X9_here hS (TRm_k hT f3) hW (by omega) i1 a3' ⟨_, rfl, ?_⟩
        rw [← q] at hb a3' a4' ⊢
        have hn := hr_n hW (i := tS T p) (by omega)
        have hne : ¬ hr T (tS T p) = -1 := fun e => by have := hn.mp e; omega
        try simp (disch := omega) only [iI_lit, iL_lit, iI_add, iI_sub, iI_mul, iI_neg, iI_lt, iI_le, iI_eq, iI_tn, iI_div, iI_l, iL_add, iL_sub, iL_mul, iL_neg, iL_le, iL_lt, iL_eq, iL_ite, vp_T, b2_ne0, b2_eq1, nn_imp, true_and, iI_ite, not_true_eq_false, not_false_eq_true, true_implies, false_implies, and_true, Int.reduceLT, Int.reduceLE, Int.reduceEq, or_false, false_or, true_or, or_true, false_and, and_false]
        refine ⟨fun u => ⟨fun w => ⟨fun x => ⟨fun y σ6 e6 => ?_, fun y => by omega⟩, fun x σ8 e8 => ?_⟩, fun w => ?_⟩, fun u => ?_⟩
        · have a : ¬ fLe (hr T (tS T p)) = true := fun e => u (fLe_t.mp e)
          have b : ¬ fDi (hr T (tS T p)) = true := fun e => w (fDi_t.mp e)
          have k4 : tK T p = 4 := by unfold tK; rw [if_neg a, if_neg b, if_neg x, if_neg hne]
          have c3 : tC T p = 23 := by unfold tC; rw [k4]; rfl
          refine hk σ6 (by rw [e6]; exact Fr_up f3 (by unfold FNX; omega)) ⟨by rw [e6, up_h rfl, c3], by rw [e6, up_m (by omega)]; exact a4', fun z => absurd c3 z, fun z => by omega⟩
        · have a : ¬ fLe (hr T (tS T p)) = true := fun e => u (fLe_t.mp e)
          have b : ¬ fDi (hr T (tS T p)) = true := fun e => w (fDi_t.mp e)
          have c1 : tC T p = 21 := ck.2.1.mpr (by unfold tK; rw [if_neg a, if_neg b, if_pos x])
          have a3'' : σ8.1 49 23 = iI (tS T p) := by rw [e8, up_m (by omega)]; exact a3'
          try simp (disch := omega) only [iI_lit, iL_lit, iI_add, iI_sub, iI_mul, iI_neg, iI_lt, iI_le, iI_eq, iI_tn, iI_div, iI_l, iL_add, iL_sub, iL_mul, iL_neg, iL_le, iL_lt, iL_eq, iL_ite, vp_T, b2_ne0, b2_eq1, nn_imp, true_and, iI_ite, not_true_eq_false, not_false_eq_true, true_implies, false_implies, and_true, Int.reduceLT, Int.reduceLE, Int.reduceEq, or_false, false_or, true_or, or_true, false_and, and_false, a3'']
          intro σ9 e9
          refine hk σ9 (by rw [e9, e8]; exact Fr_up (Fr_up f3 (by unfold FNX; omega)) (by unfold FNX; omega)) ⟨by rw [e9, up_m (by omega), e8, up_h rfl, c1], by rw [e9, up_m (by omega), e8, up_m (by omega)]; exact a4', fun _ => ?_, fun z => by omega⟩
          unfold tE
          rw [if_neg a, if_neg b, if_neg hne, e9]; exact up_h rfl
        · refine c_X9_numberHere hS (TRm_k hT f3) hW h0 h1 (fDi_t.mpr w) a3' a4' (fun σ4 f4 b3 b6 => ⟨_, rfl, fun σ5 e5 => ?_⟩)
          refine hk σ5 (Fr_tr f3 (Fr_tr (Fr_mo f4 (fun k j q => by unfold FNX; omega)) (by rw [e5]; exact Fr_up Fr_rf (by unfold FNX; omega)))) ⟨by rw [e5]; exact up_h rfl, by rw [e5, up_m (by omega), f4.1 _ _ (by omega)]; exact a4', fun _ => by rw [e5, up_m (by omega)]; exact b3, fun z => by rw [e5, up_m (by omega)]; exact b6 z⟩
        · refine c_X9_wordHere hS (TRm_k hT f3) hW (WLM_k hL f3) h0 h1 (fLe_t.mpr u) a3' a4' (fun σ4 f4 b3 => ⟨_, rfl, fun σ5 e5 => ?_⟩)
          have cl : tC T p < 12 ∨ tC T p = 23 := by
            have k1 : tK T p = 1 := by unfold tK; rw [if_pos (fLe_t.mpr u)]
            have := tC_r (T := T) (p := p)
            omega
          refine hk σ5 (Fr_tr f3 (Fr_tr (Fr_mo f4 (fun k j q => by unfold FNX; omega)) (by rw [e5]; exact Fr_up Fr_rf (by unfold FNX; omega)))) ⟨by rw [e5]; exact up_h rfl, by rw [e5, up_m (by omega), f4.1 _ _ (by omega)]; exact a4', fun _ => by rw [e5, up_m (by omega)]; exact b3, fun z => by omega⟩
      · have r := rn_t (T := T) (f := fSp) (by decide) (fSp_t.mpr c)
        exact w_X9_next_0 hS hv hw σ2 (ih (i + 1) σ2 (by omega) (by omega) (by omega) (by rw [e2]; exact Fr_up hf (by unfold FNX; omega)) (by rw [e2]; exact up_h rfl) (by rw [he]; exact r.2))
  exact A _ p σ rfl (Int.le_refl p) h1 Fr_rf h3 rfl
end C30d
