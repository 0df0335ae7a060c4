def isW (T : List Int) (p : Int) (l : List Int) : Prop := tK T p = 1 ∧ wm T l (tS T p) (tE T p)
theorem wm_u {T l l' : List Int} {s e : Int} (h : wm T l s e) (h' : wm T l' s e) : l = l' := by
  have hl : l.length = l'.length := by have a := h.1; have b := h'.1; omega
  refine List.ext_getElem hl (fun i h1 h2 => ?_)
  have a := h.2 i h1
  have b := h'.2 i h2
  rw [List.getElem?_eq_getElem h1] at a
  rw [List.getElem?_eq_getElem h2] at b
  exact a.symm.trans b
theorem wrd_u : ∀ k : Nat, k < 12 → ∀ j : Nat, j < 12 → wrd k = wrd j → k = j := by decide
theorem wrd_u' {k j : Int} (hk : 0 ≤ k ∧ k < 12) (hj : 0 ≤ j ∧ j < 12) (h : wrd k = wrd j) : k = j := by
  have := wrd_u k.toNat (by omega) j.toNat (by omega) (by rw [show ((k.toNat : Nat) : Int) = k by omega, show ((j.toNat : Nat) : Int) = j by omega]; exact h)
  omega
theorem tK_r {T : List Int} {p : Int} : 0 ≤ tK T p ∧ tK T p ≤ 4 := by unfold tK; (repeat' split) <;> omega
theorem tC_w {T : List Int} {p k : Int} (hk : 0 ≤ k ∧ k < 12) : tC T p = k ↔ isW T p (wrd k) := by
  unfold tC isW
  by_cases c : tK T p = 1
  · rw [if_pos c]
    rcases fd_sp (fun k => dec (wm T (wrd k) (tS T p) (tE T p))) (h := 0) (n := 12) (by omega) (by omega) with ⟨q, w⟩ | ⟨q1, q2, q3, _⟩
    · rw [if_pos q]
      exact ⟨fun e => by omega, fun e => absurd e.2 (dec_f.mp (w k hk.1 hk.2))⟩
    · rw [if_neg (by omega)]
      have q3 := dec_t.mp q3
      constructor
      · intro e; rw [e] at q3; exact ⟨c, q3⟩
      · intro e; exact wrd_u' ⟨q1, q2⟩ hk (wm_u q3 e.2)
  · rw [if_neg c]
    exact ⟨fun e => by (repeat' split at e) <;> omega, fun e => absurd e.1 c⟩
theorem tC_r {T : List Int} {p : Int} : (0 ≤ tC T p ∧ tC T p < 12) ∨ (20 ≤ tC T p ∧ tC T p ≤ 23) := by
  unfold tC
  by_cases c : tK T p = 1
  · rw [if_pos c]
    rcases fd_sp (fun k => dec (wm T (wrd k) (tS T p) (tE T p))) (h := 0) (n := 12) (by omega) (by omega) with ⟨q, w⟩ | ⟨q1, q2, q3, _⟩
    · rw [if_pos q]; omega
    · rw [if_neg (by omega)]; omega
  · rw [if_neg c]; (repeat' split) <;> omega
theorem tC_k {T : List Int} {p : Int} : (tC T p = 20 ↔ tK T p = 2) ∧ (tC T p = 21 ↔ tK T p = 3) ∧ (tC T p = 22 ↔ tK T p = 0) := by
  have r := tK_r (T := T) (p := p)
  by_cases c : tK T p = 1
  · have h : tC T p < 12 ∨ tC T p = 23 := by
      unfold tC
      rw [if_pos c]
      rcases fd_sp (fun k => dec (wm T (wrd k) (tS T p) (tE T p))) (h := 0) (n := 12) (by omega) (by omega) with ⟨q, w⟩ | ⟨q1, q2, q3, _⟩
      · rw [if_pos q]; omega
      · rw [if_neg (by omega)]; omega
    omega
  · unfold tC
    rw [if_neg c]
    refine ⟨?_, ?_, ?_⟩ <;> (repeat' split) <;> omega
theorem tV_r {T : List Int} (hW : WT T) {p : Int} (h0 : 0 ≤ p) (h1 : p ≤ (T.length : Nat)) (h : tK T p = 2) : (∀ i, tS T p ≤ i → i < tE T p → 48 ≤ hr T i ∧ hr T i ≤ 57) ∧ tE T p - tS T p ≤ 4 := by
  unfold tK at h
  by_cases a : fLe (hr T (tS T p)) = true
  · rw [if_pos a] at h; omega
  · rw [if_neg a] at h
    by_cases b : fDi (hr T (tS T p)) = true
    · rw [if_pos b] at h
      refine ⟨fun i i0 i1 => ?_, by split at h <;> omega⟩
      unfold tE at i1
      rw [if_neg a, if_pos b] at i1
      exact fDi_t.mp ((rn_r (T := T) (f := fDi) (by decide) _ (tS T p) rfl).2.2.1 i i0 i1)
    · rw [if_neg b] at h
      (repeat' split at h) <;> omega
def vOf (c : Int) : Int := if c = 0 then 0 else if c = 6 then 1 else if c = 8 then 2 else if c = 9 then 3 else if c = 10 then 4 else if c = 11 then 5 else -2
def mv (v : Int) : Int := if v = 0 then 0 else if v = 1 then 6 else v + 6
theorem sb_mv : ∀ v : Nat, v < 6 → sb (200 + v) = wrd (mv v) := by decide
/-- what a token is worth where a shape asks -/
noncomputable def vlu (T : List Int) (ch p : Int) : Int := if ch = 107 then (if tC T p ≤ 5 then tC T p else -2) else if ch = 102 ∧ tC T p = 7 then -1 else if tC T p = 20 then tV T p else -2
/-- a number's value, digit by digit -/
theorem tV_b {T : List Int} (hW : WT T) {p : Int} (h0 : 0 ≤ p) (h1 : p ≤ (T.length : Nat)) (h : tK T p = 2) {i : Int} (i0 : tS T p ≤ i) (i1 : i ≤ tE T p) : 0 ≤ lp (fun i a => a * 10 + hr T i - 48) (tS T p) i 0 ∧ lp (fun i a => a * 10 + hr T i - 48) (tS T p) i 0 ≤ 9999 ∧ (i < tE T p → lp (fun i a => a * 10 + hr T i - 48) (tS T p) i 0 ≤ 999) := by
  have r := tV_r hW h0 h1 h
  have := lp_inv (f := fun i a => a * 10 + hr T i - 48) (a := 0) (fun i (a : Int) => (i = tS T p ∧ a = 0) ∨ (i = tS T p + 1 ∧ 0 ≤ a ∧ a ≤ 9) ∨ (i = tS T p + 2 ∧ 0 ≤ a ∧ a ≤ 99) ∨ (i = tS T p + 3 ∧ 0 ≤ a ∧ a ≤ 999) ∨ (i = tS T p + 4 ∧ 0 ≤ a ∧ a ≤ 9999)) _ rfl i0 (Or.inl ⟨rfl, rfl⟩) (fun k a k0 k1 ha => by
    have b := r.1 k k0 (by omega)
    omega)
  omega
section C30c
variable {S : Sp} {σ : St} {Φ : Rs} {T : List Int} {p : Int}
theorem c_X4_isWordHere (hS : Sys S) (hT0 : SysT S) (hT : TRc T σ) (hW : WT T) (h0 : 0 ≤ p) (h1 : p ≤ (T.length : Nat)) (hK : KC T p σ) {w : Nat} (hw' : isStr w) (hY : isW T p (sb w) → Φ [aI (iI 1)] σ) (hN : ¬ isW T p (sb w) → Φ [aI (iI 0)] σ) : S 62 [aR 36, aR w] σ Φ := by
  refine m_X4_isWordHere hS hw' (fun v hv hw => ?_)
  have l := hW.1
  have sr := tS_r h0 h1
  have er := tE_r hW h0 h1
  have kr := tK_r (T := T) (p := p)
  obtain ⟨k6, k7, k8⟩ := hK
  have sz := hT.1
  have sbl := sbw_b (w - 200) (by have : strN = 15 := rfl; unfold isStr at hw'; omega)
  rw [show 200 + (w - 200) = w by unfold isStr at hw'; omega] at sbl
  unfold vc_X4_isWordHere_0
  try simp (disch := omega) only [iI_lit, iL_lit, iI_add, iI_sub, iI_mul, iI_neg, iI_lt, iI_le, iI_eq, iI_tn, iI_div, iI_l, iL_add, iL_sub, iL_mul, iL_neg, iL_le, iL_lt, iL_eq, iL_ite, vp_T, b2_ne0, b2_eq1, nn_imp, true_and, iI_ite, not_true_eq_false, not_false_eq_true, true_implies, false_implies, and_true, Int.reduceLT, Int.reduceLE, Int.reduceEq, or_false, false_or, true_or, or_true, false_and, and_false, k6]
  refine ⟨fun c => hN (fun q => c q.1), fun c => ?_⟩
  refine hT0.1 w σ _ hw' ⟨_, rfl, ?_⟩
  try simp (disch := omega) only [iI_lit, iL_lit, iI_add, iI_sub, iI_mul, iI_neg, iI_lt, iI_le, iI_eq, iI_tn, iI_div, iI_l, iL_add, iL_sub, iL_mul, iL_neg, iL_le, iL_lt, iL_eq, iL_ite, vp_T, b2_ne0, b2_eq1, nn_imp, true_and, iI_ite, not_true_eq_false, not_false_eq_true, true_implies, false_implies, and_true, Int.reduceLT, Int.reduceLE, Int.reduceEq, or_false, false_or, true_or, or_true, false_and, and_false, k7, k8]
  refine ⟨fun d => ?_, fun d => hN (fun q => d q.2.1)⟩
  have A : ∀ (m i : Nat), (sb w).length - i = m → i ≤ (sb w).length → (∀ j : Nat, j < i → hr T (tS T p + j) = (sb w)[j]?.getD 0) → v 28 [some (aR 36), some (aR w), some (aI (iI i))] [] σ := by
    intro m
    induction m with
    | zero =>
      intro i hd hi hj
      refine w_X4_isWordHere_28 hS hv hw w hw' _ σ ?_
      unfold vc_X4_isWordHere_28
      refine hT0.1 w σ _ hw' ⟨_, rfl, ?_⟩
      try simp (disch := omega) only [iI_lit, iL_lit, iI_add, iI_sub, iI_mul, iI_neg, iI_lt, iI_le, iI_eq, iI_tn, iI_div, iI_l, iL_add, iL_sub, iL_mul, iL_neg, iL_le, iL_lt, iL_eq, iL_ite, vp_T, b2_ne0, b2_eq1, nn_imp, true_and, iI_ite, not_true_eq_false, not_false_eq_true, true_implies, false_implies, and_true, Int.reduceLT, Int.reduceLE, Int.reduceEq, or_false, false_or, true_or, or_true, false_and, and_false]
      refine ⟨fun _ => hY ⟨c, d, fun j hj2 => hj j (by omega)⟩, fun c => by omega⟩
    | succ m ih =>
      intro i hd hi hj
      refine w_X4_isWordHere_28 hS hv hw w hw' _ σ ?_
      unfold vc_X4_isWordHere_28
      refine hT0.1 w σ _ hw' ⟨_, rfl, ?_⟩
      have tb := TRc_b hT (i := tS T p + i) (by omega) (by omega)
      have hb := hr_r hW (tS T p + i)
      have sbi := sbl.2 i (by omega)
      try simp (disch := omega) only [iI_lit, iL_lit, iI_add, iI_sub, iI_mul, iI_neg, iI_lt, iI_le, iI_eq, iI_tn, iI_div, iI_l, iL_add, iL_sub, iL_mul, iL_neg, iL_le, iL_lt, iL_eq, iL_ite, vp_T, b2_ne0, b2_eq1, nn_imp, true_and, iI_ite, not_true_eq_false, not_false_eq_true, true_implies, false_implies, and_true, Int.reduceLT, Int.reduceLE, Int.reduceEq, or_false, false_or, true_or, or_true, false_and, and_false, k7, sz, tb]
      refine ⟨fun e => by omega, fun _ => ⟨fun e => by omega, fun _ => ?_⟩⟩
      refine hT0.2 w i σ _ hw' (by omega) (by omega) ⟨_, rfl, ?_⟩
      rw [show ((i : Nat) : Int).toNat = i by omega]
      try simp (disch := omega) only [iI_lit, iL_lit, iI_add, iI_sub, iI_mul, iI_neg, iI_lt, iI_le, iI_eq, iI_tn, iI_div, iI_l, iL_add, iL_sub, iL_mul, iL_neg, iL_le, iL_lt, iL_eq, iL_ite, vp_T, b2_ne0, b2_eq1, nn_imp, true_and, iI_ite, not_true_eq_false, not_false_eq_true, true_implies, false_implies, and_true, Int.reduceLT, Int.reduceLE, Int.reduceEq, or_false, false_or, true_or, or_true, false_and, and_false]
      refine ⟨fun e => ih (i + 1) (by omega) (by omega) (fun j hj2 => ?_), fun e => hN (fun q => e (q.2.2 i (by omega)))⟩
      by_cases q : j = i
      · subst q; exact e
      · exact hj j (by omega)
  exact A _ 0 rfl (by omega) (fun j hj => by omega)
theorem c_X4_numberHere (hS : Sys S) (hT : TRc T σ) (hW : WT T) (h0 : 0 ≤ p) (h1 : p ≤ (T.length : Nat)) (hK : KC T p σ) (h2 : tK T p = 2) (hk : Φ [aI (iI (tV T p))] σ) : S 61 [aR 36] σ Φ := by
  refine m_X4_numberHere hS (fun v hv hw => ?_)
  have l := hW.1
  have sr := tS_r h0 h1
  have er := tE_r hW h0 h1
  obtain ⟨k6, k7, k8⟩ := hK
  have sz := hT.1
  have r := tV_r hW h0 h1 h2
  unfold vc_X4_numberHere_0
  rw [k7]
  have A : ∀ (d : Nat) (i : Int), (tE T p - i).toNat = d → tS T p ≤ i → i ≤ tE T p → v 7 [some (aR 36), some (aI (iI (lp (fun i a => a * 10 + hr T i - 48) (tS T p) i 0))), some (aI (iI i))] [] σ := by
    intro d
    induction d with
    | zero =>
      intro i hd i0 i1
      refine w_X4_numberHere_7 hS hv hw _ _ σ ?_
      unfold vc_X4_numberHere_7
      have q : i = tE T p := by omega
      subst q
      try simp (disch := omega) only [iI_lit, iL_lit, iI_add, iI_sub, iI_mul, iI_neg, iI_lt, iI_le, iI_eq, iI_tn, iI_div, iI_l, iL_add, iL_sub, iL_mul, iL_neg, iL_le, iL_lt, iL_eq, iL_ite, vp_T, b2_ne0, b2_eq1, nn_imp, true_and, iI_ite, not_true_eq_false, not_false_eq_true, true_implies, false_implies, and_true, Int.reduceLT, Int.reduceLE, Int.reduceEq, or_false, false_or, true_or, or_true, false_and, and_false, k8]
      exact ⟨fun _ => hk, fun c => by omega⟩
    | succ d ih =>
      intro i hd i0 i1
      refine w_X4_numberHere_7 hS hv hw _ _ σ ?_
      unfold vc_X4_numberHere_7
      have tb := TRc_b hT (i := i) (by omega) (by omega)
      have vb := tV_b hW h0 h1 h2 i0 i1
      have i' := ih (i + 1) (by omega) (by omega) (by omega)
      rw [lp_l _ _ i0] at i'
      try simp (disch := omega) only [iI_lit, iL_lit, iI_add, iI_sub, iI_mul, iI_neg, iI_lt, iI_le, iI_eq, iI_tn, iI_div, iI_l, iL_add, iL_sub, iL_mul, iL_neg, iL_le, iL_lt, iL_eq, iL_ite, vp_T, b2_ne0, b2_eq1, nn_imp, true_and, iI_ite, not_true_eq_false, not_false_eq_true, true_implies, false_implies, and_true, Int.reduceLT, Int.reduceLE, Int.reduceEq, or_false, false_or, true_or, or_true, false_and, and_false, k8, sz, tb]
      exact ⟨fun c => by omega, fun _ => ⟨fun c => by omega, fun _ => i'⟩⟩
  have := A _ (tS T p) rfl (Int.le_refl _) er.1
  rw [lp_z _ _ (Int.le_refl _)] at this
  exact this
theorem c_X4_verbWord (hS : Sys S) {k : Int} (hk0 : 0 ≤ k ∧ k ≤ 5) (hk : Φ [aR (200 + k.toNat)] σ) : S 56 [aI (iI k)] σ Φ := by
  refine m_X4_verbWord hS (fun v hv hw => ?_)
  unfold vc_X4_verbWord_0
  rcases (show k = 0 ∨ k = 1 ∨ k = 2 ∨ k = 3 ∨ k = 4 ∨ k = 5 by omega) with e | e | e | e | e | e <;> subst e <;> try simp (disch := omega) only [iI_lit, iL_lit, iI_add, iI_sub, iI_mul, iI_neg, iI_lt, iI_le, iI_eq, iI_tn, iI_div, iI_l, iL_add, iL_sub, iL_mul, iL_neg, iL_le, iL_lt, iL_eq, iL_ite, vp_T, b2_ne0, b2_eq1, nn_imp, true_and, iI_ite, not_true_eq_false, not_false_eq_true, true_implies, false_implies, and_true, Int.reduceLT, Int.reduceLE, Int.reduceEq, or_false, false_or, true_or, or_true, false_and, and_false] <;> exact hk
theorem c_X4_verbHere (hS : Sys S) (hT0 : SysT S) (hT : TRc T σ) (hW : WT T) (h0 : 0 ≤ p) (h1 : p ≤ (T.length : Nat)) (hK : KC T p σ) (hk : Φ [aI (iI (vOf (tC T p)))] σ) : S 58 [aR 36] σ Φ := by
  refine m_X4_verbHere hS (fun v hv hw => ?_)
  unfold vc_X4_verbHere_0
  have A : ∀ (d : Nat) (i : Int), (6 - i).toNat = d → 0 ≤ i → i ≤ 6 → (∀ j, 0 ≤ j → j < i → ¬ tC T p = mv j) → v 2 [some (aR 36), some (aI (iI i))] [] σ := by
    intro d
    induction d with
    | zero =>
      intro i hd i0 i1 hj
      refine w_X4_verbHere_2 hS hv hw _ σ ?_
      unfold vc_X4_verbHere_2
      have q : i = 6 := by omega
      subst q
      have j0 := hj 0 (by omega) (by omega)
      have j1 := hj 1 (by omega) (by omega)
      have j2 := hj 2 (by omega) (by omega)
      have j3 := hj 3 (by omega) (by omega)
      have j4 := hj 4 (by omega) (by omega)
      have j5 := hj 5 (by omega) (by omega)
      unfold mv at j0 j1 j2 j3 j4 j5
      simp at j0 j1 j2 j3 j4 j5
      unfold vOf at hk
      rw [if_neg j0, if_neg j1, if_neg j2, if_neg j3, if_neg j4, if_neg j5] at hk
      try simp (disch := omega) only [iI_lit, iL_lit, iI_add, iI_sub, iI_mul, iI_neg, iI_lt, iI_le, iI_eq, iI_tn, iI_div, iI_l, iL_add, iL_sub, iL_mul, iL_neg, iL_le, iL_lt, iL_eq, iL_ite, vp_T, b2_ne0, b2_eq1, nn_imp, true_and, iI_ite, not_true_eq_false, not_false_eq_true, true_implies, false_implies, and_true, Int.reduceLT, Int.reduceLE, Int.reduceEq, or_false, false_or, true_or, or_true, false_and, and_false]
      exact hk
    | succ d ih =>
      intro i hd i0 i1 hj
      refine w_X4_verbHere_2 hS hv hw _ σ ?_
      unfold vc_X4_verbHere_2
      try simp (disch := omega) only [iI_lit, iL_lit, iI_add, iI_sub, iI_mul, iI_neg, iI_lt, iI_le, iI_eq, iI_tn, iI_div, iI_l, iL_add, iL_sub, iL_mul, iL_neg, iL_le, iL_lt, iL_eq, iL_ite, vp_T, b2_ne0, b2_eq1, nn_imp, true_and, iI_ite, not_true_eq_false, not_false_eq_true, true_implies, false_implies, and_true, Int.reduceLT, Int.reduceLE, Int.reduceEq, or_false, false_or, true_or, or_true, false_and, and_false]
      refine ⟨fun c => by omega, fun _ => ?_⟩
      have hs : isStr (200 + i.toNat) := by have : strN = 15 := rfl; unfold isStr; omega
      refine c_X4_verbWord hS (by omega) ⟨_, rfl, hs, ?_⟩
      have sm := sb_mv i.toNat (by omega)
      rw [show ((i.toNat : Nat) : Int) = i by omega] at sm
      have tw := tC_w (T := T) (p := p) (k := mv i) (by unfold mv; (repeat' split) <;> omega)
      rw [← sm] at tw
      refine c_X4_isWordHere hS hT0 hT hW h0 h1 hK hs (fun c => ⟨_, rfl, ?_⟩) (fun c => ⟨_, rfl, ?_⟩)
      · rw [← tw] at c
        try simp (disch := omega) only [iI_lit, iL_lit, iI_add, iI_sub, iI_mul, iI_neg, iI_lt, iI_le, iI_eq, iI_tn, iI_div, iI_l, iL_add, iL_sub, iL_mul, iL_neg, iL_le, iL_lt, iL_eq, iL_ite, vp_T, b2_ne0, b2_eq1, nn_imp, true_and, iI_ite, not_true_eq_false, not_false_eq_true, true_implies, false_implies, and_true, Int.reduceLT, Int.reduceLE, Int.reduceEq, or_false, false_or, true_or, or_true, false_and, and_false]
        rw [c, show vOf (mv i) = i by unfold vOf mv; rcases (show i = 0 ∨ i = 1 ∨ i = 2 ∨ i = 3 ∨ i = 4 ∨ i = 5 by omega) with e | e | e | e | e | e <;> subst e <;> rfl] at hk
        exact hk
      · rw [← tw] at c
        try simp (disch := omega) only [iI_lit, iL_lit, iI_add, iI_sub, iI_mul, iI_neg, iI_lt, iI_le, iI_eq, iI_tn, iI_div, iI_l, iL_add, iL_sub, iL_mul, iL_neg, iL_le, iL_lt, iL_eq, iL_ite, vp_T, b2_ne0, b2_eq1, nn_imp, true_and, iI_ite, not_true_eq_false, not_false_eq_true, true_implies, false_implies, and_true, Int.reduceLT, Int.reduceLE, Int.reduceEq, or_false, false_or, true_or, or_true, false_and, and_false]
        refine ih (i + 1) (by omega) (by omega) (by omega) (fun j j0 j1 => ?_)
        by_cases q : j = i
        · subst q; exact c
        · exact hj j j0 (by omega)
  rw [iI_lit]
  exact A _ 0 rfl (Int.le_refl 0) (by omega) (fun j a b => by omega)
theorem c_X4_kindHere (hS : Sys S) (hT0 : SysT S) (hT : TRc T σ) (hW : WT T) (h0 : 0 ≤ p) (h1 : p ≤ (T.length : Nat)) (hK : KC T p σ) (hk : Φ [aI (iI (if tC T p ≤ 5 then tC T p else -2))] σ) : S 60 [aR 36] σ Φ := by
  refine m_X4_kindHere hS (fun v hv hw => ?_)
  unfold vc_X4_kindHere_0
  have cr := tC_r (T := T) (p := p)
  have A : ∀ (d : Nat) (i : Int), (6 - i).toNat = d → 0 ≤ i → i ≤ 6 → i ≤ tC T p → v 2 [some (aR 36), some (aI (iI i))] [] σ := by
    intro d
    induction d with
    | zero =>
      intro i hd i0 i1 hj
      refine w_X4_kindHere_2 hS hv hw _ σ ?_
      unfold vc_X4_kindHere_2
      rw [if_neg (by omega)] at hk
      try simp (disch := omega) only [iI_lit, iL_lit, iI_add, iI_sub, iI_mul, iI_neg, iI_lt, iI_le, iI_eq, iI_tn, iI_div, iI_l, iL_add, iL_sub, iL_mul, iL_neg, iL_le, iL_lt, iL_eq, iL_ite, vp_T, b2_ne0, b2_eq1, nn_imp, true_and, iI_ite, not_true_eq_false, not_false_eq_true, true_implies, false_implies, and_true, Int.reduceLT, Int.reduceLE, Int.reduceEq, or_false, false_or, true_or, or_true, false_and, and_false]
      exact ⟨fun _ => hk, fun c => by omega⟩
    | succ d ih =>
      intro i hd i0 i1 hj
      refine w_X4_kindHere_2 hS hv hw _ σ ?_
      unfold vc_X4_kindHere_2
      try simp (disch := omega) only [iI_lit, iL_lit, iI_add, iI_sub, iI_mul, iI_neg, iI_lt, iI_le, iI_eq, iI_tn, iI_div, iI_l, iL_add, iL_sub, iL_mul, iL_neg, iL_le, iL_lt, iL_eq, iL_ite, vp_T, b2_ne0, b2_eq1, nn_imp, true_and, iI_ite, not_true_eq_false, not_false_eq_true, true_implies, false_implies, and_true, Int.reduceLT, Int.reduceLE, Int.reduceEq, or_false, false_or, true_or, or_true, false_and, and_false]
      refine ⟨fun c => by omega, fun _ => ?_⟩
      have ks := kwd_s (k := i) (by omega)
      refine c_X1_word hS (by omega) ⟨_, rfl, ks.1, ?_⟩
      refine c_X4_isWordHere hS hT0 hT hW h0 h1 hK ks.1 (fun c => ⟨_, rfl, ?_⟩) (fun c => ⟨_, rfl, ?_⟩)
      · rw [ks.2, ← tC_w (by omega)] at c
        try simp (disch := omega) only [iI_lit, iL_lit, iI_add, iI_sub, iI_mul, iI_neg, iI_lt, iI_le, iI_eq, iI_tn, iI_div, iI_l, iL_add, iL_sub, iL_mul, iL_neg, iL_le, iL_lt, iL_eq, iL_ite, vp_T, b2_ne0, b2_eq1, nn_imp, true_and, iI_ite, not_true_eq_false, not_false_eq_true, true_implies, false_implies, and_true, Int.reduceLT, Int.reduceLE, Int.reduceEq, or_false, false_or, true_or, or_true, false_and, and_false]
        rw [if_pos (by omega), c] at hk; exact hk
      · rw [ks.2, ← tC_w (by omega)] at c
        try simp (disch := omega) only [iI_lit, iL_lit, iI_add, iI_sub, iI_mul, iI_neg, iI_lt, iI_le, iI_eq, iI_tn, iI_div, iI_l, iL_add, iL_sub, iL_mul, iL_neg, iL_le, iL_lt, iL_eq, iL_ite, vp_T, b2_ne0, b2_eq1, nn_imp, true_and, iI_ite, not_true_eq_false, not_false_eq_true, true_implies, false_implies, and_true, Int.reduceLT, Int.reduceLE, Int.reduceEq, or_false, false_or, true_or, or_true, false_and, and_false]
        exact ih (i + 1) (by omega) (by omega) (by omega) (by omega)
  rw [iI_lit]
  exact A _ 0 rfl (Int.le_refl 0) (by omega) (by omega)
theorem c_X4_valueHere (hS : Sys S) (hT0 : SysT S) (hT : TRc T σ) (hW : WT T) (h0 : 0 ≤ p) (h1 : p ≤ (T.length : Nat)) (hK : KC T p σ) {ch : Int} (hc : 0 ≤ ch ∧ ch ≤ 127) (hk : Φ [aI (iI (vlu T ch p))] σ) : S 59 [aR 36, aI (iI ch)] σ Φ := by
  refine m_X4_valueHere hS (fun v hv hw => ?_)
  have kr := tK_r (T := T) (p := p)
  have ck := (tC_k (T := T) (p := p)).1
  have k6 := hK.1
  unfold vlu at hk
  have T28 : ∀ (c : Int), Φ [aI (iI (if tC T p = 20 then tV T p else -2))] σ → vc_X4_valueHere_28 S Φ v (iI c) σ := by
    intro c hk2
    unfold vc_X4_valueHere_28
    try simp (disch := omega) only [iI_lit, iL_lit, iI_add, iI_sub, iI_mul, iI_neg, iI_lt, iI_le, iI_eq, iI_tn, iI_div, iI_l, iL_add, iL_sub, iL_mul, iL_neg, iL_le, iL_lt, iL_eq, iL_ite, vp_T, b2_ne0, b2_eq1, nn_imp, true_and, iI_ite, not_true_eq_false, not_false_eq_true, true_implies, false_implies, and_true, Int.reduceLT, Int.reduceLE, Int.reduceEq, or_false, false_or, true_or, or_true, false_and, and_false, k6]
    refine ⟨fun q => ?_, fun q => ?_⟩
    · rw [if_neg (fun z => q (ck.mp z))] at hk2; exact hk2
    · rw [if_pos (ck.mpr q)] at hk2
      exact c_X4_numberHere hS hT hW h0 h1 hK q ⟨_, rfl, hk2⟩
  unfold vc_X4_valueHere_0
  try simp (disch := omega) only [iI_lit, iL_lit, iI_add, iI_sub, iI_mul, iI_neg, iI_lt, iI_le, iI_eq, iI_tn, iI_div, iI_l, iL_add, iL_sub, iL_mul, iL_neg, iL_le, iL_lt, iL_eq, iL_ite, vp_T, b2_ne0, b2_eq1, nn_imp, true_and, iI_ite, not_true_eq_false, not_false_eq_true, true_implies, false_implies, and_true, Int.reduceLT, Int.reduceLE, Int.reduceEq, or_false, false_or, true_or, or_true, false_and, and_false]
  refine ⟨fun c => ⟨fun d => ?_, fun d => ?_⟩, fun c => ?_⟩
  · rw [if_neg c, if_neg (fun z => d z.1)] at hk
    exact T28 ch hk
  · rw [if_neg c] at hk
    refine c_X4_isWordHere hS hT0 hT hW h0 h1 hK (w := 214) (by unfold isStr; decide) (fun e => ⟨_, rfl, ?_⟩) (fun e => ⟨_, rfl, ?_⟩)
    · rw [show sb 214 = wrd 7 from rfl, ← tC_w (by omega)] at e
      try simp (disch := omega) only [iI_lit, iL_lit, iI_add, iI_sub, iI_mul, iI_neg, iI_lt, iI_le, iI_eq, iI_tn, iI_div, iI_l, iL_add, iL_sub, iL_mul, iL_neg, iL_le, iL_lt, iL_eq, iL_ite, vp_T, b2_ne0, b2_eq1, nn_imp, true_and, iI_ite, not_true_eq_false, not_false_eq_true, true_implies, false_implies, and_true, Int.reduceLT, Int.reduceLE, Int.reduceEq, or_false, false_or, true_or, or_true, false_and, and_false]
      rw [if_pos ⟨d, e⟩] at hk; exact hk
    · rw [show sb 214 = wrd 7 from rfl, ← tC_w (by omega)] at e
      try simp (disch := omega) only [iI_lit, iL_lit, iI_add, iI_sub, iI_mul, iI_neg, iI_lt, iI_le, iI_eq, iI_tn, iI_div, iI_l, iL_add, iL_sub, iL_mul, iL_neg, iL_le, iL_lt, iL_eq, iL_ite, vp_T, b2_ne0, b2_eq1, nn_imp, true_and, iI_ite, not_true_eq_false, not_false_eq_true, true_implies, false_implies, and_true, Int.reduceLT, Int.reduceLE, Int.reduceEq, or_false, false_or, true_or, or_true, false_and, and_false]
      rw [if_neg (fun z => e z.2)] at hk
      exact T28 ch hk
  · rw [if_pos c] at hk
    exact c_X4_kindHere hS hT0 hT hW h0 h1 hK ⟨_, rfl, hk⟩
end C30c
