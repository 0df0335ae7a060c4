/-! the four lists -/
def Gr (c : Nat → Nat → Prop) (d : Nat → Prop) (σ σ' : St) : Prop := (∀ k j, ¬ c k j → σ'.1 k j = σ.1 k j) ∧ (∀ k, ¬ d k → σ'.2 k = σ.2 k)
theorem Gr_rf {c : Nat → Nat → Prop} {d : Nat → Prop} {σ : St} : Gr c d σ σ := ⟨fun _ _ _ => rfl, fun _ _ => rfl⟩
theorem Gr_tr {c : Nat → Nat → Prop} {d : Nat → Prop} {σ σ1 σ2 : St} (h1 : Gr c d σ σ1) (h2 : Gr c d σ1 σ2) : Gr c d σ σ2 := ⟨fun k j hn => (h2.1 k j hn).trans (h1.1 k j hn), fun k hn => (h2.2 k hn).trans (h1.2 k hn)⟩
theorem Gr_mo {c c' : Nat → Nat → Prop} {d d' : Nat → Prop} {σ σ' : St} (h : Gr c d σ σ') (hm : ∀ k j, c k j → c' k j) (hd : ∀ k, d k → d' k) : Gr c' d' σ σ' := ⟨fun k j hn => h.1 k j (fun q => hn (hm k j q)), fun k hn => h.2 k (fun q => hn (hd k q))⟩
theorem Fr_Gr {c : Nat → Nat → Prop} {d : Nat → Prop} {σ σ' : St} (h : Fr c σ σ') : Gr c d σ σ' := ⟨h.1, fun k _ => by rw [h.2]⟩
theorem Gr_Fr {c : Nat → Nat → Prop} {d : Nat → Prop} {σ σ' : St} (h : Gr c d σ σ') : Fr c σ (σ'.1, σ.2) := ⟨h.1, rfl⟩
theorem Gr_upI {c : Nat → Nat → Prop} {d : Nat → Prop} {σ σ' : St} {a j : Nat} {x : Int32} (h : Gr c d σ σ') (hc : c a j) : Gr c d σ (upI σ' a j x) :=
  ⟨fun k i hn => ((Fr_up (c := c) (σ := σ') Fr_rf hc).1 k i hn).trans (h.1 k i hn), h.2⟩
theorem uj_h {σ : St} {a i j : Nat} {x : Int64} (h : i = j) : (upJ σ a j x).2 a i = x := by
  show (if a = a then vp_updL (σ.2 a) j x else σ.2 a) i = x
  rw [if_pos rfl]; exact if_pos h
theorem uj_m {σ : St} {a i j : Nat} {x : Int64} (h : ¬ i = j) : (upJ σ a j x).2 a i = σ.2 a i := by
  show (if a = a then vp_updL (σ.2 a) j x else σ.2 a) i = _
  rw [if_pos rfl]; exact if_neg h
theorem uj_n {σ : St} {a k j : Nat} {x : Int64} (h : ¬ k = a) : (upJ σ a j x).2 k = σ.2 k := if_neg h
theorem Gr_upJ {c : Nat → Nat → Prop} {d : Nat → Prop} {σ σ' : St} {a j : Nat} {x : Int64} (h : Gr c d σ σ') (hc : d a) : Gr c d σ (upJ σ' a j x) :=
  ⟨h.1, fun k hn => (uj_n (fun e => hn (by rw [e]; exact hc))).trans (h.2 k hn)⟩
abbrev Ls : Type := (Int → Int) × (Int → Int → Int64)
def okL (L : Ls) : Prop := ∀ l, 0 ≤ l → l < 4 → -1 ≤ L.1 l ∧ L.1 l ≤ 40
def LC (L : Ls) (σ : St) : Prop := ∀ l : Int, 0 ≤ l → l < 4 → σ.1 47 l.toNat = iI (L.1 l) ∧ ∀ i : Int, 0 ≤ i → i < 40 → σ.2 (43 + l.toNat) i.toNat = L.2 l i
def LM (L : Ls) (σ : St) : Prop := ∀ l : Int, 0 ≤ l → l < 4 → σ.1 65 l.toNat = iI (L.1 l) ∧ ∀ i : Int, 0 ≤ i → i < 40 → σ.2 64 (40 * l + i).toNat = L.2 l i
abbrev isL (l : Int) : Prop := 0 ≤ l ∧ l < 4
/-- a list's items anew -/
def setL (L : Ls) (l : Int) (f : Int → Int64) : Ls := (L.1, fun k => if k = l then f else L.2 k)
def aList (l n : Int) : Int := if ¬ isL l then -1 else if 40 < n then -2 else if n < -1 then -14 else 1
def nList (l n : Int) (L : Ls) : Ls := if isL l ∧ -1 ≤ n ∧ n ≤ 40 then (fun k => if k = l then n else L.1 k, fun k => if k = l then fun _ => 0 else L.2 k) else L
def aPut (l i : Int) (L : Ls) : Int := if ¬ isL l then -1 else if L.1 l = -1 then -11 else if 0 ≤ i ∧ i < L.1 l then 1 else -12
def nPut (l i : Int) (x : Int64) (L : Ls) : Ls := if isL l ∧ 0 ≤ i ∧ i < L.1 l then setL L l (fun k => if k = i then x else L.2 l k) else L
def aGet (l i : Int) (L : Ls) : Int64 := if isL l ∧ 0 ≤ i ∧ i < L.1 l then L.2 l i else -9223372036854775808
theorem nList_ok {l n : Int} {L : Ls} (h : okL L) : okL (nList l n L) := by
  unfold nList
  split
  · next c => intro k k0 k1; dsimp only; split; exact c.2; exact h k k0 k1
  · exact h
theorem nPut_ok {l i : Int} {x : Int64} {L : Ls} (h : okL L) : okL (nPut l i x L) := by
  unfold nPut setL
  split
  · exact h
  · exact h
def DC : Nat → Prop := fun k => 43 ≤ k ∧ k ≤ 46
def DM : Nat → Prop := fun k => k = 64 ∨ k = 67
theorem arrL {l : Int} (h : isL l) : isArr 4 (43 + l.toNat) 40 := by
  unfold isL at h
  rcases (show l = 0 ∨ l = 1 ∨ l = 2 ∨ l = 3 by omega) with e | e | e | e <;> subst e <;> exact ⟨rfl, rfl, by decide⟩
section C28
variable {S : Sp} {σ : St} {Φ : Rs} {P : Pl} {L : Ls}
theorem LC_f {c : Nat → Nat → Prop} {d : Nat → Prop} {σ' : St} (h : LC L σ) (hf : Gr c d σ σ') (h1 : ∀ j, ¬ c 47 j) (h2 : ∀ k, 43 ≤ k → k ≤ 46 → ¬ d k) : LC L σ' := by
  intro l l0 l1
  have r := h l l0 l1
  refine ⟨by rw [hf.1 _ _ (h1 _)]; exact r.1, fun i i0 i1 => by rw [hf.2 _ (h2 _ (by omega) (by omega))]; exact r.2 i i0 i1⟩
theorem LM_f {c : Nat → Nat → Prop} {d : Nat → Prop} {σ' : St} (h : LM L σ) (hf : Gr c d σ σ') (h1 : ∀ j, ¬ c 65 j) (h2 : ¬ d 64) : LM L σ' := by
  intro l l0 l1
  have r := h l l0 l1
  refine ⟨by rw [hf.1 _ _ (h1 _)]; exact r.1, fun i i0 i1 => by rw [hf.2 _ h2]; exact r.2 i i0 i1⟩
theorem c_J7_fillL (hS : Sys S) {a : Nat} (h_a : isArr 4 a 40) {x : Int64} (hk : ∀ σ', Gr (fun _ _ => False) (fun k => k = a) σ σ' → (∀ h : Int, 0 ≤ h ∧ h < 40 → σ'.2 a h.toNat = x) → Φ [] σ') : S 240 [aR a, aL x] σ Φ := by
  refine m_J7_fill_d0a16 hS h_a (fun v hv hw => ?_)
  unfold vc_J7_fill_d0a16_0
  have A : ∀ (n : Nat) (k : Int) (σ1 : St), (40 - k).toNat = n → 0 ≤ k → k ≤ 40 → Gr (fun _ _ => False) (fun k => k = a) σ σ1 → (∀ h, 0 ≤ h ∧ h < k → σ1.2 a h.toNat = x) → v 6 [some (aR a), some (aL x), none, some (aI (iI k)), some (aI (iI 40))] [] σ1 := by
    intro n
    induction n with
    | zero =>
      intro k σ1 hd k0 k1 hf hc
      refine w_J7_fill_d0a16_6 hS hv hw a h_a _ _ _ σ1 ?_
      unfold vc_J7_fill_d0a16_6
      try simp (disch := omega) only [iI_lit, iL_lit, iI_add, iI_sub, iI_mul, iI_neg, iI_lt, iI_le, iI_eq, iI_tn, iI_div, iI_l, iL_add, iL_sub, iL_mul, iL_neg, iL_le, iL_lt, iL_eq, iL_ite, vp_T, b2_ne0, b2_eq1, nn_imp, true_and, iI_ite, not_true_eq_false, not_false_eq_true, true_implies, false_implies, and_true, Int.reduceLT, Int.reduceLE, Int.reduceEq, or_false, false_or, true_or, or_true, false_and, and_false]
      refine ⟨fun _ => hk σ1 hf (fun h hh => hc h (by omega)), fun c => by omega⟩
    | succ n ih =>
      intro k σ1 hd k0 k1 hf hc
      refine w_J7_fill_d0a16_6 hS hv hw a h_a _ _ _ σ1 ?_
      unfold vc_J7_fill_d0a16_6
      try simp (disch := omega) only [iI_lit, iL_lit, iI_add, iI_sub, iI_mul, iI_neg, iI_lt, iI_le, iI_eq, iI_tn, iI_div, iI_l, iL_add, iL_sub, iL_mul, iL_neg, iL_le, iL_lt, iL_eq, iL_ite, vp_T, b2_ne0, b2_eq1, nn_imp, true_and, iI_ite, not_true_eq_false, not_false_eq_true, true_implies, false_implies, and_true, Int.reduceLT, Int.reduceLE, Int.reduceEq, or_false, false_or, true_or, or_true, false_and, and_false]
      refine ⟨fun c => by omega, fun _ σ2 e2 => ih (k + 1) σ2 (by omega) (by omega) (by omega) (by rw [e2]; exact Gr_upJ hf rfl) (fun h hh => ?_)⟩
      rw [e2]
      by_cases q : h = k
      · subst q; exact uj_h rfl
      · rw [uj_m (by omega)]; exact hc h (by omega)
  have := A _ 0 σ rfl (by omega) (by omega) Gr_rf (fun h hh => by omega)
  rw [iI_lit, ofNat_iI]
  exact this
theorem c_X8_list (hS : Sys S) (hL : LC L σ) {l n : Int} (r1 : -2147483648 ≤ l ∧ l < 2147483648) (r2 : -2147483648 ≤ n ∧ n < 2147483648) (hk : ∀ σ', Gr (fun k _ => k = 47) DC σ σ' → LC (nList l n L) σ' → Φ [aI (iI (aList l n))] σ') : S 120 [aR 0, aI (iI l), aI (iI n)] σ Φ := by
  refine m_X8_list hS (fun v hv hw => ?_)
  unfold vc_X8_list_0
  have hkr := hk σ Gr_rf
  unfold aList nList isL at hk hkr
  try simp (disch := omega) only [iI_lit, iL_lit, iI_add, iI_sub, iI_mul, iI_neg, iI_lt, iI_le, iI_eq, iI_tn, iI_div, iI_l, iL_add, iL_sub, iL_mul, iL_neg, iL_le, iL_lt, iL_eq, iL_ite, vp_T, b2_ne0, b2_eq1, nn_imp, true_and, iI_ite, not_true_eq_false, not_false_eq_true, true_implies, false_implies, and_true, Int.reduceLT, Int.reduceLE, Int.reduceEq, or_false, false_or, true_or, or_true, false_and, and_false]
  refine ⟨fun c => ⟨fun d => ⟨fun e => ?_, fun e => ?_⟩, fun d => ?_⟩, fun c => ?_⟩
  · refine m_X6_renew hS (fun v hv hw => ?_)
    unfold vc_X6_renew_0
    try simp (disch := omega) only [iI_lit, iL_lit, iI_add, iI_sub, iI_mul, iI_neg, iI_lt, iI_le, iI_eq, iI_tn, iI_div, iI_l, iL_add, iL_sub, iL_mul, iL_neg, iL_le, iL_lt, iL_eq, iL_ite, vp_T, b2_ne0, b2_eq1, nn_imp, true_and, iI_ite, not_true_eq_false, not_false_eq_true, true_implies, false_implies, and_true, Int.reduceLT, Int.reduceLE, Int.reduceEq, or_false, false_or, true_or, or_true, false_and, and_false]
    intro σ1 e1
    refine c_J7_fillL hS (arrL ⟨by omega, by omega⟩) (fun σ2 f2 q2 => ⟨rfl, ?_⟩)
    have hk := hk σ2
    simp (disch := omega) only [if_pos, if_neg] at hk
    refine hk (Gr_tr (by rw [e1]; exact Gr_upI Gr_rf rfl) (Gr_mo f2 (fun k j q => q.elim) (fun k q => by unfold DC; omega))) (fun k k0 k1 => ?_)
    have r := hL k k0 k1
    rw [f2.1 _ _ (fun q => q), e1]
    by_cases q : k = l
    · subst q
      refine ⟨?_, fun i i0 i1 => ?_⟩
      · rw [up_h rfl]; dsimp only; rw [if_pos rfl]
      · dsimp only; rw [if_pos rfl, q2 i (by omega)]; rfl
    · refine ⟨?_, fun i i0 i1 => ?_⟩
      · rw [up_m (by omega)]; dsimp only; rw [if_neg q]; exact r.1
      · dsimp only; rw [if_neg q, f2.2 _ (by omega), e1]; exact r.2 i i0 i1
  · simp (disch := omega) only [if_pos, if_neg] at hkr; exact hkr hL
  · simp (disch := omega) only [if_pos, if_neg] at hkr; exact hkr hL
  · simp (disch := omega) only [if_pos, if_neg] at hkr; exact hkr hL
theorem c_X9_list (hS : Sys S) (hL : LM L σ) {l n : Int} (r1 : -2147483648 ≤ l ∧ l < 2147483648) (r2 : -2147483648 ≤ n ∧ n < 2147483648) (hk : ∀ σ', Gr (fun k _ => k = 65) DM σ σ' → LM (nList l n L) σ' → Φ [aI (iI (aList l n))] σ') : S 227 [aR 49, aI (iI l), aI (iI n)] σ Φ := by
  refine m_X9_list hS (fun v hv hw => ?_)
  unfold vc_X9_list_0
  have hkr := hk σ Gr_rf
  unfold aList nList isL at hk hkr
  try simp (disch := omega) only [iI_lit, iL_lit, iI_add, iI_sub, iI_mul, iI_neg, iI_lt, iI_le, iI_eq, iI_tn, iI_div, iI_l, iL_add, iL_sub, iL_mul, iL_neg, iL_le, iL_lt, iL_eq, iL_ite, vp_T, b2_ne0, b2_eq1, nn_imp, true_and, iI_ite, not_true_eq_false, not_false_eq_true, true_implies, false_implies, and_true, Int.reduceLT, Int.reduceLE, Int.reduceEq, or_false, false_or, true_or, or_true, false_and, and_false]
  refine ⟨fun c => ⟨fun d => ⟨fun e => ?_, fun e => ?_⟩, fun d => ?_⟩, fun c => ?_⟩
  · have c0 : 0 ≤ l := by omega
    have c1 : l < 4 := by omega
    try simp (disch := omega) only [iI_lit, iL_lit, iI_add, iI_sub, iI_mul, iI_neg, iI_lt, iI_le, iI_eq, iI_tn, iI_div, iI_l, iL_add, iL_sub, iL_mul, iL_neg, iL_le, iL_lt, iL_eq, iL_ite, vp_T, b2_ne0, b2_eq1, nn_imp, true_and, iI_ite, not_true_eq_false, not_false_eq_true, true_implies, false_implies, and_true, Int.reduceLT, Int.reduceLE, Int.reduceEq, or_false, false_or, true_or, or_true, false_and, and_false]
    intro σ1 e1
    have A : ∀ (m : Nat) (i : Int) (σ2 : St), (40 - i).toNat = m → 0 ≤ i → i ≤ 40 → Gr (fun _ _ => False) (fun k => k = 64) σ1 σ2 → (∀ j, 0 ≤ j → j < 160 → σ2.2 64 j.toNat = if 40 * l ≤ j ∧ j < 40 * l + i then 0 else σ1.2 64 j.toNat) → v 35 [some (aR 49), some (aI (iI l)), some (aI (iI n)), some (aI (iI i))] [] σ2 := by
      intro m
      induction m with
      | zero =>
        intro i σ2 hd i0 i1 hf hc
        refine w_X9_list_35 hS hv hw _ _ _ σ2 ?_
        unfold vc_X9_list_35
        try simp (disch := omega) only [iI_lit, iL_lit, iI_add, iI_sub, iI_mul, iI_neg, iI_lt, iI_le, iI_eq, iI_tn, iI_div, iI_l, iL_add, iL_sub, iL_mul, iL_neg, iL_le, iL_lt, iL_eq, iL_ite, vp_T, b2_ne0, b2_eq1, nn_imp, true_and, iI_ite, not_true_eq_false, not_false_eq_true, true_implies, false_implies, and_true, Int.reduceLT, Int.reduceLE, Int.reduceEq, or_false, false_or, true_or, or_true, false_and, and_false]
        refine ⟨fun _ => ?_, fun c => by omega⟩
        have hk := hk σ2
        simp (disch := omega) only [if_pos, if_neg] at hk
        refine hk (Gr_tr (by rw [e1]; exact Gr_upI Gr_rf rfl) (Gr_mo hf (fun k j q => q.elim) (fun k q => Or.inl q))) (fun k k0 k1 => ?_)
        have r := hL k k0 k1
        have hc' := fun i (i0 : 0 ≤ i) (i1 : i < 40) => hc (40 * k + i) (by omega) (by omega)
        rw [hf.1 _ _ (fun q => q), e1]
        by_cases q : k = l
        · subst q
          refine ⟨?_, fun i i0 i1 => ?_⟩
          · rw [up_h rfl]; dsimp only; rw [if_pos rfl]
          · dsimp only; rw [if_pos rfl, hc' i i0 i1, if_pos (by omega)]
        · refine ⟨?_, fun i i0 i1 => ?_⟩
          · rw [up_m (by omega)]; dsimp only; rw [if_neg q]; exact r.1
          · dsimp only; rw [if_neg q, hc' i i0 i1, if_neg (by omega), e1]; exact r.2 i i0 i1
      | succ m ih =>
        intro i σ2 hd i0 i1 hf hc
        refine w_X9_list_35 hS hv hw _ _ _ σ2 ?_
        unfold vc_X9_list_35
        try simp (disch := omega) only [iI_lit, iL_lit, iI_add, iI_sub, iI_mul, iI_neg, iI_lt, iI_le, iI_eq, iI_tn, iI_div, iI_l, iL_add, iL_sub, iL_mul, iL_neg, iL_le, iL_lt, iL_eq, iL_ite, vp_T, b2_ne0, b2_eq1, nn_imp, true_and, iI_ite, not_true_eq_false, not_false_eq_true, true_implies, false_implies, and_true, Int.reduceLT, Int.reduceLE, Int.reduceEq, or_false, false_or, true_or, or_true, false_and, and_false]
        refine ⟨fun c => by omega, fun _ σ3 e3 => ih (i + 1) σ3 (by omega) (by omega) (by omega) (by rw [e3]; exact Gr_upJ hf rfl) (fun j j0 j1 => ?_)⟩
        rw [e3]
        by_cases q : j = 40 * l + i
        · subst q; rw [uj_h rfl, if_pos (by omega)]; rfl
        · rw [uj_m (by omega), hc j j0 j1]
          by_cases q2 : 40 * l ≤ j ∧ j < 40 * l + i
          · rw [if_pos q2, if_pos (by omega)]
          · rw [if_neg q2, if_neg (by omega)]
    exact A _ 0 σ1 rfl (by omega) (by omega) Gr_rf (fun j j0 j1 => by rw [if_neg (by omega)])
  · simp (disch := omega) only [if_pos, if_neg] at hkr; exact hkr hL
  · simp (disch := omega) only [if_pos, if_neg] at hkr; exact hkr hL
  · simp (disch := omega) only [if_pos, if_neg] at hkr; exact hkr hL
theorem c_X8_put (hS : Sys S) (hL : LC L σ) (ho : okL L) {l i : Int} {x : Int64} (r1 : -2147483648 ≤ l ∧ l < 2147483648) (r2 : -2147483648 ≤ i ∧ i < 2147483648) (hk : ∀ σ', Gr (fun _ _ => False) DC σ σ' → LC (nPut l i x L) σ' → Φ [aI (iI (aPut l i L))] σ') : S 121 [aR 0, aI (iI l), aI (iI i), aL x] σ Φ := by
  refine m_X8_put hS (fun v hv hw => ?_)
  unfold vc_X8_put_0
  have hkr := hk σ Gr_rf
  unfold aPut nPut isL at hk hkr
  try simp (disch := omega) only [iI_lit, iL_lit, iI_add, iI_sub, iI_mul, iI_neg, iI_lt, iI_le, iI_eq, iI_tn, iI_div, iI_l, iL_add, iL_sub, iL_mul, iL_neg, iL_le, iL_lt, iL_eq, iL_ite, vp_T, b2_ne0, b2_eq1, nn_imp, true_and, iI_ite, not_true_eq_false, not_false_eq_true, true_implies, false_implies, and_true, Int.reduceLT, Int.reduceLE, Int.reduceEq, or_false, false_or, true_or, or_true, false_and, and_false]
  refine ⟨fun c => ?_, fun c => ?_⟩
  · have c0 : 0 ≤ l := by omega
    have c1 : l < 4 := by omega
    have r := hL l c0 c1
    have o := ho l c0 c1
    have z := r.1
    try simp (disch := omega) only [iI_lit, iL_lit, iI_add, iI_sub, iI_mul, iI_neg, iI_lt, iI_le, iI_eq, iI_tn, iI_div, iI_l, iL_add, iL_sub, iL_mul, iL_neg, iL_le, iL_lt, iL_eq, iL_ite, vp_T, b2_ne0, b2_eq1, nn_imp, true_and, iI_ite, not_true_eq_false, not_false_eq_true, true_implies, false_implies, and_true, Int.reduceLT, Int.reduceLE, Int.reduceEq, or_false, false_or, true_or, or_true, false_and, and_false, z]
    refine ⟨fun d => ⟨fun e => ?_, fun e => ?_⟩, fun d => ?_⟩
    · have e0 : 0 ≤ i := by omega
      have e1 : i < L.1 l := by omega
      try simp (disch := omega) only [iI_lit, iL_lit, iI_add, iI_sub, iI_mul, iI_neg, iI_lt, iI_le, iI_eq, iI_tn, iI_div, iI_l, iL_add, iL_sub, iL_mul, iL_neg, iL_le, iL_lt, iL_eq, iL_ite, vp_T, b2_ne0, b2_eq1, nn_imp, true_and, iI_ite, not_true_eq_false, not_false_eq_true, true_implies, false_implies, and_true, Int.reduceLT, Int.reduceLE, Int.reduceEq, or_false, false_or, true_or, or_true, false_and, and_false]
      intro σ1 e2
      have hk := hk σ1
      simp (disch := omega) only [if_pos, if_neg] at hk
      refine hk (by rw [e2]; exact Gr_upJ Gr_rf (by unfold DC; omega)) (fun k k0 k1 => ?_)
      have r := hL k k0 k1
      rw [e2]
      refine ⟨r.1, fun j j0 j1 => ?_⟩
      unfold setL; dsimp only
      by_cases q : k = l
      · subst q
        rw [if_pos rfl]
        by_cases q2 : j = i
        · subst q2; rw [if_pos rfl, uj_h rfl]
        · rw [if_neg q2, uj_m (by omega)]; exact r.2 j j0 j1
      · rw [if_neg q, uj_n (by omega)]; exact r.2 j j0 j1
    · simp (disch := omega) only [if_pos, if_neg] at hkr; exact hkr hL
    · simp (disch := omega) only [if_pos, if_neg] at hkr; exact hkr hL
  · simp (disch := omega) only [if_pos, if_neg] at hkr; exact hkr hL
theorem c_X9_put (hS : Sys S) (hL : LM L σ) (ho : okL L) {l i : Int} {x : Int64} (r1 : -2147483648 ≤ l ∧ l < 2147483648) (r2 : -2147483648 ≤ i ∧ i < 2147483648) (hk : ∀ σ', Gr (fun _ _ => False) DM σ σ' → LM (nPut l i x L) σ' → Φ [aI (iI (aPut l i L))] σ') : S 228 [aR 49, aI (iI l), aI (iI i), aL x] σ Φ := by
  refine m_X9_put hS (fun v hv hw => ?_)
  unfold vc_X9_put_0
  have hkr := hk σ Gr_rf
  unfold aPut nPut isL at hk hkr
  try simp (disch := omega) only [iI_lit, iL_lit, iI_add, iI_sub, iI_mul, iI_neg, iI_lt, iI_le, iI_eq, iI_tn, iI_div, iI_l, iL_add, iL_sub, iL_mul, iL_neg, iL_le, iL_lt, iL_eq, iL_ite, vp_T, b2_ne0, b2_eq1, nn_imp, true_and, iI_ite, not_true_eq_false, not_false_eq_true, true_implies, false_implies, and_true, Int.reduceLT, Int.reduceLE, Int.reduceEq, or_false, false_or, true_or, or_true, false_and, and_false]
  refine ⟨fun c => ?_, fun c => ?_⟩
  · have c0 : 0 ≤ l := by omega
    have c1 : l < 4 := by omega
    have r := hL l c0 c1
    have o := ho l c0 c1
    have z := r.1
    try simp (disch := omega) only [iI_lit, iL_lit, iI_add, iI_sub, iI_mul, iI_neg, iI_lt, iI_le, iI_eq, iI_tn, iI_div, iI_l, iL_add, iL_sub, iL_mul, iL_neg, iL_le, iL_lt, iL_eq, iL_ite, vp_T, b2_ne0, b2_eq1, nn_imp, true_and, iI_ite, not_true_eq_false, not_false_eq_true, true_implies, false_implies, and_true, Int.reduceLT, Int.reduceLE, Int.reduceEq, or_false, false_or, true_or, or_true, false_and, and_false, z]
    refine ⟨fun d => ⟨fun e => ?_, fun e => ?_⟩, fun d => ?_⟩
    · have e0 : 0 ≤ i := by omega
      have e1 : i < L.1 l := by omega
      try simp (disch := omega) only [iI_lit, iL_lit, iI_add, iI_sub, iI_mul, iI_neg, iI_lt, iI_le, iI_eq, iI_tn, iI_div, iI_l, iL_add, iL_sub, iL_mul, iL_neg, iL_le, iL_lt, iL_eq, iL_ite, vp_T, b2_ne0, b2_eq1, nn_imp, true_and, iI_ite, not_true_eq_false, not_false_eq_true, true_implies, false_implies, and_true, Int.reduceLT, Int.reduceLE, Int.reduceEq, or_false, false_or, true_or, or_true, false_and, and_false]
      intro σ1 e2
      have hk := hk σ1
      simp (disch := omega) only [if_pos, if_neg] at hk
      refine hk (by rw [e2]; exact Gr_upJ Gr_rf (Or.inl rfl)) (fun k k0 k1 => ?_)
      have r := hL k k0 k1
      rw [e2]
      refine ⟨r.1, fun j j0 j1 => ?_⟩
      unfold setL; dsimp only
      by_cases q : k = l
      · subst q
        rw [if_pos rfl]
        by_cases q2 : j = i
        · subst q2; rw [if_pos rfl, uj_h rfl]
        · rw [if_neg q2, uj_m (by omega)]; exact r.2 j j0 j1
      · rw [if_neg q, uj_m (by omega)]; exact r.2 j j0 j1
    · simp (disch := omega) only [if_pos, if_neg] at hkr; exact hkr hL
    · simp (disch := omega) only [if_pos, if_neg] at hkr; exact hkr hL
  · simp (disch := omega) only [if_pos, if_neg] at hkr; exact hkr hL
theorem c_X8_get (hS : Sys S) (hL : LC L σ) (ho : okL L) {l i : Int} (r1 : -2147483648 ≤ l ∧ l < 2147483648) (r2 : -2147483648 ≤ i ∧ i < 2147483648) (hk : Φ [aL (aGet l i L)] σ) : S 122 [aR 0, aI (iI l), aI (iI i)] σ Φ := by
  refine m_X8_get hS (fun v hv hw => ?_)
  unfold vc_X8_get_0
  unfold aGet isL at hk
  try simp (disch := omega) only [iI_lit, iI_lt, iI_le, iI_tn, vp_T, b2_ne0, b2_eq1, nn_imp, true_and]
  refine ⟨fun c => ?_, fun c => ?_⟩
  · simp (disch := omega) only [if_pos, if_neg] at hk; exact hk
  · have c0 : 0 ≤ l := by omega
    have c1 : l < 4 := by omega
    have r := hL l c0 c1
    have o := ho l c0 c1
    have z := r.1
    try simp (disch := omega) only [iI_lit, iI_lt, iI_le, iI_tn, vp_T, b2_ne0, b2_eq1, nn_imp, true_and, z]
    refine ⟨fun d => ?_, fun d => ?_⟩
    · simp (disch := omega) only [if_pos, if_neg] at hk; exact hk
    · have e0 : 0 ≤ i := by omega
      have e1 : i < L.1 l := by omega
      try simp (disch := omega) only [iI_lit, iI_lt, iI_le, iI_tn, vp_T, b2_ne0, b2_eq1, nn_imp, true_and]
      simp (disch := omega) only [if_pos, if_neg] at hk
      rw [r.2 i e0 (by omega)]; exact hk
theorem c_X9_get (hS : Sys S) (hL : LM L σ) (ho : okL L) {l i : Int} (r1 : -2147483648 ≤ l ∧ l < 2147483648) (r2 : -2147483648 ≤ i ∧ i < 2147483648) (hk : Φ [aL (aGet l i L)] σ) : S 229 [aR 49, aI (iI l), aI (iI i)] σ Φ := by
  refine m_X9_get hS (fun v hv hw => ?_)
  unfold vc_X9_get_0
  unfold aGet isL at hk
  generalize hN : (-9223372036854775808 : Int64) = no at hk ⊢
  try simp (disch := omega) only [iI_lit, iL_lit, iI_add, iI_sub, iI_mul, iI_neg, iI_lt, iI_le, iI_eq, iI_tn, iI_div, iI_l, iL_add, iL_sub, iL_mul, iL_neg, iL_le, iL_lt, iL_eq, iL_ite, vp_T, b2_ne0, b2_eq1, nn_imp, true_and, iI_ite, not_true_eq_false, not_false_eq_true, true_implies, false_implies, and_true, Int.reduceLT, Int.reduceLE, Int.reduceEq, or_false, false_or, true_or, or_true, false_and, and_false]
  refine ⟨fun c => ?_, fun c => ?_⟩
  · simp (disch := omega) only [if_pos, if_neg] at hk; exact hk
  · have c0 : 0 ≤ l := by omega
    have c1 : l < 4 := by omega
    have r := hL l c0 c1
    have o := ho l c0 c1
    have z := r.1
    try simp (disch := omega) only [iI_lit, iL_lit, iI_add, iI_sub, iI_mul, iI_neg, iI_lt, iI_le, iI_eq, iI_tn, iI_div, iI_l, iL_add, iL_sub, iL_mul, iL_neg, iL_le, iL_lt, iL_eq, iL_ite, vp_T, b2_ne0, b2_eq1, nn_imp, true_and, iI_ite, not_true_eq_false, not_false_eq_true, true_implies, false_implies, and_true, Int.reduceLT, Int.reduceLE, Int.reduceEq, or_false, false_or, true_or, or_true, false_and, and_false, z]
    refine ⟨fun d => ?_, fun d => ?_⟩
    · simp (disch := omega) only [if_pos, if_neg] at hk; exact hk
    · have e0 : 0 ≤ i := by omega
      have e1 : i < L.1 l := by omega
      try simp (disch := omega) only [iI_lit, iL_lit, iI_add, iI_sub, iI_mul, iI_neg, iI_lt, iI_le, iI_eq, iI_tn, iI_div, iI_l, iL_add, iL_sub, iL_mul, iL_neg, iL_le, iL_lt, iL_eq, iL_ite, vp_T, b2_ne0, b2_eq1, nn_imp, true_and, iI_ite, not_true_eq_false, not_false_eq_true, true_implies, false_implies, and_true, Int.reduceLT, Int.reduceLE, Int.reduceEq, or_false, false_or, true_or, or_true, false_and, and_false]
      simp (disch := omega) only [if_pos, if_neg] at hk
      rw [r.2 i e0 (by omega)]; exact hk
end C28
