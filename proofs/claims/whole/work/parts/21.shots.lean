/-! shots: time, load, hole; put in order as they come -/
abbrev Z3 : Type := Int × Int × Int
abbrev Zr : Type := (Int → Z3) × Int
def psN (Z : Int → Z3) (t : Int) : Nat → Nat
  | 0 => 0
  | n + 1 => if t < (Z (n : Int)).1 then psN Z t n else n + 1
def ps (Z : Int → Z3) (n t : Int) : Int := psN Z t n.toNat
theorem psN_le (Z : Int → Z3) (t : Int) : ∀ n, psN Z t n ≤ n
  | 0 => Nat.le_refl _
  | n + 1 => by unfold psN; have := psN_le Z t n; split <;> omega
theorem psN_ge (Z : Int → Z3) (t : Int) : ∀ n j, psN Z t n ≤ j → j < n → t < (Z (j : Int)).1
  | 0, j, h1, h2 => by omega
  | n + 1, j, h1, h2 => by
    unfold psN at h1
    split at h1
    · by_cases c : j = n
      · subst c; assumption
      · exact psN_ge Z t n j h1 (by omega)
    · omega
theorem psN_st (Z : Int → Z3) (t : Int) : ∀ n, psN Z t n = 0 ∨ (Z (((psN Z t n : Nat) : Int) - 1)).1 ≤ t
  | 0 => Or.inl rfl
  | n + 1 => by
    unfold psN
    split
    · exact psN_st Z t n
    · refine Or.inr ?_
      rw [show (((n + 1 : Nat) : Int) - 1) = (n : Int) by omega]; omega
theorem psN_eq (Z : Int → Z3) (t : Int) : ∀ (n k : Nat), k ≤ n → (∀ j : Nat, k ≤ j → j < n → t < (Z (j : Int)).1) → (k = 0 ∨ (Z ((k : Int) - 1)).1 ≤ t) → psN Z t n = k
  | 0, k, h1, h2, h3 => by unfold psN; omega
  | n + 1, k, h1, h2, h3 => by
    unfold psN
    by_cases c : k = n + 1
    · subst c
      rcases h3 with h3 | h3
      · omega
      · rw [show (((n + 1 : Nat) : Int) - 1) = (n : Int) by omega] at h3
        rw [if_neg (by omega)]
    · rw [if_pos (h2 n (by omega) (by omega))]
      exact psN_eq Z t n k (by omega) (fun j a b => h2 j a (by omega)) h3
theorem ps_r {Z : Int → Z3} {n t : Int} (hn : 0 ≤ n) : 0 ≤ ps Z n t ∧ ps Z n t ≤ n := by
  unfold ps; have := psN_le Z t n.toNat; omega
theorem ps_ge {Z : Int → Z3} {n t j : Int} (hn : 0 ≤ n) (h1 : ps Z n t ≤ j) (h2 : j < n) : t < (Z j).1 := by
  have r := ps_r (Z := Z) (t := t) hn
  unfold ps at h1
  have := psN_ge Z t n.toNat j.toNat (by omega) (by omega)
  rwa [show ((j.toNat : Nat) : Int) = j by unfold ps at r; omega] at this
theorem ps_st {Z : Int → Z3} {n t : Int} : ps Z n t = 0 ∨ (Z (ps Z n t - 1)).1 ≤ t := by
  unfold ps
  rcases psN_st Z t n.toNat with h | h
  · exact Or.inl (by omega)
  · exact Or.inr h
theorem ps_eq {Z : Int → Z3} {n t k : Int} (h0 : 0 ≤ k) (h1 : k ≤ n) (h2 : ∀ j, k ≤ j → j < n → t < (Z j).1) (h3 : k = 0 ∨ (Z (k - 1)).1 ≤ t) : ps Z n t = k := by
  unfold ps
  rw [psN_eq Z t n.toNat k.toNat (by omega) (fun j a b => h2 j (by omega) (by omega)) (by
    rcases h3 with h3 | h3
    · exact Or.inl (by omega)
    · exact Or.inr (by rw [show ((k.toNat : Nat) : Int) = k by omega]; exact h3))]
  omega
def ins (Z : Int → Z3) (n : Int) (x : Z3) : Int → Z3 := fun i => if i < ps Z n x.1 then Z i else if i = ps Z n x.1 then x else Z (i - 1)
def SR (a1 a2 a3 : Nat) (Z : Int → Z3) (n : Int) (σ : St) : Prop := ∀ i : Int, 0 ≤ i → i < n → σ.1 a1 i.toNat = iI (Z i).1 ∧ σ.1 a2 i.toNat = iI (Z i).2.1 ∧ σ.1 a3 i.toNat = iI (Z i).2.2
def xok (x : Z3) : Prop := (0 ≤ x.1 ∧ x.1 ≤ 20000) ∧ (1 ≤ x.2.1 ∧ x.2.1 ≤ 100) ∧ (0 ≤ x.2.2 ∧ x.2.2 < 20)
def okZ (Z : Int → Z3) (n : Int) : Prop := (0 ≤ n ∧ n ≤ 40) ∧ (∀ i, 0 ≤ i → i < n → xok (Z i)) ∧ (∀ i j, 0 ≤ i → i ≤ j → j < n → (Z i).1 ≤ (Z j).1)
theorem okZ_r {Z : Int → Z3} {n i : Int} (h : okZ Z n) (h0 : 0 ≤ i) (h1 : i < n) : (0 ≤ (Z i).1 ∧ (Z i).1 ≤ 20000) ∧ (1 ≤ (Z i).2.1 ∧ (Z i).2.1 ≤ 100) ∧ (0 ≤ (Z i).2.2 ∧ (Z i).2.2 < 20) := h.2.1 i h0 h1
theorem ins_lt {Z : Int → Z3} {n i : Int} {x : Z3} (h : i < ps Z n x.1) : ins Z n x i = Z i := if_pos h
theorem ins_eq {Z : Int → Z3} {n i : Int} {x : Z3} (h : i = ps Z n x.1) : ins Z n x i = x := by unfold ins; rw [if_neg (by omega), if_pos h]
theorem ins_gt {Z : Int → Z3} {n i : Int} {x : Z3} (h : ps Z n x.1 < i) : ins Z n x i = Z (i - 1) := by unfold ins; rw [if_neg (by omega), if_neg (by omega)]
theorem okZ_ins {Z : Int → Z3} {n : Int} {x : Z3} (h : okZ Z n) (hn : n < 40) (hx : xok x) : okZ (ins Z n x) (n + 1) := by
  have r := ps_r (Z := Z) (t := x.1) h.1.1
  refine ⟨by have := h.1; omega, fun i h0 h1 => ?_, fun i j h0 hij hj => ?_⟩
  · by_cases c : i < ps Z n x.1
    · rw [ins_lt c]; exact h.2.1 i h0 (by omega)
    · by_cases c2 : i = ps Z n x.1
      · rw [ins_eq c2]; exact hx
      · rw [ins_gt (by omega)]; exact h.2.1 (i - 1) (by omega) (by omega)
  · by_cases c : j < ps Z n x.1
    · rw [ins_lt c, ins_lt (by omega)]; exact h.2.2 i j h0 hij (by omega)
    · by_cases c2 : j = ps Z n x.1
      · rw [ins_eq c2]
        by_cases c3 : i = ps Z n x.1
        · rw [ins_eq c3]; omega
        · rw [ins_lt (by omega)]
          rcases ps_st (Z := Z) (n := n) (t := x.1) with q | q
          · omega
          · have := h.2.2 i (ps Z n x.1 - 1) h0 (by omega) (by omega); omega
      · rw [ins_gt (i := j) (by omega)]
        have q := ps_ge (Z := Z) (t := x.1) h.1.1 (show ps Z n x.1 ≤ j - 1 by omega) (by omega)
        by_cases c3 : i < ps Z n x.1
        · rw [ins_lt c3]; exact h.2.2 i (j - 1) h0 (by omega) (by omega)
        · by_cases c4 : i = ps Z n x.1
          · rw [ins_eq c4]; omega
          · rw [ins_gt (by omega)]; exact h.2.2 (i - 1) (j - 1) (by omega) (by omega) (by omega)
/-- the shots of some holes at their times -/
def addS (x : Z3) (a : Zr) : Zr := if x.2.1 = 0 then a else (ins a.1 a.2 x, a.2 + 1)
def addA (P : Pl) (h t : Int) (a : Zr) : Zr := addS (t + 17, sl P h, h) (addS (t, fl P h, h) a)
def layF (P : Pl) (F : Int → Bool) (T : Int → Int) (h : Int) (a : Zr) : Zr := if F h = true then addA P h (T h) a else a
def z0 : Zr := (fun _ => (0, 0, 0), 0)
def shL (P : Pl) (F : Int → Bool) (T : Int → Int) : Zr := lp (layF P F T) 0 (P 280) z0
theorem okZ_0 : okZ z0.1 z0.2 := ⟨⟨Int.le_refl _, by decide⟩, fun i h0 h1 => absurd h1 (by show ¬ i < 0; omega), fun i j h0 hij hj => absurd hj (by show ¬ j < 0; omega)⟩
theorem okZ_addS {a : Zr} {x : Z3} (h : okZ a.1 a.2) (hn : a.2 < 40) (hx : x.2.1 = 0 ∨ xok x) : okZ (addS x a).1 (addS x a).2 ∧ a.2 ≤ (addS x a).2 ∧ (addS x a).2 ≤ a.2 + 1 := by
  unfold addS
  by_cases c : x.2.1 = 0
  · rw [if_pos c]; exact ⟨h, by omega, by omega⟩
  · rw [if_neg c]
    rcases hx with hx | hx
    · exact absurd hx c
    · exact ⟨okZ_ins h hn hx, by show a.2 ≤ a.2 + 1; omega, by show a.2 + 1 ≤ a.2 + 1; omega⟩
theorem okZ_addA {P : Pl} (hW : WF P) {a : Zr} {h t : Int} (h0 : 0 ≤ h) (h1 : h < P 280) (ht : 0 ≤ t ∧ t ≤ 15000) (ha : okZ a.1 a.2) (hn : a.2 ≤ 38) : okZ (addA P h t a).1 (addA P h t a).2 ∧ a.2 ≤ (addA P h t a).2 ∧ (addA P h t a).2 ≤ a.2 + 2 := by
  have r1 := fl_r hW h0 h1
  have r2 := sl_r hW h0 h1
  have g0 := WF_0 hW
  have q1 := okZ_addS (x := (t, fl P h, h)) ha (by omega) (by
    by_cases c : fl P h = 0
    · exact Or.inl c
    · exact Or.inr ⟨by show 0 ≤ t ∧ t ≤ 20000; omega, by show 1 ≤ fl P h ∧ fl P h ≤ 100; omega, by show 0 ≤ h ∧ h < 20; omega⟩)
  have q2 := okZ_addS (x := (t + 17, sl P h, h)) q1.1 (by omega) (by
    by_cases c : sl P h = 0
    · exact Or.inl c
    · exact Or.inr ⟨by show 0 ≤ t + 17 ∧ t + 17 ≤ 20000; omega, by show 1 ≤ sl P h ∧ sl P h ≤ 100; omega, by show 0 ≤ h ∧ h < 20; omega⟩)
  exact ⟨q2.1, by have := q2.2; show a.2 ≤ _; unfold addA; omega, by have := q2.2; unfold addA; omega⟩
theorem shL_ok {P : Pl} (hW : WF P) {F : Int → Bool} {T : Int → Int} (hT : ∀ h, 0 ≤ h → h < P 280 → F h = true → 0 ≤ T h ∧ T h ≤ 15000) : ∀ (n : Int), 0 ≤ n → n ≤ P 280 → okZ (lp (layF P F T) 0 n z0).1 (lp (layF P F T) 0 n z0).2 ∧ (lp (layF P F T) 0 n z0).2 ≤ 2 * n := by
  intro n hn hn2
  have g0 := WF_0 hW
  refine lp_inv (fun (h : Int) (a : Zr) => okZ a.1 a.2 ∧ a.2 ≤ 2 * h) _ rfl hn ⟨okZ_0, by show (0 : Int) ≤ _; omega⟩ (fun k a k0 k1 ha => ?_)
  unfold layF
  by_cases c : F k = true
  · rw [if_pos c]
    have := okZ_addA hW k0 (by omega) (hT k k0 (by omega) c) ha.1 (by omega)
    exact ⟨this.1, by omega⟩
  · rw [if_neg c]; exact ⟨ha.1, by omega⟩
/-! shakes -/
def shk (Z : Int → Z3) (n w t : Int) : Int := lp (fun i a => a + (if t ≤ (Z i).1 ∧ (Z i).1 < t + w then (Z i).2.1 else 0)) 0 n 0
def wT (Z : Int → Z3) (n w k : Int) : Int := lp (fun i f => if f < 0 ∨ shk Z n w f < shk Z n w (Z i).1 then (Z i).1 else f) 0 k (-1)
def wS (Z : Int → Z3) (n w : Int) : Int := if n = 0 then 0 else shk Z n w (wT Z n w n)
def ov (Z : Int → Z3) (n w lim k : Int) : Int := lp (fun i a => a + (if (i = 0 ∨ ¬ (Z i).1 = (Z (i - 1)).1) ∧ lim < shk Z n w (Z i).1 then 1 else 0)) 0 k 0
theorem lp_skip {f : Int → Int} {k n a : Int} (h : ∀ i, k ≤ i → i < n → f i = 0) : lp (fun i a => a + f i) k n a = a := by
  by_cases c : k ≤ n
  · exact lp_inv (f := fun i a => a + f i) (fun _ b => b = a) _ rfl c rfl (fun i b h1 h2 e => by show b + f i = a; rw [e, h i h1 h2]; omega)
  · exact lp_z _ _ (by omega)
theorem shk_r {Z : Int → Z3} {n : Int} (h : okZ Z n) (w t : Int) : 0 ≤ shk Z n w t ∧ shk Z n w t ≤ 4000 := by
  have h1 := h.1
  have := lp_inv (f := fun i a => a + (if t ≤ (Z i).1 ∧ (Z i).1 < t + w then (Z i).2.1 else 0)) (fun i a => 0 ≤ a ∧ a ≤ 100 * i) _ rfl h1.1 (a := 0) (by omega) (fun i a h0 hn ha => by
    have r := okZ_r h h0 hn
    split <;> omega)
  unfold shk
  omega
theorem wT_r {Z : Int → Z3} {n : Int} (h : okZ Z n) (w : Int) {k : Int} (k0 : 0 ≤ k) (k1 : k ≤ n) : (k = 0 ∧ wT Z n w k = -1) ∨ (0 < k ∧ 0 ≤ wT Z n w k ∧ wT Z n w k ≤ 20000 ∧ ∀ j, 0 ≤ j → j < k → shk Z n w (Z j).1 ≤ shk Z n w (wT Z n w k)) := by
  unfold wT
  refine lp_inv (f := fun i f => if f < 0 ∨ shk Z n w f < shk Z n w (Z i).1 then (Z i).1 else f) (fun i f => (i = 0 ∧ f = -1) ∨ (0 < i ∧ 0 ≤ f ∧ f ≤ 20000 ∧ ∀ j, 0 ≤ j → j < i → shk Z n w (Z j).1 ≤ shk Z n w f)) _ rfl k0 (Or.inl ⟨rfl, rfl⟩) (fun i f h0 hn ha => ?_)
  have r := okZ_r h h0 (by omega)
  refine Or.inr ⟨by omega, ?_⟩
  by_cases c : f < 0 ∨ shk Z n w f < shk Z n w (Z i).1
  · rw [if_pos c]
    refine ⟨by omega, by omega, fun j j0 j1 => ?_⟩
    by_cases e : j = i
    · subst e; omega
    · rcases ha with ⟨a1, a2⟩ | ⟨a1, a2, a3, a4⟩
      · omega
      · have := a4 j j0 (by omega); omega
  · rw [if_neg c]
    rcases ha with ⟨a1, a2⟩ | ⟨a1, a2, a3, a4⟩
    · omega
    · refine ⟨a2, a3, fun j j0 j1 => ?_⟩
      by_cases e : j = i
      · subst e; omega
      · exact a4 j j0 (by omega)
theorem wS_r {Z : Int → Z3} {n : Int} (h : okZ Z n) (w : Int) : 0 ≤ wS Z n w ∧ wS Z n w ≤ 4000 := by
  unfold wS
  split
  · omega
  · exact shk_r h _ _
theorem ov_r {Z : Int → Z3} {n w lim k : Int} (k0 : 0 ≤ k) : 0 ≤ ov Z n w lim k ∧ ov Z n w lim k ≤ k := by
  unfold ov
  refine lp_inv (f := fun i a => a + (if (i = 0 ∨ ¬ (Z i).1 = (Z (i - 1)).1) ∧ lim < shk Z n w (Z i).1 then 1 else 0)) (fun i a => 0 ≤ a ∧ a ≤ i) _ rfl k0 (by omega) (fun i a h0 hn ha => ?_)
  split <;> omega
/-- a shot shakes at its own time -/
theorem shk_own {Z : Int → Z3} {n w j : Int} (h : okZ Z n) (hw : 1 ≤ w) (j0 : 0 ≤ j) (j1 : j < n) : 1 ≤ shk Z n w (Z j).1 := by
  unfold shk
  have := lp_inv (f := fun i a => a + (if (Z j).1 ≤ (Z i).1 ∧ (Z i).1 < (Z j).1 + w then (Z i).2.1 else 0)) (fun i a => 0 ≤ a ∧ (j < i → 1 ≤ a)) _ rfl h.1.1 (a := 0) (by omega) (fun i a h0 hn ha => by
    have r := okZ_r h h0 hn
    refine ⟨by split <;> omega, fun q => ?_⟩
    by_cases e : i = j
    · subst e; rw [if_pos (by omega)]; omega
    · have := ha.2 (by omega); split <;> omega)
  exact this.2 j1
