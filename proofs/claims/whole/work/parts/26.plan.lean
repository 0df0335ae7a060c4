/-! the plan: who is planned, with which delay -/
def con (P : Pl) (h t0 w t : Int) : Int := (if t ≤ t0 ∧ t0 < t + w then fl P h else 0) + (if t ≤ t0 + 17 ∧ t0 + 17 < t + w then sl P h else 0)
def hsm (P : Pl) (F : Int → Bool) (T : Int → Int) (w t : Int) : Int := lp (fun h a => a + (if F h = true then con P h (T h) w t else 0)) 0 (P 280) 0
/-- a time of a shot of some -/
def stm (P : Pl) (F : Int → Bool) (T : Int → Int) (t : Int) : Prop := ∃ h, 0 ≤ h ∧ h < P 280 ∧ F h = true ∧ ((t = T h ∧ ¬ fl P h = 0) ∨ (t = T h + 17 ∧ ¬ sl P h = 0))
theorem lp_add {f : Int → Int} : ∀ (d : Nat) (k n a x : Int), (n - k).toNat = d → lp (fun i a => a + f i) k n (a + x) = lp (fun i a => a + f i) k n a + x
  | 0, k, n, a, x, h => by rw [lp_z _ _ (by omega), lp_z _ _ (by omega)]
  | d + 1, k, n, a, x, h => by
    rw [lp_s _ (a + x) (by omega), lp_s _ a (by omega), show a + x + f k = (a + f k) + x by omega]
    exact lp_add d (k + 1) n (a + f k) x (by omega)
/-- a sum over shots -/
def zsm (g : Z3 → Int) (a : Zr) : Int := lp (fun i s => s + g (a.1 i)) 0 a.2 0
theorem lp_cat {α : Type} {f : Int → α → α} : ∀ (d : Nat) {k m n : Int} {a : α}, (m - k).toNat = d → k ≤ m → m ≤ n → lp f k n a = lp f m n (lp f k m a)
  | 0, k, m, n, a, h, h1, h2 => by
    have e : k = m := by omega
    subst e
    rw [lp_z f a (Int.le_refl k)]
  | d + 1, k, m, n, a, h, h1, h2 => by
    rw [lp_s f a (by omega : k < n), lp_s f a (by omega : k < m)]
    exact lp_cat d (by omega) (by omega) h2
theorem lp_sh {α : Type} {f f' : Int → α → α} : ∀ (d : Nat) {k n : Int} {a : α}, (n - k).toNat = d → (∀ i b, k ≤ i → i < n → f (i + 1) b = f' i b) → lp f (k + 1) (n + 1) a = lp f' k n a
  | 0, k, n, a, h, hf => by rw [lp_z f _ (by omega), lp_z f' _ (by omega)]
  | d + 1, k, n, a, h, hf => by
    rw [lp_s f _ (by omega), lp_s f' _ (by omega), hf k a (by omega) (by omega)]
    exact lp_sh d (by omega) (fun i b h1 h2 => hf i b (by omega) h2)
theorem zsm_ins {g : Z3 → Int} {Z : Int → Z3} {n : Int} {x : Z3} (hn : 0 ≤ n) : zsm g (ins Z n x, n + 1) = zsm g (Z, n) + g x := by
  have r := ps_r (Z := Z) (t := x.1) hn
  unfold zsm
  dsimp only
  rw [lp_cat (m := ps Z n x.1) _ rfl r.1 (by omega), lp_s _ _ (by omega : ps Z n x.1 < n + 1), ins_eq rfl]
  rw [lp_sh (f' := fun i s => s + g (Z i)) _ rfl (fun i b h1 h2 => by rw [ins_gt (by omega), show i + 1 - 1 = i by omega])]
  rw [lp_add (f := fun i => g (Z i)) _ _ _ _ _ rfl]
  rw [lp_cat (f := fun i s => s + g (Z i)) (m := ps Z n x.1) (n := n) _ rfl r.1 r.2]
  rw [lp_c (f := fun i s => s + g (ins Z n x i)) (g := fun i s => s + g (Z i)) (fun k a k0 k1 => by rw [ins_lt (by omega)])]
theorem zsm_addS {g : Z3 → Int} {a : Zr} {x : Z3} (hn : 0 ≤ a.2) (h0 : x.2.1 = 0 → g x = 0) : zsm g (addS x a) = zsm g a + g x := by
  unfold addS
  by_cases c : x.2.1 = 0
  · rw [if_pos c, h0 c]; omega
  · rw [if_neg c]; exact zsm_ins hn
def gw (w t : Int) (x : Z3) : Int := if t ≤ x.1 ∧ x.1 < t + w then x.2.1 else 0
theorem shk_zsm {a : Zr} {w t : Int} : shk a.1 a.2 w t = zsm (gw w t) a := rfl
theorem gw_0 {w t : Int} {x : Z3} (h : x.2.1 = 0) : gw w t x = 0 := by unfold gw; split <;> omega
theorem shk_addA {P : Pl} {a : Zr} {h t0 w t : Int} (hn : 0 ≤ a.2) : shk (addA P h t0 a).1 (addA P h t0 a).2 w t = shk a.1 a.2 w t + con P h t0 w t := by
  have h1 : 0 ≤ (addS (t0, fl P h, h) a).2 := by unfold addS; split <;> omega
  rw [shk_zsm, shk_zsm]
  unfold addA
  rw [zsm_addS h1 gw_0, zsm_addS hn gw_0]
  show zsm (gw w t) a + gw w t (t0, fl P h, h) + gw w t (t0 + 17, sl P h, h) = zsm (gw w t) a + con P h t0 w t
  unfold con gw
  dsimp only
  omega
theorem shk_shL {P : Pl} (hW : WF P) {F : Int → Bool} {T : Int → Int} (hT : ∀ h, 0 ≤ h → h < P 280 → F h = true → 0 ≤ T h ∧ T h ≤ 15000) {w t : Int} : shk (shL P F T).1 (shL P F T).2 w t = hsm P F T w t := by
  have g0 := WF_0 hW
  have key : ∀ (d : Nat) (n : Int), n.toNat = d → 0 ≤ n → n ≤ P 280 → shk (lp (layF P F T) 0 n z0).1 (lp (layF P F T) 0 n z0).2 w t = lp (fun h a => a + (if F h = true then con P h (T h) w t else 0)) 0 n 0 := by
    intro d
    induction d with
    | zero =>
      intro n hd h0 h1
      rw [lp_z _ _ (by omega), lp_z _ _ (by omega)]
      exact lp_z _ _ (by show (0 : Int) ≤ 0; omega)
    | succ d ih =>
      intro n hd h0 h1
      have i := ih (n - 1) (by omega) (by omega) (by omega)
      have ok := shL_ok hW hT (n - 1) (by omega) (by omega)
      rw [show n = (n - 1) + 1 by omega, lp_l _ _ (by omega), lp_l _ _ (by omega), ← i]
      by_cases c : F (n - 1) = true
      · rw [layF_t c, if_pos c]; exact shk_addA ok.1.1.1
      · rw [layF_f c, if_neg c]; omega
  exact key _ (P 280) rfl g0.1.1 (Int.le_refl _)
/-- the times of shots -/
def tin (a : Zr) (t : Int) : Prop := ∃ i, 0 ≤ i ∧ i < a.2 ∧ (a.1 i).1 = t
theorem tin_ins {Z : Int → Z3} {n : Int} {x : Z3} (hn : 0 ≤ n) {t : Int} : tin (ins Z n x, n + 1) t ↔ tin (Z, n) t ∨ t = x.1 := by
  have r := ps_r (Z := Z) (t := x.1) hn
  constructor
  · rintro ⟨i, i0, i1, e⟩
    dsimp only at i1 e
    by_cases c : i < ps Z n x.1
    · rw [ins_lt c] at e; exact Or.inl ⟨i, i0, by dsimp only; omega, e⟩
    · by_cases c2 : i = ps Z n x.1
      · rw [ins_eq c2] at e; exact Or.inr e.symm
      · rw [ins_gt (by omega)] at e; exact Or.inl ⟨i - 1, by omega, by dsimp only; omega, e⟩
  · rintro (⟨i, i0, i1, e⟩ | e)
    · dsimp only at i1 e
      by_cases c : i < ps Z n x.1
      · exact ⟨i, i0, by dsimp only; omega, by dsimp only; rw [ins_lt c]; exact e⟩
      · exact ⟨i + 1, by omega, by dsimp only; omega, by dsimp only; rw [ins_gt (by omega), show i + 1 - 1 = i by omega]; exact e⟩
    · exact ⟨ps Z n x.1, r.1, by dsimp only; omega, by dsimp only; rw [ins_eq rfl]; exact e.symm⟩
theorem tin_addS {a : Zr} {x : Z3} (hn : 0 ≤ a.2) {t : Int} : tin (addS x a) t ↔ tin a t ∨ (t = x.1 ∧ ¬ x.2.1 = 0) := by
  unfold addS
  by_cases c : x.2.1 = 0
  · rw [if_pos c]; exact ⟨Or.inl, fun h => h.elim id (fun z => absurd c z.2)⟩
  · rw [if_neg c, tin_ins hn]
    exact ⟨fun h => h.elim Or.inl (fun z => Or.inr ⟨z, c⟩), fun h => h.elim Or.inl (fun z => Or.inr z.1)⟩
theorem tin_addA {P : Pl} {a : Zr} {h t0 t : Int} (hn : 0 ≤ a.2) : tin (addA P h t0 a) t ↔ tin a t ∨ (t = t0 ∧ ¬ fl P h = 0) ∨ (t = t0 + 17 ∧ ¬ sl P h = 0) := by
  have h1 : 0 ≤ (addS (t0, fl P h, h) a).2 := by unfold addS; split <;> omega
  unfold addA
  rw [tin_addS h1, tin_addS hn]
  constructor
  · rintro ((a | a) | a)
    · exact Or.inl a
    · exact Or.inr (Or.inl a)
    · exact Or.inr (Or.inr a)
  · rintro (a | a | a)
    · exact Or.inl (Or.inl a)
    · exact Or.inl (Or.inr a)
    · exact Or.inr a
theorem tin_shL {P : Pl} (hW : WF P) {F : Int → Bool} {T : Int → Int} (hT : ∀ h, 0 ≤ h → h < P 280 → F h = true → 0 ≤ T h ∧ T h ≤ 15000) {t : Int} : tin (shL P F T) t ↔ stm P F T t := by
  have g0 := WF_0 hW
  have key : ∀ (d : Nat) (n : Int), n.toNat = d → 0 ≤ n → n ≤ P 280 → (tin (lp (layF P F T) 0 n z0) t ↔ ∃ h, 0 ≤ h ∧ h < n ∧ F h = true ∧ ((t = T h ∧ ¬ fl P h = 0) ∨ (t = T h + 17 ∧ ¬ sl P h = 0))) := by
    intro d
    induction d with
    | zero =>
      intro n hd h0 h1
      rw [lp_z _ _ (by omega)]
      constructor
      · rintro ⟨i, i0, i1, _⟩
        have : i < 0 := i1
        omega
      · rintro ⟨i, i0, i1, _⟩; omega
    | succ d ih =>
      intro n hd h0 h1
      have a1 : 0 ≤ n - 1 := by omega
      have a2 : n - 1 < n - 1 + 1 := by omega
      have ok := shL_ok hW hT (n - 1) (by omega) (by omega)
      rw [show n = (n - 1) + 1 by omega, lp_l _ _ (by omega)]
      have i := ih (n - 1) (by omega) (by omega) (by omega)
      by_cases c : F (n - 1) = true
      · rw [layF_t c, tin_addA ok.1.1.1, i]
        constructor
        · rintro (⟨h, a, b, e⟩ | e)
          · exact ⟨h, a, by omega, e⟩
          · exact ⟨n - 1, a1, a2, c, e⟩
        · rintro ⟨h, a, b, e, f⟩
          by_cases q : h = n - 1
          · subst q; exact Or.inr f
          · exact Or.inl ⟨h, a, by omega, e, f⟩
      · rw [layF_f c, i]
        constructor
        · rintro ⟨h, a, b, e⟩; exact ⟨h, a, by omega, e⟩
        · rintro ⟨h, a, b, e, f⟩
          by_cases q : h = n - 1
          · subst q; exact absurd e c
          · exact ⟨h, a, by omega, e, f⟩
  exact key _ (P 280) rfl g0.1.1 (Int.le_refl _)
/-- the worst is a time's -/
theorem wT_in {Z : Int → Z3} {n w : Int} : ∀ (d : Nat) (k : Int), k.toNat = d → 0 < k → ∃ j, 0 ≤ j ∧ j < k ∧ wT Z n w k = (Z j).1
  | 0, k, hd, h0 => by omega
  | d + 1, k, hd, h0 => by
    rw [show k = (k - 1) + 1 by omega, wT_s (by omega)]
    by_cases c : wT Z n w (k - 1) < 0 ∨ shk Z n w (wT Z n w (k - 1)) < shk Z n w (Z (k - 1)).1
    · rw [if_pos c]; exact ⟨k - 1, by omega, by omega, rfl⟩
    · rw [if_neg c]
      by_cases e : k - 1 = 0
      · rw [e, wT_0] at c; exact absurd (Or.inl (by omega)) c
      · obtain ⟨j, j0, j1, j2⟩ := wT_in d (k - 1) (by omega) (by omega)
        exact ⟨j, j0, by omega, j2⟩
theorem wS_le {a : Zr} (ho : okZ a.1 a.2) {w lim : Int} (hl : 0 ≤ lim) : wS a.1 a.2 w ≤ lim ↔ ∀ t, tin a t → shk a.1 a.2 w t ≤ lim := by
  have hn := ho.1
  unfold wS
  by_cases c : a.2 = 0
  · rw [if_pos c]
    exact ⟨fun _ t ⟨i, i0, i1, _⟩ => by omega, fun _ => hl⟩
  · rw [if_neg c]
    rcases wT_r ho w hn.1 (Int.le_refl _) with q | ⟨q1, q2, q3, q4⟩
    · omega
    · constructor
      · rintro h t ⟨i, i0, i1, e⟩
        have := q4 i i0 i1
        rw [e] at this
        omega
      · intro h
        obtain ⟨j, j0, j1, j2⟩ := wT_in (Z := a.1) (n := a.2) (w := w) _ a.2 rfl q1
        exact h _ ⟨j, j0, j1, j2.symm⟩
/-- the same times and the same shakes: the same worst -/
theorem wS_same {a b : Zr} (ha : okZ a.1 a.2) (hb : okZ b.1 b.2) {w : Int} (ht : ∀ t, tin a t ↔ tin b t) (hs : ∀ t, shk a.1 a.2 w t = shk b.1 b.2 w t) : wS a.1 a.2 w = wS b.1 b.2 w := by
  have r1 := wS_r ha w
  have r2 := wS_r hb w
  have e1 := (wS_le ha (w := w) (lim := wS b.1 b.2 w) r2.1).mpr (fun t h => by rw [hs]; exact (wS_le hb (w := w) r2.1).mp (Int.le_refl _) t ((ht t).mp h))
  have e2 := (wS_le hb (w := w) (lim := wS a.1 a.2 w) r1.1).mpr (fun t h => by rw [← hs]; exact (wS_le ha (w := w) r1.1).mp (Int.le_refl _) t ((ht t).mpr h))
  omega
/-! a step of the plan -/
abbrev Pn : Type := (Int → Bool) × (Int → Int)
noncomputable def tt (P : Pl) (a : Pn) (h : Int) : Int := sg P (dd P) (-1) h + a.2 h
def wih (F : Int → Bool) (h k : Int) : Bool := F k || decide (k = h)
def okQ (P : Pl) (F : Int → Bool) (T : Int → Int) : Prop := ∀ t, stm P F T t → hsm P F T (P 282) t ≤ P 283
def okI (P : Pl) (F : Int → Bool) (T : Int → Int) (h t : Int) : Prop := rlv P F T t h ∧ okQ P (wih F h) (pu T h t)
noncomputable def fdI (P : Pl) (a : Pn) (h : Int) : Int := fd (fun k => dec (okI P a.1 (tt P a) h (sg P (dd P) (-1) h + k * P 284))) 0 (999 / P 284 + 1)
noncomputable def plS (P : Pl) (h : Int) (a : Pn) : Pn := if fdI P a h = -1 then a else (wih a.1 h, pu a.2 h (fdI P a h * P 284))
noncomputable def plQ (P : Pl) (q : Int) (a : Pn) : Pn := if hat P (q / 10) (q % 10) = -1 then a else if (fr P (dd P) (-1)) (hat P (q / 10) (q % 10)) = true then plS P (hat P (q / 10) (q % 10)) a else a
noncomputable def plan (P : Pl) : Pn := lp (plQ P) 0 50 (fun _ => false, fun _ => -1)
/-- what is kept: planned ones fire, their delays and times are small, nothing shakes too much -/
def plI (P : Pl) (a : Pn) : Prop := (∀ h, a.1 h = true → (0 ≤ h ∧ h < P 280) ∧ (fr P (dd P) (-1)) h = true ∧ 0 ≤ a.2 h ∧ a.2 h ≤ 999) ∧ (∀ h, ¬ a.1 h = true → a.2 h = -1) ∧ okQ P a.1 (tt P a)
theorem tt_r {P : Pl} (hW : WF P) (hG : Sg P (dd P) (-1) (sg P (dd P) (-1))) {a : Pn} (hI : plI P a) {h : Int} (hp : a.1 h = true) : 0 ≤ tt P a h ∧ tt P a h ≤ 10999 := by
  obtain ⟨q1, q2, q3, q4⟩ := hI.1 h hp
  have f := (fr_i.mp q2).1
  unfold tt
  rcases sg_r hW hG q1.1 q1.2 with e | e <;> omega
