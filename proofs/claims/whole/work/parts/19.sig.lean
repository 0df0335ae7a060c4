/-! signals: the least ways along wires (D: dead holes, g: a wire that is gone, or -1) -/
def wkl (P : Pl) (D : Int → Bool) (g : Int) : List Int → Int → Int → Prop
  | [], _, _ => False
  | w :: l, h, x => (0 ≤ w ∧ w < P 281 ∧ ¬ w = g ∧ P (160 + 3 * w + 1) = h) ∧ ((P (160 + 3 * w) = -1 ∧ l = [] ∧ x = P (160 + 3 * w + 2)) ∨ (0 ≤ P (160 + 3 * w) ∧ D (P (160 + 3 * w)) = false ∧ ∃ y, wkl P D g l (P (160 + 3 * w)) y ∧ x = y + P (160 + 3 * w + 2)))
def WX (P : Pl) (D : Int → Bool) (g h x : Int) : Prop := ∃ l, wkl P D g l h x
theorem wkl_r {P : Pl} {D : Int → Bool} {g : Int} (hW : WF P) : ∀ {l : List Int} {h x : Int}, wkl P D g l h x → 0 ≤ x ∧ x ≤ 500 * (l.length : Int) ∧ 0 ≤ h ∧ h < P 280
  | [], _, _, q => q.elim
  | w :: l, h, x, ⟨⟨q1, q2, q3, q4⟩, q⟩ => by
    have r := WF_w hW q1 q2
    have hl : (((w :: l).length : Nat) : Int) = (l.length : Int) + 1 := by rw [List.length_cons]; omega
    rcases q with ⟨_, _, e⟩ | ⟨_, _, y, hy, e⟩
    · omega
    · have := wkl_r hW hy
      omega
/-- a walk's rest is a walk, and no longer -/
theorem wkl_rest {P : Pl} {D : Int → Bool} {g : Int} (hW : WF P) : ∀ {l : List Int} {h x : Int} (j : Nat), wkl P D g l h x → j < l.length → ∃ w y, l[j]? = some w ∧ wkl P D g (l.drop j) (P (160 + 3 * w + 1)) y ∧ y ≤ x
  | [], _, _, _, q, _ => q.elim
  | w :: l, h, x, 0, q, _ => ⟨w, x, rfl, by rw [q.1.2.2.2]; exact q, Int.le_refl x⟩
  | w :: l, h, x, j + 1, ⟨⟨q1, q2, q3, q4⟩, q⟩, hj => by
    have r := WF_w hW q1 q2
    rcases q with ⟨_, e, _⟩ | ⟨_, _, y, hy, e⟩
    · subst e; simp at hj
    · obtain ⟨w2, y2, a, b, c⟩ := wkl_rest hW j hy (by simpa using hj)
      exact ⟨w2, y2, by simpa using a, by simpa using b, by omega⟩
theorem wkl_repl {P : Pl} {D : Int → Bool} {g : Int} {m : List Int} : ∀ {l : List Int} {h x : Int} (i : Nat), wkl P D g l h x → i < l.length → (∀ h' y, wkl P D g (l.drop i) h' y → ∃ z, wkl P D g m h' z ∧ z ≤ y) → ∃ y, wkl P D g (l.take i ++ m) h y ∧ y ≤ x
  | [], _, _, _, q, _, _ => q.elim
  | w :: l, h, x, 0, q, _, hm => by simpa using hm h x q
  | w :: l, h, x, i + 1, ⟨q0, q⟩, hi, hm => by
    rcases q with ⟨_, e, _⟩ | ⟨a, b, y, hy, e⟩
    · subst e; simp at hi
    · obtain ⟨z, c, d⟩ := wkl_repl i hy (by simpa using hi) (by simpa using hm)
      exact ⟨z + P (160 + 3 * w + 2), ⟨q0, Or.inr ⟨a, b, z, c, rfl⟩⟩, by omega⟩
/-- no way needs more wires than there are holes -/
theorem wkl_short {P : Pl} {D : Int → Bool} {g : Int} (hW : WF P) : ∀ (n : Nat) {l : List Int} {h x : Int}, l.length ≤ n → wkl P D g l h x → ∃ l' y, wkl P D g l' h y ∧ (l'.length : Int) ≤ P 280 ∧ y ≤ x
  | 0, l, h, x, hn, q => by
    have : l = [] := List.length_eq_zero_iff.mp (by omega)
    subst this; exact q.elim
  | n + 1, l, h, x, hn, q => by
    by_cases c : (l.length : Int) ≤ P 280
    · exact ⟨l, x, q, c, Int.le_refl x⟩
    · have g0 := WF_0 hW
      have hf : ∀ i, i < l.length → (P (160 + 3 * (l[i]?.getD 0) + 1)).toNat < (P 280).toNat := by
        intro i hi
        obtain ⟨w, y, a, b, _⟩ := wkl_rest hW i q hi
        have := wkl_r hW b
        rw [a, Option.getD_some]
        omega
      obtain ⟨i, j, hij, hj, e⟩ := fb_twice hf (by omega)
      obtain ⟨w, y, a, b, y1⟩ := wkl_rest hW i q (by omega)
      obtain ⟨w2, y2, a2, b2, y3⟩ := wkl_rest hW j q hj
      rw [a, a2, Option.getD_some, Option.getD_some] at e
      have r1 := wkl_r hW b
      have r2 := wkl_r hW b2
      have e2 : P (160 + 3 * w + 1) = P (160 + 3 * w2 + 1) := by omega
      obtain ⟨z, c1, c2⟩ := wkl_repl (m := l.drop j) i q (by omega) (by
        intro h' y' hy
        obtain ⟨w3, y4, d1, d2, d3⟩ := wkl_rest hW (j - i) hy (by rw [List.length_drop]; omega)
        rw [List.drop_drop, show i + (j - i) = j by omega] at d2
        rw [List.getElem?_drop, show i + (j - i) = j by omega, a2] at d1
        have d1 : w2 = w3 := Option.some.inj d1
        subst d1
        have hh : h' = P (160 + 3 * w + 1) := by
          obtain ⟨w5, y5, f1, f2, f3⟩ := wkl_rest hW 0 hy (by rw [List.length_drop]; omega)
          rw [List.getElem?_drop, Nat.add_zero, a] at f1
          have f1 : w = w5 := Option.some.inj f1
          subst f1
          have hdr : l.drop i = w :: l.drop (i + 1) := by
            obtain ⟨hi, ea⟩ := List.getElem?_eq_some_iff.mp a
            rw [← ea]; exact List.drop_eq_getElem_cons hi
          rw [hdr] at hy
          exact hy.1.2.2.2.symm
        rw [hh, e2]
        exact ⟨y4, d2, d3⟩)
      obtain ⟨l', y6, k1, k2, k3⟩ := wkl_short hW n (by rw [List.length_append, List.length_take, List.length_drop]; omega) c1
      exact ⟨l', y6, k1, k2, by omega⟩
/-- a row of signals, 1000000 for none -/
def Sg (P : Pl) (D : Int → Bool) (g : Int) (s : Int → Int) : Prop := ∀ h, 0 ≤ h → h < P 280 → (∀ y, WX P D g h y → s h ≤ y) ∧ (s h = 1000000 ∨ WX P D g h (s h))
noncomputable def sg (P : Pl) (D : Int → Bool) (g h : Int) : Int := @dite _ (∃ x, WX P D g h x ∧ ∀ y, WX P D g h y → x ≤ y) (Classical.propDecidable _) (fun q => Classical.choose q) (fun _ => 1000000)
theorem Sg_lt {P : Pl} {D : Int → Bool} {g : Int} {s : Int → Int} (hW : WF P) (hs : Sg P D g s) {h : Int} (h0 : 0 ≤ h) (h1 : h < P 280) : (s h = 1000000 ∧ ∀ y, ¬ WX P D g h y) ∨ (WX P D g h (s h) ∧ 0 ≤ s h ∧ s h ≤ 10000) := by
  have g0 := WF_0 hW
  obtain ⟨a, b⟩ := hs h h0 h1
  by_cases c : ∃ y, WX P D g h y
  · obtain ⟨y, l, hl⟩ := c
    obtain ⟨l', z, k1, k2, k3⟩ := wkl_short hW _ (Nat.le_refl _) hl
    have r := wkl_r hW k1
    have := a z ⟨l', k1⟩
    rcases b with b | b
    · omega
    · obtain ⟨l2, b2⟩ := b
      have r2 := wkl_r hW b2
      exact Or.inr ⟨⟨l2, b2⟩, by omega, by omega⟩
  · rcases b with b | b
    · exact Or.inl ⟨b, fun y hy => c ⟨y, hy⟩⟩
    · exact absurd ⟨_, b⟩ c
theorem Sg_eq {P : Pl} {D : Int → Bool} {g : Int} {s : Int → Int} (hW : WF P) (hs : Sg P D g s) {h : Int} (h0 : 0 ≤ h) (h1 : h < P 280) : s h = sg P D g h := by
  obtain ⟨a, b⟩ := hs h h0 h1
  unfold sg
  rcases Sg_lt hW hs h0 h1 with ⟨q1, q2⟩ | ⟨q1, q2, q3⟩
  · rw [dif_neg (fun z => q2 _ (Classical.choose_spec z).1)]; exact q1
  · have hx : ∃ x, WX P D g h x ∧ ∀ y, WX P D g h y → x ≤ y := ⟨s h, q1, a⟩
    rw [dif_pos hx]
    have sp := Classical.choose_spec hx
    have u1 := sp.2 _ q1
    have u2 := a _ sp.1
    omega
theorem sg_Sg {P : Pl} {D : Int → Bool} {g : Int} {s : Int → Int} (hW : WF P) (hs : Sg P D g s) : Sg P D g (sg P D g) := fun h h0 h1 => by rw [← Sg_eq hW hs h0 h1]; exact hs h h0 h1
/-- when a wire ends -/
def en (P : Pl) (D : Int → Bool) (s : Int → Int) (w : Int) : Int := if P (160 + 3 * w) = -1 then P (160 + 3 * w + 2) else if s (P (160 + 3 * w)) = 1000000 ∨ D (P (160 + 3 * w)) = true then 1000000 else s (P (160 + 3 * w)) + P (160 + 3 * w + 2)
/-- how many have a signal -/
def ctS (s : Int → Int) : Nat := fb_ct (fun k => decide (s (k : Int) < 1000000)) 20
def Snd (P : Pl) (D : Int → Bool) (g : Int) (s : Int → Int) : Prop := ∀ h, 0 ≤ h → h < 20 → (s h = 1000000 ∨ (h < P 280 ∧ WX P D g h (s h) ∧ 0 ≤ s h ∧ s h ≤ 500 * (ctS s : Int)))
def Cmp (P : Pl) (D : Int → Bool) (g : Int) (k : Int) (s : Int → Int) : Prop := ∀ l h y, (l.length : Int) ≤ k → wkl P D g l h y → s h ≤ y
theorem ct_le (s : Int → Int) : ctS s ≤ 20 := fb_ct_le _ _
theorem Snd_r {P : Pl} {D : Int → Bool} {g : Int} {s : Int → Int} (hs : Snd P D g s) {h : Int} (h0 : 0 ≤ h) (h1 : h < 20) : s h = 1000000 ∨ (0 ≤ s h ∧ s h ≤ 10000) := by
  have := ct_le s
  rcases hs h h0 h1 with q | ⟨_, _, q1, q2⟩
  · exact Or.inl q
  · exact Or.inr ⟨q1, by omega⟩
theorem en_r {P : Pl} {D : Int → Bool} {g : Int} {s : Int → Int} (hW : WF P) (hs : Snd P D g s) {w : Int} (h0 : 0 ≤ w) (h1 : w < P 281) : en P D s w = 1000000 ∨ (0 ≤ en P D s w ∧ en P D s w ≤ 10500 ∧ (¬ w = g → WX P D g (P (160 + 3 * w + 1)) (en P D s w)) ∧ en P D s w ≤ 500 * (ctS s : Int) + 500) := by
  have r := WF_w hW h0 h1
  have g0 := WF_0 hW
  unfold en
  by_cases c : P (160 + 3 * w) = -1
  · rw [if_pos c]
    exact Or.inr ⟨by omega, by omega, fun hg => ⟨[w], ⟨⟨h0, h1, hg, rfl⟩, Or.inl ⟨c, rfl, rfl⟩⟩⟩, by omega⟩
  · rw [if_neg c]
    by_cases d : s (P (160 + 3 * w)) = 1000000 ∨ D (P (160 + 3 * w)) = true
    · rw [if_pos d]; exact Or.inl rfl
    · rw [if_neg d]
      have hc := ct_le s
      rcases hs (P (160 + 3 * w)) (by omega) (by omega) with q | ⟨q0, ⟨l, q1⟩, q2, q3⟩
      · exact absurd (Or.inl q) d
      · exact Or.inr ⟨by omega, by omega, fun hg => ⟨w :: l, ⟨⟨h0, h1, hg, rfl⟩, Or.inr ⟨by omega, by revert d; cases D (P (160 + 3 * w)) <;> simp, _, q1, rfl⟩⟩⟩, by omega⟩
/-- one wire's turn -/
theorem Snd_up {P : Pl} {D : Int → Bool} {g : Int} {s : Int → Int} (hW : WF P) (hs : Snd P D g s) {w : Int} (h0 : 0 ≤ w) (h1 : w < P 281) (hg : ¬ w = g) (hlt : en P D s w < s (P (160 + 3 * w + 1))) : Snd P D g (pu s (P (160 + 3 * w + 1)) (en P D s w)) := by
  have r := WF_w hW h0 h1
  have g0 := WF_0 hW
  have hc := ct_le s
  have ht := Snd_r hs (h := P (160 + 3 * w + 1)) (by omega) (by omega)
  have hfun : (fun k : Nat => decide (pu s (P (160 + 3 * w + 1)) (en P D s w) (k : Int) < 1000000)) = (fun k : Nat => if k = (P (160 + 3 * w + 1)).toNat then true else decide (s (k : Int) < 1000000)) := by
    funext k
    by_cases c : k = (P (160 + 3 * w + 1)).toNat
    · rw [if_pos c, pu_e (by omega)]; exact decide_eq_true (by omega)
    · rw [if_neg c, pu_n (by omega)]
  have hct : ctS s ≤ ctS (pu s (P (160 + 3 * w + 1)) (en P D s w)) ∧ (s (P (160 + 3 * w + 1)) = 1000000 → ctS (pu s (P (160 + 3 * w + 1)) (en P D s w)) = ctS s + 1) := by
    unfold ctS
    rw [hfun]
    have e := fb_ct_upd (fun k : Nat => decide (s (k : Int) < 1000000)) true (i := (P (160 + 3 * w + 1)).toNat) (n := 20) (by omega)
    have e2 : (((P (160 + 3 * w + 1)).toNat : Nat) : Int) = P (160 + 3 * w + 1) := by omega
    simp only [e2, if_true] at e
    constructor
    · split at e <;> omega
    · intro q
      split at e
      · rename_i z; rw [q] at z; exact absurd z (by decide)
      · omega
  rcases en_r hW hs h0 h1 with q | ⟨q1, q2, q3, q4⟩
  · omega
  · intro h a b
    by_cases c : h = P (160 + 3 * w + 1)
    · subst c
      rw [pu_e rfl]
      refine Or.inr ⟨by omega, q3 hg, q1, ?_⟩
      rcases ht with ht | ht
      · have := hct.2 ht; omega
      · rcases hs _ a b with z | ⟨_, _, z1, z2⟩
        · omega
        · omega
    · rw [pu_n c]
      rcases hs h a b with z | ⟨z0, z1, z2, z3⟩
      · exact Or.inl z
      · exact Or.inr ⟨z0, z1, z2, by omega⟩
theorem Cmp_step {P : Pl} {D : Int → Bool} {g k : Int} {s0 s1 : Int → Int} (hstep : ∀ w, 0 ≤ w → w < P 281 → ¬ w = g → s1 (P (160 + 3 * w + 1)) ≤ en P D s0 w) (hW : WF P) (hc : Cmp P D g k s0) : Cmp P D g (k + 1) s1 := by
  intro l h y hl q
  match l, q with
  | w :: l, ⟨⟨q1, q2, q3, q4⟩, q⟩ =>
    have r := WF_w hW q1 q2
    have hs := hstep w q1 q2 q3
    rw [q4] at hs
    unfold en at hs
    rcases q with ⟨a, _, e⟩ | ⟨a, b, z, hz, e⟩
    · rw [if_pos a] at hs; omega
    · have := hc l _ z (by rw [List.length_cons] at hl; omega) hz
      rw [if_neg (by omega)] at hs
      by_cases d : s0 (P (160 + 3 * w)) = 1000000 ∨ D (P (160 + 3 * w)) = true
      · rw [if_pos d] at hs
        rcases d with d | d
        · omega
        · rw [b] at d; exact absurd d (by decide)
      · rw [if_neg d] at hs; omega
theorem Cmp_fix {P : Pl} {D : Int → Bool} {g : Int} {s : Int → Int} (hstep : ∀ w, 0 ≤ w → w < P 281 → ¬ w = g → s (P (160 + 3 * w + 1)) ≤ en P D s w) (hW : WF P) : ∀ (k : Nat), Cmp P D g k s
  | 0 => fun l h y hl q => by
    have : l = [] := List.length_eq_zero_iff.mp (by omega)
    subst this; exact q.elim
  | k + 1 => Cmp_step hstep hW (Cmp_fix hstep hW k)
theorem Sg_fix {P : Pl} {D : Int → Bool} {g : Int} {s : Int → Int} (hW : WF P) (hs : Snd P D g s) (hstep : ∀ w, 0 ≤ w → w < P 281 → ¬ w = g → s (P (160 + 3 * w + 1)) ≤ en P D s w) : Sg P D g s := by
  have g0 := WF_0 hW
  intro h h0 h1
  refine ⟨fun y ⟨l, hl⟩ => Cmp_fix hstep hW l.length l h y (Int.le_refl _) hl, ?_⟩
  rcases hs h h0 (by omega) with q | ⟨_, q, _⟩
  · exact Or.inl q
  · exact Or.inr q
theorem Sg_cmp {P : Pl} {D : Int → Bool} {g : Int} {s : Int → Int} (hW : WF P) (hs : Snd P D g s) (hc : Cmp P D g (P 280) s) : Sg P D g s := by
  have g0 := WF_0 hW
  intro h h0 h1
  refine ⟨fun y ⟨l, hl⟩ => ?_, ?_⟩
  · obtain ⟨l', z, k1, k2, k3⟩ := wkl_short hW _ (Nat.le_refl _) hl
    have := hc l' h z k2 k1
    omega
  · rcases hs h h0 (by omega) with q | ⟨_, q, _⟩
    · exact Or.inl q
    · exact Or.inr q
theorem en_mono {P : Pl} {D : Int → Bool} {g : Int} {s s0 : Int → Int} (hW : WF P) (hs : Snd P D g s) (hs0 : Snd P D g s0) (hle : ∀ h, 0 ≤ h → h < 20 → s h ≤ s0 h) {w : Int} (h0 : 0 ≤ w) (h1 : w < P 281) : en P D s w ≤ en P D s0 w := by
  have r := WF_w hW h0 h1
  have g0 := WF_0 hW
  unfold en
  by_cases c : P (160 + 3 * w) = -1
  · rw [if_pos c, if_pos c]; omega
  · rw [if_neg c, if_neg c]
    have q1 := hle (P (160 + 3 * w)) (by omega) (by omega)
    have q2 := Snd_r hs (h := P (160 + 3 * w)) (by omega) (by omega)
    have q3 := Snd_r hs0 (h := P (160 + 3 * w)) (by omega) (by omega)
    by_cases d : D (P (160 + 3 * w)) = true
    · rw [if_pos (Or.inr d), if_pos (Or.inr d)]; omega
    · by_cases e1 : s (P (160 + 3 * w)) = 1000000
      · rw [if_pos (Or.inl e1), if_pos (Or.inl (by omega))]; omega
      · rw [if_neg (fun z => z.elim e1 d)]
        by_cases e2 : s0 (P (160 + 3 * w)) = 1000000
        · rw [if_pos (Or.inl e2)]; omega
        · rw [if_neg (fun z => z.elim e2 d)]; omega
