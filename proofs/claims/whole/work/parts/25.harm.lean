/-! in thought: a hole dead or a wire gone -/
theorem wkl_mono {P Q : Pl} {D D' : Int → Bool} {g : Int} (hn : Q 281 = P 281) (hw : ∀ w, 0 ≤ w → w < P 281 → Q (160 + 3 * w) = P (160 + 3 * w) ∧ Q (160 + 3 * w + 1) = P (160 + 3 * w + 1) ∧ Q (160 + 3 * w + 2) = P (160 + 3 * w + 2)) (hD : ∀ w, 0 ≤ w → w < P 281 → 0 ≤ P (160 + 3 * w) → D' (P (160 + 3 * w)) = D (P (160 + 3 * w))) : ∀ {l : List Int} {h x : Int}, wkl P D g l h x → wkl Q D' g l h x
  | [], _, _, q => q.elim
  | w :: l, h, x, ⟨⟨q1, q2, q3, q4⟩, q⟩ => by
    obtain ⟨e0, e1, e2⟩ := hw w q1 q2
    refine ⟨⟨q1, by omega, q3, by omega⟩, ?_⟩
    rw [e0, e2]
    rcases q with ⟨a, b, c⟩ | ⟨a, b, y, c, d⟩
    · exact Or.inl ⟨a, b, c⟩
    · exact Or.inr ⟨a, by rw [hD w q1 q2 a]; exact b, y, wkl_mono hn hw hD c, d⟩
noncomputable def mnP (p : Int → Prop) : Int := @dite _ (∃ x, p x ∧ ∀ y, p y → x ≤ y) (Classical.propDecidable _) (fun q => Classical.choose q) (fun _ => 1000000)
theorem sg_c {P Q : Pl} {D D' : Int → Bool} {g g' h : Int} (hx : ∀ x, WX Q D' g' h x ↔ WX P D g h x) : sg Q D' g' h = sg P D g h := by
  have e : WX Q D' g' h = WX P D g h := funext fun x => propext (hx x)
  show mnP (WX Q D' g' h) = mnP (WX P D g h)
  rw [e]
/-- holes that differ in nothing but being dead -/
def SH (Q P : Pl) : Prop := (Q 280 = P 280 ∧ Q 282 = P 282 ∧ Q 283 = P 283) ∧ ∀ k, 0 ≤ k → k < P 280 → Q (8 * k) = P (8 * k) ∧ Q (8 * k + 1) = P (8 * k + 1) ∧ Q (8 * k + 2) = P (8 * k + 2) ∧ Q (8 * k + 3) = P (8 * k + 3) ∧ Q (8 * k + 4) = P (8 * k + 4) ∧ Q (8 * k + 5) = P (8 * k + 5)
section SHC
variable {P Q : Pl} {D D' F F' : Int → Bool} {T T' : Int → Int} {g g' : Int}
theorem SH_fl (h : SH Q P) {k : Int} (k0 : 0 ≤ k) (k1 : k < P 280) : fl Q k = fl P k ∧ sl Q k = sl P k ∧ nd Q k = nd P k := by
  obtain ⟨e0, e1, e2, e3, e4, e5⟩ := h.2 k k0 k1
  unfold fl sl nd
  rw [e2, e3, e4]; exact ⟨rfl, rfl, rfl⟩
theorem SH_ahd (h : SH Q P) {k j : Int} (k0 : 0 ≤ k) (k1 : k < P 280) (j0 : 0 ≤ j) (j1 : j < P 280) : ahd Q k j = ahd P k j :=
  ahd_c (h.2 j j0 j1).2.2.1 (h.2 j j0 j1).1 (h.2 k k0 k1).1 (h.2 j j0 j1).2.1 (h.2 k k0 k1).2.1
theorem SH_rlv (h : SH Q P) (hF : ∀ k, 0 ≤ k → k < P 280 → F' k = F k) (hT : ∀ k, 0 ≤ k → k < P 280 → F k = true → T' k = T k) {t k : Int} (k0 : 0 ≤ k) (k1 : k < P 280) : rlv Q F' T' t k ↔ rlv P F T t k := by
  unfold rlv
  rw [h.1.1, (h.2 k k0 k1).1, (SH_fl h k0 k1).2.2]
  constructor
  · rintro (a | ⟨⟨j, j0, j1, b⟩, c⟩)
    · exact Or.inl a
    · refine Or.inr ⟨⟨j, j0, j1, by rw [← SH_ahd h k0 k1 j0 j1]; exact b⟩, fun i i0 i1 d => ?_⟩
      have := c i i0 i1 (by rw [SH_ahd h k0 k1 i0 i1]; exact d)
      rw [hF i i0 i1] at this
      rw [hT i i0 i1 this.1] at this
      exact this
  · rintro (a | ⟨⟨j, j0, j1, b⟩, c⟩)
    · exact Or.inl a
    · refine Or.inr ⟨⟨j, j0, j1, by rw [SH_ahd h k0 k1 j0 j1]; exact b⟩, fun i i0 i1 d => ?_⟩
      have := c i i0 i1 (by rw [← SH_ahd h k0 k1 i0 i1]; exact d)
      rw [hF i i0 i1, hT i i0 i1 this.1]
      exact this
theorem SH_fr (h : SH Q P) (hs : ∀ k, 0 ≤ k → k < P 280 → sg Q D' g' k = sg P D g k) (hD : ∀ k, 0 ≤ k → k < P 280 → D' k = D k) {k : Int} (k0 : 0 ≤ k) (k1 : k < P 280) : fr Q D' g' k = fr P D g k := by
  unfold fr
  rw [hs k k0 k1, hD k k0 k1, (h.2 k k0 k1).2.2.1]
theorem SH_tm (h : SH Q P) (hs : ∀ k, 0 ≤ k → k < P 280 → sg Q D' g' k = sg P D g k) {k : Int} (k0 : 0 ≤ k) (k1 : k < P 280) : tm Q D' g' k = tm P D g k := by
  unfold tm
  rw [hs k k0 k1, (h.2 k k0 k1).2.2.2.2.2]
theorem SH_bur (h : SH Q P) (hs : ∀ k, 0 ≤ k → k < P 280 → sg Q D' g' k = sg P D g k) (hD : ∀ k, 0 ≤ k → k < P 280 → D' k = D k) {k : Int} (k0 : 0 ≤ k) (k1 : k < P 280) : bur Q D' g' k = bur P D g k := by
  unfold bur
  rw [SH_fr h hs hD k0 k1, SH_tm h hs k0 k1]
  have e := SH_rlv h (F' := fr Q D' g') (F := fr P D g) (T' := tm Q D' g') (T := tm P D g) (fun j a b => SH_fr h hs hD a b) (fun j a b _ => SH_tm h hs a b) (t := tm P D g k) k0 k1
  have e2 : rlv Q (fr Q D' g') (tm Q D' g') (tm P D g k) k = rlv P (fr P D g) (tm P D g) (tm P D g k) k := propext e
  rw [e2]
theorem SH_shL (h : SH Q P) (hF : ∀ k, 0 ≤ k → k < P 280 → F' k = F k) (hT : ∀ k, 0 ≤ k → k < P 280 → F k = true → T' k = T k) : shL Q F' T' = shL P F T := by
  unfold shL
  rw [h.1.1]
  refine lp_c (fun k a k0 k1 => ?_)
  unfold layF
  rw [hF k k0 k1]
  by_cases c : F k = true
  · rw [if_pos c, if_pos c, hT k k0 k1 c]
    unfold addA
    rw [(SH_fl h k0 k1).1, (SH_fl h k0 k1).2.1]
  · rw [if_neg c, if_neg c]
end SHC
/-- with a hole dead -/
def ddx (P : Pl) (x k : Int) : Bool := dd P k || decide (k = x)
theorem mis_sg {P : Pl} (hW : WF P) {x h : Int} (x0 : 0 ≤ x) (x1 : x < P 280) : sg (pu P (8 * x + 6) 1) (dd (pu P (8 * x + 6) 1)) (-1) h = sg P (ddx P x) (-1) h := by
  have g0 := WF_0 hW
  have hd : ∀ k, dd (pu P (8 * x + 6) 1) k = ddx P x k := by
    intro k
    unfold dd ddx
    by_cases c : k = x
    · subst c; rw [pu_e rfl]; simp
    · rw [pu_n (by omega), decide_eq_false c, Bool.or_false]; rfl
  refine sg_c (fun y => ?_)
  constructor
  · rintro ⟨l, hl⟩
    refine ⟨l, wkl_mono (P := pu P (8 * x + 6) 1) (by simp (disch := omega) only [pu_e, pu_n, ]) (fun w w0 w1 => ?_) (fun w w0 w1 _ => (hd _).symm) hl⟩
    rw [pu_n (by omega)] at w1
    refine ⟨?_, ?_, ?_⟩ <;> simp (disch := omega) only [pu_e, pu_n, ]
  · rintro ⟨l, hl⟩
    refine ⟨l, wkl_mono (by simp (disch := omega) only [pu_e, pu_n, ]) (fun w w0 w1 => ?_) (fun w w0 w1 _ => hd _) hl⟩
    refine ⟨?_, ?_, ?_⟩ <;> simp (disch := omega) only [pu_e, pu_n, ]
theorem mis_SH {P : Pl} (hW : WF P) {x : Int} (x0 : 0 ≤ x) (x1 : x < P 280) : SH (pu P (8 * x + 6) 1) P := by
  have g0 := WF_0 hW
  refine ⟨⟨?_, ?_, ?_⟩, fun k k0 k1 => ⟨?_, ?_, ?_, ?_, ?_, ?_⟩⟩ <;> simp (disch := omega) only [pu_e, pu_n, ]
theorem mis_D {P : Pl} {x k : Int} : dd (pu P (8 * x + 6) 1) k = ddx P x k := by
  unfold dd ddx
  by_cases c : k = x
  · subst c; rw [pu_e rfl]; simp
  · rw [pu_n (by omega), decide_eq_false c, Bool.or_false]; rfl
def upW (w i : Int) : Int := if i < w then i else i + 1
def dnW (w i : Int) : Int := if i < w then i else i - 1
theorem cut_v {P : Pl} {w i k : Int} (w0 : 0 ≤ w) (w1 : w < P 281) (hP : P 281 ≤ 40) (i0 : 0 ≤ i) (i1 : i < P 281 - 1) (k0 : 0 ≤ k) (k1 : k < 3) : cutP P w (160 + 3 * i + k) = P (160 + 3 * upW w i + k) := by
  unfold cutP upW
  rw [if_neg (by omega)]
  by_cases c : i < w
  · rw [if_neg (by omega), if_pos c]
  · rw [if_pos (by omega), if_neg c, show 160 + 3 * i + k + 3 = 160 + 3 * (i + 1) + k by omega]
theorem cut_dd {P : Pl} {w k : Int} (w0 : 0 ≤ w) (k1 : k < 19 ∨ k = 19) : dd (cutP P w) k = dd P k := by
  unfold dd cutP
  rw [if_neg (by omega), if_neg (by omega)]
theorem wkl_cut {P : Pl} (hW : WF P) {w : Int} (w0 : 0 ≤ w) (w1 : w < P 281) : ∀ {l : List Int} {h x : Int}, wkl (cutP P w) (dd (cutP P w)) (-1) l h x → ∃ l', (l = [] → l' = []) ∧ wkl P (dd P) w l' h x
  | [], _, _, q => q.elim
  | i :: l, h, x, ⟨⟨q1, q2, q3, q4⟩, q⟩ => by
    have g0 := WF_0 hW
    have c1 : cutP P w 281 = P 281 - 1 := by unfold cutP; rw [if_pos rfl]
    rw [c1] at q2
    have e0 := cut_v w0 w1 (by omega) q1 q2 (k := 0) (by omega) (by omega)
    have e1 := cut_v w0 w1 (by omega) q1 q2 (k := 1) (by omega) (by omega)
    have e2 := cut_v w0 w1 (by omega) q1 q2 (k := 2) (by omega) (by omega)
    rw [Int.add_zero, Int.add_zero] at e0
    have hu : 0 ≤ upW w i ∧ upW w i < P 281 ∧ ¬ upW w i = w := by unfold upW; split <;> omega
    have r := WF_w hW hu.1 hu.2.1
    rw [e1] at q4
    rw [e0, e2] at q
    rcases q with ⟨a, b, c⟩ | ⟨a, b, y, c, d⟩
    · exact ⟨[upW w i], by simp, ⟨hu.1, hu.2.1, hu.2.2, q4⟩, Or.inl ⟨a, rfl, c⟩⟩
    · obtain ⟨l', _, k⟩ := wkl_cut hW w0 w1 c
      exact ⟨upW w i :: l', by simp, ⟨hu.1, hu.2.1, hu.2.2, q4⟩, Or.inr ⟨a, by rw [← cut_dd (w := w) w0 (by omega)]; exact b, y, k, d⟩⟩
theorem wkl_uncut {P : Pl} (hW : WF P) {w : Int} (w0 : 0 ≤ w) (w1 : w < P 281) : ∀ {l : List Int} {h x : Int}, wkl P (dd P) w l h x → ∃ l', wkl (cutP P w) (dd (cutP P w)) (-1) l' h x
  | [], _, _, q => q.elim
  | i :: l, h, x, ⟨⟨q1, q2, q3, q4⟩, q⟩ => by
    have g0 := WF_0 hW
    have c1 : cutP P w 281 = P 281 - 1 := by unfold cutP; rw [if_pos rfl]
    have hd : 0 ≤ dnW w i ∧ dnW w i < P 281 - 1 ∧ upW w (dnW w i) = i := by clear q; unfold dnW upW; (repeat' split) <;> omega
    have e0 := cut_v w0 w1 (by omega) hd.1 hd.2.1 (k := 0) (by omega) (by omega)
    have e1 := cut_v w0 w1 (by omega) hd.1 hd.2.1 (k := 1) (by omega) (by omega)
    have e2 := cut_v w0 w1 (by omega) hd.1 hd.2.1 (k := 2) (by omega) (by omega)
    rw [Int.add_zero, Int.add_zero] at e0
    rw [hd.2.2] at e0 e1 e2
    have r := WF_w hW q1 q2
    rcases q with ⟨a, b, c⟩ | ⟨a, b, y, c, d⟩
    · exact ⟨[dnW w i], ⟨hd.1, by omega, by omega, by omega⟩, Or.inl ⟨by omega, rfl, by omega⟩⟩
    · obtain ⟨l', k⟩ := wkl_uncut hW w0 w1 c
      refine ⟨dnW w i :: l', ⟨hd.1, by omega, by omega, by omega⟩, Or.inr ⟨by omega, ?_, y, ?_, by omega⟩⟩
      · rw [e0, cut_dd w0 (by omega)]; exact b
      · rw [e0]; exact k
theorem cut_sg {P : Pl} (hW : WF P) {w h : Int} (w0 : 0 ≤ w) (w1 : w < P 281) : sg (cutP P w) (dd (cutP P w)) (-1) h = sg P (dd P) w h := by
  refine sg_c (fun y => ⟨fun ⟨l, hl⟩ => ?_, fun ⟨l, hl⟩ => wkl_uncut hW w0 w1 hl⟩)
  obtain ⟨l', _, k⟩ := wkl_cut hW w0 w1 hl
  exact ⟨l', k⟩
theorem cut_SH {P : Pl} (hW : WF P) {w : Int} (w0 : 0 ≤ w) (w1 : w < P 281) : SH (cutP P w) P := by
  have g0 := WF_0 hW
  have eo : ∀ i, (i < 160 ∨ 281 < i ∨ i = 280) → cutP P w i = P i := fun i hi => by unfold cutP; rw [if_neg (by omega), if_neg (by omega)]
  exact ⟨⟨eo _ (by omega), eo _ (by omega), eo _ (by omega)⟩, fun k k0 k1 => ⟨eo _ (by omega), eo _ (by omega), eo _ (by omega), eo _ (by omega), eo _ (by omega), eo _ (by omega)⟩⟩
/-! what is lost and bared then -/
noncomputable def hLo (P : Pl) (D : Int → Bool) (g : Int) (but : Int32) : Int32 := (bm (fr P (dd P) (-1)) (P 280) &&& (bm (fr P D g) (P 280) ^^^ iI (-1))) &&& (but ^^^ iI (-1))
noncomputable def hBa (P : Pl) (D : Int → Bool) (g : Int) : Int32 := bm (bur P D g) (P 280) &&& (bm (bur P (dd P) (-1)) (P 280) ^^^ iI (-1))
noncomputable def hTo (P : Pl) (D : Int → Bool) (g : Int) (but : Int32) (a : Int) : Int32 := if a = 0 then hLo P D g but else if a = 1 then hBa P D g else if a = 2 then iI (wS (shL P (fr P D g) (tm P D g)).1 (shL P (fr P D g) (tm P D g)).2 (P 282)) else iI (ov (shL P (fr P D g) (tm P D g)).1 (shL P (fr P D g) (tm P D g)).2 (P 282) (P 283) (shL P (fr P D g) (tm P D g)).2)
def bit1 (x : Int) : Int32 := iI 1 <<< (iI x &&& iI 31)
noncomputable def qMis (P : Pl) (x a : Int) : Int32 := if ¬ (0 ≤ x ∧ x < P 280) then iI (-1) else if ¬ (0 ≤ a ∧ a ≤ 3) then iI (-1) else hTo P (ddx P x) (-1) (bit1 x) a
noncomputable def qBro (P : Pl) (w a : Int) : Int32 := if ¬ (0 ≤ w ∧ w < P 281) then iI (-1) else if ¬ (0 ≤ a ∧ a ≤ 3) then iI (-1) else hTo P (dd P) w (iI 0) a
theorem hLo_hi {P : Pl} (hW : WF P) {D : Int → Bool} {g : Int} {but : Int32} {k : Int} (k0 : 20 ≤ k) (k1 : k < 32) : bs (hLo P D g but) k = false := by
  have g0 := WF_0 hW
  unfold hLo
  rw [bs_and, bs_and, bs_bm (by omega), decide_eq_false (by omega)]; rfl
theorem hBa_hi {P : Pl} (hW : WF P) {D : Int → Bool} {g : Int} {k : Int} (k0 : 20 ≤ k) (k1 : k < 32) : bs (hBa P D g) k = false := by
  have g0 := WF_0 hW
  unfold hBa
  rw [bs_and, bs_bm (by omega), decide_eq_false (by omega)]; rfl
/-- how much harm -/
noncomputable def hN (P : Pl) (D : Int → Bool) (g : Int) (but : Int32) : Int := pop (hLo P D g but) + pop (hBa P D g)
def crt (n : Int → Int) (k : Int) : Int × Int := lp (fun k fm => if fm.2 < n k then (k, n k) else fm) 0 k (-1, -1)
noncomputable def qCri (P : Pl) (a : Int) : Int := if a = 0 then (crt (fun k => hN P (ddx P k) (-1) (bit1 k)) (P 280)).1 else if a = 1 then (crt (fun k => hN P (dd P) k (iI 0)) (P 281)).1 else -1
theorem crt_s {n : Int → Int} {k : Int} (h : 0 ≤ k) : crt n (k + 1) = if (crt n k).2 < n k then (k, n k) else crt n k := lp_l _ _ h
theorem crt_0 {n : Int → Int} : crt n 0 = (-1, -1) := lp_z _ _ (Int.le_refl 0)
theorem crt_r {n : Int → Int} {m k : Int} (hn : ∀ k, 0 ≤ k → k < m → 0 ≤ n k ∧ n k ≤ 100) (h0 : 0 ≤ k) (h1 : k ≤ m) : (-1 ≤ (crt n k).1 ∧ (crt n k).1 < k ∨ (crt n k).1 = -1) ∧ -1 ≤ (crt n k).2 ∧ (crt n k).2 ≤ 100 := by
  unfold crt
  refine lp_inv (f := fun k fm => if fm.2 < n k then (k, n k) else fm) (fun (i : Int) (fm : Int × Int) => (-1 ≤ fm.1 ∧ fm.1 < i ∨ fm.1 = -1) ∧ -1 ≤ fm.2 ∧ fm.2 ≤ 100) _ (a := ((-1, -1) : Int × Int)) rfl h0 ⟨Or.inr rfl, by decide, by decide⟩ (fun i fm i0 i1 ha => ?_)
  have := hn i i0 (by omega)
  by_cases c : fm.2 < n i
  · rw [if_pos c]; exact ⟨Or.inl ⟨by show -1 ≤ i; omega, by show i < i + 1; omega⟩, by show -1 ≤ n i; omega, by show n i ≤ 100; omega⟩
  · rw [if_neg c]; omega
