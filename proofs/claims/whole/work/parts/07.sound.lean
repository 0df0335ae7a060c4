theorem cl_facts : ∀ (ci : Nat) (q : vw_C), vwCl[ci]? = some q → (∀ w ∈ u_ws q.1 q.2.1 q.2.2, w ∈ tg) ∧ (∃ ty0 : Nat → FieldType, ∀ k, k < q.2.2 → parseFieldDescriptor (q.2.1 k).2.2.1 = some (ty0 k)) ∧ (∀ a, a < q.2.2 → ∀ b, b < q.2.2 → a ≠ b → (q.2.1 a).2.1 ≠ (q.2.1 b).2.1) := by
  have hg : ∀ (ws : List Jvm.Cond), (∀ w ∈ ws, w ∈ lw_tbl) → ws.all goodWord = true → ∀ w ∈ ws, w ∈ tg := fun ws h1 h2 w hw => List.mem_filter.mpr ⟨h1 w hw, List.all_eq_true.mp h2 w hw⟩
  intro ci q h
  match ci, h with
  | 0, h => cases h; exact ⟨hg _ inX0 (by decide +kernel), ⟨tyX0, tyX0_ok⟩, nmX0⟩
  | 1, h => cases h; exact ⟨hg _ inX2 (by decide +kernel), ⟨tyX2, tyX2_ok⟩, nmX2⟩
  | 2, h => cases h; exact ⟨hg _ inX3 (by decide +kernel), ⟨tyX3, tyX3_ok⟩, nmX3⟩
  | 3, h => cases h; exact ⟨hg _ inX4 (by decide +kernel), ⟨tyX4, tyX4_ok⟩, nmX4⟩
  | 4, h => cases h; exact ⟨hg _ inX5 (by decide +kernel), ⟨tyX5, tyX5_ok⟩, nmX5⟩
  | 5, h => cases h; exact ⟨hg _ inX6 (by decide +kernel), ⟨tyX6, tyX6_ok⟩, nmX6⟩
  | 6, h => cases h; exact ⟨hg _ inX7 (by decide +kernel), ⟨tyX7, tyX7_ok⟩, nmX7⟩
  | 7, h => cases h; exact ⟨hg _ inX8 (by decide +kernel), ⟨tyX8, tyX8_ok⟩, nmX8⟩
  | 8, h => cases h; exact ⟨hg _ inX9 (by decide +kernel), ⟨tyX9, tyX9_ok⟩, nmX9⟩
  | k + 9, h => simp [vwCl] at h
theorem arr_tg : Jvm.Cond.native arraycopyName ∈ tg ∧ Jvm.Cond.static arraycopyName ∈ tg ∧ Jvm.Cond.initialized "java/lang/System" ∈ tg := ⟨atW_in (i := 122) (by decide +kernel), atW_in (i := 121) (by decide +kernel), atW_in (i := 88) (by decide +kernel)⟩
theorem math_tg : (Jvm.Cond.static Lib.Math.max.name ∈ tg ∧ Jvm.Cond.static Lib.Math.min.name ∈ tg ∧ Jvm.Cond.static Lib.Math.abs.name ∈ tg) ∧ Jvm.Cond.initialized "java/lang/Math" ∈ tg ∧ (Jvm.Cond.code Lib.Math.max.name Lib.Math.max.code 2 (some .int) ∈ tg ∧ Jvm.Cond.code Lib.Math.min.name Lib.Math.min.code 2 (some .int) ∈ tg ∧ Jvm.Cond.code Lib.Math.abs.name Lib.Math.abs.code 1 (some .int) ∈ tg) := ⟨⟨atW_in (i := 563) (by decide +kernel), atW_in (i := 652) (by decide +kernel), atW_in (i := 422) (by decide +kernel)⟩, atW_in (i := 97) (by decide +kernel), ⟨atW_in (i := 564) (by decide +kernel), atW_in (i := 653) (by decide +kernel), atW_in (i := 423) (by decide +kernel)⟩⟩
theorem sw_e {k : Nat → Prop} {x : Int32} {d : Nat} : ∀ {ks : List (Int32 × Nat)}, sw k x d ks → (∀ (j : Nat) (q : Int32 × Nat), ks[j]? = some q → x = q.1 → (∀ (i : Nat) (r : Int32 × Nat), i < j → ks[i]? = some r → ¬ x = r.1) → k q.2) ∧ ((∀ q ∈ ks, ¬ x = q.1) → k d)
  | [], h => ⟨fun j q hj => by simp at hj, fun _ => h⟩
  | a :: t, h => by
    refine ⟨fun j q hj hx hn => ?_, fun hn => ?_⟩
    · cases j with
      | zero =>
        simp only [List.getElem?_cons_zero, Option.some.injEq] at hj
        subst hj
        exact h.1 hx
      | succ j =>
        have h0 : ¬ x = a.1 := hn 0 a (by omega) rfl
        exact (sw_e (h.2 h0)).1 j q (by simpa using hj) hx (fun i r hi hr => hn (i + 1) r (by omega) (by simpa using hr))
    · exact (sw_e (h.2 (hn a List.mem_cons_self))).2 (fun q hq => hn q (List.mem_cons_of_mem _ hq))
theorem cell0 {cy : Nat → ClassId} {ad : Nat → Nat} {σ : St} {k : Nat} {c : Cel} (h : c.1 = 0) : cellV cy ad σ k c = .inr (c.2.1, flds ad (σ.1 k) 0 c.2.2) := by simp [cellV, h]
theorem cellI {cy : Nat → ClassId} {ad : Nat → Nat} {σ : St} {k : Nat} {c : Cel} (t : Nat) (ht : t = 1 ∨ t = 2 ∨ t = 3) (h : c.1 = t) : cellV cy ad σ k c = .inl (cy t, c.2.1, .inl (σ.1 k)) := by
  rcases ht with rfl | rfl | rfl <;> simp [cellV, h]
theorem cellJ {cy : Nat → ClassId} {ad : Nat → Nat} {σ : St} {k : Nat} {c : Cel} (h : c.1 = 4) : cellV cy ad σ k c = .inl (cy 4, c.2.1, .inr (.inl (σ.2 k))) := by simp [cellV, h]
theorem cell_ne {cy : Nat → ClassId} {ad : Nat → Nat} {σ σ' : St} {j : Nat} (d : Cel) (h1 : σ'.1 j = σ.1 j) (h2 : σ'.2 j = σ.2 j) : cellV cy ad σ' j d = cellV cy ad σ j d := by simp only [cellV, h1, h2]
theorem upI_ne {σ : St} {a j : Nat} {x : Int32} {k : Nat} (h : k ≠ a) : (upI σ a j x).1 k = σ.1 k ∧ (upI σ a j x).2 k = σ.2 k := ⟨if_neg h, rfl⟩
theorem upI_eq {σ : St} {a j : Nat} {x : Int32} : (upI σ a j x).1 a = upd (σ.1 a) j x := if_pos rfl
theorem upJ_ne {σ : St} {a j : Nat} {x : Int64} {k : Nat} (h : k ≠ a) : (upJ σ a j x).1 k = σ.1 k ∧ (upJ σ a j x).2 k = σ.2 k := ⟨rfl, if_neg h⟩
theorem upJ_eq {σ : St} {a j : Nat} {x : Int64} : (upJ σ a j x).2 a = vp_updL (σ.2 a) j x := if_pos rfl
section SND2
variable {p : Program} {l : Launch} {e : Env} {R : Room} {s : State} {m : MethodId} {args : Array Value} {below : List Frame} {meth : Method} {c : Code} {cells slots : Nat} {Q : State → Prop}
variable {D : va_G} {cy : Nat → ClassId} {ad : Nat → Nat} {A : Nat → Prop} {nL : Nat} {own : String} {cc : ByteArray} {rt : Option FieldType} {S : Sp} {Rt : Rs}
variable {pc x1 x2 x3 x4 len : Nat} {zi : Int32} {zl : Int64} {lo : Lo} {st : List AV} {σ : St}
theorem snd_getf (C : Cx D cy ad A nL p R s m args c cells slots own cc) {idx : Nat} (hdg : decode cc pc = .ok (.getfield idx, 3)) {Cn : String} {F : u_T} {N : Nat} (hc : vwCl[x1]? = some (Cn, F, N)) (hx2 : x2 < N) (hF : (F x2).1 = Cn) (hw : Jvm.Cond.fieldLink own idx Cn (F x2).2.1 (F x2).2.2.1 ∈ tg) {a : Nat} {t : List AV} (ho : oc a = some x1) {o : Option Nat} (hf : fo a x2 = some o)
    (kk : Vd D cy ad A nL p l e R s m args below meth c cells slots Q (pc + 3) lo ((match o with
      | none => aI (σ.1 a x2)
      | some r => aR r) :: t) σ) : Vd D cy ad A nL p l e R s m args below meth c cells slots Q pc lo (aR a :: t) σ := by
  obtain ⟨hx, hb, hml, hown, hts, hK, hAp, hE, hcs⟩ := C
  intro H locs ls hP hS hl
  obtain ⟨c1, s1, t1, u1⟩ := oc_e ho
  obtain ⟨c2, s2, t2, u2⟩ := fo_e hf
  have : c1 = c2 := Option.some.inj (s1.symm.trans s2)
  subst this
  have he := WS_get (cy := cy) (ad := ad) (σ := σ) s1
  rw [cell0 t1, u1] at he
  have hv := flds_get (ad := ad) (f := σ.1 a) (i := 0) u2
  rw [Nat.zero_add] at hv
  refine va_get hx hb hts (cl_facts _ _ hc).1 hown hK hP a he hc x2 hx2 (hts _ hw) (fun x h => by rw [hF] at h; exact h) hv hdg ?_
  have := kk H locs ls hP hS hl
  cases o <;> exact this
theorem snd_putf (C : Cx D cy ad A nL p R s m args c cells slots own cc) {idx : Nat} (hdg : decode cc pc = .ok (.putfield idx, 3)) {Cn : String} {F : u_T} {N : Nat} (hc : vwCl[x1]? = some (Cn, F, N)) (hx2 : x2 < N) (hF : (F x2).1 = Cn) (hw : Jvm.Cond.fieldLink own idx Cn (F x2).2.1 (F x2).2.2.1 ∈ tg) (hfin : (F x2).2.2.2 = false) {x : Int32} {ty : FieldType} (hd : parseFieldDescriptor (F x2).2.2.1 = some ty) (hn : narrow ty (.int x) = .int x) (hfit : fits ty (.int x) = true) {a : Nat} {t : List AV} (ho : oc a = some x1) (hf : fo a x2 = some none)
    (kk : Vd D cy ad A nL p l e R s m args below meth c cells slots Q (pc + 3) lo t (upI σ a x2 x)) : Vd D cy ad A nL p l e R s m args below meth c cells slots Q pc lo (aI x :: aR a :: t) σ := by
  obtain ⟨hx, hb, hml, hown, hts, hK, hAp, hE, hcs⟩ := C
  intro H locs ls hP hS hl
  obtain ⟨c1, s1, t1, u1⟩ := oc_e ho
  obtain ⟨c2, s2, t2, u2⟩ := fo_e hf
  have : c1 = c2 := Option.some.inj (s1.symm.trans s2)
  subst this
  have he := WS_get (cy := cy) (ad := ad) (σ := σ) s1
  rw [cell0 t1, u1] at he
  obtain ⟨h1, ⟨ty0, h2⟩, h3⟩ := cl_facts _ _ hc
  refine va_put hx hb hts h1 ty0 h2 h3 hown hK hP (WS_D hAp) hS a he hc x2 hx2 (hts _ hw) (fun x h => by rw [hF] at h; exact h) hfin hd hn hfit (by rw [flds_len]; exact (List.getElem?_eq_some_iff.mp u2).1) hdg (fun H1 locs1 hP1 _ hS1 => ?_)
  rw [WS_set (σ' := upI σ a x2 x) s1 (by
    rw [cell0 t1, u1, upI_eq]
    have := flds_set (ad := ad) (f := σ.1 a) (x := x) (i := 0) u2
    rw [Nat.zero_add] at this
    rw [this]; rfl) (fun j d hj => cell_ne d (upI_ne hj).1 (upI_ne hj).2)] at hP1
  exact kk H1 locs1 ls hP1 hS1 hl
/-- int, byte and char rows -/
theorem al_cell {a : Nat} {q : Nat × Nat} (t : Nat) (ht : t = 1 ∨ t = 2 ∨ t = 3) (ha : al a = some q) (h : q.1 = t) : ∃ d : Cel, shape[a]? = some d ∧ d.1 = t ∧ d.2.1 = q.2 ∧ (WS cy ad σ)[a]? = some (ad a, .inl (cy t, q.2, .inl (σ.1 a))) := by
  obtain ⟨d, h1, h2, h3, h4⟩ := al_e ha (by rcases ht with rfl | rfl | rfl <;> omega)
  have hd : d.1 = t := by omega
  exact ⟨d, h1, hd, h4, by rw [WS_get h1, cellI t ht hd, h4]⟩
theorem al_cellJ {a : Nat} {q : Nat × Nat} (ha : al a = some q) (h : q.1 = 4) : ∃ d : Cel, shape[a]? = some d ∧ d.1 = 4 ∧ d.2.1 = q.2 ∧ (WS cy ad σ)[a]? = some (ad a, .inl (cy 4, q.2, .inr (.inl (σ.2 a)))) := by
  obtain ⟨d, h1, h2, h3, h4⟩ := al_e ha (by omega)
  have hd : d.1 = 4 := by omega
  exact ⟨d, h1, hd, h4, by rw [WS_get h1, cellJ hd, h4]⟩
theorem set_I {a j : Nat} {x : Int32} {q : Nat × Nat} {d : Cel} (t : Nat) (ht : t = 1 ∨ t = 2 ∨ t = 3) (h1 : shape[a]? = some d) (hd : d.1 = t) (h4 : d.2.1 = q.2) : (WS cy ad σ).set a (ad a, .inl (cy t, q.2, .inl (upd (σ.1 a) j x))) = WS cy ad (upI σ a j x) :=
  WS_set h1 (by rw [cellI t ht hd, h4, upI_eq]) (fun j d hj => cell_ne d (upI_ne hj).1 (upI_ne hj).2)
theorem set_J {a j : Nat} {x : Int64} {q : Nat × Nat} {d : Cel} (h1 : shape[a]? = some d) (hd : d.1 = 4) (h4 : d.2.1 = q.2) : (WS cy ad σ).set a (ad a, .inl (cy 4, q.2, .inr (.inl (vp_updL (σ.2 a) j x)))) = WS cy ad (upJ σ a j x) :=
  WS_set h1 (by rw [cellJ hd, h4, upJ_eq]) (fun j d hj => cell_ne d (upJ_ne hj).1 (upJ_ne hj).2)
theorem snd_iald (C : Cx D cy ad A nL p R s m args c cells slots own cc) (hdg : decode cc pc = .ok (.iaload, 1)) {a : Nat} {i : Int32} {t : List AV} (h : tag a = 1 ∨ tag a = 7) (hin : vp_in i (ln a)) (kk : Vd D cy ad A nL p l e R s m args below meth c cells slots Q (pc + 1) lo (aI (rd σ a i.toNatClampNeg) :: t) σ) : Vd D cy ad A nL p l e R s m args below meth c cells slots Q pc lo (aI i :: aR a :: t) σ := by
  obtain ⟨hx, hb, hml, hown, hts, hK, hAp, hE, hcs⟩ := C
  intro H locs ls hP hS hl
  rcases h with h | h
  · obtain ⟨q, ha, h1, h2⟩ := tag_e h (by omega)
    rw [← h2] at hin
    obtain ⟨d, hd, -, -, he⟩ := al_cell (cy := cy) (ad := ad) (σ := σ) 1 (by omega) ha h1
    rw [rd_lt (by have := shape_lt hd; unfold NP at this; omega)] at kk
    exact va_iald hx hb hK hP a 0 he rfl hin hdg (kk H locs ls hP hS hl)
  · obtain ⟨q, ha, h1, h0⟩ := tag_e h (by omega)
    obtain ⟨f, h2, h3, h4⟩ := al_7 ha h1
    rw [← h0, h4] at hin
    have hT := (hE.1 (a - 100) f h2).2
    have ea : 100 + (a - 100) = a := by omega
    rw [ea] at hT
    have hv : rd σ a i.toNatClampNeg = f.2.2.getD i.toNatClampNeg 0 := by rw [rd_ge h3]; unfold sv; rw [h2]
    rw [hv] at kk
    have k2 := kk H locs ls hP hS hl
    exact va_ti (t := ad a) (N := f.2.2.length) (f := fun j => .int (f.2.2.getD j 0)) hx hb hT hS hin (v := .int (f.2.2.getD i.toNatClampNeg 0)) rfl hdg k2
theorem snd_bald (C : Cx D cy ad A nL p R s m args c cells slots own cc) (hdg : decode cc pc = .ok (.baload, 1)) {a : Nat} {i : Int32} {t : List AV} (hg : tag a = 2) (hin : vp_in i (ln a)) (kk : Vd D cy ad A nL p l e R s m args below meth c cells slots Q (pc + 1) lo (aI (σ.1 a i.toNatClampNeg) :: t) σ) : Vd D cy ad A nL p l e R s m args below meth c cells slots Q pc lo (aI i :: aR a :: t) σ := by
  obtain ⟨hx, hb, hml, hown, hts, hK, hAp, hE, hcs⟩ := C
  intro H locs ls hP hS hl
  obtain ⟨q, ha, h1, h0⟩ := tag_e hg (by omega)
  rw [← h0] at hin
  obtain ⟨d, -, -, -, he⟩ := al_cell (cy := cy) (ad := ad) (σ := σ) 2 (by omega) ha h1
  exact va_bald hx hb hK hP a 1 he rfl hin hdg (kk H locs ls hP hS hl)
theorem snd_cald (C : Cx D cy ad A nL p R s m args c cells slots own cc) (hdg : decode cc pc = .ok (.caload, 1)) {a : Nat} {i : Int32} {t : List AV} (hg : tag a = 3) (hin : vp_in i (ln a)) (kk : Vd D cy ad A nL p l e R s m args below meth c cells slots Q (pc + 1) lo (aI (σ.1 a i.toNatClampNeg) :: t) σ) : Vd D cy ad A nL p l e R s m args below meth c cells slots Q pc lo (aI i :: aR a :: t) σ := by
  obtain ⟨hx, hb, hml, hown, hts, hK, hAp, hE, hcs⟩ := C
  intro H locs ls hP hS hl
  obtain ⟨q, ha, h1, h0⟩ := tag_e hg (by omega)
  rw [← h0] at hin
  obtain ⟨d, -, -, -, he⟩ := al_cell (cy := cy) (ad := ad) (σ := σ) 3 (by omega) ha h1
  exact va_cald hx hb hK hP a 2 he rfl hin hdg (kk H locs ls hP hS hl)
theorem snd_lald (C : Cx D cy ad A nL p R s m args c cells slots own cc) (hdg : decode cc pc = .ok (.laload, 1)) {a : Nat} {i : Int32} {t : List AV} (hg : tag a = 4) (hin : vp_in i (ln a)) (kk : Vd D cy ad A nL p l e R s m args below meth c cells slots Q (pc + 1) lo (aL (σ.2 a i.toNatClampNeg) :: t) σ) : Vd D cy ad A nL p l e R s m args below meth c cells slots Q pc lo (aI i :: aR a :: t) σ := by
  obtain ⟨hx, hb, hml, hown, hts, hK, hAp, hE, hcs⟩ := C
  intro H locs ls hP hS hl
  obtain ⟨q, ha, h1, h0⟩ := tag_e hg (by omega)
  rw [← h0] at hin
  obtain ⟨d, -, -, -, he⟩ := al_cellJ (cy := cy) (ad := ad) (σ := σ) ha h1
  exact va_lald hx hb hK hP a 3 he rfl hin hdg (kk H locs ls hP hS hl)
theorem snd_aald (C : Cx D cy ad A nL p R s m args c cells slots own cc) (hdg : decode cc pc = .ok (.aaload, 1)) {a : Nat} {i : Int32} {t : List AV} (ha : a = 42) (hin : vp_in i 4) (kk : Vd D cy ad A nL p l e R s m args below meth c cells slots Q (pc + 1) lo (aR (43 + i.toNatClampNeg) :: t) σ) : Vd D cy ad A nL p l e R s m args below meth c cells slots Q pc lo (aI i :: aR a :: t) σ := by
  obtain ⟨hx, hb, hml, hown, hts, hK, hAp, hE, hcs⟩ := C
  intro H locs ls hP hS hl
  subst ha
  have he : (WS cy ad σ)[42]? = some (ad 42, .inl (cy 5, 4, .inr (.inr (.inr (.inr (fun i => (([some 43, some 44, some 45, some 46] : List (Option Nat)).getD i none).map ad)))))) := WS_get (c := (5, 4, [some 43, some 44, some 45, some 46])) rfl
  have hlt : i.toNatClampNeg < 4 := Nat.not_le.mp fun q => hin (Or.inr q)
  refine W.aald (v := .ref (ad (43 + i.toNatClampNeg))) (ty := .array .long) hx hb (hP 42 _ he) ((hK.2 4 _ rfl).1 4 (fun j => va_rf ((([some 43, some 44, some 45, some 46] : List (Option Nat)).getD j none).map ad))) rfl (fun q => by cases q) (by show ¬ (i < 0 ∨ (arrV _ _ _).slots.size ≤ _); rw [arrV_size]; exact hin) (by
    show (arrV _ _ _).slots[_]? = _
    rw [arrV_read _ _ hlt]
    generalize i.toNatClampNeg = n at hlt ⊢
    match n, hlt with
    | 0, _ => rfl
    | 1, _ => rfl
    | 2, _ => rfl
    | 3, _ => rfl) rfl rfl hdg (kk H locs ls hP hS hl)
theorem snd_alen (C : Cx D cy ad A nL p R s m args c cells slots own cc) (hdg : decode cc pc = .ok (.arraylength, 1)) {a : Nat} {t : List AV} (hg : tag a ≠ 0) (kk : Vd D cy ad A nL p l e R s m args below meth c cells slots Q (pc + 1) lo (aI (Int32.ofNat (ln a)) :: t) σ) : Vd D cy ad A nL p l e R s m args below meth c cells slots Q pc lo (aR a :: t) σ := by
  obtain ⟨hx, hb, hml, hown, hts, hK, hAp, hE, hcs⟩ := C
  intro H locs ls hP hS hl
  obtain ⟨q, ha, -, h0⟩ := tag_e (t := tag a) rfl hg
  rw [← h0] at kk
  by_cases h7 : q.1 = 7
  · obtain ⟨f, h2, h3, h4⟩ := al_7 ha h7
    have hT := (hE.1 (a - 100) f h2).2
    have ea : 100 + (a - 100) = a := by omega
    rw [ea] at hT
    exact va_tlen hx hb hT hS (by rw [h4]) hdg (kk H locs ls hP hS hl)
  · obtain ⟨d, h1, h2, h3, h4⟩ := al_e ha h7
    have h5 := shape_tag d (List.mem_of_getElem? h1)
    have hc : ∃ (t0 : Nat) (cA : ClassId) (ty : FieldType) (r : (Nat → Int32) ⊕ (Nat → Int64) ⊕ (Nat → UInt32) ⊕ (Nat → UInt64) ⊕ (Nat → Option Nat)), (tysOf cy)[t0]? = some (cA, ty) ∧ cellV cy ad σ a d = .inl (cA, d.2.1, r) := by
      rcases (show d.1 = 1 ∨ d.1 = 2 ∨ d.1 = 3 ∨ d.1 = 4 ∨ d.1 = 5 by omega) with h | h | h | h | h
      · exact ⟨0, _, _, _, rfl, cellI 1 (by omega) h⟩
      · exact ⟨1, _, _, _, rfl, cellI 2 (by omega) h⟩
      · exact ⟨2, _, _, _, rfl, cellI 3 (by omega) h⟩
      · exact ⟨3, _, _, _, rfl, cellJ h⟩
      · exact ⟨4, _, _, .inr (.inr (.inr (.inr (fun i => (d.2.2.getD i none).map ad)))), rfl, by simp [cellV, h]⟩
    obtain ⟨t0, cA, ty, r, g1, g2⟩ := hc
    have he := WS_get (cy := cy) (ad := ad) (σ := σ) h1
    rw [g2] at he
    exact va_alen hx hb hK hP a t0 he g1 (v := Int32.ofNat q.2) (by rw [← h4]) hdg (kk H locs ls hP hS hl)
theorem snd_iast (C : Cx D cy ad A nL p R s m args c cells slots own cc) (hdg : decode cc pc = .ok (.iastore, 1)) {a : Nat} {i x : Int32} {t : List AV} (hg : tag a = 1) (hin : vp_in i (ln a)) (kk : Vd D cy ad A nL p l e R s m args below meth c cells slots Q (pc + 1) lo t (upI σ a i.toNatClampNeg x)) : Vd D cy ad A nL p l e R s m args below meth c cells slots Q pc lo (aI x :: aI i :: aR a :: t) σ := by
  obtain ⟨hx, hb, hml, hown, hts, hK, hAp, hE, hcs⟩ := C
  intro H locs ls hP hS hl
  obtain ⟨q, ha, h1, h0⟩ := tag_e hg (by omega)
  rw [← h0] at hin
  obtain ⟨d, g1, g2, g3, he⟩ := al_cell (cy := cy) (ad := ad) (σ := σ) 1 (by omega) ha h1
  refine va_iast hx hb hK hP (WS_D hAp) hS a 0 he rfl hin hdg (fun H1 locs1 hP1 _ hS1 => ?_)
  rw [set_I 1 (by omega) g1 g2 g3] at hP1
  exact kk H1 locs1 ls hP1 hS1 hl
theorem snd_bast (C : Cx D cy ad A nL p R s m args c cells slots own cc) (hdg : decode cc pc = .ok (.bastore, 1)) {a : Nat} {i x : Int32} {t : List AV} (hg : tag a = 2) (hin : vp_in i (ln a)) (kk : Vd D cy ad A nL p l e R s m args below meth c cells slots Q (pc + 1) lo t (upI σ a i.toNatClampNeg x.toInt8.toInt32)) : Vd D cy ad A nL p l e R s m args below meth c cells slots Q pc lo (aI x :: aI i :: aR a :: t) σ := by
  obtain ⟨hx, hb, hml, hown, hts, hK, hAp, hE, hcs⟩ := C
  intro H locs ls hP hS hl
  obtain ⟨q, ha, h1, h0⟩ := tag_e hg (by omega)
  rw [← h0] at hin
  obtain ⟨d, g1, g2, g3, he⟩ := al_cell (cy := cy) (ad := ad) (σ := σ) 2 (by omega) ha h1
  refine va_bast hx hb hK hP (WS_D hAp) hS a 1 he rfl hin hdg (fun H1 locs1 hP1 _ hS1 => ?_)
  rw [vp_nar_byte, set_I 2 (by omega) g1 g2 g3] at hP1
  exact kk H1 locs1 ls hP1 hS1 hl
theorem snd_last (C : Cx D cy ad A nL p R s m args c cells slots own cc) (hdg : decode cc pc = .ok (.lastore, 1)) {a : Nat} {i : Int32} {x : Int64} {t : List AV} (hg : tag a = 4) (hin : vp_in i (ln a)) (kk : Vd D cy ad A nL p l e R s m args below meth c cells slots Q (pc + 1) lo t (upJ σ a i.toNatClampNeg x)) : Vd D cy ad A nL p l e R s m args below meth c cells slots Q pc lo (aL x :: aI i :: aR a :: t) σ := by
  obtain ⟨hx, hb, hml, hown, hts, hK, hAp, hE, hcs⟩ := C
  intro H locs ls hP hS hl
  obtain ⟨q, ha, h1, h0⟩ := tag_e hg (by omega)
  rw [← h0] at hin
  obtain ⟨d, g1, g2, g3, he⟩ := al_cellJ (cy := cy) (ad := ad) (σ := σ) ha h1
  refine va_last hx hb hK hP (WS_D hAp) hS a 3 he rfl hin hdg (fun H1 locs1 hP1 _ hS1 => ?_)
  rw [set_J g1 g2 g3] at hP1
  exact kk H1 locs1 ls hP1 hS1 hl
theorem snd_copy (C : Cx D cy ad A nL p R s m args c cells slots own cc) {idx : Nat} (hdg : decode cc pc = .ok (.invokestatic idx, 3)) (hw : Jvm.Cond.methodLink own idx arraycopyName ∈ tg) (hfr : 1 ≤ R.frames) (hlc : 8 + (nativeFrameWords "java/lang/System" "arraycopy" 5 + 11) ≤ R.locals) {a b : Nat} {sp dp n : Int32} {t : List AV} (h1 : ¬ sp < 0) (h2 : ¬ dp < 0) (h3 : ¬ n < 0) (h4 : sp.toNatClampNeg + n.toNatClampNeg ≤ ln a) (h5 : dp.toNatClampNeg + n.toNatClampNeg ≤ ln b) (hws : wsum t ≤ 8)
    (h : (tag a = 1 ∧ tag b = 1 ∧ Vd D cy ad A nL p l e R s m args below meth c cells slots Q (pc + 3) lo t (cpI σ a b sp.toNatClampNeg dp.toNatClampNeg n.toNatClampNeg)) ∨ (tag a = 4 ∧ tag b = 4 ∧ Vd D cy ad A nL p l e R s m args below meth c cells slots Q (pc + 3) lo t (cpJ σ a b sp.toNatClampNeg dp.toNatClampNeg n.toNatClampNeg))) : Vd D cy ad A nL p l e R s m args below meth c cells slots Q pc lo (aI n :: aI dp :: aR b :: aI sp :: aR a :: t) σ := by
  obtain ⟨hx, hb, hml, hown, hts, hK, hAp, hE, hcs⟩ := C
  intro H locs ls hP hS hl
  have hloc : ((t.map (cv ad)).map fun v => v.category).sum + (nativeFrameWords "java/lang/System" "arraycopy" 5 + 11) ≤ R.locals := by rw [wsum_e]; omega
  rcases h with ⟨g1, g2, kk⟩ | ⟨g1, g2, kk⟩
  · obtain ⟨qa, ha, g1, ga⟩ := tag_e g1 (by omega)
    obtain ⟨qb, hb', g2, gb⟩ := tag_e g2 (by omega)
    rw [← ga] at h4
    rw [← gb] at h5
    obtain ⟨da, -, -, -, hea⟩ := al_cell (cy := cy) (ad := ad) (σ := σ) 1 (by omega) ha g1
    obtain ⟨db, b1, b2, b3, heb⟩ := al_cell (cy := cy) (ad := ad) (σ := σ) 1 (by omega) hb' g2
    refine va_copyi hx hb (hml.trans hl.1.symm) hown (hts _ hw) (hts _ arr_tg.1) (hts _ arr_tg.2.1) (hts _ arr_tg.2.2) hK hP (WS_D hAp) hS a b 0 0 hea heb rfl rfl rfl h1 h2 h3 h4 h5 (fun i _ => rfl) hfr hloc hdg (fun H1 locs1 hP1 _ hS1 => ?_)
    rw [WS_set (σ' := cpI σ a b sp.toNatClampNeg dp.toNatClampNeg n.toNatClampNeg) b1 (by rw [cellI 1 (by omega) b2, b3]; simp [cpI]) (fun j d hj => cell_ne (σ := σ) (σ' := cpI σ a b sp.toNatClampNeg dp.toNatClampNeg n.toNatClampNeg) d (if_neg hj) rfl)] at hP1
    exact kk H1 locs1 ls hP1 hS1 hl
  · obtain ⟨qa, ha, g1, ga⟩ := tag_e g1 (by omega)
    obtain ⟨qb, hb', g2, gb⟩ := tag_e g2 (by omega)
    rw [← ga] at h4
    rw [← gb] at h5
    obtain ⟨da, -, -, -, hea⟩ := al_cellJ (cy := cy) (ad := ad) (σ := σ) ha g1
    obtain ⟨db, b1, b2, b3, heb⟩ := al_cellJ (cy := cy) (ad := ad) (σ := σ) hb' g2
    refine va_copyl hx hb (hml.trans hl.1.symm) hown (hts _ hw) (hts _ arr_tg.1) (hts _ arr_tg.2.1) (hts _ arr_tg.2.2) hK hP (WS_D hAp) hS a b 3 3 hea heb rfl rfl rfl h1 h2 h3 h4 h5 (fun i _ => rfl) hfr hloc hdg (fun H1 locs1 hP1 _ hS1 => ?_)
    rw [WS_set (σ' := cpJ σ a b sp.toNatClampNeg dp.toNatClampNeg n.toNatClampNeg) b1 (by rw [cellJ b2, b3]; simp [cpJ]) (fun j d hj => cell_ne (σ := σ) (σ' := cpJ σ a b sp.toNatClampNeg dp.toNatClampNeg n.toNatClampNeg) d rfl (if_neg hj))] at hP1
    exact kk H1 locs1 ls hP1 hS1 hl
end SND2
