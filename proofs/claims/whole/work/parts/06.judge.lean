/-! what the readers say -/
theorem gI_e {k : Int32 → Prop} : ∀ {lo : Lo} {i : Nat}, gI k lo i → ∃ x, lo[i]? = some (some (aI x)) ∧ k x
  | [], i, h => by simp [gI] at h
  | some (.inl x) :: t, 0, h => ⟨x, rfl, h⟩
  | some (.inr x) :: t, 0, h => by simp [gI] at h
  | none :: t, 0, h => by simp [gI] at h
  | a :: t, n + 1, h => by
    obtain ⟨x, h1, h2⟩ := gI_e (lo := t) (i := n) (by simpa [gI] using h)
    exact ⟨x, by simpa using h1, h2⟩
theorem gL_e {k : Int64 → Prop} : ∀ {lo : Lo} {i : Nat}, gL k lo i → ∃ x, lo[i]? = some (some (aL x)) ∧ k x
  | [], i, h => by simp [gL] at h
  | some (.inr (.inl x)) :: t, 0, h => ⟨x, rfl, h⟩
  | some (.inl x) :: t, 0, h => by simp [gL] at h
  | some (.inr (.inr x)) :: t, 0, h => by simp [gL] at h
  | none :: t, 0, h => by simp [gL] at h
  | a :: t, n + 1, h => by
    obtain ⟨x, h1, h2⟩ := gL_e (lo := t) (i := n) (by simpa [gL] using h)
    exact ⟨x, by simpa using h1, h2⟩
theorem gR_e {k : Nat → Prop} : ∀ {lo : Lo} {i : Nat}, gR k lo i → ∃ x, lo[i]? = some (some (aR x)) ∧ k x
  | [], i, h => by simp [gR] at h
  | some (.inr (.inr x)) :: t, 0, h => ⟨x, rfl, h⟩
  | some (.inl x) :: t, 0, h => by simp [gR] at h
  | some (.inr (.inl x)) :: t, 0, h => by simp [gR] at h
  | none :: t, 0, h => by simp [gR] at h
  | a :: t, n + 1, h => by
    obtain ⟨x, h1, h2⟩ := gR_e (lo := t) (i := n) (by simpa [gR] using h)
    exact ⟨x, by simpa using h1, h2⟩
theorem q1_e {st : List AV} {k : Int32 → List AV → Prop} (h : q1 st k) : ∃ x t, st = aI x :: t ∧ k x t := by
  unfold q1 at h; split at h
  · exact ⟨_, _, rfl, h⟩
  · exact h.elim
theorem q2_e {st : List AV} {k : Int32 → Int32 → List AV → Prop} (h : q2 st k) : ∃ x y t, st = aI y :: aI x :: t ∧ k x y t := by
  unfold q2 at h; split at h
  · exact ⟨_, _, _, rfl, h⟩
  · exact h.elim
theorem qL_e {st : List AV} {k : Int64 → List AV → Prop} (h : qL st k) : ∃ x t, st = aL x :: t ∧ k x t := by
  unfold qL at h; split at h
  · exact ⟨_, _, rfl, h⟩
  · exact h.elim
theorem qLL_e {st : List AV} {k : Int64 → Int64 → List AV → Prop} (h : qLL st k) : ∃ x y t, st = aL y :: aL x :: t ∧ k x y t := by
  unfold qLL at h; split at h
  · exact ⟨_, _, _, rfl, h⟩
  · exact h.elim
theorem qIL_e {st : List AV} {k : Int64 → Int32 → List AV → Prop} (h : qIL st k) : ∃ x y t, st = aI y :: aL x :: t ∧ k x y t := by
  unfold qIL at h; split at h
  · exact ⟨_, _, _, rfl, h⟩
  · exact h.elim
theorem qR_e {st : List AV} {k : Nat → List AV → Prop} (h : qR st k) : ∃ a t, st = aR a :: t ∧ k a t := by
  unfold qR at h; split at h
  · exact ⟨_, _, rfl, h⟩
  · exact h.elim
theorem qIR_e {st : List AV} {k : Nat → Int32 → List AV → Prop} (h : qIR st k) : ∃ a i t, st = aI i :: aR a :: t ∧ k a i t := by
  unfold qIR at h; split at h
  · exact ⟨_, _, _, rfl, h⟩
  · exact h.elim
theorem qIV_e {st : List AV} {k : Nat → Int32 → List AV → Prop} (h : qIV st k) : ∃ a i t, st = aI i :: aR a :: t ∧ k a i t := by
  unfold qIV at h; split at h
  · exact ⟨_, _, _, rfl, h⟩
  · exact h.elim
theorem qIIR_e {st : List AV} {k : Nat → Int32 → Int32 → List AV → Prop} (h : qIIR st k) : ∃ a i x t, st = aI x :: aI i :: aR a :: t ∧ k a i x t := by
  unfold qIIR at h; split at h
  · exact ⟨_, _, _, _, rfl, h⟩
  · exact h.elim
theorem qLIR_e {st : List AV} {k : Nat → Int32 → Int64 → List AV → Prop} (h : qLIR st k) : ∃ a i x t, st = aL x :: aI i :: aR a :: t ∧ k a i x t := by
  unfold qLIR at h; split at h
  · exact ⟨_, _, _, _, rfl, h⟩
  · exact h.elim
theorem qC_e {st : List AV} {k : Nat → Int32 → Nat → Int32 → Int32 → List AV → Prop} (h : qC st k) : ∃ a sp b dp n t, st = aI n :: aI dp :: aR b :: aI sp :: aR a :: t ∧ k a sp b dp n t := by
  unfold qC at h; split at h
  · exact ⟨_, _, _, _, _, _, rfl, h⟩
  · exact h.elim
theorem isC1_e {ad : Nat → Nat} {v : AV} (h : isC1 v) : (cv ad v).category = 1 := by
  rcases v with x | x | x
  · rfl
  · exact h.elim
  · rfl
theorem wsum_e {ad : Nat → Nat} : ∀ t : List AV, ((t.map (cv ad)).map fun v => v.category).sum = wsum t
  | [] => rfl
  | .inl x :: t => by
    have := wsum_e (ad := ad) t
    simp only [List.map_cons, List.sum_cons, wsum, this]; rfl
  | .inr (.inl x) :: t => by
    have := wsum_e (ad := ad) t
    simp only [List.map_cons, List.sum_cons, wsum, this]; rfl
  | .inr (.inr x) :: t => by
    have := wsum_e (ad := ad) t
    simp only [List.map_cons, List.sum_cons, wsum, this]; rfl
theorem w8_e : ∀ {t : List AV} {n : Nat}, w8 t n → wsum t ≤ n
  | [], n, h => Nat.zero_le n
  | .inr (.inl _) :: t, 0, h => by simp [w8] at h
  | .inr (.inl _) :: t, 1, h => by simp [w8] at h
  | .inr (.inl _) :: t, n + 2, h => by
    have := w8_e (t := t) (n := n) (by simpa [w8] using h)
    simp only [wsum]; omega
  | .inl _ :: t, 0, h => by simp [w8] at h
  | .inl _ :: t, n + 1, h => by
    have := w8_e (t := t) (n := n) (by simpa [w8] using h)
    simp only [wsum]; omega
  | .inr (.inr _) :: t, 0, h => by simp [w8] at h
  | .inr (.inr _) :: t, n + 1, h => by
    have := w8_e (t := t) (n := n) (by simpa [w8] using h)
    simp only [wsum]; omega
theorem spl_e {k : List AV → List AV → Prop} : ∀ {n : Nat} {acc st : List AV}, spl k n acc st → ∃ l t, st = l ++ t ∧ l.length = n ∧ k (l.reverse ++ acc) t
  | 0, acc, st, h => ⟨[], st, rfl, rfl, h⟩
  | n + 1, acc, [], h => by simp [spl] at h
  | n + 1, acc, v :: t, h => by
    obtain ⟨l, t', h1, h2, h3⟩ := spl_e (n := n) (acc := v :: acc) (st := t) h
    exact ⟨v :: l, t', by rw [h1]; rfl, by simp [h2], by simpa using h3⟩
theorem spl_m {k k' : List AV → List AV → Prop} (h : ∀ a t, k a t → k' a t) : ∀ {n : Nat} {acc st : List AV}, spl k n acc st → spl k' n acc st
  | 0, acc, st, g => h _ _ g
  | n + 1, acc, [], g => g
  | n + 1, acc, v :: t, g => spl_m h (n := n) (acc := v :: acc) (st := t) g
theorem oc_e {k ci : Nat} (h : oc k = some ci) : ∃ c, shape[k]? = some c ∧ c.1 = 0 ∧ c.2.1 = ci := by
  unfold oc at h; split at h
  · rename_i c hc
    split at h
    · exact ⟨c, hc, by assumption, Option.some.inj h⟩
    · cases h
  · cases h
theorem fo_e {k j : Nat} {o : Option Nat} (h : fo k j = some o) : ∃ c, shape[k]? = some c ∧ c.1 = 0 ∧ c.2.2[j]? = some o := by
  unfold fo at h; split at h
  · rename_i c hc
    split at h
    · exact ⟨c, hc, by assumption, h⟩
    · cases h
  · cases h
theorem shape_tag : ∀ c ∈ shape, c.1 ≤ 5 := by decide
theorem al_e {k : Nat} {q : Nat × Nat} (h : al k = some q) (h7 : q.1 ≠ 7) : ∃ c, shape[k]? = some c ∧ c.1 ≠ 0 ∧ c.1 = q.1 ∧ c.2.1 = q.2 := by
  unfold al at h; split at h
  · rename_i c hc
    split at h
    · cases h
    · cases h; exact ⟨c, hc, by assumption, rfl, rfl⟩
  · split at h
    · split at h
      · cases h
      · cases h; exact absurd rfl h7
    · cases h
theorem al_7 {k : Nat} {q : Nat × Nat} (h : al k = some q) (h7 : q.1 = 7) : ∃ f, stA[k - 100]? = some f ∧ 100 ≤ k ∧ q.2 = f.2.2.length := by
  unfold al at h; split at h
  · rename_i c hc
    split at h
    · cases h
    · cases h
      have := shape_tag c (List.mem_of_getElem? hc)
      exact absurd h7 (by show c.1 ≠ 7; omega)
  · split at h
    · rename_i f hf
      split at h
      · cases h
      · cases h; exact ⟨f, hf, by omega, rfl⟩
    · cases h
def chkS (k : Nat) : Bool := match shape[k]? with
  | some c => if c.1 = 0 then (match vwCl[c.2.1]? with
    | some q => (c.2.2.length == q.2.2) && (List.range q.2.2).all (fun j => match c.2.2[j]? with
      | some none => !isRd (q.2.1 j).2.2.1
      | some (some _) => isRd (q.2.1 j).2.2.1
      | none => false)
    | none => false) else true
  | none => true
theorem chkS_ok : (List.range NP).all chkS = true := by decide +kernel
theorem fo_of {a ci j : Nat} {C : String} {F : u_T} {N : Nat} (ho : oc a = some ci) (hc : vwCl[ci]? = some (C, F, N)) (hj : j < N) : (isRd (F j).2.2.1 = false → fo a j = some none) ∧ (isRd (F j).2.2.1 = true → fo a j = some (some (ch a j))) := by
  obtain ⟨c, h1, h2, h3⟩ := oc_e ho
  have hk := List.all_eq_true.mp chkS_ok a (List.mem_range.mpr (shape_lt h1))
  simp only [chkS, h1, h2, if_true, h3, hc, Bool.and_eq_true, List.all_eq_true, beq_iff_eq] at hk
  have hk := hk.2 j (List.mem_range.mpr hj)
  have hf : fo a j = c.2.2[j]? := by simp only [fo, h1, h2, if_true]
  refine ⟨fun q => ?_, fun q => ?_⟩
  · split at hk
    · rename_i e; rw [hf, e]
    · rw [q] at hk; cases hk
    · cases hk
  · split at hk
    · rw [q] at hk; cases hk
    · rename_i r e; simp only [ch, hf, e]
    · cases hk
theorem tag_e {a t : Nat} (h : tag a = t) (ht : t ≠ 0) : ∃ q, al a = some q ∧ q.1 = t ∧ q.2 = ln a := by
  unfold tag at h
  split at h
  · rename_i q hq
    exact ⟨q, hq, h, by simp only [ln, hq]⟩
  · exact absurd h.symm ht
theorem rd_lt {σ : St} {a j : Nat} (h : a < 100) : rd σ a j = σ.1 a j := by
  unfold rd
  rw [show Nat.blt a 100 = true from Nat.ble_eq.mpr (by omega)]
  rfl
theorem rd_ge {σ : St} {a j : Nat} (h : 100 ≤ a) : rd σ a j = sv a j := by
  unfold rd
  cases hb : Nat.blt a 100 with
  | false => rfl
  | true => have := Nat.ble_eq.mp hb; omega
theorem flds_get {ad : Nat → Nat} {f : Nat → Int32} : ∀ {fs : List (Option Nat)} {i j : Nat} {o : Option Nat}, fs[j]? = some o → (flds ad f i fs)[j]? = some (match o with
    | none => Value.int (f (i + j))
    | some r => Value.ref (ad r))
  | [], i, j, o, h => by simp at h
  | none :: t, i, 0, o, h => by simp only [List.getElem?_cons_zero, Option.some.injEq] at h; subst h; rfl
  | some r :: t, i, 0, o, h => by simp only [List.getElem?_cons_zero, Option.some.injEq] at h; subst h; rfl
  | none :: t, i, j + 1, o, h => by
    have := flds_get (ad := ad) (f := f) (fs := t) (i := i + 1) (j := j) (by simpa using h)
    rw [show i + 1 + j = i + (j + 1) by omega] at this
    simpa [flds] using this
  | some r :: t, i, j + 1, o, h => by
    have := flds_get (ad := ad) (f := f) (fs := t) (i := i + 1) (j := j) (by simpa using h)
    rw [show i + 1 + j = i + (j + 1) by omega] at this
    simpa [flds] using this
theorem flds_len {ad : Nat → Nat} {f : Nat → Int32} : ∀ {fs : List (Option Nat)} {i : Nat}, (flds ad f i fs).length = fs.length
  | [], i => rfl
  | none :: t, i => by simp [flds, flds_len (fs := t)]
  | some r :: t, i => by simp [flds, flds_len (fs := t)]
theorem flds_congr {ad : Nat → Nat} {f g : Nat → Int32} : ∀ {fs : List (Option Nat)} {i : Nat}, (∀ k, i ≤ k → f k = g k) → flds ad f i fs = flds ad g i fs
  | [], i, h => rfl
  | none :: t, i, h => by simp only [flds, h i (Nat.le_refl i), flds_congr (fs := t) (i := i + 1) (fun k hk => h k (by omega))]
  | some r :: t, i, h => by simp only [flds, flds_congr (fs := t) (i := i + 1) (fun k hk => h k (by omega))]
theorem flds_set {ad : Nat → Nat} {f : Nat → Int32} {x : Int32} : ∀ {fs : List (Option Nat)} {i j : Nat}, fs[j]? = some none → flds ad (upd f (i + j) x) i fs = (flds ad f i fs).set j (.int x)
  | [], i, j, h => by simp at h
  | none :: t, i, 0, h => by
    simp only [flds, Nat.add_zero, List.set_cons_zero]
    rw [flds_congr (f := upd f i x) (g := f) (fun k hk => by simp only [upd]; rw [if_neg (by omega)])]
    simp [upd]
  | some r :: t, i, 0, h => by simp at h
  | none :: t, i, j + 1, h => by
    have := flds_set (ad := ad) (f := f) (x := x) (fs := t) (i := i + 1) (j := j) (by simpa using h)
    rw [show i + 1 + j = i + (j + 1) by omega] at this
    simp only [flds, this, List.set_cons_succ]
    simp only [upd]
    rw [if_neg (by omega)]
  | some r :: t, i, j + 1, h => by
    have := flds_set (ad := ad) (f := f) (x := x) (fs := t) (i := i + 1) (j := j) (by simpa using h)
    rw [show i + 1 + j = i + (j + 1) by omega] at this
    simp only [flds, this, List.set_cons_succ]
/-! the judgement -/
def Vd (D : va_G) (cy : Nat → ClassId) (ad : Nat → Nat) (A : Nat → Prop) (nL : Nat) (p : Program) (l : Launch) (e : Env) (R : Room) (s : State) (m : MethodId) (args : Array Value) (below : List Frame) (meth : Method) (c : Code) (cells slots : Nat) (Q : State → Prop) : Kt := fun pc lo st σ =>
  ∀ (H : Heap) (locs : List Loc) (ls : Array Slot), va_P D vwCl (WS cy ad σ) H → va_S A s.heap H locs → lv_has ls nL (prs ad 0 lo) → W p l e R s m args below meth c H locs cells slots Q (F0 m pc ls (st.map (cv ad)))
def Post (D : va_G) (cy : Nat → ClassId) (ad : Nat → Nat) (A : Nat → Prop) (Φ : Rs) : State → Outcome → State → Prop := fun st oc t =>
  (∃ (r : List AV) (σ' : St), r.length ≤ 1 ∧ oc = .returned ((r.map (cv ad)).head?) ∧ Φ r σ' ∧ va_P D vwCl (WS cy ad σ') t.heap) ∧ va_F A st t
def Prec (D : va_G) (cy : Nat → ClassId) (ad : Nat → Nat) (A : Nat → Prop) (av : List AV) (σ : St) : Array Value → State → Prop :=
  va_Pc (av.map (cv ad)) (fun U => va_P D vwCl (WS cy ad σ) U.heap ∧ va_K D vwCl (tysOf cy) U ∧ Ex ad A U U.heap)
def wsM (M : MI) : List Jvm.Cond := Jvm.Cond.code M.1 M.2.1 M.2.2.1 M.2.2.2.1 :: tg
def rmM (M : MI) : Room := { frames := M.2.2.2.2.2.1, cells := 0, slots := 0, locals := M.2.2.2.2.2.2.1 }
/-- a method's contract -/
def MetV (l : Launch) (D : va_G) (cy : Nat → ClassId) (ad : Nat → Nat) (A : Nat → Prop) (M : MI) (av : List AV) (σ : St) (Φ : Rs) : Prop :=
  Met l M.1 (wsM M) (rmM M) (Prec D cy ad A av σ) (fun _ => Post D cy ad A Φ) 0 0 A
theorem Prec_blind {D : va_G} {cy : Nat → ClassId} {ad : Nat → Nat} {A : Nat → Prop} {av : List AV} {σ : St} : FrameBlind (Prec D cy ad A av σ) := by
  intro a U g mk q
  obtain ⟨q0, qP, qK, qE⟩ := q
  exact ⟨q0, qP, va_K.moved (u := U) (U := U.calling g mk a) (Vm.Alike.refl U.vm) qK, qE.calling⟩
section SND
variable {p : Program} {l : Launch} {e : Env} {R : Room} {s : State} {m : MethodId} {args : Array Value} {below : List Frame} {meth : Method} {c : Code} {cells slots : Nat} {Q : State → Prop}
variable {D : va_G} {cy : Nat → ClassId} {ad : Nat → Nat} {A : Nat → Prop} {nL : Nat} {own : String} {cc : ByteArray}
theorem x_run {Φ : Rs} {rest : List AV} {H : Heap} {locs : List Loc} {ls : Array Slot} {lo : Lo} {pc : Nat} {st0 : List Value} (hr : va_Run p l e R s m args below meth c H locs cells slots 0 0 (F0 m pc ls st0) (rest.map (cv ad)) (Post D cy ad A Φ) A) (hS : va_S A s.heap H locs) (hl : lv_has ls nL (prs ad 0 lo))
    (kk : ∀ r σ', Φ r σ' → Vd D cy ad A nL p l e R s m args below meth c cells slots Q (pc + 3) lo (r ++ rest) σ') : W p l e R s m args below meth c H locs cells slots Q (F0 m pc ls st0) := by
  intro T hT X
  obtain ⟨v, st₀, t, T', L, h0, X', hL, e1, e2, ⟨⟨r, σ', hlen, hv, hp, hb⟩, hz, hk⟩, st⟩ := hr T hT X
  rw [h0] at hz hk
  have hv : v = (r.map (cv ad)).head? := by injection hv
  obtain ⟨t2, a1, b1⟩ := kk r σ' hp T'.heap (locs ++ L) ls (by rw [e1]; exact hb)
    ⟨Nat.le_trans hS.1 (by rw [e1]; exact hz), fun q h1 h2 => by rw [e1, hk q (Nat.lt_of_lt_of_le h1 hS.1) h2]; exact hS.2.1 q h1 h2, fun q hq => by
      rcases List.mem_append.mp hq with h | h
      · exact hS.2.2 q h
      · exact hL q h⟩ hl T' rfl X'
  refine ⟨t2, st t2 ?_, b1⟩
  have he : v.toList ++ rest.map (cv ad) = (r ++ rest).map (cv ad) := by
    rw [hv]
    match r, hlen with
    | [], _ => rfl
    | [x], _ => rfl
    | _ :: _ :: _, h => exact absurd h (by simp)
  show Steps p.tables e below (T'.setTop { F0 m pc ls st0 with pc := pc + 3, stack := v.toList ++ rest.map (cv ad) }) t2
  rw [he]
  exact a1
/-- what a method's frame has -/
def Cx (D : va_G) (cy : Nat → ClassId) (ad : Nat → Nat) (A : Nat → Prop) (nL : Nat) (p : Program) (R : Room) (s : State) (m : MethodId) (args : Array Value) (c : Code) (cells slots : Nat) (own : String) (cc : ByteArray) : Prop :=
  p.tables.exec = Jvm.exec ∧ c.code = cc ∧ c.maxLocals = nL ∧ s.vm.findClass own = some m.cls ∧ (∀ w ∈ tg, w.before args s = true) ∧ va_K D vwCl (tysOf cy) s ∧ Apart ad A ∧ Ex ad A s s.heap ∧ cells ≤ R.cells ∧ slots ≤ R.slots
def RetH (rt : Option FieldType) (cc : ByteArray) (Rt : Rs) (V : Kt) : Prop :=
  (∀ pc lo x σ, decode cc pc = .ok (.ireturn, 1) → (∃ ty, rt = some ty ∧ narrow ty (.int x) = .int x) → Rt [aI x] σ → V pc lo [aI x] σ)
  ∧ (∀ pc lo x σ, decode cc pc = .ok (.lreturn, 1) → rt = some .long → Rt [aL x] σ → V pc lo [aL x] σ)
  ∧ (∀ pc lo a σ, decode cc pc = .ok (.areturn, 1) → (∃ ty, rt = some ty ∧ ((∃ n, ty = .object n) ∨ ∃ t, ty = .array t)) → Rt [aR a] σ → V pc lo [aR a] σ)
  ∧ (∀ pc lo σ, decode cc pc = .ok (.return_, 1) → rt = none → Rt [] σ → V pc lo [] σ)
def SpH (l : Launch) (D : va_G) (cy : Nat → ClassId) (ad : Nat → Nat) (A : Nat → Prop) (S : Sp) : Prop := ∀ q av σ Φ M, mtab[q]? = some M → S q av σ Φ → MetV l D cy ad A M av σ Φ
end SND
