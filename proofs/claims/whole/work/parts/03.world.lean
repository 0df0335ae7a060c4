/-! abstract values: an int, a long, a place of the world -/
abbrev AV : Type := Int32 ⊕ (Int64 ⊕ Nat)
abbrev St : Type := (Nat → Nat → Int32) × (Nat → Nat → Int64)
abbrev Lo : Type := List (Option AV)
abbrev aI (x : Int32) : AV := Sum.inl x
abbrev aL (x : Int64) : AV := Sum.inr (Sum.inl x)
abbrev aR (k : Nat) : AV := Sum.inr (Sum.inr k)
def cv (ad : Nat → Nat) (v : AV) : Value := match v with
  | .inl x => .int x
  | .inr (.inl x) => .long x
  | .inr (.inr k) => .ref (ad k)
/-- a cell of the world: 0, its class in vwCl, its fields (none: an int); or an array: 1 int, 2 byte, 3 char, 4 long, 5 of long rows; its length -/
abbrev Cel : Type := Nat × Nat × List (Option Nat)
def shape : List Cel := [(0, 7, [some 1, some 5, some 9, some 13, some 20, some 27, some 34, some 36, some 41, some 48, none, none, none, none, none]),
  (0, 1, [some 2, some 3, some 4, none, none, none]),
  (1, 180, []),
  (1, 120, []),
  (1, 3, []),
  (0, 1, [some 6, some 7, some 8, none, none, none]),
  (1, 180, []),
  (1, 120, []),
  (1, 3, []),
  (0, 1, [some 10, some 11, some 12, none, none, none]),
  (1, 180, []),
  (1, 120, []),
  (1, 3, []),
  (0, 0, [some 1, some 14, some 15, some 16, none, none, none]),
  (1, 20, []),
  (1, 20, []),
  (0, 6, [some 17, some 18, some 19, none, none, none, none]),
  (1, 40, []),
  (1, 40, []),
  (1, 40, []),
  (0, 0, [some 1, some 21, some 22, some 23, none, none, none]),
  (1, 20, []),
  (1, 20, []),
  (0, 6, [some 24, some 25, some 26, none, none, none, none]),
  (1, 40, []),
  (1, 40, []),
  (1, 40, []),
  (0, 2, [some 1, some 13, some 28, some 29, some 30, none, none, none]),
  (1, 20, []),
  (1, 20, []),
  (0, 6, [some 31, some 32, some 33, none, none, none, none]),
  (1, 40, []),
  (1, 40, []),
  (1, 40, []),
  (0, 4, [some 35, none]),
  (2, 1239, []),
  (0, 3, [some 37, none, none, some 38, some 39, some 40, none, none, none]),
  (2, 80, []),
  (1, 13, []),
  (1, 13, []),
  (1, 78, []),
  (0, 5, [some 42, some 47]),
  (5, 4, [some 43, some 44, some 45, some 46]),
  (4, 40, []),
  (4, 40, []),
  (4, 40, []),
  (4, 40, []),
  (1, 4, []),
  (1, 40, []),
  (0, 8, [some 50, some 51, some 52, none, none, some 53, some 54, none, none, some 55, some 56, some 57, none, none, none, none, none, some 58, none, some 59, none, some 60, some 61, none, none, none, none, none, some 62, some 63, none, some 64, some 65, some 66, some 67]),
  (1, 286, []),
  (1, 286, []),
  (1, 286, []),
  (1, 20, []),
  (1, 20, []),
  (1, 40, []),
  (1, 40, []),
  (1, 40, []),
  (1, 20, []),
  (1, 80, []),
  (3, 56, []),
  (1, 13, []),
  (1, 6, []),
  (1, 2000, []),
  (4, 160, []),
  (1, 4, []),
  (1, 40, []),
  (4, 40, [])]
def NP : Nat := 68
def stA : List (String × String × List Int32) := [("BlastFace", "FIRST_RULE", [8, 100, 25]), ("BlastFace", "LEAST_MARK", [0, 0, 0, 1, 1, 0, 0]), ("BlastFace", "MOST_MARK", [4, 9, 5, 99, 20, 999, 1]), ("BlastFace$Kind", "ABOVE", [-1, 0, 0, 2, 1, 4]), ("BlastFace", "LEAST_RULE", [1, 1, 5]), ("BlastFace", "MOST_RULE", [99, 9999, 99])]
def strT : List String := ["hole", "wire", "window", "limit", "pace", "dead", "nnknnn", "fnn", "n", "slim", "deck", "heavy", "buffer", "dummy", "start"]
def strN : Nat := 15
def strLen : List Nat := [4, 4, 6, 5, 4, 4, 6, 3, 1, 4, 4, 5, 6, 5, 5]
def strByt : List (List Int32) := [[104, 111, 108, 101], [119, 105, 114, 101], [119, 105, 110, 100, 111, 119], [108, 105, 109, 105, 116], [112, 97, 99, 101], [100, 101, 97, 100], [110, 110, 107, 110, 110, 110], [102, 110, 110], [110], [115, 108, 105, 109], [100, 101, 99, 107], [104, 101, 97, 118, 121], [98, 117, 102, 102, 101, 114], [100, 117, 109, 109, 121], [115, 116, 97, 114, 116]]
/-- class, entry, text, its number -/
def strR : List (String × Nat × String × Nat) := [("BlastFace$Reader", 69, "hole", 0), ("BlastFace$Reader", 71, "wire", 1), ("BlastFace$Reader", 73, "window", 2), ("BlastFace$Reader", 75, "limit", 3), ("BlastFace$Reader", 77, "pace", 4), ("BlastFace$Reader", 79, "dead", 5), ("BlastFace$Reader", 81, "nnknnn", 6), ("BlastFace$Reader", 83, "fnn", 7), ("BlastFace$Reader", 85, "n", 8), ("BlastFace$Kind", 19, "hole", 0), ("BlastFace$Kind", 21, "slim", 9), ("BlastFace$Kind", 23, "deck", 10), ("BlastFace$Kind", 25, "heavy", 11), ("BlastFace$Kind", 27, "buffer", 12), ("BlastFace$Kind", 29, "dummy", 13), ("BlastFace$Reader", 97, "start", 14), ("BlastFace$Scribe", 34, "hole", 0), ("BlastFace$Scribe", 57, "wire", 1), ("BlastFace$Scribe", 62, "start", 14)]
def nestF : List (String × Nat × String × String × String × String) := [("BlastFace$Pattern", 21, "BlastFace", "FIRST_RULE", "[I", "BlastFace"), ("BlastFace$Pattern", 40, "BlastFace", "LEAST_MARK", "[I", "BlastFace"), ("BlastFace$Pattern", 43, "BlastFace", "MOST_MARK", "[I", "BlastFace"), ("BlastFace$Pattern", 90, "BlastFace", "LEAST_RULE", "[I", "BlastFace"), ("BlastFace$Pattern", 93, "BlastFace", "MOST_RULE", "[I", "BlastFace"), ("BlastFace$Planner", 46, "BlastFace", "MOST_MARK", "[I", "BlastFace")]
def nestM : List (String × Nat × MethodName × String) := [("BlastFace$Blast", 20, ⟨"BlastFace$Shots", "<init>", "()V"⟩, "BlastFace"), ("BlastFace$Planner", 20, ⟨"BlastFace$Shots", "<init>", "()V"⟩, "BlastFace"), ("BlastFace", 47, ⟨"BlastFace$Scribe", "<init>", "()V"⟩, "BlastFace"), ("BlastFace", 54, ⟨"BlastFace$Reader", "<init>", "()V"⟩, "BlastFace"), ("BlastFace", 61, ⟨"BlastFace$Shelf", "<init>", "()V"⟩, "BlastFace"), ("BlastFace$Pattern", 67, ⟨"BlastFace", "bitOf", "(I)I"⟩, "BlastFace"), ("BlastFace$Blast", 86, ⟨"BlastFace", "hasBit", "(II)Z"⟩, "BlastFace"), ("BlastFace$Blast", 99, ⟨"BlastFace", "bitOf", "(I)I"⟩, "BlastFace"), ("BlastFace$Pattern", 119, ⟨"BlastFace", "hasBit", "(II)Z"⟩, "BlastFace"), ("BlastFace$Planner", 100, ⟨"BlastFace", "bitOf", "(I)I"⟩, "BlastFace"), ("BlastFace$Shots", 59, ⟨"BlastFace", "bitOf", "(I)I"⟩, "BlastFace")]
def flds (ad : Nat → Nat) (f : Nat → Int32) : Nat → List (Option Nat) → List Value
  | _, [] => []
  | j, none :: t => .int (f j) :: flds ad f (j + 1) t
  | j, some r :: t => .ref (ad r) :: flds ad f (j + 1) t
def cellV (cy : Nat → ClassId) (ad : Nat → Nat) (σ : St) (k : Nat) (c : Cel) : va_E :=
  if c.1 = 0 then .inr (c.2.1, flds ad (σ.1 k) 0 c.2.2)
  else if c.1 = 4 then .inl (cy 4, c.2.1, .inr (.inl (σ.2 k)))
  else if c.1 = 5 then .inl (cy 5, c.2.1, .inr (.inr (.inr (.inr (fun i => (c.2.2.getD i none).map ad)))))
  else .inl (cy c.1, c.2.1, .inl (σ.1 k))
def WS (cy : Nat → ClassId) (ad : Nat → Nat) (σ : St) : va_W := shape.mapIdx (fun k c => (ad k, cellV cy ad σ k c))
def tysOf (cy : Nat → ClassId) : List (ClassId × FieldType) := [(cy 1, .int), (cy 2, .byte), (cy 3, .char), (cy 4, .long), (cy 5, .array .long)]
theorem WS_get {cy : Nat → ClassId} {ad : Nat → Nat} {σ : St} {k : Nat} {c : Cel} (h : shape[k]? = some c) : (WS cy ad σ)[k]? = some (ad k, cellV cy ad σ k c) := by
  simp [WS, List.getElem?_mapIdx, h]
theorem WS_of {cy : Nat → ClassId} {ad : Nat → Nat} {σ : St} {k : Nat} {q : Nat × va_E} (h : (WS cy ad σ)[k]? = some q) : ∃ c, shape[k]? = some c ∧ q = (ad k, cellV cy ad σ k c) := by
  simp only [WS, List.getElem?_mapIdx] at h
  cases hc : shape[k]? with
  | none => rw [hc] at h; cases h
  | some c => rw [hc] at h; cases h; exact ⟨c, rfl, rfl⟩
theorem WS_set {cy : Nat → ClassId} {ad : Nat → Nat} {σ σ' : St} {k : Nat} {c : Cel} {E : va_E} (h : shape[k]? = some c) (h1 : cellV cy ad σ' k c = E) (h2 : ∀ (j : Nat) (d : Cel), j ≠ k → cellV cy ad σ' j d = cellV cy ad σ j d) : (WS cy ad σ).set k (ad k, E) = WS cy ad σ' := by
  apply List.ext_getElem?
  intro j
  have hk : k < shape.length := (List.getElem?_eq_some_iff.mp h).1
  by_cases hj : j = k
  · subst hj
    rw [WS_get h, h1]
    simp [WS, hk]
  · rw [List.getElem?_set_ne (fun q => hj q.symm)]
    simp only [WS, List.getElem?_mapIdx]
    cases shape[j]? with
    | none => rfl
    | some d => simp only [Option.map_some, h2 j d hj]
/-- the places lie apart, in A -/
def Apart (ad : Nat → Nat) (A : Nat → Prop) : Prop := (∀ i j : Nat, i < NP → j < NP → ad i = ad j → i = j) ∧ ∀ k : Nat, k < NP → A (ad k)
theorem shape_lt {k : Nat} {c : Cel} (h : shape[k]? = some c) : k < NP := (List.getElem?_eq_some_iff.mp h).1
theorem WS_D {cy : Nat → ClassId} {ad : Nat → Nat} {σ : St} {A : Nat → Prop} (h : Apart ad A) : va_D A (WS cy ad σ) := by
  refine ⟨fun i j p q h1 h2 he => ?_, fun k q h1 => ?_⟩
  · obtain ⟨c, hc, rfl⟩ := WS_of h1
    obtain ⟨d, hd, rfl⟩ := WS_of h2
    exact h.1 i j (shape_lt hc) (shape_lt hd) he
  · obtain ⟨c, hc, rfl⟩ := WS_of h1
    exact h.2 k (shape_lt hc)
/-- what lies outside: static arrays, strings, nest mates' links -/
def Ex (ad : Nat → Nat) (A : Nat → Prop) (U : State) (H : Heap) : Prop :=
  (∀ (i : Nat) (q : String × String × List Int32), stA[i]? = some q → va_Z q.1 q.2.1 "[I" (.ref (ad (100 + i))) A U H ∧ va_T .int (ad (100 + i)) q.2.2.length (fun j => .int (q.2.2.getD j 0)) A U H)
  ∧ vk_S strN strLen strByt (fun i => ad (200 + i)) (fun i => ad (300 + i)) A U H
  ∧ (∀ q ∈ strR, vk_R q.1 q.2.1 q.2.2.1 (ad (200 + q.2.2.2)) U)
  ∧ (∀ q ∈ nestF, va_Nw (.fieldLinkNest q.1 q.2.1 q.2.2.1 q.2.2.2.1 q.2.2.2.2.1 q.2.2.2.2.2) U)
  ∧ (∀ q ∈ nestM, va_Nw (.methodLinkNest q.1 q.2.1 q.2.2.1 q.2.2.2) U)
  ∧ va_Z "java/lang/String" "COMPACT_STRINGS" "Z" (.int 1) A U H
  ∧ va_Zq "jdk/internal/util/Preconditions" "SIOOBE_FORMATTER" "Ljava/util/function/BiFunction;" A U H
theorem Ex.kept {ad : Nat → Nat} {A : Nat → Prop} {U : State} {H H1 : Heap} (h : Ex ad A U H) (hq : ∀ a : Nat, a < H.size → ¬ A a → H1[a]? = H[a]?) : Ex ad A U H1 :=
  ⟨fun i q hi => ⟨(h.1 i q hi).1.kept hq, (h.1 i q hi).2.kept hq⟩, h.2.1.kept hq, h.2.2.1, h.2.2.2.1, h.2.2.2.2.1, h.2.2.2.2.2.1.kept hq, h.2.2.2.2.2.2.kept hq⟩
theorem Ex.warm {ad : Nat → Nat} {A : Nat → Prop} {s U : State} {H : Heap} (hW : s.WarmedH U.vm) (h : Ex ad A s H) : Ex ad A U H :=
  ⟨fun i q hi => ⟨va_Z.moved hW.alike (h.1 i q hi).1, va_T.moved hW.alike (h.1 i q hi).2⟩, vk_S.moved hW.alike h.2.1, fun q hq => vk_R.warm hW (h.2.2.1 q hq), fun q hq => va_Nw.warmF hW (h.2.2.2.1 q hq), fun q hq => va_Nw.warmM hW (h.2.2.2.2.1 q hq), va_Z.moved hW.alike h.2.2.2.2.2.1, va_Zq.moved hW.alike h.2.2.2.2.2.2⟩
theorem Ex.calling {ad : Nat → Nat} {A : Nat → Prop} {U : State} {g : JFrame} {mk : MethodId} {a : Array Value} (h : Ex ad A U U.heap) : Ex ad A (U.calling g mk a) (U.calling g mk a).heap := by
  have hv : U.vm.Alike (U.calling g mk a).vm := Vm.Alike.refl U.vm
  exact ⟨fun i q hi => ⟨va_Z.moved hv (h.1 i q hi).1, va_T.moved hv (h.1 i q hi).2⟩, vk_S.moved hv h.2.1, fun q hq => vk_R.same rfl (h.2.2.1 q hq), fun q hq => va_Nw.same rfl rfl (h.2.2.2.1 q hq), fun q hq => va_Nw.same rfl rfl (h.2.2.2.2.1 q hq), va_Z.moved hv h.2.2.2.2.2.1, va_Zq.moved hv h.2.2.2.2.2.2⟩
/-- locals -/
def prs (ad : Nat → Nat) : Nat → Lo → List (Nat × Value)
  | _, [] => []
  | i, some v :: t => (i, cv ad v) :: prs ad (i + 1) t
  | i, none :: t => prs ad (i + 1) t
theorem prs_mem {ad : Nat → Nat} {v : AV} : ∀ {lo : Lo} {i j : Nat}, lo[j]? = some (some v) → (i + j, cv ad v) ∈ prs ad i lo
  | [], i, j, h => by simp at h
  | some w :: t, i, 0, h => by
    simp only [List.getElem?_cons_zero, Option.some.injEq] at h
    subst h
    exact List.mem_cons_self
  | none :: t, i, 0, h => by simp at h
  | some w :: t, i, j + 1, h => by
    have := prs_mem (ad := ad) (lo := t) (i := i + 1) (j := j) (by simpa using h)
    rw [show i + 1 + j = i + (j + 1) by omega] at this
    exact List.mem_cons_of_mem _ this
  | none :: t, i, j + 1, h => by
    have := prs_mem (ad := ad) (lo := t) (i := i + 1) (j := j) (by simpa using h)
    rw [show i + 1 + j = i + (j + 1) by omega] at this
    exact this
theorem prs_of {ad : Nat → Nat} : ∀ {lo : Lo} {i : Nat} {q : Nat × Value}, q ∈ prs ad i lo → ∃ (j : Nat) (v : AV), lo[j]? = some (some v) ∧ q = (i + j, cv ad v)
  | [], i, q, h => by cases h
  | some w :: t, i, q, h => by
    rcases List.mem_cons.mp h with h | h
    · exact ⟨0, w, rfl, h⟩
    · obtain ⟨j, v, h1, h2⟩ := prs_of h
      exact ⟨j + 1, v, by simpa using h1, by rw [h2, show i + 1 + j = i + (j + 1) by omega]⟩
  | none :: t, i, q, h => by
    obtain ⟨j, v, h1, h2⟩ := prs_of (ad := ad) (lo := t) (i := i + 1) h
    exact ⟨j + 1, v, by simpa using h1, by rw [h2, show i + 1 + j = i + (j + 1) by omega]⟩
/-- a place is written: a long ahead of it is gone -/
def sto : Lo → Nat → AV → Lo
  | [], _, _ => []
  | _ :: t, 0, v => some v :: t
  | some (.inr (.inl x)) :: t, 1, v => none :: sto t 0 v
  | some (.inl x) :: t, 1, v => some (.inl x) :: sto t 0 v
  | some (.inr (.inr x)) :: t, 1, v => some (.inr (.inr x)) :: sto t 0 v
  | none :: t, 1, v => none :: sto t 0 v
  | a :: t, n + 2, v => a :: sto t (n + 1) v
def nul : Lo → Nat → Lo
  | [], _ => []
  | _ :: t, 0 => none :: t
  | a :: t, n + 1 => a :: nul t n
def stoL (lo : Lo) (i : Nat) (v : AV) : Lo := nul (sto lo i v) (i + 1)
theorem nul_at : ∀ {lo : Lo} {i j : Nat} {v : AV}, (nul lo i)[j]? = some (some v) → j ≠ i ∧ lo[j]? = some (some v)
  | [], i, j, v, h => by simp [nul] at h
  | a :: t, 0, 0, v, h => by simp [nul] at h
  | a :: t, 0, j + 1, v, h => ⟨by omega, by simpa [nul] using h⟩
  | a :: t, i + 1, 0, v, h => ⟨by omega, by simpa [nul] using h⟩
  | a :: t, i + 1, j + 1, v, h => by
    obtain ⟨h1, h2⟩ := nul_at (lo := t) (i := i) (j := j) (by simpa [nul] using h)
    exact ⟨by omega, by simpa using h2⟩
theorem sto_at : ∀ {lo : Lo} {i j : Nat} {v w : AV}, (sto lo i v)[j]? = some (some w) → (j = i ∧ w = v) ∨ (j ≠ i ∧ lo[j]? = some (some w) ∧ ¬ (j + 1 = i ∧ ∃ x, w = aL x))
  | [], i, j, v, w, h => by simp [sto] at h
  | a :: t, 0, 0, v, w, h => by
    simp only [sto, List.getElem?_cons_zero, Option.some.injEq] at h
    exact Or.inl ⟨rfl, h.symm⟩
  | a :: t, 0, j + 1, v, w, h => Or.inr ⟨by omega, by simpa [sto] using h, by omega⟩
  | some (.inr (.inl x)) :: t, 1, 0, v, w, h => by simp [sto] at h
  | some (.inl x) :: t, 1, 0, v, w, h => by
    simp only [sto, List.getElem?_cons_zero, Option.some.injEq] at h
    exact Or.inr ⟨by omega, by simp [h], fun q => by obtain ⟨-, y, hy⟩ := q; rw [← h] at hy; cases hy⟩
  | some (.inr (.inr x)) :: t, 1, 0, v, w, h => by
    simp only [sto, List.getElem?_cons_zero, Option.some.injEq] at h
    exact Or.inr ⟨by omega, by simp [h], fun q => by obtain ⟨-, y, hy⟩ := q; rw [← h] at hy; cases hy⟩
  | none :: t, 1, 0, v, w, h => by simp [sto] at h
  | some (.inr (.inl x)) :: t, 1, j + 1, v, w, h => by
    rcases sto_at (lo := t) (i := 0) (j := j) (by simpa [sto] using h) with ⟨h1, h2⟩ | ⟨h1, h2, h3⟩
    · exact Or.inl ⟨by omega, h2⟩
    · exact Or.inr ⟨by omega, by simpa using h2, by omega⟩
  | some (.inl x) :: t, 1, j + 1, v, w, h => by
    rcases sto_at (lo := t) (i := 0) (j := j) (by simpa [sto] using h) with ⟨h1, h2⟩ | ⟨h1, h2, h3⟩
    · exact Or.inl ⟨by omega, h2⟩
    · exact Or.inr ⟨by omega, by simpa using h2, by omega⟩
  | some (.inr (.inr x)) :: t, 1, j + 1, v, w, h => by
    rcases sto_at (lo := t) (i := 0) (j := j) (by simpa [sto] using h) with ⟨h1, h2⟩ | ⟨h1, h2, h3⟩
    · exact Or.inl ⟨by omega, h2⟩
    · exact Or.inr ⟨by omega, by simpa using h2, by omega⟩
  | none :: t, 1, j + 1, v, w, h => by
    rcases sto_at (lo := t) (i := 0) (j := j) (by simpa [sto] using h) with ⟨h1, h2⟩ | ⟨h1, h2, h3⟩
    · exact Or.inl ⟨by omega, h2⟩
    · exact Or.inr ⟨by omega, by simpa using h2, by omega⟩
  | a :: t, i + 2, 0, v, w, h => Or.inr ⟨by omega, by simpa [sto] using h, by omega⟩
  | a :: t, i + 2, j + 1, v, w, h => by
    rcases sto_at (lo := t) (i := i + 1) (j := j) (by simpa [sto] using h) with ⟨h1, h2⟩ | ⟨h1, h2, h3⟩
    · exact Or.inl ⟨by omega, h2⟩
    · exact Or.inr ⟨by omega, by simpa using h2, fun q => h3 ⟨by omega, q.2⟩⟩
theorem cv_cat {ad : Nat → Nat} {v : AV} (h : (cv ad v).category = 2) : ∃ x, v = aL x := by
  rcases v with x | x | x
  · simp [cv, Value.category] at h
  · exact ⟨x, rfl⟩
  · simp [cv, Value.category] at h
theorem lo_sto {ad : Nat → Nat} {ls : Array Slot} {n i : Nat} {lo : Lo} {v : AV} (h : lv_has ls n ((i, cv ad v) :: (prs ad 0 lo).filter (fun q => !(q.1 == i) && !(q.1 + 1 == i && q.2.category == 2)))) : lv_has ls n (prs ad 0 (sto lo i v)) := by
  refine ⟨h.1, h.2.1, fun q hq => h.2.2 q ?_⟩
  obtain ⟨j, w, h1, rfl⟩ := prs_of hq
  rcases sto_at h1 with ⟨rfl, rfl⟩ | ⟨hj, h2, h3⟩
  · simp
  · refine List.mem_cons_of_mem _ (List.mem_filter.mpr ⟨prs_mem h2, ?_⟩)
    simp only [Nat.zero_add, Bool.and_eq_true, Bool.not_eq_true', beq_eq_false_iff_ne, ne_eq, hj, not_false_eq_true, true_and, Bool.and_eq_false_iff, beq_iff_eq]
    by_cases h4 : j + 1 = i
    · right
      exact fun q => h3 ⟨h4, cv_cat q⟩
    · left
      simpa using h4
theorem lo_stoL {ad : Nat → Nat} {ls : Array Slot} {n i : Nat} {lo : Lo} {v : AV} (h : lv_has ls n ((i, cv ad v) :: (prs ad 0 lo).filter (fun q => !(q.1 == i) && (!(q.1 == i + 1) && !(q.1 + 1 == i && q.2.category == 2))))) : lv_has ls n (prs ad 0 (stoL lo i v)) := by
  refine ⟨h.1, h.2.1, fun q hq => h.2.2 q ?_⟩
  obtain ⟨j, w, h1, rfl⟩ := prs_of hq
  obtain ⟨hi, h1⟩ := nul_at h1
  rcases sto_at h1 with ⟨rfl, rfl⟩ | ⟨hj, h2, h3⟩
  · simp
  · refine List.mem_cons_of_mem _ (List.mem_filter.mpr ⟨prs_mem h2, ?_⟩)
    simp only [Nat.zero_add, Bool.and_eq_true, Bool.not_eq_true', beq_eq_false_iff_ne, ne_eq, hj, hi, not_false_eq_true, true_and, Bool.and_eq_false_iff, beq_iff_eq]
    by_cases h4 : j + 1 = i
    · right
      exact fun q => h3 ⟨h4, cv_cat q⟩
    · left
      simpa using h4
theorem lo_at {ad : Nat → Nat} {ls : Array Slot} {n i : Nat} {lo : Lo} {v : AV} (h : lv_has ls n (prs ad 0 lo)) (hi : lo[i]? = some (some v)) : ls[i]? = some (.val (cv ad v)) := by
  have := h.2.2 (0 + i, cv ad v) (prs_mem hi)
  simpa using this

