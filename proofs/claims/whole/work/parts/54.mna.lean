/-! new long[4][40]: the outer row, then its four rows, each laid in as it is made -/
def mnI (comp : ClassId) : Cell := arrV comp 40 (fun _ => .long 0)
def mnO (c : ClassId) (h0 i : Nat) : Cell := arrV c 4 (fun j => va_rf (if j < i then some (h0 + 1 + j) else none))
def mnF (s : State) (c comp : ClassId) : Nat → State
  | 0 => s.pushCell (mnO c s.heap.size 0)
  | i + 1 => ((mnF s c comp i).pushCell (mnI comp)).setCell s.heap.size (mnO c s.heap.size (i + 1))
theorem mnO_0 (c : ClassId) (h0 : Nat) : ({ cls := c, slots := Array.replicate 4 .null, vm := .none } : Cell) = mnO c h0 0 := by
  rw [arrV_new]
  exact congrArg (arrV c 4) (funext fun j => by simp [va_rf])
theorem mnI_e (comp : ClassId) : ({ cls := comp, slots := Array.replicate 40 (.long 0), vm := .none } : Cell) = mnI comp := by
  rw [arrV_new]; rfl
theorem mnO_s (c : ClassId) (h0 i : Nat) : (mnO c h0 i).setSlot i (.ref (h0 + 1 + i)) = mnO c h0 (i + 1) := by
  unfold mnO
  rw [arrV_store]
  refine congrArg (arrV c 4) (funext fun j => ?_)
  by_cases e : j = i
  · subst e
    simp [updV, va_rf]
  · by_cases h : j < i
    · simp [updV, e, h, Nat.lt_succ_of_lt h]
    · simp [updV, e, h, show ¬ j < i + 1 by omega]
theorem mnO_f (c : ClassId) (h0 i : Nat) : (mnO c h0 i).cls = c ∧ (mnO c h0 i).vm = .none ∧ (mnO c h0 i).slots.size = 4 := ⟨rfl, rfl, arrV_size ..⟩
theorem mn_facts (s : State) (c comp : ClassId) : ∀ i, (mnF s c comp i).heap.size = s.heap.size + 1 + i ∧ (mnF s c comp i).heap[s.heap.size]? = some (mnO c s.heap.size i) ∧ (mnF s c comp i).vm = s.vm ∧ (mnF s c comp i).slotsUsed = s.slotsUsed + 4 + i * 40
  | 0 => ⟨by simp [mnF], by simp [mnF], rfl, by simp [mnF, (mnO_f c s.heap.size 0).2.2]⟩
  | i + 1 => by
    obtain ⟨a, b, d, u⟩ := mn_facts s c comp i
    have hlt : s.heap.size < (mnF s c comp i).heap.size := by omega
    have hb' : ((mnF s c comp i).pushCell (mnI comp)).heap[s.heap.size]? = some (mnO c s.heap.size i) := by rw [State.heap_pushCell_of_lt (h := hlt)]; exact b
    have hs : (mnI comp).slots.size = 40 := arrV_size ..
    refine ⟨?_, State.heap_setCell_self hb', by simp [mnF, d], ?_⟩
    · simp [mnF, State.setCell, a]; omega
    · simp [mnF, u, hs]; omega
theorem mn_setTop (s : State) (f : JFrame) (c comp : ClassId) : ∀ i, mnF (s.setTop f) c comp i = (mnF s c comp i).setTop f
  | 0 => rfl
  | i + 1 => by simp only [mnF, mn_setTop s f c comp i, State.heap_setTop, State.pushCell_setTop, State.setCell_setTop]
theorem mn_old (s : State) (c comp : ClassId) {a : Addr} (ha : a < s.heap.size) : ∀ i, (mnF s c comp i).heap[a]? = s.heap[a]?
  | 0 => State.heap_pushCell_of_lt _ _ ha
  | i + 1 => by
    have f1 := (mn_facts s c comp i).1
    have hlt : a < (mnF s c comp i).heap.size := Nat.lt_of_lt_of_le ha (by rw [f1]; omega)
    show (((mnF s c comp i).pushCell (mnI comp)).setCell s.heap.size _).heap[a]? = _
    rw [State.heap_setCell_other (Nat.ne_of_gt ha), State.heap_pushCell_of_lt (h := hlt)]
    exact mn_old s c comp ha i
theorem mn_row (s : State) (c comp : ClassId) : ∀ i j, j < i → (mnF s c comp i).heap[s.heap.size + 1 + j]? = some (mnI comp)
  | 0, _, h => absurd h (Nat.not_lt_zero _)
  | i + 1, j, h => by
    have f1 := (mn_facts s c comp i).1
    show (((mnF s c comp i).pushCell (mnI comp)).setCell s.heap.size _).heap[s.heap.size + 1 + j]? = _
    rw [State.heap_setCell_other (show s.heap.size ≠ s.heap.size + 1 + j by omega)]
    rcases Nat.lt_or_ge j i with hj | hj
    · have hlt : s.heap.size + 1 + j < (mnF s c comp i).heap.size := by rw [f1]; omega
      rw [State.heap_pushCell_of_lt (h := hlt)]
      exact mn_row s c comp i j hj
    · have e : s.heap.size + 1 + j = (mnF s c comp i).heap.size := by rw [f1]; omega
      rw [e]
      exact State.heap_pushCell_size _ _
section MNW
variable {E : CtlPost} {e : Env} {d : Bool} {acts : List Action} {s : State}
/-- one row: its class, its length, what it is filled with -/
theorem mn_new {c comp : ClassId} {k : Class} {type : FieldType} {len : Nat} {init : Value} (hk : s.vm.classes[c]? = some k) (hkind : k.kind = .array comp type)
    (hlimit : ¬ len > e.platform.arrayLengthLimit) (hheap : ¬ len * componentBytes type > e.platform.maxHeapBytes) (hfit : fits type init = true) (hdef : init.isDefault = true) {Q : Addr → Pre}
    (h1 : s.heap.size < e.platform.maxCells) (h2 : s.slotsUsed + len ≤ e.platform.maxSlots)
    (hq : Q s.heap.size d acts (s.pushCell { cls := c, slots := Array.replicate len init, vm := .none })) :
    wp (Jvm.newArray c len init) Q E e d acts s := by
  have hf : ∀ i v, (Array.replicate len init)[i]? = some v → s.fitsSlot c .none i v = true := by
    intro i v hv
    rw [Array.getElem?_replicate] at hv
    split at hv
    · injection hv with hv
      subst hv
      simp [State.fitsSlot, State.slotType?, hk, hkind, hfit]
    · cases hv
  have ha : allocActs (Array.replicate len init) s.heap.size acts = acts := by
    unfold allocActs
    rw [if_pos]
    rw [Array.all_replicate]
    split <;> simp [hdef]
  simp only [Jvm.newArray, Jvm.arrayFits, wp_bind', W.ask, W.ite, hlimit, if_false, wp_pure', W.theClass, hk, hkind, hheap, W.alloc, W.stop, Option.some.injEq, exists_eq_left', Array.size_replicate, ha]
  rw [if_neg (by omega)]
  exact ⟨h1, h2, hf, hq⟩
theorem mn_make1 {comp cc : ClassId} {kc : Class} (hkc : s.vm.classes[comp]? = some kc) (hkindc : kc.kind = .array cc .long)
    (hl2 : ¬ 40 > e.platform.arrayLengthLimit) (hh2 : ¬ 320 > e.platform.maxHeapBytes) (h1 : s.heap.size < e.platform.maxCells) (h2 : s.slotsUsed + 40 ≤ e.platform.maxSlots)
    {Q : Addr → Pre} (hq : Q s.heap.size d acts (s.pushCell (mnI comp))) : wp (multianewarray.make comp [40]) Q E e d acts s := by
  have h0 : ¬ (40 : Int32) < 0 := by decide
  have h40 : (40 : Int32).toNatClampNeg = 40 := by decide
  rw [multianewarray.make]
  simp only [wp_bind', W.ite, h0, if_false, wp_pure', W.theClass, hkc, hkindc, Option.some.injEq, exists_eq_left', h40]
  exact mn_new hkc hkindc hl2 (by show ¬ 40 * 8 > _; exact hh2) rfl rfl h1 h2 (by rw [show defaultValue .long = .long 0 from rfl, mnI_e]; exact hq)
theorem mn_make {c comp cc : ClassId} {k kc : Class} (hk : s.vm.classes[c]? = some k) (hkind : k.kind = .array comp (.array .long)) (hkc : s.vm.classes[comp]? = some kc) (hkindc : kc.kind = .array cc .long)
    (hl1 : ¬ 4 > e.platform.arrayLengthLimit) (hh1 : ¬ 16 > e.platform.maxHeapBytes) (hl2 : ¬ 40 > e.platform.arrayLengthLimit) (hh2 : ¬ 320 > e.platform.maxHeapBytes)
    (hc : s.heap.size + 5 ≤ e.platform.maxCells) (hs : s.slotsUsed + 164 ≤ e.platform.maxSlots)
    {Q : Addr → Pre} (hq : ∀ d' acts', Q s.heap.size d' acts' (mnF s c comp 4)) :
    wp (multianewarray.make c [4, 40]) Q E e d acts s := by
  have h0 : ¬ (4 : Int32) < 0 := by decide
  have h4 : (4 : Int32).toNatClampNeg = 4 := by decide
  have hz : ((4 : Int32) == 0) = false := by decide
  rw [multianewarray.make]
  simp only [wp_bind', W.ite, h0, if_false, wp_pure', W.theClass, hk, hkind, Option.some.injEq, exists_eq_left', h4, hz, Bool.false_eq_true]
  refine mn_new hk hkind hl1 (by show ¬ 4 * 4 > _; exact hh1) rfl rfl (by omega) (by omega) ?_
  rw [mnO_0 c s.heap.size, wp_bind', Std.Legacy.Range.forIn_eq_forIn_range']
  have hsz : ([:4] : Std.Legacy.Range).size = 4 := by simp [Std.Legacy.Range.size]
  rw [hsz]
  show wp (forIn (List.range' 0 4 1) PUnit.unit _) _ E e d acts _
  refine wp_forIn_inv (fun rest s' => ∃ i, i ≤ 4 ∧ rest = List.range' i (4 - i) ∧ s' = mnF s c comp i) _ _ ⟨0, Nat.zero_le _, rfl, rfl⟩ ?_ ?_
  · rintro x rest s' d' acts' Q' ⟨i, hi, hl, rfl⟩ hnext
    have hlt : i < 4 := by
      rcases Nat.lt_or_ge i 4 with h | h
      · exact h
      · rw [show 4 - i = 0 from by omega] at hl; simp at hl
    obtain ⟨rfl, hrest⟩ : x = i ∧ rest = List.range' (i + 1) (4 - (i + 1)) := by
      rw [show 4 - i = (4 - (i + 1)) + 1 from by omega, List.range'_succ] at hl
      exact ⟨(List.cons.inj hl).1, (List.cons.inj hl).2⟩
    obtain ⟨f1, f2, f3, f4⟩ := mn_facts s c comp x
    obtain ⟨o1, o2, o3⟩ := mnO_f c s.heap.size x
    simp only [wp_bind']
    refine mn_make1 (by rw [f3]; exact hkc) hkindc hl2 hh2 (by rw [f1]; omega) (by rw [f4]; omega) ?_
    have hlt0 : s.heap.size < (mnF s c comp x).heap.size := by rw [f1]; omega
    simp only [wp_bind', W.writeLoc, wp_pure']
    refine ⟨mnO c s.heap.size x, by rw [State.heap_pushCell_of_lt (h := hlt0)]; exact f2, by rw [o2]; simp, by rw [o3]; exact hlt, ?_, hnext _ _ _ ⟨x + 1, hlt, hrest, ?_⟩⟩
    · rw [o1, o2]
      simp [State.fitsSlot, State.slotType?, f3, hk, hkind, fits]
    · rw [f1, mnO_s]; rfl
  · rintro s' d' acts' ⟨i, hi, hl, rfl⟩
    have hiN : i = 4 := by
      rcases Nat.lt_or_ge i 4 with h | h
      · rw [show 4 - i = (4 - (i + 1)) + 1 from by omega, List.range'_succ] at hl; cases hl
      · omega
    subst hiN
    simp only [wp_pure']
    exact hq _ _
end MNW
/-- the class of rows of long rows is there -/
def OvJ (U : State) : Prop := ∃ comp c k, U.vm.findClass "[J" = some comp ∧ U.vm.classes[c]? = some k ∧ k.kind = .array comp (.array .long) ∧ U.vm.findClass "[[J" = some c
theorem OvJ.moved {u U : State} (hvm : u.vm.Alike U.vm) (h : OvJ u) : OvJ U := by
  obtain ⟨comp, c, k, h1, h2, h3, h4⟩ := h
  obtain ⟨k', hk', he⟩ := hvm.2.2 _ _ h2
  exact ⟨comp, c, k', by rw [hvm.findClass]; exact h1, hk', by rw [he]; exact h3, by rw [hvm.findClass]; exact h4⟩
theorem over_spec {args : Array Value} {s : State} (h : (Cond.arrayOver (.array .long)).before args s = true) : OvJ s := by
  simp only [Cond.before, Cond.holds, Cond.value, beq_iff_eq] at h
  have e1 : (FieldType.array FieldType.long).toString = "[J" := by decide +kernel
  rw [e1] at h
  have e2 : ("[" ++ "[J" : String) = "[[J" := by decide +kernel
  rw [e2] at h
  cases hc : s.vm.findClass "[J" with
  | none => simp [hc] at h
  | some comp =>
    simp only [hc, Option.bind_some, Option.bind_eq_some_iff, Option.map_eq_some_iff] at h
    obtain ⟨c, hi, k, hk, hb⟩ := h
    obtain ⟨hlt, hp, -⟩ := Array.findIdx?_eq_some_iff_getElem.mp hi
    have hkk : s.vm.classes[c] = k := (Array.getElem?_eq_some_iff.mp hk).2
    rw [hkk] at hp
    cases hkind : k.kind with
    | array component ty =>
      rw [hkind] at hb hp
      simp at hb hp
      exact ⟨comp, c, k, hc, hk, by rw [hkind, hp, hb.1], hb.2⟩
    | _ => rw [hkind] at hb; simp at hb
section MNS
variable {p : Program} {l : Launch} {e : Env} {R : Room} {s : State} {m : MethodId} {args : Array Value} {below : List Frame} {meth : Method} {c : Code} {T : State} {locs : List Loc} {cells slots : Nat}
theorem mn_stand (X : Stand p l e R s m args below meth c T locs cells slots) (cA comp : ClassId) : ∀ i, Stand p l e R s m args below meth c (mnF T cA comp i) (locs ++ (List.range i).map fun j => ⟨T.heap.size, j⟩) (cells + 1 + i) (slots + 4 + i * 40)
  | 0 => by
    have h := X.pushed (mnO cA T.heap.size 0)
    rw [(mnO_f cA T.heap.size 0).2.2] at h
    simpa [mnF] using h
  | i + 1 => by
    have Xi := mn_stand X cA comp i
    obtain ⟨f1, f2, f3, f4⟩ := mn_facts T cA comp i
    have hlt0 : T.heap.size < (mnF T cA comp i).heap.size := by rw [f1]; omega
    have hcell : ((mnF T cA comp i).pushCell (mnI comp)).heap[T.heap.size]? = some (mnO cA T.heap.size i) := by rw [State.heap_pushCell_of_lt (h := hlt0)]; exact f2
    have h := (Xi.pushed (mnI comp)).stored hcell i (.ref (T.heap.size + 1 + i))
    have e1 : (mnI comp).slots.size = 40 := arrV_size ..
    rw [e1, mnO_s] at h
    have e2 : (locs ++ (List.range (i + 1)).map fun j => (⟨T.heap.size, j⟩ : Loc)) = (locs ++ (List.range i).map fun j => (⟨T.heap.size, j⟩ : Loc)) ++ [⟨T.heap.size, i⟩] := by simp [List.range_succ, List.append_assoc]
    have e3 : slots + 4 + (i + 1) * 40 = slots + 4 + i * 40 + 40 := by omega
    rw [e2, e3]
    exact h
set_option maxHeartbeats 1000000 in
theorem mn_step (X : Stand p l e R s m args below meth c T locs cells slots) (hexec : p.tables.exec = Jvm.exec) {own : String} {index : Nat}
    (hown : s.vm.findClass own = some m.cls) (hclink : (Cond.classLink own index "[[J").before args s = true) (hover : OvJ s) (harr : (Cond.arrayClass .long).before args s = true)
    {g : JFrame} (hg : g.method = m) (hdg : decode c.code g.pc = .ok (.multianewarray index 2, 4)) {rest : List Value} (hstack : g.stack = .int 40 :: .int 4 :: rest)
    (hcells : cells + 5 ≤ R.cells) (hslots : slots + 164 ≤ R.slots) :
    ∃ (vm₁ : Vm) (cA comp : ClassId), s.WarmedH vm₁ ∧ s.vm.findClass "[[J" = some cA ∧ s.vm.findClass "[J" = some comp ∧
      Stand p l e R s m args below meth c (mnF (T.setVm vm₁) cA comp 4) (locs ++ (List.range 4).map fun j => ⟨T.heap.size, j⟩) (cells + 1 + 4) (slots + 4 + 4 * 40) ∧
      ∀ target, Steps p.tables e below ((mnF (T.setVm vm₁) cA comp 4).setTop { g with pc := g.pc + 4, stack := .ref T.heap.size :: rest }) target → Steps p.tables e below (T.setTop g) target := by
  subst hg
  have hpl : e.platform.magicAccessors = ({} : Platform).magicAccessors := by rw [X.admits.platform]
  obtain ⟨comp, cA, kA, hcomp, hkA, hkindA, hnameA⟩ := hover
  obtain ⟨comp', kC, cc, hcomp', hkC, hkindC⟩ := Cond.arrayClass_spec harr
  have eJ : ("[" ++ FieldType.long.toString : String) = "[J" := by decide +kernel
  rw [eJ] at hcomp'
  obtain rfl : comp' = comp := Option.some.inj (hcomp'.symm.trans hcomp)
  obtain ⟨c0, hfc0, hcl⟩ := Cond.classLink_spec hown hclink e.platform hpl
  obtain rfl : cA = c0 := Option.some.inj (hnameA.symm.trans hfc0)
  obtain ⟨hg₁, hwarm₁, hready₁⟩ := State.classEntry (e := e) X.warmed hcl
  generalize T.vm.noted g.method.cls index (.cls cA) = vm₁ at hg₁ hwarm₁ hready₁
  have hal : s.vm.Alike vm₁ := hwarm₁.alike
  obtain ⟨kA₁, hkA₁, heA⟩ := hal.2.2 _ _ hkA
  obtain ⟨kC₁, hkC₁, heC⟩ := hal.2.2 _ _ hkC
  have hkindA₁ : kA₁.kind = .array comp' (.array .long) := by rw [heA]; exact hkindA
  have hkindC₁ : kC₁.kind = .array cc .long := by rw [heC]; exact hkindC
  have X₁ := X.noted hwarm₁
  obtain ⟨hr1, hr2⟩ := X.roomAbove hcells hslots
  refine ⟨vm₁, cA, comp', hwarm₁, hnameA, hcomp, mn_stand X₁ cA comp' 4, fun target hrest => ?_⟩
  have hl1 : ¬ 4 > e.platform.arrayLengthLimit := by rw [Launch.admits_arrayLengthLimit X.admits]; omega
  have hh1 : ¬ 16 > e.platform.maxHeapBytes := by rw [Launch.admits_maxHeapBytes X.admits]; omega
  have hl2 : ¬ 40 > e.platform.arrayLengthLimit := by rw [Launch.admits_arrayLengthLimit X.admits]; omega
  have hh2 : ¬ 320 > e.platform.maxHeapBytes := by rw [Launch.admits_maxHeapBytes X.admits]; omega
  jvm_step X.here [hexec, hdg]
  simp only [multianewarray.sem, wp_bind', W.resolveClassAt_links (State.method?_setTop g X.here.top) hg₁]
  rw [W.popN, if_neg (by decide)]
  refine ⟨g, State.topJava?_setTop' (s := T.setVm vm₁) g X.here.top, [.int 4, .int 40], rest, rfl, hstack, ?_⟩
  simp only [List.mapM_cons, List.mapM_nil, wp_bind', wp_pure']
  refine mn_make (k := kA₁) (kc := kC₁) (comp := comp') (cc := cc) hkA₁ hkindA₁ hkC₁ hkindC₁ hl1 hh1 hl2 hh2 (by show T.heap.size + 5 ≤ _; omega) (by show T.slotsUsed + 164 ≤ _; omega) (fun d' acts' => ?_)
  have XF := mn_stand X₁ cA comp' 4
  have eS : ((T.setTop g).setVm vm₁).setTop { g with stack := rest } = (T.setVm vm₁).setTop { g with stack := rest } := by
    show ((T.setVm vm₁).setTop g).setTop _ = _
    rw [State.setTop_setTop]
  rw [eS, mn_setTop]
  simp only [wp_bind', W.mark, W.pushRef, State.topJava?_setTop' _ XF.here.top, Option.some.injEq, exists_eq_left', State.setTop_setTop, State.heap_setTop]
  intro acts
  simp [jvm, XF.here.top]
  exact hrest
end MNS
section MNV
variable {p : Program} {l : Launch} {e : Env} {R : Room} {s : State} {m : MethodId} {args : Array Value} {below : List Frame} {meth : Method} {c : Code} {H : Heap} {locs : List Loc} {cells slots : Nat} {Q : State → Prop}
variable {cc : ByteArray} {pc : Nat} {ls : Array Slot} {rest : List Value} {D : va_G} {cl : List vw_C} {A : Nat → Prop} {ws : va_W} {H0 : Heap}
theorem arrV_cg {c : ClassId} {N : Nat} {f g : Nat → Value} (h : ∀ j, j < N → f j = g j) : arrV c N f = arrV c N g := by
  unfold arrV
  rw [show (fun j : Fin N => f j.val) = (fun j : Fin N => g j.val) from funext fun j => h j.val j.isLt]
theorem va_D_app {n : Nat} {es : List va_E} (hD : va_D A ws) (hlt : ∀ (k : Nat) (x : Nat × va_E), ws[k]? = some x → x.1 < n) (hA : ∀ q, n ≤ q → A q) : va_D A (ws ++ es.mapIdx (fun i e => (n + i, e))) := by
  have key : ∀ (k : Nat) (x : Nat × va_E), (ws ++ es.mapIdx (fun i e => (n + i, e)))[k]? = some x → (k < ws.length ∧ ws[k]? = some x) ∨ (ws.length ≤ k ∧ x.1 = n + (k - ws.length)) := by
    intro k x h
    by_cases hk : k < ws.length
    · rw [List.getElem?_append_left hk] at h
      exact Or.inl ⟨hk, h⟩
    · rw [List.getElem?_append_right (by omega), List.getElem?_mapIdx] at h
      refine Or.inr ⟨by omega, ?_⟩
      cases hz : es[k - ws.length]? with
      | none => rw [hz] at h; cases h
      | some e => rw [hz] at h; cases h; rfl
  refine ⟨fun i j p q h1 h2 he => ?_, fun k q h => ?_⟩
  · rcases key i p h1 with ⟨a1, b1⟩ | ⟨a1, b1⟩ <;> rcases key j q h2 with ⟨a2, b2⟩ | ⟨a2, b2⟩
    · exact hD.1 i j p q b1 b2 he
    · have := hlt i p b1
      omega
    · have := hlt j q b2
      omega
    · omega
  · rcases key k q h with ⟨a1, b1⟩ | ⟨a1, b1⟩
    · exact hD.2 k q b1
    · rw [b1]
      exact hA _ (by omega)
/-- the row of the world: the outer array, its four rows behind it -/
theorem mn_W (hexec : p.tables.exec = Jvm.exec) (hb : c.code = cc) {own : String} {index : Nat} (hown : s.vm.findClass own = some m.cls) (hclink : (Cond.classLink own index "[[J").before args s = true) (hover : OvJ s) (harr : (Cond.arrayClass .long).before args s = true) {cJ cJJ : ClassId} (hcJ : s.vm.findClass "[J" = some cJ) (hcJJ : s.vm.findClass "[[J" = some cJJ)
    (hP : va_P D cl ws H) (hD : va_D A ws) (hS : va_S A H0 H locs) (hA : ∀ q, H0.size ≤ q → A q) (hcells : cells + 5 ≤ R.cells) (hslots : slots + 164 ≤ R.slots) (hdg : decode cc pc = .ok (.multianewarray index 2, 4))
    (kk : ∀ (q r0 r1 r2 r3 : Nat) (H1 : Heap) (locs1 : List Loc), va_P D cl (ws ++ [(q, .inl (cJJ, 4, .inr (.inr (.inr (.inr (fun i => ([some r0, some r1, some r2, some r3] : List (Option Nat)).getD i none)))))), (r0, .inl (cJ, 40, .inr (.inl (fun _ => 0)))), (r1, .inl (cJ, 40, .inr (.inl (fun _ => 0)))), (r2, .inl (cJ, 40, .inr (.inl (fun _ => 0)))), (r3, .inl (cJ, 40, .inr (.inl (fun _ => 0))))]) H1 →
      va_D A (ws ++ [(q, .inl (cJJ, 4, .inr (.inr (.inr (.inr (fun i => ([some r0, some r1, some r2, some r3] : List (Option Nat)).getD i none)))))), (r0, .inl (cJ, 40, .inr (.inl (fun _ => 0)))), (r1, .inl (cJ, 40, .inr (.inl (fun _ => 0)))), (r2, .inl (cJ, 40, .inr (.inl (fun _ => 0)))), (r3, .inl (cJ, 40, .inr (.inl (fun _ => 0))))]) → va_S A H0 H1 locs1 →
      W p l e R s m args below meth c H1 locs1 (cells + 5) (slots + 164) Q (F0 m (pc + 4) ls (.ref q :: rest))) : W p l e R s m args below meth c H locs cells slots Q (F0 m pc ls (.int 40 :: .int 4 :: rest)) := by
  intro T hT Xs
  subst hb
  obtain ⟨vm₁, cA, comp, -, fA, fC, X', step⟩ := mn_step Xs hexec hown hclink hover harr (g := F0 m pc ls (.int 40 :: .int 4 :: rest)) rfl hdg rfl hcells hslots
  obtain rfl : cJ = comp := Option.some.inj (hcJ.symm.trans fC)
  obtain rfl : cJJ = cA := Option.some.inj (hcJJ.symm.trans fA)
  have hTh : (T.setVm vm₁).heap = H := hT
  obtain ⟨f1, f2, -, -⟩ := mn_facts (T.setVm vm₁) cJJ cJ 4
  have hold : ∀ x : Nat, x < H.size → (mnF (T.setVm vm₁) cJJ cJ 4).heap[x]? = H[x]? := fun x hx => by
    rw [mn_old (T.setVm vm₁) cJJ cJ (a := x) (by rw [hTh]; exact hx) 4, hTh]
  have hrow : ∀ j : Nat, j < 4 → (mnF (T.setVm vm₁) cJJ cJ 4).heap[H.size + 1 + j]? = some (mnI cJ) := fun j hj => by
    have := mn_row (T.setVm vm₁) cJJ cJ 4 j hj
    rw [hTh] at this
    exact this
  rw [hTh] at f1 f2
  generalize mnF (T.setVm vm₁) cJJ cJ 4 = F at X' step f1 f2 hold hrow
  have hlt : ∀ (k : Nat) (x : Nat × va_E), ws[k]? = some x → x.1 < H.size := fun k x hx => (hP k x hx).lt
  have eO : mnO cJJ H.size 4 = vp_cell cJJ (4, .inr (.inr (.inr (.inr (fun i => ([some (H.size + 1), some (H.size + 2), some (H.size + 3), some (H.size + 4)] : List (Option Nat)).getD i none))))) := by
    rw [vp_cell_q]
    unfold mnO
    apply arrV_cg
    intro j hj
    match j, hj with
    | 0, _ => rfl
    | 1, _ => rfl
    | 2, _ => rfl
    | 3, _ => rfl
  have eI : mnI cJ = vp_cell cJ (40, .inr (.inl (fun _ => 0))) := rfl
  rw [eO] at f2
  have hP2 := (hP.kept (fun k x hx => hold x.1 (hlt k x hx))).app (w2 := [(H.size, .inl (cJJ, 4, .inr (.inr (.inr (.inr (fun i => ([some (H.size + 1), some (H.size + 2), some (H.size + 3), some (H.size + 4)] : List (Option Nat)).getD i none)))))), (H.size + 1, .inl (cJ, 40, .inr (.inl (fun _ => 0)))), (H.size + 2, .inl (cJ, 40, .inr (.inl (fun _ => 0)))), (H.size + 3, .inl (cJ, 40, .inr (.inl (fun _ => 0)))), (H.size + 4, .inl (cJ, 40, .inr (.inl (fun _ => 0))))]) (fun k x hx => by
    match k, hx with
    | 0, hx => cases hx; exact f2
    | 1, hx => cases hx; exact (hrow 0 (by omega)).trans (congrArg some eI)
    | 2, hx => cases hx; exact (hrow 1 (by omega)).trans (congrArg some eI)
    | 3, hx => cases hx; exact (hrow 2 (by omega)).trans (congrArg some eI)
    | 4, hx => cases hx; exact (hrow 3 (by omega)).trans (congrArg some eI)
    | k + 5, hx => simp at hx)
  have hD2 : va_D A (ws ++ [(H.size, .inl (cJJ, 4, .inr (.inr (.inr (.inr (fun i => ([some (H.size + 1), some (H.size + 2), some (H.size + 3), some (H.size + 4)] : List (Option Nat)).getD i none)))))), (H.size + 1, .inl (cJ, 40, .inr (.inl (fun _ => 0)))), (H.size + 2, .inl (cJ, 40, .inr (.inl (fun _ => 0)))), (H.size + 3, .inl (cJ, 40, .inr (.inl (fun _ => 0)))), (H.size + 4, .inl (cJ, 40, .inr (.inl (fun _ => 0))))]) :=
    va_D_app (n := H.size) (es := [.inl (cJJ, 4, .inr (.inr (.inr (.inr (fun i => ([some (H.size + 1), some (H.size + 2), some (H.size + 3), some (H.size + 4)] : List (Option Nat)).getD i none))))), .inl (cJ, 40, .inr (.inl (fun _ => 0))), .inl (cJ, 40, .inr (.inl (fun _ => 0))), .inl (cJ, 40, .inr (.inl (fun _ => 0))), .inl (cJ, 40, .inr (.inl (fun _ => 0)))]) hD hlt (fun q hq => hA q (Nat.le_trans hS.1 hq))
  have hS2 : va_S A H0 F.heap (locs ++ (List.range 4).map fun j => ⟨T.heap.size, j⟩) := by
    refine ⟨Nat.le_trans hS.1 (by omega), fun x h1 h2 => (hold x (Nat.lt_of_lt_of_le h1 hS.1)).trans (hS.2.1 x h1 h2), fun q hq => ?_⟩
    rcases List.mem_append.mp hq with h | h
    · exact hS.2.2 q h
    · obtain ⟨j, -, rfl⟩ := List.mem_map.mp h
      show A T.heap.size
      rw [hT]
      exact hA _ hS.1
  obtain ⟨t, a1, b1⟩ := kk H.size (H.size + 1) (H.size + 2) (H.size + 3) (H.size + 4) F.heap _ hP2 hD2 hS2 F rfl X'
  refine ⟨t, step t ?_, b1⟩
  rw [hT]
  exact a1
end MNV
