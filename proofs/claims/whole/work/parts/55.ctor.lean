/-! making objects: a frame over a growing world -/
theorem Ex.narrow {ad : Nat → Nat} {A B : Nat → Prop} {U : State} {H : Heap} (h : Ex ad A U H) (hAB : ∀ q, B q → A q) : Ex ad B U H :=
  ⟨fun i q hi => ⟨(h.1 i q hi).1.narrow hAB, (h.1 i q hi).2.narrow hAB⟩, h.2.1.narrow hAB, h.2.2.1, h.2.2.2.1, h.2.2.2.2.1, h.2.2.2.2.2.1.narrow hAB, h.2.2.2.2.2.2.narrow hAB⟩
theorem Ex.congr {ad ad' : Nat → Nat} {A : Nat → Prop} {U : State} {H : Heap} (h : Ex ad A U H) (he : ∀ k, ad' (100 + k) = ad (100 + k)) : Ex ad' A U H := by
  have e2 : (fun i => ad' (200 + i)) = (fun i => ad (200 + i)) := funext fun i => by have := he (100 + i); rw [show 100 + (100 + i) = 200 + i by omega] at this; exact this
  have e3 : (fun i => ad' (300 + i)) = (fun i => ad (300 + i)) := funext fun i => by have := he (200 + i); rw [show 100 + (200 + i) = 300 + i by omega] at this; exact this
  refine ⟨fun i q hi => ?_, ?_, fun q hq => ?_, h.2.2.2.1, h.2.2.2.2.1, h.2.2.2.2.2.1, h.2.2.2.2.2.2⟩
  · rw [he i]; exact h.1 i q hi
  · rw [e2, e3]; exact h.2.1
  · have := congrFun e2 q.2.2.2
    rw [this]; exact h.2.2.1 q hq
def okC (M : MI) : Bool := match M with
  | (y, b, mL, r, n, _, _, _, p1, p2, _, p4) => atW p1 (.code y b mL r) && atW p2 (.instanceMethod y) && atW p4 (.initialized y.cls) && decide (y.cls ≠ "java/lang/invoke/MethodHandle") && decide (y.cls ≠ "java/lang/invoke/VarHandle") && decide ((parseMethodDescriptor y.desc).map (fun d => d.parameters.length) = some n) && plainName y.cls && decide (y.name = "<init>") && decide (r = none)
theorem okC_e {M : MI} (h : okC M = true) : Jvm.Cond.code M.1 M.2.1 M.2.2.1 M.2.2.2.1 ∈ tg ∧ Jvm.Cond.instanceMethod M.1 ∈ tg ∧ Jvm.Cond.initialized M.1.cls ∈ tg ∧ (M.1.cls ≠ "java/lang/invoke/MethodHandle" ∧ M.1.cls ≠ "java/lang/invoke/VarHandle" ∧ (parseMethodDescriptor M.1.desc).map (fun d => d.parameters.length) = some M.2.2.2.2.1) ∧ plainName M.1.cls = true ∧ M.1.name = "<init>" ∧ M.2.2.2.1 = none := by
  obtain ⟨y, b, mL, r, n, fr, lc, stt, p1, p2, p3, p4⟩ := M
  simp only [okC, Bool.and_eq_true, decide_eq_true_eq] at h
  obtain ⟨⟨⟨⟨⟨⟨⟨⟨h1, h2⟩, h3⟩, h4⟩, h5⟩, h6⟩, h7⟩, h8⟩, h9⟩ := h
  exact ⟨atW_in h1, atW_in h2, atW_in h3, ⟨h4, h5, h6⟩, h7, h8, h9⟩
def rmC (M : MI) (mc ms : Nat) : Room := { frames := M.2.2.2.2.2.1, cells := mc, slots := ms, locals := M.2.2.2.2.2.2.1 }
/-- the cells that a making may touch: its own object, and new ones -/
abbrev fre (h0 sz : Nat) : Nat → Prop := fun q => q = h0 ∨ sz ≤ q
def PrecC (D : va_G) (cy : Nat → ClassId) (ad : Nat → Nat) (ci : Nat) (fs0 vs : List Value) (h0 sz : Nat) : Array Value → State → Prop :=
  va_Pc (.ref h0 :: vs) (fun U => U.heap.size = sz ∧ va_P D vwCl [(h0, .inr (ci, fs0))] U.heap ∧ va_K D vwCl (tysOf cy) U ∧ OvJ U ∧ Ex ad (fre h0 sz) U U.heap)
theorem PrecC_blind {D : va_G} {cy : Nat → ClassId} {ad : Nat → Nat} {ci : Nat} {fs0 vs : List Value} {h0 sz : Nat} : FrameBlind (PrecC D cy ad ci fs0 vs h0 sz) := by
  intro a U g mk q
  obtain ⟨q0, q1, qP, qK, qO, qE⟩ := q
  exact ⟨q0, q1, qP, va_K.moved (u := U) (U := U.calling g mk a) (Vm.Alike.refl U.vm) qK, OvJ.moved (u := U) (U := U.calling g mk a) (Vm.Alike.refl U.vm) qO, qE.calling⟩
/-- a constructor's contract: what its object becomes, with the cells that it makes -/
def CtM (l : Launch) (D : va_G) (cy : Nat → ClassId) (ad : Nat → Nat) (M : MI) (ci : Nat) (fs0 vs : List Value) (mc ms : Nat) (Wf : Nat → va_W → Prop) : Prop :=
  ∀ h0 sz : Nat, Met l M.1 (wsM M) (rmC M mc ms) (PrecC D cy ad ci fs0 vs h0 sz) (va_Qv (Wf h0) (fun ws t => va_P D vwCl ws t.heap ∧ va_D (fre h0 sz) ws) (fre h0 sz)) mc ms (fre h0 sz)
def Cy (D : va_G) (cy : Nat → ClassId) (ad : Nat → Nat) (A : Nat → Prop) (nL : Nat) (p : Program) (s : State) (m : MethodId) (args : Array Value) (c : Code) (own : String) (cc : ByteArray) : Prop :=
  p.tables.exec = Jvm.exec ∧ c.code = cc ∧ c.maxLocals = nL ∧ s.vm.findClass own = some m.cls ∧ (∀ w ∈ tg, w.before args s = true) ∧ va_K D vwCl (tysOf cy) s ∧ (∀ q, s.heap.size ≤ q → A q) ∧ OvJ s ∧ Ex ad A s s.heap
def Vy (D : va_G) (A : Nat → Prop) (nL : Nat) (p : Program) (l : Launch) (e : Env) (R : Room) (s : State) (m : MethodId) (args : Array Value) (below : List Frame) (meth : Method) (c : Code) (Q : State → Prop) (pc : Nat) (lv : List (Nat × Value)) (st : List Value) (ws : va_W) (cells slots : Nat) : Prop :=
  ∀ (H : Heap) (locs : List Loc) (ls : Array Slot), va_P D vwCl ws H → va_D A ws → va_S A s.heap H locs → lv_has ls nL lv → W p l e R s m args below meth c H locs cells slots Q (F0 m pc ls st)
def zI0 : Nat → Int32 := fun _ => 0
section CTR
variable {p : Program} {l : Launch} {e : Env} {R : Room} {s : State} {m : MethodId} {args : Array Value} {below : List Frame} {meth : Method} {c : Code} {cells slots : Nat} {Q : State → Prop}
variable {D : va_G} {cy : Nat → ClassId} {ad : Nat → Nat} {A : Nat → Prop} {nL : Nat} {own : String} {cc : ByteArray} {pc : Nat} {lv : List (Nat × Value)} {st : List Value} {ws : va_W}
theorem y_aload (C : Cy D cy ad A nL p s m args c own cc) (i : Nat) {k : Fin 4} {x : Nat} (hdg : decode cc pc = .ok (.aload_n k, 1)) (hi : lv[i]? = some ((k : Nat), .ref x)) (kk : Vy D A nL p l e R s m args below meth c Q (pc + 1) lv (.ref x :: st) ws cells slots) : Vy D A nL p l e R s m args below meth c Q pc lv st ws cells slots :=
  fun H locs ls hP hD hS hl => lv_aload_n C.1 C.2.1 hdg rfl (lv_at hl i hi) (kk H locs ls hP hD hS hl)
theorem y_iconst (C : Cy D cy ad A nL p s m args c own cc) {n : Int} {x : Int32} (hdg : decode cc pc = .ok (.iconst n, 1)) (hn : Int32.ofInt n = x) (kk : Vy D A nL p l e R s m args below meth c Q (pc + 1) lv (.int x :: st) ws cells slots) : Vy D A nL p l e R s m args below meth c Q pc lv st ws cells slots :=
  fun H locs ls hP hD hS hl => lv_iconst C.1 C.2.1 hdg hn (kk H locs ls hP hD hS hl)
theorem y_bipush (C : Cy D cy ad A nL p s m args c own cc) {n : Int} {x : Int32} (hdg : decode cc pc = .ok (.bipush n, 2)) (hn : (Int8.ofInt n).toInt32 = x) (kk : Vy D A nL p l e R s m args below meth c Q (pc + 2) lv (.int x :: st) ws cells slots) : Vy D A nL p l e R s m args below meth c Q pc lv st ws cells slots :=
  fun H locs ls hP hD hS hl => lv_bipush C.1 C.2.1 hdg hn (kk H locs ls hP hD hS hl)
theorem y_sipush (C : Cy D cy ad A nL p s m args c own cc) {n : Int} {x : Int32} (hdg : decode cc pc = .ok (.sipush n, 3)) (hn : (Int16.ofInt n).toInt32 = x) (kk : Vy D A nL p l e R s m args below meth c Q (pc + 3) lv (.int x :: st) ws cells slots) : Vy D A nL p l e R s m args below meth c Q pc lv st ws cells slots :=
  fun H locs ls hP hD hS hl => lv_sipush C.1 C.2.1 hdg hn (kk H locs ls hP hD hS hl)
theorem y_dup (C : Cy D cy ad A nL p s m args c own cc) {x : Nat} (hdg : decode cc pc = .ok (.dup, 1)) (kk : Vy D A nL p l e R s m args below meth c Q (pc + 1) lv (.ref x :: .ref x :: st) ws cells slots) : Vy D A nL p l e R s m args below meth c Q pc lv (.ref x :: st) ws cells slots :=
  fun H locs ls hP hD hS hl => lv_dup C.1 C.2.1 hdg rfl (kk H locs ls hP hD hS hl)
theorem y_newI (C : Cy D cy ad A nL p s m args c own cc) (harr : Jvm.Cond.arrayClass .int ∈ tg) {n : Int32} {N : Nat} (hn : ¬ n < 0) (hN : n.toNatClampNeg = N) (hbytes : N * 4 ≤ 536870912) (hcells : cells + 1 ≤ R.cells) (hslots : slots + N ≤ R.slots) (hdg : decode cc pc = .ok (.newarray .int, 2)) (kk : ∀ q, Vy D A nL p l e R s m args below meth c Q (pc + 2) lv (.ref q :: st) (ws ++ [(q, .inl (cy 1, N, .inl zI0))]) (cells + 1) (slots + N)) : Vy D A nL p l e R s m args below meth c Q pc lv (.int n :: st) ws cells slots := by
  obtain ⟨hx, hb, -, hown, hts, hK, hA, -⟩ := C
  intro H locs ls hP hD hS hl
  refine va_newa (atype := .int) (a0 := (N, .inl zI0)) hx hb (hts _ harr) rfl hK hP hD hS hA (fun cA => rfl) hn hN hbytes hcells hslots hdg (fun q cA H1 hK1 hP1 hD1 hS1 => ?_)
  have e1 := (hK1.2 5 (cA, .int) rfl).2
  have e2 := (hK.2 0 (cy 1, .int) rfl).2
  obtain rfl : cy 1 = cA := Option.some.inj (Eq.trans (Eq.symm e2) e1)
  exact kk q H1 locs ls hP1 hD1 hS1 hl
theorem y_newB (C : Cy D cy ad A nL p s m args c own cc) (harr : Jvm.Cond.arrayClass .byte ∈ tg) {n : Int32} {N : Nat} (hn : ¬ n < 0) (hN : n.toNatClampNeg = N) (hbytes : N * 1 ≤ 536870912) (hcells : cells + 1 ≤ R.cells) (hslots : slots + N ≤ R.slots) (hdg : decode cc pc = .ok (.newarray .byte, 2)) (kk : ∀ q, Vy D A nL p l e R s m args below meth c Q (pc + 2) lv (.ref q :: st) (ws ++ [(q, .inl (cy 2, N, .inl zI0))]) (cells + 1) (slots + N)) : Vy D A nL p l e R s m args below meth c Q pc lv (.int n :: st) ws cells slots := by
  obtain ⟨hx, hb, -, hown, hts, hK, hA, -⟩ := C
  intro H locs ls hP hD hS hl
  refine va_newa (atype := .byte) (a0 := (N, .inl zI0)) hx hb (hts _ harr) rfl hK hP hD hS hA (fun cA => rfl) hn hN hbytes hcells hslots hdg (fun q cA H1 hK1 hP1 hD1 hS1 => ?_)
  have e1 := (hK1.2 5 (cA, .byte) rfl).2
  have e2 := (hK.2 1 (cy 2, .byte) rfl).2
  obtain rfl : cy 2 = cA := Option.some.inj (Eq.trans (Eq.symm e2) e1)
  exact kk q H1 locs ls hP1 hD1 hS1 hl
theorem y_newC (C : Cy D cy ad A nL p s m args c own cc) (harr : Jvm.Cond.arrayClass .char ∈ tg) {n : Int32} {N : Nat} (hn : ¬ n < 0) (hN : n.toNatClampNeg = N) (hbytes : N * 2 ≤ 536870912) (hcells : cells + 1 ≤ R.cells) (hslots : slots + N ≤ R.slots) (hdg : decode cc pc = .ok (.newarray .char, 2)) (kk : ∀ q, Vy D A nL p l e R s m args below meth c Q (pc + 2) lv (.ref q :: st) (ws ++ [(q, .inl (cy 3, N, .inl zI0))]) (cells + 1) (slots + N)) : Vy D A nL p l e R s m args below meth c Q pc lv (.int n :: st) ws cells slots := by
  obtain ⟨hx, hb, -, hown, hts, hK, hA, -⟩ := C
  intro H locs ls hP hD hS hl
  refine va_newa (atype := .char) (a0 := (N, .inl zI0)) hx hb (hts _ harr) rfl hK hP hD hS hA (fun cA => rfl) hn hN hbytes hcells hslots hdg (fun q cA H1 hK1 hP1 hD1 hS1 => ?_)
  have e1 := (hK1.2 5 (cA, .char) rfl).2
  have e2 := (hK.2 2 (cy 3, .char) rfl).2
  obtain rfl : cy 3 = cA := Option.some.inj (Eq.trans (Eq.symm e2) e1)
  exact kk q H1 locs ls hP1 hD1 hS1 hl
def zJ0 : Nat → Int64 := fun _ => 0
theorem y_newJ (C : Cy D cy ad A nL p s m args c own cc) (harr : Jvm.Cond.arrayClass .long ∈ tg) {n : Int32} {N : Nat} (hn : ¬ n < 0) (hN : n.toNatClampNeg = N) (hbytes : N * 8 ≤ 536870912) (hcells : cells + 1 ≤ R.cells) (hslots : slots + N ≤ R.slots) (hdg : decode cc pc = .ok (.newarray .long, 2)) (kk : ∀ q, Vy D A nL p l e R s m args below meth c Q (pc + 2) lv (.ref q :: st) (ws ++ [(q, .inl (cy 4, N, .inr (.inl zJ0)))]) (cells + 1) (slots + N)) : Vy D A nL p l e R s m args below meth c Q pc lv (.int n :: st) ws cells slots := by
  obtain ⟨hx, hb, -, hown, hts, hK, hA, -⟩ := C
  intro H locs ls hP hD hS hl
  refine va_newa (atype := .long) (a0 := (N, .inr (.inl zJ0))) hx hb (hts _ harr) rfl hK hP hD hS hA (fun cA => rfl) hn hN hbytes hcells hslots hdg (fun q cA H1 hK1 hP1 hD1 hS1 => ?_)
  have e1 := (hK1.2 5 (cA, .long) rfl).2
  have e2 := (hK.2 3 (cy 4, .long) rfl).2
  obtain rfl : cy 4 = cA := Option.some.inj (Eq.trans (Eq.symm e2) e1)
  exact kk q H1 locs ls hP1 hD1 hS1 hl
theorem y_mna (C : Cy D cy ad A nL p s m args c own cc) (harr : Jvm.Cond.arrayClass .long ∈ tg) {idx : Nat} (hlk : Jvm.Cond.classLink own idx "[[J" ∈ tg) (hcells : cells + 5 ≤ R.cells) (hslots : slots + 164 ≤ R.slots) (hdg : decode cc pc = .ok (.multianewarray idx 2, 4)) (kk : ∀ q r0 r1 r2 r3, Vy D A nL p l e R s m args below meth c Q (pc + 4) lv (.ref q :: st) (ws ++ [(q, .inl (cy 5, 4, .inr (.inr (.inr (.inr (fun i => ([some r0, some r1, some r2, some r3] : List (Option Nat)).getD i none)))))), (r0, .inl (cy 4, 40, .inr (.inl zJ0))), (r1, .inl (cy 4, 40, .inr (.inl zJ0))), (r2, .inl (cy 4, 40, .inr (.inl zJ0))), (r3, .inl (cy 4, 40, .inr (.inl zJ0)))]) (cells + 5) (slots + 164)) : Vy D A nL p l e R s m args below meth c Q pc lv (.int 40 :: .int 4 :: st) ws cells slots := by
  obtain ⟨hx, hb, -, hown, hts, hK, hA, hO, -⟩ := C
  intro H locs ls hP hD hS hl
  have e4 : s.vm.findClass ("[" ++ FieldType.long.toString) = some (cy 4) := (hK.2 3 (cy 4, .long) rfl).2
  have e5 : s.vm.findClass ("[" ++ (FieldType.array .long).toString) = some (cy 5) := (hK.2 4 (cy 5, .array .long) rfl).2
  rw [show ("[" ++ FieldType.long.toString : String) = "[J" from by decide +kernel] at e4
  rw [show ("[" ++ (FieldType.array .long).toString : String) = "[[J" from by decide +kernel] at e5
  exact mn_W hx hb hown (hts _ hlk) hO (hts _ harr) e4 e5 hP hD hS hA hcells hslots hdg (fun q r0 r1 r2 r3 H1 locs1 hP1 hD1 hS1 => kk q r0 r1 r2 r3 H1 locs1 ls hP1 hD1 hS1 hl)
theorem y_iast (C : Cy D cy ad A nL p s m args c own cc) (q0 : Nat) {a n : Nat} {f : Nat → Int32} {i x : Int32} (ha : ws[q0]? = some (a, .inl (cy 1, n, .inl f))) {j : Nat} (hj : i.toNatClampNeg = j) (hin : vp_in i n) (hdg : decode cc pc = .ok (.iastore, 1)) (kk : Vy D A nL p l e R s m args below meth c Q (pc + 1) lv st (ws.set q0 (a, .inl (cy 1, n, .inl (upd f j x)))) cells slots) : Vy D A nL p l e R s m args below meth c Q pc lv (.int x :: .int i :: .ref a :: st) ws cells slots := by
  obtain ⟨hx, hb, -, hown, hts, hK, hA, -⟩ := C
  subst hj
  intro H locs ls hP hD hS hl
  exact va_iast hx hb hK hP hD hS q0 0 ha rfl hin hdg (fun H1 locs1 hP1 hD1 hS1 => kk H1 locs1 ls hP1 hD1 hS1 hl)
theorem y_cast (C : Cy D cy ad A nL p s m args c own cc) (q0 : Nat) {a n : Nat} {f : Nat → Int32} {i x y : Int32} (ha : ws[q0]? = some (a, .inl (cy 3, n, .inl f))) {j : Nat} (hj : i.toNatClampNeg = j) (hin : vp_in i n) (hy : vp_nar .char x = y) (hdg : decode cc pc = .ok (.castore, 1)) (kk : Vy D A nL p l e R s m args below meth c Q (pc + 1) lv st (ws.set q0 (a, .inl (cy 3, n, .inl (upd f j y)))) cells slots) : Vy D A nL p l e R s m args below meth c Q pc lv (.int x :: .int i :: .ref a :: st) ws cells slots := by
  obtain ⟨hx, hb, -, hown, hts, hK, hA, -⟩ := C
  subst hy
  subst hj
  intro H locs ls hP hD hS hl
  exact va_cast hx hb hK hP hD hS q0 2 ha rfl hin hdg (fun H1 locs1 hP1 hD1 hS1 => kk H1 locs1 ls hP1 hD1 hS1 hl)
theorem y_putF (C : Cy D cy ad A nL p s m args c own cc) (hin : meth.name = "<init>") (q0 k : Nat) {a ci N idx : Nat} {F : u_T} {fs : List Value} (he : ws[q0]? = some (a, .inr (ci, fs))) (hc : vwCl[ci]? = some (own, F, N)) (hk : k < N) (hF : (F k).1 = own) (hw : Jvm.Cond.fieldLink own idx own (F k).2.1 (F k).2.2.1 ∈ tg) (hfin : (F k).2.2.2 = true) {ty : FieldType} {v : Value} (hd : parseFieldDescriptor (F k).2.2.1 = some ty) (hn : narrow ty v = v) (hfit : fits ty v = true) (hl2 : k < fs.length) (hdg : decode cc pc = .ok (.putfield idx, 3)) (kk : Vy D A nL p l e R s m args below meth c Q (pc + 3) lv st (ws.set q0 (a, .inr (ci, fs.set k v))) cells slots) : Vy D A nL p l e R s m args below meth c Q pc lv (v :: .ref a :: st) ws cells slots := by
  obtain ⟨hx, hb, -, hown, hts, hK, hA, -⟩ := C
  intro H locs ls hP hD hS hl
  obtain ⟨h1, ⟨ty0, h2⟩, h3⟩ := cl_facts _ _ hc
  exact va_putF hx hb hts h1 ty0 h2 h3 hown hK hP hD hS q0 he hc k hk (hts _ hw) (fun x h => by rw [hF] at h; exact h) hfin hin hF hd hn hfit hl2 hdg (fun H1 locs1 hP1 hD1 hS1 => kk H1 locs1 ls hP1 hD1 hS1 hl)
theorem y_get (C : Cy D cy ad A nL p s m args c own cc) (q0 k : Nat) {a ci N idx : Nat} {Cn : String} {F : u_T} {fs : List Value} {v : Value} (he : ws[q0]? = some (a, .inr (ci, fs))) (hc : vwCl[ci]? = some (Cn, F, N)) (hk : k < N) (hF : (F k).1 = Cn) (hw : Jvm.Cond.fieldLink own idx Cn (F k).2.1 (F k).2.2.1 ∈ tg) (hv : fs[k]? = some v) (hdg : decode cc pc = .ok (.getfield idx, 3)) (kk : Vy D A nL p l e R s m args below meth c Q (pc + 3) lv (v :: st) ws cells slots) : Vy D A nL p l e R s m args below meth c Q pc lv (.ref a :: st) ws cells slots := by
  obtain ⟨hx, hb, -, hown, hts, hK, hA, -⟩ := C
  intro H locs ls hP hD hS hl
  exact va_get hx hb hts (cl_facts _ _ hc).1 hown hK hP q0 he hc k hk (hts _ hw) (fun x h => by rw [hF] at h; exact h) hv hdg (kk H locs ls hP hD hS hl)
theorem y_new (C : Cy D cy ad A nL p s m args c own cc) {ci N idx : Nat} {Cn : String} {F : u_T} {fs : List Value} (hc : vwCl[ci]? = some (Cn, F, N)) (ty : Nat → FieldType) (hty : ∀ k, k < N → parseFieldDescriptor (F k).2.2.1 = some (ty k)) (hlk : Jvm.Cond.classLink own idx Cn ∈ tg) (hinst : Jvm.Cond.instantiable Cn N ∈ tg) (hini : Jvm.Cond.initialized Cn ∈ tg) (hfs : ∀ j, j < N → defaultValue (ty j) = vp_V fs j) (hcells : cells + 1 ≤ R.cells) (hslots : slots + N ≤ R.slots) (hdg : decode cc pc = .ok (.new idx, 3)) (kk : ∀ q, Vy D A nL p l e R s m args below meth c Q (pc + 3) lv (.ref q :: st) (ws ++ [(q, .inr (ci, fs))]) (cells + 1) (slots + N)) : Vy D A nL p l e R s m args below meth c Q pc lv st ws cells slots := by
  obtain ⟨hx, hb, -, hown, hts, hK, hA, -⟩ := C
  intro H locs ls hP hD hS hl
  exact va_new hx hb hts (cl_facts _ _ hc).1 ty hty hown (hts _ hlk) (hts _ hinst) (hts _ hini) hK hP hD hS hA hc hfs hcells hslots hdg (fun q H1 hP1 hD1 hS1 => kk q H1 locs ls hP1 hD1 hS1 hl)
theorem y_obj (C : Cy D cy ad A nL p s m args c own cc) {idx a : Nat} (hlk : Jvm.Cond.methodLink own idx Lib.objectInit ∈ tg) (hin : Jvm.Cond.instanceMethod Lib.objectInit ∈ tg) (hco : Jvm.Cond.code Lib.objectInit ⟨#[0xb1]⟩ 1 none ∈ tg) (hfr : 1 ≤ R.frames) (hlc : 12 ≤ R.locals) (hdg : decode cc pc = .ok (.invokespecial idx, 3)) (kk : Vy D A nL p l e R s m args below meth c Q (pc + 3) lv [] ws cells slots) : Vy D A nL p l e R s m args below meth c Q pc lv [.ref a] ws cells slots := by
  obtain ⟨hx, hb, hml, hown, hts, hK, hA, -⟩ := C
  intro H locs ls hP hD hS hl
  exact W.objInit hx hb hown (hts _ hlk) (hts _ hin) (hts _ hco) (g := F0 m pc ls [.ref a]) rfl (hl.1.trans hml.symm) (rest := []) rfl hdg hfr (by show 2 * 0 + 0 + 12 ≤ _; omega) (kk H locs ls hP hD hS hl)
theorem y_gets (C : Cy D cy ad A nL p s m args c own cc) {idx : Nat} (hlk : ∃ f ∈ nestF, f.1 = own ∧ f.2.1 = idx ∧ f.2.2.1 = "BlastFace" ∧ f.2.2.2.1 = "FIRST_RULE" ∧ f.2.2.2.2.1 = "[I") (hdg : decode cc pc = .ok (.getstatic idx, 3)) (kk : Vy D A nL p l e R s m args below meth c Q (pc + 3) lv (.ref (ad 100) :: st) ws cells slots) : Vy D A nL p l e R s m args below meth c Q pc lv st ws cells slots := by
  obtain ⟨hx, hb, hml, hown, hts, hK, hA, hO, hE⟩ := C
  obtain ⟨f, hf, f1, f2, f3, f4, f5⟩ := hlk
  have hnw := hE.2.2.2.1 f hf
  rw [f1, f2, f3, f4, f5] at hnw
  intro H locs ls hP hD hS hl
  exact va_getsN hx hb (hE.1 0 _ rfl).1 hS hown (va_Nw.use rfl hnw) (fun x h => h) hdg (kk H locs ls hP hD hS hl)
/-- the first rules, from the constant row -/
def fRul : Nat → Int32 := va_cpy (fun j => ([8, 100, 25] : List Int32).getD j 0) zI0 0 0 3
set_option maxHeartbeats 1000000 in
theorem y_copy (C : Cy D cy ad A nL p s m args c own cc) {idx : Nat} (hlk : Jvm.Cond.methodLink own idx arraycopyName ∈ tg) (q1 : Nat) {a : Nat} (ha1 : ws[q1]? = some (a, .inl (cy 1, 3, .inl zI0))) (hfr : 1 ≤ R.frames) (hlc : nativeFrameWords "java/lang/System" "arraycopy" 5 + 11 ≤ R.locals) (hdg : decode cc pc = .ok (.invokestatic idx, 3)) (kk : Vy D A nL p l e R s m args below meth c Q (pc + 3) lv [] (ws.set q1 (a, .inl (cy 1, 3, .inl fRul))) cells slots) : Vy D A nL p l e R s m args below meth c Q pc lv [.int 3, .int 0, .ref a, .int 0, .ref (ad 100)] ws cells slots := by
  obtain ⟨hx, hb, hml, hown, hts, hK, hA, hO, hE⟩ := C
  intro H locs ls hP hD hS hl T hT X
  obtain ⟨scr, hs1, hs2, hs3, hs4, -, hs5, hs7⟩ := (hE.1 0 _ rfl).2
  have hc0 : H[ad (100 + 0)]? = some scr := by rw [hS.2.1 _ (Array.getElem?_eq_some_iff.mp hs1).1 hs7]; exact hs1
  have hc1 : H[a]? = some (vp_cell (cy 1) (3, .inl zI0)) := hP q1 _ ha1
  obtain ⟨hs6, k0, hk0, cm0, hkk0⟩ := hs2
  obtain ⟨-, k1, hk1, cm1, hkk1⟩ := (hK.2 0 (cy 1, .int) rfl).1 3 (fun j => .int (zI0 j))
  have hs4 : 3 ≤ scr.slots.size := hs4
  have n3 : (3 : Int32).toInt = 3 := by decide
  have n0 : (0 : Int32).toInt = 0 := by decide
  have t3 : (3 : Int32).toNatClampNeg = 3 := by decide
  have t0 : (0 : Int32).toNatClampNeg = 0 := by decide
  obtain ⟨vm', X', step⟩ := X.arraycopy hx hown (hts _ hlk) (hts _ arr_tg.1) (hts _ arr_tg.2.1) (hts _ arr_tg.2.2) (src := ad (100 + 0)) (dst := a) (cs := scr) (cd := vp_cell (cy 1) (3, .inl zI0)) (srcPos := 0) (destPos := 0) (n := 3) (by rw [hT]; exact hc0) (by rw [hT]; exact hc1)
    hs6 (fun _ h => by cases h) hs3 (fun h => by cases h) hk0 hk1 hkk0 hkk1 (by simp [refKind]) (by decide) (by decide) (by decide)
    (by rw [n3, n0]; omega)
    (by rw [n3, n0]; show ¬ _ > ((arrV (cy 1) 3 (fun j => .int (zI0 j))).slots.size : Int); rw [arrV_size]; omega)
    (fun vm₁ _ i hi => by
      rw [t3] at hi
      have e : scr.slots.getD ((0 : Int32).toNatClampNeg + i) .null = .int (([8, 100, 25] : List Int32).getD i 0) := by
        rw [t0, Nat.zero_add, Array.getD_eq_getD_getElem?, hs5 i hi]
        rfl
      rw [e]
      exact ⟨rfl, trivial⟩)
    (g := F0 m pc ls [.int 3, .int 0, .ref a, .int 0, .ref (ad (100 + 0))]) rfl (hl.1.trans hml.symm) (rest := []) rfl (by rw [hb]; exact hdg) hfr (by show 2 * 0 + 0 + _ ≤ _; omega)
  have e1 : copied scr (vp_cell (cy 1) (3, .inl zI0)) 0 0 3 = vp_cell (cy 1) (3, .inl fRul) := va_copiedX (fun z => .int z) scr (cy 1) (fun j => ([8, 100, 25] : List Int32).getD j 0) zI0 hs5 (by rw [t3, t0]; exact Nat.le_refl 3)
  rw [e1] at X' step
  have hlt : a < H.size := (Array.getElem?_eq_some_iff.mp hc1).1
  have hheap : ((T.setVm vm').setCell a (vp_cell (cy 1) (3, .inl fRul))).heap = H.setIfInBounds a (vp_cell (cy 1) (3, .inl fRul)) := by rw [← hT]; rfl
  have oq : ∀ q : Nat, q ≠ a → (H.setIfInBounds a (vp_cell (cy 1) (3, .inl fRul)))[q]? = H[q]? := fun q hq => by simp [Array.getElem?_setIfInBounds, Ne.symm hq]
  obtain ⟨t, a1, b1⟩ := kk _ _ ls (hP.set hD ha1 (show (H.setIfInBounds a _)[a]? = some _ by simp [Array.getElem?_setIfInBounds, hlt]) oq) (hD.set ha1) ⟨by simp; exact hS.1, fun q g1 g2 => by
      rw [oq q (fun e => g2 (by rw [e]; exact hD.2 q1 _ ha1))]
      exact hS.2.1 q g1 g2, fun q hq => by
      rcases List.mem_append.mp hq with h | h
      · exact hS.2.2 q h
      · obtain ⟨z, -, hz⟩ := List.mem_map.mp h
        rw [← hz]
        exact hD.2 q1 _ ha1⟩ hl _ hheap X'
  exact ⟨t, step t a1, b1⟩
set_option maxHeartbeats 1000000 in
theorem y_call (C : Cy D cy ad A nL p s m args c own cc) {M : MI} {ci mc ms idx : Nat} {fs0 vs : List Value} {Wf : Nat → va_W → Prop} (hct : CtM l D cy ad M ci fs0 vs mc ms Wf) (hok : okC M = true) (hlk : Jvm.Cond.methodLink own idx M.1 ∈ tg ∨ ∃ f ∈ nestM, f.1 = own ∧ f.2.1 = idx ∧ f.2.2.1 = M.1) (hn : M.2.2.2.2.1 = vs.length) (hfr : M.2.2.2.2.2.1 + 1 ≤ R.frames) (hlc : 8 + (M.2.2.1 + 11) + M.2.2.2.2.2.2.1 ≤ R.locals) (hdg : decode cc pc = .ok (.invokespecial idx, 3))
    (i : Nat) {h0 : Nat} (he : ws[i]? = some (h0, .inr (ci, fs0))) (isR : List Nat) (wr : va_W) (hR : isR.map (fun i => ws[i]?) = wr.map some) (hnd : va_nd isR = true) (hdis : ∀ j ∈ isR, j ∉ [i]) (hrest : (st.map fun v => v.category).sum ≤ 8) (hcl : cells + mc ≤ R.cells) (hsl : slots + ms ≤ R.slots)
    (kk : ∀ w1, Wf h0 w1 → Vy D A nL p l e R s m args below meth c Q (pc + 3) lv st (wr ++ w1) (cells + mc) (slots + ms)) : Vy D A nL p l e R s m args below meth c Q pc lv (vs.reverse ++ .ref h0 :: st) ws cells slots := by
  obtain ⟨hx, hb, hml, hown, hts, hK, hA, hO, hE⟩ := C
  obtain ⟨g1, g2, g4, g5, -, g7, g8⟩ := okC_e hok
  intro H locs ls hP hD hS hl
  have hC : [i].map (fun i => ws[i]?) = ([(h0, .inr (ci, fs0))] : va_W).map some := by simp [he]
  have hPc : va_P D vwCl [(h0, .inr (ci, fs0))] H := hP.sub [i] (by simp [he])
  have hfe : ∀ q, fre h0 H.size q → va_A [(h0, .inr (ci, fs0))] H.size q := fun q h => h.elim (fun e => Or.inl ⟨0, .inr (ci, fs0), by rw [e]; rfl⟩) Or.inr
  have hef : ∀ q, va_A [(h0, .inr (ci, fs0))] H.size q → fre h0 H.size q := fun q h => h.elim (fun ⟨k, e, hk⟩ => by
    match k, hk with
    | 0, hk => cases hk; exact Or.inl rfl
    | k + 1, hk => simp at hk) Or.inr
  have hFA : ∀ q, va_A [(h0, .inr (ci, fs0))] H.size q → A q := va_free hD hS hA [i] hC
  have hF : ∀ q, fre h0 H.size q → A q := fun q h => hFA q (hfe q h)
  have hpre : PreS s H (PrecC D cy ad ci fs0 vs h0 H.size) (.ref h0 :: vs) := ⟨PrecC_blind, fun U hU hW => ⟨rfl, by rw [hU], by rw [hU]; exact hPc, va_K.moved hW.alike hK, OvJ.moved hW.alike hO, by rw [hU]; exact ((hE.kept (fun q h1 h2 => hS.2.1 q h1 h2)).narrow hF).warm hW⟩⟩
  have hgo : va_Run p l e R s m args below meth c H locs cells slots mc ms (F0 m pc ls (vs.reverse ++ .ref h0 :: st)) st (va_Qv (Wf h0) (fun ws t => va_P D vwCl ws t.heap ∧ va_D (fre h0 H.size) ws) (fre h0 H.size) ((.ref h0 :: vs).toArray)) (fre h0 H.size) → W p l e R s m args below meth c H locs cells slots Q (F0 m pc ls (vs.reverse ++ .ref h0 :: st)) := by
    intro hrun
    refine va_callv hrun hS (fun q _ h => hF q h) hF (fun u t H1 locs1 ht hvm hw hB hz1 hk1 hS1 => ?_)
    obtain ⟨hP1, hD1⟩ := hB
    rw [ht] at hP1
    obtain ⟨hP2, hD2⟩ := va_join (wr := wr) (w1 := u) hP hD [i] isR hC hR hnd hdis (fun q h1 h2 => hk1 q h1 (fun h => h2 (hfe q h))) hFA hP1 (hD1.weaken (fun _ q _ h => hfe q.1 h))
    exact kk u hw H1 locs1 ls hP2 hD2 hS1 hl
  rcases hlk with hlk | ⟨f, hf, f1, f2, f3⟩
  · refine hgo ?_
    have hM := hct h0 H.size
    have hcw := cwI (R := R) (s := s) (args := args) (own := own) (index := idx) (y := M.1) (bytes := M.2.1) (maxL := M.2.2.1) (ws := wsM M) (rm := rmC M mc ms) (mc := mc) (ms := ms) vs.length hts (good_all (wsM_in g1)) (by unfold wsM; rw [g8]) rfl rfl (hts _ g4) (hts _ hlk) (hts _ g2) g7 ⟨g5.1, g5.2.1, by rw [← hn]; exact g5.2.2⟩ ⟨hfr, hlc⟩
    exact va_runI (As := vs) (rest := st) ⟨hx, hb, hml, hown, hts⟩ hM hcw hpre rfl rfl hl.1 rfl (by show 2 * 0 + _ ≤ 8; omega) hdg ⟨hcl, hsl⟩
  · refine hgo ?_
    have hM := hct h0 H.size
    have hnw := hE.2.2.2.2.1 f hf
    rw [f1, f2, f3] at hnw
    have hcn := va_cnB (R := R) (s := s) (args := args) (own := own) (host := f.2.2.2) (index := idx) (y := M.1) (bytes := M.2.1) (maxL := M.2.2.1) (ret := none) (ws := wsM M) (rm := rmC M mc ms) (mc := mc) (ms := ms) vs.length hts (good_all (wsM_in g1)) (by unfold wsM; rw [g8]) rfl rfl hnw (hts _ g4) ⟨g5.1, g5.2.1, by rw [← hn]; exact g5.2.2⟩ ⟨hfr, hlc⟩
    exact va_runIN (As := vs) (rest := st) ⟨hx, hb, hml, hown, hts⟩ hM ⟨hcn, g7, hts _ g2⟩ hpre rfl rfl hl.1 rfl (by show 2 * 0 + _ ≤ 8; omega) hdg ⟨hcl, hsl⟩
end CTR
set_option maxHeartbeats 1000000 in
theorem ct_of {l : Launch} {D : va_G} {cy : Nat → ClassId} {ad : Nat → Nat} {M : MI} {ci mc ms : Nat} {fs0 vs : List Value} {Wf : Nat → va_W → Prop} (hok : okC M = true) (hlen : ∀ h0 : Nat, (lg_sl (.ref h0 :: vs)).length ≤ M.2.2.1)
    (h : ∀ (p : Program) (e : Env) (s : State) (m : MethodId) (below : List Frame) (meth : Method) (c : Code) (Q : State → Prop) (A : Nat → Prop) (h0 : Nat), meth.name = "<init>" → Cy D cy ad A M.2.2.1 p s m ((.ref h0 :: vs).toArray) c M.1.cls M.2.1 →
      (∀ pc lv ws, decode M.2.1 pc = .ok (.return_, 1) → Wf h0 ws → Vy D A M.2.2.1 p l e (rmC M mc ms) s m ((.ref h0 :: vs).toArray) below meth c Q pc lv [] ws mc ms) →
      Vy D A M.2.2.1 p l e (rmC M mc ms) s m ((.ref h0 :: vs).toArray) below meth c Q 0 (lv_args 0 (.ref h0 :: vs)) [] [(h0, .inr (ci, fs0))] 0 0) : CtM l D cy ad M ci fs0 vs mc ms Wf := by
  obtain ⟨g1, -, -, g5, g6, g7, g8⟩ := okC_e hok
  intro h0 sz
  refine Met.ofW (cc := M.2.1) (maxL := M.2.2.1) (ret := M.2.2.2.1) g6 rfl ?_
  intro p e s m args below meth c s₁ B hml hv
  obtain ⟨rfl, hsz, hP, hK, hO, hE⟩ := hv
  subst hsz
  have hx := B.exec
  have hb := B.bytes
  have hr := B.returns
  have hts := atoms_spec (ws := wsM M) B.pre
  have hown : s.vm.findClass M.1.cls = some m.cls := findClass_of_methodNamed B.named
  have hlocks := B.notSynchronized
  have hin : meth.name = "<init>" := (name_of_methodNamed B.named B.method).1.trans g7
  have C : Cy D cy ad (fre h0 s.heap.size) M.2.2.1 p s m ((.ref h0 :: vs).toArray) c M.1.cls M.2.1 := ⟨hx, hb, hml, hown, fun w hw => hts w (List.mem_cons_of_mem _ hw), hK, fun q h => Or.inr h, hO, hE⟩
  have hl := lv_entry (.ref h0 :: vs) (n := M.2.2.1) (hlen h0)
  rw [lg_entry_eq]
  generalize (lg_sl (.ref h0 :: vs) ++ List.replicate (M.2.2.1 - (lg_sl (.ref h0 :: vs)).length) Slot.unset).toArray = ls at hl ⊢
  have hD : va_D (fre h0 s.heap.size) [(h0, .inr (ci, fs0))] := ⟨fun i j p q h1 h2 _ => by
    have := (List.getElem?_eq_some_iff.mp h1).1
    have := (List.getElem?_eq_some_iff.mp h2).1
    simp only [List.length_cons, List.length_nil] at *
    omega, fun k q hk => by
    match k, hk with
    | 0, hk => cases hk; exact Or.inl rfl
    | k + 1, hk => simp at hk⟩
  refine h p e s m below meth c _ (fre h0 s.heap.size) h0 hin C (fun pc lv ws hd hw H locs ls hP hD hS hl => ?_) s.heap [] ls hP hD va_S.rf hl
  exact W.vret hx hb (hr.trans g8) (fun t ht hW => ⟨⟨ws, rfl, hw, by rw [ht]; exact hP, hD⟩, hS.F ht⟩) hS.2.2 hd
