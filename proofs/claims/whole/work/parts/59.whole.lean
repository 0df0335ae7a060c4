/-! THE CLAIM OUT OF ONE WALK OF THE LAW'S BODY. Your part is whole_start (and what it stands on); all else here is the same for every law, but numbers. -/
def R_law : String := "BlastFaceLaw"
def lw_P (b : Addr) (xs : List Int32) (args : Array Value) (s : State) : Prop := args = #[.ref b] ∧ s.IntsAt b xs ∧ xs.length ≤ 3584 ∧ (Jvm.Cond.and given_1 narrow_1).before args s = true
def lw_Q (_ : Array Value) (s : State) (o : Outcome) (t : State) : Prop := o = .returned (some (.int 1)) ∧ Framed s o t [] 600000 7302250
def lw_Z (below : List Frame) (a : Array Value) (s : State) : State → Prop := fun t => ∃ o, t.status = .running ∧ Ended t below o ∧ lw_Q a s o t
/-- the law's own end, with 1 on the stack, nothing written that was there before, its room as the claim has it -/
theorem lw_ret {p : Program} {l : Launch} {e : Env} {s : State} {m : MethodId} {below : List Frame} {meth : Method} {c : Code} {b : Nat} (hx : p.tables.exec = Jvm.exec) (hb : c.code = code) (hr : meth.sig.returnType = ret) (hlocks : meth.locks = false) {pc : Nat} {H : Heap} {ls : Array Slot} (hdg : decode code pc = .ok (.ireturn, 1)) : W p l e room_1 s m #[Value.ref b] below meth c H [] 600000 7302250 (lw_Z below #[Value.ref b] s) (F0 m pc ls [.int 1]) := by
  intro T hT X
  obtain ⟨fs, hret, hrun, hended, hW, hframe⟩ := X.leave (v := some (.int 1)) (hlocks := hlocks) (fun h => by rw [hr] at h; cases h)
  have hmeth' : T.vm.method? m = some meth := X.method'
  refine ⟨T.setFrames fs, ?_, .returned (some (.int 1)), hrun, hended, rfl, ⟨_, rfl⟩, hW, hframe⟩
  jvm_step X.here [X.here.top, hx, hb, hdg, hmeth', hr, ret, narrow_b1]
  (try refine ⟨rfl, ?_⟩); (try refine ⟨rfl, ?_⟩)
  first | (intro acts; rw [hret _ acts rfl rfl rfl]) | rw [hret _ _ rfl rfl rfl]
  exact Steps.refl _
/-- what holds at the law's entry: the machine, the code, the tables' words (any of lw_tbl by 'hts w (by decide +kernel)'), the script of L ints xs at the cell b, what the Statement gives of the start (any of its parts by flat_of_before) -/
def lw_At (p : Program) (s : State) (m : MethodId) (meth : Method) (c : Code) (b L : Nat) (xs : Nat → Int32) : Prop :=
  p.tables.exec = Jvm.exec ∧ c.code = code ∧ meth.sig.returnType = ret ∧ c.maxLocals = 4 ∧ s.vm.findClass R_law = some m.cls ∧ (∀ w ∈ lw_tbl, w.before #[Value.ref b] s = true) ∧ va_X b L xs s s.heap ∧ b < s.heap.size ∧ meth.locks = false ∧ (Jvm.Cond.and given_1 narrow_1).before #[Value.ref b] s = true
theorem y_astore {p : Program} {l : Launch} {e : Env} {R : Room} {s : State} {m : MethodId} {args : Array Value} {below : List Frame} {meth : Method} {c : Code} {cells slots : Nat} {Q : State → Prop} {D : va_G} {cy : Nat → ClassId} {ad : Nat → Nat} {A : Nat → Prop} {nL : Nat} {own : String} {cc : ByteArray} {pc : Nat} {lv lv' : List (Nat × Value)} {st : List Value} {ws : va_W} (C : Cy D cy ad A nL p s m args c own cc) {k : Fin 4} {x : Nat} (hdg : decode cc pc = .ok (.astore_n k, 1)) (hn : (k : Nat) < nL) (hl2 : ((k : Nat), Value.ref x) :: lv.filter (fun q => !(q.1 == (k : Nat)) && !(q.1 + 1 == (k : Nat) && q.2.category == 2)) = lv') (kk : Vy D A nL p l e R s m args below meth c Q (pc + 1) lv' st ws cells slots) : Vy D A nL p l e R s m args below meth c Q pc lv (.ref x :: st) ws cells slots :=
  fun H locs ls hP hD hS hl => lv_astore_n C.1 C.2.1 hdg rfl hl hn hl2 (fun ls' hl' => kk H locs ls' hP hD hS hl')
theorem adF_ge {V : List Nat} {b : Nat} {ad0 : Nat → Nat} (k : Nat) : adF V b ad0 (100 + k) = ad0 (100 + k) := by
  have h1 : Nat.blt (100 + k) 68 = false := by
    cases h : Nat.blt (100 + k) 68 with
    | false => rfl
    | true => have := Nat.ble_eq.mp h; omega
  have h2 : Nat.beq (100 + k) 70 = false := by
    cases h : Nat.beq (100 + k) 70 with
    | false => rfl
    | true => have := Nat.eq_of_beq_eq_true h; omega
  unfold adF
  rw [h1, h2]
  rfl
set_option maxHeartbeats 4000000 in
set_option maxRecDepth 100000 in
/-- the loop, at the world that the two makings leave -/
theorem whole_loop {p : Program} {e : Env} {s : State} {m : MethodId} {below : List Frame} {meth : Method} {c : Code} (l : Launch) {b L : Nat} {xs : Nat → Int32} (hL : L ≤ 3584) (C0 : lw_At p s m meth c b L xs) {D : va_G} {cy : Nat → ClassId} {ad : Nat → Nat} (hAp : Apart ad (fun q => s.heap.size ≤ q)) (hE : Ex ad (fun q => s.heap.size ≤ q) s s.heap) (hK : va_K D vwCl (tysOf cy) s) (had : ad 70 = b) {cells slots : Nat} (hc : cells ≤ 600000) (hs : slots ≤ 7302250) : Vd D cy ad (fun q => s.heap.size ≤ q) 4 p l e room_1 s m #[Value.ref b] below meth c cells slots (lw_Z below #[Value.ref b] s) 16 [some (aR 70), some (aR 0), some (aR 49), none] [] sig0 := by
  obtain ⟨hx, hb, hr, hml, hown, hts, hX, hbl, hlocks, hgv⟩ := id C0
  have htg : ∀ w ∈ tg, w.before #[Value.ref b] s = true := fun w hw => hts w (List.mem_filter.mp hw).1
  have C : Cx D cy ad (fun q => s.heap.size ≤ q) 4 p room_1 s m #[Value.ref b] c cells slots "BlastFaceLaw" code := ⟨hx, hb, hml, hown, htg, hK, hAp, hE, hc, hs⟩
  have hR : RetH (some .boolean) code (fun r _ => r = [aI 1]) (Vd D cy ad (fun q => s.heap.size ≤ q) 4 p l e room_1 s m #[Value.ref b] below meth c cells slots (lw_Z below #[Value.ref b] s)) := by
    refine ⟨fun pc lo x σ hd _ hΦ => ?_, (fun pc lo x σ hd h _ => by cases h), fun pc lo a σ hd h _ => ?_, (fun pc lo σ hd h _ => by cases h)⟩
    · have hx1 : x = 1 := by
        have := hΦ
        simp at this
        exact this
      subst hx1
      intro H locs ls hP hS hl
      exact va_forget hS.2.2 (W.widen hc hs (lw_ret hx hb hr hlocks hd))
    · obtain ⟨ty, h1, h2⟩ := h
      cases h1
      rcases h2 with ⟨n, h⟩ | ⟨t, h⟩ <;> cases h
  have hv : ∀ kc ∈ kLs, Cl (Mt l D cy ad (fun q => s.heap.size ≤ q)) (fun r _ => r = [aI 1]) kc (Vd D cy ad (fun q => s.heap.size ≤ q) 4 p l e room_1 s m #[Value.ref b] below meth c cells slots (lw_Z below #[Value.ref b] s)) :=
    fun kc hkc en hen lo st σ h => sem_sound (fr := 13) (lc := 474) C spH_Mt hR (Nat.le_refl _) (Nat.le_refl _) (List.all_eq_true.mp (kL_ok kc hkc) en hen) h
  have hscr : ∀ kc ∈ kLs, Scr (fun j => (xs j).toInt) L kc (Vd D cy ad (fun q => s.heap.size ≤ q) 4 p l e room_1 s m #[Value.ref b] below meth c cells slots (lw_Z below #[Value.ref b] s)) := by
    intro kc hkc en hen hi j lo t σ hj kk H locs ls hP hS hl
    have hok := List.all_eq_true.mp (kL_ok kc hkc) en hen
    obtain ⟨pc, i, len, x1, x2, x3, x4, zi, zl, ks⟩ := en
    have hi : i = .iaload := hi
    subst hi
    simp only [okE, Bool.and_eq_true, decide_eq_true_eq, beq_iff_eq] at hok
    obtain ⟨hd, rfl⟩ := hok
    have k2 := kk H locs ls hP hS hl
    have e1 : (iI (j : Int)).toNatClampNeg = j := by rw [iI_tn (by omega)]; rfl
    have e2 : iI (xs j).toInt = xs j := Int32.ofInt_toInt (xs j)
    show W p l e room_1 s m #[Value.ref b] below meth c H locs cells slots _ (F0 m pc ls (.int (iI (j : Int)) :: .ref (ad 70) :: t.map (cv ad)))
    rw [had]
    refine va_sld hx hb hX hbl (Nat.not_le.mpr hbl) hS ((vp_iI (by omega)).mpr (by omega)) hd ?_
    rw [e1, ← e2]
    exact k2
  have hlen : ∀ lo σ t, Vd D cy ad (fun q => s.heap.size ≤ q) 4 p l e room_1 s m #[Value.ref b] below meth c cells slots (lw_Z below #[Value.ref b] s) 21 lo (aI (iI (L : Int)) :: t) σ → Vd D cy ad (fun q => s.heap.size ≤ q) 4 p l e room_1 s m #[Value.ref b] below meth c cells slots (lw_Z below #[Value.ref b] s) 20 lo (aR 70 :: t) σ := by
    intro lo σ t kk H locs ls hP hS hl
    have k2 := kk H locs ls hP hS hl
    show W p l e room_1 s m #[Value.ref b] below meth c H locs cells slots _ (F0 m 20 ls (.ref (ad 70) :: t.map (cv ad)))
    rw [had]
    exact va_slen hx hb hX hbl (Nat.not_le.mpr hbl) hS (by decide +kernel) k2
  have hz : ∀ j, -2147483648 ≤ (fun j => (xs j).toInt) j ∧ (fun j => (xs j).toInt) j < 2147483648 := fun j => ⟨by have := Int32.le_toInt (xs j); show _ ≤ (xs j).toInt; omega, by have := Int32.toInt_lt (xs j); show (xs j).toInt < _; omega⟩
  have h18 := law_loop (sys_Mt hAp) (sysT_Mt hAp) hz hv hscr hL hlen (fun σ => rfl) (L + 1) 0 sig0 (by omega) (by omega) ⟨A0, OKA0, JJ0⟩
  have hvh := hv _ List.mem_cons_self
  refine r_iconst hvh 0 rfl ?_
  exact r_istore_n hvh 1 rfl rfl h18
set_option maxHeartbeats 4000000 in
set_option maxRecDepth 100000 in
/-- from the entry, for every script of at most 3584 ints, the law comes to its end with true -/
theorem whole_start {p : Program} {e : Env} {s : State} {m : MethodId} {below : List Frame} {meth : Method} {c : Code} (l : Launch) (hflags : l.flags = flags0) {b L : Nat} {xs : Nat → Int32} (hL : L ≤ 3584) (C0 : lw_At p s m meth c b L xs) : W p l e room_1 s m #[Value.ref b] below meth c s.heap [] 0 0 (lw_Z below #[Value.ref b] s) (entryFrame m ([Value.ref b] : List Value).toArray 4) := by
  obtain ⟨hx, hb, hr, hml, hown, hts, hX, hbl, hlocks, hgv⟩ := id C0
  have hn : ∀ c ∈ nwL, c.before #[Value.ref b] s = true := fun c hc => flat_of_before _ hgv c (List.mem_append_right (flatC given_1) hc)
  obtain ⟨ad0, hE0⟩ := start_Ex hn hts
  obtain ⟨D, cy, hK, hO⟩ := start_K hts
  have htg : ∀ w ∈ tg, w.before #[Value.ref b] s = true := fun w hw => hts w (List.mem_filter.mp hw).1
  have CY : Cy D cy ad0 (fun q => s.heap.size ≤ q) 4 p s m #[Value.ref b] c "BlastFaceLaw" code := ⟨hx, hb, hml, hown, htg, hK, fun q h => h, hO, hE0⟩
  have hl := lv_entry ([.ref b]) (n := 4) (Nat.le_of_ble_eq_true rfl)
  rw [lg_entry_eq]
  generalize (lg_sl ([.ref b]) ++ List.replicate (4 - (lg_sl ([.ref b])).length) Slot.unset).toArray = ls at hl ⊢
  have hl : lv_has ls 4 [(0, .ref b)] := hl
  have main : Vy D (fun q => s.heap.size ≤ q) 4 p l e room_1 s m #[Value.ref b] below meth c (lw_Z below #[Value.ref b] s) 0 [(0, .ref b)] [] [] 0 0 := by
    refine y_new (pc := 0) (idx := 7) CY (fs := [.null, .null, .null, .null, .null, .null, .null, .null, .null, .null, .int 0, .int 0, .int 0, .int 0, .int 0]) (hc := (rfl : vwCl[7]? = some _)) tyX8 tyX8_ok (atW_in (i := 104) (by decide +kernel)) (atW_in (i := 105) (by decide +kernel)) (atW_in (i := 86) (by decide +kernel)) (by decide +kernel) (Nat.le_of_ble_eq_true rfl) (Nat.le_of_ble_eq_true rfl) (by decide +kernel) (fun x0 => ?_)
    refine y_dup (pc := 3) CY (by decide +kernel) ?_
    refine y_call (pc := 4) (idx := 9) CY (c_X8_init l D cy ad0) ok_X8_init (Or.inl (atW_in (i := 106) (by decide +kernel))) rfl (Nat.le_of_ble_eq_true rfl) (Nat.le_of_ble_eq_true rfl) (by decide +kernel) 0 (h0 := x0) rfl [] [] rfl (by decide) (by decide) (st := [.ref x0]) (Nat.le_of_ble_eq_true rfl) (Nat.le_of_ble_eq_true rfl) (Nat.le_of_ble_eq_true rfl) (fun w1 hw => ?_)
    obtain ⟨x1, x2, x3, x4, x5, x6, x7, x8, x9, x10, x11, x12, x13, x14, x15, x16, x17, x18, x19, x20, x21, x22, x23, x24, x25, x26, x27, x28, x29, x30, x31, x32, x33, x34, x35, x36, x37, x38, x39, x40, x41, x42, x43, x44, x45, x46, x47, x48, rfl⟩ := hw
    refine y_astore (pc := 7) CY (k := 1) (lv' := [(1, .ref x0), (0, .ref b)]) (by decide +kernel) (by decide) rfl ?_
    refine y_new (pc := 8) (idx := 10) CY (fs := [.null, .null, .null, .int 0, .int 0, .null, .null, .int 0, .int 0, .null, .null, .null, .int 0, .int 0, .int 0, .int 0, .int 0, .null, .int 0, .null, .int 0, .null, .null, .int 0, .int 0, .int 0, .int 0, .int 0, .null, .null, .int 0, .null, .null, .null, .null]) (hc := (rfl : vwCl[8]? = some _)) tyX9 tyX9_ok (atW_in (i := 1084) (by decide +kernel)) (atW_in (i := 1085) (by decide +kernel)) (atW_in (i := 95) (by decide +kernel)) (by decide +kernel) (Nat.le_of_ble_eq_true rfl) (Nat.le_of_ble_eq_true rfl) (by decide +kernel) (fun m0 => ?_)
    refine y_dup (pc := 11) CY (by decide +kernel) ?_
    refine y_call (pc := 12) (idx := 12) CY (c_X9_init l D cy ad0) ok_X9_init (Or.inl (atW_in (i := 1086) (by decide +kernel))) rfl (Nat.le_of_ble_eq_true rfl) (Nat.le_of_ble_eq_true rfl) (by decide +kernel) 49 (h0 := m0) rfl [0, 1, 2, 3, 4, 5, 6, 7, 8, 9, 10, 11, 12, 13, 14, 15, 16, 17, 18, 19, 20, 21, 22, 23, 24, 25, 26, 27, 28, 29, 30, 31, 32, 33, 34, 35, 36, 37, 38, 39, 40, 41, 42, 43, 44, 45, 46, 47, 48] [(x0, .inr (7, [.ref x1, .ref x5, .ref x9, .ref x13, .ref x20, .ref x27, .ref x34, .ref x36, .ref x41, .ref x48, .int 0, .int 0, .int 0, .int 0, .int 0])),
      (x1, .inr (1, [.ref x2, .ref x3, .ref x4, .int 0, .int 0, .int 0])),
      (x2, .inl (cy 1, 180, .inl zI0)),
      (x3, .inl (cy 1, 120, .inl zI0)),
      (x4, .inl (cy 1, 3, .inl fRul)),
      (x5, .inr (1, [.ref x6, .ref x7, .ref x8, .int 0, .int 0, .int 0])),
      (x6, .inl (cy 1, 180, .inl zI0)),
      (x7, .inl (cy 1, 120, .inl zI0)),
      (x8, .inl (cy 1, 3, .inl fRul)),
      (x9, .inr (1, [.ref x10, .ref x11, .ref x12, .int 0, .int 0, .int 0])),
      (x10, .inl (cy 1, 180, .inl zI0)),
      (x11, .inl (cy 1, 120, .inl zI0)),
      (x12, .inl (cy 1, 3, .inl fRul)),
      (x13, .inr (0, [.ref x1, .ref x14, .ref x15, .ref x16, .int 0, .int 0, .int 0])),
      (x14, .inl (cy 1, 20, .inl zI0)),
      (x15, .inl (cy 1, 20, .inl zI0)),
      (x16, .inr (6, [.ref x17, .ref x18, .ref x19, .int 0, .int 0, .int 0, .int 0])),
      (x17, .inl (cy 1, 40, .inl zI0)),
      (x18, .inl (cy 1, 40, .inl zI0)),
      (x19, .inl (cy 1, 40, .inl zI0)),
      (x20, .inr (0, [.ref x1, .ref x21, .ref x22, .ref x23, .int 0, .int 0, .int 0])),
      (x21, .inl (cy 1, 20, .inl zI0)),
      (x22, .inl (cy 1, 20, .inl zI0)),
      (x23, .inr (6, [.ref x24, .ref x25, .ref x26, .int 0, .int 0, .int 0, .int 0])),
      (x24, .inl (cy 1, 40, .inl zI0)),
      (x25, .inl (cy 1, 40, .inl zI0)),
      (x26, .inl (cy 1, 40, .inl zI0)),
      (x27, .inr (2, [.ref x1, .ref x13, .ref x28, .ref x29, .ref x30, .int 0, .int 0, .int 0])),
      (x28, .inl (cy 1, 20, .inl zI0)),
      (x29, .inl (cy 1, 20, .inl zI0)),
      (x30, .inr (6, [.ref x31, .ref x32, .ref x33, .int 0, .int 0, .int 0, .int 0])),
      (x31, .inl (cy 1, 40, .inl zI0)),
      (x32, .inl (cy 1, 40, .inl zI0)),
      (x33, .inl (cy 1, 40, .inl zI0)),
      (x34, .inr (4, [.ref x35, .int 0])),
      (x35, .inl (cy 2, 1239, .inl zI0)),
      (x36, .inr (3, [.ref x37, .int 0, .int 0, .ref x38, .ref x39, .ref x40, .int 0, .int 0, .int 0])),
      (x37, .inl (cy 2, 80, .inl zI0)),
      (x38, .inl (cy 1, 13, .inl zI0)),
      (x39, .inl (cy 1, 13, .inl zI0)),
      (x40, .inl (cy 1, 78, .inl zI0)),
      (x41, .inr (5, [.ref x42, .ref x47])),
      (x42, .inl (cy 5, 4, .inr (.inr (.inr (.inr (fun i => ([some x43, some x44, some x45, some x46] : List (Option Nat)).getD i none)))))),
      (x43, .inl (cy 4, 40, .inr (.inl zJ0))),
      (x44, .inl (cy 4, 40, .inr (.inl zJ0))),
      (x45, .inl (cy 4, 40, .inr (.inl zJ0))),
      (x46, .inl (cy 4, 40, .inr (.inl zJ0))),
      (x47, .inl (cy 1, 4, .inl fX6_6)),
      (x48, .inl (cy 1, 40, .inl zI0))] rfl (by decide) (by decide) (st := [.ref m0]) (Nat.le_of_ble_eq_true rfl) (Nat.le_of_ble_eq_true rfl) (Nat.le_of_ble_eq_true rfl) (fun w1 hw => ?_)
    obtain ⟨m1, m2, m3, m4, m5, m6, m7, m8, m9, m10, m11, m12, m13, m14, m15, m16, m17, m18, rfl⟩ := hw
    refine y_astore (pc := 15) CY (k := 2) (lv' := [(2, .ref m0), (1, .ref x0), (0, .ref b)]) (by decide +kernel) (by decide) rfl ?_
    intro H locs ls hP hD hS hl
    have hP : va_P D vwCl (ws0 cy x0 x1 x2 x3 x4 x5 x6 x7 x8 x9 x10 x11 x12 x13 x14 x15 x16 x17 x18 x19 x20 x21 x22 x23 x24 x25 x26 x27 x28 x29 x30 x31 x32 x33 x34 x35 x36 x37 x38 x39 x40 x41 x42 x43 x44 x45 x46 x47 x48 m0 m1 m2 m3 m4 m5 m6 m7 m8 m9 m10 m11 m12 m13 m14 m15 m16 m17 m18) H := hP
    have hD : va_D (fun q => s.heap.size ≤ q) (ws0 cy x0 x1 x2 x3 x4 x5 x6 x7 x8 x9 x10 x11 x12 x13 x14 x15 x16 x17 x18 x19 x20 x21 x22 x23 x24 x25 x26 x27 x28 x29 x30 x31 x32 x33 x34 x35 x36 x37 x38 x39 x40 x41 x42 x43 x44 x45 x46 x47 x48 m0 m1 m2 m3 m4 m5 m6 m7 m8 m9 m10 m11 m12 m13 m14 m15 m16 m17 m18) := hD
    exact whole_loop l hL C0 (ws0_D (b := b) (ad0 := ad0) hD) (hE0.congr (fun k => adF_ge k)) hK rfl (Nat.le_of_ble_eq_true rfl) (Nat.le_of_ble_eq_true rfl) H locs ls (ws0_P (b := b) (ad0 := ad0) hP) hS (lv_sub hl [2, 1, 0] rfl)
  exact main s.heap [] ls (fun k q h => by simp at h) ⟨fun i j p q h => by simp at h, fun k q h => by simp at h⟩ va_S.rf hl
