theorem good_all {ws : List Jvm.Cond} (h : ∀ w ∈ ws, w ∈ tg) : GoodIn tg ws := fun w hw => tg_good w (h w hw)
theorem okM_e {M : MI} (h : okM M = true) : Jvm.Cond.code M.1 M.2.1 M.2.2.1 M.2.2.2.1 ∈ tg ∧ (M.2.2.2.2.2.2.2.1 = true → Jvm.Cond.static M.1 ∈ tg) ∧ (M.2.2.2.2.2.2.2.1 = false → Jvm.Cond.instanceMethod M.1 ∈ tg ∧ Jvm.Cond.selects M.1.cls M.1 M.1 ∈ tg) ∧ Jvm.Cond.initialized M.1.cls ∈ tg ∧ (M.1.cls ≠ "java/lang/invoke/MethodHandle" ∧ M.1.cls ≠ "java/lang/invoke/VarHandle" ∧ (parseMethodDescriptor M.1.desc).map (fun d => d.parameters.length) = some M.2.2.2.2.1) ∧ plainName M.1.cls = true := by
  obtain ⟨y, b, mL, r, n, fr, lc, stt, p1, p2, p3, p4⟩ := M
  simp only [okM, Bool.and_eq_true, decide_eq_true_eq] at h
  obtain ⟨⟨⟨⟨⟨⟨h1, h2⟩, h3⟩, h4⟩, h5⟩, h6⟩, h7⟩ := h
  refine ⟨atW_in h1, fun hs => ?_, fun hs => ?_, atW_in h3, ⟨h4, h5, h6⟩, h7⟩
  · simp only at hs
    subst hs
    simp only [if_true] at h2
    exact atW_in h2
  · simp only at hs
    subst hs
    simp only [Bool.false_eq_true, if_false, Bool.and_eq_true] at h2
    exact ⟨atW_in h2.1, atW_in h2.2⟩
theorem wsM_in {M : MI} (h : Jvm.Cond.code M.1 M.2.1 M.2.2.1 M.2.2.2.1 ∈ tg) : ∀ w ∈ wsM M, w ∈ tg := fun w hw => (List.mem_cons.mp hw).elim (fun q => by rw [q]; exact h) id
section SND3
variable {p : Program} {l : Launch} {e : Env} {R : Room} {s : State} {m : MethodId} {args : Array Value} {below : List Frame} {meth : Method} {c : Code} {cells slots : Nat} {Q : State → Prop}
variable {D : va_G} {cy : Nat → ClassId} {ad : Nat → Nat} {A : Nat → Prop} {nL : Nat} {own : String} {cc : ByteArray} {rt : Option FieldType} {S : Sp} {Rt : Rs}
variable {pc x1 x2 x3 x4 len : Nat} {zi : Int32} {zl : Int64} {lo : Lo} {st : List AV} {σ : St}
theorem Prec_at {av : List AV} {H : Heap} {locs : List Loc} (hK : va_K D vwCl (tysOf cy) s) (hE : Ex ad A s s.heap) (hP : va_P D vwCl (WS cy ad σ) H) (hS : va_S A s.heap H locs) (U : State) (hU : U.heap = H) (hW : s.WarmedH U.vm) : Prec D cy ad A av σ (av.map (cv ad)).toArray U :=
  ⟨rfl, by rw [hU]; exact hP, va_K.moved hW.alike hK, by rw [hU]; exact (hE.kept (fun q h1 h2 => hS.2.1 q h1 h2)).warm hW⟩
theorem rcv_e {H : Heap} {locs : List Loc} (hK : va_K D vwCl (tysOf cy) s) (hE : Ex ad A s s.heap) (hP : va_P D vwCl (WS cy ad σ) H) (hS : va_S A s.heap H locs) {a : Nat} {C : String} (h : rcv a x4) (hC : (if x4 = 99 then C == "java/lang/String" else match vwCl[x4]? with
          | some q => q.1 == C
          | none => false) = true) : ∃ cellB : Cell, H[ad a]? = some cellB ∧ cellB.vm.isStatics = false ∧ s.vm.findClass C = some cellB.cls := by
  unfold rcv at h
  split at h
  · rename_i h9
    rw [if_pos h9] at hC
    have hC := eq_of_beq hC
    subst hC
    have := vk_recv (i := a - 200) hE.2.1 (by omega) hS
    simp only [show 200 + (a - 200) = a by omega] at this
    exact this
  · rename_i h9
    rw [if_neg h9] at hC
    split at hC
    · rename_i q hq
      have hC := eq_of_beq hC
      subst hC
      obtain ⟨c1, s1, t1, u1⟩ := oc_e h
      have he := WS_get (cy := cy) (ad := ad) (σ := σ) s1
      rw [cell0 t1, u1] at he
      exact va_recv hK hP hq he
    · cases hC
theorem snd_callV (C : Cx D cy ad A nL p R s m args c cells slots own cc) (hSp : SpH l D cy ad A S) {idx : Nat} (hdg : decode cc pc = .ok (.invokevirtual idx, 3)) {M : MI} (hM : mtab[x1]? = some M) (hok : okM M = true) (hlk : Jvm.Cond.methodLink own idx M.1 ∈ tg) (hn : M.2.2.2.2.1 = x2) (hst : M.2.2.2.2.2.2.2.1 = false) (hfr : M.2.2.2.2.2.1 + 1 ≤ R.frames) (hlc : 8 + (M.2.2.1 + 11) + M.2.2.2.2.2.2.1 ≤ R.locals) (hC : (if x4 = 99 then M.1.cls == "java/lang/String" else match vwCl[x4]? with
          | some q => q.1 == M.1.cls
          | none => false) = true) {a : Nat} {av t : List AV} (hav : av.length = x2) (hrc : rcv a x4) (hws : wsum t ≤ 8) {Φ : Rs} (hcall : S x1 (aR a :: av) σ Φ)
    (kk : ∀ r σ', Φ r σ' → Vd D cy ad A nL p l e R s m args below meth c cells slots Q (pc + 3) lo (r ++ t) σ') : Vd D cy ad A nL p l e R s m args below meth c cells slots Q pc lo (av.reverse ++ aR a :: t) σ := by
  obtain ⟨hx, hb, hml, hown, hts, hK, hAp, hE, hcs⟩ := C
  intro H locs ls hP hS hl
  obtain ⟨g1, -, g3, g4, g5, -⟩ := okM_e hok
  have hMet : Met l M.1 (wsM M) (rmM M) (Prec D cy ad A (aR a :: av) σ) (fun _ => Post D cy ad A Φ) 0 0 A := hSp _ _ _ _ _ hM hcall
  have hG : GoodIn tg (wsV own idx M.1.cls M.1 (wsM M)) := good_all (fun w hw => by
    rcases List.mem_append.mp hw with h | h
    · simp only [List.mem_cons, List.not_mem_nil, or_false] at h
      rcases h with rfl | rfl | rfl | rfl
      · exact hlk
      · exact (g3 hst).1
      · exact (g3 hst).2
      · exact g4
    · exact wsM_in g1 w h)
  have hcw : CallW R s args own M.1.cls idx M.1 M.2.1 M.2.2.1 M.2.2.2.1 (wsM M) (rmM M) 0 0 x2 := cwV x2 hts hG rfl rfl rfl ⟨rfl, g5.1, g5.2.1, by rw [← hn]; exact g5.2.2⟩ ⟨hfr, hlc⟩
  have hrun := va_runV (g := F0 m pc ls ((av.reverse ++ aR a :: t).map (cv ad))) (H := H) (locs := locs) (cells := cells) (slots := slots) (e := e) (below := below) (meth := meth) (As := av.map (cv ad)) (rest := t.map (cv ad)) ⟨hx, hb, hml, hown, hts⟩ hMet hcw ⟨Prec_blind, rcv_e hK hE hP hS hrc hC, Prec_at hK hE hP hS⟩ rfl (by rw [List.length_map]; exact hav) hl.1 (by simp [cv]) (by rw [wsum_e]; show 2 * 0 + wsum t ≤ 8; omega) hdg hcs
  exact x_run hrun hS hl kk
theorem snd_callS (C : Cx D cy ad A nL p R s m args c cells slots own cc) (hSp : SpH l D cy ad A S) {idx : Nat} (hdg : decode cc pc = .ok (.invokestatic idx, 3)) {M : MI} (hM : mtab[x1]? = some M) (hok : okM M = true) (hlk : Jvm.Cond.methodLink own idx M.1 ∈ tg ∨ ∃ f ∈ nestM, f.1 = own ∧ f.2.1 = idx ∧ f.2.2.1 = M.1) (hn : M.2.2.2.2.1 = x2) (hst : M.2.2.2.2.2.2.2.1 = true) (hfr : M.2.2.2.2.2.1 + 1 ≤ R.frames) (hlc : 8 + (M.2.2.1 + 11) + M.2.2.2.2.2.2.1 ≤ R.locals) {av t : List AV} (hav : av.length = x2) (hws : wsum t ≤ 8) {Φ : Rs} (hcall : S x1 av σ Φ)
    (kk : ∀ r σ', Φ r σ' → Vd D cy ad A nL p l e R s m args below meth c cells slots Q (pc + 3) lo (r ++ t) σ') : Vd D cy ad A nL p l e R s m args below meth c cells slots Q pc lo (av.reverse ++ t) σ := by
  obtain ⟨hx, hb, hml, hown, hts, hK, hAp, hE, hcs⟩ := C
  intro H locs ls hP hS hl
  obtain ⟨g1, g2, -, g4, g5, -⟩ := okM_e hok
  have hMet : Met l M.1 (wsM M) (rmM M) (Prec D cy ad A av σ) (fun _ => Post D cy ad A Φ) 0 0 A := hSp _ _ _ _ _ hM hcall
  rcases hlk with hlk | ⟨f, hf, f1, f2, f3⟩
  · have hG : GoodIn tg (va_wsS own idx M.1 (wsM M)) := good_all (fun w hw => by
      rcases List.mem_append.mp hw with h | h
      · simp only [List.mem_cons, List.not_mem_nil, or_false] at h
        rcases h with rfl | rfl | rfl
        · exact hlk
        · exact g2 hst
        · exact g4
      · exact wsM_in g1 w h)
    have hcw := va_cwS (R := R) (s := s) (args := args) (own := own) (index := idx) (y := M.1) (bytes := M.2.1) (maxL := M.2.2.1) (ret := M.2.2.2.1) (ws := wsM M) (rm := rmM M) (mc := 0) (ms := 0) x2 hts hG rfl rfl rfl ⟨g5.1, g5.2.1, by rw [← hn]; exact g5.2.2⟩ ⟨hfr, hlc⟩
    have hrun := va_runS (g := F0 m pc ls ((av.reverse ++ t).map (cv ad))) (H := H) (locs := locs) (cells := cells) (slots := slots) (e := e) (below := below) (meth := meth) (As := av.map (cv ad)) (rest := t.map (cv ad)) ⟨hx, hb, hml, hown, hts⟩ hMet hcw ⟨Prec_blind, Prec_at hK hE hP hS⟩ rfl (by rw [List.length_map]; exact hav) hl.1 (by simp) (by rw [wsum_e]; show 2 * 0 + wsum t ≤ 8; omega) hdg hcs
    exact x_run hrun hS hl kk
  · have hnw := hE.2.2.2.2.1 f hf
    rw [f1, f2, f3] at hnw
    have hcn := va_cnB (R := R) (s := s) (args := args) (own := own) (host := f.2.2.2) (index := idx) (y := M.1) (bytes := M.2.1) (maxL := M.2.2.1) (ret := M.2.2.2.1) (ws := wsM M) (rm := rmM M) (mc := 0) (ms := 0) x2 hts (good_all (wsM_in g1)) rfl rfl rfl hnw (hts _ g4) ⟨g5.1, g5.2.1, by rw [← hn]; exact g5.2.2⟩ ⟨hfr, hlc⟩
    have hrun := va_runSN (g := F0 m pc ls ((av.reverse ++ t).map (cv ad))) (H := H) (locs := locs) (cells := cells) (slots := slots) (e := e) (below := below) (meth := meth) (As := av.map (cv ad)) (rest := t.map (cv ad)) ⟨hx, hb, hml, hown, hts⟩ hMet ⟨hcn, hts _ (g2 hst), trivial⟩ ⟨Prec_blind, Prec_at hK hE hP hS⟩ rfl (by rw [List.length_map]; exact hav) hl.1 (by simp) (by rw [wsum_e]; show 2 * 0 + wsum t ≤ 8; omega) hdg hcs
    exact x_run hrun hS hl kk
theorem snd_br (C : Cx D cy ad A nL p R s m args c cells slots own cc) {cd : ClassFile.Cond} {off : Int} (hdg : decode cc pc = .ok (.if_icmp cd off, 3)) (ht : (pc : Int) + off = (x1 : Int)) {x y : Int32} {t : List AV} (h : br cd x y (Vd D cy ad A nL p l e R s m args below meth c cells slots Q x1 lo t σ) (Vd D cy ad A nL p l e R s m args below meth c cells slots Q (pc + 3) lo t σ)) : Vd D cy ad A nL p l e R s m args below meth c cells slots Q pc lo (aI y :: aI x :: t) σ := by
  obtain ⟨hx, hb, -⟩ := C
  intro H locs ls hP hS hl
  cases cd with
  | eq => exact lv_icmp_eq hx hb hdg ht (fun q => h.1 q H locs ls hP hS hl) (fun q => h.2 q H locs ls hP hS hl)
  | ne => exact lv_icmp_ne hx hb hdg ht (fun q => h.1 q H locs ls hP hS hl) (fun q => h.2 q H locs ls hP hS hl)
  | lt => exact lv_icmp_lt hx hb hdg ht (fun q => h.1 q H locs ls hP hS hl) (fun q => h.2 q H locs ls hP hS hl)
  | ge => exact lv_icmp_ge hx hb hdg ht (fun q => h.1 q H locs ls hP hS hl) (fun q => h.2 q H locs ls hP hS hl)
  | gt => exact lv_icmp_gt hx hb hdg ht (fun q => h.1 q H locs ls hP hS hl) (fun q => h.2 q H locs ls hP hS hl)
  | le => exact lv_icmp_le hx hb hdg ht (fun q => h.1 q H locs ls hP hS hl) (fun q => h.2 q H locs ls hP hS hl)
theorem snd_br0 (C : Cx D cy ad A nL p R s m args c cells slots own cc) {cd : ClassFile.Cond} {off : Int} (hdg : decode cc pc = .ok (.ifCond cd off, 3)) (ht : (pc : Int) + off = (x1 : Int)) {x : Int32} {t : List AV} (h : br cd x 0 (Vd D cy ad A nL p l e R s m args below meth c cells slots Q x1 lo t σ) (Vd D cy ad A nL p l e R s m args below meth c cells slots Q (pc + 3) lo t σ)) : Vd D cy ad A nL p l e R s m args below meth c cells slots Q pc lo (aI x :: t) σ := by
  obtain ⟨hx, hb, -⟩ := C
  intro H locs ls hP hS hl
  cases cd with
  | eq => exact lv_if_eq hx hb hdg ht (fun q => h.1 q H locs ls hP hS hl) (fun q => h.2 q H locs ls hP hS hl)
  | ne => exact lv_if_ne hx hb hdg ht (fun q => h.1 q H locs ls hP hS hl) (fun q => h.2 q H locs ls hP hS hl)
  | lt => exact lv_if_lt hx hb hdg ht (fun q => h.1 q H locs ls hP hS hl) (fun q => h.2 q H locs ls hP hS hl)
  | ge => exact lv_if_ge hx hb hdg ht (fun q => h.1 q H locs ls hP hS hl) (fun q => h.2 q H locs ls hP hS hl)
  | gt => exact lv_if_gt hx hb hdg ht (fun q => h.1 q H locs ls hP hS hl) (fun q => h.2 q H locs ls hP hS hl)
  | le => exact lv_if_le hx hb hdg ht (fun q => h.1 q H locs ls hP hS hl) (fun q => h.2 q H locs ls hP hS hl)
theorem snd_tab (C : Cx D cy ad A nL p R s m args c cells slots own cc) {d a b : Int} {os : Array Int} (hdg : decode cc pc = .ok (.tableswitch d a b os, len)) (h0 : (pc : Int) + d = (x1 : Int)) (h2 : (os.size : Int) = b - a + 1) {ks : List (Int32 × Nat)} (h3 : ks.map (fun q => q.1.toInt) = (List.range os.size).map (fun (j : Nat) => a + (j : Int))) (h4 : ks.map (fun q => (q.2 : Int)) = os.toList.map (fun o => (pc : Int) + o)) {x : Int32} {t : List AV} (k2 : sw (fun q => Vd D cy ad A nL p l e R s m args below meth c cells slots Q q lo t σ) x x1 ks) : Vd D cy ad A nL p l e R s m args below meth c cells slots Q pc lo (aI x :: t) σ := by
  obtain ⟨hx, hb, -⟩ := C
  intro H locs ls hP hS hl
  have hlen : ks.length = os.size := by have := congrArg List.length h3; simpa using this
  have key : ∀ (j : Nat) (q : Int32 × Nat), ks[j]? = some q → q.1.toInt = a + (j : Int) := by
    intro j q hq
    have h5 : (ks.map (fun q => q.1.toInt))[j]? = some q.1.toInt := by rw [List.getElem?_map, hq]; rfl
    have hj : j < os.size := by rw [← hlen]; exact (List.getElem?_eq_some_iff.mp hq).1
    rw [h3, List.getElem?_map, List.getElem?_range hj] at h5
    exact (Option.some.inj h5).symm
  by_cases hr : x.toInt < a ∨ b < x.toInt
  · refine lv_tableOut hx hb hdg hr h0 ((sw_e k2).2 (fun q hq he => ?_) H locs ls hP hS hl)
    obtain ⟨j, hj⟩ := List.getElem?_of_mem hq
    have h5 := key j q hj
    have hj2 : j < os.size := by rw [← hlen]; exact (List.getElem?_eq_some_iff.mp hj).1
    rw [← he] at h5
    omega
  · have hlt : (x.toInt - a).toNat < os.size := by omega
    have ho : os[(x.toInt - a).toNat]? = some os[(x.toInt - a).toNat] := Array.getElem?_eq_getElem hlt
    have hk : (x.toInt - a).toNat < ks.length := by omega
    have hq : ks[(x.toInt - a).toNat]? = some ks[(x.toInt - a).toNat] := List.getElem?_eq_getElem hk
    have h5 := key _ _ hq
    have hxe : x = ks[(x.toInt - a).toNat].1 := by apply Int32.toInt_inj.mp; omega
    have ht : (pc : Int) + os[(x.toInt - a).toNat] = ((ks[(x.toInt - a).toNat].2 : Nat) : Int) := by
      have h6 : (ks.map (fun q => (q.2 : Int)))[(x.toInt - a).toNat]? = some ((ks[(x.toInt - a).toNat].2 : Nat) : Int) := by rw [List.getElem?_map, hq]; rfl
      rw [h4, List.getElem?_map, Array.getElem?_toList, ho] at h6
      exact Option.some.inj h6
    exact lv_tableIn hx hb hdg (fun q => hr (Or.inl q)) (fun q => hr (Or.inr q)) ho ht ((sw_e k2).1 _ _ hq hxe (fun i r hi hr2 he => by
      have h7 := key i r hr2
      rw [← he] at h7
      omega) H locs ls hP hS hl)
theorem sw_off {pc : Nat} {k : Nat → Prop} {x : Int32} {d : Int} (h0 : (pc : Int) + d = (x1 : Int)) : ∀ {ps : List (Int × Int)} {ks : List (Int32 × Nat)}, ks.map (fun q => q.1.toInt) = ps.map (fun o => o.1) → ks.map (fun q => (q.2 : Int)) = ps.map (fun o => (pc : Int) + o.2) → sw k x x1 ks → ∃ tgt : Nat, (pc : Int) + Op.lookupswitch.offset ps d x.toInt = (tgt : Int) ∧ k tgt
  | [], [], _, _, h => ⟨x1, h0, h⟩
  | [], _ :: _, h1, _, _ => by simp at h1
  | _ :: _, [], h1, _, _ => by simp at h1
  | (a, o) :: ps, q :: ks, h1, h2, h => by
    simp only [List.map_cons, List.cons.injEq] at h1 h2
    by_cases hx : x = q.1
    · refine ⟨q.2, ?_, h.1 hx⟩
      rw [Op.lookupswitch.offset_cons, if_pos (by rw [hx]; exact h1.1.symm)]
      exact h2.1.symm
    · obtain ⟨tgt, g1, g2⟩ := sw_off h0 h1.2 h2.2 (h.2 hx)
      refine ⟨tgt, ?_, g2⟩
      rw [Op.lookupswitch.offset_cons, if_neg (fun e => hx (Int32.toInt_inj.mp (by omega)))]
      exact g1
end SND3
