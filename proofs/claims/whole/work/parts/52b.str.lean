/-! a method over given values; the strings' own methods -/
def PrecV (D : va_G) (cy : Nat → ClassId) (ad : Nat → Nat) (A : Nat → Prop) (vs : List Value) (σ : St) : Array Value → State → Prop :=
  va_Pc vs (fun U => va_P D vwCl (WS cy ad σ) U.heap ∧ va_K D vwCl (tysOf cy) U ∧ Ex ad A U U.heap)
theorem PrecV_blind {D : va_G} {cy : Nat → ClassId} {ad : Nat → Nat} {A : Nat → Prop} {vs : List Value} {σ : St} : FrameBlind (PrecV D cy ad A vs σ) := by
  intro a U g mk q
  obtain ⟨q0, qP, qK, qE⟩ := q
  exact ⟨q0, qP, va_K.moved (u := U) (U := U.calling g mk a) (Vm.Alike.refl U.vm) qK, qE.calling⟩
theorem PrecV_at {D : va_G} {cy : Nat → ClassId} {ad : Nat → Nat} {A : Nat → Prop} {s : State} {σ : St} {vs : List Value} {H : Heap} {locs : List Loc} (hK : va_K D vwCl (tysOf cy) s) (hE : Ex ad A s s.heap) (hP : va_P D vwCl (WS cy ad σ) H) (hS : va_S A s.heap H locs) (U : State) (hU : U.heap = H) (hW : s.WarmedH U.vm) : PrecV D cy ad A vs σ vs.toArray U :=
  ⟨rfl, by rw [hU]; exact hP, va_K.moved hW.alike hK, by rw [hU]; exact (hE.kept (fun q h1 h2 => hS.2.1 q h1 h2)).warm hW⟩
def RetV (D : va_G) (cy : Nat → ClassId) (ad : Nat → Nat) (A : Nat → Prop) (M : MI) (p : Program) (l : Launch) (e : Env) (s : State) (m : MethodId) (args : Array Value) (below : List Frame) (meth : Method) (c : Code) (Q : State → Prop) (Φ : Rs) (σ : St) : Prop :=
  (∀ pc x, decode M.2.1 pc = .ok (.ireturn, 1) → (∃ ty, M.2.2.2.1 = some ty ∧ narrow ty (.int x) = .int x) → Φ [aI x] σ → ∀ (H : Heap) (locs : List Loc) (ls : Array Slot), va_P D vwCl (WS cy ad σ) H → va_S A s.heap H locs → W p l e (rmM M) s m args below meth c H locs 0 0 Q (F0 m pc ls [.int x]))
  ∧ (∀ pc, decode M.2.1 pc = .ok (.return_, 1) → M.2.2.2.1 = none → Φ [] σ → ∀ (H : Heap) (locs : List Loc) (ls : Array Slot), va_P D vwCl (WS cy ad σ) H → va_S A s.heap H locs → W p l e (rmM M) s m args below meth c H locs 0 0 Q (F0 m pc ls []))
set_option maxHeartbeats 1000000 in
theorem met_ofV {l : Launch} {D : va_G} {cy : Nat → ClassId} {ad : Nat → Nat} {A : Nat → Prop} {M : MI} (hokM : okM M = true) (hAp : Apart ad A) {vs : List Value} {σ : St} {Φ : Rs} (hlen : (lg_sl vs).length ≤ M.2.2.1)
    (h : ∀ (p : Program) (e : Env) (s : State) (m : MethodId) (below : List Frame) (meth : Method) (c : Code) (Q : State → Prop), Cx D cy ad A M.2.2.1 p (rmM M) s m vs.toArray c 0 0 M.1.cls M.2.1 → RetV D cy ad A M p l e s m vs.toArray below meth c Q Φ σ → ∀ (H : Heap) (locs : List Loc) (ls : Array Slot), va_P D vwCl (WS cy ad σ) H → va_S A s.heap H locs → lv_has ls M.2.2.1 (lv_args 0 vs) → W p l e (rmM M) s m vs.toArray below meth c H locs 0 0 Q (F0 m 0 ls [])) : Met l M.1 (wsM M) (rmM M) (PrecV D cy ad A vs σ) (fun _ => Post D cy ad A Φ) 0 0 A := by
  obtain ⟨g1, -, -, g4, g5, g6⟩ := okM_e hokM
  refine Met.ofW (cc := M.2.1) (maxL := M.2.2.1) (ret := M.2.2.2.1) g6 rfl ?_
  intro p e s m args below meth c s₁ B hml hv
  obtain ⟨rfl, hP, hK, hE⟩ := hv
  have hx := B.exec
  have hb := B.bytes
  have hr := B.returns
  have hts := atoms_spec (ws := wsM M) B.pre
  have hown : s.vm.findClass M.1.cls = some m.cls := findClass_of_methodNamed B.named
  have hlocks := B.notSynchronized
  have C : Cx D cy ad A M.2.2.1 p (rmM M) s m vs.toArray c 0 0 M.1.cls M.2.1 := ⟨hx, hb, hml, hown, fun w hw => hts w (List.mem_cons_of_mem _ hw), hK, hAp, hE, Nat.le_refl _, Nat.le_refl _⟩
  have hl := lv_entry vs (n := M.2.2.1) hlen
  rw [lg_entry_eq]
  generalize (lg_sl vs ++ List.replicate (M.2.2.1 - (lg_sl vs).length) Slot.unset).toArray = ls at hl ⊢
  have hR : RetV D cy ad A M p l e s m vs.toArray below meth c (MQ below (fun _ => Post D cy ad A Φ) vs.toArray s 0 0 A) Φ σ := by
    refine ⟨fun pc x hd ⟨ty, h1, h2⟩ hΦ H locs ls hP hS => ?_, fun pc hd h1 hΦ H locs ls hP hS => ?_⟩
    · exact W.zret hx hb (hr.trans h1) h2 (fun t ht hW => ⟨⟨[aI x], σ, by simp, rfl, hΦ, by rw [ht]; exact hP⟩, hS.F ht⟩) hS.2.2 hd
    · exact W.vret hx hb (hr.trans h1) (fun t ht hW => ⟨⟨[], σ, by simp, rfl, hΦ, by rw [ht]; exact hP⟩, hS.F ht⟩) hS.2.2 hd
  exact h p e s m below meth c _ C hR s.heap [] ls hP va_S.rf hl
theorem mt242 : mtab[242]? = some M_J0_length_8abf5 := rfl
theorem mt243 : mtab[243]? = some M_J0_charAt_5068e := rfl
theorem mt244 : mtab[244]? = some M_J0_coder_7d493 := rfl
theorem mt245 : mtab[245]? = some M_J0_isLatin1_aae02 := rfl
theorem mt246 : mtab[246]? = some M_J0_checkIndex_df160 := rfl
theorem mt247 : mtab[247]? = some M_J1_charAt_3b067 := rfl
theorem mok242 : okM M_J0_length_8abf5 = true := by decide +kernel
theorem mok243 : okM M_J0_charAt_5068e = true := by decide +kernel
theorem mok244 : okM M_J0_coder_7d493 = true := by decide +kernel
theorem mok245 : okM M_J0_isLatin1_aae02 = true := by decide +kernel
theorem mok246 : okM M_J0_checkIndex_df160 = true := by decide +kernel
theorem mok247 : okM M_J1_charAt_3b067 = true := by decide +kernel
theorem mok250 : okM M_J3_checkIndex_8e157 = true := by decide +kernel
theorem sw335 : Jvm.Cond.methodLink "java/lang/String" 335 M_J0_coder_7d493.1 ∈ tg := atW_in (i := 846) (by decide +kernel)
theorem sw492 : Jvm.Cond.methodLink "java/lang/String" 492 M_J0_isLatin1_aae02.1 ∈ tg := atW_in (i := 856) (by decide +kernel)
theorem sw495 : Jvm.Cond.methodLink "java/lang/String" 495 M_J1_charAt_3b067.1 ∈ tg := atW_in (i := 860) (by decide +kernel)
theorem sw9 : Jvm.Cond.methodLink "java/lang/StringLatin1" 9 M_J0_checkIndex_df160.1 ∈ tg := atW_in (i := 863) (by decide +kernel)
theorem sw1059 : Jvm.Cond.methodLink "java/lang/String" 1059 M_J3_checkIndex_8e157.1 ∈ tg := atW_in (i := 868) (by decide +kernel)
theorem sf38 : Jvm.Cond.fieldLink "java/lang/String" 38 "java/lang/String" "COMPACT_STRINGS" "Z" ∈ tg := atW_in (i := 850) (by decide +kernel)
theorem sf1053 : Jvm.Cond.fieldLink "java/lang/String" 1053 "jdk/internal/util/Preconditions" "SIOOBE_FORMATTER" "Ljava/util/function/BiFunction;" ∈ tg := atW_in (i := 866) (by decide +kernel)
theorem sf9 : Jvm.Cond.fieldLink "java/lang/String" 9 "java/lang/String" "value" "[B" ∈ tg := atW_in (i := 1593) (by decide +kernel)
theorem sf15 : Jvm.Cond.fieldLink "java/lang/String" 15 "java/lang/String" "coder" "B" ∈ tg := atW_in (i := 1594) (by decide +kernel)
section STRM
variable {l : Launch} {D : va_G} {cy : Nat → ClassId} {ad : Nat → Nat} {A : Nat → Prop} {σ : St} {Φ : Rs}
theorem spH_Mt : SpH l D cy ad A (Mt l D cy ad A) := fun q av σ Φ M hM hS => hS M hM
theorem j_coder (hAp : Apart ad A) {i : Nat} (hi : i < strN) (hk : Φ [aI 0] σ) : Mt l D cy ad A 244 [aR (200 + i)] σ Φ := by
  intro M hM
  obtain rfl : M_J0_coder_7d493 = M := Option.some.inj (mt244.symm.trans hM)
  show Met l _ (wsM _) (rmM _) (PrecV D cy ad A [.ref (ad (200 + i))] σ) _ 0 0 A
  refine met_ofV mok244 hAp (Nat.le_of_ble_eq_true rfl) (fun p e s m below meth c Q C R H locs ls hP hS hl => ?_)
  obtain ⟨hx, hb, hml, hown, hts, hK, -, hE, hcs⟩ := C
  have hl : lv_has ls 1 [(0, .ref (ad (200 + i)))] := hl
  refine va_gets hx hb hE.2.2.2.2.2.1 hS hown (hts _ sf38) (fun x h => h) (index := 38) (by decide +kernel) ?_
  refine lv_if_eq (off := 10) (tgt := 13) hx hb (by decide +kernel) (by decide) (fun h => absurd h (by decide)) (fun _ => ?_)
  refine lv_aload_n (k := 0) hx hb (by decide +kernel) rfl (lv_at hl 0 rfl) ?_
  refine vk_getf (index := 15) hx hb (hE.2.1.1 i hi).2.1 hS hown (hts _ sf15) (fun x h => h) (by decide +kernel) ?_
  refine lv_goto (off := 4) (tgt := 14) hx hb (by decide +kernel) (by decide) ?_
  exact R.1 14 0 (by decide +kernel) ⟨_, rfl, rfl⟩ hk H locs ls hP hS
theorem j_isLatin1 (hAp : Apart ad A) {i : Nat} (hi : i < strN) (hk : Φ [aI 1] σ) : Mt l D cy ad A 245 [aR (200 + i)] σ Φ := by
  intro M hM
  obtain rfl : M_J0_isLatin1_aae02 = M := Option.some.inj (mt245.symm.trans hM)
  show Met l _ (wsM _) (rmM _) (PrecV D cy ad A [.ref (ad (200 + i))] σ) _ 0 0 A
  refine met_ofV mok245 hAp (Nat.le_of_ble_eq_true rfl) (fun p e s m below meth c Q C R H locs ls hP hS hl => ?_)
  obtain ⟨hx, hb, hml, hown, hts, hK, -, hE, hcs⟩ := C
  have hl : lv_has ls 1 [(0, .ref (ad (200 + i)))] := hl
  refine va_gets hx hb hE.2.2.2.2.2.1 hS hown (hts _ sf38) (fun x h => h) (index := 38) (by decide +kernel) ?_
  refine lv_if_eq (off := 14) (tgt := 17) hx hb (by decide +kernel) (by decide) (fun h => absurd h (by decide)) (fun _ => ?_)
  refine lv_aload_n (k := 0) hx hb (by decide +kernel) rfl (lv_at hl 0 rfl) ?_
  refine vk_getf (index := 15) hx hb (hE.2.1.1 i hi).2.1 hS hown (hts _ sf15) (fun x h => h) (by decide +kernel) ?_
  refine lv_if_ne (off := 7) (tgt := 17) hx hb (by decide +kernel) (by decide) (fun h => absurd rfl h) (fun _ => ?_)
  refine lv_iconst (v := 1) hx hb (n := 1) (by decide +kernel) (by decide) ?_
  refine lv_goto (off := 4) (tgt := 18) hx hb (by decide +kernel) (by decide) ?_
  exact R.1 18 1 (by decide +kernel) ⟨_, rfl, rfl⟩ hk H locs ls hP hS
theorem str_len : ∀ i, i < 15 → Int32.ofNat (strLen.getD i 0) >>> ((0 : Int32) &&& 31) = iI (((sb (200 + i)).length : Nat) : Int) := by decide +kernel
theorem str_len2 : ∀ i, i < 15 → strLen.getD i 0 = (sb (200 + i)).length ∧ strLen.getD i 0 < 100 := by decide +kernel
theorem str_byt : ∀ i, i < 15 → ∀ j, j < strLen.getD i 0 → ((((strByt.getD i []).getD j 0 &&& 255).toUInt32 % 65536).toInt32) = iI ((sb (200 + i))[j]?.getD 0) ∧ (0 ≤ (sb (200 + i))[j]?.getD 0 ∧ (sb (200 + i))[j]?.getD 0 < 256) := by decide +kernel
theorem j_length (hAp : Apart ad A) {i : Nat} (hi : i < strN) (hk : Φ [aI (iI (((sb (200 + i)).length : Nat) : Int))] σ) : Mt l D cy ad A 242 [aR (200 + i)] σ Φ := by
  intro M hM
  obtain rfl : M_J0_length_8abf5 = M := Option.some.inj (mt242.symm.trans hM)
  show Met l _ (wsM _) (rmM _) (PrecV D cy ad A [.ref (ad (200 + i))] σ) _ 0 0 A
  refine met_ofV mok242 hAp (Nat.le_of_ble_eq_true rfl) (fun p e s m below meth c Q C R H locs ls hP hS hl => ?_)
  have C0 := C
  obtain ⟨hx, hb, hml, hown, hts, hK, -, hE, hcs⟩ := C
  have hl0 : lv_has ls 1 (prs ad 0 [some (aR (200 + i))]) := hl
  have hl : lv_has ls 1 [(0, .ref (ad (200 + i)))] := hl
  refine lv_aload_n (k := 0) hx hb (by decide +kernel) rfl (lv_at hl 0 rfl) ?_
  refine vk_getf (index := 9) hx hb (hE.2.1.1 i hi).2.2.1 hS hown (hts _ sf9) (fun x h => h) (by decide +kernel) ?_
  refine va_tlen hx hb (hE.2.1.1 i hi).2.2.2 hS rfl (by decide +kernel) ?_
  refine lv_aload_n (k := 0) hx hb (by decide +kernel) rfl (lv_at hl 0 rfl) ?_
  refine snd_callV (S := Mt l D cy ad A) (lo := [some (aR (200 + i))]) (x4 := 99) (idx := 335) (t := [aI (Int32.ofNat (strLen.getD i 0))]) C0 spH_Mt (by decide +kernel) mt244 mok244 sw335 rfl rfl (by decide) (by decide) (by decide) (av := []) rfl ⟨by omega, by omega⟩ (Nat.le_of_ble_eq_true rfl) (j_coder (Φ := fun r σ' => r = [aI 0] ∧ σ' = σ) hAp hi ⟨rfl, rfl⟩) ?_ H locs ls hP hS hl0
  intro r σ' q
  obtain ⟨hr1, hr2⟩ := q
  rw [hr1, hr2]
  intro H locs ls hP hS hl
  refine lv_ishr hx hb (by decide +kernel) ?_
  rw [str_len i hi]
  exact R.1 10 _ (by decide +kernel) ⟨_, rfl, rfl⟩ hk H locs ls hP hS
theorem j_check3 (hAp : Apart ad A) {j n : Int} {vv : Value} (hc : vv = .null ∨ ∃ t, vv = .ref t) (h0 : 0 ≤ j ∧ j < n ∧ n < 2147483648) : Met l M_J3_checkIndex_8e157.1 (wsM M_J3_checkIndex_8e157) (rmM M_J3_checkIndex_8e157) (PrecV D cy ad A [.int (iI j), .int (iI n), vv] σ) (fun _ => Post D cy ad A (fun r σ' => r = [aI (iI j)] ∧ σ' = σ)) 0 0 A := by
  refine met_ofV mok250 hAp (by rcases hc with rfl | ⟨t, rfl⟩ <;> exact Nat.le_of_ble_eq_true rfl) (fun p e s m below meth c Q C R H locs ls hP hS hl => ?_)
  obtain ⟨hx, hb, hml, hown, hts, hK, -, hE, hcs⟩ := C
  have hl : lv_has ls 3 [(0, .int (iI j)), (1, .int (iI n)), (2, vv)] := by
    rcases hc with rfl | ⟨t, rfl⟩ <;> exact hl
  refine lv_iload_n (k := 0) hx hb (by decide +kernel) rfl (lv_at hl 0 rfl) ?_
  refine lv_if_lt (off := 8) (tgt := 9) hx hb (by decide +kernel) (by decide) (fun h => ?_) (fun _ => ?_)
  · have := (iI_lt (a := j) (b := 0) (by omega)).mp h
    omega
  refine lv_iload_n (k := 0) hx hb (by decide +kernel) rfl (lv_at hl 0 rfl) ?_
  refine lv_iload_n (k := 1) hx hb (by decide +kernel) rfl (lv_at hl 1 rfl) ?_
  refine lv_icmp_lt (off := 10) (tgt := 16) hx hb (by decide +kernel) (by decide) (fun _ => ?_) (fun h => ?_)
  · refine lv_iload_n (k := 0) hx hb (by decide +kernel) rfl (lv_at hl 0 rfl) ?_
    exact R.1 17 _ (by decide +kernel) ⟨_, rfl, rfl⟩ ⟨rfl, rfl⟩ H locs ls hP hS
  · exact absurd ((iI_lt (by omega)).mpr h0.2.1) h
theorem j_check (hAp : Apart ad A) {j n : Int} (h0 : 0 ≤ j ∧ j < n ∧ n < 2147483648) (hk : Φ [] σ) : Mt l D cy ad A 246 [aI (iI j), aI (iI n)] σ Φ := by
  intro M hM
  obtain rfl : M_J0_checkIndex_df160 = M := Option.some.inj (mt246.symm.trans hM)
  show Met l _ (wsM _) (rmM _) (PrecV D cy ad A [.int (iI j), .int (iI n)] σ) _ 0 0 A
  refine met_ofV mok246 hAp (Nat.le_of_ble_eq_true rfl) (fun p e s m below meth c Q C R H locs ls hP hS hl => ?_)
  have C0 := C
  obtain ⟨hx, hb, hml, hown, hts, hK, -, hE, hcs⟩ := C
  have hl0 : lv_has ls 2 (prs ad 0 [some (aI (iI j)), some (aI (iI n))]) := hl
  have hl : lv_has ls 2 [(0, .int (iI j)), (1, .int (iI n))] := hl
  refine lv_iload_n (k := 0) hx hb (by decide +kernel) rfl (lv_at hl 0 rfl) ?_
  refine lv_iload_n (k := 1) hx hb (by decide +kernel) rfl (lv_at hl 1 rfl) ?_
  obtain ⟨vv, hc, hZ⟩ : ∃ vv : Value, (vv = .null ∨ ∃ t, vv = .ref t) ∧ va_Z "jdk/internal/util/Preconditions" "SIOOBE_FORMATTER" "Ljava/util/function/BiFunction;" vv A s s.heap := by
    rcases hE.2.2.2.2.2.2 with h | ⟨t, h⟩
    · exact ⟨_, Or.inl rfl, h⟩
    · exact ⟨_, Or.inr ⟨t, rfl⟩, h⟩
  refine va_gets (index := 1053) hx hb hZ hS hown (hts _ sf1053) (fun x h => h) (by decide +kernel) ?_
  obtain ⟨g1, g2, -, g4, g5, -⟩ := okM_e mok250
  have hG : GoodIn tg (va_wsS "java/lang/String" 1059 M_J3_checkIndex_8e157.1 (wsM M_J3_checkIndex_8e157)) := good_all (fun w hw => by
    rcases List.mem_append.mp hw with h | h
    · simp only [List.mem_cons, List.not_mem_nil, or_false] at h
      rcases h with rfl | rfl | rfl
      · exact sw1059
      · exact g2 rfl
      · exact g4
    · exact wsM_in g1 w h)
  have hcw := va_cwS (R := rmM M_J0_checkIndex_df160) (s := s) (args := ([.int (iI j), .int (iI n)] : List Value).toArray) (own := "java/lang/String") (index := 1059) (y := M_J3_checkIndex_8e157.1) (bytes := M_J3_checkIndex_8e157.2.1) (maxL := M_J3_checkIndex_8e157.2.2.1) (ret := M_J3_checkIndex_8e157.2.2.2.1) (ws := wsM M_J3_checkIndex_8e157) (rm := rmM M_J3_checkIndex_8e157) (mc := 0) (ms := 0) 3 hts hG rfl rfl rfl ⟨g5.1, g5.2.1, g5.2.2⟩ ⟨by decide, by decide⟩
  have hrun := va_runS (g := F0 m 5 ls [vv, .int (iI n), .int (iI j)]) (H := H) (locs := locs) (cells := 0) (slots := 0) (e := e) (below := below) (meth := meth) (As := [.int (iI j), .int (iI n), vv]) (rest := []) ⟨hx, hb, hml, hown, hts⟩ (j_check3 (l := l) (D := D) (cy := cy) (ad := ad) (σ := σ) hAp hc h0) hcw ⟨PrecV_blind, PrecV_at hK hE hP hS⟩ rfl rfl hl.1 rfl (show 2 * 0 + 0 ≤ 8 from by decide) (show decode M_J0_checkIndex_df160.2.1 5 = _ from by decide +kernel) hcs
  refine x_run (rest := []) (lo := [some (aI (iI j)), some (aI (iI n))]) hrun hS hl0 ?_
  intro r σ' q
  obtain ⟨hr1, hr2⟩ := q
  rw [hr1, hr2]
  intro H locs ls hP hS hl
  refine lv_pop (va := .int (iI j)) hx hb (by decide +kernel) rfl ?_
  exact R.2 9 (by decide +kernel) rfl hk H locs ls hP hS
theorem nar_char {z : Int} (h : 0 ≤ z ∧ z < 256) : narrow .char (.int (iI z)) = .int (iI z) := by
  obtain ⟨k, rfl⟩ : ∃ k : Nat, z = (k : Int) := ⟨z.toNat, by omega⟩
  have h2 : k < 256 := by omega
  revert h2
  clear h
  revert k
  decide +kernel
theorem j_charAt1 (hAp : Apart ad A) {i : Nat} (hi : i < strN) {j : Int} (h0 : 0 ≤ j ∧ j < (((sb (200 + i)).length : Nat) : Int)) (hk : Φ [aI (iI ((sb (200 + i))[j.toNat]?.getD 0))] σ) : Mt l D cy ad A 247 [aR (300 + i), aI (iI j)] σ Φ := by
  intro M hM
  obtain rfl : M_J1_charAt_3b067 = M := Option.some.inj (mt247.symm.trans hM)
  show Met l _ (wsM _) (rmM _) (PrecV D cy ad A [.ref (ad (300 + i)), .int (iI j)] σ) _ 0 0 A
  refine met_ofV mok247 hAp (Nat.le_of_ble_eq_true rfl) (fun p e s m below meth c Q C R H locs ls hP hS hl => ?_)
  have C0 := C
  obtain ⟨hx, hb, hml, hown, hts, hK, -, hE, hcs⟩ := C
  have hl0 : lv_has ls 2 (prs ad 0 [some (aR (300 + i)), some (aI (iI j))]) := hl
  have hl : lv_has ls 2 [(0, .ref (ad (300 + i))), (1, .int (iI j))] := hl
  have hlen := str_len2 i hi
  refine lv_iload_n (k := 1) hx hb (by decide +kernel) rfl (lv_at hl 1 rfl) ?_
  refine lv_aload_n (k := 0) hx hb (by decide +kernel) rfl (lv_at hl 0 rfl) ?_
  refine va_tlen hx hb (hE.2.1.1 i hi).2.2.2 hS (v := iI ((strLen.getD i 0 : Nat) : Int)) rfl (by decide +kernel) ?_
  refine snd_callS (S := Mt l D cy ad A) (lo := [some (aR (300 + i)), some (aI (iI j))]) (idx := 9) (t := []) C0 spH_Mt (by decide +kernel) mt246 mok246 (Or.inl sw9) rfl rfl (by decide) (by decide) (av := [aI (iI j), aI (iI ((strLen.getD i 0 : Nat) : Int))]) rfl (by decide) (j_check (Φ := fun r σ' => r = [] ∧ σ' = σ) hAp (by omega) ⟨rfl, rfl⟩) ?_ H locs ls hP hS hl0
  intro r σ' q
  obtain ⟨hr1, hr2⟩ := q
  rw [hr1, hr2]
  intro H locs ls hP hS hl
  have hl : lv_has ls 2 [(0, .ref (ad (300 + i))), (1, .int (iI j))] := hl
  refine lv_aload_n (k := 0) hx hb (by decide +kernel) rfl (lv_at hl 0 rfl) ?_
  refine lv_iload_n (k := 1) hx hb (by decide +kernel) rfl (lv_at hl 1 rfl) ?_
  have hj : j.toNat < strLen.getD i 0 := by omega
  refine va_tb hx hb (hE.2.1.1 i hi).2.2.2 hS ((vp_iI (by omega)).mpr (by omega)) (v := .int ((strByt.getD i []).getD j.toNat 0)) (by rw [iI_tn (by omega)]) (by decide +kernel) ?_
  refine lv_sipush (n := 255) (v := 255) hx hb (by decide +kernel) (by decide) ?_
  refine lv_iand hx hb (by decide +kernel) ?_
  have hby := str_byt i hi j.toNat hj
  refine lv_i2c hx hb (by decide +kernel) hby.1 ?_
  exact R.1 14 _ (by decide +kernel) ⟨_, rfl, nar_char hby.2⟩ hk H locs ls hP hS
theorem j_charAt (hAp : Apart ad A) {i : Nat} (hi : i < strN) {j : Int} (h0 : 0 ≤ j ∧ j < (((sb (200 + i)).length : Nat) : Int)) (hk : Φ [aI (iI ((sb (200 + i))[j.toNat]?.getD 0))] σ) : Mt l D cy ad A 243 [aR (200 + i), aI (iI j)] σ Φ := by
  intro M hM
  obtain rfl : M_J0_charAt_5068e = M := Option.some.inj (mt243.symm.trans hM)
  show Met l _ (wsM _) (rmM _) (PrecV D cy ad A [.ref (ad (200 + i)), .int (iI j)] σ) _ 0 0 A
  refine met_ofV mok243 hAp (Nat.le_of_ble_eq_true rfl) (fun p e s m below meth c Q C R H locs ls hP hS hl => ?_)
  have C0 := C
  obtain ⟨hx, hb, hml, hown, hts, hK, -, hE, hcs⟩ := C
  have hl0 : lv_has ls 2 (prs ad 0 [some (aR (200 + i)), some (aI (iI j))]) := hl
  have hl : lv_has ls 2 [(0, .ref (ad (200 + i))), (1, .int (iI j))] := hl
  have hlen := str_len2 i hi
  refine lv_aload_n (k := 0) hx hb (by decide +kernel) rfl (lv_at hl 0 rfl) ?_
  refine snd_callV (S := Mt l D cy ad A) (lo := [some (aR (200 + i)), some (aI (iI j))]) (x4 := 99) (idx := 492) (t := []) C0 spH_Mt (by decide +kernel) mt245 mok245 sw492 rfl rfl (by decide) (by decide) (by decide) (av := []) rfl ⟨by omega, by omega⟩ (by decide) (j_isLatin1 (Φ := fun r σ' => r = [aI 1] ∧ σ' = σ) hAp hi ⟨rfl, rfl⟩) ?_ H locs ls hP hS hl0
  intro r σ' q
  obtain ⟨hr1, hr2⟩ := q
  rw [hr1, hr2]
  intro H locs ls hP hS hl0
  have hl : lv_has ls 2 [(0, .ref (ad (200 + i))), (1, .int (iI j))] := hl0
  refine lv_if_eq (off := 12) (tgt := 16) hx hb (by decide +kernel) (by decide) (fun h => absurd h (by decide)) (fun _ => ?_)
  refine lv_aload_n (k := 0) hx hb (by decide +kernel) rfl (lv_at hl 0 rfl) ?_
  refine vk_getf (index := 9) hx hb (hE.2.1.1 i hi).2.2.1 hS hown (hts _ sf9) (fun x h => h) (by decide +kernel) ?_
  refine lv_iload_n (k := 1) hx hb (by decide +kernel) rfl (lv_at hl 1 rfl) ?_
  have hj : j.toNat < strLen.getD i 0 := by omega
  have hby := str_byt i hi j.toNat hj
  refine snd_callS (S := Mt l D cy ad A) (lo := [some (aR (200 + i)), some (aI (iI j))]) (idx := 495) (t := []) C0 spH_Mt (by decide +kernel) mt247 mok247 (Or.inl sw495) rfl rfl (by decide) (by decide) (av := [aR (300 + i), aI (iI j)]) rfl (by decide) (j_charAt1 (Φ := fun r σ' => r = [aI (iI ((sb (200 + i))[j.toNat]?.getD 0))] ∧ σ' = σ) hAp hi h0 ⟨rfl, rfl⟩) ?_ H locs ls hP hS hl0
  intro r σ' q
  obtain ⟨hr1, hr2⟩ := q
  rw [hr1, hr2]
  intro H locs ls hP hS hl
  exact R.1 15 _ (by decide +kernel) ⟨_, rfl, nar_char hby.2⟩ hk H locs ls hP hS
theorem sysT_Mt (hAp : Apart ad A) : SysT (Mt l D cy ad A) := by
  refine ⟨fun w σ Φ hw hk => ?_, fun w i σ Φ hw h0 h1 hk => ?_⟩
  · have hw2 : 200 ≤ w ∧ w < 200 + strN := by unfold isStr at hw; exact hw
    obtain ⟨k, rfl⟩ : ∃ k, w = 200 + k := ⟨w - 200, by omega⟩
    exact j_length hAp (by omega) hk
  · have hw2 : 200 ≤ w ∧ w < 200 + strN := by unfold isStr at hw; exact hw
    obtain ⟨k, rfl⟩ : ∃ k, w = 200 + k := ⟨w - 200, by omega⟩
    exact j_charAt hAp (by omega) ⟨h0, h1⟩ hk
end STRM
