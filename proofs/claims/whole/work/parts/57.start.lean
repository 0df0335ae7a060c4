/-! what the law's start has: constant rows, strings, links, classes -/
def nwL : List Jvm.Cond := flatC narrow_1
def stTm (i : Nat) : Jvm.Term := match stA[i]? with
  | some q => .static q.1 q.2.1 "[I"
  | none => .int 0
def stB : List Nat := [3, 9, 19, 29, 38, 44]
def strRep : List (String × Nat) := [("BlastFace$Reader", 69), ("BlastFace$Reader", 71), ("BlastFace$Reader", 73), ("BlastFace$Reader", 75), ("BlastFace$Reader", 77), ("BlastFace$Reader", 79), ("BlastFace$Reader", 81), ("BlastFace$Reader", 83), ("BlastFace$Reader", 85), ("BlastFace$Kind", 21), ("BlastFace$Kind", 23), ("BlastFace$Kind", 25), ("BlastFace$Kind", 27), ("BlastFace$Kind", 29), ("BlastFace$Reader", 97)]
def stTs (i : Nat) : Jvm.Term := match strRep[i]? with
  | some q => .string q.1 q.2
  | none => .int 0
def stSb : List Nat := [54, 62, 71, 83, 95, 107, 120, 136, 150, 180, 198, 217, 238, 261, 284]
def stNe : List (List Nat) := [[0, 70, 81, 92, 103, 115, 130, 143, 155, 188, 206, 226, 248, 270, 293], [70, 0, 82, 93, 104, 116, 131, 144, 156, 189, 207, 227, 249, 271, 294], [81, 82, 0, 94, 105, 117, 132, 145, 157, 190, 208, 228, 250, 272, 295], [92, 93, 94, 0, 106, 118, 133, 146, 158, 191, 209, 229, 251, 273, 296], [103, 104, 105, 106, 0, 119, 134, 147, 159, 192, 210, 230, 252, 274, 297], [115, 116, 117, 118, 119, 0, 135, 148, 160, 193, 211, 231, 253, 275, 298], [130, 131, 132, 133, 134, 135, 0, 149, 161, 194, 212, 232, 254, 276, 299], [143, 144, 145, 146, 147, 148, 149, 0, 162, 195, 213, 233, 255, 277, 300], [155, 156, 157, 158, 159, 160, 161, 162, 0, 196, 214, 234, 256, 278, 301], [188, 189, 190, 191, 192, 193, 194, 195, 196, 0, 216, 236, 258, 280, 303], [206, 207, 208, 209, 210, 211, 212, 213, 214, 216, 0, 237, 259, 281, 304], [226, 227, 228, 229, 230, 231, 232, 233, 234, 236, 237, 0, 260, 282, 305], [248, 249, 250, 251, 252, 253, 254, 255, 256, 258, 259, 260, 0, 283, 306], [270, 271, 272, 273, 274, 275, 276, 277, 278, 280, 281, 282, 283, 0, 307], [293, 294, 295, 296, 297, 298, 299, 300, 301, 303, 304, 305, 306, 307, 0]]
set_option maxRecDepth 100000 in
theorem st_arr : ∀ i, i < 6 → nwL[stB.getD i 0]? = some (.arrayOf (stTm i) .int) ∧ nwL[stB.getD i 0 + 1]? = some (.eq (.length (stTm i)) (.int (Int32.ofNat ((stA.getD i ("", "", [])).2.2.length)))) := by decide +kernel
set_option maxRecDepth 100000 in
theorem st_el : ∀ i, i < 6 → ∀ j, j < (stA.getD i ("", "", [])).2.2.length → nwL[stB.getD i 0 + 2 + j]? = some (.eq (.elem (stTm i) (.int (Int32.ofNat j))) (.int ((stA.getD i ("", "", [])).2.2.getD j 0))) := by decide +kernel
theorem st_len : ∀ i, i < 6 → (stA.getD i ("", "", [])).2.2.length < 2 ^ 31 := by decide
set_option maxRecDepth 100000 in
theorem st_lay : ∀ i, i < 6 → lw_tbl[([119, 390, 392, 408, 622, 624] : List Nat).getD i 0]? = some (.laysStatic (stA.getD i ("", "", [])).1 (stA.getD i ("", "", [])).2.1 "[I") ∧ lw_tbl[([86, 86, 86, 96, 86, 86] : List Nat).getD i 0]? = some (.initialized (stA.getD i ("", "", [])).1) := by decide +kernel
set_option maxRecDepth 100000 in
theorem ss_1 : ∀ i, i < 15 → nwL[stSb.getD i 0]? = some (.exactly (stTs i) "java/lang/String") ∧ nwL[stSb.getD i 0 + 1]? = some (.eq (.field (stTs i) "java/lang/String" "coder" "B") (.int 0)) ∧ nwL[stSb.getD i 0 + 2]? = some (.arrayOf (.field (stTs i) "java/lang/String" "value" "[B") .byte) ∧ nwL[stSb.getD i 0 + 3]? = some (.eq (.length (.field (stTs i) "java/lang/String" "value" "[B")) (.int (Int32.ofNat (strLen.getD i 0)))) := by decide +kernel
set_option maxRecDepth 100000 in
theorem ss_2 : ∀ i, i < 15 → ∀ j, j < strLen.getD i 0 → nwL[stSb.getD i 0 + 4 + j]? = some (.eq (.elem (.field (stTs i) "java/lang/String" "value" "[B") (.int (Int32.ofNat j))) (.int ((strByt.getD i []).getD j 0))) := by decide +kernel
set_option maxRecDepth 100000 in
theorem ss_3 : ∀ i, i < 15 → ∀ j, j < 15 → i ≠ j → nwL[(stNe.getD i []).getD j 0]? = some (.not (.eq (stTs i) (stTs j))) ∨ nwL[(stNe.getD i []).getD j 0]? = some (.not (.eq (stTs j) (stTs i))) := by decide +kernel
theorem ss_len : ∀ i, i < 15 → strLen.getD i 0 < 2 ^ 31 := by decide
def stRw : List Nat := [832, 833, 834, 835, 836, 837, 893, 894, 895, 907, 908, 909, 910, 911, 912, 913, 950, 979, 981]
def stEq : List Nat := [0, 0, 0, 0, 0, 0, 0, 0, 0, 171, 0, 0, 0, 0, 0, 0, 316, 341, 381]
set_option maxRecDepth 100000 in
theorem sr_1 : ∀ i, i < 19 → lw_tbl[stRw.getD i 0]? = some (.stringRef (strR.getD i ("", 0, "", 0)).1 (strR.getD i ("", 0, "", 0)).2.1 (strR.getD i ("", 0, "", 0)).2.2.1) ∧ (strR.getD i ("", 0, "", 0)).2.2.2 < 15 := by decide +kernel
set_option maxRecDepth 100000 in
theorem sr_2 : ∀ i, i < 19 → stTs (strR.getD i ("", 0, "", 0)).2.2.2 = .string (strR.getD i ("", 0, "", 0)).1 (strR.getD i ("", 0, "", 0)).2.1 ∨ nwL[stEq.getD i 0]? = some (.eq (stTs (strR.getD i ("", 0, "", 0)).2.2.2) (.string (strR.getD i ("", 0, "", 0)).1 (strR.getD i ("", 0, "", 0)).2.1)) := by decide +kernel
def stNf : List Nat := [118, 389, 391, 621, 623, 763]
def stNm : List Nat := [162, 234, 265, 281, 317, 424, 536, 548, 561, 783, 1007]
set_option maxRecDepth 100000 in
theorem sn_f : ∀ i, i < nestF.length → ∃ q, nestF[i]? = some q ∧ lw_tbl[stNf.getD i 0]? = some (.fieldLinkNest q.1 q.2.1 q.2.2.1 q.2.2.2.1 q.2.2.2.2.1 q.2.2.2.2.2) := by
  have h : ∀ i, i < nestF.length → lw_tbl[stNf.getD i 0]? = (nestF[i]?).map (fun q => .fieldLinkNest q.1 q.2.1 q.2.2.1 q.2.2.2.1 q.2.2.2.2.1 q.2.2.2.2.2) := by decide +kernel
  exact fun i hi => ⟨nestF[i], List.getElem?_eq_getElem hi, by rw [h i hi, List.getElem?_eq_getElem hi]; rfl⟩
set_option maxRecDepth 100000 in
theorem sn_m : ∀ i, i < nestM.length → ∃ q, nestM[i]? = some q ∧ lw_tbl[stNm.getD i 0]? = some (.methodLinkNest q.1 q.2.1 q.2.2.1 q.2.2.2) := by
  have h : ∀ i, i < nestM.length → lw_tbl[stNm.getD i 0]? = (nestM[i]?).map (fun q => .methodLinkNest q.1 q.2.1 q.2.2.1 q.2.2.2) := by decide +kernel
  exact fun i hi => ⟨nestM[i], List.getElem?_eq_getElem hi, by rw [h i hi, List.getElem?_eq_getElem hi]; rfl⟩
theorem eq_ref {args : Array Value} {s : State} {t u : Term} {a : Nat} (h : (Cond.eq t u).before args s = true) (ht : t.eval args s none [] s = some (.ref a)) : u.eval args s none [] s = some (.ref a) := by
  cases hu : u.eval args s none [] s with
  | none => simp [Cond.before, Cond.holds, Cond.value, ht, hu] at h
  | some w =>
    cases w with
    | ref b =>
      simp [Cond.before, Cond.holds, Cond.value, ht, hu] at h
      rw [h]
    | _ => simp [Cond.before, Cond.holds, Cond.value, ht, hu] at h
section STA
variable {s : State} {args : Array Value}
set_option maxHeartbeats 1000000 in
theorem start_Ex (hn : ∀ c ∈ nwL, c.before args s = true) (hts : ∀ w ∈ lw_tbl, w.before args s = true) : ∃ ad : Nat → Nat, Ex ad (fun q => s.heap.size ≤ q) s s.heap := by
  have hA : ∀ a : Nat, a < s.heap.size → ¬ (fun q => s.heap.size ≤ q) a := fun a h => Nat.not_le.mpr h
  have at' : ∀ {k : Nat} {c : Jvm.Cond}, nwL[k]? = some c → c.before args s = true := fun h => hn _ (List.mem_of_getElem? h)
  have tb : ∀ {k : Nat} {c : Jvm.Cond}, lw_tbl[k]? = some c → c.before args s = true := fun h => hts _ (List.mem_of_getElem? h)
  have h0 : ∀ i : Nat, ∃ t : Nat, i < 6 → (stTm i).eval args s none [] s = some (.ref t) ∧ va_T .int t ((stA.getD i ("", "", [])).2.2.length) (fun j => .int ((stA.getD i ("", "", [])).2.2.getD j 0)) (fun q => s.heap.size ≤ q) s s.heap := by
    intro i
    by_cases hi : i < 6
    · obtain ⟨t, h1, h2⟩ := va_Tof (f := fun j => .int ((stA.getD i ("", "", [])).2.2.getD j 0)) (st_len i hi) (at' (st_arr i hi).1) (va_eqt (at' (st_arr i hi).2)) (fun j hj => va_eqt (at' (st_el i hi j hj))) hA
      exact ⟨t, fun _ => ⟨h1, h2⟩⟩
    · exact ⟨0, fun h => absurd h hi⟩
  obtain ⟨adA, hadA⟩ := Classical.axiomOfChoice h0
  obtain ⟨adK, adV, hS, hSe⟩ := vk_Sof (args := args) (s := s) (N := 15) (tm := stTs) (len := strLen) (byt := strByt) (A := fun q => s.heap.size ≤ q) ss_len (fun i hi => at' (ss_1 i hi).1) (fun i hi => at' (ss_1 i hi).2.1) (fun i hi => at' (ss_1 i hi).2.2.1) (fun i hi => at' (ss_1 i hi).2.2.2) (fun i hi j hj => at' (ss_2 i hi j hj)) (fun i j hi hj hij => (ss_3 i hi j hj hij).imp at' at') hA
  refine ⟨fun k => if k < 200 then adA (k - 100) else if k < 300 then adK (k - 200) else adV (k - 300), ?_, ?_, ?_, ?_, ?_, ?_, ?_⟩
  · intro i q hi
    have hl : i < 6 := (List.getElem?_eq_some_iff.mp hi).1
    have eq : stA.getD i ("", "", []) = q := by rw [List.getD_eq_getElem?_getD, hi]; rfl
    have et : stTm i = .static q.1 q.2.1 "[I" := by unfold stTm; rw [hi]
    obtain ⟨h1, h2⟩ := hadA i hl
    rw [eq] at h2
    rw [et] at h1
    have hy := st_lay i hl
    rw [eq] at hy
    have e : (fun k => if k < 200 then adA (k - 100) else if k < 300 then adK (k - 200) else adV (k - 300)) (100 + i) = adA i := by
      show (if 100 + i < 200 then adA (100 + i - 100) else _) = _
      rw [if_pos (by omega), show 100 + i - 100 = i by omega]
    rw [e]
    exact ⟨va_Zof (tb hy.1) (tb hy.2) h1 hA, h2⟩
  · have e2 : (fun i => (fun k => if k < 200 then adA (k - 100) else if k < 300 then adK (k - 200) else adV (k - 300)) (200 + i)) = fun i => if i < 100 then adK i else adV (i - 100) := funext fun i => by
      show (if 200 + i < 200 then _ else if 200 + i < 300 then adK (200 + i - 200) else adV (200 + i - 300)) = _
      rw [if_neg (by omega), show 200 + i - 200 = i by omega, show 200 + i - 300 = i - 100 by omega]
      by_cases h : i < 100
      · rw [if_pos (by omega), if_pos h]
      · rw [if_neg (by omega), if_neg h]
    have e3 : (fun i => (fun k => if k < 200 then adA (k - 100) else if k < 300 then adK (k - 200) else adV (k - 300)) (300 + i)) = adV := funext fun i => by
      show (if 300 + i < 200 then _ else if 300 + i < 300 then _ else adV (300 + i - 300)) = _
      rw [if_neg (by omega), if_neg (by omega), show 300 + i - 300 = i by omega]
    rw [e2, e3]
    refine ⟨fun i hi => ?_, fun i j hi hj he => ?_⟩
    · have hi15 : i < 15 := hi
      have e4 : (if i < 100 then adK i else adV (i - 100)) = adK i := if_pos (by omega)
      simp only [e4]
      exact hS.1 i hi
    · have hi15 : i < 15 := hi
      have hj15 : j < 15 := hj
      simp only at he
      rw [if_pos (by omega), if_pos (by omega)] at he
      exact hS.2 i j hi hj he
  · intro q hq
    obtain ⟨i, hi⟩ := List.getElem?_of_mem hq
    have hl : i < 19 := (List.getElem?_eq_some_iff.mp hi).1
    have eq : strR.getD i ("", 0, "", 0) = q := by rw [List.getD_eq_getElem?_getD, hi]; rfl
    have hy := sr_1 i hl
    have hz := sr_2 i hl
    rw [eq] at hy hz
    have e : (fun k => if k < 200 then adA (k - 100) else if k < 300 then adK (k - 200) else adV (k - 300)) (200 + q.2.2.2) = adK q.2.2.2 := by
      show (if 200 + q.2.2.2 < 200 then _ else if 200 + q.2.2.2 < 300 then adK (200 + q.2.2.2 - 200) else _) = _
      rw [if_neg (by omega), if_pos (by omega), show 200 + q.2.2.2 - 200 = q.2.2.2 by omega]
    rw [e]
    have hv := hSe q.2.2.2 hy.2
    have hv2 : (Term.string q.1 q.2.1).eval args s none [] s = some (.ref (adK q.2.2.2)) := by
      rcases hz with h | h
      · rw [h] at hv; exact hv
      · exact eq_ref (at' h) hv
    exact vk_R.of (A := args) (tb hy.1) hv2
  · intro q hq
    obtain ⟨i, hi⟩ := List.getElem?_of_mem hq
    obtain ⟨q', h1, h2⟩ := sn_f i (List.getElem?_eq_some_iff.mp hi).1
    obtain rfl : q = q' := Option.some.inj (hi.symm.trans h1)
    exact va_Nw.of rfl (tb h2)
  · intro q hq
    obtain ⟨i, hi⟩ := List.getElem?_of_mem hq
    obtain ⟨q', h1, h2⟩ := sn_m i (List.getElem?_eq_some_iff.mp hi).1
    obtain rfl : q = q' := Option.some.inj (hi.symm.trans h1)
    exact va_Nw.of rfl (tb h2)
  · exact va_Zof (args := args) (tb (k := 851) (by decide +kernel)) (tb (k := 100) (by decide +kernel)) (va_eqt (at' (k := 49) (by decide +kernel))) hA
  · exact va_Zqof (args := args) (tb (k := 867) (by decide +kernel)) (tb (k := 102) (by decide +kernel)) (at' (k := 50) (by decide +kernel)) hA
end STA
