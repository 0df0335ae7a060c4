/-! the constructors, one by one (printed from their listing) -/
theorem oi_in : Jvm.Cond.instanceMethod Lib.objectInit ∈ tg := atW_in (i := 110) (by decide +kernel)
theorem oi_co : Jvm.Cond.code Lib.objectInit ⟨#[0xb1]⟩ 1 none ∈ tg := atW_in (i := 111) (by decide +kernel)
theorem ar_I : Jvm.Cond.arrayClass .int ∈ tg := atW_in (i := 153) (by decide +kernel)
theorem ar_B : Jvm.Cond.arrayClass .byte ∈ tg := atW_in (i := 278) (by decide +kernel)
theorem ar_C : Jvm.Cond.arrayClass .char ∈ tg := atW_in (i := 1196) (by decide +kernel)
theorem ar_J : Jvm.Cond.arrayClass .long ∈ tg := atW_in (i := 331) (by decide +kernel)
def M_X7_init : MI := (yX7_init, cX7_init, 1, none, 0, 1, 20, false, 164, 163, 0, 90)
theorem ok_X7_init : okC M_X7_init = true := by decide +kernel
def W_X7_init (cy : Nat → ClassId) (h0 : Nat) (ws : va_W) : Prop := ∃ q1 q2 q3 : Nat, ws = [(h0, .inr (6, [.ref q1, .ref q2, .ref q3, .int 0, .int 0, .int 0, .int 0])),
    (q1, .inl (cy 1, 40, .inl zI0)),
    (q2, .inl (cy 1, 40, .inl zI0)),
    (q3, .inl (cy 1, 40, .inl zI0))]
set_option maxRecDepth 100000 in
set_option maxHeartbeats 4000000 in
theorem c_X7_init (l : Launch) (D : va_G) (cy : Nat → ClassId) (ad : Nat → Nat) : CtM l D cy ad M_X7_init 6 [.null, .null, .null, .int 0, .int 0, .int 0, .int 0] [] 3 120 (W_X7_init cy) := by
  refine ct_of ok_X7_init (fun h0 => Nat.le_of_ble_eq_true rfl) (fun p e s m below meth c Q A h0 hin C hret => ?_)
  refine y_aload (pc := 0) C 0 (k := 0) (by decide +kernel) rfl ?_
  refine y_obj (pc := 1) (idx := 3) C (atW_in (i := 165) (by decide +kernel)) oi_in oi_co (Nat.le_of_ble_eq_true rfl) (Nat.le_of_ble_eq_true rfl) (by decide +kernel) ?_
  refine y_aload (pc := 4) C 0 (k := 0) (by decide +kernel) rfl ?_
  refine y_bipush (pc := 5) C (n := 40) (x := 40) (by decide +kernel) (by decide) ?_
  refine y_newI (pc := 7) (N := 40) C ar_I (by decide) (by decide) (Nat.le_of_ble_eq_true rfl) (Nat.le_of_ble_eq_true rfl) (Nat.le_of_ble_eq_true rfl) (by decide +kernel) (fun q1 => ?_)
  refine y_putF (pc := 9) (idx := 9) C hin 0 0 rfl (hc := rfl) (by decide) rfl (atW_in (i := 166) (by decide +kernel)) rfl (ty := .array .int) (by decide +kernel) rfl rfl (Nat.le_of_ble_eq_true rfl) (by decide +kernel) ?_
  refine y_aload (pc := 12) C 0 (k := 0) (by decide +kernel) rfl ?_
  refine y_bipush (pc := 13) C (n := 40) (x := 40) (by decide +kernel) (by decide) ?_
  refine y_newI (pc := 15) (N := 40) C ar_I (by decide) (by decide) (Nat.le_of_ble_eq_true rfl) (Nat.le_of_ble_eq_true rfl) (Nat.le_of_ble_eq_true rfl) (by decide +kernel) (fun q2 => ?_)
  refine y_putF (pc := 17) (idx := 15) C hin 0 1 rfl (hc := rfl) (by decide) rfl (atW_in (i := 170) (by decide +kernel)) rfl (ty := .array .int) (by decide +kernel) rfl rfl (Nat.le_of_ble_eq_true rfl) (by decide +kernel) ?_
  refine y_aload (pc := 20) C 0 (k := 0) (by decide +kernel) rfl ?_
  refine y_bipush (pc := 21) C (n := 40) (x := 40) (by decide +kernel) (by decide) ?_
  refine y_newI (pc := 23) (N := 40) C ar_I (by decide) (by decide) (Nat.le_of_ble_eq_true rfl) (Nat.le_of_ble_eq_true rfl) (Nat.le_of_ble_eq_true rfl) (by decide +kernel) (fun q3 => ?_)
  refine y_putF (pc := 25) (idx := 18) C hin 0 2 rfl (hc := rfl) (by decide) rfl (atW_in (i := 172) (by decide +kernel)) rfl (ty := .array .int) (by decide +kernel) rfl rfl (Nat.le_of_ble_eq_true rfl) (by decide +kernel) ?_
  exact hret _ _ _ (by decide +kernel) ⟨q1, q2, q3, rfl⟩
def M_X2_init : MI := (yX2_init, cX2_init, 1, none, 0, 1, 26, false, 116, 115, 0, 87)
theorem ok_X2_init : okC M_X2_init = true := by decide +kernel
def W_X2_init (cy : Nat → ClassId) (h0 : Nat) (ws : va_W) : Prop := ∃ q1 q2 q3 : Nat, ws = [(h0, .inr (1, [.ref q1, .ref q2, .ref q3, .int 0, .int 0, .int 0])),
    (q1, .inl (cy 1, 180, .inl zI0)),
    (q2, .inl (cy 1, 120, .inl zI0)),
    (q3, .inl (cy 1, 3, .inl fRul))]
set_option maxRecDepth 100000 in
set_option maxHeartbeats 4000000 in
theorem c_X2_init (l : Launch) (D : va_G) (cy : Nat → ClassId) (ad : Nat → Nat) : CtM l D cy ad M_X2_init 1 [.null, .null, .null, .int 0, .int 0, .int 0] [] 3 303 (W_X2_init cy) := by
  refine ct_of ok_X2_init (fun h0 => Nat.le_of_ble_eq_true rfl) (fun p e s m below meth c Q A h0 hin C hret => ?_)
  refine y_aload (pc := 0) C 0 (k := 0) (by decide +kernel) rfl ?_
  refine y_obj (pc := 1) (idx := 3) C (atW_in (i := 117) (by decide +kernel)) oi_in oi_co (Nat.le_of_ble_eq_true rfl) (Nat.le_of_ble_eq_true rfl) (by decide +kernel) ?_
  refine y_aload (pc := 4) C 0 (k := 0) (by decide +kernel) rfl ?_
  refine y_sipush (pc := 5) C (n := 180) (x := 180) (by decide +kernel) (by decide) ?_
  refine y_newI (pc := 8) (N := 180) C ar_I (by decide) (by decide) (Nat.le_of_ble_eq_true rfl) (Nat.le_of_ble_eq_true rfl) (Nat.le_of_ble_eq_true rfl) (by decide +kernel) (fun q1 => ?_)
  refine y_putF (pc := 10) (idx := 9) C hin 0 0 rfl (hc := rfl) (by decide) rfl (atW_in (i := 123) (by decide +kernel)) rfl (ty := .array .int) (by decide +kernel) rfl rfl (Nat.le_of_ble_eq_true rfl) (by decide +kernel) ?_
  refine y_aload (pc := 13) C 0 (k := 0) (by decide +kernel) rfl ?_
  refine y_bipush (pc := 14) C (n := 120) (x := 120) (by decide +kernel) (by decide) ?_
  refine y_newI (pc := 16) (N := 120) C ar_I (by decide) (by decide) (Nat.le_of_ble_eq_true rfl) (Nat.le_of_ble_eq_true rfl) (Nat.le_of_ble_eq_true rfl) (by decide +kernel) (fun q2 => ?_)
  refine y_putF (pc := 18) (idx := 15) C hin 0 1 rfl (hc := rfl) (by decide) rfl (atW_in (i := 124) (by decide +kernel)) rfl (ty := .array .int) (by decide +kernel) rfl rfl (Nat.le_of_ble_eq_true rfl) (by decide +kernel) ?_
  refine y_aload (pc := 21) C 0 (k := 0) (by decide +kernel) rfl ?_
  refine y_iconst (pc := 22) C (n := 3) (x := 3) (by decide +kernel) (by decide) ?_
  refine y_newI (pc := 23) (N := 3) C ar_I (by decide) (by decide) (Nat.le_of_ble_eq_true rfl) (Nat.le_of_ble_eq_true rfl) (Nat.le_of_ble_eq_true rfl) (by decide +kernel) (fun q3 => ?_)
  refine y_putF (pc := 25) (idx := 18) C hin 0 2 rfl (hc := rfl) (by decide) rfl (atW_in (i := 125) (by decide +kernel)) rfl (ty := .array .int) (by decide +kernel) rfl rfl (Nat.le_of_ble_eq_true rfl) (by decide +kernel) ?_
  refine y_gets (pc := 28) (idx := 21) C ⟨_, List.mem_of_getElem? (i := 0) rfl, rfl, rfl, rfl, rfl, rfl⟩ (by decide +kernel) ?_
  refine y_iconst (pc := 31) C (n := 0) (x := 0) (by decide +kernel) (by decide) ?_
  refine y_aload (pc := 32) C 0 (k := 0) (by decide +kernel) rfl ?_
  refine y_get (pc := 33) (idx := 18) C 0 2 rfl (hc := rfl) (by decide) rfl (atW_in (i := 125) (by decide +kernel)) (v := .ref q3) rfl (by decide +kernel) ?_
  refine y_iconst (pc := 36) C (n := 0) (x := 0) (by decide +kernel) (by decide) ?_
  refine y_iconst (pc := 37) C (n := 3) (x := 3) (by decide +kernel) (by decide) ?_
  refine y_copy (pc := 38) (idx := 24) C (atW_in (i := 120) (by decide +kernel)) 3 rfl (Nat.le_of_ble_eq_true rfl) (Nat.le_of_ble_eq_true rfl) (by decide +kernel) ?_
  exact hret _ _ _ (by decide +kernel) ⟨q1, q2, q3, rfl⟩
def M_X0_init : MI := (yX0_init, cX0_init, 2, none, 1, 2, 40, false, 158, 157, 0, 89)
theorem ok_X0_init : okC M_X0_init = true := by decide +kernel
def W_X0_init (cy : Nat → ClassId) (p1 : Nat) (h0 : Nat) (ws : va_W) : Prop := ∃ q1 q2 q3 q4 q5 q6 : Nat, ws = [(h0, .inr (0, [.ref p1, .ref q1, .ref q2, .ref q3, .int 0, .int 0, .int 0])),
    (q1, .inl (cy 1, 20, .inl zI0)),
    (q2, .inl (cy 1, 20, .inl zI0)),
    (q3, .inr (6, [.ref q4, .ref q5, .ref q6, .int 0, .int 0, .int 0, .int 0])),
    (q4, .inl (cy 1, 40, .inl zI0)),
    (q5, .inl (cy 1, 40, .inl zI0)),
    (q6, .inl (cy 1, 40, .inl zI0))]
set_option maxRecDepth 100000 in
set_option maxHeartbeats 4000000 in
theorem c_X0_init (l : Launch) (D : va_G) (cy : Nat → ClassId) (ad : Nat → Nat) (p1 : Nat) : CtM l D cy ad M_X0_init 0 [.null, .null, .null, .null, .int 0, .int 0, .int 0] [.ref p1] 6 167 (W_X0_init cy p1) := by
  refine ct_of ok_X0_init (fun h0 => Nat.le_of_ble_eq_true rfl) (fun p e s m below meth c Q A h0 hin C hret => ?_)
  refine y_aload (pc := 0) C 0 (k := 0) (by decide +kernel) rfl ?_
  refine y_obj (pc := 1) (idx := 3) C (atW_in (i := 159) (by decide +kernel)) oi_in oi_co (Nat.le_of_ble_eq_true rfl) (Nat.le_of_ble_eq_true rfl) (by decide +kernel) ?_
  refine y_aload (pc := 4) C 0 (k := 0) (by decide +kernel) rfl ?_
  refine y_bipush (pc := 5) C (n := 20) (x := 20) (by decide +kernel) (by decide) ?_
  refine y_newI (pc := 7) (N := 20) C ar_I (by decide) (by decide) (Nat.le_of_ble_eq_true rfl) (Nat.le_of_ble_eq_true rfl) (Nat.le_of_ble_eq_true rfl) (by decide +kernel) (fun q1 => ?_)
  refine y_putF (pc := 9) (idx := 9) C hin 0 1 rfl (hc := rfl) (by decide) rfl (atW_in (i := 200) (by decide +kernel)) rfl (ty := .array .int) (by decide +kernel) rfl rfl (Nat.le_of_ble_eq_true rfl) (by decide +kernel) ?_
  refine y_aload (pc := 12) C 0 (k := 0) (by decide +kernel) rfl ?_
  refine y_bipush (pc := 13) C (n := 20) (x := 20) (by decide +kernel) (by decide) ?_
  refine y_newI (pc := 15) (N := 20) C ar_I (by decide) (by decide) (Nat.le_of_ble_eq_true rfl) (Nat.le_of_ble_eq_true rfl) (Nat.le_of_ble_eq_true rfl) (by decide +kernel) (fun q2 => ?_)
  refine y_putF (pc := 17) (idx := 15) C hin 0 2 rfl (hc := rfl) (by decide) rfl (atW_in (i := 203) (by decide +kernel)) rfl (ty := .array .int) (by decide +kernel) rfl rfl (Nat.le_of_ble_eq_true rfl) (by decide +kernel) ?_
  refine y_aload (pc := 20) C 0 (k := 0) (by decide +kernel) rfl ?_
  refine y_new (pc := 21) (idx := 18) C (fs := [.null, .null, .null, .int 0, .int 0, .int 0, .int 0]) (hc := (rfl : vwCl[6]? = some _)) tyX7 tyX7_ok (atW_in (i := 160) (by decide +kernel)) (atW_in (i := 161) (by decide +kernel)) (atW_in (i := 90) (by decide +kernel)) (by decide +kernel) (Nat.le_of_ble_eq_true rfl) (Nat.le_of_ble_eq_true rfl) (by decide +kernel) (fun q3 => ?_)
  refine y_dup (pc := 24) C (by decide +kernel) ?_
  refine y_call (pc := 25) (idx := 20) C (c_X7_init l D cy ad) ok_X7_init (Or.inr ⟨_, List.mem_of_getElem? (i := 0) rfl, rfl, rfl, rfl⟩) rfl (Nat.le_of_ble_eq_true rfl) (Nat.le_of_ble_eq_true rfl) (by decide +kernel) 3 (h0 := q3) rfl [0, 1, 2] [(h0, .inr (0, [.null, .ref q1, .ref q2, .null, .int 0, .int 0, .int 0])),
    (q1, .inl (cy 1, 20, .inl zI0)),
    (q2, .inl (cy 1, 20, .inl zI0))] rfl (by decide) (by decide) (st := [.ref q3, .ref h0]) (Nat.le_of_ble_eq_true rfl) (Nat.le_of_ble_eq_true rfl) (Nat.le_of_ble_eq_true rfl) (fun w1 hw => ?_)
  obtain ⟨q4, q5, q6, rfl⟩ := hw
  refine y_putF (pc := 28) (idx := 21) C hin 0 3 rfl (hc := rfl) (by decide) rfl (atW_in (i := 205) (by decide +kernel)) rfl (ty := .object "BlastFace$Shots") (by decide +kernel) rfl rfl (Nat.le_of_ble_eq_true rfl) (by decide +kernel) ?_
  refine y_aload (pc := 31) C 0 (k := 0) (by decide +kernel) rfl ?_
  refine y_aload (pc := 32) C 1 (k := 1) (by decide +kernel) rfl ?_
  refine y_putF (pc := 33) (idx := 25) C hin 0 0 rfl (hc := rfl) (by decide) rfl (atW_in (i := 199) (by decide +kernel)) rfl (ty := .object "BlastFace$Pattern") (by decide +kernel) rfl rfl (Nat.le_of_ble_eq_true rfl) (by decide +kernel) ?_
  exact hret _ _ _ (by decide +kernel) ⟨q1, q2, q3, q4, q5, q6, rfl⟩
def M_X3_init : MI := (yX3_init, cX3_init, 3, none, 2, 2, 40, false, 231, 230, 0, 91)
theorem ok_X3_init : okC M_X3_init = true := by decide +kernel
def W_X3_init (cy : Nat → ClassId) (p1 : Nat) (p2 : Nat) (h0 : Nat) (ws : va_W) : Prop := ∃ q1 q2 q3 q4 q5 q6 : Nat, ws = [(h0, .inr (2, [.ref p1, .ref p2, .ref q1, .ref q2, .ref q3, .int 0, .int 0, .int 0])),
    (q1, .inl (cy 1, 20, .inl zI0)),
    (q2, .inl (cy 1, 20, .inl zI0)),
    (q3, .inr (6, [.ref q4, .ref q5, .ref q6, .int 0, .int 0, .int 0, .int 0])),
    (q4, .inl (cy 1, 40, .inl zI0)),
    (q5, .inl (cy 1, 40, .inl zI0)),
    (q6, .inl (cy 1, 40, .inl zI0))]
set_option maxRecDepth 100000 in
set_option maxHeartbeats 4000000 in
theorem c_X3_init (l : Launch) (D : va_G) (cy : Nat → ClassId) (ad : Nat → Nat) (p1 : Nat) (p2 : Nat) : CtM l D cy ad M_X3_init 2 [.null, .null, .null, .null, .null, .int 0, .int 0, .int 0] [.ref p1, .ref p2] 6 167 (W_X3_init cy p1 p2) := by
  refine ct_of ok_X3_init (fun h0 => Nat.le_of_ble_eq_true rfl) (fun p e s m below meth c Q A h0 hin C hret => ?_)
  refine y_aload (pc := 0) C 0 (k := 0) (by decide +kernel) rfl ?_
  refine y_obj (pc := 1) (idx := 3) C (atW_in (i := 232) (by decide +kernel)) oi_in oi_co (Nat.le_of_ble_eq_true rfl) (Nat.le_of_ble_eq_true rfl) (by decide +kernel) ?_
  refine y_aload (pc := 4) C 0 (k := 0) (by decide +kernel) rfl ?_
  refine y_bipush (pc := 5) C (n := 20) (x := 20) (by decide +kernel) (by decide) ?_
  refine y_newI (pc := 7) (N := 20) C ar_I (by decide) (by decide) (Nat.le_of_ble_eq_true rfl) (Nat.le_of_ble_eq_true rfl) (Nat.le_of_ble_eq_true rfl) (by decide +kernel) (fun q1 => ?_)
  refine y_putF (pc := 9) (idx := 9) C hin 0 2 rfl (hc := rfl) (by decide) rfl (atW_in (i := 237) (by decide +kernel)) rfl (ty := .array .int) (by decide +kernel) rfl rfl (Nat.le_of_ble_eq_true rfl) (by decide +kernel) ?_
  refine y_aload (pc := 12) C 0 (k := 0) (by decide +kernel) rfl ?_
  refine y_bipush (pc := 13) C (n := 20) (x := 20) (by decide +kernel) (by decide) ?_
  refine y_newI (pc := 15) (N := 20) C ar_I (by decide) (by decide) (Nat.le_of_ble_eq_true rfl) (Nat.le_of_ble_eq_true rfl) (Nat.le_of_ble_eq_true rfl) (by decide +kernel) (fun q2 => ?_)
  refine y_putF (pc := 17) (idx := 15) C hin 0 3 rfl (hc := rfl) (by decide) rfl (atW_in (i := 239) (by decide +kernel)) rfl (ty := .array .int) (by decide +kernel) rfl rfl (Nat.le_of_ble_eq_true rfl) (by decide +kernel) ?_
  refine y_aload (pc := 20) C 0 (k := 0) (by decide +kernel) rfl ?_
  refine y_new (pc := 21) (idx := 18) C (fs := [.null, .null, .null, .int 0, .int 0, .int 0, .int 0]) (hc := (rfl : vwCl[6]? = some _)) tyX7 tyX7_ok (atW_in (i := 233) (by decide +kernel)) (atW_in (i := 161) (by decide +kernel)) (atW_in (i := 90) (by decide +kernel)) (by decide +kernel) (Nat.le_of_ble_eq_true rfl) (Nat.le_of_ble_eq_true rfl) (by decide +kernel) (fun q3 => ?_)
  refine y_dup (pc := 24) C (by decide +kernel) ?_
  refine y_call (pc := 25) (idx := 20) C (c_X7_init l D cy ad) ok_X7_init (Or.inr ⟨_, List.mem_of_getElem? (i := 1) rfl, rfl, rfl, rfl⟩) rfl (Nat.le_of_ble_eq_true rfl) (Nat.le_of_ble_eq_true rfl) (by decide +kernel) 3 (h0 := q3) rfl [0, 1, 2] [(h0, .inr (2, [.null, .null, .ref q1, .ref q2, .null, .int 0, .int 0, .int 0])),
    (q1, .inl (cy 1, 20, .inl zI0)),
    (q2, .inl (cy 1, 20, .inl zI0))] rfl (by decide) (by decide) (st := [.ref q3, .ref h0]) (Nat.le_of_ble_eq_true rfl) (Nat.le_of_ble_eq_true rfl) (Nat.le_of_ble_eq_true rfl) (fun w1 hw => ?_)
  obtain ⟨q4, q5, q6, rfl⟩ := hw
  refine y_putF (pc := 28) (idx := 21) C hin 0 4 rfl (hc := rfl) (by decide) rfl (atW_in (i := 240) (by decide +kernel)) rfl (ty := .object "BlastFace$Shots") (by decide +kernel) rfl rfl (Nat.le_of_ble_eq_true rfl) (by decide +kernel) ?_
  refine y_aload (pc := 31) C 0 (k := 0) (by decide +kernel) rfl ?_
  refine y_aload (pc := 32) C 1 (k := 1) (by decide +kernel) rfl ?_
  refine y_putF (pc := 33) (idx := 25) C hin 0 0 rfl (hc := rfl) (by decide) rfl (atW_in (i := 235) (by decide +kernel)) rfl (ty := .object "BlastFace$Pattern") (by decide +kernel) rfl rfl (Nat.le_of_ble_eq_true rfl) (by decide +kernel) ?_
  refine y_aload (pc := 36) C 0 (k := 0) (by decide +kernel) rfl ?_
  refine y_aload (pc := 37) C 2 (k := 2) (by decide +kernel) rfl ?_
  refine y_putF (pc := 38) (idx := 29) C hin 0 1 rfl (hc := rfl) (by decide) rfl (atW_in (i := 236) (by decide +kernel)) rfl (ty := .object "BlastFace$Blast") (by decide +kernel) rfl rfl (Nat.le_of_ble_eq_true rfl) (by decide +kernel) ?_
  exact hret _ _ _ (by decide +kernel) ⟨q1, q2, q3, q4, q5, q6, rfl⟩
def M_X5_init : MI := (yX5_init, cX5_init, 1, none, 0, 1, 20, false, 267, 266, 0, 92)
theorem ok_X5_init : okC M_X5_init = true := by decide +kernel
def W_X5_init (cy : Nat → ClassId) (h0 : Nat) (ws : va_W) : Prop := ∃ q1 : Nat, ws = [(h0, .inr (4, [.ref q1, .int 0])),
    (q1, .inl (cy 2, 1239, .inl zI0))]
set_option maxRecDepth 100000 in
set_option maxHeartbeats 4000000 in
theorem c_X5_init (l : Launch) (D : va_G) (cy : Nat → ClassId) (ad : Nat → Nat) : CtM l D cy ad M_X5_init 4 [.null, .int 0] [] 1 1239 (W_X5_init cy) := by
  refine ct_of ok_X5_init (fun h0 => Nat.le_of_ble_eq_true rfl) (fun p e s m below meth c Q A h0 hin C hret => ?_)
  refine y_aload (pc := 0) C 0 (k := 0) (by decide +kernel) rfl ?_
  refine y_obj (pc := 1) (idx := 3) C (atW_in (i := 268) (by decide +kernel)) oi_in oi_co (Nat.le_of_ble_eq_true rfl) (Nat.le_of_ble_eq_true rfl) (by decide +kernel) ?_
  refine y_aload (pc := 4) C 0 (k := 0) (by decide +kernel) rfl ?_
  refine y_sipush (pc := 5) C (n := 1239) (x := 1239) (by decide +kernel) (by decide) ?_
  refine y_newB (pc := 8) (N := 1239) C ar_B (by decide) (by decide) (Nat.le_of_ble_eq_true rfl) (Nat.le_of_ble_eq_true rfl) (Nat.le_of_ble_eq_true rfl) (by decide +kernel) (fun q1 => ?_)
  refine y_putF (pc := 10) (idx := 11) C hin 0 0 rfl (hc := rfl) (by decide) rfl (atW_in (i := 269) (by decide +kernel)) rfl (ty := .array .byte) (by decide +kernel) rfl rfl (Nat.le_of_ble_eq_true rfl) (by decide +kernel) ?_
  exact hret _ _ _ (by decide +kernel) ⟨q1, rfl⟩
def M_X4_init : MI := (yX4_init, cX4_init, 1, none, 0, 1, 20, false, 283, 282, 0, 93)
theorem ok_X4_init : okC M_X4_init = true := by decide +kernel
def W_X4_init (cy : Nat → ClassId) (h0 : Nat) (ws : va_W) : Prop := ∃ q1 q2 q3 q4 : Nat, ws = [(h0, .inr (3, [.ref q1, .int 0, .int 0, .ref q2, .ref q3, .ref q4, .int 0, .int 0, .int 0])),
    (q1, .inl (cy 2, 80, .inl zI0)),
    (q2, .inl (cy 1, 13, .inl zI0)),
    (q3, .inl (cy 1, 13, .inl zI0)),
    (q4, .inl (cy 1, 78, .inl zI0))]
set_option maxRecDepth 100000 in
set_option maxHeartbeats 4000000 in
theorem c_X4_init (l : Launch) (D : va_G) (cy : Nat → ClassId) (ad : Nat → Nat) : CtM l D cy ad M_X4_init 3 [.null, .int 0, .int 0, .null, .null, .null, .int 0, .int 0, .int 0] [] 4 184 (W_X4_init cy) := by
  refine ct_of ok_X4_init (fun h0 => Nat.le_of_ble_eq_true rfl) (fun p e s m below meth c Q A h0 hin C hret => ?_)
  refine y_aload (pc := 0) C 0 (k := 0) (by decide +kernel) rfl ?_
  refine y_obj (pc := 1) (idx := 3) C (atW_in (i := 284) (by decide +kernel)) oi_in oi_co (Nat.le_of_ble_eq_true rfl) (Nat.le_of_ble_eq_true rfl) (by decide +kernel) ?_
  refine y_aload (pc := 4) C 0 (k := 0) (by decide +kernel) rfl ?_
  refine y_bipush (pc := 5) C (n := 80) (x := 80) (by decide +kernel) (by decide) ?_
  refine y_newB (pc := 7) (N := 80) C ar_B (by decide) (by decide) (Nat.le_of_ble_eq_true rfl) (Nat.le_of_ble_eq_true rfl) (Nat.le_of_ble_eq_true rfl) (by decide +kernel) (fun q1 => ?_)
  refine y_putF (pc := 9) (idx := 11) C hin 0 0 rfl (hc := rfl) (by decide) rfl (atW_in (i := 285) (by decide +kernel)) rfl (ty := .array .byte) (by decide +kernel) rfl rfl (Nat.le_of_ble_eq_true rfl) (by decide +kernel) ?_
  refine y_aload (pc := 12) C 0 (k := 0) (by decide +kernel) rfl ?_
  refine y_bipush (pc := 13) C (n := 13) (x := 13) (by decide +kernel) (by decide) ?_
  refine y_newI (pc := 15) (N := 13) C ar_I (by decide) (by decide) (Nat.le_of_ble_eq_true rfl) (Nat.le_of_ble_eq_true rfl) (Nat.le_of_ble_eq_true rfl) (by decide +kernel) (fun q2 => ?_)
  refine y_putF (pc := 17) (idx := 15) C hin 0 3 rfl (hc := rfl) (by decide) rfl (atW_in (i := 290) (by decide +kernel)) rfl (ty := .array .int) (by decide +kernel) rfl rfl (Nat.le_of_ble_eq_true rfl) (by decide +kernel) ?_
  refine y_aload (pc := 20) C 0 (k := 0) (by decide +kernel) rfl ?_
  refine y_bipush (pc := 21) C (n := 13) (x := 13) (by decide +kernel) (by decide) ?_
  refine y_newI (pc := 23) (N := 13) C ar_I (by decide) (by decide) (Nat.le_of_ble_eq_true rfl) (Nat.le_of_ble_eq_true rfl) (Nat.le_of_ble_eq_true rfl) (by decide +kernel) (fun q3 => ?_)
  refine y_putF (pc := 25) (idx := 19) C hin 0 4 rfl (hc := rfl) (by decide) rfl (atW_in (i := 291) (by decide +kernel)) rfl (ty := .array .int) (by decide +kernel) rfl rfl (Nat.le_of_ble_eq_true rfl) (by decide +kernel) ?_
  refine y_aload (pc := 28) C 0 (k := 0) (by decide +kernel) rfl ?_
  refine y_bipush (pc := 29) C (n := 78) (x := 78) (by decide +kernel) (by decide) ?_
  refine y_newI (pc := 31) (N := 78) C ar_I (by decide) (by decide) (Nat.le_of_ble_eq_true rfl) (Nat.le_of_ble_eq_true rfl) (Nat.le_of_ble_eq_true rfl) (by decide +kernel) (fun q4 => ?_)
  refine y_putF (pc := 33) (idx := 22) C hin 0 5 rfl (hc := rfl) (by decide) rfl (atW_in (i := 292) (by decide +kernel)) rfl (ty := .array .int) (by decide +kernel) rfl rfl (Nat.le_of_ble_eq_true rfl) (by decide +kernel) ?_
  exact hret _ _ _ (by decide +kernel) ⟨q1, q2, q3, q4, rfl⟩
def M_X6_init : MI := (yX6_init, cX6_init, 1, none, 0, 1, 20, false, 319, 318, 0, 94)
theorem ok_X6_init : okC M_X6_init = true := by decide +kernel
def fX6_6 : Nat → Int32 := upd (upd (upd (upd (zI0) 0 (-1)) 1 (-1)) 2 (-1)) 3 (-1)
def W_X6_init (cy : Nat → ClassId) (h0 : Nat) (ws : va_W) : Prop := ∃ q1 q2 q3 q4 q5 q6 : Nat, ws = [(h0, .inr (5, [.ref q1, .ref q6])),
    (q1, .inl (cy 5, 4, .inr (.inr (.inr (.inr (fun i => ([some q2, some q3, some q4, some q5] : List (Option Nat)).getD i none)))))),
    (q2, .inl (cy 4, 40, .inr (.inl zJ0))),
    (q3, .inl (cy 4, 40, .inr (.inl zJ0))),
    (q4, .inl (cy 4, 40, .inr (.inl zJ0))),
    (q5, .inl (cy 4, 40, .inr (.inl zJ0))),
    (q6, .inl (cy 1, 4, .inl fX6_6))]
set_option maxRecDepth 100000 in
set_option maxHeartbeats 4000000 in
theorem c_X6_init (l : Launch) (D : va_G) (cy : Nat → ClassId) (ad : Nat → Nat) : CtM l D cy ad M_X6_init 5 [.null, .null] [] 6 168 (W_X6_init cy) := by
  refine ct_of ok_X6_init (fun h0 => Nat.le_of_ble_eq_true rfl) (fun p e s m below meth c Q A h0 hin C hret => ?_)
  refine y_aload (pc := 0) C 0 (k := 0) (by decide +kernel) rfl ?_
  refine y_obj (pc := 1) (idx := 3) C (atW_in (i := 320) (by decide +kernel)) oi_in oi_co (Nat.le_of_ble_eq_true rfl) (Nat.le_of_ble_eq_true rfl) (by decide +kernel) ?_
  refine y_aload (pc := 4) C 0 (k := 0) (by decide +kernel) rfl ?_
  refine y_iconst (pc := 5) C (n := 4) (x := 4) (by decide +kernel) (by decide) ?_
  refine y_bipush (pc := 6) C (n := 40) (x := 40) (by decide +kernel) (by decide) ?_
  refine y_mna (pc := 8) (idx := 11) C ar_J (atW_in (i := 321) (by decide +kernel)) (Nat.le_of_ble_eq_true rfl) (Nat.le_of_ble_eq_true rfl) (by decide +kernel) (fun q1 q2 q3 q4 q5 => ?_)
  refine y_putF (pc := 12) (idx := 13) C hin 0 0 rfl (hc := rfl) (by decide) rfl (atW_in (i := 323) (by decide +kernel)) rfl (ty := .array (.array .long)) (by decide +kernel) rfl rfl (Nat.le_of_ble_eq_true rfl) (by decide +kernel) ?_
  refine y_aload (pc := 15) C 0 (k := 0) (by decide +kernel) rfl ?_
  refine y_iconst (pc := 16) C (n := 4) (x := 4) (by decide +kernel) (by decide) ?_
  refine y_newI (pc := 17) (N := 4) C ar_I (by decide) (by decide) (Nat.le_of_ble_eq_true rfl) (Nat.le_of_ble_eq_true rfl) (Nat.le_of_ble_eq_true rfl) (by decide +kernel) (fun q6 => ?_)
  refine y_dup (pc := 19) C (by decide +kernel) ?_
  refine y_iconst (pc := 20) C (n := 0) (x := 0) (by decide +kernel) (by decide) ?_
  refine y_iconst (pc := 21) C (n := (-1)) (x := (-1)) (by decide +kernel) (by decide) ?_
  refine y_iastL (pc := 22) C (j := 0) rfl (by unfold vp_in; decide) (by decide +kernel) ?_
  refine y_dup (pc := 23) C (by decide +kernel) ?_
  refine y_iconst (pc := 24) C (n := 1) (x := 1) (by decide +kernel) (by decide) ?_
  refine y_iconst (pc := 25) C (n := (-1)) (x := (-1)) (by decide +kernel) (by decide) ?_
  refine y_iastL (pc := 26) C (j := 1) rfl (by unfold vp_in; decide) (by decide +kernel) ?_
  refine y_dup (pc := 27) C (by decide +kernel) ?_
  refine y_iconst (pc := 28) C (n := 2) (x := 2) (by decide +kernel) (by decide) ?_
  refine y_iconst (pc := 29) C (n := (-1)) (x := (-1)) (by decide +kernel) (by decide) ?_
  refine y_iastL (pc := 30) C (j := 2) rfl (by unfold vp_in; decide) (by decide +kernel) ?_
  refine y_dup (pc := 31) C (by decide +kernel) ?_
  refine y_iconst (pc := 32) C (n := 3) (x := 3) (by decide +kernel) (by decide) ?_
  refine y_iconst (pc := 33) C (n := (-1)) (x := (-1)) (by decide +kernel) (by decide) ?_
  refine y_iastL (pc := 34) C (j := 3) rfl (by unfold vp_in; decide) (by decide +kernel) ?_
  refine y_putF (pc := 35) (idx := 16) C hin 0 1 rfl (hc := rfl) (by decide) rfl (atW_in (i := 325) (by decide +kernel)) rfl (ty := .array .int) (by decide +kernel) rfl rfl (Nat.le_of_ble_eq_true rfl) (by decide +kernel) ?_
  exact hret _ _ _ (by decide +kernel) ⟨q1, q2, q3, q4, q5, q6, rfl⟩
