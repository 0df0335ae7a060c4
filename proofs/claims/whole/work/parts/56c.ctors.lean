def M_X9_init : MI := (yX9_init, cX9_init, 1, none, 0, 1, 20, false, 1088, 1087, 0, 95)
theorem ok_X9_init : okC M_X9_init = true := by decide +kernel
def fX9_1 : Nat → Int32 := upd (upd (upd (zI0) 282 8) 283 100) 284 25
def fX9_11 : Nat → Int32 := upd (upd (upd (upd (upd (upd (upd (upd (upd (upd (upd (upd (upd (upd (upd (upd (upd (upd (upd (upd (upd (upd (upd (upd (upd (upd (upd (upd (upd (upd (upd (upd (upd (upd (upd (upd (upd (upd (upd (upd (upd (upd (upd (upd (upd (upd (upd (upd (upd (upd (upd (upd (upd (upd (upd (upd (zI0) 0 104) 1 111) 2 108) 3 101) 4 115) 5 108) 6 105) 7 109) 8 100) 9 101) 10 99) 11 107) 12 104) 13 101) 14 97) 15 118) 16 121) 17 98) 18 117) 19 102) 20 102) 21 101) 22 114) 23 100) 24 117) 25 109) 26 109) 27 121) 28 119) 29 105) 30 114) 31 101) 32 115) 33 116) 34 97) 35 114) 36 116) 37 119) 38 105) 39 110) 40 100) 41 111) 42 119) 43 108) 44 105) 45 109) 46 105) 47 116) 48 112) 49 97) 50 99) 51 101) 52 100) 53 101) 54 97) 55 100
def fX9_12 : Nat → Int32 := upd (upd (upd (upd (upd (upd (upd (upd (upd (upd (upd (upd (upd (zI0) 0 0) 1 4) 2 8) 3 12) 4 17) 5 23) 6 28) 7 32) 8 37) 9 43) 10 48) 11 52) 12 56
def fX9_16 : Nat → Int32 := upd (upd (upd (upd (zI0) 0 (-1)) 1 (-1)) 2 (-1)) 3 (-1)
def W_X9_init (cy : Nat → ClassId) (h0 : Nat) (ws : va_W) : Prop := ∃ q1 q2 q3 q4 q5 q6 q7 q8 q9 q10 q11 q12 q13 q14 q15 q16 q17 q18 : Nat, ws = [(h0, .inr (8, [.ref q1, .ref q2, .ref q3, .int 0, .int 0, .ref q4, .ref q5, .int 0, .int 0, .ref q6, .ref q7, .ref q8, .int 0, .int 0, .int 0, .int 0, .int 0, .ref q9, .int 0, .ref q10, .int 0, .ref q11, .ref q12, .int 0, .int 0, .int 0, .int 0, .int 0, .ref q13, .ref q14, .int 0, .ref q15, .ref q16, .ref q17, .ref q18])),
    (q1, .inl (cy 1, 286, .inl fX9_1)),
    (q2, .inl (cy 1, 286, .inl zI0)),
    (q3, .inl (cy 1, 286, .inl zI0)),
    (q4, .inl (cy 1, 20, .inl zI0)),
    (q5, .inl (cy 1, 20, .inl zI0)),
    (q6, .inl (cy 1, 40, .inl zI0)),
    (q7, .inl (cy 1, 40, .inl zI0)),
    (q8, .inl (cy 1, 40, .inl zI0)),
    (q9, .inl (cy 1, 20, .inl zI0)),
    (q10, .inl (cy 1, 80, .inl zI0)),
    (q11, .inl (cy 3, 56, .inl fX9_11)),
    (q12, .inl (cy 1, 13, .inl fX9_12)),
    (q13, .inl (cy 1, 6, .inl zI0)),
    (q14, .inl (cy 1, 2000, .inl zI0)),
    (q15, .inl (cy 4, 160, .inr (.inl zJ0))),
    (q16, .inl (cy 1, 4, .inl fX9_16)),
    (q17, .inl (cy 1, 40, .inl zI0)),
    (q18, .inl (cy 4, 40, .inr (.inl zJ0)))]
set_option maxRecDepth 100000 in
set_option maxHeartbeats 4000000 in
theorem c_X9_init_0 {l : Launch} {D : va_G} {cy : Nat → ClassId} {ad : Nat → Nat} {p : Program} {e : Env} {s : State} {m : MethodId} {below : List Frame} {meth : Method} {c : Code} {Q : State → Prop} {A : Nat → Prop} {h0  : Nat} (hin : meth.name = "<init>") (C : Cy D cy ad A M_X9_init.2.2.1 p s m ([.ref h0] : List Value).toArray c M_X9_init.1.cls M_X9_init.2.1)
    (kk : ∀ q1 q2 q3 : Nat, Vy D A M_X9_init.2.2.1 p l e (rmC M_X9_init 18 3437) s m ([.ref h0] : List Value).toArray below meth c Q 31 (lv_args 0 (.ref h0 :: [])) [] [(h0, .inr (8, [.ref q1, .ref q2, .ref q3, .int 0, .int 0, .null, .null, .int 0, .int 0, .null, .null, .null, .int 0, .int 0, .int 0, .int 0, .int 0, .null, .int 0, .null, .int 0, .null, .null, .int 0, .int 0, .int 0, .int 0, .int 0, .null, .null, .int 0, .null, .null, .null, .null])), (q1, .inl (cy 1, 286, .inl zI0)), (q2, .inl (cy 1, 286, .inl zI0)), (q3, .inl (cy 1, 286, .inl zI0))] 3 858) : Vy D A M_X9_init.2.2.1 p l e (rmC M_X9_init 18 3437) s m ([.ref h0] : List Value).toArray below meth c Q 0 (lv_args 0 (.ref h0 :: [])) [] [(h0, .inr (8, [.null, .null, .null, .int 0, .int 0, .null, .null, .int 0, .int 0, .null, .null, .null, .int 0, .int 0, .int 0, .int 0, .int 0, .null, .int 0, .null, .int 0, .null, .null, .int 0, .int 0, .int 0, .int 0, .int 0, .null, .null, .int 0, .null, .null, .null, .null]))] 0 0 := by
  refine y_aload (pc := 0) C 0 (k := 0) (by decide +kernel) rfl ?_
  refine y_obj (pc := 1) (idx := 3) C (atW_in (i := 1089) (by decide +kernel)) oi_in oi_co (Nat.le_of_ble_eq_true rfl) (Nat.le_of_ble_eq_true rfl) (by decide +kernel) ?_
  refine y_aload (pc := 4) C 0 (k := 0) (by decide +kernel) rfl ?_
  refine y_sipush (pc := 5) C (n := 286) (x := 286) (by decide +kernel) (by decide) ?_
  refine y_newI (pc := 8) (N := 286) C ar_I (by decide) (by decide) (Nat.le_of_ble_eq_true rfl) (Nat.le_of_ble_eq_true rfl) (Nat.le_of_ble_eq_true rfl) (by decide +kernel) (fun q1 => ?_)
  refine y_putF (pc := 10) (idx := 11) C hin 0 0 rfl (hc := rfl) (by decide) rfl (atW_in (i := 1090) (by decide +kernel)) rfl (ty := .array .int) (by decide +kernel) rfl rfl (Nat.le_of_ble_eq_true rfl) (by decide +kernel) ?_
  refine y_aload (pc := 13) C 0 (k := 0) (by decide +kernel) rfl ?_
  refine y_sipush (pc := 14) C (n := 286) (x := 286) (by decide +kernel) (by decide) ?_
  refine y_newI (pc := 17) (N := 286) C ar_I (by decide) (by decide) (Nat.le_of_ble_eq_true rfl) (Nat.le_of_ble_eq_true rfl) (Nat.le_of_ble_eq_true rfl) (by decide +kernel) (fun q2 => ?_)
  refine y_putF (pc := 19) (idx := 15) C hin 0 1 rfl (hc := rfl) (by decide) rfl (atW_in (i := 1091) (by decide +kernel)) rfl (ty := .array .int) (by decide +kernel) rfl rfl (Nat.le_of_ble_eq_true rfl) (by decide +kernel) ?_
  refine y_aload (pc := 22) C 0 (k := 0) (by decide +kernel) rfl ?_
  refine y_sipush (pc := 23) C (n := 286) (x := 286) (by decide +kernel) (by decide) ?_
  refine y_newI (pc := 26) (N := 286) C ar_I (by decide) (by decide) (Nat.le_of_ble_eq_true rfl) (Nat.le_of_ble_eq_true rfl) (Nat.le_of_ble_eq_true rfl) (by decide +kernel) (fun q3 => ?_)
  refine y_putF (pc := 28) (idx := 18) C hin 0 2 rfl (hc := rfl) (by decide) rfl (atW_in (i := 1092) (by decide +kernel)) rfl (ty := .array .int) (by decide +kernel) rfl rfl (Nat.le_of_ble_eq_true rfl) (by decide +kernel) ?_
  exact kk q1 q2 q3
set_option maxRecDepth 100000 in
set_option maxHeartbeats 4000000 in
theorem c_X9_init_1 {l : Launch} {D : va_G} {cy : Nat → ClassId} {ad : Nat → Nat} {p : Program} {e : Env} {s : State} {m : MethodId} {below : List Frame} {meth : Method} {c : Code} {Q : State → Prop} {A : Nat → Prop} {h0 q1 q2 q3 : Nat} (hin : meth.name = "<init>") (C : Cy D cy ad A M_X9_init.2.2.1 p s m ([.ref h0] : List Value).toArray c M_X9_init.1.cls M_X9_init.2.1)
    (kk : ∀ q4 q5 q6 q7 : Nat, Vy D A M_X9_init.2.2.1 p l e (rmC M_X9_init 18 3437) s m ([.ref h0] : List Value).toArray below meth c Q 63 (lv_args 0 (.ref h0 :: [])) [] [(h0, .inr (8, [.ref q1, .ref q2, .ref q3, .int 0, .int 0, .ref q4, .ref q5, .int 0, .int 0, .ref q6, .ref q7, .null, .int 0, .int 0, .int 0, .int 0, .int 0, .null, .int 0, .null, .int 0, .null, .null, .int 0, .int 0, .int 0, .int 0, .int 0, .null, .null, .int 0, .null, .null, .null, .null])), (q1, .inl (cy 1, 286, .inl zI0)), (q2, .inl (cy 1, 286, .inl zI0)), (q3, .inl (cy 1, 286, .inl zI0)), (q4, .inl (cy 1, 20, .inl zI0)), (q5, .inl (cy 1, 20, .inl zI0)), (q6, .inl (cy 1, 40, .inl zI0)), (q7, .inl (cy 1, 40, .inl zI0))] 7 978) : Vy D A M_X9_init.2.2.1 p l e (rmC M_X9_init 18 3437) s m ([.ref h0] : List Value).toArray below meth c Q 31 (lv_args 0 (.ref h0 :: [])) [] [(h0, .inr (8, [.ref q1, .ref q2, .ref q3, .int 0, .int 0, .null, .null, .int 0, .int 0, .null, .null, .null, .int 0, .int 0, .int 0, .int 0, .int 0, .null, .int 0, .null, .int 0, .null, .null, .int 0, .int 0, .int 0, .int 0, .int 0, .null, .null, .int 0, .null, .null, .null, .null])), (q1, .inl (cy 1, 286, .inl zI0)), (q2, .inl (cy 1, 286, .inl zI0)), (q3, .inl (cy 1, 286, .inl zI0))] 3 858 := by
  refine y_aload (pc := 31) C 0 (k := 0) (by decide +kernel) rfl ?_
  refine y_bipush (pc := 32) C (n := 20) (x := 20) (by decide +kernel) (by decide) ?_
  refine y_newI (pc := 34) (N := 20) C ar_I (by decide) (by decide) (Nat.le_of_ble_eq_true rfl) (Nat.le_of_ble_eq_true rfl) (Nat.le_of_ble_eq_true rfl) (by decide +kernel) (fun q4 => ?_)
  refine y_putF (pc := 36) (idx := 21) C hin 0 5 rfl (hc := rfl) (by decide) rfl (atW_in (i := 1095) (by decide +kernel)) rfl (ty := .array .int) (by decide +kernel) rfl rfl (Nat.le_of_ble_eq_true rfl) (by decide +kernel) ?_
  refine y_aload (pc := 39) C 0 (k := 0) (by decide +kernel) rfl ?_
  refine y_bipush (pc := 40) C (n := 20) (x := 20) (by decide +kernel) (by decide) ?_
  refine y_newI (pc := 42) (N := 20) C ar_I (by decide) (by decide) (Nat.le_of_ble_eq_true rfl) (Nat.le_of_ble_eq_true rfl) (Nat.le_of_ble_eq_true rfl) (by decide +kernel) (fun q5 => ?_)
  refine y_putF (pc := 44) (idx := 24) C hin 0 6 rfl (hc := rfl) (by decide) rfl (atW_in (i := 1096) (by decide +kernel)) rfl (ty := .array .int) (by decide +kernel) rfl rfl (Nat.le_of_ble_eq_true rfl) (by decide +kernel) ?_
  refine y_aload (pc := 47) C 0 (k := 0) (by decide +kernel) rfl ?_
  refine y_bipush (pc := 48) C (n := 40) (x := 40) (by decide +kernel) (by decide) ?_
  refine y_newI (pc := 50) (N := 40) C ar_I (by decide) (by decide) (Nat.le_of_ble_eq_true rfl) (Nat.le_of_ble_eq_true rfl) (Nat.le_of_ble_eq_true rfl) (by decide +kernel) (fun q6 => ?_)
  refine y_putF (pc := 52) (idx := 27) C hin 0 9 rfl (hc := rfl) (by decide) rfl (atW_in (i := 1099) (by decide +kernel)) rfl (ty := .array .int) (by decide +kernel) rfl rfl (Nat.le_of_ble_eq_true rfl) (by decide +kernel) ?_
  refine y_aload (pc := 55) C 0 (k := 0) (by decide +kernel) rfl ?_
  refine y_bipush (pc := 56) C (n := 40) (x := 40) (by decide +kernel) (by decide) ?_
  refine y_newI (pc := 58) (N := 40) C ar_I (by decide) (by decide) (Nat.le_of_ble_eq_true rfl) (Nat.le_of_ble_eq_true rfl) (Nat.le_of_ble_eq_true rfl) (by decide +kernel) (fun q7 => ?_)
  refine y_putF (pc := 60) (idx := 30) C hin 0 10 rfl (hc := rfl) (by decide) rfl (atW_in (i := 1100) (by decide +kernel)) rfl (ty := .array .int) (by decide +kernel) rfl rfl (Nat.le_of_ble_eq_true rfl) (by decide +kernel) ?_
  exact kk q4 q5 q6 q7
set_option maxRecDepth 100000 in
set_option maxHeartbeats 4000000 in
theorem c_X9_init_2 {l : Launch} {D : va_G} {cy : Nat → ClassId} {ad : Nat → Nat} {p : Program} {e : Env} {s : State} {m : MethodId} {below : List Frame} {meth : Method} {c : Code} {Q : State → Prop} {A : Nat → Prop} {h0 q1 q2 q3 q4 q5 q6 q7 : Nat} (hin : meth.name = "<init>") (C : Cy D cy ad A M_X9_init.2.2.1 p s m ([.ref h0] : List Value).toArray c M_X9_init.1.cls M_X9_init.2.1)
    (kk : ∀ q8 q9 q10 : Nat, Vy D A M_X9_init.2.2.1 p l e (rmC M_X9_init 18 3437) s m ([.ref h0] : List Value).toArray below meth c Q 87 (lv_args 0 (.ref h0 :: [])) [] [(h0, .inr (8, [.ref q1, .ref q2, .ref q3, .int 0, .int 0, .ref q4, .ref q5, .int 0, .int 0, .ref q6, .ref q7, .ref q8, .int 0, .int 0, .int 0, .int 0, .int 0, .ref q9, .int 0, .ref q10, .int 0, .null, .null, .int 0, .int 0, .int 0, .int 0, .int 0, .null, .null, .int 0, .null, .null, .null, .null])), (q1, .inl (cy 1, 286, .inl zI0)), (q2, .inl (cy 1, 286, .inl zI0)), (q3, .inl (cy 1, 286, .inl zI0)), (q4, .inl (cy 1, 20, .inl zI0)), (q5, .inl (cy 1, 20, .inl zI0)), (q6, .inl (cy 1, 40, .inl zI0)), (q7, .inl (cy 1, 40, .inl zI0)), (q8, .inl (cy 1, 40, .inl zI0)), (q9, .inl (cy 1, 20, .inl zI0)), (q10, .inl (cy 1, 80, .inl zI0))] 10 1118) : Vy D A M_X9_init.2.2.1 p l e (rmC M_X9_init 18 3437) s m ([.ref h0] : List Value).toArray below meth c Q 63 (lv_args 0 (.ref h0 :: [])) [] [(h0, .inr (8, [.ref q1, .ref q2, .ref q3, .int 0, .int 0, .ref q4, .ref q5, .int 0, .int 0, .ref q6, .ref q7, .null, .int 0, .int 0, .int 0, .int 0, .int 0, .null, .int 0, .null, .int 0, .null, .null, .int 0, .int 0, .int 0, .int 0, .int 0, .null, .null, .int 0, .null, .null, .null, .null])), (q1, .inl (cy 1, 286, .inl zI0)), (q2, .inl (cy 1, 286, .inl zI0)), (q3, .inl (cy 1, 286, .inl zI0)), (q4, .inl (cy 1, 20, .inl zI0)), (q5, .inl (cy 1, 20, .inl zI0)), (q6, .inl (cy 1, 40, .inl zI0)), (q7, .inl (cy 1, 40, .inl zI0))] 7 978 := by
  refine y_aload (pc := 63) C 0 (k := 0) (by decide +kernel) rfl ?_
  refine y_bipush (pc := 64) C (n := 40) (x := 40) (by decide +kernel) (by decide) ?_
  refine y_newI (pc := 66) (N := 40) C ar_I (by decide) (by decide) (Nat.le_of_ble_eq_true rfl) (Nat.le_of_ble_eq_true rfl) (Nat.le_of_ble_eq_true rfl) (by decide +kernel) (fun q8 => ?_)
  refine y_putF (pc := 68) (idx := 33) C hin 0 11 rfl (hc := rfl) (by decide) rfl (atW_in (i := 1101) (by decide +kernel)) rfl (ty := .array .int) (by decide +kernel) rfl rfl (Nat.le_of_ble_eq_true rfl) (by decide +kernel) ?_
  refine y_aload (pc := 71) C 0 (k := 0) (by decide +kernel) rfl ?_
  refine y_bipush (pc := 72) C (n := 20) (x := 20) (by decide +kernel) (by decide) ?_
  refine y_newI (pc := 74) (N := 20) C ar_I (by decide) (by decide) (Nat.le_of_ble_eq_true rfl) (Nat.le_of_ble_eq_true rfl) (Nat.le_of_ble_eq_true rfl) (by decide +kernel) (fun q9 => ?_)
  refine y_putF (pc := 76) (idx := 36) C hin 0 17 rfl (hc := rfl) (by decide) rfl (atW_in (i := 1107) (by decide +kernel)) rfl (ty := .array .int) (by decide +kernel) rfl rfl (Nat.le_of_ble_eq_true rfl) (by decide +kernel) ?_
  refine y_aload (pc := 79) C 0 (k := 0) (by decide +kernel) rfl ?_
  refine y_bipush (pc := 80) C (n := 80) (x := 80) (by decide +kernel) (by decide) ?_
  refine y_newI (pc := 82) (N := 80) C ar_I (by decide) (by decide) (Nat.le_of_ble_eq_true rfl) (Nat.le_of_ble_eq_true rfl) (Nat.le_of_ble_eq_true rfl) (by decide +kernel) (fun q10 => ?_)
  refine y_putF (pc := 84) (idx := 39) C hin 0 19 rfl (hc := rfl) (by decide) rfl (atW_in (i := 1109) (by decide +kernel)) rfl (ty := .array .int) (by decide +kernel) rfl rfl (Nat.le_of_ble_eq_true rfl) (by decide +kernel) ?_
  exact kk q8 q9 q10
set_option maxRecDepth 100000 in
set_option maxHeartbeats 4000000 in
theorem c_X9_init_3 {l : Launch} {D : va_G} {cy : Nat → ClassId} {ad : Nat → Nat} {p : Program} {e : Env} {s : State} {m : MethodId} {below : List Frame} {meth : Method} {c : Code} {Q : State → Prop} {A : Nat → Prop} {h0 q1 q2 q3 q4 q5 q6 q7 q8 q9 q10 : Nat} (hin : meth.name = "<init>") (C : Cy D cy ad A M_X9_init.2.2.1 p s m ([.ref h0] : List Value).toArray c M_X9_init.1.cls M_X9_init.2.1)
    (kk : ∀ q11 : Nat, Vy D A M_X9_init.2.2.1 p l e (rmC M_X9_init 18 3437) s m ([.ref h0] : List Value).toArray below meth c Q 146 (lv_args 0 (.ref h0 :: [])) [.ref q11, .ref h0] ([(h0, .inr (8, [.ref q1, .ref q2, .ref q3, .int 0, .int 0, .ref q4, .ref q5, .int 0, .int 0, .ref q6, .ref q7, .ref q8, .int 0, .int 0, .int 0, .int 0, .int 0, .ref q9, .int 0, .ref q10, .int 0, .null, .null, .int 0, .int 0, .int 0, .int 0, .int 0, .null, .null, .int 0, .null, .null, .null, .null])), (q1, .inl (cy 1, 286, .inl zI0)), (q2, .inl (cy 1, 286, .inl zI0)), (q3, .inl (cy 1, 286, .inl zI0)), (q4, .inl (cy 1, 20, .inl zI0)), (q5, .inl (cy 1, 20, .inl zI0)), (q6, .inl (cy 1, 40, .inl zI0)), (q7, .inl (cy 1, 40, .inl zI0)), (q8, .inl (cy 1, 40, .inl zI0)), (q9, .inl (cy 1, 20, .inl zI0)), (q10, .inl (cy 1, 80, .inl zI0))] ++ [(q11, .inl (cy 3, 56, .inl (upd (upd (upd (upd (upd (upd (upd (upd (upd (upd (zI0) 0 104) 1 111) 2 108) 3 101) 4 115) 5 108) 6 105) 7 109) 8 100) 9 101)))]) 11 1174) : Vy D A M_X9_init.2.2.1 p l e (rmC M_X9_init 18 3437) s m ([.ref h0] : List Value).toArray below meth c Q 87 (lv_args 0 (.ref h0 :: [])) [] [(h0, .inr (8, [.ref q1, .ref q2, .ref q3, .int 0, .int 0, .ref q4, .ref q5, .int 0, .int 0, .ref q6, .ref q7, .ref q8, .int 0, .int 0, .int 0, .int 0, .int 0, .ref q9, .int 0, .ref q10, .int 0, .null, .null, .int 0, .int 0, .int 0, .int 0, .int 0, .null, .null, .int 0, .null, .null, .null, .null])), (q1, .inl (cy 1, 286, .inl zI0)), (q2, .inl (cy 1, 286, .inl zI0)), (q3, .inl (cy 1, 286, .inl zI0)), (q4, .inl (cy 1, 20, .inl zI0)), (q5, .inl (cy 1, 20, .inl zI0)), (q6, .inl (cy 1, 40, .inl zI0)), (q7, .inl (cy 1, 40, .inl zI0)), (q8, .inl (cy 1, 40, .inl zI0)), (q9, .inl (cy 1, 20, .inl zI0)), (q10, .inl (cy 1, 80, .inl zI0))] 10 1118 := by
  refine y_aload (pc := 87) C 0 (k := 0) (by decide +kernel) rfl ?_
  refine y_bipush (pc := 88) C (n := 56) (x := 56) (by decide +kernel) (by decide) ?_
  refine y_newC (pc := 90) (N := 56) C ar_C (by decide) (by decide) (Nat.le_of_ble_eq_true rfl) (Nat.le_of_ble_eq_true rfl) (Nat.le_of_ble_eq_true rfl) (by decide +kernel) (fun q11 => ?_)
  refine y_dup (pc := 92) C (by decide +kernel) ?_
  refine y_iconst (pc := 93) C (n := 0) (x := 0) (by decide +kernel) (by decide) ?_
  refine y_bipush (pc := 94) C (n := 104) (x := 104) (by decide +kernel) (by decide) ?_
  refine y_castL (pc := 96) C (j := 0) rfl (by unfold vp_in; decide) (y := 104) (by decide) (by decide +kernel) ?_
  refine y_dup (pc := 97) C (by decide +kernel) ?_
  refine y_iconst (pc := 98) C (n := 1) (x := 1) (by decide +kernel) (by decide) ?_
  refine y_bipush (pc := 99) C (n := 111) (x := 111) (by decide +kernel) (by decide) ?_
  refine y_castL (pc := 101) C (j := 1) rfl (by unfold vp_in; decide) (y := 111) (by decide) (by decide +kernel) ?_
  refine y_dup (pc := 102) C (by decide +kernel) ?_
  refine y_iconst (pc := 103) C (n := 2) (x := 2) (by decide +kernel) (by decide) ?_
  refine y_bipush (pc := 104) C (n := 108) (x := 108) (by decide +kernel) (by decide) ?_
  refine y_castL (pc := 106) C (j := 2) rfl (by unfold vp_in; decide) (y := 108) (by decide) (by decide +kernel) ?_
  refine y_dup (pc := 107) C (by decide +kernel) ?_
  refine y_iconst (pc := 108) C (n := 3) (x := 3) (by decide +kernel) (by decide) ?_
  refine y_bipush (pc := 109) C (n := 101) (x := 101) (by decide +kernel) (by decide) ?_
  refine y_castL (pc := 111) C (j := 3) rfl (by unfold vp_in; decide) (y := 101) (by decide) (by decide +kernel) ?_
  refine y_dup (pc := 112) C (by decide +kernel) ?_
  refine y_iconst (pc := 113) C (n := 4) (x := 4) (by decide +kernel) (by decide) ?_
  refine y_bipush (pc := 114) C (n := 115) (x := 115) (by decide +kernel) (by decide) ?_
  refine y_castL (pc := 116) C (j := 4) rfl (by unfold vp_in; decide) (y := 115) (by decide) (by decide +kernel) ?_
  refine y_dup (pc := 117) C (by decide +kernel) ?_
  refine y_iconst (pc := 118) C (n := 5) (x := 5) (by decide +kernel) (by decide) ?_
  refine y_bipush (pc := 119) C (n := 108) (x := 108) (by decide +kernel) (by decide) ?_
  refine y_castL (pc := 121) C (j := 5) rfl (by unfold vp_in; decide) (y := 108) (by decide) (by decide +kernel) ?_
  refine y_dup (pc := 122) C (by decide +kernel) ?_
  refine y_bipush (pc := 123) C (n := 6) (x := 6) (by decide +kernel) (by decide) ?_
  refine y_bipush (pc := 125) C (n := 105) (x := 105) (by decide +kernel) (by decide) ?_
  refine y_castL (pc := 127) C (j := 6) rfl (by unfold vp_in; decide) (y := 105) (by decide) (by decide +kernel) ?_
  refine y_dup (pc := 128) C (by decide +kernel) ?_
  refine y_bipush (pc := 129) C (n := 7) (x := 7) (by decide +kernel) (by decide) ?_
  refine y_bipush (pc := 131) C (n := 109) (x := 109) (by decide +kernel) (by decide) ?_
  refine y_castL (pc := 133) C (j := 7) rfl (by unfold vp_in; decide) (y := 109) (by decide) (by decide +kernel) ?_
  refine y_dup (pc := 134) C (by decide +kernel) ?_
  refine y_bipush (pc := 135) C (n := 8) (x := 8) (by decide +kernel) (by decide) ?_
  refine y_bipush (pc := 137) C (n := 100) (x := 100) (by decide +kernel) (by decide) ?_
  refine y_castL (pc := 139) C (j := 8) rfl (by unfold vp_in; decide) (y := 100) (by decide) (by decide +kernel) ?_
  refine y_dup (pc := 140) C (by decide +kernel) ?_
  refine y_bipush (pc := 141) C (n := 9) (x := 9) (by decide +kernel) (by decide) ?_
  refine y_bipush (pc := 143) C (n := 101) (x := 101) (by decide +kernel) (by decide) ?_
  refine y_castL (pc := 145) C (j := 9) rfl (by unfold vp_in; decide) (y := 101) (by decide) (by decide +kernel) ?_
  exact kk q11
set_option maxRecDepth 100000 in
set_option maxHeartbeats 4000000 in
theorem c_X9_init_4 {l : Launch} {D : va_G} {cy : Nat → ClassId} {ad : Nat → Nat} {p : Program} {e : Env} {s : State} {m : MethodId} {below : List Frame} {meth : Method} {c : Code} {Q : State → Prop} {A : Nat → Prop} {h0 q1 q2 q3 q4 q5 q6 q7 q8 q9 q10 q11 : Nat} (hin : meth.name = "<init>") (C : Cy D cy ad A M_X9_init.2.2.1 p s m ([.ref h0] : List Value).toArray c M_X9_init.1.cls M_X9_init.2.1)
    (kk : Vy D A M_X9_init.2.2.1 p l e (rmC M_X9_init 18 3437) s m ([.ref h0] : List Value).toArray below meth c Q 206 (lv_args 0 (.ref h0 :: [])) [.ref q11, .ref h0] ([(h0, .inr (8, [.ref q1, .ref q2, .ref q3, .int 0, .int 0, .ref q4, .ref q5, .int 0, .int 0, .ref q6, .ref q7, .ref q8, .int 0, .int 0, .int 0, .int 0, .int 0, .ref q9, .int 0, .ref q10, .int 0, .null, .null, .int 0, .int 0, .int 0, .int 0, .int 0, .null, .null, .int 0, .null, .null, .null, .null])), (q1, .inl (cy 1, 286, .inl zI0)), (q2, .inl (cy 1, 286, .inl zI0)), (q3, .inl (cy 1, 286, .inl zI0)), (q4, .inl (cy 1, 20, .inl zI0)), (q5, .inl (cy 1, 20, .inl zI0)), (q6, .inl (cy 1, 40, .inl zI0)), (q7, .inl (cy 1, 40, .inl zI0)), (q8, .inl (cy 1, 40, .inl zI0)), (q9, .inl (cy 1, 20, .inl zI0)), (q10, .inl (cy 1, 80, .inl zI0))] ++ [(q11, .inl (cy 3, 56, .inl (upd (upd (upd (upd (upd (upd (upd (upd (upd (upd (upd (upd (upd (upd (upd (upd (upd (upd (upd (upd (zI0) 0 104) 1 111) 2 108) 3 101) 4 115) 5 108) 6 105) 7 109) 8 100) 9 101) 10 99) 11 107) 12 104) 13 101) 14 97) 15 118) 16 121) 17 98) 18 117) 19 102)))]) 11 1174) : Vy D A M_X9_init.2.2.1 p l e (rmC M_X9_init 18 3437) s m ([.ref h0] : List Value).toArray below meth c Q 146 (lv_args 0 (.ref h0 :: [])) [.ref q11, .ref h0] ([(h0, .inr (8, [.ref q1, .ref q2, .ref q3, .int 0, .int 0, .ref q4, .ref q5, .int 0, .int 0, .ref q6, .ref q7, .ref q8, .int 0, .int 0, .int 0, .int 0, .int 0, .ref q9, .int 0, .ref q10, .int 0, .null, .null, .int 0, .int 0, .int 0, .int 0, .int 0, .null, .null, .int 0, .null, .null, .null, .null])), (q1, .inl (cy 1, 286, .inl zI0)), (q2, .inl (cy 1, 286, .inl zI0)), (q3, .inl (cy 1, 286, .inl zI0)), (q4, .inl (cy 1, 20, .inl zI0)), (q5, .inl (cy 1, 20, .inl zI0)), (q6, .inl (cy 1, 40, .inl zI0)), (q7, .inl (cy 1, 40, .inl zI0)), (q8, .inl (cy 1, 40, .inl zI0)), (q9, .inl (cy 1, 20, .inl zI0)), (q10, .inl (cy 1, 80, .inl zI0))] ++ [(q11, .inl (cy 3, 56, .inl (upd (upd (upd (upd (upd (upd (upd (upd (upd (upd (zI0) 0 104) 1 111) 2 108) 3 101) 4 115) 5 108) 6 105) 7 109) 8 100) 9 101)))]) 11 1174 := by
  refine y_dup (pc := 146) C (by decide +kernel) ?_
  refine y_bipush (pc := 147) C (n := 10) (x := 10) (by decide +kernel) (by decide) ?_
  refine y_bipush (pc := 149) C (n := 99) (x := 99) (by decide +kernel) (by decide) ?_
  refine y_castL (pc := 151) C (j := 10) rfl (by unfold vp_in; decide) (y := 99) (by decide) (by decide +kernel) ?_
  refine y_dup (pc := 152) C (by decide +kernel) ?_
  refine y_bipush (pc := 153) C (n := 11) (x := 11) (by decide +kernel) (by decide) ?_
  refine y_bipush (pc := 155) C (n := 107) (x := 107) (by decide +kernel) (by decide) ?_
  refine y_castL (pc := 157) C (j := 11) rfl (by unfold vp_in; decide) (y := 107) (by decide) (by decide +kernel) ?_
  refine y_dup (pc := 158) C (by decide +kernel) ?_
  refine y_bipush (pc := 159) C (n := 12) (x := 12) (by decide +kernel) (by decide) ?_
  refine y_bipush (pc := 161) C (n := 104) (x := 104) (by decide +kernel) (by decide) ?_
  refine y_castL (pc := 163) C (j := 12) rfl (by unfold vp_in; decide) (y := 104) (by decide) (by decide +kernel) ?_
  refine y_dup (pc := 164) C (by decide +kernel) ?_
  refine y_bipush (pc := 165) C (n := 13) (x := 13) (by decide +kernel) (by decide) ?_
  refine y_bipush (pc := 167) C (n := 101) (x := 101) (by decide +kernel) (by decide) ?_
  refine y_castL (pc := 169) C (j := 13) rfl (by unfold vp_in; decide) (y := 101) (by decide) (by decide +kernel) ?_
  refine y_dup (pc := 170) C (by decide +kernel) ?_
  refine y_bipush (pc := 171) C (n := 14) (x := 14) (by decide +kernel) (by decide) ?_
  refine y_bipush (pc := 173) C (n := 97) (x := 97) (by decide +kernel) (by decide) ?_
  refine y_castL (pc := 175) C (j := 14) rfl (by unfold vp_in; decide) (y := 97) (by decide) (by decide +kernel) ?_
  refine y_dup (pc := 176) C (by decide +kernel) ?_
  refine y_bipush (pc := 177) C (n := 15) (x := 15) (by decide +kernel) (by decide) ?_
  refine y_bipush (pc := 179) C (n := 118) (x := 118) (by decide +kernel) (by decide) ?_
  refine y_castL (pc := 181) C (j := 15) rfl (by unfold vp_in; decide) (y := 118) (by decide) (by decide +kernel) ?_
  refine y_dup (pc := 182) C (by decide +kernel) ?_
  refine y_bipush (pc := 183) C (n := 16) (x := 16) (by decide +kernel) (by decide) ?_
  refine y_bipush (pc := 185) C (n := 121) (x := 121) (by decide +kernel) (by decide) ?_
  refine y_castL (pc := 187) C (j := 16) rfl (by unfold vp_in; decide) (y := 121) (by decide) (by decide +kernel) ?_
  refine y_dup (pc := 188) C (by decide +kernel) ?_
  refine y_bipush (pc := 189) C (n := 17) (x := 17) (by decide +kernel) (by decide) ?_
  refine y_bipush (pc := 191) C (n := 98) (x := 98) (by decide +kernel) (by decide) ?_
  refine y_castL (pc := 193) C (j := 17) rfl (by unfold vp_in; decide) (y := 98) (by decide) (by decide +kernel) ?_
  refine y_dup (pc := 194) C (by decide +kernel) ?_
  refine y_bipush (pc := 195) C (n := 18) (x := 18) (by decide +kernel) (by decide) ?_
  refine y_bipush (pc := 197) C (n := 117) (x := 117) (by decide +kernel) (by decide) ?_
  refine y_castL (pc := 199) C (j := 18) rfl (by unfold vp_in; decide) (y := 117) (by decide) (by decide +kernel) ?_
  refine y_dup (pc := 200) C (by decide +kernel) ?_
  refine y_bipush (pc := 201) C (n := 19) (x := 19) (by decide +kernel) (by decide) ?_
  refine y_bipush (pc := 203) C (n := 102) (x := 102) (by decide +kernel) (by decide) ?_
  refine y_castL (pc := 205) C (j := 19) rfl (by unfold vp_in; decide) (y := 102) (by decide) (by decide +kernel) ?_
  exact kk
set_option maxRecDepth 100000 in
set_option maxHeartbeats 4000000 in
theorem c_X9_init_5 {l : Launch} {D : va_G} {cy : Nat → ClassId} {ad : Nat → Nat} {p : Program} {e : Env} {s : State} {m : MethodId} {below : List Frame} {meth : Method} {c : Code} {Q : State → Prop} {A : Nat → Prop} {h0 q1 q2 q3 q4 q5 q6 q7 q8 q9 q10 q11 : Nat} (hin : meth.name = "<init>") (C : Cy D cy ad A M_X9_init.2.2.1 p s m ([.ref h0] : List Value).toArray c M_X9_init.1.cls M_X9_init.2.1)
    (kk : Vy D A M_X9_init.2.2.1 p l e (rmC M_X9_init 18 3437) s m ([.ref h0] : List Value).toArray below meth c Q 266 (lv_args 0 (.ref h0 :: [])) [.ref q11, .ref h0] ([(h0, .inr (8, [.ref q1, .ref q2, .ref q3, .int 0, .int 0, .ref q4, .ref q5, .int 0, .int 0, .ref q6, .ref q7, .ref q8, .int 0, .int 0, .int 0, .int 0, .int 0, .ref q9, .int 0, .ref q10, .int 0, .null, .null, .int 0, .int 0, .int 0, .int 0, .int 0, .null, .null, .int 0, .null, .null, .null, .null])), (q1, .inl (cy 1, 286, .inl zI0)), (q2, .inl (cy 1, 286, .inl zI0)), (q3, .inl (cy 1, 286, .inl zI0)), (q4, .inl (cy 1, 20, .inl zI0)), (q5, .inl (cy 1, 20, .inl zI0)), (q6, .inl (cy 1, 40, .inl zI0)), (q7, .inl (cy 1, 40, .inl zI0)), (q8, .inl (cy 1, 40, .inl zI0)), (q9, .inl (cy 1, 20, .inl zI0)), (q10, .inl (cy 1, 80, .inl zI0))] ++ [(q11, .inl (cy 3, 56, .inl (upd (upd (upd (upd (upd (upd (upd (upd (upd (upd (upd (upd (upd (upd (upd (upd (upd (upd (upd (upd (upd (upd (upd (upd (upd (upd (upd (upd (upd (upd (zI0) 0 104) 1 111) 2 108) 3 101) 4 115) 5 108) 6 105) 7 109) 8 100) 9 101) 10 99) 11 107) 12 104) 13 101) 14 97) 15 118) 16 121) 17 98) 18 117) 19 102) 20 102) 21 101) 22 114) 23 100) 24 117) 25 109) 26 109) 27 121) 28 119) 29 105)))]) 11 1174) : Vy D A M_X9_init.2.2.1 p l e (rmC M_X9_init 18 3437) s m ([.ref h0] : List Value).toArray below meth c Q 206 (lv_args 0 (.ref h0 :: [])) [.ref q11, .ref h0] ([(h0, .inr (8, [.ref q1, .ref q2, .ref q3, .int 0, .int 0, .ref q4, .ref q5, .int 0, .int 0, .ref q6, .ref q7, .ref q8, .int 0, .int 0, .int 0, .int 0, .int 0, .ref q9, .int 0, .ref q10, .int 0, .null, .null, .int 0, .int 0, .int 0, .int 0, .int 0, .null, .null, .int 0, .null, .null, .null, .null])), (q1, .inl (cy 1, 286, .inl zI0)), (q2, .inl (cy 1, 286, .inl zI0)), (q3, .inl (cy 1, 286, .inl zI0)), (q4, .inl (cy 1, 20, .inl zI0)), (q5, .inl (cy 1, 20, .inl zI0)), (q6, .inl (cy 1, 40, .inl zI0)), (q7, .inl (cy 1, 40, .inl zI0)), (q8, .inl (cy 1, 40, .inl zI0)), (q9, .inl (cy 1, 20, .inl zI0)), (q10, .inl (cy 1, 80, .inl zI0))] ++ [(q11, .inl (cy 3, 56, .inl (upd (upd (upd (upd (upd (upd (upd (upd (upd (upd (upd (upd (upd (upd (upd (upd (upd (upd (upd (upd (zI0) 0 104) 1 111) 2 108) 3 101) 4 115) 5 108) 6 105) 7 109) 8 100) 9 101) 10 99) 11 107) 12 104) 13 101) 14 97) 15 118) 16 121) 17 98) 18 117) 19 102)))]) 11 1174 := by
  refine y_dup (pc := 206) C (by decide +kernel) ?_
  refine y_bipush (pc := 207) C (n := 20) (x := 20) (by decide +kernel) (by decide) ?_
  refine y_bipush (pc := 209) C (n := 102) (x := 102) (by decide +kernel) (by decide) ?_
  refine y_castL (pc := 211) C (j := 20) rfl (by unfold vp_in; decide) (y := 102) (by decide) (by decide +kernel) ?_
  refine y_dup (pc := 212) C (by decide +kernel) ?_
  refine y_bipush (pc := 213) C (n := 21) (x := 21) (by decide +kernel) (by decide) ?_
  refine y_bipush (pc := 215) C (n := 101) (x := 101) (by decide +kernel) (by decide) ?_
  refine y_castL (pc := 217) C (j := 21) rfl (by unfold vp_in; decide) (y := 101) (by decide) (by decide +kernel) ?_
  refine y_dup (pc := 218) C (by decide +kernel) ?_
  refine y_bipush (pc := 219) C (n := 22) (x := 22) (by decide +kernel) (by decide) ?_
  refine y_bipush (pc := 221) C (n := 114) (x := 114) (by decide +kernel) (by decide) ?_
  refine y_castL (pc := 223) C (j := 22) rfl (by unfold vp_in; decide) (y := 114) (by decide) (by decide +kernel) ?_
  refine y_dup (pc := 224) C (by decide +kernel) ?_
  refine y_bipush (pc := 225) C (n := 23) (x := 23) (by decide +kernel) (by decide) ?_
  refine y_bipush (pc := 227) C (n := 100) (x := 100) (by decide +kernel) (by decide) ?_
  refine y_castL (pc := 229) C (j := 23) rfl (by unfold vp_in; decide) (y := 100) (by decide) (by decide +kernel) ?_
  refine y_dup (pc := 230) C (by decide +kernel) ?_
  refine y_bipush (pc := 231) C (n := 24) (x := 24) (by decide +kernel) (by decide) ?_
  refine y_bipush (pc := 233) C (n := 117) (x := 117) (by decide +kernel) (by decide) ?_
  refine y_castL (pc := 235) C (j := 24) rfl (by unfold vp_in; decide) (y := 117) (by decide) (by decide +kernel) ?_
  refine y_dup (pc := 236) C (by decide +kernel) ?_
  refine y_bipush (pc := 237) C (n := 25) (x := 25) (by decide +kernel) (by decide) ?_
  refine y_bipush (pc := 239) C (n := 109) (x := 109) (by decide +kernel) (by decide) ?_
  refine y_castL (pc := 241) C (j := 25) rfl (by unfold vp_in; decide) (y := 109) (by decide) (by decide +kernel) ?_
  refine y_dup (pc := 242) C (by decide +kernel) ?_
  refine y_bipush (pc := 243) C (n := 26) (x := 26) (by decide +kernel) (by decide) ?_
  refine y_bipush (pc := 245) C (n := 109) (x := 109) (by decide +kernel) (by decide) ?_
  refine y_castL (pc := 247) C (j := 26) rfl (by unfold vp_in; decide) (y := 109) (by decide) (by decide +kernel) ?_
  refine y_dup (pc := 248) C (by decide +kernel) ?_
  refine y_bipush (pc := 249) C (n := 27) (x := 27) (by decide +kernel) (by decide) ?_
  refine y_bipush (pc := 251) C (n := 121) (x := 121) (by decide +kernel) (by decide) ?_
  refine y_castL (pc := 253) C (j := 27) rfl (by unfold vp_in; decide) (y := 121) (by decide) (by decide +kernel) ?_
  refine y_dup (pc := 254) C (by decide +kernel) ?_
  refine y_bipush (pc := 255) C (n := 28) (x := 28) (by decide +kernel) (by decide) ?_
  refine y_bipush (pc := 257) C (n := 119) (x := 119) (by decide +kernel) (by decide) ?_
  refine y_castL (pc := 259) C (j := 28) rfl (by unfold vp_in; decide) (y := 119) (by decide) (by decide +kernel) ?_
  refine y_dup (pc := 260) C (by decide +kernel) ?_
  refine y_bipush (pc := 261) C (n := 29) (x := 29) (by decide +kernel) (by decide) ?_
  refine y_bipush (pc := 263) C (n := 105) (x := 105) (by decide +kernel) (by decide) ?_
  refine y_castL (pc := 265) C (j := 29) rfl (by unfold vp_in; decide) (y := 105) (by decide) (by decide +kernel) ?_
  exact kk
set_option maxRecDepth 100000 in
set_option maxHeartbeats 4000000 in
theorem c_X9_init_6 {l : Launch} {D : va_G} {cy : Nat → ClassId} {ad : Nat → Nat} {p : Program} {e : Env} {s : State} {m : MethodId} {below : List Frame} {meth : Method} {c : Code} {Q : State → Prop} {A : Nat → Prop} {h0 q1 q2 q3 q4 q5 q6 q7 q8 q9 q10 q11 : Nat} (hin : meth.name = "<init>") (C : Cy D cy ad A M_X9_init.2.2.1 p s m ([.ref h0] : List Value).toArray c M_X9_init.1.cls M_X9_init.2.1)
    (kk : Vy D A M_X9_init.2.2.1 p l e (rmC M_X9_init 18 3437) s m ([.ref h0] : List Value).toArray below meth c Q 326 (lv_args 0 (.ref h0 :: [])) [.ref q11, .ref h0] ([(h0, .inr (8, [.ref q1, .ref q2, .ref q3, .int 0, .int 0, .ref q4, .ref q5, .int 0, .int 0, .ref q6, .ref q7, .ref q8, .int 0, .int 0, .int 0, .int 0, .int 0, .ref q9, .int 0, .ref q10, .int 0, .null, .null, .int 0, .int 0, .int 0, .int 0, .int 0, .null, .null, .int 0, .null, .null, .null, .null])), (q1, .inl (cy 1, 286, .inl zI0)), (q2, .inl (cy 1, 286, .inl zI0)), (q3, .inl (cy 1, 286, .inl zI0)), (q4, .inl (cy 1, 20, .inl zI0)), (q5, .inl (cy 1, 20, .inl zI0)), (q6, .inl (cy 1, 40, .inl zI0)), (q7, .inl (cy 1, 40, .inl zI0)), (q8, .inl (cy 1, 40, .inl zI0)), (q9, .inl (cy 1, 20, .inl zI0)), (q10, .inl (cy 1, 80, .inl zI0))] ++ [(q11, .inl (cy 3, 56, .inl (upd (upd (upd (upd (upd (upd (upd (upd (upd (upd (upd (upd (upd (upd (upd (upd (upd (upd (upd (upd (upd (upd (upd (upd (upd (upd (upd (upd (upd (upd (upd (upd (upd (upd (upd (upd (upd (upd (upd (upd (zI0) 0 104) 1 111) 2 108) 3 101) 4 115) 5 108) 6 105) 7 109) 8 100) 9 101) 10 99) 11 107) 12 104) 13 101) 14 97) 15 118) 16 121) 17 98) 18 117) 19 102) 20 102) 21 101) 22 114) 23 100) 24 117) 25 109) 26 109) 27 121) 28 119) 29 105) 30 114) 31 101) 32 115) 33 116) 34 97) 35 114) 36 116) 37 119) 38 105) 39 110)))]) 11 1174) : Vy D A M_X9_init.2.2.1 p l e (rmC M_X9_init 18 3437) s m ([.ref h0] : List Value).toArray below meth c Q 266 (lv_args 0 (.ref h0 :: [])) [.ref q11, .ref h0] ([(h0, .inr (8, [.ref q1, .ref q2, .ref q3, .int 0, .int 0, .ref q4, .ref q5, .int 0, .int 0, .ref q6, .ref q7, .ref q8, .int 0, .int 0, .int 0, .int 0, .int 0, .ref q9, .int 0, .ref q10, .int 0, .null, .null, .int 0, .int 0, .int 0, .int 0, .int 0, .null, .null, .int 0, .null, .null, .null, .null])), (q1, .inl (cy 1, 286, .inl zI0)), (q2, .inl (cy 1, 286, .inl zI0)), (q3, .inl (cy 1, 286, .inl zI0)), (q4, .inl (cy 1, 20, .inl zI0)), (q5, .inl (cy 1, 20, .inl zI0)), (q6, .inl (cy 1, 40, .inl zI0)), (q7, .inl (cy 1, 40, .inl zI0)), (q8, .inl (cy 1, 40, .inl zI0)), (q9, .inl (cy 1, 20, .inl zI0)), (q10, .inl (cy 1, 80, .inl zI0))] ++ [(q11, .inl (cy 3, 56, .inl (upd (upd (upd (upd (upd (upd (upd (upd (upd (upd (upd (upd (upd (upd (upd (upd (upd (upd (upd (upd (upd (upd (upd (upd (upd (upd (upd (upd (upd (upd (zI0) 0 104) 1 111) 2 108) 3 101) 4 115) 5 108) 6 105) 7 109) 8 100) 9 101) 10 99) 11 107) 12 104) 13 101) 14 97) 15 118) 16 121) 17 98) 18 117) 19 102) 20 102) 21 101) 22 114) 23 100) 24 117) 25 109) 26 109) 27 121) 28 119) 29 105)))]) 11 1174 := by
  refine y_dup (pc := 266) C (by decide +kernel) ?_
  refine y_bipush (pc := 267) C (n := 30) (x := 30) (by decide +kernel) (by decide) ?_
  refine y_bipush (pc := 269) C (n := 114) (x := 114) (by decide +kernel) (by decide) ?_
  refine y_castL (pc := 271) C (j := 30) rfl (by unfold vp_in; decide) (y := 114) (by decide) (by decide +kernel) ?_
  refine y_dup (pc := 272) C (by decide +kernel) ?_
  refine y_bipush (pc := 273) C (n := 31) (x := 31) (by decide +kernel) (by decide) ?_
  refine y_bipush (pc := 275) C (n := 101) (x := 101) (by decide +kernel) (by decide) ?_
  refine y_castL (pc := 277) C (j := 31) rfl (by unfold vp_in; decide) (y := 101) (by decide) (by decide +kernel) ?_
  refine y_dup (pc := 278) C (by decide +kernel) ?_
  refine y_bipush (pc := 279) C (n := 32) (x := 32) (by decide +kernel) (by decide) ?_
  refine y_bipush (pc := 281) C (n := 115) (x := 115) (by decide +kernel) (by decide) ?_
  refine y_castL (pc := 283) C (j := 32) rfl (by unfold vp_in; decide) (y := 115) (by decide) (by decide +kernel) ?_
  refine y_dup (pc := 284) C (by decide +kernel) ?_
  refine y_bipush (pc := 285) C (n := 33) (x := 33) (by decide +kernel) (by decide) ?_
  refine y_bipush (pc := 287) C (n := 116) (x := 116) (by decide +kernel) (by decide) ?_
  refine y_castL (pc := 289) C (j := 33) rfl (by unfold vp_in; decide) (y := 116) (by decide) (by decide +kernel) ?_
  refine y_dup (pc := 290) C (by decide +kernel) ?_
  refine y_bipush (pc := 291) C (n := 34) (x := 34) (by decide +kernel) (by decide) ?_
  refine y_bipush (pc := 293) C (n := 97) (x := 97) (by decide +kernel) (by decide) ?_
  refine y_castL (pc := 295) C (j := 34) rfl (by unfold vp_in; decide) (y := 97) (by decide) (by decide +kernel) ?_
  refine y_dup (pc := 296) C (by decide +kernel) ?_
  refine y_bipush (pc := 297) C (n := 35) (x := 35) (by decide +kernel) (by decide) ?_
  refine y_bipush (pc := 299) C (n := 114) (x := 114) (by decide +kernel) (by decide) ?_
  refine y_castL (pc := 301) C (j := 35) rfl (by unfold vp_in; decide) (y := 114) (by decide) (by decide +kernel) ?_
  refine y_dup (pc := 302) C (by decide +kernel) ?_
  refine y_bipush (pc := 303) C (n := 36) (x := 36) (by decide +kernel) (by decide) ?_
  refine y_bipush (pc := 305) C (n := 116) (x := 116) (by decide +kernel) (by decide) ?_
  refine y_castL (pc := 307) C (j := 36) rfl (by unfold vp_in; decide) (y := 116) (by decide) (by decide +kernel) ?_
  refine y_dup (pc := 308) C (by decide +kernel) ?_
  refine y_bipush (pc := 309) C (n := 37) (x := 37) (by decide +kernel) (by decide) ?_
  refine y_bipush (pc := 311) C (n := 119) (x := 119) (by decide +kernel) (by decide) ?_
  refine y_castL (pc := 313) C (j := 37) rfl (by unfold vp_in; decide) (y := 119) (by decide) (by decide +kernel) ?_
  refine y_dup (pc := 314) C (by decide +kernel) ?_
  refine y_bipush (pc := 315) C (n := 38) (x := 38) (by decide +kernel) (by decide) ?_
  refine y_bipush (pc := 317) C (n := 105) (x := 105) (by decide +kernel) (by decide) ?_
  refine y_castL (pc := 319) C (j := 38) rfl (by unfold vp_in; decide) (y := 105) (by decide) (by decide +kernel) ?_
  refine y_dup (pc := 320) C (by decide +kernel) ?_
  refine y_bipush (pc := 321) C (n := 39) (x := 39) (by decide +kernel) (by decide) ?_
  refine y_bipush (pc := 323) C (n := 110) (x := 110) (by decide +kernel) (by decide) ?_
  refine y_castL (pc := 325) C (j := 39) rfl (by unfold vp_in; decide) (y := 110) (by decide) (by decide +kernel) ?_
  exact kk
set_option maxRecDepth 100000 in
set_option maxHeartbeats 4000000 in
theorem c_X9_init_7 {l : Launch} {D : va_G} {cy : Nat → ClassId} {ad : Nat → Nat} {p : Program} {e : Env} {s : State} {m : MethodId} {below : List Frame} {meth : Method} {c : Code} {Q : State → Prop} {A : Nat → Prop} {h0 q1 q2 q3 q4 q5 q6 q7 q8 q9 q10 q11 : Nat} (hin : meth.name = "<init>") (C : Cy D cy ad A M_X9_init.2.2.1 p s m ([.ref h0] : List Value).toArray c M_X9_init.1.cls M_X9_init.2.1)
    (kk : Vy D A M_X9_init.2.2.1 p l e (rmC M_X9_init 18 3437) s m ([.ref h0] : List Value).toArray below meth c Q 386 (lv_args 0 (.ref h0 :: [])) [.ref q11, .ref h0] ([(h0, .inr (8, [.ref q1, .ref q2, .ref q3, .int 0, .int 0, .ref q4, .ref q5, .int 0, .int 0, .ref q6, .ref q7, .ref q8, .int 0, .int 0, .int 0, .int 0, .int 0, .ref q9, .int 0, .ref q10, .int 0, .null, .null, .int 0, .int 0, .int 0, .int 0, .int 0, .null, .null, .int 0, .null, .null, .null, .null])), (q1, .inl (cy 1, 286, .inl zI0)), (q2, .inl (cy 1, 286, .inl zI0)), (q3, .inl (cy 1, 286, .inl zI0)), (q4, .inl (cy 1, 20, .inl zI0)), (q5, .inl (cy 1, 20, .inl zI0)), (q6, .inl (cy 1, 40, .inl zI0)), (q7, .inl (cy 1, 40, .inl zI0)), (q8, .inl (cy 1, 40, .inl zI0)), (q9, .inl (cy 1, 20, .inl zI0)), (q10, .inl (cy 1, 80, .inl zI0))] ++ [(q11, .inl (cy 3, 56, .inl (upd (upd (upd (upd (upd (upd (upd (upd (upd (upd (upd (upd (upd (upd (upd (upd (upd (upd (upd (upd (upd (upd (upd (upd (upd (upd (upd (upd (upd (upd (upd (upd (upd (upd (upd (upd (upd (upd (upd (upd (upd (upd (upd (upd (upd (upd (upd (upd (upd (upd (zI0) 0 104) 1 111) 2 108) 3 101) 4 115) 5 108) 6 105) 7 109) 8 100) 9 101) 10 99) 11 107) 12 104) 13 101) 14 97) 15 118) 16 121) 17 98) 18 117) 19 102) 20 102) 21 101) 22 114) 23 100) 24 117) 25 109) 26 109) 27 121) 28 119) 29 105) 30 114) 31 101) 32 115) 33 116) 34 97) 35 114) 36 116) 37 119) 38 105) 39 110) 40 100) 41 111) 42 119) 43 108) 44 105) 45 109) 46 105) 47 116) 48 112) 49 97)))]) 11 1174) : Vy D A M_X9_init.2.2.1 p l e (rmC M_X9_init 18 3437) s m ([.ref h0] : List Value).toArray below meth c Q 326 (lv_args 0 (.ref h0 :: [])) [.ref q11, .ref h0] ([(h0, .inr (8, [.ref q1, .ref q2, .ref q3, .int 0, .int 0, .ref q4, .ref q5, .int 0, .int 0, .ref q6, .ref q7, .ref q8, .int 0, .int 0, .int 0, .int 0, .int 0, .ref q9, .int 0, .ref q10, .int 0, .null, .null, .int 0, .int 0, .int 0, .int 0, .int 0, .null, .null, .int 0, .null, .null, .null, .null])), (q1, .inl (cy 1, 286, .inl zI0)), (q2, .inl (cy 1, 286, .inl zI0)), (q3, .inl (cy 1, 286, .inl zI0)), (q4, .inl (cy 1, 20, .inl zI0)), (q5, .inl (cy 1, 20, .inl zI0)), (q6, .inl (cy 1, 40, .inl zI0)), (q7, .inl (cy 1, 40, .inl zI0)), (q8, .inl (cy 1, 40, .inl zI0)), (q9, .inl (cy 1, 20, .inl zI0)), (q10, .inl (cy 1, 80, .inl zI0))] ++ [(q11, .inl (cy 3, 56, .inl (upd (upd (upd (upd (upd (upd (upd (upd (upd (upd (upd (upd (upd (upd (upd (upd (upd (upd (upd (upd (upd (upd (upd (upd (upd (upd (upd (upd (upd (upd (upd (upd (upd (upd (upd (upd (upd (upd (upd (upd (zI0) 0 104) 1 111) 2 108) 3 101) 4 115) 5 108) 6 105) 7 109) 8 100) 9 101) 10 99) 11 107) 12 104) 13 101) 14 97) 15 118) 16 121) 17 98) 18 117) 19 102) 20 102) 21 101) 22 114) 23 100) 24 117) 25 109) 26 109) 27 121) 28 119) 29 105) 30 114) 31 101) 32 115) 33 116) 34 97) 35 114) 36 116) 37 119) 38 105) 39 110)))]) 11 1174 := by
  refine y_dup (pc := 326) C (by decide +kernel) ?_
  refine y_bipush (pc := 327) C (n := 40) (x := 40) (by decide +kernel) (by decide) ?_
  refine y_bipush (pc := 329) C (n := 100) (x := 100) (by decide +kernel) (by decide) ?_
  refine y_castL (pc := 331) C (j := 40) rfl (by unfold vp_in; decide) (y := 100) (by decide) (by decide +kernel) ?_
  refine y_dup (pc := 332) C (by decide +kernel) ?_
  refine y_bipush (pc := 333) C (n := 41) (x := 41) (by decide +kernel) (by decide) ?_
  refine y_bipush (pc := 335) C (n := 111) (x := 111) (by decide +kernel) (by decide) ?_
  refine y_castL (pc := 337) C (j := 41) rfl (by unfold vp_in; decide) (y := 111) (by decide) (by decide +kernel) ?_
  refine y_dup (pc := 338) C (by decide +kernel) ?_
  refine y_bipush (pc := 339) C (n := 42) (x := 42) (by decide +kernel) (by decide) ?_
  refine y_bipush (pc := 341) C (n := 119) (x := 119) (by decide +kernel) (by decide) ?_
  refine y_castL (pc := 343) C (j := 42) rfl (by unfold vp_in; decide) (y := 119) (by decide) (by decide +kernel) ?_
  refine y_dup (pc := 344) C (by decide +kernel) ?_
  refine y_bipush (pc := 345) C (n := 43) (x := 43) (by decide +kernel) (by decide) ?_
  refine y_bipush (pc := 347) C (n := 108) (x := 108) (by decide +kernel) (by decide) ?_
  refine y_castL (pc := 349) C (j := 43) rfl (by unfold vp_in; decide) (y := 108) (by decide) (by decide +kernel) ?_
  refine y_dup (pc := 350) C (by decide +kernel) ?_
  refine y_bipush (pc := 351) C (n := 44) (x := 44) (by decide +kernel) (by decide) ?_
  refine y_bipush (pc := 353) C (n := 105) (x := 105) (by decide +kernel) (by decide) ?_
  refine y_castL (pc := 355) C (j := 44) rfl (by unfold vp_in; decide) (y := 105) (by decide) (by decide +kernel) ?_
  refine y_dup (pc := 356) C (by decide +kernel) ?_
  refine y_bipush (pc := 357) C (n := 45) (x := 45) (by decide +kernel) (by decide) ?_
  refine y_bipush (pc := 359) C (n := 109) (x := 109) (by decide +kernel) (by decide) ?_
  refine y_castL (pc := 361) C (j := 45) rfl (by unfold vp_in; decide) (y := 109) (by decide) (by decide +kernel) ?_
  refine y_dup (pc := 362) C (by decide +kernel) ?_
  refine y_bipush (pc := 363) C (n := 46) (x := 46) (by decide +kernel) (by decide) ?_
  refine y_bipush (pc := 365) C (n := 105) (x := 105) (by decide +kernel) (by decide) ?_
  refine y_castL (pc := 367) C (j := 46) rfl (by unfold vp_in; decide) (y := 105) (by decide) (by decide +kernel) ?_
  refine y_dup (pc := 368) C (by decide +kernel) ?_
  refine y_bipush (pc := 369) C (n := 47) (x := 47) (by decide +kernel) (by decide) ?_
  refine y_bipush (pc := 371) C (n := 116) (x := 116) (by decide +kernel) (by decide) ?_
  refine y_castL (pc := 373) C (j := 47) rfl (by unfold vp_in; decide) (y := 116) (by decide) (by decide +kernel) ?_
  refine y_dup (pc := 374) C (by decide +kernel) ?_
  refine y_bipush (pc := 375) C (n := 48) (x := 48) (by decide +kernel) (by decide) ?_
  refine y_bipush (pc := 377) C (n := 112) (x := 112) (by decide +kernel) (by decide) ?_
  refine y_castL (pc := 379) C (j := 48) rfl (by unfold vp_in; decide) (y := 112) (by decide) (by decide +kernel) ?_
  refine y_dup (pc := 380) C (by decide +kernel) ?_
  refine y_bipush (pc := 381) C (n := 49) (x := 49) (by decide +kernel) (by decide) ?_
  refine y_bipush (pc := 383) C (n := 97) (x := 97) (by decide +kernel) (by decide) ?_
  refine y_castL (pc := 385) C (j := 49) rfl (by unfold vp_in; decide) (y := 97) (by decide) (by decide +kernel) ?_
  exact kk
set_option maxRecDepth 100000 in
set_option maxHeartbeats 4000000 in
theorem c_X9_init_8 {l : Launch} {D : va_G} {cy : Nat → ClassId} {ad : Nat → Nat} {p : Program} {e : Env} {s : State} {m : MethodId} {below : List Frame} {meth : Method} {c : Code} {Q : State → Prop} {A : Nat → Prop} {h0 q1 q2 q3 q4 q5 q6 q7 q8 q9 q10 q11 : Nat} (hin : meth.name = "<init>") (C : Cy D cy ad A M_X9_init.2.2.1 p s m ([.ref h0] : List Value).toArray c M_X9_init.1.cls M_X9_init.2.1)
    (kk : Vy D A M_X9_init.2.2.1 p l e (rmC M_X9_init 18 3437) s m ([.ref h0] : List Value).toArray below meth c Q 425 (lv_args 0 (.ref h0 :: [])) [] [(h0, .inr (8, [.ref q1, .ref q2, .ref q3, .int 0, .int 0, .ref q4, .ref q5, .int 0, .int 0, .ref q6, .ref q7, .ref q8, .int 0, .int 0, .int 0, .int 0, .int 0, .ref q9, .int 0, .ref q10, .int 0, .ref q11, .null, .int 0, .int 0, .int 0, .int 0, .int 0, .null, .null, .int 0, .null, .null, .null, .null])), (q1, .inl (cy 1, 286, .inl zI0)), (q2, .inl (cy 1, 286, .inl zI0)), (q3, .inl (cy 1, 286, .inl zI0)), (q4, .inl (cy 1, 20, .inl zI0)), (q5, .inl (cy 1, 20, .inl zI0)), (q6, .inl (cy 1, 40, .inl zI0)), (q7, .inl (cy 1, 40, .inl zI0)), (q8, .inl (cy 1, 40, .inl zI0)), (q9, .inl (cy 1, 20, .inl zI0)), (q10, .inl (cy 1, 80, .inl zI0)), (q11, .inl (cy 3, 56, .inl (upd (upd (upd (upd (upd (upd (upd (upd (upd (upd (upd (upd (upd (upd (upd (upd (upd (upd (upd (upd (upd (upd (upd (upd (upd (upd (upd (upd (upd (upd (upd (upd (upd (upd (upd (upd (upd (upd (upd (upd (upd (upd (upd (upd (upd (upd (upd (upd (upd (upd (upd (upd (upd (upd (upd (upd (zI0) 0 104) 1 111) 2 108) 3 101) 4 115) 5 108) 6 105) 7 109) 8 100) 9 101) 10 99) 11 107) 12 104) 13 101) 14 97) 15 118) 16 121) 17 98) 18 117) 19 102) 20 102) 21 101) 22 114) 23 100) 24 117) 25 109) 26 109) 27 121) 28 119) 29 105) 30 114) 31 101) 32 115) 33 116) 34 97) 35 114) 36 116) 37 119) 38 105) 39 110) 40 100) 41 111) 42 119) 43 108) 44 105) 45 109) 46 105) 47 116) 48 112) 49 97) 50 99) 51 101) 52 100) 53 101) 54 97) 55 100)))] 11 1174) : Vy D A M_X9_init.2.2.1 p l e (rmC M_X9_init 18 3437) s m ([.ref h0] : List Value).toArray below meth c Q 386 (lv_args 0 (.ref h0 :: [])) [.ref q11, .ref h0] ([(h0, .inr (8, [.ref q1, .ref q2, .ref q3, .int 0, .int 0, .ref q4, .ref q5, .int 0, .int 0, .ref q6, .ref q7, .ref q8, .int 0, .int 0, .int 0, .int 0, .int 0, .ref q9, .int 0, .ref q10, .int 0, .null, .null, .int 0, .int 0, .int 0, .int 0, .int 0, .null, .null, .int 0, .null, .null, .null, .null])), (q1, .inl (cy 1, 286, .inl zI0)), (q2, .inl (cy 1, 286, .inl zI0)), (q3, .inl (cy 1, 286, .inl zI0)), (q4, .inl (cy 1, 20, .inl zI0)), (q5, .inl (cy 1, 20, .inl zI0)), (q6, .inl (cy 1, 40, .inl zI0)), (q7, .inl (cy 1, 40, .inl zI0)), (q8, .inl (cy 1, 40, .inl zI0)), (q9, .inl (cy 1, 20, .inl zI0)), (q10, .inl (cy 1, 80, .inl zI0))] ++ [(q11, .inl (cy 3, 56, .inl (upd (upd (upd (upd (upd (upd (upd (upd (upd (upd (upd (upd (upd (upd (upd (upd (upd (upd (upd (upd (upd (upd (upd (upd (upd (upd (upd (upd (upd (upd (upd (upd (upd (upd (upd (upd (upd (upd (upd (upd (upd (upd (upd (upd (upd (upd (upd (upd (upd (upd (zI0) 0 104) 1 111) 2 108) 3 101) 4 115) 5 108) 6 105) 7 109) 8 100) 9 101) 10 99) 11 107) 12 104) 13 101) 14 97) 15 118) 16 121) 17 98) 18 117) 19 102) 20 102) 21 101) 22 114) 23 100) 24 117) 25 109) 26 109) 27 121) 28 119) 29 105) 30 114) 31 101) 32 115) 33 116) 34 97) 35 114) 36 116) 37 119) 38 105) 39 110) 40 100) 41 111) 42 119) 43 108) 44 105) 45 109) 46 105) 47 116) 48 112) 49 97)))]) 11 1174 := by
  refine y_dup (pc := 386) C (by decide +kernel) ?_
  refine y_bipush (pc := 387) C (n := 50) (x := 50) (by decide +kernel) (by decide) ?_
  refine y_bipush (pc := 389) C (n := 99) (x := 99) (by decide +kernel) (by decide) ?_
  refine y_castL (pc := 391) C (j := 50) rfl (by unfold vp_in; decide) (y := 99) (by decide) (by decide +kernel) ?_
  refine y_dup (pc := 392) C (by decide +kernel) ?_
  refine y_bipush (pc := 393) C (n := 51) (x := 51) (by decide +kernel) (by decide) ?_
  refine y_bipush (pc := 395) C (n := 101) (x := 101) (by decide +kernel) (by decide) ?_
  refine y_castL (pc := 397) C (j := 51) rfl (by unfold vp_in; decide) (y := 101) (by decide) (by decide +kernel) ?_
  refine y_dup (pc := 398) C (by decide +kernel) ?_
  refine y_bipush (pc := 399) C (n := 52) (x := 52) (by decide +kernel) (by decide) ?_
  refine y_bipush (pc := 401) C (n := 100) (x := 100) (by decide +kernel) (by decide) ?_
  refine y_castL (pc := 403) C (j := 52) rfl (by unfold vp_in; decide) (y := 100) (by decide) (by decide +kernel) ?_
  refine y_dup (pc := 404) C (by decide +kernel) ?_
  refine y_bipush (pc := 405) C (n := 53) (x := 53) (by decide +kernel) (by decide) ?_
  refine y_bipush (pc := 407) C (n := 101) (x := 101) (by decide +kernel) (by decide) ?_
  refine y_castL (pc := 409) C (j := 53) rfl (by unfold vp_in; decide) (y := 101) (by decide) (by decide +kernel) ?_
  refine y_dup (pc := 410) C (by decide +kernel) ?_
  refine y_bipush (pc := 411) C (n := 54) (x := 54) (by decide +kernel) (by decide) ?_
  refine y_bipush (pc := 413) C (n := 97) (x := 97) (by decide +kernel) (by decide) ?_
  refine y_castL (pc := 415) C (j := 54) rfl (by unfold vp_in; decide) (y := 97) (by decide) (by decide +kernel) ?_
  refine y_dup (pc := 416) C (by decide +kernel) ?_
  refine y_bipush (pc := 417) C (n := 55) (x := 55) (by decide +kernel) (by decide) ?_
  refine y_bipush (pc := 419) C (n := 100) (x := 100) (by decide +kernel) (by decide) ?_
  refine y_castL (pc := 421) C (j := 55) rfl (by unfold vp_in; decide) (y := 100) (by decide) (by decide +kernel) ?_
  refine y_putF (pc := 422) (idx := 42) C hin 0 21 rfl (hc := rfl) (by decide) rfl (atW_in (i := 1111) (by decide +kernel)) rfl (ty := .array .char) (by decide +kernel) rfl rfl (Nat.le_of_ble_eq_true rfl) (by decide +kernel) ?_
  exact kk
set_option maxRecDepth 100000 in
set_option maxHeartbeats 4000000 in
theorem c_X9_init_9 {l : Launch} {D : va_G} {cy : Nat → ClassId} {ad : Nat → Nat} {p : Program} {e : Env} {s : State} {m : MethodId} {below : List Frame} {meth : Method} {c : Code} {Q : State → Prop} {A : Nat → Prop} {h0 q1 q2 q3 q4 q5 q6 q7 q8 q9 q10 q11 : Nat} (hin : meth.name = "<init>") (C : Cy D cy ad A M_X9_init.2.2.1 p s m ([.ref h0] : List Value).toArray c M_X9_init.1.cls M_X9_init.2.1)
    (kk : ∀ q12 : Nat, Vy D A M_X9_init.2.2.1 p l e (rmC M_X9_init 18 3437) s m ([.ref h0] : List Value).toArray below meth c Q 503 (lv_args 0 (.ref h0 :: [])) [] [(h0, .inr (8, [.ref q1, .ref q2, .ref q3, .int 0, .int 0, .ref q4, .ref q5, .int 0, .int 0, .ref q6, .ref q7, .ref q8, .int 0, .int 0, .int 0, .int 0, .int 0, .ref q9, .int 0, .ref q10, .int 0, .ref q11, .ref q12, .int 0, .int 0, .int 0, .int 0, .int 0, .null, .null, .int 0, .null, .null, .null, .null])), (q1, .inl (cy 1, 286, .inl zI0)), (q2, .inl (cy 1, 286, .inl zI0)), (q3, .inl (cy 1, 286, .inl zI0)), (q4, .inl (cy 1, 20, .inl zI0)), (q5, .inl (cy 1, 20, .inl zI0)), (q6, .inl (cy 1, 40, .inl zI0)), (q7, .inl (cy 1, 40, .inl zI0)), (q8, .inl (cy 1, 40, .inl zI0)), (q9, .inl (cy 1, 20, .inl zI0)), (q10, .inl (cy 1, 80, .inl zI0)), (q11, .inl (cy 3, 56, .inl (upd (upd (upd (upd (upd (upd (upd (upd (upd (upd (upd (upd (upd (upd (upd (upd (upd (upd (upd (upd (upd (upd (upd (upd (upd (upd (upd (upd (upd (upd (upd (upd (upd (upd (upd (upd (upd (upd (upd (upd (upd (upd (upd (upd (upd (upd (upd (upd (upd (upd (upd (upd (upd (upd (upd (upd (zI0) 0 104) 1 111) 2 108) 3 101) 4 115) 5 108) 6 105) 7 109) 8 100) 9 101) 10 99) 11 107) 12 104) 13 101) 14 97) 15 118) 16 121) 17 98) 18 117) 19 102) 20 102) 21 101) 22 114) 23 100) 24 117) 25 109) 26 109) 27 121) 28 119) 29 105) 30 114) 31 101) 32 115) 33 116) 34 97) 35 114) 36 116) 37 119) 38 105) 39 110) 40 100) 41 111) 42 119) 43 108) 44 105) 45 109) 46 105) 47 116) 48 112) 49 97) 50 99) 51 101) 52 100) 53 101) 54 97) 55 100))), (q12, .inl (cy 1, 13, .inl (upd (upd (upd (upd (upd (upd (upd (upd (upd (upd (upd (upd (upd (zI0) 0 0) 1 4) 2 8) 3 12) 4 17) 5 23) 6 28) 7 32) 8 37) 9 43) 10 48) 11 52) 12 56)))] 12 1187) : Vy D A M_X9_init.2.2.1 p l e (rmC M_X9_init 18 3437) s m ([.ref h0] : List Value).toArray below meth c Q 425 (lv_args 0 (.ref h0 :: [])) [] [(h0, .inr (8, [.ref q1, .ref q2, .ref q3, .int 0, .int 0, .ref q4, .ref q5, .int 0, .int 0, .ref q6, .ref q7, .ref q8, .int 0, .int 0, .int 0, .int 0, .int 0, .ref q9, .int 0, .ref q10, .int 0, .ref q11, .null, .int 0, .int 0, .int 0, .int 0, .int 0, .null, .null, .int 0, .null, .null, .null, .null])), (q1, .inl (cy 1, 286, .inl zI0)), (q2, .inl (cy 1, 286, .inl zI0)), (q3, .inl (cy 1, 286, .inl zI0)), (q4, .inl (cy 1, 20, .inl zI0)), (q5, .inl (cy 1, 20, .inl zI0)), (q6, .inl (cy 1, 40, .inl zI0)), (q7, .inl (cy 1, 40, .inl zI0)), (q8, .inl (cy 1, 40, .inl zI0)), (q9, .inl (cy 1, 20, .inl zI0)), (q10, .inl (cy 1, 80, .inl zI0)), (q11, .inl (cy 3, 56, .inl (upd (upd (upd (upd (upd (upd (upd (upd (upd (upd (upd (upd (upd (upd (upd (upd (upd (upd (upd (upd (upd (upd (upd (upd (upd (upd (upd (upd (upd (upd (upd (upd (upd (upd (upd (upd (upd (upd (upd (upd (upd (upd (upd (upd (upd (upd (upd (upd (upd (upd (upd (upd (upd (upd (upd (upd (zI0) 0 104) 1 111) 2 108) 3 101) 4 115) 5 108) 6 105) 7 109) 8 100) 9 101) 10 99) 11 107) 12 104) 13 101) 14 97) 15 118) 16 121) 17 98) 18 117) 19 102) 20 102) 21 101) 22 114) 23 100) 24 117) 25 109) 26 109) 27 121) 28 119) 29 105) 30 114) 31 101) 32 115) 33 116) 34 97) 35 114) 36 116) 37 119) 38 105) 39 110) 40 100) 41 111) 42 119) 43 108) 44 105) 45 109) 46 105) 47 116) 48 112) 49 97) 50 99) 51 101) 52 100) 53 101) 54 97) 55 100)))] 11 1174 := by
  refine y_aload (pc := 425) C 0 (k := 0) (by decide +kernel) rfl ?_
  refine y_bipush (pc := 426) C (n := 13) (x := 13) (by decide +kernel) (by decide) ?_
  refine y_newI (pc := 428) (N := 13) C ar_I (by decide) (by decide) (Nat.le_of_ble_eq_true rfl) (Nat.le_of_ble_eq_true rfl) (Nat.le_of_ble_eq_true rfl) (by decide +kernel) (fun q12 => ?_)
  refine y_dup (pc := 430) C (by decide +kernel) ?_
  refine y_iconst (pc := 431) C (n := 0) (x := 0) (by decide +kernel) (by decide) ?_
  refine y_iconst (pc := 432) C (n := 0) (x := 0) (by decide +kernel) (by decide) ?_
  refine y_iastL (pc := 433) C (j := 0) rfl (by unfold vp_in; decide) (by decide +kernel) ?_
  refine y_dup (pc := 434) C (by decide +kernel) ?_
  refine y_iconst (pc := 435) C (n := 1) (x := 1) (by decide +kernel) (by decide) ?_
  refine y_iconst (pc := 436) C (n := 4) (x := 4) (by decide +kernel) (by decide) ?_
  refine y_iastL (pc := 437) C (j := 1) rfl (by unfold vp_in; decide) (by decide +kernel) ?_
  refine y_dup (pc := 438) C (by decide +kernel) ?_
  refine y_iconst (pc := 439) C (n := 2) (x := 2) (by decide +kernel) (by decide) ?_
  refine y_bipush (pc := 440) C (n := 8) (x := 8) (by decide +kernel) (by decide) ?_
  refine y_iastL (pc := 442) C (j := 2) rfl (by unfold vp_in; decide) (by decide +kernel) ?_
  refine y_dup (pc := 443) C (by decide +kernel) ?_
  refine y_iconst (pc := 444) C (n := 3) (x := 3) (by decide +kernel) (by decide) ?_
  refine y_bipush (pc := 445) C (n := 12) (x := 12) (by decide +kernel) (by decide) ?_
  refine y_iastL (pc := 447) C (j := 3) rfl (by unfold vp_in; decide) (by decide +kernel) ?_
  refine y_dup (pc := 448) C (by decide +kernel) ?_
  refine y_iconst (pc := 449) C (n := 4) (x := 4) (by decide +kernel) (by decide) ?_
  refine y_bipush (pc := 450) C (n := 17) (x := 17) (by decide +kernel) (by decide) ?_
  refine y_iastL (pc := 452) C (j := 4) rfl (by unfold vp_in; decide) (by decide +kernel) ?_
  refine y_dup (pc := 453) C (by decide +kernel) ?_
  refine y_iconst (pc := 454) C (n := 5) (x := 5) (by decide +kernel) (by decide) ?_
  refine y_bipush (pc := 455) C (n := 23) (x := 23) (by decide +kernel) (by decide) ?_
  refine y_iastL (pc := 457) C (j := 5) rfl (by unfold vp_in; decide) (by decide +kernel) ?_
  refine y_dup (pc := 458) C (by decide +kernel) ?_
  refine y_bipush (pc := 459) C (n := 6) (x := 6) (by decide +kernel) (by decide) ?_
  refine y_bipush (pc := 461) C (n := 28) (x := 28) (by decide +kernel) (by decide) ?_
  refine y_iastL (pc := 463) C (j := 6) rfl (by unfold vp_in; decide) (by decide +kernel) ?_
  refine y_dup (pc := 464) C (by decide +kernel) ?_
  refine y_bipush (pc := 465) C (n := 7) (x := 7) (by decide +kernel) (by decide) ?_
  refine y_bipush (pc := 467) C (n := 32) (x := 32) (by decide +kernel) (by decide) ?_
  refine y_iastL (pc := 469) C (j := 7) rfl (by unfold vp_in; decide) (by decide +kernel) ?_
  refine y_dup (pc := 470) C (by decide +kernel) ?_
  refine y_bipush (pc := 471) C (n := 8) (x := 8) (by decide +kernel) (by decide) ?_
  refine y_bipush (pc := 473) C (n := 37) (x := 37) (by decide +kernel) (by decide) ?_
  refine y_iastL (pc := 475) C (j := 8) rfl (by unfold vp_in; decide) (by decide +kernel) ?_
  refine y_dup (pc := 476) C (by decide +kernel) ?_
  refine y_bipush (pc := 477) C (n := 9) (x := 9) (by decide +kernel) (by decide) ?_
  refine y_bipush (pc := 479) C (n := 43) (x := 43) (by decide +kernel) (by decide) ?_
  refine y_iastL (pc := 481) C (j := 9) rfl (by unfold vp_in; decide) (by decide +kernel) ?_
  refine y_dup (pc := 482) C (by decide +kernel) ?_
  refine y_bipush (pc := 483) C (n := 10) (x := 10) (by decide +kernel) (by decide) ?_
  refine y_bipush (pc := 485) C (n := 48) (x := 48) (by decide +kernel) (by decide) ?_
  refine y_iastL (pc := 487) C (j := 10) rfl (by unfold vp_in; decide) (by decide +kernel) ?_
  refine y_dup (pc := 488) C (by decide +kernel) ?_
  refine y_bipush (pc := 489) C (n := 11) (x := 11) (by decide +kernel) (by decide) ?_
  refine y_bipush (pc := 491) C (n := 52) (x := 52) (by decide +kernel) (by decide) ?_
  refine y_iastL (pc := 493) C (j := 11) rfl (by unfold vp_in; decide) (by decide +kernel) ?_
  refine y_dup (pc := 494) C (by decide +kernel) ?_
  refine y_bipush (pc := 495) C (n := 12) (x := 12) (by decide +kernel) (by decide) ?_
  refine y_bipush (pc := 497) C (n := 56) (x := 56) (by decide +kernel) (by decide) ?_
  refine y_iastL (pc := 499) C (j := 12) rfl (by unfold vp_in; decide) (by decide +kernel) ?_
  refine y_putF (pc := 500) (idx := 46) C hin 0 22 rfl (hc := rfl) (by decide) rfl (atW_in (i := 1112) (by decide +kernel)) rfl (ty := .array .int) (by decide +kernel) rfl rfl (Nat.le_of_ble_eq_true rfl) (by decide +kernel) ?_
  exact kk q12
set_option maxRecDepth 100000 in
set_option maxHeartbeats 4000000 in
theorem c_X9_init_10 {l : Launch} {D : va_G} {cy : Nat → ClassId} {ad : Nat → Nat} {p : Program} {e : Env} {s : State} {m : MethodId} {below : List Frame} {meth : Method} {c : Code} {Q : State → Prop} {A : Nat → Prop} {h0 q1 q2 q3 q4 q5 q6 q7 q8 q9 q10 q11 q12 : Nat} (hin : meth.name = "<init>") (C : Cy D cy ad A M_X9_init.2.2.1 p s m ([.ref h0] : List Value).toArray c M_X9_init.1.cls M_X9_init.2.1)
    (kk : ∀ q13 q14 q15 q16 : Nat, Vy D A M_X9_init.2.2.1 p l e (rmC M_X9_init 18 3437) s m ([.ref h0] : List Value).toArray below meth c Q 552 (lv_args 0 (.ref h0 :: [])) [] [(h0, .inr (8, [.ref q1, .ref q2, .ref q3, .int 0, .int 0, .ref q4, .ref q5, .int 0, .int 0, .ref q6, .ref q7, .ref q8, .int 0, .int 0, .int 0, .int 0, .int 0, .ref q9, .int 0, .ref q10, .int 0, .ref q11, .ref q12, .int 0, .int 0, .int 0, .int 0, .int 0, .ref q13, .ref q14, .int 0, .ref q15, .ref q16, .null, .null])), (q1, .inl (cy 1, 286, .inl zI0)), (q2, .inl (cy 1, 286, .inl zI0)), (q3, .inl (cy 1, 286, .inl zI0)), (q4, .inl (cy 1, 20, .inl zI0)), (q5, .inl (cy 1, 20, .inl zI0)), (q6, .inl (cy 1, 40, .inl zI0)), (q7, .inl (cy 1, 40, .inl zI0)), (q8, .inl (cy 1, 40, .inl zI0)), (q9, .inl (cy 1, 20, .inl zI0)), (q10, .inl (cy 1, 80, .inl zI0)), (q11, .inl (cy 3, 56, .inl (upd (upd (upd (upd (upd (upd (upd (upd (upd (upd (upd (upd (upd (upd (upd (upd (upd (upd (upd (upd (upd (upd (upd (upd (upd (upd (upd (upd (upd (upd (upd (upd (upd (upd (upd (upd (upd (upd (upd (upd (upd (upd (upd (upd (upd (upd (upd (upd (upd (upd (upd (upd (upd (upd (upd (upd (zI0) 0 104) 1 111) 2 108) 3 101) 4 115) 5 108) 6 105) 7 109) 8 100) 9 101) 10 99) 11 107) 12 104) 13 101) 14 97) 15 118) 16 121) 17 98) 18 117) 19 102) 20 102) 21 101) 22 114) 23 100) 24 117) 25 109) 26 109) 27 121) 28 119) 29 105) 30 114) 31 101) 32 115) 33 116) 34 97) 35 114) 36 116) 37 119) 38 105) 39 110) 40 100) 41 111) 42 119) 43 108) 44 105) 45 109) 46 105) 47 116) 48 112) 49 97) 50 99) 51 101) 52 100) 53 101) 54 97) 55 100))), (q12, .inl (cy 1, 13, .inl (upd (upd (upd (upd (upd (upd (upd (upd (upd (upd (upd (upd (upd (zI0) 0 0) 1 4) 2 8) 3 12) 4 17) 5 23) 6 28) 7 32) 8 37) 9 43) 10 48) 11 52) 12 56))), (q13, .inl (cy 1, 6, .inl zI0)), (q14, .inl (cy 1, 2000, .inl zI0)), (q15, .inl (cy 4, 160, .inr (.inl zJ0))), (q16, .inl (cy 1, 4, .inl (upd (upd (upd (upd (zI0) 0 (-1)) 1 (-1)) 2 (-1)) 3 (-1))))] 16 3357) : Vy D A M_X9_init.2.2.1 p l e (rmC M_X9_init 18 3437) s m ([.ref h0] : List Value).toArray below meth c Q 503 (lv_args 0 (.ref h0 :: [])) [] [(h0, .inr (8, [.ref q1, .ref q2, .ref q3, .int 0, .int 0, .ref q4, .ref q5, .int 0, .int 0, .ref q6, .ref q7, .ref q8, .int 0, .int 0, .int 0, .int 0, .int 0, .ref q9, .int 0, .ref q10, .int 0, .ref q11, .ref q12, .int 0, .int 0, .int 0, .int 0, .int 0, .null, .null, .int 0, .null, .null, .null, .null])), (q1, .inl (cy 1, 286, .inl zI0)), (q2, .inl (cy 1, 286, .inl zI0)), (q3, .inl (cy 1, 286, .inl zI0)), (q4, .inl (cy 1, 20, .inl zI0)), (q5, .inl (cy 1, 20, .inl zI0)), (q6, .inl (cy 1, 40, .inl zI0)), (q7, .inl (cy 1, 40, .inl zI0)), (q8, .inl (cy 1, 40, .inl zI0)), (q9, .inl (cy 1, 20, .inl zI0)), (q10, .inl (cy 1, 80, .inl zI0)), (q11, .inl (cy 3, 56, .inl (upd (upd (upd (upd (upd (upd (upd (upd (upd (upd (upd (upd (upd (upd (upd (upd (upd (upd (upd (upd (upd (upd (upd (upd (upd (upd (upd (upd (upd (upd (upd (upd (upd (upd (upd (upd (upd (upd (upd (upd (upd (upd (upd (upd (upd (upd (upd (upd (upd (upd (upd (upd (upd (upd (upd (upd (zI0) 0 104) 1 111) 2 108) 3 101) 4 115) 5 108) 6 105) 7 109) 8 100) 9 101) 10 99) 11 107) 12 104) 13 101) 14 97) 15 118) 16 121) 17 98) 18 117) 19 102) 20 102) 21 101) 22 114) 23 100) 24 117) 25 109) 26 109) 27 121) 28 119) 29 105) 30 114) 31 101) 32 115) 33 116) 34 97) 35 114) 36 116) 37 119) 38 105) 39 110) 40 100) 41 111) 42 119) 43 108) 44 105) 45 109) 46 105) 47 116) 48 112) 49 97) 50 99) 51 101) 52 100) 53 101) 54 97) 55 100))), (q12, .inl (cy 1, 13, .inl (upd (upd (upd (upd (upd (upd (upd (upd (upd (upd (upd (upd (upd (zI0) 0 0) 1 4) 2 8) 3 12) 4 17) 5 23) 6 28) 7 32) 8 37) 9 43) 10 48) 11 52) 12 56)))] 12 1187 := by
  refine y_aload (pc := 503) C 0 (k := 0) (by decide +kernel) rfl ?_
  refine y_bipush (pc := 504) C (n := 6) (x := 6) (by decide +kernel) (by decide) ?_
  refine y_newI (pc := 506) (N := 6) C ar_I (by decide) (by decide) (Nat.le_of_ble_eq_true rfl) (Nat.le_of_ble_eq_true rfl) (Nat.le_of_ble_eq_true rfl) (by decide +kernel) (fun q13 => ?_)
  refine y_putF (pc := 508) (idx := 49) C hin 0 28 rfl (hc := rfl) (by decide) rfl (atW_in (i := 1118) (by decide +kernel)) rfl (ty := .array .int) (by decide +kernel) rfl rfl (Nat.le_of_ble_eq_true rfl) (by decide +kernel) ?_
  refine y_aload (pc := 511) C 0 (k := 0) (by decide +kernel) rfl ?_
  refine y_sipush (pc := 512) C (n := 2000) (x := 2000) (by decide +kernel) (by decide) ?_
  refine y_newI (pc := 515) (N := 2000) C ar_I (by decide) (by decide) (Nat.le_of_ble_eq_true rfl) (Nat.le_of_ble_eq_true rfl) (Nat.le_of_ble_eq_true rfl) (by decide +kernel) (fun q14 => ?_)
  refine y_putF (pc := 517) (idx := 52) C hin 0 29 rfl (hc := rfl) (by decide) rfl (atW_in (i := 1119) (by decide +kernel)) rfl (ty := .array .int) (by decide +kernel) rfl rfl (Nat.le_of_ble_eq_true rfl) (by decide +kernel) ?_
  refine y_aload (pc := 520) C 0 (k := 0) (by decide +kernel) rfl ?_
  refine y_sipush (pc := 521) C (n := 160) (x := 160) (by decide +kernel) (by decide) ?_
  refine y_newJ (pc := 524) (N := 160) C ar_J (by decide) (by decide) (Nat.le_of_ble_eq_true rfl) (Nat.le_of_ble_eq_true rfl) (Nat.le_of_ble_eq_true rfl) (by decide +kernel) (fun q15 => ?_)
  refine y_putF (pc := 526) (idx := 55) C hin 0 31 rfl (hc := rfl) (by decide) rfl (atW_in (i := 1121) (by decide +kernel)) rfl (ty := .array .long) (by decide +kernel) rfl rfl (Nat.le_of_ble_eq_true rfl) (by decide +kernel) ?_
  refine y_aload (pc := 529) C 0 (k := 0) (by decide +kernel) rfl ?_
  refine y_iconst (pc := 530) C (n := 4) (x := 4) (by decide +kernel) (by decide) ?_
  refine y_newI (pc := 531) (N := 4) C ar_I (by decide) (by decide) (Nat.le_of_ble_eq_true rfl) (Nat.le_of_ble_eq_true rfl) (Nat.le_of_ble_eq_true rfl) (by decide +kernel) (fun q16 => ?_)
  refine y_dup (pc := 533) C (by decide +kernel) ?_
  refine y_iconst (pc := 534) C (n := 0) (x := 0) (by decide +kernel) (by decide) ?_
  refine y_iconst (pc := 535) C (n := (-1)) (x := (-1)) (by decide +kernel) (by decide) ?_
  refine y_iastL (pc := 536) C (j := 0) rfl (by unfold vp_in; decide) (by decide +kernel) ?_
  refine y_dup (pc := 537) C (by decide +kernel) ?_
  refine y_iconst (pc := 538) C (n := 1) (x := 1) (by decide +kernel) (by decide) ?_
  refine y_iconst (pc := 539) C (n := (-1)) (x := (-1)) (by decide +kernel) (by decide) ?_
  refine y_iastL (pc := 540) C (j := 1) rfl (by unfold vp_in; decide) (by decide +kernel) ?_
  refine y_dup (pc := 541) C (by decide +kernel) ?_
  refine y_iconst (pc := 542) C (n := 2) (x := 2) (by decide +kernel) (by decide) ?_
  refine y_iconst (pc := 543) C (n := (-1)) (x := (-1)) (by decide +kernel) (by decide) ?_
  refine y_iastL (pc := 544) C (j := 2) rfl (by unfold vp_in; decide) (by decide +kernel) ?_
  refine y_dup (pc := 545) C (by decide +kernel) ?_
  refine y_iconst (pc := 546) C (n := 3) (x := 3) (by decide +kernel) (by decide) ?_
  refine y_iconst (pc := 547) C (n := (-1)) (x := (-1)) (by decide +kernel) (by decide) ?_
  refine y_iastL (pc := 548) C (j := 3) rfl (by unfold vp_in; decide) (by decide +kernel) ?_
  refine y_putF (pc := 549) (idx := 59) C hin 0 32 rfl (hc := rfl) (by decide) rfl (atW_in (i := 1122) (by decide +kernel)) rfl (ty := .array .int) (by decide +kernel) rfl rfl (Nat.le_of_ble_eq_true rfl) (by decide +kernel) ?_
  exact kk q13 q14 q15 q16
set_option maxRecDepth 100000 in
set_option maxHeartbeats 4000000 in
theorem c_X9_init_11 {l : Launch} {D : va_G} {cy : Nat → ClassId} {ad : Nat → Nat} {p : Program} {e : Env} {s : State} {m : MethodId} {below : List Frame} {meth : Method} {c : Code} {Q : State → Prop} {A : Nat → Prop} {h0 q1 q2 q3 q4 q5 q6 q7 q8 q9 q10 q11 q12 q13 q14 q15 q16 : Nat} (hin : meth.name = "<init>") (C : Cy D cy ad A M_X9_init.2.2.1 p s m ([.ref h0] : List Value).toArray c M_X9_init.1.cls M_X9_init.2.1)
    (kk : ∀ q17 q18 : Nat, Vy D A M_X9_init.2.2.1 p l e (rmC M_X9_init 18 3437) s m ([.ref h0] : List Value).toArray below meth c Q 568 (lv_args 0 (.ref h0 :: [])) [] [(h0, .inr (8, [.ref q1, .ref q2, .ref q3, .int 0, .int 0, .ref q4, .ref q5, .int 0, .int 0, .ref q6, .ref q7, .ref q8, .int 0, .int 0, .int 0, .int 0, .int 0, .ref q9, .int 0, .ref q10, .int 0, .ref q11, .ref q12, .int 0, .int 0, .int 0, .int 0, .int 0, .ref q13, .ref q14, .int 0, .ref q15, .ref q16, .ref q17, .ref q18])), (q1, .inl (cy 1, 286, .inl zI0)), (q2, .inl (cy 1, 286, .inl zI0)), (q3, .inl (cy 1, 286, .inl zI0)), (q4, .inl (cy 1, 20, .inl zI0)), (q5, .inl (cy 1, 20, .inl zI0)), (q6, .inl (cy 1, 40, .inl zI0)), (q7, .inl (cy 1, 40, .inl zI0)), (q8, .inl (cy 1, 40, .inl zI0)), (q9, .inl (cy 1, 20, .inl zI0)), (q10, .inl (cy 1, 80, .inl zI0)), (q11, .inl (cy 3, 56, .inl (upd (upd (upd (upd (upd (upd (upd (upd (upd (upd (upd (upd (upd (upd (upd (upd (upd (upd (upd (upd (upd (upd (upd (upd (upd (upd (upd (upd (upd (upd (upd (upd (upd (upd (upd (upd (upd (upd (upd (upd (upd (upd (upd (upd (upd (upd (upd (upd (upd (upd (upd (upd (upd (upd (upd (upd (zI0) 0 104) 1 111) 2 108) 3 101) 4 115) 5 108) 6 105) 7 109) 8 100) 9 101) 10 99) 11 107) 12 104) 13 101) 14 97) 15 118) 16 121) 17 98) 18 117) 19 102) 20 102) 21 101) 22 114) 23 100) 24 117) 25 109) 26 109) 27 121) 28 119) 29 105) 30 114) 31 101) 32 115) 33 116) 34 97) 35 114) 36 116) 37 119) 38 105) 39 110) 40 100) 41 111) 42 119) 43 108) 44 105) 45 109) 46 105) 47 116) 48 112) 49 97) 50 99) 51 101) 52 100) 53 101) 54 97) 55 100))), (q12, .inl (cy 1, 13, .inl (upd (upd (upd (upd (upd (upd (upd (upd (upd (upd (upd (upd (upd (zI0) 0 0) 1 4) 2 8) 3 12) 4 17) 5 23) 6 28) 7 32) 8 37) 9 43) 10 48) 11 52) 12 56))), (q13, .inl (cy 1, 6, .inl zI0)), (q14, .inl (cy 1, 2000, .inl zI0)), (q15, .inl (cy 4, 160, .inr (.inl zJ0))), (q16, .inl (cy 1, 4, .inl (upd (upd (upd (upd (zI0) 0 (-1)) 1 (-1)) 2 (-1)) 3 (-1)))), (q17, .inl (cy 1, 40, .inl zI0)), (q18, .inl (cy 4, 40, .inr (.inl zJ0)))] 18 3437) : Vy D A M_X9_init.2.2.1 p l e (rmC M_X9_init 18 3437) s m ([.ref h0] : List Value).toArray below meth c Q 552 (lv_args 0 (.ref h0 :: [])) [] [(h0, .inr (8, [.ref q1, .ref q2, .ref q3, .int 0, .int 0, .ref q4, .ref q5, .int 0, .int 0, .ref q6, .ref q7, .ref q8, .int 0, .int 0, .int 0, .int 0, .int 0, .ref q9, .int 0, .ref q10, .int 0, .ref q11, .ref q12, .int 0, .int 0, .int 0, .int 0, .int 0, .ref q13, .ref q14, .int 0, .ref q15, .ref q16, .null, .null])), (q1, .inl (cy 1, 286, .inl zI0)), (q2, .inl (cy 1, 286, .inl zI0)), (q3, .inl (cy 1, 286, .inl zI0)), (q4, .inl (cy 1, 20, .inl zI0)), (q5, .inl (cy 1, 20, .inl zI0)), (q6, .inl (cy 1, 40, .inl zI0)), (q7, .inl (cy 1, 40, .inl zI0)), (q8, .inl (cy 1, 40, .inl zI0)), (q9, .inl (cy 1, 20, .inl zI0)), (q10, .inl (cy 1, 80, .inl zI0)), (q11, .inl (cy 3, 56, .inl (upd (upd (upd (upd (upd (upd (upd (upd (upd (upd (upd (upd (upd (upd (upd (upd (upd (upd (upd (upd (upd (upd (upd (upd (upd (upd (upd (upd (upd (upd (upd (upd (upd (upd (upd (upd (upd (upd (upd (upd (upd (upd (upd (upd (upd (upd (upd (upd (upd (upd (upd (upd (upd (upd (upd (upd (zI0) 0 104) 1 111) 2 108) 3 101) 4 115) 5 108) 6 105) 7 109) 8 100) 9 101) 10 99) 11 107) 12 104) 13 101) 14 97) 15 118) 16 121) 17 98) 18 117) 19 102) 20 102) 21 101) 22 114) 23 100) 24 117) 25 109) 26 109) 27 121) 28 119) 29 105) 30 114) 31 101) 32 115) 33 116) 34 97) 35 114) 36 116) 37 119) 38 105) 39 110) 40 100) 41 111) 42 119) 43 108) 44 105) 45 109) 46 105) 47 116) 48 112) 49 97) 50 99) 51 101) 52 100) 53 101) 54 97) 55 100))), (q12, .inl (cy 1, 13, .inl (upd (upd (upd (upd (upd (upd (upd (upd (upd (upd (upd (upd (upd (zI0) 0 0) 1 4) 2 8) 3 12) 4 17) 5 23) 6 28) 7 32) 8 37) 9 43) 10 48) 11 52) 12 56))), (q13, .inl (cy 1, 6, .inl zI0)), (q14, .inl (cy 1, 2000, .inl zI0)), (q15, .inl (cy 4, 160, .inr (.inl zJ0))), (q16, .inl (cy 1, 4, .inl (upd (upd (upd (upd (zI0) 0 (-1)) 1 (-1)) 2 (-1)) 3 (-1))))] 16 3357 := by
  refine y_aload (pc := 552) C 0 (k := 0) (by decide +kernel) rfl ?_
  refine y_bipush (pc := 553) C (n := 40) (x := 40) (by decide +kernel) (by decide) ?_
  refine y_newI (pc := 555) (N := 40) C ar_I (by decide) (by decide) (Nat.le_of_ble_eq_true rfl) (Nat.le_of_ble_eq_true rfl) (Nat.le_of_ble_eq_true rfl) (by decide +kernel) (fun q17 => ?_)
  refine y_putF (pc := 557) (idx := 62) C hin 0 33 rfl (hc := rfl) (by decide) rfl (atW_in (i := 1123) (by decide +kernel)) rfl (ty := .array .int) (by decide +kernel) rfl rfl (Nat.le_of_ble_eq_true rfl) (by decide +kernel) ?_
  refine y_aload (pc := 560) C 0 (k := 0) (by decide +kernel) rfl ?_
  refine y_bipush (pc := 561) C (n := 40) (x := 40) (by decide +kernel) (by decide) ?_
  refine y_newJ (pc := 563) (N := 40) C ar_J (by decide) (by decide) (Nat.le_of_ble_eq_true rfl) (Nat.le_of_ble_eq_true rfl) (Nat.le_of_ble_eq_true rfl) (by decide +kernel) (fun q18 => ?_)
  refine y_putF (pc := 565) (idx := 65) C hin 0 34 rfl (hc := rfl) (by decide) rfl (atW_in (i := 1124) (by decide +kernel)) rfl (ty := .array .long) (by decide +kernel) rfl rfl (Nat.le_of_ble_eq_true rfl) (by decide +kernel) ?_
  exact kk q17 q18
set_option maxRecDepth 100000 in
set_option maxHeartbeats 4000000 in
theorem c_X9_init_12 {l : Launch} {D : va_G} {cy : Nat → ClassId} {ad : Nat → Nat} {p : Program} {e : Env} {s : State} {m : MethodId} {below : List Frame} {meth : Method} {c : Code} {Q : State → Prop} {A : Nat → Prop} {h0 q1 q2 q3 q4 q5 q6 q7 q8 q9 q10 q11 q12 q13 q14 q15 q16 q17 q18 : Nat} (hin : meth.name = "<init>") (C : Cy D cy ad A M_X9_init.2.2.1 p s m ([.ref h0] : List Value).toArray c M_X9_init.1.cls M_X9_init.2.1)
    (kk : Vy D A M_X9_init.2.2.1 p l e (rmC M_X9_init 18 3437) s m ([.ref h0] : List Value).toArray below meth c Q 598 (lv_args 0 (.ref h0 :: [])) [] [(h0, .inr (8, [.ref q1, .ref q2, .ref q3, .int 0, .int 0, .ref q4, .ref q5, .int 0, .int 0, .ref q6, .ref q7, .ref q8, .int 0, .int 0, .int 0, .int 0, .int 0, .ref q9, .int 0, .ref q10, .int 0, .ref q11, .ref q12, .int 0, .int 0, .int 0, .int 0, .int 0, .ref q13, .ref q14, .int 0, .ref q15, .ref q16, .ref q17, .ref q18])), (q1, .inl (cy 1, 286, .inl (upd (upd (upd (zI0) 282 8) 283 100) 284 25))), (q2, .inl (cy 1, 286, .inl zI0)), (q3, .inl (cy 1, 286, .inl zI0)), (q4, .inl (cy 1, 20, .inl zI0)), (q5, .inl (cy 1, 20, .inl zI0)), (q6, .inl (cy 1, 40, .inl zI0)), (q7, .inl (cy 1, 40, .inl zI0)), (q8, .inl (cy 1, 40, .inl zI0)), (q9, .inl (cy 1, 20, .inl zI0)), (q10, .inl (cy 1, 80, .inl zI0)), (q11, .inl (cy 3, 56, .inl (upd (upd (upd (upd (upd (upd (upd (upd (upd (upd (upd (upd (upd (upd (upd (upd (upd (upd (upd (upd (upd (upd (upd (upd (upd (upd (upd (upd (upd (upd (upd (upd (upd (upd (upd (upd (upd (upd (upd (upd (upd (upd (upd (upd (upd (upd (upd (upd (upd (upd (upd (upd (upd (upd (upd (upd (zI0) 0 104) 1 111) 2 108) 3 101) 4 115) 5 108) 6 105) 7 109) 8 100) 9 101) 10 99) 11 107) 12 104) 13 101) 14 97) 15 118) 16 121) 17 98) 18 117) 19 102) 20 102) 21 101) 22 114) 23 100) 24 117) 25 109) 26 109) 27 121) 28 119) 29 105) 30 114) 31 101) 32 115) 33 116) 34 97) 35 114) 36 116) 37 119) 38 105) 39 110) 40 100) 41 111) 42 119) 43 108) 44 105) 45 109) 46 105) 47 116) 48 112) 49 97) 50 99) 51 101) 52 100) 53 101) 54 97) 55 100))), (q12, .inl (cy 1, 13, .inl (upd (upd (upd (upd (upd (upd (upd (upd (upd (upd (upd (upd (upd (zI0) 0 0) 1 4) 2 8) 3 12) 4 17) 5 23) 6 28) 7 32) 8 37) 9 43) 10 48) 11 52) 12 56))), (q13, .inl (cy 1, 6, .inl zI0)), (q14, .inl (cy 1, 2000, .inl zI0)), (q15, .inl (cy 4, 160, .inr (.inl zJ0))), (q16, .inl (cy 1, 4, .inl (upd (upd (upd (upd (zI0) 0 (-1)) 1 (-1)) 2 (-1)) 3 (-1)))), (q17, .inl (cy 1, 40, .inl zI0)), (q18, .inl (cy 4, 40, .inr (.inl zJ0)))] 18 3437) : Vy D A M_X9_init.2.2.1 p l e (rmC M_X9_init 18 3437) s m ([.ref h0] : List Value).toArray below meth c Q 568 (lv_args 0 (.ref h0 :: [])) [] [(h0, .inr (8, [.ref q1, .ref q2, .ref q3, .int 0, .int 0, .ref q4, .ref q5, .int 0, .int 0, .ref q6, .ref q7, .ref q8, .int 0, .int 0, .int 0, .int 0, .int 0, .ref q9, .int 0, .ref q10, .int 0, .ref q11, .ref q12, .int 0, .int 0, .int 0, .int 0, .int 0, .ref q13, .ref q14, .int 0, .ref q15, .ref q16, .ref q17, .ref q18])), (q1, .inl (cy 1, 286, .inl zI0)), (q2, .inl (cy 1, 286, .inl zI0)), (q3, .inl (cy 1, 286, .inl zI0)), (q4, .inl (cy 1, 20, .inl zI0)), (q5, .inl (cy 1, 20, .inl zI0)), (q6, .inl (cy 1, 40, .inl zI0)), (q7, .inl (cy 1, 40, .inl zI0)), (q8, .inl (cy 1, 40, .inl zI0)), (q9, .inl (cy 1, 20, .inl zI0)), (q10, .inl (cy 1, 80, .inl zI0)), (q11, .inl (cy 3, 56, .inl (upd (upd (upd (upd (upd (upd (upd (upd (upd (upd (upd (upd (upd (upd (upd (upd (upd (upd (upd (upd (upd (upd (upd (upd (upd (upd (upd (upd (upd (upd (upd (upd (upd (upd (upd (upd (upd (upd (upd (upd (upd (upd (upd (upd (upd (upd (upd (upd (upd (upd (upd (upd (upd (upd (upd (upd (zI0) 0 104) 1 111) 2 108) 3 101) 4 115) 5 108) 6 105) 7 109) 8 100) 9 101) 10 99) 11 107) 12 104) 13 101) 14 97) 15 118) 16 121) 17 98) 18 117) 19 102) 20 102) 21 101) 22 114) 23 100) 24 117) 25 109) 26 109) 27 121) 28 119) 29 105) 30 114) 31 101) 32 115) 33 116) 34 97) 35 114) 36 116) 37 119) 38 105) 39 110) 40 100) 41 111) 42 119) 43 108) 44 105) 45 109) 46 105) 47 116) 48 112) 49 97) 50 99) 51 101) 52 100) 53 101) 54 97) 55 100))), (q12, .inl (cy 1, 13, .inl (upd (upd (upd (upd (upd (upd (upd (upd (upd (upd (upd (upd (upd (zI0) 0 0) 1 4) 2 8) 3 12) 4 17) 5 23) 6 28) 7 32) 8 37) 9 43) 10 48) 11 52) 12 56))), (q13, .inl (cy 1, 6, .inl zI0)), (q14, .inl (cy 1, 2000, .inl zI0)), (q15, .inl (cy 4, 160, .inr (.inl zJ0))), (q16, .inl (cy 1, 4, .inl (upd (upd (upd (upd (zI0) 0 (-1)) 1 (-1)) 2 (-1)) 3 (-1)))), (q17, .inl (cy 1, 40, .inl zI0)), (q18, .inl (cy 4, 40, .inr (.inl zJ0)))] 18 3437 := by
  refine y_aload (pc := 568) C 0 (k := 0) (by decide +kernel) rfl ?_
  refine y_get (pc := 569) (idx := 11) C 0 0 rfl (hc := rfl) (by decide) rfl (atW_in (i := 1090) (by decide +kernel)) (v := .ref q1) rfl (by decide +kernel) ?_
  refine y_sipush (pc := 572) C (n := 282) (x := 282) (by decide +kernel) (by decide) ?_
  refine y_bipush (pc := 575) C (n := 8) (x := 8) (by decide +kernel) (by decide) ?_
  refine y_iast (pc := 577) C 1 (j := 282) rfl (by decide) (by unfold vp_in; decide) (by decide +kernel) ?_
  refine y_aload (pc := 578) C 0 (k := 0) (by decide +kernel) rfl ?_
  refine y_get (pc := 579) (idx := 11) C 0 0 rfl (hc := rfl) (by decide) rfl (atW_in (i := 1090) (by decide +kernel)) (v := .ref q1) rfl (by decide +kernel) ?_
  refine y_sipush (pc := 582) C (n := 283) (x := 283) (by decide +kernel) (by decide) ?_
  refine y_bipush (pc := 585) C (n := 100) (x := 100) (by decide +kernel) (by decide) ?_
  refine y_iast (pc := 587) C 1 (j := 283) rfl (by decide) (by unfold vp_in; decide) (by decide +kernel) ?_
  refine y_aload (pc := 588) C 0 (k := 0) (by decide +kernel) rfl ?_
  refine y_get (pc := 589) (idx := 11) C 0 0 rfl (hc := rfl) (by decide) rfl (atW_in (i := 1090) (by decide +kernel)) (v := .ref q1) rfl (by decide +kernel) ?_
  refine y_sipush (pc := 592) C (n := 284) (x := 284) (by decide +kernel) (by decide) ?_
  refine y_bipush (pc := 595) C (n := 25) (x := 25) (by decide +kernel) (by decide) ?_
  refine y_iast (pc := 597) C 1 (j := 284) rfl (by decide) (by unfold vp_in; decide) (by decide +kernel) ?_
  exact kk
set_option maxRecDepth 100000 in
set_option maxHeartbeats 4000000 in
theorem c_X9_init (l : Launch) (D : va_G) (cy : Nat → ClassId) (ad : Nat → Nat) : CtM l D cy ad M_X9_init 8 [.null, .null, .null, .int 0, .int 0, .null, .null, .int 0, .int 0, .null, .null, .null, .int 0, .int 0, .int 0, .int 0, .int 0, .null, .int 0, .null, .int 0, .null, .null, .int 0, .int 0, .int 0, .int 0, .int 0, .null, .null, .int 0, .null, .null, .null, .null] [] 18 3437 (W_X9_init cy) := by
  refine ct_of ok_X9_init (fun h0 => Nat.le_of_ble_eq_true rfl) (fun p e s m below meth c Q A h0 hin C hret => ?_)
  refine c_X9_init_0 hin C (fun q1 q2 q3 => ?_)
  refine c_X9_init_1 hin C (fun q4 q5 q6 q7 => ?_)
  refine c_X9_init_2 hin C (fun q8 q9 q10 => ?_)
  refine c_X9_init_3 hin C (fun q11 => ?_)
  refine c_X9_init_4 hin C ?_
  refine c_X9_init_5 hin C ?_
  refine c_X9_init_6 hin C ?_
  refine c_X9_init_7 hin C ?_
  refine c_X9_init_8 hin C ?_
  refine c_X9_init_9 hin C (fun q12 => ?_)
  refine c_X9_init_10 hin C (fun q13 q14 q15 q16 => ?_)
  refine c_X9_init_11 hin C (fun q17 q18 => ?_)
  refine c_X9_init_12 hin C ?_
  exact hret _ _ _ (by decide +kernel) ⟨q1, q2, q3, q4, q5, q6, q7, q8, q9, q10, q11, q12, q13, q14, q15, q16, q17, q18, rfl⟩
