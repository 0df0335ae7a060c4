def M_X8_init : MI := (yX8_init, cX8_init, 1, none, 0, 3, 62, false, 108, 107, 0, 86)
theorem ok_X8_init : okC M_X8_init = true := by decide +kernel
def W_X8_init (cy : Nat → ClassId) (h0 : Nat) (ws : va_W) : Prop := ∃ q1 q2 q3 q4 q5 q6 q7 q8 q9 q10 q11 q12 q13 q14 q15 q16 q17 q18 q19 q20 q21 q22 q23 q24 q25 q26 q27 q28 q29 q30 q31 q32 q33 q34 q35 q36 q37 q38 q39 q40 q41 q42 q43 q44 q45 q46 q47 q48 : Nat, ws = [(h0, .inr (7, [.ref q1, .ref q5, .ref q9, .ref q13, .ref q20, .ref q27, .ref q34, .ref q36, .ref q41, .ref q48, .int 0, .int 0, .int 0, .int 0, .int 0])),
    (q1, .inr (1, [.ref q2, .ref q3, .ref q4, .int 0, .int 0, .int 0])),
    (q2, .inl (cy 1, 180, .inl zI0)),
    (q3, .inl (cy 1, 120, .inl zI0)),
    (q4, .inl (cy 1, 3, .inl fRul)),
    (q5, .inr (1, [.ref q6, .ref q7, .ref q8, .int 0, .int 0, .int 0])),
    (q6, .inl (cy 1, 180, .inl zI0)),
    (q7, .inl (cy 1, 120, .inl zI0)),
    (q8, .inl (cy 1, 3, .inl fRul)),
    (q9, .inr (1, [.ref q10, .ref q11, .ref q12, .int 0, .int 0, .int 0])),
    (q10, .inl (cy 1, 180, .inl zI0)),
    (q11, .inl (cy 1, 120, .inl zI0)),
    (q12, .inl (cy 1, 3, .inl fRul)),
    (q13, .inr (0, [.ref q1, .ref q14, .ref q15, .ref q16, .int 0, .int 0, .int 0])),
    (q14, .inl (cy 1, 20, .inl zI0)),
    (q15, .inl (cy 1, 20, .inl zI0)),
    (q16, .inr (6, [.ref q17, .ref q18, .ref q19, .int 0, .int 0, .int 0, .int 0])),
    (q17, .inl (cy 1, 40, .inl zI0)),
    (q18, .inl (cy 1, 40, .inl zI0)),
    (q19, .inl (cy 1, 40, .inl zI0)),
    (q20, .inr (0, [.ref q1, .ref q21, .ref q22, .ref q23, .int 0, .int 0, .int 0])),
    (q21, .inl (cy 1, 20, .inl zI0)),
    (q22, .inl (cy 1, 20, .inl zI0)),
    (q23, .inr (6, [.ref q24, .ref q25, .ref q26, .int 0, .int 0, .int 0, .int 0])),
    (q24, .inl (cy 1, 40, .inl zI0)),
    (q25, .inl (cy 1, 40, .inl zI0)),
    (q26, .inl (cy 1, 40, .inl zI0)),
    (q27, .inr (2, [.ref q1, .ref q13, .ref q28, .ref q29, .ref q30, .int 0, .int 0, .int 0])),
    (q28, .inl (cy 1, 20, .inl zI0)),
    (q29, .inl (cy 1, 20, .inl zI0)),
    (q30, .inr (6, [.ref q31, .ref q32, .ref q33, .int 0, .int 0, .int 0, .int 0])),
    (q31, .inl (cy 1, 40, .inl zI0)),
    (q32, .inl (cy 1, 40, .inl zI0)),
    (q33, .inl (cy 1, 40, .inl zI0)),
    (q34, .inr (4, [.ref q35, .int 0])),
    (q35, .inl (cy 2, 1239, .inl zI0)),
    (q36, .inr (3, [.ref q37, .int 0, .int 0, .ref q38, .ref q39, .ref q40, .int 0, .int 0, .int 0])),
    (q37, .inl (cy 2, 80, .inl zI0)),
    (q38, .inl (cy 1, 13, .inl zI0)),
    (q39, .inl (cy 1, 13, .inl zI0)),
    (q40, .inl (cy 1, 78, .inl zI0)),
    (q41, .inr (5, [.ref q42, .ref q47])),
    (q42, .inl (cy 5, 4, .inr (.inr (.inr (.inr (fun i => ([some q43, some q44, some q45, some q46] : List (Option Nat)).getD i none)))))),
    (q43, .inl (cy 4, 40, .inr (.inl zJ0))),
    (q44, .inl (cy 4, 40, .inr (.inl zJ0))),
    (q45, .inl (cy 4, 40, .inr (.inl zJ0))),
    (q46, .inl (cy 4, 40, .inr (.inl zJ0))),
    (q47, .inl (cy 1, 4, .inl fX6_6)),
    (q48, .inl (cy 1, 40, .inl zI0))]
set_option maxRecDepth 100000 in
set_option maxHeartbeats 4000000 in
theorem c_X8_init (l : Launch) (D : va_G) (cy : Nat → ClassId) (ad : Nat → Nat) : CtM l D cy ad M_X8_init 7 [.null, .null, .null, .null, .null, .null, .null, .null, .null, .null, .int 0, .int 0, .int 0, .int 0, .int 0] [] 48 3094 (W_X8_init cy) := by
  refine ct_of ok_X8_init (fun h0 => Nat.le_of_ble_eq_true rfl) (fun p e s m below meth c Q A h0 hin C hret => ?_)
  refine y_aload (pc := 0) C 0 (k := 0) (by decide +kernel) rfl ?_
  refine y_obj (pc := 1) (idx := 5) C (atW_in (i := 109) (by decide +kernel)) oi_in oi_co (Nat.le_of_ble_eq_true rfl) (Nat.le_of_ble_eq_true rfl) (by decide +kernel) ?_
  refine y_aload (pc := 4) C 0 (k := 0) (by decide +kernel) rfl ?_
  refine y_new (pc := 5) (idx := 11) C (fs := [.null, .null, .null, .int 0, .int 0, .int 0]) (hc := (rfl : vwCl[1]? = some _)) tyX2 tyX2_ok (atW_in (i := 112) (by decide +kernel)) (atW_in (i := 113) (by decide +kernel)) (atW_in (i := 87) (by decide +kernel)) (by decide +kernel) (Nat.le_of_ble_eq_true rfl) (Nat.le_of_ble_eq_true rfl) (by decide +kernel) (fun q1 => ?_)
  refine y_dup (pc := 8) C (by decide +kernel) ?_
  refine y_call (pc := 9) (idx := 13) C (c_X2_init l D cy ad) ok_X2_init (Or.inl (atW_in (i := 114) (by decide +kernel))) rfl (Nat.le_of_ble_eq_true rfl) (Nat.le_of_ble_eq_true rfl) (by decide +kernel) 1 (h0 := q1) rfl [0] [(h0, .inr (7, [.null, .null, .null, .null, .null, .null, .null, .null, .null, .null, .int 0, .int 0, .int 0, .int 0, .int 0]))] rfl (by decide) (by decide) (st := [.ref q1, .ref h0]) (Nat.le_of_ble_eq_true rfl) (Nat.le_of_ble_eq_true rfl) (Nat.le_of_ble_eq_true rfl) (fun w1 hw => ?_)
  obtain ⟨q2, q3, q4, rfl⟩ := hw
  refine y_putF (pc := 12) (idx := 14) C hin 0 0 rfl (hc := rfl) (by decide) rfl (atW_in (i := 332) (by decide +kernel)) rfl (ty := .object "BlastFace$Pattern") (by decide +kernel) rfl rfl (Nat.le_of_ble_eq_true rfl) (by decide +kernel) ?_
  refine y_aload (pc := 15) C 0 (k := 0) (by decide +kernel) rfl ?_
  refine y_new (pc := 16) (idx := 11) C (fs := [.null, .null, .null, .int 0, .int 0, .int 0]) (hc := (rfl : vwCl[1]? = some _)) tyX2 tyX2_ok (atW_in (i := 112) (by decide +kernel)) (atW_in (i := 113) (by decide +kernel)) (atW_in (i := 87) (by decide +kernel)) (by decide +kernel) (Nat.le_of_ble_eq_true rfl) (Nat.le_of_ble_eq_true rfl) (by decide +kernel) (fun q5 => ?_)
  refine y_dup (pc := 19) C (by decide +kernel) ?_
  refine y_call (pc := 20) (idx := 13) C (c_X2_init l D cy ad) ok_X2_init (Or.inl (atW_in (i := 114) (by decide +kernel))) rfl (Nat.le_of_ble_eq_true rfl) (Nat.le_of_ble_eq_true rfl) (by decide +kernel) 5 (h0 := q5) rfl [0, 1, 2, 3, 4] [(h0, .inr (7, [.ref q1, .null, .null, .null, .null, .null, .null, .null, .null, .null, .int 0, .int 0, .int 0, .int 0, .int 0])),
    (q1, .inr (1, [.ref q2, .ref q3, .ref q4, .int 0, .int 0, .int 0])),
    (q2, .inl (cy 1, 180, .inl zI0)),
    (q3, .inl (cy 1, 120, .inl zI0)),
    (q4, .inl (cy 1, 3, .inl fRul))] rfl (by decide) (by decide) (st := [.ref q5, .ref h0]) (Nat.le_of_ble_eq_true rfl) (Nat.le_of_ble_eq_true rfl) (Nat.le_of_ble_eq_true rfl) (fun w1 hw => ?_)
  obtain ⟨q6, q7, q8, rfl⟩ := hw
  refine y_putF (pc := 23) (idx := 18) C hin 0 1 rfl (hc := rfl) (by decide) rfl (atW_in (i := 333) (by decide +kernel)) rfl (ty := .object "BlastFace$Pattern") (by decide +kernel) rfl rfl (Nat.le_of_ble_eq_true rfl) (by decide +kernel) ?_
  refine y_aload (pc := 26) C 0 (k := 0) (by decide +kernel) rfl ?_
  refine y_new (pc := 27) (idx := 11) C (fs := [.null, .null, .null, .int 0, .int 0, .int 0]) (hc := (rfl : vwCl[1]? = some _)) tyX2 tyX2_ok (atW_in (i := 112) (by decide +kernel)) (atW_in (i := 113) (by decide +kernel)) (atW_in (i := 87) (by decide +kernel)) (by decide +kernel) (Nat.le_of_ble_eq_true rfl) (Nat.le_of_ble_eq_true rfl) (by decide +kernel) (fun q9 => ?_)
  refine y_dup (pc := 30) C (by decide +kernel) ?_
  refine y_call (pc := 31) (idx := 13) C (c_X2_init l D cy ad) ok_X2_init (Or.inl (atW_in (i := 114) (by decide +kernel))) rfl (Nat.le_of_ble_eq_true rfl) (Nat.le_of_ble_eq_true rfl) (by decide +kernel) 9 (h0 := q9) rfl [0, 1, 2, 3, 4, 5, 6, 7, 8] [(h0, .inr (7, [.ref q1, .ref q5, .null, .null, .null, .null, .null, .null, .null, .null, .int 0, .int 0, .int 0, .int 0, .int 0])),
    (q1, .inr (1, [.ref q2, .ref q3, .ref q4, .int 0, .int 0, .int 0])),
    (q2, .inl (cy 1, 180, .inl zI0)),
    (q3, .inl (cy 1, 120, .inl zI0)),
    (q4, .inl (cy 1, 3, .inl fRul)),
    (q5, .inr (1, [.ref q6, .ref q7, .ref q8, .int 0, .int 0, .int 0])),
    (q6, .inl (cy 1, 180, .inl zI0)),
    (q7, .inl (cy 1, 120, .inl zI0)),
    (q8, .inl (cy 1, 3, .inl fRul))] rfl (by decide) (by decide) (st := [.ref q9, .ref h0]) (Nat.le_of_ble_eq_true rfl) (Nat.le_of_ble_eq_true rfl) (Nat.le_of_ble_eq_true rfl) (fun w1 hw => ?_)
  obtain ⟨q10, q11, q12, rfl⟩ := hw
  refine y_putF (pc := 34) (idx := 21) C hin 0 2 rfl (hc := rfl) (by decide) rfl (atW_in (i := 334) (by decide +kernel)) rfl (ty := .object "BlastFace$Pattern") (by decide +kernel) rfl rfl (Nat.le_of_ble_eq_true rfl) (by decide +kernel) ?_
  refine y_aload (pc := 37) C 0 (k := 0) (by decide +kernel) rfl ?_
  refine y_new (pc := 38) (idx := 24) C (fs := [.null, .null, .null, .null, .int 0, .int 0, .int 0]) (hc := (rfl : vwCl[0]? = some _)) tyX0 tyX0_ok (atW_in (i := 154) (by decide +kernel)) (atW_in (i := 155) (by decide +kernel)) (atW_in (i := 89) (by decide +kernel)) (by decide +kernel) (Nat.le_of_ble_eq_true rfl) (Nat.le_of_ble_eq_true rfl) (by decide +kernel) (fun q13 => ?_)
  refine y_dup (pc := 41) C (by decide +kernel) ?_
  refine y_aload (pc := 42) C 0 (k := 0) (by decide +kernel) rfl ?_
  refine y_get (pc := 43) (idx := 14) C 0 0 rfl (hc := rfl) (by decide) rfl (atW_in (i := 332) (by decide +kernel)) (v := .ref q1) rfl (by decide +kernel) ?_
  refine y_call (pc := 46) (idx := 26) C (c_X0_init l D cy ad q1) ok_X0_init (Or.inl (atW_in (i := 156) (by decide +kernel))) rfl (Nat.le_of_ble_eq_true rfl) (Nat.le_of_ble_eq_true rfl) (by decide +kernel) 13 (h0 := q13) rfl [0, 1, 2, 3, 4, 5, 6, 7, 8, 9, 10, 11, 12] [(h0, .inr (7, [.ref q1, .ref q5, .ref q9, .null, .null, .null, .null, .null, .null, .null, .int 0, .int 0, .int 0, .int 0, .int 0])),
    (q1, .inr (1, [.ref q2, .ref q3, .ref q4, .int 0, .int 0, .int 0])),
    (q2, .inl (cy 1, 180, .inl zI0)),
    (q3, .inl (cy 1, 120, .inl zI0)),
    (q4, .inl (cy 1, 3, .inl fRul)),
    (q5, .inr (1, [.ref q6, .ref q7, .ref q8, .int 0, .int 0, .int 0])),
    (q6, .inl (cy 1, 180, .inl zI0)),
    (q7, .inl (cy 1, 120, .inl zI0)),
    (q8, .inl (cy 1, 3, .inl fRul)),
    (q9, .inr (1, [.ref q10, .ref q11, .ref q12, .int 0, .int 0, .int 0])),
    (q10, .inl (cy 1, 180, .inl zI0)),
    (q11, .inl (cy 1, 120, .inl zI0)),
    (q12, .inl (cy 1, 3, .inl fRul))] rfl (by decide) (by decide) (st := [.ref q13, .ref h0]) (Nat.le_of_ble_eq_true rfl) (Nat.le_of_ble_eq_true rfl) (Nat.le_of_ble_eq_true rfl) (fun w1 hw => ?_)
  obtain ⟨q14, q15, q16, q17, q18, q19, rfl⟩ := hw
  refine y_putF (pc := 49) (idx := 29) C hin 0 3 rfl (hc := rfl) (by decide) rfl (atW_in (i := 335) (by decide +kernel)) rfl (ty := .object "BlastFace$Blast") (by decide +kernel) rfl rfl (Nat.le_of_ble_eq_true rfl) (by decide +kernel) ?_
  refine y_aload (pc := 52) C 0 (k := 0) (by decide +kernel) rfl ?_
  refine y_new (pc := 53) (idx := 24) C (fs := [.null, .null, .null, .null, .int 0, .int 0, .int 0]) (hc := (rfl : vwCl[0]? = some _)) tyX0 tyX0_ok (atW_in (i := 154) (by decide +kernel)) (atW_in (i := 155) (by decide +kernel)) (atW_in (i := 89) (by decide +kernel)) (by decide +kernel) (Nat.le_of_ble_eq_true rfl) (Nat.le_of_ble_eq_true rfl) (by decide +kernel) (fun q20 => ?_)
  refine y_dup (pc := 56) C (by decide +kernel) ?_
  refine y_aload (pc := 57) C 0 (k := 0) (by decide +kernel) rfl ?_
  refine y_get (pc := 58) (idx := 14) C 0 0 rfl (hc := rfl) (by decide) rfl (atW_in (i := 332) (by decide +kernel)) (v := .ref q1) rfl (by decide +kernel) ?_
  refine y_call (pc := 61) (idx := 26) C (c_X0_init l D cy ad q1) ok_X0_init (Or.inl (atW_in (i := 156) (by decide +kernel))) rfl (Nat.le_of_ble_eq_true rfl) (Nat.le_of_ble_eq_true rfl) (by decide +kernel) 20 (h0 := q20) rfl [0, 1, 2, 3, 4, 5, 6, 7, 8, 9, 10, 11, 12, 13, 14, 15, 16, 17, 18, 19] [(h0, .inr (7, [.ref q1, .ref q5, .ref q9, .ref q13, .null, .null, .null, .null, .null, .null, .int 0, .int 0, .int 0, .int 0, .int 0])),
    (q1, .inr (1, [.ref q2, .ref q3, .ref q4, .int 0, .int 0, .int 0])),
    (q2, .inl (cy 1, 180, .inl zI0)),
    (q3, .inl (cy 1, 120, .inl zI0)),
    (q4, .inl (cy 1, 3, .inl fRul)),
    (q5, .inr (1, [.ref q6, .ref q7, .ref q8, .int 0, .int 0, .int 0])),
    (q6, .inl (cy 1, 180, .inl zI0)),
    (q7, .inl (cy 1, 120, .inl zI0)),
    (q8, .inl (cy 1, 3, .inl fRul)),
    (q9, .inr (1, [.ref q10, .ref q11, .ref q12, .int 0, .int 0, .int 0])),
    (q10, .inl (cy 1, 180, .inl zI0)),
    (q11, .inl (cy 1, 120, .inl zI0)),
    (q12, .inl (cy 1, 3, .inl fRul)),
    (q13, .inr (0, [.ref q1, .ref q14, .ref q15, .ref q16, .int 0, .int 0, .int 0])),
    (q14, .inl (cy 1, 20, .inl zI0)),
    (q15, .inl (cy 1, 20, .inl zI0)),
    (q16, .inr (6, [.ref q17, .ref q18, .ref q19, .int 0, .int 0, .int 0, .int 0])),
    (q17, .inl (cy 1, 40, .inl zI0)),
    (q18, .inl (cy 1, 40, .inl zI0)),
    (q19, .inl (cy 1, 40, .inl zI0))] rfl (by decide) (by decide) (st := [.ref q20, .ref h0]) (Nat.le_of_ble_eq_true rfl) (Nat.le_of_ble_eq_true rfl) (Nat.le_of_ble_eq_true rfl) (fun w1 hw => ?_)
  obtain ⟨q21, q22, q23, q24, q25, q26, rfl⟩ := hw
  refine y_putF (pc := 64) (idx := 33) C hin 0 4 rfl (hc := rfl) (by decide) rfl (atW_in (i := 336) (by decide +kernel)) rfl (ty := .object "BlastFace$Blast") (by decide +kernel) rfl rfl (Nat.le_of_ble_eq_true rfl) (by decide +kernel) ?_
  refine y_aload (pc := 67) C 0 (k := 0) (by decide +kernel) rfl ?_
  refine y_new (pc := 68) (idx := 36) C (fs := [.null, .null, .null, .null, .null, .int 0, .int 0, .int 0]) (hc := (rfl : vwCl[2]? = some _)) tyX3 tyX3_ok (atW_in (i := 227) (by decide +kernel)) (atW_in (i := 228) (by decide +kernel)) (atW_in (i := 91) (by decide +kernel)) (by decide +kernel) (Nat.le_of_ble_eq_true rfl) (Nat.le_of_ble_eq_true rfl) (by decide +kernel) (fun q27 => ?_)
  refine y_dup (pc := 71) C (by decide +kernel) ?_
  refine y_aload (pc := 72) C 0 (k := 0) (by decide +kernel) rfl ?_
  refine y_get (pc := 73) (idx := 14) C 0 0 rfl (hc := rfl) (by decide) rfl (atW_in (i := 332) (by decide +kernel)) (v := .ref q1) rfl (by decide +kernel) ?_
  refine y_aload (pc := 76) C 0 (k := 0) (by decide +kernel) rfl ?_
  refine y_get (pc := 77) (idx := 29) C 0 3 rfl (hc := rfl) (by decide) rfl (atW_in (i := 335) (by decide +kernel)) (v := .ref q13) rfl (by decide +kernel) ?_
  refine y_call (pc := 80) (idx := 38) C (c_X3_init l D cy ad q1 q13) ok_X3_init (Or.inl (atW_in (i := 229) (by decide +kernel))) rfl (Nat.le_of_ble_eq_true rfl) (Nat.le_of_ble_eq_true rfl) (by decide +kernel) 27 (h0 := q27) rfl [0, 1, 2, 3, 4, 5, 6, 7, 8, 9, 10, 11, 12, 13, 14, 15, 16, 17, 18, 19, 20, 21, 22, 23, 24, 25, 26] [(h0, .inr (7, [.ref q1, .ref q5, .ref q9, .ref q13, .ref q20, .null, .null, .null, .null, .null, .int 0, .int 0, .int 0, .int 0, .int 0])),
    (q1, .inr (1, [.ref q2, .ref q3, .ref q4, .int 0, .int 0, .int 0])),
    (q2, .inl (cy 1, 180, .inl zI0)),
    (q3, .inl (cy 1, 120, .inl zI0)),
    (q4, .inl (cy 1, 3, .inl fRul)),
    (q5, .inr (1, [.ref q6, .ref q7, .ref q8, .int 0, .int 0, .int 0])),
    (q6, .inl (cy 1, 180, .inl zI0)),
    (q7, .inl (cy 1, 120, .inl zI0)),
    (q8, .inl (cy 1, 3, .inl fRul)),
    (q9, .inr (1, [.ref q10, .ref q11, .ref q12, .int 0, .int 0, .int 0])),
    (q10, .inl (cy 1, 180, .inl zI0)),
    (q11, .inl (cy 1, 120, .inl zI0)),
    (q12, .inl (cy 1, 3, .inl fRul)),
    (q13, .inr (0, [.ref q1, .ref q14, .ref q15, .ref q16, .int 0, .int 0, .int 0])),
    (q14, .inl (cy 1, 20, .inl zI0)),
    (q15, .inl (cy 1, 20, .inl zI0)),
    (q16, .inr (6, [.ref q17, .ref q18, .ref q19, .int 0, .int 0, .int 0, .int 0])),
    (q17, .inl (cy 1, 40, .inl zI0)),
    (q18, .inl (cy 1, 40, .inl zI0)),
    (q19, .inl (cy 1, 40, .inl zI0)),
    (q20, .inr (0, [.ref q1, .ref q21, .ref q22, .ref q23, .int 0, .int 0, .int 0])),
    (q21, .inl (cy 1, 20, .inl zI0)),
    (q22, .inl (cy 1, 20, .inl zI0)),
    (q23, .inr (6, [.ref q24, .ref q25, .ref q26, .int 0, .int 0, .int 0, .int 0])),
    (q24, .inl (cy 1, 40, .inl zI0)),
    (q25, .inl (cy 1, 40, .inl zI0)),
    (q26, .inl (cy 1, 40, .inl zI0))] rfl (by decide) (by decide) (st := [.ref q27, .ref h0]) (Nat.le_of_ble_eq_true rfl) (Nat.le_of_ble_eq_true rfl) (Nat.le_of_ble_eq_true rfl) (fun w1 hw => ?_)
  obtain ⟨q28, q29, q30, q31, q32, q33, rfl⟩ := hw
  refine y_putF (pc := 83) (idx := 41) C hin 0 5 rfl (hc := rfl) (by decide) rfl (atW_in (i := 337) (by decide +kernel)) rfl (ty := .object "BlastFace$Planner") (by decide +kernel) rfl rfl (Nat.le_of_ble_eq_true rfl) (by decide +kernel) ?_
  refine y_aload (pc := 86) C 0 (k := 0) (by decide +kernel) rfl ?_
  refine y_new (pc := 87) (idx := 45) C (fs := [.null, .int 0]) (hc := (rfl : vwCl[4]? = some _)) tyX5 tyX5_ok (atW_in (i := 263) (by decide +kernel)) (atW_in (i := 264) (by decide +kernel)) (atW_in (i := 92) (by decide +kernel)) (by decide +kernel) (Nat.le_of_ble_eq_true rfl) (Nat.le_of_ble_eq_true rfl) (by decide +kernel) (fun q34 => ?_)
  refine y_dup (pc := 90) C (by decide +kernel) ?_
  refine y_call (pc := 91) (idx := 47) C (c_X5_init l D cy ad) ok_X5_init (Or.inr ⟨_, List.mem_of_getElem? (i := 2) rfl, rfl, rfl, rfl⟩) rfl (Nat.le_of_ble_eq_true rfl) (Nat.le_of_ble_eq_true rfl) (by decide +kernel) 34 (h0 := q34) rfl [0, 1, 2, 3, 4, 5, 6, 7, 8, 9, 10, 11, 12, 13, 14, 15, 16, 17, 18, 19, 20, 21, 22, 23, 24, 25, 26, 27, 28, 29, 30, 31, 32, 33] [(h0, .inr (7, [.ref q1, .ref q5, .ref q9, .ref q13, .ref q20, .ref q27, .null, .null, .null, .null, .int 0, .int 0, .int 0, .int 0, .int 0])),
    (q1, .inr (1, [.ref q2, .ref q3, .ref q4, .int 0, .int 0, .int 0])),
    (q2, .inl (cy 1, 180, .inl zI0)),
    (q3, .inl (cy 1, 120, .inl zI0)),
    (q4, .inl (cy 1, 3, .inl fRul)),
    (q5, .inr (1, [.ref q6, .ref q7, .ref q8, .int 0, .int 0, .int 0])),
    (q6, .inl (cy 1, 180, .inl zI0)),
    (q7, .inl (cy 1, 120, .inl zI0)),
    (q8, .inl (cy 1, 3, .inl fRul)),
    (q9, .inr (1, [.ref q10, .ref q11, .ref q12, .int 0, .int 0, .int 0])),
    (q10, .inl (cy 1, 180, .inl zI0)),
    (q11, .inl (cy 1, 120, .inl zI0)),
    (q12, .inl (cy 1, 3, .inl fRul)),
    (q13, .inr (0, [.ref q1, .ref q14, .ref q15, .ref q16, .int 0, .int 0, .int 0])),
    (q14, .inl (cy 1, 20, .inl zI0)),
    (q15, .inl (cy 1, 20, .inl zI0)),
    (q16, .inr (6, [.ref q17, .ref q18, .ref q19, .int 0, .int 0, .int 0, .int 0])),
    (q17, .inl (cy 1, 40, .inl zI0)),
    (q18, .inl (cy 1, 40, .inl zI0)),
    (q19, .inl (cy 1, 40, .inl zI0)),
    (q20, .inr (0, [.ref q1, .ref q21, .ref q22, .ref q23, .int 0, .int 0, .int 0])),
    (q21, .inl (cy 1, 20, .inl zI0)),
    (q22, .inl (cy 1, 20, .inl zI0)),
    (q23, .inr (6, [.ref q24, .ref q25, .ref q26, .int 0, .int 0, .int 0, .int 0])),
    (q24, .inl (cy 1, 40, .inl zI0)),
    (q25, .inl (cy 1, 40, .inl zI0)),
    (q26, .inl (cy 1, 40, .inl zI0)),
    (q27, .inr (2, [.ref q1, .ref q13, .ref q28, .ref q29, .ref q30, .int 0, .int 0, .int 0])),
    (q28, .inl (cy 1, 20, .inl zI0)),
    (q29, .inl (cy 1, 20, .inl zI0)),
    (q30, .inr (6, [.ref q31, .ref q32, .ref q33, .int 0, .int 0, .int 0, .int 0])),
    (q31, .inl (cy 1, 40, .inl zI0)),
    (q32, .inl (cy 1, 40, .inl zI0)),
    (q33, .inl (cy 1, 40, .inl zI0))] rfl (by decide) (by decide) (st := [.ref q34, .ref h0]) (Nat.le_of_ble_eq_true rfl) (Nat.le_of_ble_eq_true rfl) (Nat.le_of_ble_eq_true rfl) (fun w1 hw => ?_)
  obtain ⟨q35, rfl⟩ := hw
  refine y_putF (pc := 94) (idx := 48) C hin 0 6 rfl (hc := rfl) (by decide) rfl (atW_in (i := 338) (by decide +kernel)) rfl (ty := .object "BlastFace$Scribe") (by decide +kernel) rfl rfl (Nat.le_of_ble_eq_true rfl) (by decide +kernel) ?_
  refine y_aload (pc := 97) C 0 (k := 0) (by decide +kernel) rfl ?_
  refine y_new (pc := 98) (idx := 52) C (fs := [.null, .int 0, .int 0, .null, .null, .null, .int 0, .int 0, .int 0]) (hc := (rfl : vwCl[3]? = some _)) tyX4 tyX4_ok (atW_in (i := 279) (by decide +kernel)) (atW_in (i := 280) (by decide +kernel)) (atW_in (i := 93) (by decide +kernel)) (by decide +kernel) (Nat.le_of_ble_eq_true rfl) (Nat.le_of_ble_eq_true rfl) (by decide +kernel) (fun q36 => ?_)
  refine y_dup (pc := 101) C (by decide +kernel) ?_
  refine y_call (pc := 102) (idx := 54) C (c_X4_init l D cy ad) ok_X4_init (Or.inr ⟨_, List.mem_of_getElem? (i := 3) rfl, rfl, rfl, rfl⟩) rfl (Nat.le_of_ble_eq_true rfl) (Nat.le_of_ble_eq_true rfl) (by decide +kernel) 36 (h0 := q36) rfl [0, 1, 2, 3, 4, 5, 6, 7, 8, 9, 10, 11, 12, 13, 14, 15, 16, 17, 18, 19, 20, 21, 22, 23, 24, 25, 26, 27, 28, 29, 30, 31, 32, 33, 34, 35] [(h0, .inr (7, [.ref q1, .ref q5, .ref q9, .ref q13, .ref q20, .ref q27, .ref q34, .null, .null, .null, .int 0, .int 0, .int 0, .int 0, .int 0])),
    (q1, .inr (1, [.ref q2, .ref q3, .ref q4, .int 0, .int 0, .int 0])),
    (q2, .inl (cy 1, 180, .inl zI0)),
    (q3, .inl (cy 1, 120, .inl zI0)),
    (q4, .inl (cy 1, 3, .inl fRul)),
    (q5, .inr (1, [.ref q6, .ref q7, .ref q8, .int 0, .int 0, .int 0])),
    (q6, .inl (cy 1, 180, .inl zI0)),
    (q7, .inl (cy 1, 120, .inl zI0)),
    (q8, .inl (cy 1, 3, .inl fRul)),
    (q9, .inr (1, [.ref q10, .ref q11, .ref q12, .int 0, .int 0, .int 0])),
    (q10, .inl (cy 1, 180, .inl zI0)),
    (q11, .inl (cy 1, 120, .inl zI0)),
    (q12, .inl (cy 1, 3, .inl fRul)),
    (q13, .inr (0, [.ref q1, .ref q14, .ref q15, .ref q16, .int 0, .int 0, .int 0])),
    (q14, .inl (cy 1, 20, .inl zI0)),
    (q15, .inl (cy 1, 20, .inl zI0)),
    (q16, .inr (6, [.ref q17, .ref q18, .ref q19, .int 0, .int 0, .int 0, .int 0])),
    (q17, .inl (cy 1, 40, .inl zI0)),
    (q18, .inl (cy 1, 40, .inl zI0)),
    (q19, .inl (cy 1, 40, .inl zI0)),
    (q20, .inr (0, [.ref q1, .ref q21, .ref q22, .ref q23, .int 0, .int 0, .int 0])),
    (q21, .inl (cy 1, 20, .inl zI0)),
    (q22, .inl (cy 1, 20, .inl zI0)),
    (q23, .inr (6, [.ref q24, .ref q25, .ref q26, .int 0, .int 0, .int 0, .int 0])),
    (q24, .inl (cy 1, 40, .inl zI0)),
    (q25, .inl (cy 1, 40, .inl zI0)),
    (q26, .inl (cy 1, 40, .inl zI0)),
    (q27, .inr (2, [.ref q1, .ref q13, .ref q28, .ref q29, .ref q30, .int 0, .int 0, .int 0])),
    (q28, .inl (cy 1, 20, .inl zI0)),
    (q29, .inl (cy 1, 20, .inl zI0)),
    (q30, .inr (6, [.ref q31, .ref q32, .ref q33, .int 0, .int 0, .int 0, .int 0])),
    (q31, .inl (cy 1, 40, .inl zI0)),
    (q32, .inl (cy 1, 40, .inl zI0)),
    (q33, .inl (cy 1, 40, .inl zI0)),
    (q34, .inr (4, [.ref q35, .int 0])),
    (q35, .inl (cy 2, 1239, .inl zI0))] rfl (by decide) (by decide) (st := [.ref q36, .ref h0]) (Nat.le_of_ble_eq_true rfl) (Nat.le_of_ble_eq_true rfl) (Nat.le_of_ble_eq_true rfl) (fun w1 hw => ?_)
  obtain ⟨q37, q38, q39, q40, rfl⟩ := hw
  refine y_putF (pc := 105) (idx := 55) C hin 0 7 rfl (hc := rfl) (by decide) rfl (atW_in (i := 339) (by decide +kernel)) rfl (ty := .object "BlastFace$Reader") (by decide +kernel) rfl rfl (Nat.le_of_ble_eq_true rfl) (by decide +kernel) ?_
  refine y_aload (pc := 108) C 0 (k := 0) (by decide +kernel) rfl ?_
  refine y_new (pc := 109) (idx := 59) C (fs := [.null, .null]) (hc := (rfl : vwCl[5]? = some _)) tyX6 tyX6_ok (atW_in (i := 315) (by decide +kernel)) (atW_in (i := 316) (by decide +kernel)) (atW_in (i := 94) (by decide +kernel)) (by decide +kernel) (Nat.le_of_ble_eq_true rfl) (Nat.le_of_ble_eq_true rfl) (by decide +kernel) (fun q41 => ?_)
  refine y_dup (pc := 112) C (by decide +kernel) ?_
  refine y_call (pc := 113) (idx := 61) C (c_X6_init l D cy ad) ok_X6_init (Or.inr ⟨_, List.mem_of_getElem? (i := 4) rfl, rfl, rfl, rfl⟩) rfl (Nat.le_of_ble_eq_true rfl) (Nat.le_of_ble_eq_true rfl) (by decide +kernel) 41 (h0 := q41) rfl [0, 1, 2, 3, 4, 5, 6, 7, 8, 9, 10, 11, 12, 13, 14, 15, 16, 17, 18, 19, 20, 21, 22, 23, 24, 25, 26, 27, 28, 29, 30, 31, 32, 33, 34, 35, 36, 37, 38, 39, 40] [(h0, .inr (7, [.ref q1, .ref q5, .ref q9, .ref q13, .ref q20, .ref q27, .ref q34, .ref q36, .null, .null, .int 0, .int 0, .int 0, .int 0, .int 0])),
    (q1, .inr (1, [.ref q2, .ref q3, .ref q4, .int 0, .int 0, .int 0])),
    (q2, .inl (cy 1, 180, .inl zI0)),
    (q3, .inl (cy 1, 120, .inl zI0)),
    (q4, .inl (cy 1, 3, .inl fRul)),
    (q5, .inr (1, [.ref q6, .ref q7, .ref q8, .int 0, .int 0, .int 0])),
    (q6, .inl (cy 1, 180, .inl zI0)),
    (q7, .inl (cy 1, 120, .inl zI0)),
    (q8, .inl (cy 1, 3, .inl fRul)),
    (q9, .inr (1, [.ref q10, .ref q11, .ref q12, .int 0, .int 0, .int 0])),
    (q10, .inl (cy 1, 180, .inl zI0)),
    (q11, .inl (cy 1, 120, .inl zI0)),
    (q12, .inl (cy 1, 3, .inl fRul)),
    (q13, .inr (0, [.ref q1, .ref q14, .ref q15, .ref q16, .int 0, .int 0, .int 0])),
    (q14, .inl (cy 1, 20, .inl zI0)),
    (q15, .inl (cy 1, 20, .inl zI0)),
    (q16, .inr (6, [.ref q17, .ref q18, .ref q19, .int 0, .int 0, .int 0, .int 0])),
    (q17, .inl (cy 1, 40, .inl zI0)),
    (q18, .inl (cy 1, 40, .inl zI0)),
    (q19, .inl (cy 1, 40, .inl zI0)),
    (q20, .inr (0, [.ref q1, .ref q21, .ref q22, .ref q23, .int 0, .int 0, .int 0])),
    (q21, .inl (cy 1, 20, .inl zI0)),
    (q22, .inl (cy 1, 20, .inl zI0)),
    (q23, .inr (6, [.ref q24, .ref q25, .ref q26, .int 0, .int 0, .int 0, .int 0])),
    (q24, .inl (cy 1, 40, .inl zI0)),
    (q25, .inl (cy 1, 40, .inl zI0)),
    (q26, .inl (cy 1, 40, .inl zI0)),
    (q27, .inr (2, [.ref q1, .ref q13, .ref q28, .ref q29, .ref q30, .int 0, .int 0, .int 0])),
    (q28, .inl (cy 1, 20, .inl zI0)),
    (q29, .inl (cy 1, 20, .inl zI0)),
    (q30, .inr (6, [.ref q31, .ref q32, .ref q33, .int 0, .int 0, .int 0, .int 0])),
    (q31, .inl (cy 1, 40, .inl zI0)),
    (q32, .inl (cy 1, 40, .inl zI0)),
    (q33, .inl (cy 1, 40, .inl zI0)),
    (q34, .inr (4, [.ref q35, .int 0])),
    (q35, .inl (cy 2, 1239, .inl zI0)),
    (q36, .inr (3, [.ref q37, .int 0, .int 0, .ref q38, .ref q39, .ref q40, .int 0, .int 0, .int 0])),
    (q37, .inl (cy 2, 80, .inl zI0)),
    (q38, .inl (cy 1, 13, .inl zI0)),
    (q39, .inl (cy 1, 13, .inl zI0)),
    (q40, .inl (cy 1, 78, .inl zI0))] rfl (by decide) (by decide) (st := [.ref q41, .ref h0]) (Nat.le_of_ble_eq_true rfl) (Nat.le_of_ble_eq_true rfl) (Nat.le_of_ble_eq_true rfl) (fun w1 hw => ?_)
  obtain ⟨q42, q43, q44, q45, q46, q47, rfl⟩ := hw
  refine y_putF (pc := 116) (idx := 62) C hin 0 8 rfl (hc := rfl) (by decide) rfl (atW_in (i := 340) (by decide +kernel)) rfl (ty := .object "BlastFace$Shelf") (by decide +kernel) rfl rfl (Nat.le_of_ble_eq_true rfl) (by decide +kernel) ?_
  refine y_aload (pc := 119) C 0 (k := 0) (by decide +kernel) rfl ?_
  refine y_bipush (pc := 120) C (n := 40) (x := 40) (by decide +kernel) (by decide) ?_
  refine y_newI (pc := 122) (N := 40) C ar_I (by decide) (by decide) (Nat.le_of_ble_eq_true rfl) (Nat.le_of_ble_eq_true rfl) (Nat.le_of_ble_eq_true rfl) (by decide +kernel) (fun q48 => ?_)
  refine y_putF (pc := 124) (idx := 66) C hin 0 9 rfl (hc := rfl) (by decide) rfl (atW_in (i := 341) (by decide +kernel)) rfl (ty := .array .int) (by decide +kernel) rfl rfl (Nat.le_of_ble_eq_true rfl) (by decide +kernel) ?_
  exact hret _ _ _ (by decide +kernel) ⟨q1, q2, q3, q4, q5, q6, q7, q8, q9, q10, q11, q12, q13, q14, q15, q16, q17, q18, q19, q20, q21, q22, q23, q24, q25, q26, q27, q28, q29, q30, q31, q32, q33, q34, q35, q36, q37, q38, q39, q40, q41, q42, q43, q44, q45, q46, q47, q48, rfl⟩
