/-! counting bits -/
def bcN (x : Nat) : Nat :=
  let a := x - (Nat.land (Nat.shiftRight x 1) 1431655765)
  let b := Nat.land a 858993459 + Nat.land (Nat.shiftRight a 2) 858993459
  let c := Nat.land (b + Nat.shiftRight b 4) 252645135
  let d := c + Nat.shiftRight c 8
  Nat.land (d + Nat.shiftRight d 16) 63
def allB : Nat → Nat → Nat → Bool
  | 0, b, c => Nat.beq (bcN b) c
  | d + 1, b, c => and (allB d (2 * b) c) (allB d (2 * b + 1) (c + 1))
theorem allB_j {d b c : Nat} (h1 : allB d (2 * b) c = true) (h2 : allB d (2 * b + 1) (c + 1) = true) : allB (d + 1) b c = true := by
  show ((allB d (2 * b) c) && (allB d (2 * b + 1) (c + 1))) = true
  rw [h1, h2]; rfl
theorem allB_14_0 : allB 14 0 0 = true := by decide +kernel
theorem allB_14_1 : allB 14 1 1 = true := by decide +kernel
theorem allB_15_0 : allB 15 0 0 = true := allB_j allB_14_0 allB_14_1
theorem allB_14_2 : allB 14 2 1 = true := by decide +kernel
theorem allB_14_3 : allB 14 3 2 = true := by decide +kernel
theorem allB_15_1 : allB 15 1 1 = true := allB_j allB_14_2 allB_14_3
theorem allB_16_0 : allB 16 0 0 = true := allB_j allB_15_0 allB_15_1
theorem allB_14_4 : allB 14 4 1 = true := by decide +kernel
theorem allB_14_5 : allB 14 5 2 = true := by decide +kernel
theorem allB_15_2 : allB 15 2 1 = true := allB_j allB_14_4 allB_14_5
theorem allB_14_6 : allB 14 6 2 = true := by decide +kernel
theorem allB_14_7 : allB 14 7 3 = true := by decide +kernel
theorem allB_15_3 : allB 15 3 2 = true := allB_j allB_14_6 allB_14_7
theorem allB_16_1 : allB 16 1 1 = true := allB_j allB_15_2 allB_15_3
theorem allB_17_0 : allB 17 0 0 = true := allB_j allB_16_0 allB_16_1
theorem allB_14_8 : allB 14 8 1 = true := by decide +kernel
theorem allB_14_9 : allB 14 9 2 = true := by decide +kernel
theorem allB_15_4 : allB 15 4 1 = true := allB_j allB_14_8 allB_14_9
theorem allB_14_10 : allB 14 10 2 = true := by decide +kernel
theorem allB_14_11 : allB 14 11 3 = true := by decide +kernel
theorem allB_15_5 : allB 15 5 2 = true := allB_j allB_14_10 allB_14_11
theorem allB_16_2 : allB 16 2 1 = true := allB_j allB_15_4 allB_15_5
theorem allB_14_12 : allB 14 12 2 = true := by decide +kernel
theorem allB_14_13 : allB 14 13 3 = true := by decide +kernel
theorem allB_15_6 : allB 15 6 2 = true := allB_j allB_14_12 allB_14_13
theorem allB_14_14 : allB 14 14 3 = true := by decide +kernel
theorem allB_14_15 : allB 14 15 4 = true := by decide +kernel
theorem allB_15_7 : allB 15 7 3 = true := allB_j allB_14_14 allB_14_15
theorem allB_16_3 : allB 16 3 2 = true := allB_j allB_15_6 allB_15_7
theorem allB_17_1 : allB 17 1 1 = true := allB_j allB_16_2 allB_16_3
theorem allB_18_0 : allB 18 0 0 = true := allB_j allB_17_0 allB_17_1
theorem allB_14_16 : allB 14 16 1 = true := by decide +kernel
theorem allB_14_17 : allB 14 17 2 = true := by decide +kernel
theorem allB_15_8 : allB 15 8 1 = true := allB_j allB_14_16 allB_14_17
theorem allB_14_18 : allB 14 18 2 = true := by decide +kernel
theorem allB_14_19 : allB 14 19 3 = true := by decide +kernel
theorem allB_15_9 : allB 15 9 2 = true := allB_j allB_14_18 allB_14_19
theorem allB_16_4 : allB 16 4 1 = true := allB_j allB_15_8 allB_15_9
theorem allB_14_20 : allB 14 20 2 = true := by decide +kernel
theorem allB_14_21 : allB 14 21 3 = true := by decide +kernel
theorem allB_15_10 : allB 15 10 2 = true := allB_j allB_14_20 allB_14_21
theorem allB_14_22 : allB 14 22 3 = true := by decide +kernel
theorem allB_14_23 : allB 14 23 4 = true := by decide +kernel
theorem allB_15_11 : allB 15 11 3 = true := allB_j allB_14_22 allB_14_23
theorem allB_16_5 : allB 16 5 2 = true := allB_j allB_15_10 allB_15_11
theorem allB_17_2 : allB 17 2 1 = true := allB_j allB_16_4 allB_16_5
theorem allB_14_24 : allB 14 24 2 = true := by decide +kernel
theorem allB_14_25 : allB 14 25 3 = true := by decide +kernel
theorem allB_15_12 : allB 15 12 2 = true := allB_j allB_14_24 allB_14_25
theorem allB_14_26 : allB 14 26 3 = true := by decide +kernel
theorem allB_14_27 : allB 14 27 4 = true := by decide +kernel
theorem allB_15_13 : allB 15 13 3 = true := allB_j allB_14_26 allB_14_27
theorem allB_16_6 : allB 16 6 2 = true := allB_j allB_15_12 allB_15_13
theorem allB_14_28 : allB 14 28 3 = true := by decide +kernel
theorem allB_14_29 : allB 14 29 4 = true := by decide +kernel
theorem allB_15_14 : allB 15 14 3 = true := allB_j allB_14_28 allB_14_29
theorem allB_14_30 : allB 14 30 4 = true := by decide +kernel
theorem allB_14_31 : allB 14 31 5 = true := by decide +kernel
theorem allB_15_15 : allB 15 15 4 = true := allB_j allB_14_30 allB_14_31
theorem allB_16_7 : allB 16 7 3 = true := allB_j allB_15_14 allB_15_15
theorem allB_17_3 : allB 17 3 2 = true := allB_j allB_16_6 allB_16_7
theorem allB_18_1 : allB 18 1 1 = true := allB_j allB_17_2 allB_17_3
theorem allB_19_0 : allB 19 0 0 = true := allB_j allB_18_0 allB_18_1
theorem allB_14_32 : allB 14 32 1 = true := by decide +kernel
theorem allB_14_33 : allB 14 33 2 = true := by decide +kernel
theorem allB_15_16 : allB 15 16 1 = true := allB_j allB_14_32 allB_14_33
theorem allB_14_34 : allB 14 34 2 = true := by decide +kernel
theorem allB_14_35 : allB 14 35 3 = true := by decide +kernel
theorem allB_15_17 : allB 15 17 2 = true := allB_j allB_14_34 allB_14_35
theorem allB_16_8 : allB 16 8 1 = true := allB_j allB_15_16 allB_15_17
theorem allB_14_36 : allB 14 36 2 = true := by decide +kernel
theorem allB_14_37 : allB 14 37 3 = true := by decide +kernel
theorem allB_15_18 : allB 15 18 2 = true := allB_j allB_14_36 allB_14_37
theorem allB_14_38 : allB 14 38 3 = true := by decide +kernel
theorem allB_14_39 : allB 14 39 4 = true := by decide +kernel
theorem allB_15_19 : allB 15 19 3 = true := allB_j allB_14_38 allB_14_39
theorem allB_16_9 : allB 16 9 2 = true := allB_j allB_15_18 allB_15_19
theorem allB_17_4 : allB 17 4 1 = true := allB_j allB_16_8 allB_16_9
theorem allB_14_40 : allB 14 40 2 = true := by decide +kernel
theorem allB_14_41 : allB 14 41 3 = true := by decide +kernel
theorem allB_15_20 : allB 15 20 2 = true := allB_j allB_14_40 allB_14_41
theorem allB_14_42 : allB 14 42 3 = true := by decide +kernel
theorem allB_14_43 : allB 14 43 4 = true := by decide +kernel
theorem allB_15_21 : allB 15 21 3 = true := allB_j allB_14_42 allB_14_43
theorem allB_16_10 : allB 16 10 2 = true := allB_j allB_15_20 allB_15_21
theorem allB_14_44 : allB 14 44 3 = true := by decide +kernel
theorem allB_14_45 : allB 14 45 4 = true := by decide +kernel
theorem allB_15_22 : allB 15 22 3 = true := allB_j allB_14_44 allB_14_45
theorem allB_14_46 : allB 14 46 4 = true := by decide +kernel
theorem allB_14_47 : allB 14 47 5 = true := by decide +kernel
theorem allB_15_23 : allB 15 23 4 = true := allB_j allB_14_46 allB_14_47
theorem allB_16_11 : allB 16 11 3 = true := allB_j allB_15_22 allB_15_23
theorem allB_17_5 : allB 17 5 2 = true := allB_j allB_16_10 allB_16_11
theorem allB_18_2 : allB 18 2 1 = true := allB_j allB_17_4 allB_17_5
theorem allB_14_48 : allB 14 48 2 = true := by decide +kernel
theorem allB_14_49 : allB 14 49 3 = true := by decide +kernel
theorem allB_15_24 : allB 15 24 2 = true := allB_j allB_14_48 allB_14_49
theorem allB_14_50 : allB 14 50 3 = true := by decide +kernel
theorem allB_14_51 : allB 14 51 4 = true := by decide +kernel
theorem allB_15_25 : allB 15 25 3 = true := allB_j allB_14_50 allB_14_51
theorem allB_16_12 : allB 16 12 2 = true := allB_j allB_15_24 allB_15_25
theorem allB_14_52 : allB 14 52 3 = true := by decide +kernel
theorem allB_14_53 : allB 14 53 4 = true := by decide +kernel
theorem allB_15_26 : allB 15 26 3 = true := allB_j allB_14_52 allB_14_53
theorem allB_14_54 : allB 14 54 4 = true := by decide +kernel
theorem allB_14_55 : allB 14 55 5 = true := by decide +kernel
theorem allB_15_27 : allB 15 27 4 = true := allB_j allB_14_54 allB_14_55
theorem allB_16_13 : allB 16 13 3 = true := allB_j allB_15_26 allB_15_27
theorem allB_17_6 : allB 17 6 2 = true := allB_j allB_16_12 allB_16_13
theorem allB_14_56 : allB 14 56 3 = true := by decide +kernel
theorem allB_14_57 : allB 14 57 4 = true := by decide +kernel
theorem allB_15_28 : allB 15 28 3 = true := allB_j allB_14_56 allB_14_57
theorem allB_14_58 : allB 14 58 4 = true := by decide +kernel
theorem allB_14_59 : allB 14 59 5 = true := by decide +kernel
theorem allB_15_29 : allB 15 29 4 = true := allB_j allB_14_58 allB_14_59
theorem allB_16_14 : allB 16 14 3 = true := allB_j allB_15_28 allB_15_29
theorem allB_14_60 : allB 14 60 4 = true := by decide +kernel
theorem allB_14_61 : allB 14 61 5 = true := by decide +kernel
theorem allB_15_30 : allB 15 30 4 = true := allB_j allB_14_60 allB_14_61
theorem allB_14_62 : allB 14 62 5 = true := by decide +kernel
theorem allB_14_63 : allB 14 63 6 = true := by decide +kernel
theorem allB_15_31 : allB 15 31 5 = true := allB_j allB_14_62 allB_14_63
theorem allB_16_15 : allB 16 15 4 = true := allB_j allB_15_30 allB_15_31
theorem allB_17_7 : allB 17 7 3 = true := allB_j allB_16_14 allB_16_15
theorem allB_18_3 : allB 18 3 2 = true := allB_j allB_17_6 allB_17_7
theorem allB_19_1 : allB 19 1 1 = true := allB_j allB_18_2 allB_18_3
theorem allB_20_0 : allB 20 0 0 = true := allB_j allB_19_0 allB_19_1
theorem allB_ok : allB 20 0 0 = true := allB_20_0
