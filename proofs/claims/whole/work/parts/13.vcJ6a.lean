def vc_J6_bitCount_0f7a4_0 (S : Sp) (Φ : Rs) (v : Kt) (l0 : Int32) (σ : St) : Prop := ∀ y1 : Int32, y1 = ((l0 - ((((l0 : Int32).toUInt32 >>> ((1 : Int32).toUInt32 &&& Int32.toUInt32 31)).toInt32) &&& 1431655765)) &&& 858993459) + ((((l0 - ((((l0 : Int32).toUInt32 >>> ((1 : Int32).toUInt32 &&& Int32.toUInt32 31)).toInt32) &&& 1431655765) : Int32).toUInt32 >>> ((2 : Int32).toUInt32 &&& Int32.toUInt32 31)).toInt32) &&& 858993459) → (∀ y2 : Int32, y2 = ((y1 + (((y1 : Int32).toUInt32 >>> ((4 : Int32).toUInt32 &&& Int32.toUInt32 31)).toInt32)) &&& 252645135) + ((((y1 + (((y1 : Int32).toUInt32 >>> ((4 : Int32).toUInt32 &&& Int32.toUInt32 31)).toInt32)) &&& 252645135 : Int32).toUInt32 >>> ((8 : Int32).toUInt32 &&& Int32.toUInt32 31)).toInt32) → (Φ [aI ((y2 + (((y2 : Int32).toUInt32 >>> ((16 : Int32).toUInt32 &&& Int32.toUInt32 31)).toInt32)) &&& 63)] σ))
theorem w_J6_bitCount_0f7a4_0 {S : Sp} (hS : Sys S) {Φ : Rs} {v : Kt} (hv : Cl S Φ k_J6_bitCount_0f7a4 v) (hw : Wk v) (l0 : Int32) (σ : St) (h : vc_J6_bitCount_0f7a4_0 S Φ v l0 σ) : v 0 [some (aI l0)] [] σ := by
  unfold vc_J6_bitCount_0f7a4_0 at h
  refine r_iload_n (pc := 0) hv 0 rfl rfl ?_
  refine r_iload_n (pc := 1) hv 1 rfl rfl ?_
  refine r_iconst (pc := 2) hv 2 rfl  ?_
  refine r_iushr (pc := 3) hv 3 rfl  ?_
  refine r_ldc_w (pc := 4) hv 4 rfl  ?_
  refine r_iand (pc := 7) hv 5 rfl  ?_
  refine r_isub (pc := 8) hv 6 rfl  ?_
  refine r_istore_n (pc := 9) (lo' := [some (aI (l0 - ((((l0 : Int32).toUInt32 >>> ((1 : Int32).toUInt32 &&& Int32.toUInt32 31)).toInt32) &&& 1431655765)))]) hv 7 rfl rfl ?_
  refine r_iload_n (pc := 10) hv 8 rfl rfl ?_
  refine r_ldc_w (pc := 11) hv 9 rfl  ?_
  refine r_iand (pc := 14) hv 10 rfl  ?_
  refine r_iload_n (pc := 15) hv 11 rfl rfl ?_
  refine r_iconst (pc := 16) hv 12 rfl  ?_
  refine r_iushr (pc := 17) hv 13 rfl  ?_
  refine r_ldc_w (pc := 18) hv 14 rfl  ?_
  refine r_iand (pc := 21) hv 15 rfl  ?_
  refine r_iadd (pc := 22) hv 16 rfl  ?_
  obtain ⟨y1, e_y1⟩ : ∃ y : Int32, y = ((l0 - ((((l0 : Int32).toUInt32 >>> ((1 : Int32).toUInt32 &&& Int32.toUInt32 31)).toInt32) &&& 1431655765)) &&& 858993459) + ((((l0 - ((((l0 : Int32).toUInt32 >>> ((1 : Int32).toUInt32 &&& Int32.toUInt32 31)).toInt32) &&& 1431655765) : Int32).toUInt32 >>> ((2 : Int32).toUInt32 &&& Int32.toUInt32 31)).toInt32) &&& 858993459) := ⟨_, rfl⟩
  rw [← e_y1]
  replace h := h y1 e_y1
  refine r_istore_n (pc := 23) (lo' := [some (aI y1)]) hv 17 rfl rfl ?_
  refine r_iload_n (pc := 24) hv 18 rfl rfl ?_
  refine r_iload_n (pc := 25) hv 19 rfl rfl ?_
  refine r_iconst (pc := 26) hv 20 rfl  ?_
  refine r_iushr (pc := 27) hv 21 rfl  ?_
  refine r_iadd (pc := 28) hv 22 rfl  ?_
  refine r_ldc_w (pc := 29) hv 23 rfl  ?_
  refine r_iand (pc := 32) hv 24 rfl  ?_
  refine r_istore_n (pc := 33) (lo' := [some (aI ((y1 + (((y1 : Int32).toUInt32 >>> ((4 : Int32).toUInt32 &&& Int32.toUInt32 31)).toInt32)) &&& 252645135))]) hv 25 rfl rfl ?_
  refine r_iload_n (pc := 34) hv 26 rfl rfl ?_
  refine r_iload_n (pc := 35) hv 27 rfl rfl ?_
  refine r_bipush (pc := 36) hv 28 rfl  ?_
  refine r_iushr (pc := 38) hv 29 rfl  ?_
  refine r_iadd (pc := 39) hv 30 rfl  ?_
  obtain ⟨y2, e_y2⟩ : ∃ y : Int32, y = ((y1 + (((y1 : Int32).toUInt32 >>> ((4 : Int32).toUInt32 &&& Int32.toUInt32 31)).toInt32)) &&& 252645135) + ((((y1 + (((y1 : Int32).toUInt32 >>> ((4 : Int32).toUInt32 &&& Int32.toUInt32 31)).toInt32)) &&& 252645135 : Int32).toUInt32 >>> ((8 : Int32).toUInt32 &&& Int32.toUInt32 31)).toInt32) := ⟨_, rfl⟩
  rw [← e_y2]
  replace h := h y2 e_y2
  refine r_istore_n (pc := 40) (lo' := [some (aI y2)]) hv 31 rfl rfl ?_
  refine r_iload_n (pc := 41) hv 32 rfl rfl ?_
  refine r_iload_n (pc := 42) hv 33 rfl rfl ?_
  refine r_bipush (pc := 43) hv 34 rfl  ?_
  refine r_iushr (pc := 45) hv 35 rfl  ?_
  refine r_iadd (pc := 46) hv 36 rfl  ?_
  refine r_istore_n (pc := 47) (lo' := [some (aI (y2 + (((y2 : Int32).toUInt32 >>> ((16 : Int32).toUInt32 &&& Int32.toUInt32 31)).toInt32)))]) hv 37 rfl rfl ?_
  refine r_iload_n (pc := 48) hv 38 rfl rfl ?_
  refine r_bipush (pc := 49) hv 39 rfl  ?_
  refine r_iand (pc := 51) hv 40 rfl  ?_
  exact r_ireturn (pc := 52) hv 41 rfl rfl h
