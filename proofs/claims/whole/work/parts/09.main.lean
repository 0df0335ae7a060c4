section SND4
variable {p : Program} {l : Launch} {e : Env} {R : Room} {s : State} {m : MethodId} {args : Array Value} {below : List Frame} {meth : Method} {c : Code} {cells slots : Nat} {Q : State → Prop}
variable {D : va_G} {cy : Nat → ClassId} {ad : Nat → Nat} {A : Nat → Prop} {nL : Nat} {own : String} {cc : ByteArray} {rt : Option FieldType} {S : Sp} {Rt : Rs}
set_option maxHeartbeats 4000000 in
theorem sem_sound {fr lc : Nat} (C : Cx D cy ad A nL p R s m args c cells slots own cc) (hSp : SpH l D cy ad A S) (hR : RetH rt cc Rt (Vd D cy ad A nL p l e R s m args below meth c cells slots Q)) (hfr : fr ≤ R.frames) (hlc : lc ≤ R.locals) {en : Ent} (hok : okE own cc nL fr lc rt en = true) {lo : Lo} {st : List AV} {σ : St} (h : sem S Rt (Vd D cy ad A nL p l e R s m args below meth c cells slots Q) en lo st σ) : Vd D cy ad A nL p l e R s m args below meth c cells slots Q en.1 lo st σ := by
  have C0 := C
  obtain ⟨hx, hb, hml, hown, hts, hK, hAp, hE, hcs⟩ := C0
  obtain ⟨pc, i, len, x1, x2, x3, x4, zi, zl, ks⟩ := en
  show Vd D cy ad A nL p l e R s m args below meth c cells slots Q pc lo st σ
  cases i with
  | iconst n =>
    simp only [okE, Bool.and_eq_true, decide_eq_true_eq, beq_iff_eq] at hok
    obtain ⟨hd, hz, rfl⟩ := hok
    exact fun H locs ls hP hS hl => lv_iconst hx hb hd hz (h H locs ls hP hS hl)
  | bipush n =>
    simp only [okE, Bool.and_eq_true, decide_eq_true_eq, beq_iff_eq] at hok
    obtain ⟨hd, hz, rfl⟩ := hok
    exact fun H locs ls hP hS hl => lv_bipush hx hb hd hz (h H locs ls hP hS hl)
  | sipush n =>
    simp only [okE, Bool.and_eq_true, decide_eq_true_eq, beq_iff_eq] at hok
    obtain ⟨hd, hz, rfl⟩ := hok
    exact fun H locs ls hP hS hl => lv_sipush hx hb hd hz (h H locs ls hP hS hl)
  | lconst n =>
    simp only [okE, Bool.and_eq_true, decide_eq_true_eq, beq_iff_eq] at hok
    obtain ⟨hd, hz, rfl⟩ := hok
    exact fun H locs ls hP hS hl => lv_lconst hx hb hd hz (h H locs ls hP hS hl)
  | ldc idx =>
    simp only [okE, Bool.and_eq_true, decide_eq_true_eq, beq_iff_eq] at hok
    obtain ⟨hd, rfl, hz⟩ := hok
    simp only [sem] at h
    by_cases h1 : x1 = 1
    · rw [if_pos h1] at hz
      subst h1
      have h : Vd D cy ad A nL p l e R s m args below meth c cells slots Q (pc + 2) lo (aR (200 + x2) :: st) σ := h
      split at hz
      · rename_i q hq
        simp only [Bool.and_eq_true, beq_iff_eq] at hz
        obtain ⟨⟨z1, z2⟩, z3⟩ := hz
        have hr := hE.2.2.1 q (List.mem_of_getElem? hq)
        rw [z1, z2, z3] at hr
        exact fun H locs ls hP hS hl => va_ldcS hx hb hown hr hd (h H locs ls hP hS hl)
      · cases hz
    · rw [if_neg h1] at hz
      rw [show (x1 == 1) = false from beq_eq_false_iff_ne.mpr h1] at h
      have h : Vd D cy ad A nL p l e R s m args below meth c cells slots Q (pc + 2) lo (aI zi :: st) σ := h
      exact fun H locs ls hP hS hl => lv_ldc hx hb hown (hts _ (atW_in hz)) hd (h H locs ls hP hS hl)
  | ldc_w idx =>
    simp only [okE, Bool.and_eq_true, decide_eq_true_eq, beq_iff_eq] at hok
    obtain ⟨hd, rfl, hz⟩ := hok
    exact fun H locs ls hP hS hl => lv_ldcw hx hb hown (hts _ (atW_in hz)) hd (h H locs ls hP hS hl)
  | ldc2_w idx =>
    simp only [okE, Bool.and_eq_true, decide_eq_true_eq, beq_iff_eq] at hok
    obtain ⟨hd, rfl, hz⟩ := hok
    exact fun H locs ls hP hS hl => lv_ldc2 hx hb hown (hts _ (atW_in hz)) hd (h H locs ls hP hS hl)
  | iload_n k =>
    simp only [okE, Bool.and_eq_true, decide_eq_true_eq, beq_iff_eq] at hok
    obtain ⟨hd, rfl, hk1⟩ := hok
    subst hk1
    obtain ⟨x, hg, hk⟩ := gI_e h
    exact fun H locs ls hP hS hl => lv_iload_n hx hb hd rfl (lo_at hl hg) (hk H locs ls hP hS hl)
  | iload k =>
    simp only [okE, Bool.and_eq_true, decide_eq_true_eq, beq_iff_eq] at hok
    obtain ⟨hd, rfl, hk1⟩ := hok
    subst hk1
    obtain ⟨x, hg, hk⟩ := gI_e h
    exact fun H locs ls hP hS hl => lv_iload hx hb hd (lo_at hl hg) (hk H locs ls hP hS hl)
  | lload_n k =>
    simp only [okE, Bool.and_eq_true, decide_eq_true_eq, beq_iff_eq] at hok
    obtain ⟨hd, rfl, hk1⟩ := hok
    subst hk1
    obtain ⟨x, hg, hk⟩ := gL_e h
    exact fun H locs ls hP hS hl => lv_lload_n hx hb hd rfl (lo_at hl hg) (hk H locs ls hP hS hl)
  | lload k =>
    simp only [okE, Bool.and_eq_true, decide_eq_true_eq, beq_iff_eq] at hok
    obtain ⟨hd, rfl, hk1⟩ := hok
    subst hk1
    obtain ⟨x, hg, hk⟩ := gL_e h
    exact fun H locs ls hP hS hl => lv_lload hx hb hd (lo_at hl hg) (hk H locs ls hP hS hl)
  | aload_n k =>
    simp only [okE, Bool.and_eq_true, decide_eq_true_eq, beq_iff_eq] at hok
    obtain ⟨hd, rfl, hk1⟩ := hok
    subst hk1
    obtain ⟨x, hg, hk⟩ := gR_e h
    exact fun H locs ls hP hS hl => lv_aload_n hx hb hd rfl (lo_at hl hg) (hk H locs ls hP hS hl)
  | aload k =>
    simp only [okE, Bool.and_eq_true, decide_eq_true_eq, beq_iff_eq] at hok
    obtain ⟨hd, rfl, hk1⟩ := hok
    subst hk1
    obtain ⟨x, hg, hk⟩ := gR_e h
    exact fun H locs ls hP hS hl => lv_aload hx hb hd (lo_at hl hg) (hk H locs ls hP hS hl)
  | istore_n k =>
    simp only [okE, Bool.and_eq_true, decide_eq_true_eq, beq_iff_eq] at hok
    obtain ⟨hd, ⟨rfl, hk1⟩, hn⟩ := hok
    subst hk1
    obtain ⟨x, t, rfl, hk⟩ := q1_e h
    exact fun H locs ls hP hS hl => lv_istore_n hx hb hd rfl hl hn rfl (fun ls' hl' => hk H locs ls' hP hS (lo_sto (v := aI x) hl'))
  | istore k =>
    simp only [okE, Bool.and_eq_true, decide_eq_true_eq, beq_iff_eq] at hok
    obtain ⟨hd, ⟨rfl, hk1⟩, hn⟩ := hok
    subst hk1
    obtain ⟨x, t, rfl, hk⟩ := q1_e h
    exact fun H locs ls hP hS hl => lv_istore hx hb hd hl hn rfl (fun ls' hl' => hk H locs ls' hP hS (lo_sto (v := aI x) hl'))
  | astore_n k =>
    simp only [okE, Bool.and_eq_true, decide_eq_true_eq, beq_iff_eq] at hok
    obtain ⟨hd, ⟨rfl, hk1⟩, hn⟩ := hok
    subst hk1
    obtain ⟨x, t, rfl, hk⟩ := qR_e h
    exact fun H locs ls hP hS hl => lv_astore_n hx hb hd rfl hl hn rfl (fun ls' hl' => hk H locs ls' hP hS (lo_sto (v := aR x) hl'))
  | astore k =>
    simp only [okE, Bool.and_eq_true, decide_eq_true_eq, beq_iff_eq] at hok
    obtain ⟨hd, ⟨rfl, hk1⟩, hn⟩ := hok
    subst hk1
    obtain ⟨x, t, rfl, hk⟩ := qR_e h
    exact fun H locs ls hP hS hl => lv_astore hx hb hd hl hn rfl (fun ls' hl' => hk H locs ls' hP hS (lo_sto (v := aR x) hl'))
  | lstore_n k =>
    simp only [okE, Bool.and_eq_true, decide_eq_true_eq, beq_iff_eq] at hok
    obtain ⟨hd, ⟨rfl, hk1⟩, hn⟩ := hok
    subst hk1
    obtain ⟨x, t, rfl, hk⟩ := qL_e h
    exact fun H locs ls hP hS hl => lv_lstore_n hx hb hd rfl hl hn rfl (fun ls' hl' => hk H locs ls' hP hS (lo_stoL (v := aL x) hl'))
  | lstore k =>
    simp only [okE, Bool.and_eq_true, decide_eq_true_eq, beq_iff_eq] at hok
    obtain ⟨hd, ⟨rfl, hk1⟩, hn⟩ := hok
    subst hk1
    obtain ⟨x, t, rfl, hk⟩ := qL_e h
    exact fun H locs ls hP hS hl => lv_lstore hx hb hd hl hn rfl (fun ls' hl' => hk H locs ls' hP hS (lo_stoL (v := aL x) hl'))
  | iinc k n =>
    simp only [okE, Bool.and_eq_true, decide_eq_true_eq, beq_iff_eq] at hok
    obtain ⟨hd, ⟨⟨rfl, hk1⟩, hn⟩, hz⟩ := hok
    subst hk1
    obtain ⟨x, hg, hk⟩ := gI_e h
    obtain ⟨j, hj⟩ := List.getElem?_of_mem (prs_mem (ad := ad) (i := 0) hg)
    rw [Nat.zero_add] at hj
    exact fun H locs ls hP hS hl => lv_iinc hx hb hd hl hj (by rw [hz]) hn rfl (fun ls' hl' => hk H locs ls' hP hS (lo_sto (v := aI (x + zi)) hl'))
  | iadd =>
    simp only [okE, Bool.and_eq_true, decide_eq_true_eq, beq_iff_eq] at hok
    obtain ⟨hd, rfl⟩ := hok
    obtain ⟨x, y, t, rfl, hk⟩ := q2_e h
    exact fun H locs ls hP hS hl => lv_iadd hx hb hd (hk H locs ls hP hS hl)
  | isub =>
    simp only [okE, Bool.and_eq_true, decide_eq_true_eq, beq_iff_eq] at hok
    obtain ⟨hd, rfl⟩ := hok
    obtain ⟨x, y, t, rfl, hk⟩ := q2_e h
    exact fun H locs ls hP hS hl => lv_isub hx hb hd (hk H locs ls hP hS hl)
  | imul =>
    simp only [okE, Bool.and_eq_true, decide_eq_true_eq, beq_iff_eq] at hok
    obtain ⟨hd, rfl⟩ := hok
    obtain ⟨x, y, t, rfl, hk⟩ := q2_e h
    exact fun H locs ls hP hS hl => lv_imul hx hb hd (hk H locs ls hP hS hl)
  | iand =>
    simp only [okE, Bool.and_eq_true, decide_eq_true_eq, beq_iff_eq] at hok
    obtain ⟨hd, rfl⟩ := hok
    obtain ⟨x, y, t, rfl, hk⟩ := q2_e h
    exact fun H locs ls hP hS hl => lv_iand hx hb hd (hk H locs ls hP hS hl)
  | ior =>
    simp only [okE, Bool.and_eq_true, decide_eq_true_eq, beq_iff_eq] at hok
    obtain ⟨hd, rfl⟩ := hok
    obtain ⟨x, y, t, rfl, hk⟩ := q2_e h
    exact fun H locs ls hP hS hl => lv_ior hx hb hd (hk H locs ls hP hS hl)
  | ixor =>
    simp only [okE, Bool.and_eq_true, decide_eq_true_eq, beq_iff_eq] at hok
    obtain ⟨hd, rfl⟩ := hok
    obtain ⟨x, y, t, rfl, hk⟩ := q2_e h
    exact fun H locs ls hP hS hl => lv_ixor hx hb hd (hk H locs ls hP hS hl)
  | ishl =>
    simp only [okE, Bool.and_eq_true, decide_eq_true_eq, beq_iff_eq] at hok
    obtain ⟨hd, rfl⟩ := hok
    obtain ⟨x, y, t, rfl, hk⟩ := q2_e h
    exact fun H locs ls hP hS hl => lv_ishl hx hb hd (hk H locs ls hP hS hl)
  | ishr =>
    simp only [okE, Bool.and_eq_true, decide_eq_true_eq, beq_iff_eq] at hok
    obtain ⟨hd, rfl⟩ := hok
    obtain ⟨x, y, t, rfl, hk⟩ := q2_e h
    exact fun H locs ls hP hS hl => lv_ishr hx hb hd (hk H locs ls hP hS hl)
  | ladd =>
    simp only [okE, Bool.and_eq_true, decide_eq_true_eq, beq_iff_eq] at hok
    obtain ⟨hd, rfl⟩ := hok
    obtain ⟨x, y, t, rfl, hk⟩ := qLL_e h
    exact fun H locs ls hP hS hl => lv_ladd hx hb hd (hk H locs ls hP hS hl)
  | lmul =>
    simp only [okE, Bool.and_eq_true, decide_eq_true_eq, beq_iff_eq] at hok
    obtain ⟨hd, rfl⟩ := hok
    obtain ⟨x, y, t, rfl, hk⟩ := qLL_e h
    exact fun H locs ls hP hS hl => lv_lmul hx hb hd (hk H locs ls hP hS hl)
  | land =>
    simp only [okE, Bool.and_eq_true, decide_eq_true_eq, beq_iff_eq] at hok
    obtain ⟨hd, rfl⟩ := hok
    obtain ⟨x, y, t, rfl, hk⟩ := qLL_e h
    exact fun H locs ls hP hS hl => lv_land hx hb hd (hk H locs ls hP hS hl)
  | lor =>
    simp only [okE, Bool.and_eq_true, decide_eq_true_eq, beq_iff_eq] at hok
    obtain ⟨hd, rfl⟩ := hok
    obtain ⟨x, y, t, rfl, hk⟩ := qLL_e h
    exact fun H locs ls hP hS hl => lv_lor hx hb hd (hk H locs ls hP hS hl)
  | idiv =>
    simp only [okE, Bool.and_eq_true, decide_eq_true_eq, beq_iff_eq] at hok
    obtain ⟨hd, rfl⟩ := hok
    obtain ⟨x, y, t, rfl, hy, hk⟩ := q2_e h
    exact fun H locs ls hP hS hl => lv_idiv hx hb hd hy (hk H locs ls hP hS hl)
  | irem =>
    simp only [okE, Bool.and_eq_true, decide_eq_true_eq, beq_iff_eq] at hok
    obtain ⟨hd, rfl⟩ := hok
    obtain ⟨x, y, t, rfl, hy, hk⟩ := q2_e h
    exact fun H locs ls hP hS hl => lv_irem hx hb hd hy (hk H locs ls hP hS hl)
  | ineg =>
    simp only [okE, Bool.and_eq_true, decide_eq_true_eq, beq_iff_eq] at hok
    obtain ⟨hd, rfl⟩ := hok
    obtain ⟨x, t, rfl, hk⟩ := q1_e h
    exact fun H locs ls hP hS hl => lv_ineg hx hb hd (hk H locs ls hP hS hl)
  | iushr =>
    simp only [okE, Bool.and_eq_true, decide_eq_true_eq, beq_iff_eq] at hok
    obtain ⟨hd, rfl⟩ := hok
    obtain ⟨x, y, t, rfl, hk⟩ := q2_e h
    exact fun H locs ls hP hS hl => lv_iushr hx hb hd rfl (hk H locs ls hP hS hl)
  | i2l =>
    simp only [okE, Bool.and_eq_true, decide_eq_true_eq, beq_iff_eq] at hok
    obtain ⟨hd, rfl⟩ := hok
    obtain ⟨x, t, rfl, hk⟩ := q1_e h
    exact fun H locs ls hP hS hl => lv_i2l hx hb hd rfl (hk H locs ls hP hS hl)
  | i2b =>
    simp only [okE, Bool.and_eq_true, decide_eq_true_eq, beq_iff_eq] at hok
    obtain ⟨hd, rfl⟩ := hok
    obtain ⟨x, t, rfl, hk⟩ := q1_e h
    exact fun H locs ls hP hS hl => lv_i2b hx hb hd rfl (hk H locs ls hP hS hl)
  | lshl =>
    simp only [okE, Bool.and_eq_true, decide_eq_true_eq, beq_iff_eq] at hok
    obtain ⟨hd, rfl⟩ := hok
    obtain ⟨x, y, t, rfl, hk⟩ := qIL_e h
    exact fun H locs ls hP hS hl => lv_lshl hx hb hd rfl (hk H locs ls hP hS hl)
  | lcmp =>
    simp only [okE, Bool.and_eq_true, decide_eq_true_eq, beq_iff_eq] at hok
    obtain ⟨hd, rfl⟩ := hok
    obtain ⟨x, y, t, rfl, hk⟩ := qLL_e h
    exact fun H locs ls hP hS hl => W.lcmp hx hb hd (hk H locs ls hP hS hl)
  | dup =>
    simp only [okE, Bool.and_eq_true, decide_eq_true_eq, beq_iff_eq] at hok
    obtain ⟨hd, rfl⟩ := hok
    simp only [sem] at h
    split at h
    · exact fun H locs ls hP hS hl => lv_dup hx hb hd (isC1_e h.1) (h.2 H locs ls hP hS hl)
    · exact h.elim
  | dup2 =>
    simp only [okE, Bool.and_eq_true, decide_eq_true_eq, beq_iff_eq] at hok
    obtain ⟨hd, rfl⟩ := hok
    simp only [sem] at h
    split at h
    · exact fun H locs ls hP hS hl => lv_dup2_11 hx hb hd (isC1_e h.1) (isC1_e h.2.1) (h.2.2 H locs ls hP hS hl)
    · exact h.elim
  | pop =>
    simp only [okE, Bool.and_eq_true, decide_eq_true_eq, beq_iff_eq] at hok
    obtain ⟨hd, rfl⟩ := hok
    simp only [sem] at h
    split at h
    · exact fun H locs ls hP hS hl => lv_pop hx hb hd (isC1_e h.1) (h.2 H locs ls hP hS hl)
    · exact h.elim
  | ifCond cd off =>
    simp only [okE, Bool.and_eq_true, decide_eq_true_eq, beq_iff_eq] at hok
    obtain ⟨hd, rfl, ht⟩ := hok
    obtain ⟨x, t, rfl, hk⟩ := q1_e h
    exact snd_br0 C hd ht hk
  | if_icmp cd off =>
    simp only [okE, Bool.and_eq_true, decide_eq_true_eq, beq_iff_eq] at hok
    obtain ⟨hd, rfl, ht⟩ := hok
    obtain ⟨x, y, t, rfl, hk⟩ := q2_e h
    exact snd_br C hd ht hk
  | goto off =>
    simp only [okE, Bool.and_eq_true, decide_eq_true_eq, beq_iff_eq] at hok
    obtain ⟨hd, rfl, ht⟩ := hok
    exact fun H locs ls hP hS hl => lv_goto hx hb hd ht (h H locs ls hP hS hl)
  | tableswitch d a b os =>
    simp only [okE, Bool.and_eq_true, decide_eq_true_eq] at hok
    obtain ⟨hd, ⟨⟨h0, h2⟩, h3⟩, h4⟩ := hok
    obtain ⟨x, t, rfl, k2⟩ := q1_e h
    exact snd_tab C hd h0 h2 h3 h4 k2
  | lookupswitch d ps =>
    simp only [okE, Bool.and_eq_true, decide_eq_true_eq] at hok
    obtain ⟨hd, ⟨⟨h0, h1⟩, h2⟩, h3⟩ := hok
    obtain ⟨x, t, rfl, k1⟩ := q1_e h
    obtain ⟨tgt, g1, g2⟩ := sw_off h0 h1 h2 k1
    exact fun H locs ls hP hS hl => lv_lookup hx hb hd h3 rfl g1 (g2 H locs ls hP hS hl)
  | getfield idx =>
    simp only [okE, Bool.and_eq_true, decide_eq_true_eq, beq_iff_eq] at hok
    obtain ⟨hd, rfl, hz⟩ := hok
    obtain ⟨a, t, rfl, ho, hk⟩ := qR_e h
    split at hz
    · rename_i Cn F N hc
      simp only [Bool.and_eq_true, decide_eq_true_eq, beq_iff_eq] at hz
      obtain ⟨⟨⟨z1, z2⟩, z3⟩, z4⟩ := hz
      cases hx4 : (x4 == 2) with
      | true =>
        rw [hx4] at z4 hk
        exact snd_getf C hd hc z1 z2 (atW_in z3) ho ((fo_of ho hc z1).2 z4.symm) hk
      | false =>
        rw [hx4] at z4 hk
        exact snd_getf C hd hc z1 z2 (atW_in z3) ho ((fo_of ho hc z1).1 z4.symm) hk
    · cases hz
  | putfield idx =>
    simp only [okE, Bool.and_eq_true, decide_eq_true_eq, beq_iff_eq] at hok
    obtain ⟨hd, rfl, hz⟩ := hok
    obtain ⟨a, x, t, rfl, ho, hk⟩ := qIV_e h
    split at hz
    · rename_i Cn F N hc
      simp only [Bool.and_eq_true, decide_eq_true_eq, beq_iff_eq] at hz
      obtain ⟨⟨⟨⟨⟨z1, z2⟩, z3⟩, z4⟩, z6⟩, z5⟩ := hz
      have hf := (fo_of ho hc z1).1 z6
      by_cases h1 : x4 = 1
      · rw [if_pos h1] at z5
        simp only [decide_eq_true_eq] at z5
        rw [show (x4 == 1) = true from beq_iff_eq.mpr h1] at hk
        obtain ⟨hzo, hk⟩ := hk
        rcases hzo with rfl | rfl
        · exact snd_putf C hd hc z1 z2 (atW_in z3) z4 z5 (by decide) (by decide) ho hf hk
        · exact snd_putf C hd hc z1 z2 (atW_in z3) z4 z5 (by decide) (by decide) ho hf hk
      · rw [if_neg h1] at z5
        simp only [decide_eq_true_eq] at z5
        rw [show (x4 == 1) = false from beq_eq_false_iff_ne.mpr h1] at hk
        exact snd_putf C hd hc z1 z2 (atW_in z3) z4 z5 rfl rfl ho hf hk
    · cases hz
  | getstatic idx =>
    simp only [okE, Bool.and_eq_true, decide_eq_true_eq, beq_iff_eq] at hok
    obtain ⟨hd, rfl, hz⟩ := hok
    split at hz
    · rename_i q hq
      have hZ := (hE.1 x1 q hq).1
      by_cases h1 : x2 = 1
      · rw [if_pos h1] at hz
        split at hz
        · rename_i f hf
          simp only [Bool.and_eq_true, beq_iff_eq] at hz
          obtain ⟨⟨⟨⟨z1, z2⟩, z3⟩, z4⟩, z5⟩ := hz
          have hnw := hE.2.2.2.1 f (List.mem_of_getElem? hf)
          rw [z1, z2, z3, z4, z5] at hnw
          exact fun H locs ls hP hS hl => va_getsN hx hb hZ hS hown (va_Nw.use rfl hnw) (fun x h => h) hd (h H locs ls hP hS hl)
        · cases hz
      · rw [if_neg h1] at hz
        exact fun H locs ls hP hS hl => va_gets hx hb hZ hS hown (hts _ (atW_in hz)) (fun x h => h) hd (h H locs ls hP hS hl)
    · cases hz
  | iaload =>
    simp only [okE, Bool.and_eq_true, decide_eq_true_eq, beq_iff_eq] at hok
    obtain ⟨hd, rfl⟩ := hok
    obtain ⟨a, i, t, rfl, g1, g2, hk⟩ := qIR_e h
    exact snd_iald C hd g1 g2 hk
  | baload =>
    simp only [okE, Bool.and_eq_true, decide_eq_true_eq, beq_iff_eq] at hok
    obtain ⟨hd, rfl⟩ := hok
    obtain ⟨a, i, t, rfl, hk⟩ := qIR_e h
    exact snd_bald C hd hk.1 hk.2.1 hk.2.2
  | caload =>
    simp only [okE, Bool.and_eq_true, decide_eq_true_eq, beq_iff_eq] at hok
    obtain ⟨hd, rfl⟩ := hok
    obtain ⟨a, i, t, rfl, hk⟩ := qIR_e h
    exact snd_cald C hd hk.1 hk.2.1 hk.2.2
  | laload =>
    simp only [okE, Bool.and_eq_true, decide_eq_true_eq, beq_iff_eq] at hok
    obtain ⟨hd, rfl⟩ := hok
    obtain ⟨a, i, t, rfl, hk⟩ := qIR_e h
    exact snd_lald C hd hk.1 hk.2.1 hk.2.2
  | iastore =>
    simp only [okE, Bool.and_eq_true, decide_eq_true_eq, beq_iff_eq] at hok
    obtain ⟨hd, rfl⟩ := hok
    obtain ⟨a, i, x, t, rfl, hk⟩ := qIIR_e h
    exact snd_iast C hd hk.1 hk.2.1 hk.2.2
  | bastore =>
    simp only [okE, Bool.and_eq_true, decide_eq_true_eq, beq_iff_eq] at hok
    obtain ⟨hd, rfl⟩ := hok
    obtain ⟨a, i, x, t, rfl, hk⟩ := qIIR_e h
    exact snd_bast C hd hk.1 hk.2.1 hk.2.2
  | lastore =>
    simp only [okE, Bool.and_eq_true, decide_eq_true_eq, beq_iff_eq] at hok
    obtain ⟨hd, rfl⟩ := hok
    obtain ⟨a, i, x, t, rfl, hk⟩ := qLIR_e h
    exact snd_last C hd hk.1 hk.2.1 hk.2.2
  | aaload =>
    simp only [okE, Bool.and_eq_true, decide_eq_true_eq, beq_iff_eq] at hok
    obtain ⟨hd, rfl⟩ := hok
    obtain ⟨a, i, t, rfl, g1, g2, hk⟩ := qIR_e h
    exact snd_aald C hd g1 g2 hk
  | arraylength =>
    simp only [okE, Bool.and_eq_true, decide_eq_true_eq, beq_iff_eq] at hok
    obtain ⟨hd, rfl⟩ := hok
    obtain ⟨a, t, rfl, g1, hk⟩ := qR_e h
    exact snd_alen C hd g1 hk
  | invokevirtual idx =>
    simp only [okE, Bool.and_eq_true, decide_eq_true_eq, beq_iff_eq] at hok
    obtain ⟨hd, rfl, hz⟩ := hok
    simp only [sem] at h
    obtain ⟨l0, t0, rfl, hln, h⟩ := spl_e h
    obtain ⟨a, t, rfl, hrc, hws, hcall⟩ := qR_e h
    rw [List.append_nil] at hcall
    split at hz
    · rename_i M hM
      simp only [Bool.and_eq_true, decide_eq_true_eq, beq_iff_eq] at hz
      obtain ⟨⟨⟨⟨⟨⟨z1, z2⟩, z3⟩, z4⟩, z5⟩, z6⟩, z7⟩ := hz
      have := snd_callV (Q := Q) (e := e) (below := below) (meth := meth) (lo := lo) C hSp hd hM z2 (atW_in z1) z3 z4 (Nat.le_trans z5 hfr) (Nat.le_trans z6 hlc) z7 (av := l0.reverse) (by rw [List.length_reverse]; exact hln) hrc (w8_e hws) hcall (fun r σ' q => q)
      rw [List.reverse_reverse] at this
      exact this
    · cases hz
  | invokestatic idx =>
    simp only [okE, Bool.and_eq_true, decide_eq_true_eq, beq_iff_eq] at hok
    obtain ⟨hd, rfl, hz⟩ := hok
    simp only [sem] at h
    by_cases h9 : x4 = 9
    · subst h9
      rw [if_pos (Or.inl rfl)] at hz
      simp only [Bool.and_eq_true, decide_eq_true_eq] at hz
      obtain ⟨⟨z1, z2⟩, z3⟩ := hz
      obtain ⟨a, sp, b, dp, n, t, rfl, k0, k1, k2, k3, k4, k5, k6, k7⟩ := qC_e h
      exact snd_copy C hd (atW_in z1) (Nat.le_trans z2 hfr) (Nat.le_trans z3 hlc) k1 k2 k3 k4 k5 (w8_e k6) (Or.inl ⟨k0.1, k0.2, k7⟩)
    rw [show (x4 == 9) = false from beq_eq_false_iff_ne.mpr h9] at h
    by_cases h8 : x4 = 8
    · subst h8
      rw [if_pos (Or.inr rfl)] at hz
      simp only [Bool.and_eq_true, decide_eq_true_eq] at hz
      obtain ⟨⟨z1, z2⟩, z3⟩ := hz
      obtain ⟨a, sp, b, dp, n, t, rfl, k0, k1, k2, k3, k4, k5, k6, k7⟩ := qC_e h
      exact snd_copy C hd (atW_in z1) (Nat.le_trans z2 hfr) (Nat.le_trans z3 hlc) k1 k2 k3 k4 k5 (w8_e k6) (Or.inr ⟨k0.1, k0.2, k7⟩)
    rw [show (x4 == 8) = false from beq_eq_false_iff_ne.mpr h8] at h
    rw [if_neg (fun q => q.elim h9 h8)] at hz
    by_cases h10 : x4 = 10
    · subst h10
      rw [if_pos rfl] at hz
      simp only [Bool.and_eq_true, decide_eq_true_eq] at hz
      obtain ⟨⟨z1, z2⟩, z3⟩ := hz
      obtain ⟨x, y, t, rfl, hws, hk⟩ := q2_e h
      have hws := w8_e hws
      exact fun H locs ls hP hS hl => va_mmax hx hb (hml.trans hl.1.symm) hown (hts _ (atW_in z1)) (hts _ math_tg.1.1) (hts _ math_tg.2.1) (hts _ math_tg.2.2.1) (Nat.le_trans z2 hfr) (by rw [wsum_e]; omega) hcs.1 hcs.2 hd (hk H locs ls hP hS hl)
    rw [show (x4 == 10) = false from beq_eq_false_iff_ne.mpr h10] at h
    rw [if_neg h10] at hz
    by_cases h11 : x4 = 11
    · subst h11
      rw [if_pos rfl] at hz
      simp only [Bool.and_eq_true, decide_eq_true_eq] at hz
      obtain ⟨⟨z1, z2⟩, z3⟩ := hz
      obtain ⟨x, y, t, rfl, hws, hk⟩ := q2_e h
      have hws := w8_e hws
      exact fun H locs ls hP hS hl => va_mmin hx hb (hml.trans hl.1.symm) hown (hts _ (atW_in z1)) (hts _ math_tg.1.2.1) (hts _ math_tg.2.1) (hts _ math_tg.2.2.2.1) (Nat.le_trans z2 hfr) (by rw [wsum_e]; omega) hcs.1 hcs.2 hd (hk H locs ls hP hS hl)
    rw [show (x4 == 11) = false from beq_eq_false_iff_ne.mpr h11] at h
    rw [if_neg h11] at hz
    by_cases h12 : x4 = 12
    · subst h12
      rw [if_pos rfl] at hz
      simp only [Bool.and_eq_true, decide_eq_true_eq] at hz
      obtain ⟨⟨z1, z2⟩, z3⟩ := hz
      obtain ⟨x, t, rfl, hws, hk⟩ := q1_e h
      have hws := w8_e hws
      exact fun H locs ls hP hS hl => va_mabs hx hb (hml.trans hl.1.symm) hown (hts _ (atW_in z1)) (hts _ math_tg.1.2.2) (hts _ math_tg.2.1) (hts _ math_tg.2.2.2.2) (Nat.le_trans z2 hfr) (by rw [wsum_e]; omega) hcs.1 hcs.2 hd (hk H locs ls hP hS hl)
    rw [show (x4 == 12) = false from beq_eq_false_iff_ne.mpr h12] at h
    rw [if_neg h12] at hz
    simp only [cond_false] at h
    obtain ⟨l0, t, rfl, hln, hws, hcall⟩ := spl_e h
    rw [List.append_nil] at hcall
    split at hz
    · rename_i M hM
      simp only [Bool.and_eq_true, decide_eq_true_eq, beq_iff_eq] at hz
      obtain ⟨⟨⟨⟨⟨z1, z2⟩, z3⟩, z4⟩, z5⟩, z6⟩ := hz
      have hlk : Jvm.Cond.methodLink own idx M.1 ∈ tg ∨ ∃ f ∈ nestM, f.1 = own ∧ f.2.1 = idx ∧ f.2.2.1 = M.1 := by
        by_cases h1 : x4 = 1
        · rw [if_pos h1] at z1
          split at z1
          · rename_i f hf
            simp only [Bool.and_eq_true, beq_iff_eq, decide_eq_true_eq] at z1
            exact Or.inr ⟨f, List.mem_of_getElem? hf, z1.1.1, z1.1.2, z1.2⟩
          · cases z1
        · rw [if_neg h1] at z1
          exact Or.inl (atW_in z1)
      have := snd_callS (Q := Q) (e := e) (below := below) (meth := meth) (lo := lo) C hSp hd hM z2 hlk z3 z4 (Nat.le_trans z5 hfr) (Nat.le_trans z6 hlc) (av := l0.reverse) (by rw [List.length_reverse]; exact hln) (w8_e hws) hcall (fun r σ' q => q)
      rw [List.reverse_reverse] at this
      exact this
    · cases hz
  | ireturn =>
    simp only [okE, Bool.and_eq_true, decide_eq_true_eq, beq_iff_eq] at hok
    obtain ⟨hd, rfl, hz⟩ := hok
    obtain ⟨x, t, rfl, rfl, hb1⟩ := q1_e h
    split at hz
    · have hk : Rt [aI x] σ := by
        cases h1 : (x1 == 1) with
        | true => rw [h1] at hb1; exact hb1.2
        | false => rw [h1] at hb1; exact hb1
      exact hR.1 _ _ _ _ hd ⟨_, rfl, rfl⟩ hk
    · rw [hz] at hb1
      obtain ⟨hb1, hk⟩ := hb1
      refine hR.1 _ _ _ _ hd ?_ hk
      rcases hb1 with rfl | rfl
      · exact ⟨_, rfl, by decide⟩
      · exact ⟨_, rfl, by decide⟩
    · cases hz
  | lreturn =>
    simp only [okE, Bool.and_eq_true, decide_eq_true_eq, beq_iff_eq] at hok
    obtain ⟨hd, rfl, hz⟩ := hok
    obtain ⟨x, t, rfl, rfl, hk⟩ := qL_e h
    exact hR.2.1 _ _ _ _ hd hz hk
  | areturn =>
    simp only [okE, Bool.and_eq_true, decide_eq_true_eq, beq_iff_eq] at hok
    obtain ⟨hd, rfl, hz⟩ := hok
    obtain ⟨x, t, rfl, rfl, hk⟩ := qR_e h
    refine hR.2.2.1 _ _ _ _ hd ?_ hk
    split at hz
    · exact ⟨_, rfl, Or.inl ⟨_, rfl⟩⟩
    · exact ⟨_, rfl, Or.inr ⟨_, rfl⟩⟩
    · cases hz
  | return_ =>
    simp only [okE, Bool.and_eq_true, decide_eq_true_eq, beq_iff_eq] at hok
    obtain ⟨hd, rfl, hz⟩ := hok
    obtain ⟨rfl, hk⟩ := h
    exact hR.2.2.2 _ _ _ hd hz hk
  | _ => exact h.elim
end SND4
