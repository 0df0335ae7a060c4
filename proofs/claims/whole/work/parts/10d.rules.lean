theorem gI_i {k : Int32 → Prop} {x : Int32} : ∀ {lo : Lo} {i : Nat}, lo[i]? = some (some (aI x)) → k x → gI k lo i
  | [], i, h, hk => by simp at h
  | a :: t, 0, h, hk => by
    simp only [List.getElem?_cons_zero, Option.some.injEq] at h
    subst h
    exact hk
  | a :: t, n + 1, h, hk => by
    have := gI_i (lo := t) (i := n) (by simpa using h) hk
    simpa [gI] using this
theorem gL_i {k : Int64 → Prop} {x : Int64} : ∀ {lo : Lo} {i : Nat}, lo[i]? = some (some (aL x)) → k x → gL k lo i
  | [], i, h, hk => by simp at h
  | a :: t, 0, h, hk => by
    simp only [List.getElem?_cons_zero, Option.some.injEq] at h
    subst h
    exact hk
  | a :: t, n + 1, h, hk => by
    have := gL_i (lo := t) (i := n) (by simpa using h) hk
    simpa [gL] using this
theorem gR_i {k : Nat → Prop} {x : Nat} : ∀ {lo : Lo} {i : Nat}, lo[i]? = some (some (aR x)) → k x → gR k lo i
  | [], i, h, hk => by simp at h
  | a :: t, 0, h, hk => by
    simp only [List.getElem?_cons_zero, Option.some.injEq] at h
    subst h
    exact hk
  | a :: t, n + 1, h, hk => by
    have := gR_i (lo := t) (i := n) (by simpa using h) hk
    simpa [gR] using this
theorem spl_i {k : List AV → List AV → Prop} : ∀ {l acc t : List AV}, k (l.reverse ++ acc) t → spl k l.length acc (l ++ t)
  | [], acc, t, h => h
  | v :: l, acc, t, h => by
    have := spl_i (k := k) (l := l) (acc := v :: acc) (t := t) (by simpa using h)
    exact this
section RUL
variable {S : Sp} {Φ : Rs} {kc : List Ent} {v : Kt} {lo lo' : Lo} {st t : List AV} {σ : St} {x1 x2 x3 x4 : Nat} {zi : Int32} {zl : Int64} {ks : List (Int32 × Nat)} {a b : Nat} {x y i0 : Int32} {X Y : Int64}
theorem r_iconst {n : Int} (hv : Cl S Φ kc v) (i : Nat) {pc : Nat} (he : kc[i]? = some (pc, .iconst n, 1, x1, x2, x3, x4, zi, zl, ks)) (h : v (pc + 1) lo (aI zi :: st) σ) : v pc lo (st) σ := cl_at hv i he (h)
theorem r_bipush {n : Int} (hv : Cl S Φ kc v) (i : Nat) {pc : Nat} (he : kc[i]? = some (pc, .bipush n, 2, x1, x2, x3, x4, zi, zl, ks)) (h : v (pc + 2) lo (aI zi :: st) σ) : v pc lo (st) σ := cl_at hv i he (h)
theorem r_sipush {n : Int} (hv : Cl S Φ kc v) (i : Nat) {pc : Nat} (he : kc[i]? = some (pc, .sipush n, 3, x1, x2, x3, x4, zi, zl, ks)) (h : v (pc + 3) lo (aI zi :: st) σ) : v pc lo (st) σ := cl_at hv i he (h)
theorem r_lconst {n : Fin 2} (hv : Cl S Φ kc v) (i : Nat) {pc : Nat} (he : kc[i]? = some (pc, .lconst n, 1, x1, x2, x3, x4, zi, zl, ks)) (h : v (pc + 1) lo (aL zl :: st) σ) : v pc lo (st) σ := cl_at hv i he (h)
theorem r_ldcS {n : Nat} (hv : Cl S Φ kc v) (i : Nat) {pc : Nat} (he : kc[i]? = some (pc, .ldc n, 2, x1, x2, x3, x4, zi, zl, ks)) (h1 : x1 = 1) (h : v (pc + 2) lo (aR (200 + x2) :: st) σ) : v pc lo (st) σ := cl_at hv i he (by subst h1; exact h)
theorem r_ldc {n : Nat} (hv : Cl S Φ kc v) (i : Nat) {pc : Nat} (he : kc[i]? = some (pc, .ldc n, 2, x1, x2, x3, x4, zi, zl, ks)) (h1 : x1 = 0) (h : v (pc + 2) lo (aI zi :: st) σ) : v pc lo (st) σ := cl_at hv i he (by subst h1; exact h)
theorem r_ldc_w {n : Nat} (hv : Cl S Φ kc v) (i : Nat) {pc : Nat} (he : kc[i]? = some (pc, .ldc_w n, 3, x1, x2, x3, x4, zi, zl, ks)) (h : v (pc + 3) lo (aI zi :: st) σ) : v pc lo (st) σ := cl_at hv i he (h)
theorem r_ldc2_w {n : Nat} (hv : Cl S Φ kc v) (i : Nat) {pc : Nat} (he : kc[i]? = some (pc, .ldc2_w n, 3, x1, x2, x3, x4, zi, zl, ks)) (h : v (pc + 3) lo (aL zl :: st) σ) : v pc lo (st) σ := cl_at hv i he (h)
theorem r_iload_n {k : Fin 4} (hv : Cl S Φ kc v) (i : Nat) {pc : Nat} (he : kc[i]? = some (pc, .iload_n k, 1, x1, x2, x3, x4, zi, zl, ks)) (hl : lo[x1]? = some (some (aI x))) (h : v (pc + 1) lo (aI x :: st) σ) : v pc lo (st) σ := cl_at hv i he (gI_i hl h)
theorem r_iload {k : Nat} (hv : Cl S Φ kc v) (i : Nat) {pc : Nat} (he : kc[i]? = some (pc, .iload k, 2, x1, x2, x3, x4, zi, zl, ks)) (hl : lo[x1]? = some (some (aI x))) (h : v (pc + 2) lo (aI x :: st) σ) : v pc lo (st) σ := cl_at hv i he (gI_i hl h)
theorem r_istore_n {k : Fin 4} (hv : Cl S Φ kc v) (i : Nat) {pc : Nat} (he : kc[i]? = some (pc, .istore_n k, 1, x1, x2, x3, x4, zi, zl, ks)) (hl : sto lo x1 (aI x) = lo') (h : v (pc + 1) lo' t σ) : v pc lo (aI x :: t) σ := cl_at hv i he (by subst hl; exact h)
theorem r_istore {k : Nat} (hv : Cl S Φ kc v) (i : Nat) {pc : Nat} (he : kc[i]? = some (pc, .istore k, 2, x1, x2, x3, x4, zi, zl, ks)) (hl : sto lo x1 (aI x) = lo') (h : v (pc + 2) lo' t σ) : v pc lo (aI x :: t) σ := cl_at hv i he (by subst hl; exact h)
theorem r_lload_n {k : Fin 4} (hv : Cl S Φ kc v) (i : Nat) {pc : Nat} (he : kc[i]? = some (pc, .lload_n k, 1, x1, x2, x3, x4, zi, zl, ks)) (hl : lo[x1]? = some (some (aL X))) (h : v (pc + 1) lo (aL X :: st) σ) : v pc lo (st) σ := cl_at hv i he (gL_i hl h)
theorem r_lload {k : Nat} (hv : Cl S Φ kc v) (i : Nat) {pc : Nat} (he : kc[i]? = some (pc, .lload k, 2, x1, x2, x3, x4, zi, zl, ks)) (hl : lo[x1]? = some (some (aL X))) (h : v (pc + 2) lo (aL X :: st) σ) : v pc lo (st) σ := cl_at hv i he (gL_i hl h)
theorem r_lstore_n {k : Fin 4} (hv : Cl S Φ kc v) (i : Nat) {pc : Nat} (he : kc[i]? = some (pc, .lstore_n k, 1, x1, x2, x3, x4, zi, zl, ks)) (hl : stoL lo x1 (aL X) = lo') (h : v (pc + 1) lo' t σ) : v pc lo (aL X :: t) σ := cl_at hv i he (by subst hl; exact h)
theorem r_lstore {k : Nat} (hv : Cl S Φ kc v) (i : Nat) {pc : Nat} (he : kc[i]? = some (pc, .lstore k, 2, x1, x2, x3, x4, zi, zl, ks)) (hl : stoL lo x1 (aL X) = lo') (h : v (pc + 2) lo' t σ) : v pc lo (aL X :: t) σ := cl_at hv i he (by subst hl; exact h)
theorem r_aload_n {k : Fin 4} (hv : Cl S Φ kc v) (i : Nat) {pc : Nat} (he : kc[i]? = some (pc, .aload_n k, 1, x1, x2, x3, x4, zi, zl, ks)) (hl : lo[x1]? = some (some (aR a))) (h : v (pc + 1) lo (aR a :: st) σ) : v pc lo (st) σ := cl_at hv i he (gR_i hl h)
theorem r_aload {k : Nat} (hv : Cl S Φ kc v) (i : Nat) {pc : Nat} (he : kc[i]? = some (pc, .aload k, 2, x1, x2, x3, x4, zi, zl, ks)) (hl : lo[x1]? = some (some (aR a))) (h : v (pc + 2) lo (aR a :: st) σ) : v pc lo (st) σ := cl_at hv i he (gR_i hl h)
theorem r_astore_n {k : Fin 4} (hv : Cl S Φ kc v) (i : Nat) {pc : Nat} (he : kc[i]? = some (pc, .astore_n k, 1, x1, x2, x3, x4, zi, zl, ks)) (hl : sto lo x1 (aR a) = lo') (h : v (pc + 1) lo' t σ) : v pc lo (aR a :: t) σ := cl_at hv i he (by subst hl; exact h)
theorem r_astore {k : Nat} (hv : Cl S Φ kc v) (i : Nat) {pc : Nat} (he : kc[i]? = some (pc, .astore k, 2, x1, x2, x3, x4, zi, zl, ks)) (hl : sto lo x1 (aR a) = lo') (h : v (pc + 2) lo' t σ) : v pc lo (aR a :: t) σ := cl_at hv i he (by subst hl; exact h)
theorem r_iinc {k : Nat} {n : Int} (hv : Cl S Φ kc v) (i : Nat) {pc : Nat} (he : kc[i]? = some (pc, .iinc k n, 3, x1, x2, x3, x4, zi, zl, ks)) (hl : lo[x1]? = some (some (aI x))) (hs : sto lo x1 (aI (x + zi)) = lo') (h : v (pc + 3) lo' st σ) : v pc lo (st) σ := cl_at hv i he (gI_i hl (by rw [hs]; exact h))
theorem r_iadd (hv : Cl S Φ kc v) (i : Nat) {pc : Nat} (he : kc[i]? = some (pc, .iadd, 1, x1, x2, x3, x4, zi, zl, ks)) (h : v (pc + 1) lo (aI (x + y) :: t) σ) : v pc lo (aI y :: aI x :: t) σ := cl_at hv i he (h)
theorem r_isub (hv : Cl S Φ kc v) (i : Nat) {pc : Nat} (he : kc[i]? = some (pc, .isub, 1, x1, x2, x3, x4, zi, zl, ks)) (h : v (pc + 1) lo (aI (x - y) :: t) σ) : v pc lo (aI y :: aI x :: t) σ := cl_at hv i he (h)
theorem r_imul (hv : Cl S Φ kc v) (i : Nat) {pc : Nat} (he : kc[i]? = some (pc, .imul, 1, x1, x2, x3, x4, zi, zl, ks)) (h : v (pc + 1) lo (aI (x * y) :: t) σ) : v pc lo (aI y :: aI x :: t) σ := cl_at hv i he (h)
theorem r_iand (hv : Cl S Φ kc v) (i : Nat) {pc : Nat} (he : kc[i]? = some (pc, .iand, 1, x1, x2, x3, x4, zi, zl, ks)) (h : v (pc + 1) lo (aI (x &&& y) :: t) σ) : v pc lo (aI y :: aI x :: t) σ := cl_at hv i he (h)
theorem r_ior (hv : Cl S Φ kc v) (i : Nat) {pc : Nat} (he : kc[i]? = some (pc, .ior, 1, x1, x2, x3, x4, zi, zl, ks)) (h : v (pc + 1) lo (aI (x ||| y) :: t) σ) : v pc lo (aI y :: aI x :: t) σ := cl_at hv i he (h)
theorem r_ixor (hv : Cl S Φ kc v) (i : Nat) {pc : Nat} (he : kc[i]? = some (pc, .ixor, 1, x1, x2, x3, x4, zi, zl, ks)) (h : v (pc + 1) lo (aI (x ^^^ y) :: t) σ) : v pc lo (aI y :: aI x :: t) σ := cl_at hv i he (h)
theorem r_ishl (hv : Cl S Φ kc v) (i : Nat) {pc : Nat} (he : kc[i]? = some (pc, .ishl, 1, x1, x2, x3, x4, zi, zl, ks)) (h : v (pc + 1) lo (aI (x <<< (y &&& 31)) :: t) σ) : v pc lo (aI y :: aI x :: t) σ := cl_at hv i he (h)
theorem r_ishr (hv : Cl S Φ kc v) (i : Nat) {pc : Nat} (he : kc[i]? = some (pc, .ishr, 1, x1, x2, x3, x4, zi, zl, ks)) (h : v (pc + 1) lo (aI (x >>> (y &&& 31)) :: t) σ) : v pc lo (aI y :: aI x :: t) σ := cl_at hv i he (h)
theorem r_iushr (hv : Cl S Φ kc v) (i : Nat) {pc : Nat} (he : kc[i]? = some (pc, .iushr, 1, x1, x2, x3, x4, zi, zl, ks)) (h : v (pc + 1) lo (aI ((x.toUInt32 >>> (y.toUInt32 &&& Int32.toUInt32 31)).toInt32) :: t) σ) : v pc lo (aI y :: aI x :: t) σ := cl_at hv i he (h)
theorem r_idiv (hv : Cl S Φ kc v) (i : Nat) {pc : Nat} (he : kc[i]? = some (pc, .idiv, 1, x1, x2, x3, x4, zi, zl, ks)) (h0 : ¬ y = 0) (h : v (pc + 1) lo (aI (x / y) :: t) σ) : v pc lo (aI y :: aI x :: t) σ := cl_at hv i he (⟨h0, h⟩)
theorem r_irem (hv : Cl S Φ kc v) (i : Nat) {pc : Nat} (he : kc[i]? = some (pc, .irem, 1, x1, x2, x3, x4, zi, zl, ks)) (h0 : ¬ y = 0) (h : v (pc + 1) lo (aI (x - x / y * y) :: t) σ) : v pc lo (aI y :: aI x :: t) σ := cl_at hv i he (⟨h0, h⟩)
theorem r_ineg (hv : Cl S Φ kc v) (i : Nat) {pc : Nat} (he : kc[i]? = some (pc, .ineg, 1, x1, x2, x3, x4, zi, zl, ks)) (h : v (pc + 1) lo (aI (-x) :: t) σ) : v pc lo (aI x :: t) σ := cl_at hv i he (h)
theorem r_i2l (hv : Cl S Φ kc v) (i : Nat) {pc : Nat} (he : kc[i]? = some (pc, .i2l, 1, x1, x2, x3, x4, zi, zl, ks)) (h : v (pc + 1) lo (aL x.toInt64 :: t) σ) : v pc lo (aI x :: t) σ := cl_at hv i he (h)
theorem r_i2b (hv : Cl S Φ kc v) (i : Nat) {pc : Nat} (he : kc[i]? = some (pc, .i2b, 1, x1, x2, x3, x4, zi, zl, ks)) (h : v (pc + 1) lo (aI x.toInt8.toInt32 :: t) σ) : v pc lo (aI x :: t) σ := cl_at hv i he (h)
theorem r_ladd (hv : Cl S Φ kc v) (i : Nat) {pc : Nat} (he : kc[i]? = some (pc, .ladd, 1, x1, x2, x3, x4, zi, zl, ks)) (h : v (pc + 1) lo (aL (X + Y) :: t) σ) : v pc lo (aL Y :: aL X :: t) σ := cl_at hv i he (h)
theorem r_lmul (hv : Cl S Φ kc v) (i : Nat) {pc : Nat} (he : kc[i]? = some (pc, .lmul, 1, x1, x2, x3, x4, zi, zl, ks)) (h : v (pc + 1) lo (aL (X * Y) :: t) σ) : v pc lo (aL Y :: aL X :: t) σ := cl_at hv i he (h)
theorem r_land (hv : Cl S Φ kc v) (i : Nat) {pc : Nat} (he : kc[i]? = some (pc, .land, 1, x1, x2, x3, x4, zi, zl, ks)) (h : v (pc + 1) lo (aL (X &&& Y) :: t) σ) : v pc lo (aL Y :: aL X :: t) σ := cl_at hv i he (h)
theorem r_lor (hv : Cl S Φ kc v) (i : Nat) {pc : Nat} (he : kc[i]? = some (pc, .lor, 1, x1, x2, x3, x4, zi, zl, ks)) (h : v (pc + 1) lo (aL (X ||| Y) :: t) σ) : v pc lo (aL Y :: aL X :: t) σ := cl_at hv i he (h)
theorem r_lshl (hv : Cl S Φ kc v) (i : Nat) {pc : Nat} (he : kc[i]? = some (pc, .lshl, 1, x1, x2, x3, x4, zi, zl, ks)) (h : v (pc + 1) lo (aL (X <<< (y.toInt64 &&& 63)) :: t) σ) : v pc lo (aI y :: aL X :: t) σ := cl_at hv i he (h)
theorem r_lcmp (hv : Cl S Φ kc v) (i : Nat) {pc : Nat} (he : kc[i]? = some (pc, .lcmp, 1, x1, x2, x3, x4, zi, zl, ks)) (h : v (pc + 1) lo (aI (lg_cmp X Y) :: t) σ) : v pc lo (aL Y :: aL X :: t) σ := cl_at hv i he (h)
theorem r_dup {u : AV} (hv : Cl S Φ kc v) (i : Nat) {pc : Nat} (he : kc[i]? = some (pc, .dup, 1, x1, x2, x3, x4, zi, zl, ks)) (h0 : isC1 u) (h : v (pc + 1) lo (u :: u :: t) σ) : v pc lo (u :: t) σ := cl_at hv i he (⟨h0, h⟩)
theorem r_dup2 {u z : AV} (hv : Cl S Φ kc v) (i : Nat) {pc : Nat} (he : kc[i]? = some (pc, .dup2, 1, x1, x2, x3, x4, zi, zl, ks)) (h0 : isC1 u) (h1 : isC1 z) (h : v (pc + 1) lo (u :: z :: u :: z :: t) σ) : v pc lo (u :: z :: t) σ := cl_at hv i he (⟨h0, h1, h⟩)
theorem r_pop {u : AV} (hv : Cl S Φ kc v) (i : Nat) {pc : Nat} (he : kc[i]? = some (pc, .pop, 1, x1, x2, x3, x4, zi, zl, ks)) (h0 : isC1 u) (h : v (pc + 1) lo t σ) : v pc lo (u :: t) σ := cl_at hv i he (⟨h0, h⟩)
theorem r_icmp_eq {off : Int} (hv : Cl S Φ kc v) (i : Nat) {pc : Nat} (he : kc[i]? = some (pc, .if_icmp .eq off, 3, x1, x2, x3, x4, zi, zl, ks)) (ht : x = y → v x1 lo t σ) (hf : ¬ x = y → v (pc + 3) lo t σ) : v pc lo (aI y :: aI x :: t) σ := cl_at hv i he (⟨ht, hf⟩)
theorem r_if_eq {off : Int} (hv : Cl S Φ kc v) (i : Nat) {pc : Nat} (he : kc[i]? = some (pc, .ifCond .eq off, 3, x1, x2, x3, x4, zi, zl, ks)) (ht : x = 0 → v x1 lo t σ) (hf : ¬ x = 0 → v (pc + 3) lo t σ) : v pc lo (aI x :: t) σ := cl_at hv i he (⟨ht, hf⟩)
theorem r_icmp_ne {off : Int} (hv : Cl S Φ kc v) (i : Nat) {pc : Nat} (he : kc[i]? = some (pc, .if_icmp .ne off, 3, x1, x2, x3, x4, zi, zl, ks)) (ht : ¬ x = y → v x1 lo t σ) (hf : x = y → v (pc + 3) lo t σ) : v pc lo (aI y :: aI x :: t) σ := cl_at hv i he (⟨ht, hf⟩)
theorem r_if_ne {off : Int} (hv : Cl S Φ kc v) (i : Nat) {pc : Nat} (he : kc[i]? = some (pc, .ifCond .ne off, 3, x1, x2, x3, x4, zi, zl, ks)) (ht : ¬ x = 0 → v x1 lo t σ) (hf : x = 0 → v (pc + 3) lo t σ) : v pc lo (aI x :: t) σ := cl_at hv i he (⟨ht, hf⟩)
theorem r_icmp_lt {off : Int} (hv : Cl S Φ kc v) (i : Nat) {pc : Nat} (he : kc[i]? = some (pc, .if_icmp .lt off, 3, x1, x2, x3, x4, zi, zl, ks)) (ht : x < y → v x1 lo t σ) (hf : ¬ x < y → v (pc + 3) lo t σ) : v pc lo (aI y :: aI x :: t) σ := cl_at hv i he (⟨ht, hf⟩)
theorem r_if_lt {off : Int} (hv : Cl S Φ kc v) (i : Nat) {pc : Nat} (he : kc[i]? = some (pc, .ifCond .lt off, 3, x1, x2, x3, x4, zi, zl, ks)) (ht : x < 0 → v x1 lo t σ) (hf : ¬ x < 0 → v (pc + 3) lo t σ) : v pc lo (aI x :: t) σ := cl_at hv i he (⟨ht, hf⟩)
theorem r_icmp_ge {off : Int} (hv : Cl S Φ kc v) (i : Nat) {pc : Nat} (he : kc[i]? = some (pc, .if_icmp .ge off, 3, x1, x2, x3, x4, zi, zl, ks)) (ht : y ≤ x → v x1 lo t σ) (hf : ¬ y ≤ x → v (pc + 3) lo t σ) : v pc lo (aI y :: aI x :: t) σ := cl_at hv i he (⟨ht, hf⟩)
theorem r_if_ge {off : Int} (hv : Cl S Φ kc v) (i : Nat) {pc : Nat} (he : kc[i]? = some (pc, .ifCond .ge off, 3, x1, x2, x3, x4, zi, zl, ks)) (ht : 0 ≤ x → v x1 lo t σ) (hf : ¬ 0 ≤ x → v (pc + 3) lo t σ) : v pc lo (aI x :: t) σ := cl_at hv i he (⟨ht, hf⟩)
theorem r_icmp_gt {off : Int} (hv : Cl S Φ kc v) (i : Nat) {pc : Nat} (he : kc[i]? = some (pc, .if_icmp .gt off, 3, x1, x2, x3, x4, zi, zl, ks)) (ht : y < x → v x1 lo t σ) (hf : ¬ y < x → v (pc + 3) lo t σ) : v pc lo (aI y :: aI x :: t) σ := cl_at hv i he (⟨ht, hf⟩)
theorem r_if_gt {off : Int} (hv : Cl S Φ kc v) (i : Nat) {pc : Nat} (he : kc[i]? = some (pc, .ifCond .gt off, 3, x1, x2, x3, x4, zi, zl, ks)) (ht : 0 < x → v x1 lo t σ) (hf : ¬ 0 < x → v (pc + 3) lo t σ) : v pc lo (aI x :: t) σ := cl_at hv i he (⟨ht, hf⟩)
theorem r_icmp_le {off : Int} (hv : Cl S Φ kc v) (i : Nat) {pc : Nat} (he : kc[i]? = some (pc, .if_icmp .le off, 3, x1, x2, x3, x4, zi, zl, ks)) (ht : x ≤ y → v x1 lo t σ) (hf : ¬ x ≤ y → v (pc + 3) lo t σ) : v pc lo (aI y :: aI x :: t) σ := cl_at hv i he (⟨ht, hf⟩)
theorem r_if_le {off : Int} (hv : Cl S Φ kc v) (i : Nat) {pc : Nat} (he : kc[i]? = some (pc, .ifCond .le off, 3, x1, x2, x3, x4, zi, zl, ks)) (ht : x ≤ 0 → v x1 lo t σ) (hf : ¬ x ≤ 0 → v (pc + 3) lo t σ) : v pc lo (aI x :: t) σ := cl_at hv i he (⟨ht, hf⟩)
theorem r_goto {off : Int} (hv : Cl S Φ kc v) (i : Nat) {pc : Nat} (he : kc[i]? = some (pc, .goto off, 3, x1, x2, x3, x4, zi, zl, ks)) (h : v x1 lo st σ) : v pc lo (st) σ := cl_at hv i he (h)
theorem r_tab {d p q : Int} {os : Array Int} {len : Nat} (hv : Cl S Φ kc v) (i : Nat) {pc : Nat} (he : kc[i]? = some (pc, .tableswitch d p q os, len, x1, x2, x3, x4, zi, zl, ks)) (h : sw (fun q => v q lo t σ) x x1 ks) : v pc lo (aI x :: t) σ := cl_at hv i he h
theorem r_look {d : Int} {ps : Array (Int × Int)} {len : Nat} (hv : Cl S Φ kc v) (i : Nat) {pc : Nat} (he : kc[i]? = some (pc, .lookupswitch d ps, len, x1, x2, x3, x4, zi, zl, ks)) (h : sw (fun q => v q lo t σ) x x1 ks) : v pc lo (aI x :: t) σ := cl_at hv i he h
theorem r_getR {n : Nat} (hv : Cl S Φ kc v) (i : Nat) {pc : Nat} (he : kc[i]? = some (pc, .getfield n, 3, x1, x2, x3, x4, zi, zl, ks)) (h4 : x4 = 2) (ho : oc a = some x1) (hc : ch a x2 = b) (h : v (pc + 3) lo (aR b :: t) σ) : v pc lo (aR a :: t) σ := cl_at hv i he (by subst h4; subst hc; exact ⟨ho, h⟩)
theorem r_getI {n : Nat} (hv : Cl S Φ kc v) (i : Nat) {pc : Nat} (he : kc[i]? = some (pc, .getfield n, 3, x1, x2, x3, x4, zi, zl, ks)) (h4 : (x4 == 2) = false) (ho : oc a = some x1) (h : v (pc + 3) lo (aI (σ.1 a x2) :: t) σ) : v pc lo (aR a :: t) σ := cl_at hv i he (⟨ho, by rw [h4]; exact h⟩)
theorem r_putI {n : Nat} (hv : Cl S Φ kc v) (i : Nat) {pc : Nat} (he : kc[i]? = some (pc, .putfield n, 3, x1, x2, x3, x4, zi, zl, ks)) (h4 : x4 = 0) (ho : oc a = some x1) (h : v (pc + 3) lo t (upI σ a x2 x)) : v pc lo (aI x :: aR a :: t) σ := cl_at hv i he (by subst h4; exact ⟨ho, h⟩)
theorem r_putZ {n : Nat} (hv : Cl S Φ kc v) (i : Nat) {pc : Nat} (he : kc[i]? = some (pc, .putfield n, 3, x1, x2, x3, x4, zi, zl, ks)) (h4 : x4 = 1) (ho : oc a = some x1) (hz : x = 0 ∨ x = 1) (h : v (pc + 3) lo t (upI σ a x2 x)) : v pc lo (aI x :: aR a :: t) σ := cl_at hv i he (by subst h4; exact ⟨ho, hz, h⟩)
theorem r_gets {n : Nat} (hv : Cl S Φ kc v) (i : Nat) {pc : Nat} (he : kc[i]? = some (pc, .getstatic n, 3, x1, x2, x3, x4, zi, zl, ks)) (h : v (pc + 3) lo (aR (100 + x1) :: st) σ) : v pc lo (st) σ := cl_at hv i he (h)
theorem r_iaload {N : Nat} (hv : Cl S Φ kc v) (i : Nat) {pc : Nat} (he : kc[i]? = some (pc, .iaload, 1, x1, x2, x3, x4, zi, zl, ks)) (ht : tag a = 1) (hn : ln a = N) (ha : a < 100) (hi : vp_in i0 N) (h : v (pc + 1) lo (aI (σ.1 a i0.toNatClampNeg) :: t) σ) : v pc lo (aI i0 :: aR a :: t) σ := cl_at hv i he (⟨Or.inl ht, by rw [hn]; exact hi, by rw [rd_lt ha]; exact h⟩)
theorem r_ialoadS {N : Nat} (hv : Cl S Φ kc v) (i : Nat) {pc : Nat} (he : kc[i]? = some (pc, .iaload, 1, x1, x2, x3, x4, zi, zl, ks)) (ht : tag a = 7) (hn : ln a = N) (ha : 100 ≤ a) (hi : vp_in i0 N) (h : v (pc + 1) lo (aI (sv a i0.toNatClampNeg) :: t) σ) : v pc lo (aI i0 :: aR a :: t) σ := cl_at hv i he (⟨Or.inr ht, by rw [hn]; exact hi, by rw [rd_ge ha]; exact h⟩)
theorem r_baload {N : Nat} (hv : Cl S Φ kc v) (i : Nat) {pc : Nat} (he : kc[i]? = some (pc, .baload, 1, x1, x2, x3, x4, zi, zl, ks)) (ht : tag a = 2) (hn : ln a = N) (hi : vp_in i0 N) (h : v (pc + 1) lo (aI (σ.1 a i0.toNatClampNeg) :: t) σ) : v pc lo (aI i0 :: aR a :: t) σ := cl_at hv i he (⟨ht, by rw [hn]; exact hi, h⟩)
theorem r_caload {N : Nat} (hv : Cl S Φ kc v) (i : Nat) {pc : Nat} (he : kc[i]? = some (pc, .caload, 1, x1, x2, x3, x4, zi, zl, ks)) (ht : tag a = 3) (hn : ln a = N) (hi : vp_in i0 N) (h : v (pc + 1) lo (aI (σ.1 a i0.toNatClampNeg) :: t) σ) : v pc lo (aI i0 :: aR a :: t) σ := cl_at hv i he (⟨ht, by rw [hn]; exact hi, h⟩)
theorem r_laload {N : Nat} (hv : Cl S Φ kc v) (i : Nat) {pc : Nat} (he : kc[i]? = some (pc, .laload, 1, x1, x2, x3, x4, zi, zl, ks)) (ht : tag a = 4) (hn : ln a = N) (hi : vp_in i0 N) (h : v (pc + 1) lo (aL (σ.2 a i0.toNatClampNeg) :: t) σ) : v pc lo (aI i0 :: aR a :: t) σ := cl_at hv i he (⟨ht, by rw [hn]; exact hi, h⟩)
theorem r_aaload (hv : Cl S Φ kc v) (i : Nat) {pc : Nat} (he : kc[i]? = some (pc, .aaload, 1, x1, x2, x3, x4, zi, zl, ks)) (ht : a = 42) (hi : vp_in i0 4) (h : v (pc + 1) lo (aR (43 + i0.toNatClampNeg) :: t) σ) : v pc lo (aI i0 :: aR a :: t) σ := cl_at hv i he (⟨ht, hi, h⟩)
theorem r_alen {N : Nat} (hv : Cl S Φ kc v) (i : Nat) {pc : Nat} (he : kc[i]? = some (pc, .arraylength, 1, x1, x2, x3, x4, zi, zl, ks)) (ht : tag a ≠ 0) (hn : ln a = N) (h : v (pc + 1) lo (aI (Int32.ofNat N) :: t) σ) : v pc lo (aR a :: t) σ := cl_at hv i he (⟨ht, by rw [hn]; exact h⟩)
theorem r_iastore {N : Nat} (hv : Cl S Φ kc v) (i : Nat) {pc : Nat} (he : kc[i]? = some (pc, .iastore, 1, x1, x2, x3, x4, zi, zl, ks)) (ht : tag a = 1) (hn : ln a = N) (hi : vp_in i0 N) (h : v (pc + 1) lo t (upI σ a i0.toNatClampNeg x)) : v pc lo (aI x :: aI i0 :: aR a :: t) σ := cl_at hv i he (⟨ht, by rw [hn]; exact hi, h⟩)
theorem r_bastore {N : Nat} (hv : Cl S Φ kc v) (i : Nat) {pc : Nat} (he : kc[i]? = some (pc, .bastore, 1, x1, x2, x3, x4, zi, zl, ks)) (ht : tag a = 2) (hn : ln a = N) (hi : vp_in i0 N) (h : v (pc + 1) lo t (upI σ a i0.toNatClampNeg x.toInt8.toInt32)) : v pc lo (aI x :: aI i0 :: aR a :: t) σ := cl_at hv i he (⟨ht, by rw [hn]; exact hi, h⟩)
theorem r_lastore {N : Nat} (hv : Cl S Φ kc v) (i : Nat) {pc : Nat} (he : kc[i]? = some (pc, .lastore, 1, x1, x2, x3, x4, zi, zl, ks)) (ht : tag a = 4) (hn : ln a = N) (hi : vp_in i0 N) (h : v (pc + 1) lo t (upJ σ a i0.toNatClampNeg X)) : v pc lo (aL X :: aI i0 :: aR a :: t) σ := cl_at hv i he (⟨ht, by rw [hn]; exact hi, h⟩)
theorem r_callV {n : Nat} {av l : List AV} (hv : Cl S Φ kc v) (i : Nat) {pc : Nat} (he : kc[i]? = some (pc, .invokevirtual n, 3, x1, x2, x3, x4, zi, zl, ks)) (hn : l.length = x2) (hr : l.reverse = av) (hst : st = l ++ aR a :: t) (hc : rcv a x4) (h8 : w8 t 8) (h : S x1 (aR a :: av) σ (fun r σ' => v (pc + 3) lo (r ++ t) σ')) : v pc lo st σ := cl_at hv i he (by subst hn; subst hr; subst hst; exact spl_i (l := l) (acc := []) (t := aR a :: t) (by rw [List.append_nil]; exact ⟨hc, h8, h⟩))
theorem r_callS {n : Nat} {av l : List AV} (hv : Cl S Φ kc v) (i : Nat) {pc : Nat} (he : kc[i]? = some (pc, .invokestatic n, 3, x1, x2, x3, x4, zi, zl, ks)) (h4 : x4 = 0 ∨ x4 = 1) (hn : l.length = x2) (hr : l.reverse = av) (hst : st = l ++ t) (h8 : w8 t 8) (h : S x1 av σ (fun r σ' => v (pc + 3) lo (r ++ t) σ')) : v pc lo st σ := cl_at hv i he (by
  have g := spl_i (k := fun av t => w8 t 8 ∧ S x1 av σ (fun r σ' => v (pc + 3) lo (r ++ t) σ')) (l := l) (acc := []) (t := t) (by rw [List.append_nil, hr]; exact ⟨h8, h⟩)
  rw [hn, ← hst] at g
  rcases h4 with h4 | h4 <;> subst h4 <;> exact g)
theorem r_copyI {n : Nat} {sp dp m : Int32} {Na Nb : Nat} (hv : Cl S Φ kc v) (i : Nat) {pc : Nat} (he : kc[i]? = some (pc, .invokestatic n, 3, x1, x2, x3, x4, zi, zl, ks)) (h4 : x4 = 9) (ha : tag a = 1) (hb : tag b = 1) (hNa : ln a = Na) (hNb : ln b = Nb) (h8 : w8 t 8) (h1 : ¬ sp < 0) (h2 : ¬ dp < 0) (h3 : ¬ m < 0) (h5 : sp.toNatClampNeg + m.toNatClampNeg ≤ Na) (h6 : dp.toNatClampNeg + m.toNatClampNeg ≤ Nb) (h : v (pc + 3) lo t (cpI σ a b sp.toNatClampNeg dp.toNatClampNeg m.toNatClampNeg)) : v pc lo (aI m :: aI dp :: aR b :: aI sp :: aR a :: t) σ := cl_at hv i he (by subst h4; subst hNa; subst hNb; exact ⟨⟨ha, hb⟩, h1, h2, h3, h5, h6, h8, h⟩)
theorem r_copyJ {n : Nat} {sp dp m : Int32} {Na Nb : Nat} (hv : Cl S Φ kc v) (i : Nat) {pc : Nat} (he : kc[i]? = some (pc, .invokestatic n, 3, x1, x2, x3, x4, zi, zl, ks)) (h4 : x4 = 8) (ha : tag a = 4) (hb : tag b = 4) (hNa : ln a = Na) (hNb : ln b = Nb) (h8 : w8 t 8) (h1 : ¬ sp < 0) (h2 : ¬ dp < 0) (h3 : ¬ m < 0) (h5 : sp.toNatClampNeg + m.toNatClampNeg ≤ Na) (h6 : dp.toNatClampNeg + m.toNatClampNeg ≤ Nb) (h : v (pc + 3) lo t (cpJ σ a b sp.toNatClampNeg dp.toNatClampNeg m.toNatClampNeg)) : v pc lo (aI m :: aI dp :: aR b :: aI sp :: aR a :: t) σ := cl_at hv i he (by subst h4; subst hNa; subst hNb; exact ⟨⟨ha, hb⟩, h1, h2, h3, h5, h6, h8, h⟩)
theorem r_max {n : Nat} (hv : Cl S Φ kc v) (i : Nat) {pc : Nat} (he : kc[i]? = some (pc, .invokestatic n, 3, x1, x2, x3, x4, zi, zl, ks)) (h4 : x4 = 10) (h8 : w8 t 8) (h : v (pc + 3) lo (aI (if x < y then y else x) :: t) σ) : v pc lo (aI y :: aI x :: t) σ := cl_at hv i he (by subst h4; exact ⟨h8, h⟩)
theorem r_min {n : Nat} (hv : Cl S Φ kc v) (i : Nat) {pc : Nat} (he : kc[i]? = some (pc, .invokestatic n, 3, x1, x2, x3, x4, zi, zl, ks)) (h4 : x4 = 11) (h8 : w8 t 8) (h : v (pc + 3) lo (aI (if y < x then y else x) :: t) σ) : v pc lo (aI y :: aI x :: t) σ := cl_at hv i he (by subst h4; exact ⟨h8, h⟩)
theorem r_abs {n : Nat} (hv : Cl S Φ kc v) (i : Nat) {pc : Nat} (he : kc[i]? = some (pc, .invokestatic n, 3, x1, x2, x3, x4, zi, zl, ks)) (h4 : x4 = 12) (h8 : w8 t 8) (h : v (pc + 3) lo (aI (if 0 ≤ x then x else 0 - x) :: t) σ) : v pc lo (aI x :: t) σ := cl_at hv i he (by subst h4; exact ⟨h8, h⟩)
theorem r_ireturn (hv : Cl S Φ kc v) (i : Nat) {pc : Nat} (he : kc[i]? = some (pc, .ireturn, 1, x1, x2, x3, x4, zi, zl, ks)) (h1 : (x1 == 1) = false) (h : Φ [aI x] σ) : v pc lo ([aI x]) σ := cl_at hv i he (⟨rfl, by rw [h1]; exact h⟩)
theorem r_zreturn (hv : Cl S Φ kc v) (i : Nat) {pc : Nat} (he : kc[i]? = some (pc, .ireturn, 1, x1, x2, x3, x4, zi, zl, ks)) (h1 : x1 = 1) (hz : x = 0 ∨ x = 1) (h : Φ [aI x] σ) : v pc lo ([aI x]) σ := cl_at hv i he (⟨rfl, by subst h1; exact ⟨hz, h⟩⟩)
theorem r_lreturn (hv : Cl S Φ kc v) (i : Nat) {pc : Nat} (he : kc[i]? = some (pc, .lreturn, 1, x1, x2, x3, x4, zi, zl, ks)) (h : Φ [aL X] σ) : v pc lo ([aL X]) σ := cl_at hv i he (⟨rfl, h⟩)
theorem r_areturn (hv : Cl S Φ kc v) (i : Nat) {pc : Nat} (he : kc[i]? = some (pc, .areturn, 1, x1, x2, x3, x4, zi, zl, ks)) (h : Φ [aR a] σ) : v pc lo ([aR a]) σ := cl_at hv i he (⟨rfl, h⟩)
theorem r_return (hv : Cl S Φ kc v) (i : Nat) {pc : Nat} (he : kc[i]? = some (pc, .return_, 1, x1, x2, x3, x4, zi, zl, ks)) (h : Φ [] σ) : v pc lo ([]) σ := cl_at hv i he (⟨rfl, h⟩)
end RUL
