/-- the script's places read -/
def Scr (zs : Nat → Int) (L : Nat) (kc : List Ent) (v : Kt) : Prop := ∀ en ∈ kc, en.2.1 = .iaload → ∀ (j : Nat) (lo : Lo) (t : List AV) (σ : St), j < L → v (en.1 + 1) lo (aI (iI (zs j)) :: t) σ → v en.1 lo (aI (iI (j : Int)) :: aR 70 :: t) σ
def loL (i : Nat) : Lo := [some (aR 70), some (aR 0), some (aR 49), some (aI (iI (i : Int)))]
theorem lj1 (i : Nat) : iI (i : Int) + 1 = iI ((i + 1 : Nat) : Int) := by rw [show (1 : Int32) = iI 1 from rfl, iI_add]; rfl
theorem lj2 (i : Nat) : iI (i : Int) + 2 = iI ((i + 2 : Nat) : Int) := by rw [show (2 : Int32) = iI 2 from rfl, iI_add]; rfl
theorem lj3 (i : Nat) : iI (i : Int) + 3 = iI ((i + 3 : Nat) : Int) := by rw [show (3 : Int32) = iI 3 from rfl, iI_add]; rfl
theorem lj4 (i : Nat) : iI (i : Int) + 4 = iI ((i + 4 : Nat) : Int) := by rw [show (4 : Int32) = iI 4 from rfl, iI_add]; rfl
theorem lj5 (i : Nat) : iI (i : Int) + 5 = iI ((i + 5 : Nat) : Int) := by rw [show (5 : Int32) = iI 5 from rfl, iI_add]; rfl
theorem lj6 (i : Nat) : iI (i : Int) + 6 = iI ((i + 6 : Nat) : Int) := by rw [show (6 : Int32) = iI 6 from rfl, iI_add]; rfl
theorem lj7 (i : Nat) : iI (i : Int) + 7 = iI ((i + 7 : Nat) : Int) := by rw [show (7 : Int32) = iI 7 from rfl, iI_add]; rfl
theorem lcmp_self (x : Int64) : lg_cmp x x = 0 := by simp [lg_cmp]
section LAWC
variable {S : Sp} {Φ : Rs} {v : Kt} {zs : Nat → Int} {L i : Nat} {A : Ab} {σ : St}
theorem r_scr {kc : List Ent} {x1 x2 x3 x4 : Nat} {zi : Int32} {zl : Int64} {ks : List (Int32 × Nat)} (hs : Scr zs L kc v) (n : Nat) {pc : Nat} (he : kc[n]? = some (pc, .iaload, 1, x1, x2, x3, x4, zi, zl, ks)) {i0 : Int32} {j : Nat} (hj : i0 = iI (j : Int)) (hlt : j < L) {lo : Lo} {t : List AV} (h : v (pc + 1) lo (aI (iI (zs j)) :: t) σ) : v pc lo (aI i0 :: aR 70 :: t) σ := by
  subst hj
  exact hs _ (List.mem_of_getElem? he) rfl j lo t σ hlt h
theorem lc_0 (hS : Sys S) (hT : SysT S) (hz : ∀ j, -2147483648 ≤ zs j ∧ zs j < 2147483648) (hv : Cl S Φ kL0 v) (hs : Scr zs L kL0 v) (hi : i + 7 ≤ L) (hA : OKA A) (hJ : JJ A σ) (hn : ∀ σ2, (∃ A, OKA A ∧ JJ A σ2) → v 1348 (loL i) [] σ2) : v 200 (loL i) [] σ := by
  refine r_aload_n hv 0 rfl rfl ?_
  refine r_aload_n hv 1 rfl rfl ?_
  refine r_iload_n hv 2 rfl rfl ?_
  refine r_iconst hv 3 rfl ?_
  refine r_iadd hv 4 rfl ?_
  refine r_scr hs 5 rfl (j := i + 1) (lj1 i) (by omega) ?_
  refine r_aload_n hv 6 rfl rfl ?_
  refine r_iload_n hv 7 rfl rfl ?_
  refine r_iconst hv 8 rfl ?_
  refine r_iadd hv 9 rfl ?_
  refine r_scr hs 10 rfl (j := i + 2) (lj2 i) (by omega) ?_
  refine r_aload_n hv 11 rfl rfl ?_
  refine r_iload_n hv 12 rfl rfl ?_
  refine r_iconst hv 13 rfl ?_
  refine r_iadd hv 14 rfl ?_
  refine r_scr hs 15 rfl (j := i + 3) (lj3 i) (by omega) ?_
  refine r_aload_n hv 16 rfl rfl ?_
  refine r_iload_n hv 17 rfl rfl ?_
  refine r_iconst hv 18 rfl ?_
  refine r_iadd hv 19 rfl ?_
  refine r_scr hs 20 rfl (j := i + 4) (lj4 i) (by omega) ?_
  refine r_aload_n hv 21 rfl rfl ?_
  refine r_iload_n hv 22 rfl rfl ?_
  refine r_iconst hv 23 rfl ?_
  refine r_iadd hv 24 rfl ?_
  refine r_scr hs 25 rfl (j := i + 5) (lj5 i) (by omega) ?_
  refine r_aload_n hv 26 rfl rfl ?_
  refine r_iload_n hv 27 rfl rfl ?_
  refine r_bipush hv 28 rfl ?_
  refine r_iadd hv 29 rfl ?_
  refine r_scr hs 30 rfl (j := i + 6) (lj6 i) (by omega) ?_
  refine r_callV hv 31 rfl (l := [_, _, _, _, _, _]) rfl rfl rfl rfl trivial (hS.1 _ _ _ _ _ ?_ (s_hole hS hA hJ (hz _) (hz _) (hz _) (hz _) (hz _) (hz _)))
  intro r σ1 q
  obtain ⟨y, rfl, q⟩ := q
  show v 235 (loL i) [aI y] σ1
  refine r_aload_n hv 32 rfl rfl ?_
  refine r_aload_n hv 33 rfl rfl ?_
  refine r_iload_n hv 34 rfl rfl ?_
  refine r_iconst hv 35 rfl ?_
  refine r_iadd hv 36 rfl ?_
  refine r_scr hs 37 rfl (j := i + 1) (lj1 i) (by omega) ?_
  refine r_aload_n hv 38 rfl rfl ?_
  refine r_iload_n hv 39 rfl rfl ?_
  refine r_iconst hv 40 rfl ?_
  refine r_iadd hv 41 rfl ?_
  refine r_scr hs 42 rfl (j := i + 2) (lj2 i) (by omega) ?_
  refine r_aload_n hv 43 rfl rfl ?_
  refine r_iload_n hv 44 rfl rfl ?_
  refine r_iconst hv 45 rfl ?_
  refine r_iadd hv 46 rfl ?_
  refine r_scr hs 47 rfl (j := i + 3) (lj3 i) (by omega) ?_
  refine r_aload_n hv 48 rfl rfl ?_
  refine r_iload_n hv 49 rfl rfl ?_
  refine r_iconst hv 50 rfl ?_
  refine r_iadd hv 51 rfl ?_
  refine r_scr hs 52 rfl (j := i + 4) (lj4 i) (by omega) ?_
  refine r_aload_n hv 53 rfl rfl ?_
  refine r_iload_n hv 54 rfl rfl ?_
  refine r_iconst hv 55 rfl ?_
  refine r_iadd hv 56 rfl ?_
  refine r_scr hs 57 rfl (j := i + 5) (lj5 i) (by omega) ?_
  refine r_aload_n hv 58 rfl rfl ?_
  refine r_iload_n hv 59 rfl rfl ?_
  refine r_bipush hv 60 rfl ?_
  refine r_iadd hv 61 rfl ?_
  refine r_scr hs 62 rfl (j := i + 6) (lj6 i) (by omega) ?_
  refine r_callV hv 63 rfl (l := [_, _, _, _, _, _]) rfl rfl rfl rfl trivial (hS.1 _ _ _ _ _ ?_ q)
  intro r σ2 q2
  obtain ⟨rfl, q2⟩ := q2
  show v 270 (loL i) [aI y, aI y] σ2
  refine r_icmp_eq hv 64 rfl (fun _ => hn σ2 q2) (fun h => absurd rfl h)
theorem lc_1 (hS : Sys S) (hT : SysT S) (hz : ∀ j, -2147483648 ≤ zs j ∧ zs j < 2147483648) (hv : Cl S Φ kL1 v) (hs : Scr zs L kL1 v) (hi : i + 7 ≤ L) (hA : OKA A) (hJ : JJ A σ) (hn : ∀ σ2, (∃ A, OKA A ∧ JJ A σ2) → v 1348 (loL i) [] σ2) : v 275 (loL i) [] σ := by
  refine r_aload_n hv 0 rfl rfl ?_
  refine r_aload_n hv 1 rfl rfl ?_
  refine r_iload_n hv 2 rfl rfl ?_
  refine r_iconst hv 3 rfl ?_
  refine r_iadd hv 4 rfl ?_
  refine r_scr hs 5 rfl (j := i + 1) (lj1 i) (by omega) ?_
  refine r_aload_n hv 6 rfl rfl ?_
  refine r_iload_n hv 7 rfl rfl ?_
  refine r_iconst hv 8 rfl ?_
  refine r_iadd hv 9 rfl ?_
  refine r_scr hs 10 rfl (j := i + 2) (lj2 i) (by omega) ?_
  refine r_callV hv 11 rfl (l := [_, _]) rfl rfl rfl rfl trivial (hS.1 _ _ _ _ _ ?_ (s_of hS hA hJ (hz _) (hz _)))
  intro r σ1 q
  obtain ⟨y, rfl, q⟩ := q
  show v 289 (loL i) [aI y] σ1
  refine r_aload_n hv 12 rfl rfl ?_
  refine r_aload_n hv 13 rfl rfl ?_
  refine r_iload_n hv 14 rfl rfl ?_
  refine r_iconst hv 15 rfl ?_
  refine r_iadd hv 16 rfl ?_
  refine r_scr hs 17 rfl (j := i + 1) (lj1 i) (by omega) ?_
  refine r_aload_n hv 18 rfl rfl ?_
  refine r_iload_n hv 19 rfl rfl ?_
  refine r_iconst hv 20 rfl ?_
  refine r_iadd hv 21 rfl ?_
  refine r_scr hs 22 rfl (j := i + 2) (lj2 i) (by omega) ?_
  refine r_callV hv 23 rfl (l := [_, _]) rfl rfl rfl rfl trivial (hS.1 _ _ _ _ _ ?_ q)
  intro r σ2 q2
  obtain ⟨rfl, q2⟩ := q2
  show v 303 (loL i) [aI y, aI y] σ2
  refine r_icmp_eq hv 24 rfl (fun _ => hn σ2 q2) (fun h => absurd rfl h)
theorem lc_2 (hS : Sys S) (hT : SysT S) (hz : ∀ j, -2147483648 ≤ zs j ∧ zs j < 2147483648) (hv : Cl S Φ kL2 v) (hs : Scr zs L kL2 v) (hi : i + 7 ≤ L) (hA : OKA A) (hJ : JJ A σ) (hn : ∀ σ2, (∃ A, OKA A ∧ JJ A σ2) → v 1348 (loL i) [] σ2) : v 308 (loL i) [] σ := by
  refine r_aload_n hv 0 rfl rfl ?_
  refine r_aload_n hv 1 rfl rfl ?_
  refine r_iload_n hv 2 rfl rfl ?_
  refine r_iconst hv 3 rfl ?_
  refine r_iadd hv 4 rfl ?_
  refine r_scr hs 5 rfl (j := i + 1) (lj1 i) (by omega) ?_
  refine r_aload_n hv 6 rfl rfl ?_
  refine r_iload_n hv 7 rfl rfl ?_
  refine r_iconst hv 8 rfl ?_
  refine r_iadd hv 9 rfl ?_
  refine r_scr hs 10 rfl (j := i + 2) (lj2 i) (by omega) ?_
  refine r_aload_n hv 11 rfl rfl ?_
  refine r_iload_n hv 12 rfl rfl ?_
  refine r_iconst hv 13 rfl ?_
  refine r_iadd hv 14 rfl ?_
  refine r_scr hs 15 rfl (j := i + 3) (lj3 i) (by omega) ?_
  refine r_callV hv 16 rfl (l := [_, _, _]) rfl rfl rfl rfl trivial (hS.1 _ _ _ _ _ ?_ (s_becomes hS hA hJ (hz _) (hz _) (hz _)))
  intro r σ1 q
  obtain ⟨y, rfl, q⟩ := q
  show v 327 (loL i) [aI y] σ1
  refine r_aload_n hv 17 rfl rfl ?_
  refine r_aload_n hv 18 rfl rfl ?_
  refine r_iload_n hv 19 rfl rfl ?_
  refine r_iconst hv 20 rfl ?_
  refine r_iadd hv 21 rfl ?_
  refine r_scr hs 22 rfl (j := i + 1) (lj1 i) (by omega) ?_
  refine r_aload_n hv 23 rfl rfl ?_
  refine r_iload_n hv 24 rfl rfl ?_
  refine r_iconst hv 25 rfl ?_
  refine r_iadd hv 26 rfl ?_
  refine r_scr hs 27 rfl (j := i + 2) (lj2 i) (by omega) ?_
  refine r_aload_n hv 28 rfl rfl ?_
  refine r_iload_n hv 29 rfl rfl ?_
  refine r_iconst hv 30 rfl ?_
  refine r_iadd hv 31 rfl ?_
  refine r_scr hs 32 rfl (j := i + 3) (lj3 i) (by omega) ?_
  refine r_callV hv 33 rfl (l := [_, _, _]) rfl rfl rfl rfl trivial (hS.1 _ _ _ _ _ ?_ q)
  intro r σ2 q2
  obtain ⟨rfl, q2⟩ := q2
  show v 346 (loL i) [aI y, aI y] σ2
  refine r_icmp_eq hv 34 rfl (fun _ => hn σ2 q2) (fun h => absurd rfl h)
theorem lc_3 (hS : Sys S) (hT : SysT S) (hz : ∀ j, -2147483648 ≤ zs j ∧ zs j < 2147483648) (hv : Cl S Φ kL3 v) (hs : Scr zs L kL3 v) (hi : i + 7 ≤ L) (hA : OKA A) (hJ : JJ A σ) (hn : ∀ σ2, (∃ A, OKA A ∧ JJ A σ2) → v 1348 (loL i) [] σ2) : v 351 (loL i) [] σ := by
  refine r_aload_n hv 0 rfl rfl ?_
  refine r_aload_n hv 1 rfl rfl ?_
  refine r_iload_n hv 2 rfl rfl ?_
  refine r_iconst hv 3 rfl ?_
  refine r_iadd hv 4 rfl ?_
  refine r_scr hs 5 rfl (j := i + 1) (lj1 i) (by omega) ?_
  refine r_aload_n hv 6 rfl rfl ?_
  refine r_iload_n hv 7 rfl rfl ?_
  refine r_iconst hv 8 rfl ?_
  refine r_iadd hv 9 rfl ?_
  refine r_scr hs 10 rfl (j := i + 2) (lj2 i) (by omega) ?_
  refine r_callV hv 11 rfl (l := [_, _]) rfl rfl rfl rfl trivial (hS.1 _ _ _ _ _ ?_ (s_taken hS hA hJ (hz _) (hz _)))
  intro r σ1 q
  obtain ⟨y, rfl, q⟩ := q
  show v 365 (loL i) [aI y] σ1
  refine r_aload_n hv 12 rfl rfl ?_
  refine r_aload_n hv 13 rfl rfl ?_
  refine r_iload_n hv 14 rfl rfl ?_
  refine r_iconst hv 15 rfl ?_
  refine r_iadd hv 16 rfl ?_
  refine r_scr hs 17 rfl (j := i + 1) (lj1 i) (by omega) ?_
  refine r_aload_n hv 18 rfl rfl ?_
  refine r_iload_n hv 19 rfl rfl ?_
  refine r_iconst hv 20 rfl ?_
  refine r_iadd hv 21 rfl ?_
  refine r_scr hs 22 rfl (j := i + 2) (lj2 i) (by omega) ?_
  refine r_callV hv 23 rfl (l := [_, _]) rfl rfl rfl rfl trivial (hS.1 _ _ _ _ _ ?_ q)
  intro r σ2 q2
  obtain ⟨rfl, q2⟩ := q2
  show v 379 (loL i) [aI y, aI y] σ2
  refine r_icmp_eq hv 24 rfl (fun _ => hn σ2 q2) (fun h => absurd rfl h)
theorem lc_4 (hS : Sys S) (hT : SysT S) (hz : ∀ j, -2147483648 ≤ zs j ∧ zs j < 2147483648) (hv : Cl S Φ kL4 v) (hs : Scr zs L kL4 v) (hi : i + 7 ≤ L) (hA : OKA A) (hJ : JJ A σ) (hn : ∀ σ2, (∃ A, OKA A ∧ JJ A σ2) → v 1348 (loL i) [] σ2) : v 384 (loL i) [] σ := by
  refine r_aload_n hv 0 rfl rfl ?_
  refine r_aload_n hv 1 rfl rfl ?_
  refine r_iload_n hv 2 rfl rfl ?_
  refine r_iconst hv 3 rfl ?_
  refine r_iadd hv 4 rfl ?_
  refine r_scr hs 5 rfl (j := i + 1) (lj1 i) (by omega) ?_
  refine r_aload_n hv 6 rfl rfl ?_
  refine r_iload_n hv 7 rfl rfl ?_
  refine r_iconst hv 8 rfl ?_
  refine r_iadd hv 9 rfl ?_
  refine r_scr hs 10 rfl (j := i + 2) (lj2 i) (by omega) ?_
  refine r_aload_n hv 11 rfl rfl ?_
  refine r_iload_n hv 12 rfl rfl ?_
  refine r_iconst hv 13 rfl ?_
  refine r_iadd hv 14 rfl ?_
  refine r_scr hs 15 rfl (j := i + 3) (lj3 i) (by omega) ?_
  refine r_callV hv 16 rfl (l := [_, _, _]) rfl rfl rfl rfl trivial (hS.1 _ _ _ _ _ ?_ (s_wire hS hA hJ (hz _) (hz _) (hz _)))
  intro r σ1 q
  obtain ⟨y, rfl, q⟩ := q
  show v 403 (loL i) [aI y] σ1
  refine r_aload_n hv 17 rfl rfl ?_
  refine r_aload_n hv 18 rfl rfl ?_
  refine r_iload_n hv 19 rfl rfl ?_
  refine r_iconst hv 20 rfl ?_
  refine r_iadd hv 21 rfl ?_
  refine r_scr hs 22 rfl (j := i + 1) (lj1 i) (by omega) ?_
  refine r_aload_n hv 23 rfl rfl ?_
  refine r_iload_n hv 24 rfl rfl ?_
  refine r_iconst hv 25 rfl ?_
  refine r_iadd hv 26 rfl ?_
  refine r_scr hs 27 rfl (j := i + 2) (lj2 i) (by omega) ?_
  refine r_aload_n hv 28 rfl rfl ?_
  refine r_iload_n hv 29 rfl rfl ?_
  refine r_iconst hv 30 rfl ?_
  refine r_iadd hv 31 rfl ?_
  refine r_scr hs 32 rfl (j := i + 3) (lj3 i) (by omega) ?_
  refine r_callV hv 33 rfl (l := [_, _, _]) rfl rfl rfl rfl trivial (hS.1 _ _ _ _ _ ?_ q)
  intro r σ2 q2
  obtain ⟨rfl, q2⟩ := q2
  show v 422 (loL i) [aI y, aI y] σ2
  refine r_icmp_eq hv 34 rfl (fun _ => hn σ2 q2) (fun h => absurd rfl h)
theorem lc_5 (hS : Sys S) (hT : SysT S) (hz : ∀ j, -2147483648 ≤ zs j ∧ zs j < 2147483648) (hv : Cl S Φ kL5 v) (hs : Scr zs L kL5 v) (hi : i + 7 ≤ L) (hA : OKA A) (hJ : JJ A σ) (hn : ∀ σ2, (∃ A, OKA A ∧ JJ A σ2) → v 1348 (loL i) [] σ2) : v 427 (loL i) [] σ := by
  refine r_aload_n hv 0 rfl rfl ?_
  refine r_aload_n hv 1 rfl rfl ?_
  refine r_iload_n hv 2 rfl rfl ?_
  refine r_iconst hv 3 rfl ?_
  refine r_iadd hv 4 rfl ?_
  refine r_scr hs 5 rfl (j := i + 1) (lj1 i) (by omega) ?_
  refine r_aload_n hv 6 rfl rfl ?_
  refine r_iload_n hv 7 rfl rfl ?_
  refine r_iconst hv 8 rfl ?_
  refine r_iadd hv 9 rfl ?_
  refine r_scr hs 10 rfl (j := i + 2) (lj2 i) (by omega) ?_
  refine r_callV hv 11 rfl (l := [_, _]) rfl rfl rfl rfl trivial (hS.1 _ _ _ _ _ ?_ (s_wired hS hA hJ (hz _) (hz _)))
  intro r σ1 q
  obtain ⟨y, rfl, q⟩ := q
  show v 441 (loL i) [aI y] σ1
  refine r_aload_n hv 12 rfl rfl ?_
  refine r_aload_n hv 13 rfl rfl ?_
  refine r_iload_n hv 14 rfl rfl ?_
  refine r_iconst hv 15 rfl ?_
  refine r_iadd hv 16 rfl ?_
  refine r_scr hs 17 rfl (j := i + 1) (lj1 i) (by omega) ?_
  refine r_aload_n hv 18 rfl rfl ?_
  refine r_iload_n hv 19 rfl rfl ?_
  refine r_iconst hv 20 rfl ?_
  refine r_iadd hv 21 rfl ?_
  refine r_scr hs 22 rfl (j := i + 2) (lj2 i) (by omega) ?_
  refine r_callV hv 23 rfl (l := [_, _]) rfl rfl rfl rfl trivial (hS.1 _ _ _ _ _ ?_ q)
  intro r σ2 q2
  obtain ⟨rfl, q2⟩ := q2
  show v 455 (loL i) [aI y, aI y] σ2
  refine r_icmp_eq hv 24 rfl (fun _ => hn σ2 q2) (fun h => absurd rfl h)
theorem lc_6 (hS : Sys S) (hT : SysT S) (hz : ∀ j, -2147483648 ≤ zs j ∧ zs j < 2147483648) (hv : Cl S Φ kL6 v) (hs : Scr zs L kL6 v) (hi : i + 7 ≤ L) (hA : OKA A) (hJ : JJ A σ) (hn : ∀ σ2, (∃ A, OKA A ∧ JJ A σ2) → v 1348 (loL i) [] σ2) : v 460 (loL i) [] σ := by
  refine r_aload_n hv 0 rfl rfl ?_
  refine r_aload_n hv 1 rfl rfl ?_
  refine r_iload_n hv 2 rfl rfl ?_
  refine r_iconst hv 3 rfl ?_
  refine r_iadd hv 4 rfl ?_
  refine r_scr hs 5 rfl (j := i + 1) (lj1 i) (by omega) ?_
  refine r_callV hv 6 rfl (l := [_]) rfl rfl rfl rfl trivial (hS.1 _ _ _ _ _ ?_ (s_cut hS hA hJ (hz _)))
  intro r σ1 q
  obtain ⟨y, rfl, q⟩ := q
  show v 469 (loL i) [aI y] σ1
  refine r_aload_n hv 7 rfl rfl ?_
  refine r_aload_n hv 8 rfl rfl ?_
  refine r_iload_n hv 9 rfl rfl ?_
  refine r_iconst hv 10 rfl ?_
  refine r_iadd hv 11 rfl ?_
  refine r_scr hs 12 rfl (j := i + 1) (lj1 i) (by omega) ?_
  refine r_callV hv 13 rfl (l := [_]) rfl rfl rfl rfl trivial (hS.1 _ _ _ _ _ ?_ q)
  intro r σ2 q2
  obtain ⟨rfl, q2⟩ := q2
  show v 478 (loL i) [aI y, aI y] σ2
  refine r_icmp_eq hv 14 rfl (fun _ => hn σ2 q2) (fun h => absurd rfl h)
theorem lc_7 (hS : Sys S) (hT : SysT S) (hz : ∀ j, -2147483648 ≤ zs j ∧ zs j < 2147483648) (hv : Cl S Φ kL7 v) (hs : Scr zs L kL7 v) (hi : i + 7 ≤ L) (hA : OKA A) (hJ : JJ A σ) (hn : ∀ σ2, (∃ A, OKA A ∧ JJ A σ2) → v 1348 (loL i) [] σ2) : v 483 (loL i) [] σ := by
  refine r_aload_n hv 0 rfl rfl ?_
  refine r_aload_n hv 1 rfl rfl ?_
  refine r_iload_n hv 2 rfl rfl ?_
  refine r_iconst hv 3 rfl ?_
  refine r_iadd hv 4 rfl ?_
  refine r_scr hs 5 rfl (j := i + 1) (lj1 i) (by omega) ?_
  refine r_aload_n hv 6 rfl rfl ?_
  refine r_iload_n hv 7 rfl rfl ?_
  refine r_iconst hv 8 rfl ?_
  refine r_iadd hv 9 rfl ?_
  refine r_scr hs 10 rfl (j := i + 2) (lj2 i) (by omega) ?_
  refine r_callV hv 11 rfl (l := [_, _]) rfl rfl rfl rfl trivial (hS.1 _ _ _ _ _ ?_ (s_rule hS hA hJ (hz _) (hz _)))
  intro r σ1 q
  obtain ⟨y, rfl, q⟩ := q
  show v 497 (loL i) [aI y] σ1
  refine r_aload_n hv 12 rfl rfl ?_
  refine r_aload_n hv 13 rfl rfl ?_
  refine r_iload_n hv 14 rfl rfl ?_
  refine r_iconst hv 15 rfl ?_
  refine r_iadd hv 16 rfl ?_
  refine r_scr hs 17 rfl (j := i + 1) (lj1 i) (by omega) ?_
  refine r_aload_n hv 18 rfl rfl ?_
  refine r_iload_n hv 19 rfl rfl ?_
  refine r_iconst hv 20 rfl ?_
  refine r_iadd hv 21 rfl ?_
  refine r_scr hs 22 rfl (j := i + 2) (lj2 i) (by omega) ?_
  refine r_callV hv 23 rfl (l := [_, _]) rfl rfl rfl rfl trivial (hS.1 _ _ _ _ _ ?_ q)
  intro r σ2 q2
  obtain ⟨rfl, q2⟩ := q2
  show v 511 (loL i) [aI y, aI y] σ2
  refine r_icmp_eq hv 24 rfl (fun _ => hn σ2 q2) (fun h => absurd rfl h)
theorem lc_8 (hS : Sys S) (hT : SysT S) (hz : ∀ j, -2147483648 ≤ zs j ∧ zs j < 2147483648) (hv : Cl S Φ kL8 v) (hs : Scr zs L kL8 v) (hi : i + 7 ≤ L) (hA : OKA A) (hJ : JJ A σ) (hn : ∀ σ2, (∃ A, OKA A ∧ JJ A σ2) → v 1348 (loL i) [] σ2) : v 516 (loL i) [] σ := by
  refine r_aload_n hv 0 rfl rfl ?_
  refine r_callV hv 1 rfl (l := []) rfl rfl rfl rfl trivial (hS.1 _ _ _ _ _ ?_ (s_drop hS hA hJ ))
  intro r σ1 q
  obtain ⟨y, rfl, q⟩ := q
  show v 520 (loL i) [aI y] σ1
  refine r_aload_n hv 2 rfl rfl ?_
  refine r_callV hv 3 rfl (l := []) rfl rfl rfl rfl trivial (hS.1 _ _ _ _ _ ?_ q)
  intro r σ2 q2
  obtain ⟨rfl, q2⟩ := q2
  show v 524 (loL i) [aI y, aI y] σ2
  refine r_icmp_eq hv 4 rfl (fun _ => hn σ2 q2) (fun h => absurd rfl h)
theorem lc_9 (hS : Sys S) (hT : SysT S) (hz : ∀ j, -2147483648 ≤ zs j ∧ zs j < 2147483648) (hv : Cl S Φ kL9 v) (hs : Scr zs L kL9 v) (hi : i + 7 ≤ L) (hA : OKA A) (hJ : JJ A σ) (hn : ∀ σ2, (∃ A, OKA A ∧ JJ A σ2) → v 1348 (loL i) [] σ2) : v 529 (loL i) [] σ := by
  refine r_aload_n hv 0 rfl rfl ?_
  refine r_aload_n hv 1 rfl rfl ?_
  refine r_iload_n hv 2 rfl rfl ?_
  refine r_iconst hv 3 rfl ?_
  refine r_iadd hv 4 rfl ?_
  refine r_scr hs 5 rfl (j := i + 1) (lj1 i) (by omega) ?_
  refine r_aload_n hv 6 rfl rfl ?_
  refine r_iload_n hv 7 rfl rfl ?_
  refine r_iconst hv 8 rfl ?_
  refine r_iadd hv 9 rfl ?_
  refine r_scr hs 10 rfl (j := i + 2) (lj2 i) (by omega) ?_
  refine r_callV hv 11 rfl (l := [_, _]) rfl rfl rfl rfl trivial (hS.1 _ _ _ _ _ ?_ (s_time hS hA hJ (hz _) (hz _)))
  intro r σ1 q
  obtain ⟨y, rfl, q⟩ := q
  show v 543 (loL i) [aI y] σ1
  refine r_aload_n hv 12 rfl rfl ?_
  refine r_aload_n hv 13 rfl rfl ?_
  refine r_iload_n hv 14 rfl rfl ?_
  refine r_iconst hv 15 rfl ?_
  refine r_iadd hv 16 rfl ?_
  refine r_scr hs 17 rfl (j := i + 1) (lj1 i) (by omega) ?_
  refine r_aload_n hv 18 rfl rfl ?_
  refine r_iload_n hv 19 rfl rfl ?_
  refine r_iconst hv 20 rfl ?_
  refine r_iadd hv 21 rfl ?_
  refine r_scr hs 22 rfl (j := i + 2) (lj2 i) (by omega) ?_
  refine r_callV hv 23 rfl (l := [_, _]) rfl rfl rfl rfl trivial (hS.1 _ _ _ _ _ ?_ q)
  intro r σ2 q2
  obtain ⟨rfl, q2⟩ := q2
  show v 557 (loL i) [aI y, aI y] σ2
  refine r_icmp_eq hv 24 rfl (fun _ => hn σ2 q2) (fun h => absurd rfl h)
theorem lc_10 (hS : Sys S) (hT : SysT S) (hz : ∀ j, -2147483648 ≤ zs j ∧ zs j < 2147483648) (hv : Cl S Φ kL10 v) (hs : Scr zs L kL10 v) (hi : i + 7 ≤ L) (hA : OKA A) (hJ : JJ A σ) (hn : ∀ σ2, (∃ A, OKA A ∧ JJ A σ2) → v 1348 (loL i) [] σ2) : v 562 (loL i) [] σ := by
  refine r_aload_n hv 0 rfl rfl ?_
  refine r_aload_n hv 1 rfl rfl ?_
  refine r_iload_n hv 2 rfl rfl ?_
  refine r_iconst hv 3 rfl ?_
  refine r_iadd hv 4 rfl ?_
  refine r_scr hs 5 rfl (j := i + 1) (lj1 i) (by omega) ?_
  refine r_aload_n hv 6 rfl rfl ?_
  refine r_iload_n hv 7 rfl rfl ?_
  refine r_iconst hv 8 rfl ?_
  refine r_iadd hv 9 rfl ?_
  refine r_scr hs 10 rfl (j := i + 2) (lj2 i) (by omega) ?_
  refine r_callV hv 11 rfl (l := [_, _]) rfl rfl rfl rfl trivial (hS.1 _ _ _ _ _ ?_ (s_shot hS hA hJ (hz _) (hz _)))
  intro r σ1 q
  obtain ⟨y, rfl, q⟩ := q
  show v 576 (loL i) [aI y] σ1
  refine r_aload_n hv 12 rfl rfl ?_
  refine r_aload_n hv 13 rfl rfl ?_
  refine r_iload_n hv 14 rfl rfl ?_
  refine r_iconst hv 15 rfl ?_
  refine r_iadd hv 16 rfl ?_
  refine r_scr hs 17 rfl (j := i + 1) (lj1 i) (by omega) ?_
  refine r_aload_n hv 18 rfl rfl ?_
  refine r_iload_n hv 19 rfl rfl ?_
  refine r_iconst hv 20 rfl ?_
  refine r_iadd hv 21 rfl ?_
  refine r_scr hs 22 rfl (j := i + 2) (lj2 i) (by omega) ?_
  refine r_callV hv 23 rfl (l := [_, _]) rfl rfl rfl rfl trivial (hS.1 _ _ _ _ _ ?_ q)
  intro r σ2 q2
  obtain ⟨rfl, q2⟩ := q2
  show v 590 (loL i) [aI y, aI y] σ2
  refine r_icmp_eq hv 24 rfl (fun _ => hn σ2 q2) (fun h => absurd rfl h)
theorem lc_11 (hS : Sys S) (hT : SysT S) (hz : ∀ j, -2147483648 ≤ zs j ∧ zs j < 2147483648) (hv : Cl S Φ kL11 v) (hs : Scr zs L kL11 v) (hi : i + 7 ≤ L) (hA : OKA A) (hJ : JJ A σ) (hn : ∀ σ2, (∃ A, OKA A ∧ JJ A σ2) → v 1348 (loL i) [] σ2) : v 595 (loL i) [] σ := by
  refine r_aload_n hv 0 rfl rfl ?_
  refine r_aload_n hv 1 rfl rfl ?_
  refine r_iload_n hv 2 rfl rfl ?_
  refine r_iconst hv 3 rfl ?_
  refine r_iadd hv 4 rfl ?_
  refine r_scr hs 5 rfl (j := i + 1) (lj1 i) (by omega) ?_
  refine r_callV hv 6 rfl (l := [_]) rfl rfl rfl rfl trivial (hS.1 _ _ _ _ _ ?_ (s_shake hS hA hJ (hz _)))
  intro r σ1 q
  obtain ⟨y, rfl, q⟩ := q
  show v 604 (loL i) [aI y] σ1
  refine r_aload_n hv 7 rfl rfl ?_
  refine r_aload_n hv 8 rfl rfl ?_
  refine r_iload_n hv 9 rfl rfl ?_
  refine r_iconst hv 10 rfl ?_
  refine r_iadd hv 11 rfl ?_
  refine r_scr hs 12 rfl (j := i + 1) (lj1 i) (by omega) ?_
  refine r_callV hv 13 rfl (l := [_]) rfl rfl rfl rfl trivial (hS.1 _ _ _ _ _ ?_ q)
  intro r σ2 q2
  obtain ⟨rfl, q2⟩ := q2
  show v 613 (loL i) [aI y, aI y] σ2
  refine r_icmp_eq hv 14 rfl (fun _ => hn σ2 q2) (fun h => absurd rfl h)
theorem lc_12 (hS : Sys S) (hT : SysT S) (hz : ∀ j, -2147483648 ≤ zs j ∧ zs j < 2147483648) (hv : Cl S Φ kL12 v) (hs : Scr zs L kL12 v) (hi : i + 7 ≤ L) (hA : OKA A) (hJ : JJ A σ) (hn : ∀ σ2, (∃ A, OKA A ∧ JJ A σ2) → v 1348 (loL i) [] σ2) : v 618 (loL i) [] σ := by
  refine r_aload_n hv 0 rfl rfl ?_
  refine r_aload_n hv 1 rfl rfl ?_
  refine r_iload_n hv 2 rfl rfl ?_
  refine r_iconst hv 3 rfl ?_
  refine r_iadd hv 4 rfl ?_
  refine r_scr hs 5 rfl (j := i + 1) (lj1 i) (by omega) ?_
  refine r_callV hv 6 rfl (l := [_]) rfl rfl rfl rfl trivial (hS.1 _ _ _ _ _ ?_ (s_worst hS hA hJ (hz _)))
  intro r σ1 q
  obtain ⟨y, rfl, q⟩ := q
  show v 627 (loL i) [aI y] σ1
  refine r_aload_n hv 7 rfl rfl ?_
  refine r_aload_n hv 8 rfl rfl ?_
  refine r_iload_n hv 9 rfl rfl ?_
  refine r_iconst hv 10 rfl ?_
  refine r_iadd hv 11 rfl ?_
  refine r_scr hs 12 rfl (j := i + 1) (lj1 i) (by omega) ?_
  refine r_callV hv 13 rfl (l := [_]) rfl rfl rfl rfl trivial (hS.1 _ _ _ _ _ ?_ q)
  intro r σ2 q2
  obtain ⟨rfl, q2⟩ := q2
  show v 636 (loL i) [aI y, aI y] σ2
  refine r_icmp_eq hv 14 rfl (fun _ => hn σ2 q2) (fun h => absurd rfl h)
theorem lc_13 (hS : Sys S) (hT : SysT S) (hz : ∀ j, -2147483648 ≤ zs j ∧ zs j < 2147483648) (hv : Cl S Φ kL13 v) (hs : Scr zs L kL13 v) (hi : i + 7 ≤ L) (hA : OKA A) (hJ : JJ A σ) (hn : ∀ σ2, (∃ A, OKA A ∧ JJ A σ2) → v 1348 (loL i) [] σ2) : v 641 (loL i) [] σ := by
  refine r_aload_n hv 0 rfl rfl ?_
  refine r_aload_n hv 1 rfl rfl ?_
  refine r_iload_n hv 2 rfl rfl ?_
  refine r_iconst hv 3 rfl ?_
  refine r_iadd hv 4 rfl ?_
  refine r_scr hs 5 rfl (j := i + 1) (lj1 i) (by omega) ?_
  refine r_callV hv 6 rfl (l := [_]) rfl rfl rfl rfl trivial (hS.1 _ _ _ _ _ ?_ (s_safe hS hA hJ (hz _)))
  intro r σ1 q
  obtain ⟨y, rfl, q⟩ := q
  show v 650 (loL i) [aI y] σ1
  refine r_aload_n hv 7 rfl rfl ?_
  refine r_aload_n hv 8 rfl rfl ?_
  refine r_iload_n hv 9 rfl rfl ?_
  refine r_iconst hv 10 rfl ?_
  refine r_iadd hv 11 rfl ?_
  refine r_scr hs 12 rfl (j := i + 1) (lj1 i) (by omega) ?_
  refine r_callV hv 13 rfl (l := [_]) rfl rfl rfl rfl trivial (hS.1 _ _ _ _ _ ?_ q)
  intro r σ2 q2
  obtain ⟨rfl, q2⟩ := q2
  show v 659 (loL i) [aI y, aI y] σ2
  refine r_icmp_eq hv 14 rfl (fun _ => hn σ2 q2) (fun h => absurd rfl h)
theorem lc_14 (hS : Sys S) (hT : SysT S) (hz : ∀ j, -2147483648 ≤ zs j ∧ zs j < 2147483648) (hv : Cl S Φ kL14 v) (hs : Scr zs L kL14 v) (hi : i + 7 ≤ L) (hA : OKA A) (hJ : JJ A σ) (hn : ∀ σ2, (∃ A, OKA A ∧ JJ A σ2) → v 1348 (loL i) [] σ2) : v 664 (loL i) [] σ := by
  refine r_aload_n hv 0 rfl rfl ?_
  refine r_aload_n hv 1 rfl rfl ?_
  refine r_iload_n hv 2 rfl rfl ?_
  refine r_iconst hv 3 rfl ?_
  refine r_iadd hv 4 rfl ?_
  refine r_scr hs 5 rfl (j := i + 1) (lj1 i) (by omega) ?_
  refine r_callV hv 6 rfl (l := [_]) rfl rfl rfl rfl trivial (hS.1 _ _ _ _ _ ?_ (s_ring hS hA hJ (hz _)))
  intro r σ1 q
  obtain ⟨y, rfl, q⟩ := q
  show v 673 (loL i) [aL y] σ1
  refine r_aload_n hv 7 rfl rfl ?_
  refine r_aload_n hv 8 rfl rfl ?_
  refine r_iload_n hv 9 rfl rfl ?_
  refine r_iconst hv 10 rfl ?_
  refine r_iadd hv 11 rfl ?_
  refine r_scr hs 12 rfl (j := i + 1) (lj1 i) (by omega) ?_
  refine r_callV hv 13 rfl (l := [_]) rfl rfl rfl rfl trivial (hS.1 _ _ _ _ _ ?_ q)
  intro r σ2 q2
  obtain ⟨rfl, q2⟩ := q2
  show v 682 (loL i) [aL y, aL y] σ2
  refine r_lcmp hv 14 rfl ?_
  rw [lcmp_self]
  refine r_if_eq hv 15 rfl (fun _ => hn σ2 q2) (fun h => absurd rfl h)
theorem lc_15 (hS : Sys S) (hT : SysT S) (hz : ∀ j, -2147483648 ≤ zs j ∧ zs j < 2147483648) (hv : Cl S Φ kL15 v) (hs : Scr zs L kL15 v) (hi : i + 7 ≤ L) (hA : OKA A) (hJ : JJ A σ) (hn : ∀ σ2, (∃ A, OKA A ∧ JJ A σ2) → v 1348 (loL i) [] σ2) : v 688 (loL i) [] σ := by
  refine r_aload_n hv 0 rfl rfl ?_
  refine r_aload_n hv 1 rfl rfl ?_
  refine r_iload_n hv 2 rfl rfl ?_
  refine r_iconst hv 3 rfl ?_
  refine r_iadd hv 4 rfl ?_
  refine r_scr hs 5 rfl (j := i + 1) (lj1 i) (by omega) ?_
  refine r_callV hv 6 rfl (l := [_]) rfl rfl rfl rfl trivial (hS.1 _ _ _ _ _ ?_ (s_sets hS hA hJ (hz _)))
  intro r σ1 q
  obtain ⟨y, rfl, q⟩ := q
  show v 697 (loL i) [aI y] σ1
  refine r_aload_n hv 7 rfl rfl ?_
  refine r_aload_n hv 8 rfl rfl ?_
  refine r_iload_n hv 9 rfl rfl ?_
  refine r_iconst hv 10 rfl ?_
  refine r_iadd hv 11 rfl ?_
  refine r_scr hs 12 rfl (j := i + 1) (lj1 i) (by omega) ?_
  refine r_callV hv 13 rfl (l := [_]) rfl rfl rfl rfl trivial (hS.1 _ _ _ _ _ ?_ q)
  intro r σ2 q2
  obtain ⟨rfl, q2⟩ := q2
  show v 706 (loL i) [aI y, aI y] σ2
  refine r_icmp_eq hv 14 rfl (fun _ => hn σ2 q2) (fun h => absurd rfl h)
theorem lc_16 (hS : Sys S) (hT : SysT S) (hz : ∀ j, -2147483648 ≤ zs j ∧ zs j < 2147483648) (hv : Cl S Φ kL16 v) (hs : Scr zs L kL16 v) (hi : i + 7 ≤ L) (hA : OKA A) (hJ : JJ A σ) (hn : ∀ σ2, (∃ A, OKA A ∧ JJ A σ2) → v 1348 (loL i) [] σ2) : v 711 (loL i) [] σ := by
  refine r_aload_n hv 0 rfl rfl ?_
  refine r_aload_n hv 1 rfl rfl ?_
  refine r_iload_n hv 2 rfl rfl ?_
  refine r_iconst hv 3 rfl ?_
  refine r_iadd hv 4 rfl ?_
  refine r_scr hs 5 rfl (j := i + 1) (lj1 i) (by omega) ?_
  refine r_aload_n hv 6 rfl rfl ?_
  refine r_iload_n hv 7 rfl rfl ?_
  refine r_iconst hv 8 rfl ?_
  refine r_iadd hv 9 rfl ?_
  refine r_scr hs 10 rfl (j := i + 2) (lj2 i) (by omega) ?_
  refine r_aload_n hv 11 rfl rfl ?_
  refine r_iload_n hv 12 rfl rfl ?_
  refine r_iconst hv 13 rfl ?_
  refine r_iadd hv 14 rfl ?_
  refine r_scr hs 15 rfl (j := i + 3) (lj3 i) (by omega) ?_
  refine r_aload_n hv 16 rfl rfl ?_
  refine r_iload_n hv 17 rfl rfl ?_
  refine r_iconst hv 18 rfl ?_
  refine r_iadd hv 19 rfl ?_
  refine r_scr hs 20 rfl (j := i + 4) (lj4 i) (by omega) ?_
  refine r_aload_n hv 21 rfl rfl ?_
  refine r_iload_n hv 22 rfl rfl ?_
  refine r_iconst hv 23 rfl ?_
  refine r_iadd hv 24 rfl ?_
  refine r_scr hs 25 rfl (j := i + 5) (lj5 i) (by omega) ?_
  refine r_callV hv 26 rfl (l := [_, _, _, _, _]) rfl rfl rfl rfl trivial (hS.1 _ _ _ _ _ ?_ (s_loads hS hA hJ (hz _) (hz _) (hz _) (hz _) (hz _)))
  intro r σ1 q
  obtain ⟨y, rfl, q⟩ := q
  show v 740 (loL i) [aI y] σ1
  refine r_aload_n hv 27 rfl rfl ?_
  refine r_aload_n hv 28 rfl rfl ?_
  refine r_iload_n hv 29 rfl rfl ?_
  refine r_iconst hv 30 rfl ?_
  refine r_iadd hv 31 rfl ?_
  refine r_scr hs 32 rfl (j := i + 1) (lj1 i) (by omega) ?_
  refine r_aload_n hv 33 rfl rfl ?_
  refine r_iload_n hv 34 rfl rfl ?_
  refine r_iconst hv 35 rfl ?_
  refine r_iadd hv 36 rfl ?_
  refine r_scr hs 37 rfl (j := i + 2) (lj2 i) (by omega) ?_
  refine r_aload_n hv 38 rfl rfl ?_
  refine r_iload_n hv 39 rfl rfl ?_
  refine r_iconst hv 40 rfl ?_
  refine r_iadd hv 41 rfl ?_
  refine r_scr hs 42 rfl (j := i + 3) (lj3 i) (by omega) ?_
  refine r_aload_n hv 43 rfl rfl ?_
  refine r_iload_n hv 44 rfl rfl ?_
  refine r_iconst hv 45 rfl ?_
  refine r_iadd hv 46 rfl ?_
  refine r_scr hs 47 rfl (j := i + 4) (lj4 i) (by omega) ?_
  refine r_aload_n hv 48 rfl rfl ?_
  refine r_iload_n hv 49 rfl rfl ?_
  refine r_iconst hv 50 rfl ?_
  refine r_iadd hv 51 rfl ?_
  refine r_scr hs 52 rfl (j := i + 5) (lj5 i) (by omega) ?_
  refine r_callV hv 53 rfl (l := [_, _, _, _, _]) rfl rfl rfl rfl trivial (hS.1 _ _ _ _ _ ?_ q)
  intro r σ2 q2
  obtain ⟨rfl, q2⟩ := q2
  show v 769 (loL i) [aI y, aI y] σ2
  refine r_icmp_eq hv 54 rfl (fun _ => hn σ2 q2) (fun h => absurd rfl h)
theorem lc_17 (hS : Sys S) (hT : SysT S) (hz : ∀ j, -2147483648 ≤ zs j ∧ zs j < 2147483648) (hv : Cl S Φ kL17 v) (hs : Scr zs L kL17 v) (hi : i + 7 ≤ L) (hA : OKA A) (hJ : JJ A σ) (hn : ∀ σ2, (∃ A, OKA A ∧ JJ A σ2) → v 1348 (loL i) [] σ2) : v 774 (loL i) [] σ := by
  refine r_aload_n hv 0 rfl rfl ?_
  refine r_aload_n hv 1 rfl rfl ?_
  refine r_iload_n hv 2 rfl rfl ?_
  refine r_iconst hv 3 rfl ?_
  refine r_iadd hv 4 rfl ?_
  refine r_scr hs 5 rfl (j := i + 1) (lj1 i) (by omega) ?_
  refine r_aload_n hv 6 rfl rfl ?_
  refine r_iload_n hv 7 rfl rfl ?_
  refine r_iconst hv 8 rfl ?_
  refine r_iadd hv 9 rfl ?_
  refine r_scr hs 10 rfl (j := i + 2) (lj2 i) (by omega) ?_
  refine r_callV hv 11 rfl (l := [_, _]) rfl rfl rfl rfl trivial (hS.1 _ _ _ _ _ ?_ (s_misfire hS hA hJ (hz _) (hz _)))
  intro r σ1 q
  obtain ⟨y, rfl, q⟩ := q
  show v 788 (loL i) [aI y] σ1
  refine r_aload_n hv 12 rfl rfl ?_
  refine r_aload_n hv 13 rfl rfl ?_
  refine r_iload_n hv 14 rfl rfl ?_
  refine r_iconst hv 15 rfl ?_
  refine r_iadd hv 16 rfl ?_
  refine r_scr hs 17 rfl (j := i + 1) (lj1 i) (by omega) ?_
  refine r_aload_n hv 18 rfl rfl ?_
  refine r_iload_n hv 19 rfl rfl ?_
  refine r_iconst hv 20 rfl ?_
  refine r_iadd hv 21 rfl ?_
  refine r_scr hs 22 rfl (j := i + 2) (lj2 i) (by omega) ?_
  refine r_callV hv 23 rfl (l := [_, _]) rfl rfl rfl rfl trivial (hS.1 _ _ _ _ _ ?_ q)
  intro r σ2 q2
  obtain ⟨rfl, q2⟩ := q2
  show v 802 (loL i) [aI y, aI y] σ2
  refine r_icmp_eq hv 24 rfl (fun _ => hn σ2 q2) (fun h => absurd rfl h)
theorem lc_18 (hS : Sys S) (hT : SysT S) (hz : ∀ j, -2147483648 ≤ zs j ∧ zs j < 2147483648) (hv : Cl S Φ kL18 v) (hs : Scr zs L kL18 v) (hi : i + 7 ≤ L) (hA : OKA A) (hJ : JJ A σ) (hn : ∀ σ2, (∃ A, OKA A ∧ JJ A σ2) → v 1348 (loL i) [] σ2) : v 807 (loL i) [] σ := by
  refine r_aload_n hv 0 rfl rfl ?_
  refine r_aload_n hv 1 rfl rfl ?_
  refine r_iload_n hv 2 rfl rfl ?_
  refine r_iconst hv 3 rfl ?_
  refine r_iadd hv 4 rfl ?_
  refine r_scr hs 5 rfl (j := i + 1) (lj1 i) (by omega) ?_
  refine r_aload_n hv 6 rfl rfl ?_
  refine r_iload_n hv 7 rfl rfl ?_
  refine r_iconst hv 8 rfl ?_
  refine r_iadd hv 9 rfl ?_
  refine r_scr hs 10 rfl (j := i + 2) (lj2 i) (by omega) ?_
  refine r_callV hv 11 rfl (l := [_, _]) rfl rfl rfl rfl trivial (hS.1 _ _ _ _ _ ?_ (s_broken hS hA hJ (hz _) (hz _)))
  intro r σ1 q
  obtain ⟨y, rfl, q⟩ := q
  show v 821 (loL i) [aI y] σ1
  refine r_aload_n hv 12 rfl rfl ?_
  refine r_aload_n hv 13 rfl rfl ?_
  refine r_iload_n hv 14 rfl rfl ?_
  refine r_iconst hv 15 rfl ?_
  refine r_iadd hv 16 rfl ?_
  refine r_scr hs 17 rfl (j := i + 1) (lj1 i) (by omega) ?_
  refine r_aload_n hv 18 rfl rfl ?_
  refine r_iload_n hv 19 rfl rfl ?_
  refine r_iconst hv 20 rfl ?_
  refine r_iadd hv 21 rfl ?_
  refine r_scr hs 22 rfl (j := i + 2) (lj2 i) (by omega) ?_
  refine r_callV hv 23 rfl (l := [_, _]) rfl rfl rfl rfl trivial (hS.1 _ _ _ _ _ ?_ q)
  intro r σ2 q2
  obtain ⟨rfl, q2⟩ := q2
  show v 835 (loL i) [aI y, aI y] σ2
  refine r_icmp_eq hv 24 rfl (fun _ => hn σ2 q2) (fun h => absurd rfl h)
theorem lc_19 (hS : Sys S) (hT : SysT S) (hz : ∀ j, -2147483648 ≤ zs j ∧ zs j < 2147483648) (hv : Cl S Φ kL19 v) (hs : Scr zs L kL19 v) (hi : i + 7 ≤ L) (hA : OKA A) (hJ : JJ A σ) (hn : ∀ σ2, (∃ A, OKA A ∧ JJ A σ2) → v 1348 (loL i) [] σ2) : v 840 (loL i) [] σ := by
  refine r_aload_n hv 0 rfl rfl ?_
  refine r_aload_n hv 1 rfl rfl ?_
  refine r_iload_n hv 2 rfl rfl ?_
  refine r_iconst hv 3 rfl ?_
  refine r_iadd hv 4 rfl ?_
  refine r_scr hs 5 rfl (j := i + 1) (lj1 i) (by omega) ?_
  refine r_callV hv 6 rfl (l := [_]) rfl rfl rfl rfl trivial (hS.1 _ _ _ _ _ ?_ (s_critical hS hA hJ (hz _)))
  intro r σ1 q
  obtain ⟨y, rfl, q⟩ := q
  show v 849 (loL i) [aI y] σ1
  refine r_aload_n hv 7 rfl rfl ?_
  refine r_aload_n hv 8 rfl rfl ?_
  refine r_iload_n hv 9 rfl rfl ?_
  refine r_iconst hv 10 rfl ?_
  refine r_iadd hv 11 rfl ?_
  refine r_scr hs 12 rfl (j := i + 1) (lj1 i) (by omega) ?_
  refine r_callV hv 13 rfl (l := [_]) rfl rfl rfl rfl trivial (hS.1 _ _ _ _ _ ?_ q)
  intro r σ2 q2
  obtain ⟨rfl, q2⟩ := q2
  show v 858 (loL i) [aI y, aI y] σ2
  refine r_icmp_eq hv 14 rfl (fun _ => hn σ2 q2) (fun h => absurd rfl h)
theorem lc_20 (hS : Sys S) (hT : SysT S) (hz : ∀ j, -2147483648 ≤ zs j ∧ zs j < 2147483648) (hv : Cl S Φ kL20 v) (hs : Scr zs L kL20 v) (hi : i + 7 ≤ L) (hA : OKA A) (hJ : JJ A σ) (hn : ∀ σ2, (∃ A, OKA A ∧ JJ A σ2) → v 1348 (loL i) [] σ2) : v 863 (loL i) [] σ := by
  refine r_aload_n hv 0 rfl rfl ?_
  refine r_aload_n hv 1 rfl rfl ?_
  refine r_iload_n hv 2 rfl rfl ?_
  refine r_iconst hv 3 rfl ?_
  refine r_iadd hv 4 rfl ?_
  refine r_scr hs 5 rfl (j := i + 1) (lj1 i) (by omega) ?_
  refine r_callV hv 6 rfl (l := [_]) rfl rfl rfl rfl trivial (hS.1 _ _ _ _ _ ?_ (s_plan hS hA hJ (hz _)))
  intro r σ1 q
  obtain ⟨y, rfl, q⟩ := q
  show v 872 (loL i) [aI y] σ1
  refine r_aload_n hv 7 rfl rfl ?_
  refine r_aload_n hv 8 rfl rfl ?_
  refine r_iload_n hv 9 rfl rfl ?_
  refine r_iconst hv 10 rfl ?_
  refine r_iadd hv 11 rfl ?_
  refine r_scr hs 12 rfl (j := i + 1) (lj1 i) (by omega) ?_
  refine r_callV hv 13 rfl (l := [_]) rfl rfl rfl rfl trivial (hS.1 _ _ _ _ _ ?_ q)
  intro r σ2 q2
  obtain ⟨rfl, q2⟩ := q2
  show v 881 (loL i) [aI y, aI y] σ2
  refine r_icmp_eq hv 14 rfl (fun _ => hn σ2 q2) (fun h => absurd rfl h)
theorem lc_21 (hS : Sys S) (hT : SysT S) (hz : ∀ j, -2147483648 ≤ zs j ∧ zs j < 2147483648) (hv : Cl S Φ kL21 v) (hs : Scr zs L kL21 v) (hi : i + 7 ≤ L) (hA : OKA A) (hJ : JJ A σ) (hn : ∀ σ2, (∃ A, OKA A ∧ JJ A σ2) → v 1348 (loL i) [] σ2) : v 886 (loL i) [] σ := by
  refine r_aload_n hv 0 rfl rfl ?_
  refine r_aload_n hv 1 rfl rfl ?_
  refine r_iload_n hv 2 rfl rfl ?_
  refine r_iconst hv 3 rfl ?_
  refine r_iadd hv 4 rfl ?_
  refine r_scr hs 5 rfl (j := i + 1) (lj1 i) (by omega) ?_
  refine r_callV hv 6 rfl (l := [_]) rfl rfl rfl rfl trivial (hS.1 _ _ _ _ _ ?_ (s_planned hS hA hJ (hz _)))
  intro r σ1 q
  obtain ⟨y, rfl, q⟩ := q
  show v 895 (loL i) [aI y] σ1
  refine r_aload_n hv 7 rfl rfl ?_
  refine r_aload_n hv 8 rfl rfl ?_
  refine r_iload_n hv 9 rfl rfl ?_
  refine r_iconst hv 10 rfl ?_
  refine r_iadd hv 11 rfl ?_
  refine r_scr hs 12 rfl (j := i + 1) (lj1 i) (by omega) ?_
  refine r_callV hv 13 rfl (l := [_]) rfl rfl rfl rfl trivial (hS.1 _ _ _ _ _ ?_ q)
  intro r σ2 q2
  obtain ⟨rfl, q2⟩ := q2
  show v 904 (loL i) [aI y, aI y] σ2
  refine r_icmp_eq hv 14 rfl (fun _ => hn σ2 q2) (fun h => absurd rfl h)
theorem lc_22 (hS : Sys S) (hT : SysT S) (hz : ∀ j, -2147483648 ≤ zs j ∧ zs j < 2147483648) (hv : Cl S Φ kL22 v) (hs : Scr zs L kL22 v) (hi : i + 7 ≤ L) (hA : OKA A) (hJ : JJ A σ) (hn : ∀ σ2, (∃ A, OKA A ∧ JJ A σ2) → v 1348 (loL i) [] σ2) : v 909 (loL i) [] σ := by
  refine r_aload_n hv 0 rfl rfl ?_
  refine r_callV hv 1 rfl (l := []) rfl rfl rfl rfl trivial (hS.1 _ _ _ _ _ ?_ (s_adopt hS hA hJ ))
  intro r σ1 q
  obtain ⟨y, rfl, q⟩ := q
  show v 913 (loL i) [aI y] σ1
  refine r_aload_n hv 2 rfl rfl ?_
  refine r_callV hv 3 rfl (l := []) rfl rfl rfl rfl trivial (hS.1 _ _ _ _ _ ?_ q)
  intro r σ2 q2
  obtain ⟨rfl, q2⟩ := q2
  show v 917 (loL i) [aI y, aI y] σ2
  refine r_icmp_eq hv 4 rfl (fun _ => hn σ2 q2) (fun h => absurd rfl h)
theorem lc_23 (hS : Sys S) (hT : SysT S) (hz : ∀ j, -2147483648 ≤ zs j ∧ zs j < 2147483648) (hv : Cl S Φ kL23 v) (hs : Scr zs L kL23 v) (hi : i + 7 ≤ L) (hA : OKA A) (hJ : JJ A σ) (hn : ∀ σ2, (∃ A, OKA A ∧ JJ A σ2) → v 1348 (loL i) [] σ2) : v 922 (loL i) [] σ := by
  refine r_aload_n hv 0 rfl rfl ?_
  refine r_aload_n hv 1 rfl rfl ?_
  refine r_iload_n hv 2 rfl rfl ?_
  refine r_iconst hv 3 rfl ?_
  refine r_iadd hv 4 rfl ?_
  refine r_scr hs 5 rfl (j := i + 1) (lj1 i) (by omega) ?_
  refine r_callV hv 6 rfl (l := [_]) rfl rfl rfl rfl trivial (hS.1 _ _ _ _ _ ?_ (s_feed hS hA hJ (hz _)))
  intro r σ1 q
  obtain ⟨y, rfl, q⟩ := q
  show v 931 (loL i) [aI y] σ1
  refine r_aload_n hv 7 rfl rfl ?_
  refine r_aload_n hv 8 rfl rfl ?_
  refine r_iload_n hv 9 rfl rfl ?_
  refine r_iconst hv 10 rfl ?_
  refine r_iadd hv 11 rfl ?_
  refine r_scr hs 12 rfl (j := i + 1) (lj1 i) (by omega) ?_
  refine r_callV hv 13 rfl (l := [_]) rfl rfl rfl rfl trivial (hS.1 _ _ _ _ _ ?_ q)
  intro r σ2 q2
  obtain ⟨rfl, q2⟩ := q2
  show v 940 (loL i) [aI y, aI y] σ2
  refine r_icmp_eq hv 14 rfl (fun _ => hn σ2 q2) (fun h => absurd rfl h)
theorem lc_24 (hS : Sys S) (hT : SysT S) (hz : ∀ j, -2147483648 ≤ zs j ∧ zs j < 2147483648) (hv : Cl S Φ kL24 v) (hs : Scr zs L kL24 v) (hi : i + 7 ≤ L) (hA : OKA A) (hJ : JJ A σ) (hn : ∀ σ2, (∃ A, OKA A ∧ JJ A σ2) → v 1348 (loL i) [] σ2) : v 945 (loL i) [] σ := by
  refine r_aload_n hv 0 rfl rfl ?_
  refine r_callV hv 1 rfl (l := []) rfl rfl rfl rfl trivial (hS.1 _ _ _ _ _ ?_ (s_read hS hT hA hJ ))
  intro r σ1 q
  obtain ⟨y, rfl, q⟩ := q
  show v 949 (loL i) [aI y] σ1
  refine r_aload_n hv 2 rfl rfl ?_
  refine r_callV hv 3 rfl (l := []) rfl rfl rfl rfl trivial (hS.1 _ _ _ _ _ ?_ q)
  intro r σ2 q2
  obtain ⟨rfl, q2⟩ := q2
  show v 953 (loL i) [aI y, aI y] σ2
  refine r_icmp_eq hv 4 rfl (fun _ => hn σ2 q2) (fun h => absurd rfl h)
theorem lc_25 (hS : Sys S) (hT : SysT S) (hz : ∀ j, -2147483648 ≤ zs j ∧ zs j < 2147483648) (hv : Cl S Φ kL25 v) (hs : Scr zs L kL25 v) (hi : i + 7 ≤ L) (hA : OKA A) (hJ : JJ A σ) (hn : ∀ σ2, (∃ A, OKA A ∧ JJ A σ2) → v 1348 (loL i) [] σ2) : v 958 (loL i) [] σ := by
  refine r_aload_n hv 0 rfl rfl ?_
  refine r_callV hv 1 rfl (l := []) rfl rfl rfl rfl trivial (hS.1 _ _ _ _ _ ?_ (s_spell hS hT hA hJ ))
  intro r σ1 q
  obtain ⟨y, rfl, q⟩ := q
  show v 962 (loL i) [aI y] σ1
  refine r_aload_n hv 2 rfl rfl ?_
  refine r_callV hv 3 rfl (l := []) rfl rfl rfl rfl trivial (hS.1 _ _ _ _ _ ?_ q)
  intro r σ2 q2
  obtain ⟨rfl, q2⟩ := q2
  show v 966 (loL i) [aI y, aI y] σ2
  refine r_icmp_eq hv 4 rfl (fun _ => hn σ2 q2) (fun h => absurd rfl h)
theorem lc_26 (hS : Sys S) (hT : SysT S) (hz : ∀ j, -2147483648 ≤ zs j ∧ zs j < 2147483648) (hv : Cl S Φ kL26 v) (hs : Scr zs L kL26 v) (hi : i + 7 ≤ L) (hA : OKA A) (hJ : JJ A σ) (hn : ∀ σ2, (∃ A, OKA A ∧ JJ A σ2) → v 1348 (loL i) [] σ2) : v 971 (loL i) [] σ := by
  refine r_aload_n hv 0 rfl rfl ?_
  refine r_aload_n hv 1 rfl rfl ?_
  refine r_iload_n hv 2 rfl rfl ?_
  refine r_iconst hv 3 rfl ?_
  refine r_iadd hv 4 rfl ?_
  refine r_scr hs 5 rfl (j := i + 1) (lj1 i) (by omega) ?_
  refine r_callV hv 6 rfl (l := [_]) rfl rfl rfl rfl trivial (hS.1 _ _ _ _ _ ?_ (s_paper hS hT hA hJ (hz _)))
  intro r σ1 q
  obtain ⟨y, rfl, q⟩ := q
  show v 980 (loL i) [aI y] σ1
  refine r_aload_n hv 7 rfl rfl ?_
  refine r_aload_n hv 8 rfl rfl ?_
  refine r_iload_n hv 9 rfl rfl ?_
  refine r_iconst hv 10 rfl ?_
  refine r_iadd hv 11 rfl ?_
  refine r_scr hs 12 rfl (j := i + 1) (lj1 i) (by omega) ?_
  refine r_callV hv 13 rfl (l := [_]) rfl rfl rfl rfl trivial (hS.1 _ _ _ _ _ ?_ q)
  intro r σ2 q2
  obtain ⟨rfl, q2⟩ := q2
  show v 989 (loL i) [aI y, aI y] σ2
  refine r_icmp_eq hv 14 rfl (fun _ => hn σ2 q2) (fun h => absurd rfl h)
theorem lc_27 (hS : Sys S) (hT : SysT S) (hz : ∀ j, -2147483648 ≤ zs j ∧ zs j < 2147483648) (hv : Cl S Φ kL27 v) (hs : Scr zs L kL27 v) (hi : i + 7 ≤ L) (hA : OKA A) (hJ : JJ A σ) (hn : ∀ σ2, (∃ A, OKA A ∧ JJ A σ2) → v 1348 (loL i) [] σ2) : v 994 (loL i) [] σ := by
  refine r_aload_n hv 0 rfl rfl ?_
  refine r_callV hv 1 rfl (l := []) rfl rfl rfl rfl trivial (hS.1 _ _ _ _ _ ?_ (s_step hS hA hJ ))
  intro r σ1 q
  obtain ⟨y, rfl, q⟩ := q
  show v 998 (loL i) [aI y] σ1
  refine r_aload_n hv 2 rfl rfl ?_
  refine r_callV hv 3 rfl (l := []) rfl rfl rfl rfl trivial (hS.1 _ _ _ _ _ ?_ q)
  intro r σ2 q2
  obtain ⟨rfl, q2⟩ := q2
  show v 1002 (loL i) [aI y, aI y] σ2
  refine r_icmp_eq hv 4 rfl (fun _ => hn σ2 q2) (fun h => absurd rfl h)
theorem lc_28 (hS : Sys S) (hT : SysT S) (hz : ∀ j, -2147483648 ≤ zs j ∧ zs j < 2147483648) (hv : Cl S Φ kL28 v) (hs : Scr zs L kL28 v) (hi : i + 7 ≤ L) (hA : OKA A) (hJ : JJ A σ) (hn : ∀ σ2, (∃ A, OKA A ∧ JJ A σ2) → v 1348 (loL i) [] σ2) : v 1007 (loL i) [] σ := by
  refine r_aload_n hv 0 rfl rfl ?_
  refine r_aload_n hv 1 rfl rfl ?_
  refine r_iload_n hv 2 rfl rfl ?_
  refine r_iconst hv 3 rfl ?_
  refine r_iadd hv 4 rfl ?_
  refine r_scr hs 5 rfl (j := i + 1) (lj1 i) (by omega) ?_
  refine r_callV hv 6 rfl (l := [_]) rfl rfl rfl rfl trivial (hS.1 _ _ _ _ _ ?_ (s_stepped hS hA hJ (hz _)))
  intro r σ1 q
  obtain ⟨y, rfl, q⟩ := q
  show v 1016 (loL i) [aI y] σ1
  refine r_aload_n hv 7 rfl rfl ?_
  refine r_aload_n hv 8 rfl rfl ?_
  refine r_iload_n hv 9 rfl rfl ?_
  refine r_iconst hv 10 rfl ?_
  refine r_iadd hv 11 rfl ?_
  refine r_scr hs 12 rfl (j := i + 1) (lj1 i) (by omega) ?_
  refine r_callV hv 13 rfl (l := [_]) rfl rfl rfl rfl trivial (hS.1 _ _ _ _ _ ?_ q)
  intro r σ2 q2
  obtain ⟨rfl, q2⟩ := q2
  show v 1025 (loL i) [aI y, aI y] σ2
  refine r_icmp_eq hv 14 rfl (fun _ => hn σ2 q2) (fun h => absurd rfl h)
theorem lc_29 (hS : Sys S) (hT : SysT S) (hz : ∀ j, -2147483648 ≤ zs j ∧ zs j < 2147483648) (hv : Cl S Φ kL29 v) (hs : Scr zs L kL29 v) (hi : i + 7 ≤ L) (hA : OKA A) (hJ : JJ A σ) (hn : ∀ σ2, (∃ A, OKA A ∧ JJ A σ2) → v 1348 (loL i) [] σ2) : v 1030 (loL i) [] σ := by
  refine r_aload_n hv 0 rfl rfl ?_
  refine r_aload_n hv 1 rfl rfl ?_
  refine r_iload_n hv 2 rfl rfl ?_
  refine r_iconst hv 3 rfl ?_
  refine r_iadd hv 4 rfl ?_
  refine r_scr hs 5 rfl (j := i + 1) (lj1 i) (by omega) ?_
  refine r_aload_n hv 6 rfl rfl ?_
  refine r_iload_n hv 7 rfl rfl ?_
  refine r_iconst hv 8 rfl ?_
  refine r_iadd hv 9 rfl ?_
  refine r_scr hs 10 rfl (j := i + 2) (lj2 i) (by omega) ?_
  refine r_callV hv 11 rfl (l := [_, _]) rfl rfl rfl rfl trivial (hS.1 _ _ _ _ _ ?_ (s_list hS hA hJ (hz _) (hz _)))
  intro r σ1 q
  obtain ⟨y, rfl, q⟩ := q
  show v 1044 (loL i) [aI y] σ1
  refine r_aload_n hv 12 rfl rfl ?_
  refine r_aload_n hv 13 rfl rfl ?_
  refine r_iload_n hv 14 rfl rfl ?_
  refine r_iconst hv 15 rfl ?_
  refine r_iadd hv 16 rfl ?_
  refine r_scr hs 17 rfl (j := i + 1) (lj1 i) (by omega) ?_
  refine r_aload_n hv 18 rfl rfl ?_
  refine r_iload_n hv 19 rfl rfl ?_
  refine r_iconst hv 20 rfl ?_
  refine r_iadd hv 21 rfl ?_
  refine r_scr hs 22 rfl (j := i + 2) (lj2 i) (by omega) ?_
  refine r_callV hv 23 rfl (l := [_, _]) rfl rfl rfl rfl trivial (hS.1 _ _ _ _ _ ?_ q)
  intro r σ2 q2
  obtain ⟨rfl, q2⟩ := q2
  show v 1058 (loL i) [aI y, aI y] σ2
  refine r_icmp_eq hv 24 rfl (fun _ => hn σ2 q2) (fun h => absurd rfl h)
theorem lc_30 (hS : Sys S) (hT : SysT S) (hz : ∀ j, -2147483648 ≤ zs j ∧ zs j < 2147483648) (hv : Cl S Φ kL30 v) (hs : Scr zs L kL30 v) (hi : i + 7 ≤ L) (hA : OKA A) (hJ : JJ A σ) (hn : ∀ σ2, (∃ A, OKA A ∧ JJ A σ2) → v 1348 (loL i) [] σ2) : v 1063 (loL i) [] σ := by
  refine r_aload_n hv 0 rfl rfl ?_
  refine r_aload_n hv 1 rfl rfl ?_
  refine r_iload_n hv 2 rfl rfl ?_
  refine r_iconst hv 3 rfl ?_
  refine r_iadd hv 4 rfl ?_
  refine r_scr hs 5 rfl (j := i + 1) (lj1 i) (by omega) ?_
  refine r_aload_n hv 6 rfl rfl ?_
  refine r_iload_n hv 7 rfl rfl ?_
  refine r_iconst hv 8 rfl ?_
  refine r_iadd hv 9 rfl ?_
  refine r_scr hs 10 rfl (j := i + 2) (lj2 i) (by omega) ?_
  refine r_aload_n hv 11 rfl rfl ?_
  refine r_iload_n hv 12 rfl rfl ?_
  refine r_iconst hv 13 rfl ?_
  refine r_iadd hv 14 rfl ?_
  refine r_scr hs 15 rfl (j := i + 3) (lj3 i) (by omega) ?_
  refine r_i2l hv 16 rfl ?_
  refine r_bipush hv 17 rfl ?_
  refine r_lshl hv 18 rfl ?_
  refine r_aload_n hv 19 rfl rfl ?_
  refine r_iload_n hv 20 rfl rfl ?_
  refine r_iconst hv 21 rfl ?_
  refine r_iadd hv 22 rfl ?_
  refine r_scr hs 23 rfl (j := i + 4) (lj4 i) (by omega) ?_
  refine r_i2l hv 24 rfl ?_
  refine r_ldc2_w hv 25 rfl ?_
  refine r_land hv 26 rfl ?_
  refine r_lor hv 27 rfl ?_
  refine r_callV hv 28 rfl (l := [_, _, _]) rfl rfl rfl rfl trivial (hS.1 _ _ _ _ _ ?_ (s_put hS hA hJ (hz _) (hz _)))
  intro r σ1 q
  obtain ⟨y, rfl, q⟩ := q
  show v 1097 (loL i) [aI y] σ1
  refine r_aload_n hv 29 rfl rfl ?_
  refine r_aload_n hv 30 rfl rfl ?_
  refine r_iload_n hv 31 rfl rfl ?_
  refine r_iconst hv 32 rfl ?_
  refine r_iadd hv 33 rfl ?_
  refine r_scr hs 34 rfl (j := i + 1) (lj1 i) (by omega) ?_
  refine r_aload_n hv 35 rfl rfl ?_
  refine r_iload_n hv 36 rfl rfl ?_
  refine r_iconst hv 37 rfl ?_
  refine r_iadd hv 38 rfl ?_
  refine r_scr hs 39 rfl (j := i + 2) (lj2 i) (by omega) ?_
  refine r_aload_n hv 40 rfl rfl ?_
  refine r_iload_n hv 41 rfl rfl ?_
  refine r_iconst hv 42 rfl ?_
  refine r_iadd hv 43 rfl ?_
  refine r_scr hs 44 rfl (j := i + 3) (lj3 i) (by omega) ?_
  refine r_i2l hv 45 rfl ?_
  refine r_bipush hv 46 rfl ?_
  refine r_lshl hv 47 rfl ?_
  refine r_aload_n hv 48 rfl rfl ?_
  refine r_iload_n hv 49 rfl rfl ?_
  refine r_iconst hv 50 rfl ?_
  refine r_iadd hv 51 rfl ?_
  refine r_scr hs 52 rfl (j := i + 4) (lj4 i) (by omega) ?_
  refine r_i2l hv 53 rfl ?_
  refine r_ldc2_w hv 54 rfl ?_
  refine r_land hv 55 rfl ?_
  refine r_lor hv 56 rfl ?_
  refine r_callV hv 57 rfl (l := [_, _, _]) rfl rfl rfl rfl trivial (hS.1 _ _ _ _ _ ?_ q)
  intro r σ2 q2
  obtain ⟨rfl, q2⟩ := q2
  show v 1131 (loL i) [aI y, aI y] σ2
  refine r_icmp_eq hv 58 rfl (fun _ => hn σ2 q2) (fun h => absurd rfl h)
theorem lc_31 (hS : Sys S) (hT : SysT S) (hz : ∀ j, -2147483648 ≤ zs j ∧ zs j < 2147483648) (hv : Cl S Φ kL31 v) (hs : Scr zs L kL31 v) (hi : i + 7 ≤ L) (hA : OKA A) (hJ : JJ A σ) (hn : ∀ σ2, (∃ A, OKA A ∧ JJ A σ2) → v 1348 (loL i) [] σ2) : v 1136 (loL i) [] σ := by
  refine r_aload_n hv 0 rfl rfl ?_
  refine r_aload_n hv 1 rfl rfl ?_
  refine r_iload_n hv 2 rfl rfl ?_
  refine r_iconst hv 3 rfl ?_
  refine r_iadd hv 4 rfl ?_
  refine r_scr hs 5 rfl (j := i + 1) (lj1 i) (by omega) ?_
  refine r_aload_n hv 6 rfl rfl ?_
  refine r_iload_n hv 7 rfl rfl ?_
  refine r_iconst hv 8 rfl ?_
  refine r_iadd hv 9 rfl ?_
  refine r_scr hs 10 rfl (j := i + 2) (lj2 i) (by omega) ?_
  refine r_callV hv 11 rfl (l := [_, _]) rfl rfl rfl rfl trivial (hS.1 _ _ _ _ _ ?_ (s_get hS hA hJ (hz _) (hz _)))
  intro r σ1 q
  obtain ⟨y, rfl, q⟩ := q
  show v 1150 (loL i) [aL y] σ1
  refine r_aload_n hv 12 rfl rfl ?_
  refine r_aload_n hv 13 rfl rfl ?_
  refine r_iload_n hv 14 rfl rfl ?_
  refine r_iconst hv 15 rfl ?_
  refine r_iadd hv 16 rfl ?_
  refine r_scr hs 17 rfl (j := i + 1) (lj1 i) (by omega) ?_
  refine r_aload_n hv 18 rfl rfl ?_
  refine r_iload_n hv 19 rfl rfl ?_
  refine r_iconst hv 20 rfl ?_
  refine r_iadd hv 21 rfl ?_
  refine r_scr hs 22 rfl (j := i + 2) (lj2 i) (by omega) ?_
  refine r_callV hv 23 rfl (l := [_, _]) rfl rfl rfl rfl trivial (hS.1 _ _ _ _ _ ?_ q)
  intro r σ2 q2
  obtain ⟨rfl, q2⟩ := q2
  show v 1164 (loL i) [aL y, aL y] σ2
  refine r_lcmp hv 24 rfl ?_
  rw [lcmp_self]
  refine r_if_eq hv 25 rfl (fun _ => hn σ2 q2) (fun h => absurd rfl h)
theorem lc_32 (hS : Sys S) (hT : SysT S) (hz : ∀ j, -2147483648 ≤ zs j ∧ zs j < 2147483648) (hv : Cl S Φ kL32 v) (hs : Scr zs L kL32 v) (hi : i + 7 ≤ L) (hA : OKA A) (hJ : JJ A σ) (hn : ∀ σ2, (∃ A, OKA A ∧ JJ A σ2) → v 1348 (loL i) [] σ2) : v 1170 (loL i) [] σ := by
  refine r_aload_n hv 0 rfl rfl ?_
  refine r_aload_n hv 1 rfl rfl ?_
  refine r_iload_n hv 2 rfl rfl ?_
  refine r_iconst hv 3 rfl ?_
  refine r_iadd hv 4 rfl ?_
  refine r_scr hs 5 rfl (j := i + 1) (lj1 i) (by omega) ?_
  refine r_aload_n hv 6 rfl rfl ?_
  refine r_iload_n hv 7 rfl rfl ?_
  refine r_iconst hv 8 rfl ?_
  refine r_iadd hv 9 rfl ?_
  refine r_scr hs 10 rfl (j := i + 2) (lj2 i) (by omega) ?_
  refine r_callV hv 11 rfl (l := [_, _]) rfl rfl rfl rfl trivial (hS.1 _ _ _ _ _ ?_ (s_fill hS hA hJ (hz _) (hz _)))
  intro r σ1 q
  obtain ⟨y, rfl, q⟩ := q
  show v 1184 (loL i) [aI y] σ1
  refine r_aload_n hv 12 rfl rfl ?_
  refine r_aload_n hv 13 rfl rfl ?_
  refine r_iload_n hv 14 rfl rfl ?_
  refine r_iconst hv 15 rfl ?_
  refine r_iadd hv 16 rfl ?_
  refine r_scr hs 17 rfl (j := i + 1) (lj1 i) (by omega) ?_
  refine r_aload_n hv 18 rfl rfl ?_
  refine r_iload_n hv 19 rfl rfl ?_
  refine r_iconst hv 20 rfl ?_
  refine r_iadd hv 21 rfl ?_
  refine r_scr hs 22 rfl (j := i + 2) (lj2 i) (by omega) ?_
  refine r_callV hv 23 rfl (l := [_, _]) rfl rfl rfl rfl trivial (hS.1 _ _ _ _ _ ?_ q)
  intro r σ2 q2
  obtain ⟨rfl, q2⟩ := q2
  show v 1198 (loL i) [aI y, aI y] σ2
  refine r_icmp_eq hv 24 rfl (fun _ => hn σ2 q2) (fun h => absurd rfl h)
theorem lc_33 (hS : Sys S) (hT : SysT S) (hz : ∀ j, -2147483648 ≤ zs j ∧ zs j < 2147483648) (hv : Cl S Φ kL33 v) (hs : Scr zs L kL33 v) (hi : i + 7 ≤ L) (hA : OKA A) (hJ : JJ A σ) (hn : ∀ σ2, (∃ A, OKA A ∧ JJ A σ2) → v 1348 (loL i) [] σ2) : v 1203 (loL i) [] σ := by
  refine r_aload_n hv 0 rfl rfl ?_
  refine r_aload_n hv 1 rfl rfl ?_
  refine r_iload_n hv 2 rfl rfl ?_
  refine r_iconst hv 3 rfl ?_
  refine r_iadd hv 4 rfl ?_
  refine r_scr hs 5 rfl (j := i + 1) (lj1 i) (by omega) ?_
  refine r_aload_n hv 6 rfl rfl ?_
  refine r_iload_n hv 7 rfl rfl ?_
  refine r_iconst hv 8 rfl ?_
  refine r_iadd hv 9 rfl ?_
  refine r_scr hs 10 rfl (j := i + 2) (lj2 i) (by omega) ?_
  refine r_callV hv 11 rfl (l := [_, _]) rfl rfl rfl rfl trivial (hS.1 _ _ _ _ _ ?_ (s_judge hS hA hJ (hz _) (hz _)))
  intro r σ1 q
  obtain ⟨y, rfl, q⟩ := q
  show v 1217 (loL i) [aI y] σ1
  refine r_aload_n hv 12 rfl rfl ?_
  refine r_aload_n hv 13 rfl rfl ?_
  refine r_iload_n hv 14 rfl rfl ?_
  refine r_iconst hv 15 rfl ?_
  refine r_iadd hv 16 rfl ?_
  refine r_scr hs 17 rfl (j := i + 1) (lj1 i) (by omega) ?_
  refine r_aload_n hv 18 rfl rfl ?_
  refine r_iload_n hv 19 rfl rfl ?_
  refine r_iconst hv 20 rfl ?_
  refine r_iadd hv 21 rfl ?_
  refine r_scr hs 22 rfl (j := i + 2) (lj2 i) (by omega) ?_
  refine r_callV hv 23 rfl (l := [_, _]) rfl rfl rfl rfl trivial (hS.1 _ _ _ _ _ ?_ q)
  intro r σ2 q2
  obtain ⟨rfl, q2⟩ := q2
  show v 1231 (loL i) [aI y, aI y] σ2
  refine r_icmp_eq hv 24 rfl (fun _ => hn σ2 q2) (fun h => absurd rfl h)
theorem lc_34 (hS : Sys S) (hT : SysT S) (hz : ∀ j, -2147483648 ≤ zs j ∧ zs j < 2147483648) (hv : Cl S Φ kL34 v) (hs : Scr zs L kL34 v) (hi : i + 7 ≤ L) (hA : OKA A) (hJ : JJ A σ) (hn : ∀ σ2, (∃ A, OKA A ∧ JJ A σ2) → v 1348 (loL i) [] σ2) : v 1236 (loL i) [] σ := by
  refine r_aload_n hv 0 rfl rfl ?_
  refine r_aload_n hv 1 rfl rfl ?_
  refine r_iload_n hv 2 rfl rfl ?_
  refine r_iconst hv 3 rfl ?_
  refine r_iadd hv 4 rfl ?_
  refine r_scr hs 5 rfl (j := i + 1) (lj1 i) (by omega) ?_
  refine r_aload_n hv 6 rfl rfl ?_
  refine r_iload_n hv 7 rfl rfl ?_
  refine r_iconst hv 8 rfl ?_
  refine r_iadd hv 9 rfl ?_
  refine r_scr hs 10 rfl (j := i + 2) (lj2 i) (by omega) ?_
  refine r_aload_n hv 11 rfl rfl ?_
  refine r_iload_n hv 12 rfl rfl ?_
  refine r_iconst hv 13 rfl ?_
  refine r_iadd hv 14 rfl ?_
  refine r_scr hs 15 rfl (j := i + 3) (lj3 i) (by omega) ?_
  refine r_aload_n hv 16 rfl rfl ?_
  refine r_iload_n hv 17 rfl rfl ?_
  refine r_iconst hv 18 rfl ?_
  refine r_iadd hv 19 rfl ?_
  refine r_scr hs 20 rfl (j := i + 4) (lj4 i) (by omega) ?_
  refine r_aload_n hv 21 rfl rfl ?_
  refine r_iload_n hv 22 rfl rfl ?_
  refine r_iconst hv 23 rfl ?_
  refine r_iadd hv 24 rfl ?_
  refine r_scr hs 25 rfl (j := i + 5) (lj5 i) (by omega) ?_
  refine r_callV hv 26 rfl (l := [_, _, _, _, _]) rfl rfl rfl rfl trivial (hS.1 _ _ _ _ _ ?_ (s_move hS hA hJ (hz _) (hz _) (hz _) (hz _) (hz _)))
  intro r σ1 q
  obtain ⟨y, rfl, q⟩ := q
  show v 1265 (loL i) [aI y] σ1
  refine r_aload_n hv 27 rfl rfl ?_
  refine r_aload_n hv 28 rfl rfl ?_
  refine r_iload_n hv 29 rfl rfl ?_
  refine r_iconst hv 30 rfl ?_
  refine r_iadd hv 31 rfl ?_
  refine r_scr hs 32 rfl (j := i + 1) (lj1 i) (by omega) ?_
  refine r_aload_n hv 33 rfl rfl ?_
  refine r_iload_n hv 34 rfl rfl ?_
  refine r_iconst hv 35 rfl ?_
  refine r_iadd hv 36 rfl ?_
  refine r_scr hs 37 rfl (j := i + 2) (lj2 i) (by omega) ?_
  refine r_aload_n hv 38 rfl rfl ?_
  refine r_iload_n hv 39 rfl rfl ?_
  refine r_iconst hv 40 rfl ?_
  refine r_iadd hv 41 rfl ?_
  refine r_scr hs 42 rfl (j := i + 3) (lj3 i) (by omega) ?_
  refine r_aload_n hv 43 rfl rfl ?_
  refine r_iload_n hv 44 rfl rfl ?_
  refine r_iconst hv 45 rfl ?_
  refine r_iadd hv 46 rfl ?_
  refine r_scr hs 47 rfl (j := i + 4) (lj4 i) (by omega) ?_
  refine r_aload_n hv 48 rfl rfl ?_
  refine r_iload_n hv 49 rfl rfl ?_
  refine r_iconst hv 50 rfl ?_
  refine r_iadd hv 51 rfl ?_
  refine r_scr hs 52 rfl (j := i + 5) (lj5 i) (by omega) ?_
  refine r_callV hv 53 rfl (l := [_, _, _, _, _]) rfl rfl rfl rfl trivial (hS.1 _ _ _ _ _ ?_ q)
  intro r σ2 q2
  obtain ⟨rfl, q2⟩ := q2
  show v 1294 (loL i) [aI y, aI y] σ2
  refine r_icmp_eq hv 54 rfl (fun _ => hn σ2 q2) (fun h => absurd rfl h)
theorem lc_35 (hS : Sys S) (hT : SysT S) (hz : ∀ j, -2147483648 ≤ zs j ∧ zs j < 2147483648) (hv : Cl S Φ kL35 v) (hs : Scr zs L kL35 v) (hi : i + 7 ≤ L) (hA : OKA A) (hJ : JJ A σ) (hn : ∀ σ2, (∃ A, OKA A ∧ JJ A σ2) → v 1348 (loL i) [] σ2) : v 1299 (loL i) [] σ := by
  refine r_aload_n hv 0 rfl rfl ?_
  refine r_aload_n hv 1 rfl rfl ?_
  refine r_iload_n hv 2 rfl rfl ?_
  refine r_iconst hv 3 rfl ?_
  refine r_iadd hv 4 rfl ?_
  refine r_scr hs 5 rfl (j := i + 1) (lj1 i) (by omega) ?_
  refine r_callV hv 6 rfl (l := [_]) rfl rfl rfl rfl trivial (hS.1 _ _ _ _ _ ?_ (s_count hS hA hJ (hz _)))
  intro r σ1 q
  obtain ⟨y, rfl, q⟩ := q
  show v 1308 (loL i) [aI y] σ1
  refine r_aload_n hv 7 rfl rfl ?_
  refine r_aload_n hv 8 rfl rfl ?_
  refine r_iload_n hv 9 rfl rfl ?_
  refine r_iconst hv 10 rfl ?_
  refine r_iadd hv 11 rfl ?_
  refine r_scr hs 12 rfl (j := i + 1) (lj1 i) (by omega) ?_
  refine r_callV hv 13 rfl (l := [_]) rfl rfl rfl rfl trivial (hS.1 _ _ _ _ _ ?_ q)
  intro r σ2 q2
  obtain ⟨rfl, q2⟩ := q2
  show v 1317 (loL i) [aI y, aI y] σ2
  refine r_icmp_eq hv 14 rfl (fun _ => hn σ2 q2) (fun h => absurd rfl h)
theorem lc_36 (hS : Sys S) (hT : SysT S) (hz : ∀ j, -2147483648 ≤ zs j ∧ zs j < 2147483648) (hv : Cl S Φ kL36 v) (hs : Scr zs L kL36 v) (hi : i + 7 ≤ L) (hA : OKA A) (hJ : JJ A σ) (hn : ∀ σ2, (∃ A, OKA A ∧ JJ A σ2) → v 1348 (loL i) [] σ2) : v 1322 (loL i) [] σ := by
  refine r_aload_n hv 0 rfl rfl ?_
  refine r_callV hv 1 rfl (l := []) rfl rfl rfl rfl trivial (hS.1 _ _ _ _ _ ?_ (s_image hS hA hJ ))
  intro r σ1 q
  obtain ⟨y, rfl, q⟩ := q
  show v 1326 (loL i) [aI y] σ1
  refine r_aload_n hv 2 rfl rfl ?_
  refine r_callV hv 3 rfl (l := []) rfl rfl rfl rfl trivial (hS.1 _ _ _ _ _ ?_ q)
  intro r σ2 q2
  obtain ⟨rfl, q2⟩ := q2
  show v 1330 (loL i) [aI y, aI y] σ2
  refine r_icmp_eq hv 4 rfl (fun _ => hn σ2 q2) (fun h => absurd rfl h)
theorem lc_37 (hS : Sys S) (hT : SysT S) (hz : ∀ j, -2147483648 ≤ zs j ∧ zs j < 2147483648) (hv : Cl S Φ kL37 v) (hs : Scr zs L kL37 v) (hi : i + 7 ≤ L) (hA : OKA A) (hJ : JJ A σ) (hn : ∀ σ2, (∃ A, OKA A ∧ JJ A σ2) → v 1348 (loL i) [] σ2) : v 1335 (loL i) [] σ := by
  refine r_aload_n hv 0 rfl rfl ?_
  refine r_callV hv 1 rfl (l := []) rfl rfl rfl rfl trivial (hS.1 _ _ _ _ _ ?_ (s_undo hS hA hJ ))
  intro r σ1 q
  obtain ⟨y, rfl, q⟩ := q
  show v 1339 (loL i) [aI y] σ1
  refine r_aload_n hv 2 rfl rfl ?_
  refine r_callV hv 3 rfl (l := []) rfl rfl rfl rfl trivial (hS.1 _ _ _ _ _ ?_ q)
  intro r σ2 q2
  obtain ⟨rfl, q2⟩ := q2
  show v 1343 (loL i) [aI y, aI y] σ2
  refine r_icmp_eq hv 4 rfl (fun _ => hn σ2 q2) (fun h => absurd rfl h)
end LAWC
section LAWL
variable {S : Sp} {Φ : Rs} {v : Kt} {zs : Nat → Int} {L : Nat}
/-- the counter's step -/
def loL' (i : Nat) : Lo := [some (aR 70), some (aR 0), some (aR 49), some (aI (iI (i : Int) + 7))]
theorem loL_7 (i : Nat) : loL' i = loL (i + 7) := by unfold loL' loL; rw [lj7]
set_option maxHeartbeats 1000000 in
theorem law_loop (hS : Sys S) (hT : SysT S) (hz : ∀ j, -2147483648 ≤ zs j ∧ zs j < 2147483648) (hv : ∀ kc ∈ kLs, Cl S Φ kc v) (hs : ∀ kc ∈ kLs, Scr zs L kc v) (hL : L ≤ 3584)
    (hlen : ∀ lo σ t, v 21 lo (aI (iI (L : Int)) :: t) σ → v 20 lo (aR 70 :: t) σ) (hend : ∀ σ, Φ [aI 1] σ) : ∀ (n i : Nat) (σ : St), L < i + n → i ≤ L + 7 → (∃ A, OKA A ∧ JJ A σ) → v 18 (loL i) [] σ := by
  have hvh : Cl S Φ kLh v := hv _ List.mem_cons_self
  have hsh : Scr zs L kLh v := hs _ List.mem_cons_self
  intro n
  induction n with
  | zero =>
    intro i σ hn hi hA
    refine r_iload_n hvh 2 rfl rfl ?_
    refine r_aload_n hvh 3 rfl rfl ?_
    refine hlen _ _ _ ?_
    refine r_bipush hvh 5 rfl ?_
    refine r_isub hvh 6 rfl ?_
    have e : iI (L : Int) - 7 = iI ((L : Int) - 7) := by rw [show (7 : Int32) = iI 7 from rfl, iI_sub]
    rw [e]
    refine r_icmp_gt hvh 7 rfl (fun h => ?_) (fun h => ?_)
    · refine r_iconst hvh 16 rfl ?_
      exact r_zreturn hvh 17 rfl rfl (Or.inr rfl) (hend σ)
    · exact absurd ((iI_lt (by omega)).mpr (by omega)) h
  | succ n ih =>
    intro i σ hn hi hA
    refine r_iload_n hvh 2 rfl rfl ?_
    refine r_aload_n hvh 3 rfl rfl ?_
    refine hlen _ _ _ ?_
    refine r_bipush hvh 5 rfl ?_
    refine r_isub hvh 6 rfl ?_
    have e : iI (L : Int) - 7 = iI ((L : Int) - 7) := by rw [show (7 : Int32) = iI 7 from rfl, iI_sub]
    rw [e]
    refine r_icmp_gt hvh 7 rfl (fun h => ?_) (fun h => ?_)
    · refine r_iconst hvh 16 rfl ?_
      exact r_zreturn hvh 17 rfl rfl (Or.inr rfl) (hend σ)
    · have hi7 : i + 7 ≤ L := by
        have := mt (iI_lt (a := (L : Int) - 7) (b := (i : Int)) (by omega)).mpr h
        omega
      have hnx : ∀ σ2, (∃ A, OKA A ∧ JJ A σ2) → v 1348 (loL i) [] σ2 := by
        intro σ2 h2
        refine r_iinc hvh 14 rfl (lo' := loL (i + 7)) (x := iI (i : Int)) rfl ?_ ?_
        · show loL' i = _
          exact loL_7 i
        · refine r_goto hvh 15 rfl ?_
          exact ih (i + 7) σ2 (by omega) (by omega) h2
      obtain ⟨A, hA, hJ⟩ := hA
      refine r_aload_n hvh 8 rfl rfl ?_
      refine r_iload_n hvh 9 rfl rfl ?_
      refine r_scr hsh 10 rfl (j := i) rfl (by omega) ?_
      refine r_bipush hvh 11 rfl ?_
      refine r_iand hvh 12 rfl ?_
      refine r_tab hvh 13 rfl ?_
      refine ⟨fun _ => lc_0 hS hT hz (hv _ (List.mem_of_getElem? (i := 1) rfl)) (hs _ (List.mem_of_getElem? (i := 1) rfl)) hi7 hA hJ hnx, fun _ => ?_⟩
      refine ⟨fun _ => lc_1 hS hT hz (hv _ (List.mem_of_getElem? (i := 2) rfl)) (hs _ (List.mem_of_getElem? (i := 2) rfl)) hi7 hA hJ hnx, fun _ => ?_⟩
      refine ⟨fun _ => lc_2 hS hT hz (hv _ (List.mem_of_getElem? (i := 3) rfl)) (hs _ (List.mem_of_getElem? (i := 3) rfl)) hi7 hA hJ hnx, fun _ => ?_⟩
      refine ⟨fun _ => lc_3 hS hT hz (hv _ (List.mem_of_getElem? (i := 4) rfl)) (hs _ (List.mem_of_getElem? (i := 4) rfl)) hi7 hA hJ hnx, fun _ => ?_⟩
      refine ⟨fun _ => lc_4 hS hT hz (hv _ (List.mem_of_getElem? (i := 5) rfl)) (hs _ (List.mem_of_getElem? (i := 5) rfl)) hi7 hA hJ hnx, fun _ => ?_⟩
      refine ⟨fun _ => lc_5 hS hT hz (hv _ (List.mem_of_getElem? (i := 6) rfl)) (hs _ (List.mem_of_getElem? (i := 6) rfl)) hi7 hA hJ hnx, fun _ => ?_⟩
      refine ⟨fun _ => lc_6 hS hT hz (hv _ (List.mem_of_getElem? (i := 7) rfl)) (hs _ (List.mem_of_getElem? (i := 7) rfl)) hi7 hA hJ hnx, fun _ => ?_⟩
      refine ⟨fun _ => lc_7 hS hT hz (hv _ (List.mem_of_getElem? (i := 8) rfl)) (hs _ (List.mem_of_getElem? (i := 8) rfl)) hi7 hA hJ hnx, fun _ => ?_⟩
      refine ⟨fun _ => lc_8 hS hT hz (hv _ (List.mem_of_getElem? (i := 9) rfl)) (hs _ (List.mem_of_getElem? (i := 9) rfl)) hi7 hA hJ hnx, fun _ => ?_⟩
      refine ⟨fun _ => lc_9 hS hT hz (hv _ (List.mem_of_getElem? (i := 10) rfl)) (hs _ (List.mem_of_getElem? (i := 10) rfl)) hi7 hA hJ hnx, fun _ => ?_⟩
      refine ⟨fun _ => lc_10 hS hT hz (hv _ (List.mem_of_getElem? (i := 11) rfl)) (hs _ (List.mem_of_getElem? (i := 11) rfl)) hi7 hA hJ hnx, fun _ => ?_⟩
      refine ⟨fun _ => lc_11 hS hT hz (hv _ (List.mem_of_getElem? (i := 12) rfl)) (hs _ (List.mem_of_getElem? (i := 12) rfl)) hi7 hA hJ hnx, fun _ => ?_⟩
      refine ⟨fun _ => lc_12 hS hT hz (hv _ (List.mem_of_getElem? (i := 13) rfl)) (hs _ (List.mem_of_getElem? (i := 13) rfl)) hi7 hA hJ hnx, fun _ => ?_⟩
      refine ⟨fun _ => lc_13 hS hT hz (hv _ (List.mem_of_getElem? (i := 14) rfl)) (hs _ (List.mem_of_getElem? (i := 14) rfl)) hi7 hA hJ hnx, fun _ => ?_⟩
      refine ⟨fun _ => lc_14 hS hT hz (hv _ (List.mem_of_getElem? (i := 15) rfl)) (hs _ (List.mem_of_getElem? (i := 15) rfl)) hi7 hA hJ hnx, fun _ => ?_⟩
      refine ⟨fun _ => lc_15 hS hT hz (hv _ (List.mem_of_getElem? (i := 16) rfl)) (hs _ (List.mem_of_getElem? (i := 16) rfl)) hi7 hA hJ hnx, fun _ => ?_⟩
      refine ⟨fun _ => lc_16 hS hT hz (hv _ (List.mem_of_getElem? (i := 17) rfl)) (hs _ (List.mem_of_getElem? (i := 17) rfl)) hi7 hA hJ hnx, fun _ => ?_⟩
      refine ⟨fun _ => lc_17 hS hT hz (hv _ (List.mem_of_getElem? (i := 18) rfl)) (hs _ (List.mem_of_getElem? (i := 18) rfl)) hi7 hA hJ hnx, fun _ => ?_⟩
      refine ⟨fun _ => lc_18 hS hT hz (hv _ (List.mem_of_getElem? (i := 19) rfl)) (hs _ (List.mem_of_getElem? (i := 19) rfl)) hi7 hA hJ hnx, fun _ => ?_⟩
      refine ⟨fun _ => lc_19 hS hT hz (hv _ (List.mem_of_getElem? (i := 20) rfl)) (hs _ (List.mem_of_getElem? (i := 20) rfl)) hi7 hA hJ hnx, fun _ => ?_⟩
      refine ⟨fun _ => lc_20 hS hT hz (hv _ (List.mem_of_getElem? (i := 21) rfl)) (hs _ (List.mem_of_getElem? (i := 21) rfl)) hi7 hA hJ hnx, fun _ => ?_⟩
      refine ⟨fun _ => lc_21 hS hT hz (hv _ (List.mem_of_getElem? (i := 22) rfl)) (hs _ (List.mem_of_getElem? (i := 22) rfl)) hi7 hA hJ hnx, fun _ => ?_⟩
      refine ⟨fun _ => lc_22 hS hT hz (hv _ (List.mem_of_getElem? (i := 23) rfl)) (hs _ (List.mem_of_getElem? (i := 23) rfl)) hi7 hA hJ hnx, fun _ => ?_⟩
      refine ⟨fun _ => lc_23 hS hT hz (hv _ (List.mem_of_getElem? (i := 24) rfl)) (hs _ (List.mem_of_getElem? (i := 24) rfl)) hi7 hA hJ hnx, fun _ => ?_⟩
      refine ⟨fun _ => lc_24 hS hT hz (hv _ (List.mem_of_getElem? (i := 25) rfl)) (hs _ (List.mem_of_getElem? (i := 25) rfl)) hi7 hA hJ hnx, fun _ => ?_⟩
      refine ⟨fun _ => lc_25 hS hT hz (hv _ (List.mem_of_getElem? (i := 26) rfl)) (hs _ (List.mem_of_getElem? (i := 26) rfl)) hi7 hA hJ hnx, fun _ => ?_⟩
      refine ⟨fun _ => lc_26 hS hT hz (hv _ (List.mem_of_getElem? (i := 27) rfl)) (hs _ (List.mem_of_getElem? (i := 27) rfl)) hi7 hA hJ hnx, fun _ => ?_⟩
      refine ⟨fun _ => lc_27 hS hT hz (hv _ (List.mem_of_getElem? (i := 28) rfl)) (hs _ (List.mem_of_getElem? (i := 28) rfl)) hi7 hA hJ hnx, fun _ => ?_⟩
      refine ⟨fun _ => lc_28 hS hT hz (hv _ (List.mem_of_getElem? (i := 29) rfl)) (hs _ (List.mem_of_getElem? (i := 29) rfl)) hi7 hA hJ hnx, fun _ => ?_⟩
      refine ⟨fun _ => lc_29 hS hT hz (hv _ (List.mem_of_getElem? (i := 30) rfl)) (hs _ (List.mem_of_getElem? (i := 30) rfl)) hi7 hA hJ hnx, fun _ => ?_⟩
      refine ⟨fun _ => lc_30 hS hT hz (hv _ (List.mem_of_getElem? (i := 31) rfl)) (hs _ (List.mem_of_getElem? (i := 31) rfl)) hi7 hA hJ hnx, fun _ => ?_⟩
      refine ⟨fun _ => lc_31 hS hT hz (hv _ (List.mem_of_getElem? (i := 32) rfl)) (hs _ (List.mem_of_getElem? (i := 32) rfl)) hi7 hA hJ hnx, fun _ => ?_⟩
      refine ⟨fun _ => lc_32 hS hT hz (hv _ (List.mem_of_getElem? (i := 33) rfl)) (hs _ (List.mem_of_getElem? (i := 33) rfl)) hi7 hA hJ hnx, fun _ => ?_⟩
      refine ⟨fun _ => lc_33 hS hT hz (hv _ (List.mem_of_getElem? (i := 34) rfl)) (hs _ (List.mem_of_getElem? (i := 34) rfl)) hi7 hA hJ hnx, fun _ => ?_⟩
      refine ⟨fun _ => lc_34 hS hT hz (hv _ (List.mem_of_getElem? (i := 35) rfl)) (hs _ (List.mem_of_getElem? (i := 35) rfl)) hi7 hA hJ hnx, fun _ => ?_⟩
      refine ⟨fun _ => lc_35 hS hT hz (hv _ (List.mem_of_getElem? (i := 36) rfl)) (hs _ (List.mem_of_getElem? (i := 36) rfl)) hi7 hA hJ hnx, fun _ => ?_⟩
      refine ⟨fun _ => lc_36 hS hT hz (hv _ (List.mem_of_getElem? (i := 37) rfl)) (hs _ (List.mem_of_getElem? (i := 37) rfl)) hi7 hA hJ hnx, fun _ => ?_⟩
      refine ⟨fun _ => lc_37 hS hT hz (hv _ (List.mem_of_getElem? (i := 38) rfl)) (hs _ (List.mem_of_getElem? (i := 38) rfl)) hi7 hA hJ hnx, fun _ => ?_⟩
      exact hnx σ ⟨A, hA, hJ⟩
end LAWL
