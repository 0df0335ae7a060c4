def vc_X2_reliefOf_42 (S : Sp) (Φ : Rs) (v : Kt) (a : Nat) (p : Nat) (l1 : Int32) (l2 : Int32) (l4 : Int32) (l5 : Int32) (l6 : Int32) (σ : St) : Prop := ((σ.1 p 3 : Int32) ≤ l6 → (S 27 [aR p, aI l1, aI 2] σ (fun r σ1 => ∃ x2 : Int32, r = [aI x2] ∧ (S 27 [aR p, aI l1, aI 4] σ1 (fun r σ3 => ∃ x4 : Int32, r = [aI x4] ∧ (S 20 [aI x2, aI x4] σ3 (fun r σ5 => ∃ x6 : Int32, r = [aI x6] ∧ (Φ [aI (l5 + x6)] σ5)))))))) ∧ (¬ ((σ.1 p 3 : Int32) ≤ l6) → (S 141 [aI l4, aI l6] σ (fun r σ7 => ∃ x8 : Int32, r = [aI x8] ∧ (((x8 : Int32) = 0 → (v 42 [some (aR p), some (aI l1), some (aI l2), some (aR a), some (aI l4), some (aI l5), some (aI (l6 + 1))] [] σ7)) ∧ (¬ ((x8 : Int32) = 0) → (vp_in l6 20 ∧ (v 42 [some (aR p), some (aI l1), some (aI l2), some (aR a), some (aI l4), some (aI (if (l5 : Int32) < (σ7.1 a (l6 : Int32).toNatClampNeg) then (σ7.1 a (l6 : Int32).toNatClampNeg) else l5)), some (aI (l6 + 1))] [] σ7)))))))
theorem w_X2_reliefOf_42 {S : Sp} (hS : Sys S) {Φ : Rs} {v : Kt} (hv : Cl S Φ k_X2_reliefOf v) (hw : Wk v) (a : Nat) (p : Nat) (h_a : isArr 1 a 20) (h_p : isPat p) (l1 : Int32) (l2 : Int32) (l4 : Int32) (l5 : Int32) (l6 : Int32) (σ : St) (h : vc_X2_reliefOf_42 S Φ v a p l1 l2 l4 l5 l6 σ) : v 42 [some (aR p), some (aI l1), some (aI l2), some (aR a), some (aI l4), some (aI l5), some (aI l6)] [] σ := by
  unfold vc_X2_reliefOf_42 at h
  refine r_iload (pc := 42) hv 26 rfl rfl ?_
  refine r_aload_n (pc := 44) hv 27 rfl rfl ?_
  refine r_getI (pc := 45) hv 28 rfl rfl (isPat_oc h_p) ?_
  refine r_icmp_ge (pc := 48) hv 29 rfl (fun c => ?_) (fun c => ?_)
  · replace h := h.1 c
    refine r_iload (pc := 78) hv 42 rfl rfl ?_
    refine r_aload_n (pc := 80) hv 43 rfl rfl ?_
    refine r_iload_n (pc := 81) hv 44 rfl rfl ?_
    refine r_iconst (pc := 82) hv 45 rfl  ?_
    refine r_callV (pc := 83) (l := [aI 2, aI l1]) (av := [aI l1, aI 2]) (a := p) (t := [aI l5]) hv 46 rfl rfl rfl rfl (rcv_o (by decide) (isPat_oc h_p)) trivial (hS.1 _ _ _ _ _ (fun r σ1 h => ?_) h)
    obtain ⟨x2, rfl, h⟩ := h
    show v 86 [some (aR p), some (aI l1), some (aI l2), some (aR a), some (aI l4), some (aI l5), some (aI l6)] [aI x2, aI l5] σ1
    refine r_aload_n (pc := 86) hv 47 rfl rfl ?_
    refine r_iload_n (pc := 87) hv 48 rfl rfl ?_
    refine r_iconst (pc := 88) hv 49 rfl  ?_
    refine r_callV (pc := 89) (l := [aI 4, aI l1]) (av := [aI l1, aI 4]) (a := p) (t := [aI x2, aI l5]) hv 50 rfl rfl rfl rfl (rcv_o (by decide) (isPat_oc h_p)) trivial (hS.1 _ _ _ _ _ (fun r σ3 h => ?_) h)
    obtain ⟨x4, rfl, h⟩ := h
    show v 92 [some (aR p), some (aI l1), some (aI l2), some (aR a), some (aI l4), some (aI l5), some (aI l6)] [aI x4, aI x2, aI l5] σ3
    refine r_callS (pc := 92) (l := [aI x4, aI x2]) (av := [aI x2, aI x4]) (t := [aI l5]) hv 51 rfl (Or.inl rfl) rfl rfl rfl trivial (hS.1 _ _ _ _ _ (fun r σ5 h => ?_) h)
    obtain ⟨x6, rfl, h⟩ := h
    show v 95 [some (aR p), some (aI l1), some (aI l2), some (aR a), some (aI l4), some (aI l5), some (aI l6)] [aI x6, aI l5] σ5
    refine r_iadd (pc := 95) hv 52 rfl  ?_
    exact r_ireturn (pc := 96) hv 53 rfl rfl h
  · replace h := h.2 c
    refine r_iload (pc := 51) hv 30 rfl rfl ?_
    refine r_iload (pc := 53) hv 31 rfl rfl ?_
    refine r_callS (pc := 55) (l := [aI l6, aI l4]) (av := [aI l4, aI l6]) (t := []) hv 32 rfl (Or.inr rfl) rfl rfl rfl trivial (hS.1 _ _ _ _ _ (fun r σ7 h => ?_) h)
    obtain ⟨x8, rfl, h⟩ := h
    show v 58 [some (aR p), some (aI l1), some (aI l2), some (aR a), some (aI l4), some (aI l5), some (aI l6)] [aI x8] σ7
    refine r_if_eq (pc := 58) hv 33 rfl (fun c => ?_) (fun c => ?_)
    · replace h := h.1 c
      refine r_iinc (pc := 72) (lo' := [some (aR p), some (aI l1), some (aI l2), some (aR a), some (aI l4), some (aI l5), some (aI (l6 + 1))]) hv 40 rfl rfl rfl ?_
      refine r_goto (pc := 75) hv 41 rfl  ?_
      exact h
    · replace h := h.2 c
      refine r_iload (pc := 61) hv 34 rfl rfl ?_
      refine r_aload_n (pc := 63) hv 35 rfl rfl ?_
      refine r_iload (pc := 64) hv 36 rfl rfl ?_
      refine r_iaload (pc := 66) (N := 20) hv 37 rfl h_a.1 h_a.2.1 h_a.2.2 h.1 ?_
      replace h := h.2
      refine r_max (pc := 67) hv 38 rfl rfl trivial ?_
      refine r_istore (pc := 70) (lo' := [some (aR p), some (aI l1), some (aI l2), some (aR a), some (aI l4), some (aI (if (l5 : Int32) < (σ7.1 a (l6 : Int32).toNatClampNeg) then (σ7.1 a (l6 : Int32).toNatClampNeg) else l5)), some (aI l6)]) hv 39 rfl rfl ?_
      refine r_iinc (pc := 72) (lo' := [some (aR p), some (aI l1), some (aI l2), some (aR a), some (aI l4), some (aI (if (l5 : Int32) < (σ7.1 a (l6 : Int32).toNatClampNeg) then (σ7.1 a (l6 : Int32).toNatClampNeg) else l5)), some (aI (l6 + 1))]) hv 40 rfl rfl rfl ?_
      refine r_goto (pc := 75) hv 41 rfl  ?_
      exact h
def vc_X2_reliefOf_0 (S : Sp) (Φ : Rs) (v : Kt) (a : Nat) (p : Nat) (l1 : Int32) (l2 : Int32) (σ : St) : Prop := S 27 [aR p, aI l1, aI 0] σ (fun r σ1 => ∃ x2 : Int32, r = [aI x2] ∧ ((¬ (x2 : Int32) = 0 → (S 27 [aR p, aI l1, aI 8] σ1 (fun r σ3 => ∃ x4 : Int32, r = [aI x4] ∧ (((x4 : Int32) = 0 → (Φ [aI (-1)] σ3)) ∧ (¬ ((x4 : Int32) = 0) → (((x4 &&& (l2 ^^^ (-1)) : Int32) = 0 → (v 42 [some (aR p), some (aI l1), some (aI l2), some (aR a), some (aI x4), some (aI 0), some (aI 0)] [] σ3)) ∧ (¬ ((x4 &&& (l2 ^^^ (-1)) : Int32) = 0) → (Φ [aI (-1)] σ3)))))))) ∧ ((x2 : Int32) = 0 → (Φ [aI 0] σ1))))
theorem w_X2_reliefOf_0 {S : Sp} (hS : Sys S) {Φ : Rs} {v : Kt} (hv : Cl S Φ k_X2_reliefOf v) (hw : Wk v) (a : Nat) (p : Nat) (h_a : isArr 1 a 20) (h_p : isPat p) (l1 : Int32) (l2 : Int32) (σ : St) (h : vc_X2_reliefOf_0 S Φ v a p l1 l2 σ) : v 0 [some (aR p), some (aI l1), some (aI l2), some (aR a), none, none, none] [] σ := by
  unfold vc_X2_reliefOf_0 at h
  refine r_aload_n (pc := 0) hv 0 rfl rfl ?_
  refine r_iload_n (pc := 1) hv 1 rfl rfl ?_
  refine r_iconst (pc := 2) hv 2 rfl  ?_
  refine r_callV (pc := 3) (l := [aI 0, aI l1]) (av := [aI l1, aI 0]) (a := p) (t := []) hv 3 rfl rfl rfl rfl (rcv_o (by decide) (isPat_oc h_p)) trivial (hS.1 _ _ _ _ _ (fun r σ1 h => ?_) h)
  obtain ⟨x2, rfl, h⟩ := h
  show v 6 [some (aR p), some (aI l1), some (aI l2), some (aR a), none, none, none] [aI x2] σ1
  refine r_if_ne (pc := 6) hv 4 rfl (fun c => ?_) (fun c => ?_)
  · replace h := h.1 c
    refine r_aload_n (pc := 11) hv 7 rfl rfl ?_
    refine r_iload_n (pc := 12) hv 8 rfl rfl ?_
    refine r_bipush (pc := 13) hv 9 rfl  ?_
    refine r_callV (pc := 15) (l := [aI 8, aI l1]) (av := [aI l1, aI 8]) (a := p) (t := []) hv 10 rfl rfl rfl rfl (rcv_o (by decide) (isPat_oc h_p)) trivial (hS.1 _ _ _ _ _ (fun r σ3 h => ?_) h)
    obtain ⟨x4, rfl, h⟩ := h
    show v 18 [some (aR p), some (aI l1), some (aI l2), some (aR a), none, none, none] [aI x4] σ3
    refine r_istore (pc := 18) (lo' := [some (aR p), some (aI l1), some (aI l2), some (aR a), some (aI x4), none, none]) hv 11 rfl rfl ?_
    refine r_iload (pc := 20) hv 12 rfl rfl ?_
    refine r_if_eq (pc := 22) hv 13 rfl (fun c => ?_) (fun c => ?_)
    · replace h := h.1 c
      refine r_iconst (pc := 34) hv 20 rfl  ?_
      exact r_ireturn (pc := 35) hv 21 rfl rfl h
    · replace h := h.2 c
      refine r_iload (pc := 25) hv 14 rfl rfl ?_
      refine r_iload_n (pc := 27) hv 15 rfl rfl ?_
      refine r_iconst (pc := 28) hv 16 rfl  ?_
      refine r_ixor (pc := 29) hv 17 rfl  ?_
      refine r_iand (pc := 30) hv 18 rfl  ?_
      refine r_if_eq (pc := 31) hv 19 rfl (fun c => ?_) (fun c => ?_)
      · replace h := h.1 c
        refine r_iconst (pc := 36) hv 22 rfl  ?_
        refine r_istore (pc := 37) (lo' := [some (aR p), some (aI l1), some (aI l2), some (aR a), some (aI x4), some (aI 0), none]) hv 23 rfl rfl ?_
        refine r_iconst (pc := 39) hv 24 rfl  ?_
        refine r_istore (pc := 40) (lo' := [some (aR p), some (aI l1), some (aI l2), some (aR a), some (aI x4), some (aI 0), some (aI 0)]) hv 25 rfl rfl ?_
        exact h
      · replace h := h.2 c
        refine r_iconst (pc := 34) hv 20 rfl  ?_
        exact r_ireturn (pc := 35) hv 21 rfl rfl h
  · replace h := h.2 c
    refine r_iconst (pc := 9) hv 5 rfl  ?_
    exact r_ireturn (pc := 10) hv 6 rfl rfl h
