def vc_X8_mostHarmful_44 (S : Sp) (Φ : Rs) (v : Kt) (l1 : Int32) (l2 : Int32) (l3 : Int32) (l4 : Int32) (l5 : Int32) (l6 : Int32) (s0 : Int32) (s1 : Int32) (σ : St) : Prop := S 134 [aR 0, aI s1, aI s0] σ (fun r σ1 => r = [] ∧ (S 135 [aR 0, aI l6] σ1 (fun r σ2 => ∃ x3 : Int32, r = [aI x3] ∧ (S 237 [aI x3] σ2 (fun r σ4 => ∃ x5 : Int32, r = [aI x5] ∧ (S 136 [aR 0] σ4 (fun r σ6 => ∃ x7 : Int32, r = [aI x7] ∧ (S 237 [aI x7] σ6 (fun r σ8 => ∃ x9 : Int32, r = [aI x9] ∧ (((x5 + x9 : Int32) ≤ l4 → (v 13 [some (aR 0), some (aI l1), some (aI l2), some (aI l3), some (aI l4), some (aI (l5 + 1)), none, none] [] σ8)) ∧ (¬ ((x5 + x9 : Int32) ≤ l4) → (v 13 [some (aR 0), some (aI l1), some (aI l2), some (aI l5), some (aI (x5 + x9)), some (aI (l5 + 1)), none, none] [] σ8))))))))))))
theorem w_X8_mostHarmful_44 {S : Sp} (hS : Sys S) {Φ : Rs} {v : Kt} (hv : Cl S Φ k_X8_mostHarmful v) (hw : Wk v) (l1 : Int32) (l2 : Int32) (l3 : Int32) (l4 : Int32) (l5 : Int32) (l6 : Int32) (s0 : Int32) (s1 : Int32) (σ : St) (h : vc_X8_mostHarmful_44 S Φ v l1 l2 l3 l4 l5 l6 s0 s1 σ) : v 44 [some (aR 0), some (aI l1), some (aI l2), some (aI l3), some (aI l4), some (aI l5), some (aI l6), none] [aI s0, aI s1, aR 0] σ := by
  unfold vc_X8_mostHarmful_44 at h
  refine r_callV (pc := 44) (l := [aI s0, aI s1]) (av := [aI s1, aI s0]) (a := 0) (t := []) hv 25 rfl rfl rfl rfl (rcv_o (by decide) rfl) trivial (hS.1 _ _ _ _ _ (fun r σ1 h => ?_) h)
  obtain ⟨rfl, h⟩ := h
  show v 47 [some (aR 0), some (aI l1), some (aI l2), some (aI l3), some (aI l4), some (aI l5), some (aI l6), none] [] σ1
  refine r_aload_n (pc := 47) hv 26 rfl rfl ?_
  refine r_iload (pc := 48) hv 27 rfl rfl ?_
  refine r_callV (pc := 50) (l := [aI l6]) (av := [aI l6]) (a := 0) (t := []) hv 28 rfl rfl rfl rfl (rcv_o (by decide) rfl) trivial (hS.1 _ _ _ _ _ (fun r σ2 h => ?_) h)
  obtain ⟨x3, rfl, h⟩ := h
  show v 53 [some (aR 0), some (aI l1), some (aI l2), some (aI l3), some (aI l4), some (aI l5), some (aI l6), none] [aI x3] σ2
  refine r_callS (pc := 53) (l := [aI x3]) (av := [aI x3]) (t := []) hv 29 rfl (Or.inl rfl) rfl rfl rfl trivial (hS.1 _ _ _ _ _ (fun r σ4 h => ?_) h)
  obtain ⟨x5, rfl, h⟩ := h
  show v 56 [some (aR 0), some (aI l1), some (aI l2), some (aI l3), some (aI l4), some (aI l5), some (aI l6), none] [aI x5] σ4
  refine r_aload_n (pc := 56) hv 30 rfl rfl ?_
  refine r_callV (pc := 57) (l := []) (av := []) (a := 0) (t := [aI x5]) hv 31 rfl rfl rfl rfl (rcv_o (by decide) rfl) trivial (hS.1 _ _ _ _ _ (fun r σ6 h => ?_) h)
  obtain ⟨x7, rfl, h⟩ := h
  show v 60 [some (aR 0), some (aI l1), some (aI l2), some (aI l3), some (aI l4), some (aI l5), some (aI l6), none] [aI x7, aI x5] σ6
  refine r_callS (pc := 60) (l := [aI x7]) (av := [aI x7]) (t := [aI x5]) hv 32 rfl (Or.inl rfl) rfl rfl rfl trivial (hS.1 _ _ _ _ _ (fun r σ8 h => ?_) h)
  obtain ⟨x9, rfl, h⟩ := h
  show v 63 [some (aR 0), some (aI l1), some (aI l2), some (aI l3), some (aI l4), some (aI l5), some (aI l6), none] [aI x9, aI x5] σ8
  refine r_iadd (pc := 63) hv 33 rfl  ?_
  refine r_istore (pc := 64) (lo' := [some (aR 0), some (aI l1), some (aI l2), some (aI l3), some (aI l4), some (aI l5), some (aI l6), some (aI (x5 + x9))]) hv 34 rfl rfl ?_
  refine r_iload (pc := 66) hv 35 rfl rfl ?_
  refine r_iload (pc := 68) hv 36 rfl rfl ?_
  refine r_icmp_le (pc := 70) hv 37 rfl (fun c => ?_) (fun c => ?_)
  · replace h := h.1 c
    refine r_iinc (pc := 80) (lo' := [some (aR 0), some (aI l1), some (aI l2), some (aI l3), some (aI l4), some (aI (l5 + 1)), some (aI l6), some (aI (x5 + x9))]) hv 42 rfl rfl rfl ?_
    refine r_goto (pc := 83) hv 43 rfl  ?_
    exact hw 13 [some (aR 0), some (aI l1), some (aI l2), some (aI l3), some (aI l4), some (aI (l5 + 1)), none, none] _ _ _ ⟨rfl, ⟨rfl, ⟨rfl, ⟨rfl, ⟨rfl, ⟨rfl, trivial⟩⟩⟩⟩⟩⟩ h
  · replace h := h.2 c
    refine r_iload (pc := 73) hv 38 rfl rfl ?_
    refine r_istore (pc := 75) (lo' := [some (aR 0), some (aI l1), some (aI l2), some (aI l3), some (aI (x5 + x9)), some (aI l5), some (aI l6), some (aI (x5 + x9))]) hv 39 rfl rfl ?_
    refine r_iload (pc := 77) hv 40 rfl rfl ?_
    refine r_istore_n (pc := 79) (lo' := [some (aR 0), some (aI l1), some (aI l2), some (aI l5), some (aI (x5 + x9)), some (aI l5), some (aI l6), some (aI (x5 + x9))]) hv 41 rfl rfl ?_
    refine r_iinc (pc := 80) (lo' := [some (aR 0), some (aI l1), some (aI l2), some (aI l5), some (aI (x5 + x9)), some (aI (l5 + 1)), some (aI l6), some (aI (x5 + x9))]) hv 42 rfl rfl rfl ?_
    refine r_goto (pc := 83) hv 43 rfl  ?_
    exact hw 13 [some (aR 0), some (aI l1), some (aI l2), some (aI l5), some (aI (x5 + x9)), some (aI (l5 + 1)), none, none] _ _ _ ⟨rfl, ⟨rfl, ⟨rfl, ⟨rfl, ⟨rfl, ⟨rfl, trivial⟩⟩⟩⟩⟩⟩ h
def vc_X8_mostHarmful_29 (S : Sp) (Φ : Rs) (v : Kt) (l1 : Int32) (l2 : Int32) (l3 : Int32) (l4 : Int32) (l5 : Int32) (s0 : Int32) (σ : St) : Prop := ((l2 : Int32) = 0 → (vc_X8_mostHarmful_44 S Φ v  l1 l2 l3 l4 l5 s0 l5 s0 σ)) ∧ (¬ ((l2 : Int32) = 0) → (vc_X8_mostHarmful_44 S Φ v  l1 l2 l3 l4 l5 s0 (-1) s0 σ))
theorem w_X8_mostHarmful_29 {S : Sp} (hS : Sys S) {Φ : Rs} {v : Kt} (hv : Cl S Φ k_X8_mostHarmful v) (hw : Wk v) (l1 : Int32) (l2 : Int32) (l3 : Int32) (l4 : Int32) (l5 : Int32) (s0 : Int32) (σ : St) (h : vc_X8_mostHarmful_29 S Φ v l1 l2 l3 l4 l5 s0 σ) : v 29 [some (aR 0), some (aI l1), some (aI l2), some (aI l3), some (aI l4), some (aI l5), none, none] [aI s0] σ := by
  unfold vc_X8_mostHarmful_29 at h
  refine r_istore (pc := 29) (lo' := [some (aR 0), some (aI l1), some (aI l2), some (aI l3), some (aI l4), some (aI l5), some (aI s0), none]) hv 17 rfl rfl ?_
  refine r_aload_n (pc := 31) hv 18 rfl rfl ?_
  refine r_iload (pc := 32) hv 19 rfl rfl ?_
  refine r_iload_n (pc := 34) hv 20 rfl rfl ?_
  refine r_if_eq (pc := 35) hv 21 rfl (fun c => ?_) (fun c => ?_)
  · replace h := h.1 c
    refine r_iload (pc := 42) hv 24 rfl rfl ?_
    exact (w_X8_mostHarmful_44 hS hv hw   l1 l2 l3 l4 l5 s0 l5 s0  σ h)
  · replace h := h.2 c
    refine r_iconst (pc := 38) hv 22 rfl  ?_
    refine r_goto (pc := 39) hv 23 rfl  ?_
    exact (w_X8_mostHarmful_44 hS hv hw   l1 l2 l3 l4 l5 s0 (-1) s0  σ h)
def vc_X8_mostHarmful_13 (S : Sp) (Φ : Rs) (v : Kt) (l1 : Int32) (l2 : Int32) (l3 : Int32) (l4 : Int32) (l5 : Int32) (σ : St) : Prop := ((l1 : Int32) ≤ l5 → (Φ [aI l3] σ)) ∧ (¬ ((l1 : Int32) ≤ l5) → (((l2 : Int32) = 0 → (vc_X8_mostHarmful_29 S Φ v  l1 l2 l3 l4 l5 (-1) σ)) ∧ (¬ ((l2 : Int32) = 0) → (vc_X8_mostHarmful_29 S Φ v  l1 l2 l3 l4 l5 l5 σ))))
theorem w_X8_mostHarmful_13 {S : Sp} (hS : Sys S) {Φ : Rs} {v : Kt} (hv : Cl S Φ k_X8_mostHarmful v) (hw : Wk v) (l1 : Int32) (l2 : Int32) (l3 : Int32) (l4 : Int32) (l5 : Int32) (σ : St) (h : vc_X8_mostHarmful_13 S Φ v l1 l2 l3 l4 l5 σ) : v 13 [some (aR 0), some (aI l1), some (aI l2), some (aI l3), some (aI l4), some (aI l5), none, none] [] σ := by
  unfold vc_X8_mostHarmful_13 at h
  refine r_iload (pc := 13) hv 9 rfl rfl ?_
  refine r_iload_n (pc := 15) hv 10 rfl rfl ?_
  refine r_icmp_ge (pc := 16) hv 11 rfl (fun c => ?_) (fun c => ?_)
  · replace h := h.1 c
    refine r_iload_n (pc := 86) hv 44 rfl rfl ?_
    exact r_ireturn (pc := 87) hv 45 rfl rfl h
  · replace h := h.2 c
    refine r_iload_n (pc := 19) hv 12 rfl rfl ?_
    refine r_if_eq (pc := 20) hv 13 rfl (fun c => ?_) (fun c => ?_)
    · replace h := h.1 c
      refine r_iconst (pc := 28) hv 16 rfl  ?_
      exact (w_X8_mostHarmful_29 hS hv hw   l1 l2 l3 l4 l5 (-1)  σ h)
    · replace h := h.2 c
      refine r_iload (pc := 23) hv 14 rfl rfl ?_
      refine r_goto (pc := 25) hv 15 rfl  ?_
      exact (w_X8_mostHarmful_29 hS hv hw   l1 l2 l3 l4 l5 l5  σ h)
def vc_X8_mostHarmful_0 (S : Sp) (Φ : Rs) (v : Kt) (l1 : Int32) (l2 : Int32) (σ : St) : Prop := S 131 [aR 0] σ (fun r σ1 => r = [aR 13] ∧ (v 13 [some (aR 0), some (aI l1), some (aI l2), some (aI (-1)), some (aI (-1)), some (aI 0), none, none] [] σ1))
theorem w_X8_mostHarmful_0 {S : Sp} (hS : Sys S) {Φ : Rs} {v : Kt} (hv : Cl S Φ k_X8_mostHarmful v) (hw : Wk v) (l1 : Int32) (l2 : Int32) (σ : St) (h : vc_X8_mostHarmful_0 S Φ v l1 l2 σ) : v 0 [some (aR 0), some (aI l1), some (aI l2), none, none, none, none, none] [] σ := by
  unfold vc_X8_mostHarmful_0 at h
  refine r_aload_n (pc := 0) hv 0 rfl rfl ?_
  refine r_callV (pc := 1) (l := []) (av := []) (a := 0) (t := []) hv 1 rfl rfl rfl rfl (rcv_o (by decide) rfl) trivial (hS.1 _ _ _ _ _ (fun r σ1 h => ?_) h)
  obtain ⟨rfl, h⟩ := h
  show v 4 [some (aR 0), some (aI l1), some (aI l2), none, none, none, none, none] [aR 13] σ1
  refine r_pop (pc := 4) hv 2 rfl trivial ?_
  refine r_iconst (pc := 5) hv 3 rfl  ?_
  refine r_istore_n (pc := 6) (lo' := [some (aR 0), some (aI l1), some (aI l2), some (aI (-1)), none, none, none, none]) hv 4 rfl rfl ?_
  refine r_iconst (pc := 7) hv 5 rfl  ?_
  refine r_istore (pc := 8) (lo' := [some (aR 0), some (aI l1), some (aI l2), some (aI (-1)), some (aI (-1)), none, none, none]) hv 6 rfl rfl ?_
  refine r_iconst (pc := 10) hv 7 rfl  ?_
  refine r_istore (pc := 11) (lo' := [some (aR 0), some (aI l1), some (aI l2), some (aI (-1)), some (aI (-1)), some (aI 0), none, none]) hv 8 rfl rfl ?_
  exact h
def vc_X8_bitOf_0 (S : Sp) (Φ : Rs) (v : Kt) (l0 : Int32) (σ : St) : Prop := ((l0 : Int32) < 0 → (Φ [aI 0] σ)) ∧ (¬ ((l0 : Int32) < 0) → (((20 : Int32) ≤ l0 → (Φ [aI 0] σ)) ∧ (¬ ((20 : Int32) ≤ l0) → (Φ [aI (1 <<< (l0 &&& 31))] σ))))
theorem w_X8_bitOf_0 {S : Sp} (hS : Sys S) {Φ : Rs} {v : Kt} (hv : Cl S Φ k_X8_bitOf v) (hw : Wk v) (l0 : Int32) (σ : St) (h : vc_X8_bitOf_0 S Φ v l0 σ) : v 0 [some (aI l0)] [] σ := by
  unfold vc_X8_bitOf_0 at h
  refine r_iload_n (pc := 0) hv 0 rfl rfl ?_
  refine r_if_lt (pc := 1) hv 1 rfl (fun c => ?_) (fun c => ?_)
  · replace h := h.1 c
    refine r_iconst (pc := 16) hv 9 rfl  ?_
    exact r_ireturn (pc := 17) hv 10 rfl rfl h
  · replace h := h.2 c
    refine r_iload_n (pc := 4) hv 2 rfl rfl ?_
    refine r_bipush (pc := 5) hv 3 rfl  ?_
    refine r_icmp_ge (pc := 7) hv 4 rfl (fun c => ?_) (fun c => ?_)
    · replace h := h.1 c
      refine r_iconst (pc := 16) hv 9 rfl  ?_
      exact r_ireturn (pc := 17) hv 10 rfl rfl h
    · replace h := h.2 c
      refine r_iconst (pc := 10) hv 5 rfl  ?_
      refine r_iload_n (pc := 11) hv 6 rfl rfl ?_
      refine r_ishl (pc := 12) hv 7 rfl  ?_
      refine r_goto (pc := 13) hv 8 rfl  ?_
      exact r_ireturn (pc := 17) hv 10 rfl rfl h
def vc_X8_hasBit_0 (S : Sp) (Φ : Rs) (v : Kt) (l0 : Int32) (l1 : Int32) (σ : St) : Prop := ((l1 : Int32) < 0 → (Φ [aI 0] σ)) ∧ (¬ ((l1 : Int32) < 0) → (((20 : Int32) ≤ l1 → (Φ [aI 0] σ)) ∧ (¬ ((20 : Int32) ≤ l1) → ((((l0 >>> (l1 &&& 31)) &&& 1 : Int32) = 0 → (Φ [aI 0] σ)) ∧ (¬ (((l0 >>> (l1 &&& 31)) &&& 1 : Int32) = 0) → (Φ [aI 1] σ))))))
theorem w_X8_hasBit_0 {S : Sp} (hS : Sys S) {Φ : Rs} {v : Kt} (hv : Cl S Φ k_X8_hasBit v) (hw : Wk v) (l0 : Int32) (l1 : Int32) (σ : St) (h : vc_X8_hasBit_0 S Φ v l0 l1 σ) : v 0 [some (aI l0), some (aI l1)] [] σ := by
  unfold vc_X8_hasBit_0 at h
  refine r_iload_n (pc := 0) hv 0 rfl rfl ?_
  refine r_if_lt (pc := 1) hv 1 rfl (fun c => ?_) (fun c => ?_)
  · replace h := h.1 c
    refine r_iconst (pc := 22) hv 13 rfl  ?_
    exact r_zreturn (pc := 23) hv 14 rfl rfl (Or.inl rfl) h
  · replace h := h.2 c
    refine r_iload_n (pc := 4) hv 2 rfl rfl ?_
    refine r_bipush (pc := 5) hv 3 rfl  ?_
    refine r_icmp_ge (pc := 7) hv 4 rfl (fun c => ?_) (fun c => ?_)
    · replace h := h.1 c
      refine r_iconst (pc := 22) hv 13 rfl  ?_
      exact r_zreturn (pc := 23) hv 14 rfl rfl (Or.inl rfl) h
    · replace h := h.2 c
      refine r_iload_n (pc := 10) hv 5 rfl rfl ?_
      refine r_iload_n (pc := 11) hv 6 rfl rfl ?_
      refine r_ishr (pc := 12) hv 7 rfl  ?_
      refine r_iconst (pc := 13) hv 8 rfl  ?_
      refine r_iand (pc := 14) hv 9 rfl  ?_
      refine r_if_eq (pc := 15) hv 10 rfl (fun c => ?_) (fun c => ?_)
      · replace h := h.1 c
        refine r_iconst (pc := 22) hv 13 rfl  ?_
        exact r_zreturn (pc := 23) hv 14 rfl rfl (Or.inl rfl) h
      · replace h := h.2 c
        refine r_iconst (pc := 18) hv 11 rfl  ?_
        refine r_goto (pc := 19) hv 12 rfl  ?_
        exact r_zreturn (pc := 23) hv 14 rfl rfl (Or.inr rfl) h
def vc_X8_rootAbove_8 (S : Sp) (Φ : Rs) (v : Kt) (l0 : Int32) (l1 : Int32) (l2 : Int32) (l3 : Int32) (σ : St) : Prop := ((12 : Int32) ≤ l3 → (Φ [aI l1] σ)) ∧ (¬ ((12 : Int32) ≤ l3) → (((l2 : Int32) ≤ l1 → (Φ [aI l1] σ)) ∧ (¬ ((l2 : Int32) ≤ l1) → (((((l1 + l2) / 2) * ((l1 + l2) / 2) : Int32) < l0 → (v 8 [some (aI l0), some (aI (((l1 + l2) / 2) + 1)), some (aI l2), some (aI (l3 + 1)), none] [] σ)) ∧ (¬ ((((l1 + l2) / 2) * ((l1 + l2) / 2) : Int32) < l0) → (v 8 [some (aI l0), some (aI l1), some (aI ((l1 + l2) / 2)), some (aI (l3 + 1)), none] [] σ))))))
theorem w_X8_rootAbove_8 {S : Sp} (hS : Sys S) {Φ : Rs} {v : Kt} (hv : Cl S Φ k_X8_rootAbove v) (hw : Wk v) (l0 : Int32) (l1 : Int32) (l2 : Int32) (l3 : Int32) (σ : St) (h : vc_X8_rootAbove_8 S Φ v l0 l1 l2 l3 σ) : v 8 [some (aI l0), some (aI l1), some (aI l2), some (aI l3), none] [] σ := by
  unfold vc_X8_rootAbove_8 at h
  refine r_iload_n (pc := 8) hv 6 rfl rfl ?_
  refine r_bipush (pc := 9) hv 7 rfl  ?_
  refine r_icmp_ge (pc := 11) hv 8 rfl (fun c => ?_) (fun c => ?_)
  · replace h := h.1 c
    refine r_iload_n (pc := 52) hv 32 rfl rfl ?_
    exact r_ireturn (pc := 53) hv 33 rfl rfl h
  · replace h := h.2 c
    refine r_iload_n (pc := 14) hv 9 rfl rfl ?_
    refine r_iload_n (pc := 15) hv 10 rfl rfl ?_
    refine r_icmp_ge (pc := 16) hv 11 rfl (fun c => ?_) (fun c => ?_)
    · replace h := h.1 c
      refine r_iload_n (pc := 52) hv 32 rfl rfl ?_
      exact r_ireturn (pc := 53) hv 33 rfl rfl h
    · replace h := h.2 c
      refine r_iload_n (pc := 19) hv 12 rfl rfl ?_
      refine r_iload_n (pc := 20) hv 13 rfl rfl ?_
      refine r_iadd (pc := 21) hv 14 rfl  ?_
      refine r_iconst (pc := 22) hv 15 rfl  ?_
      refine r_idiv (pc := 23) hv 16 rfl (by decide) ?_
      refine r_istore (pc := 24) (lo' := [some (aI l0), some (aI l1), some (aI l2), some (aI l3), some (aI ((l1 + l2) / 2))]) hv 17 rfl rfl ?_
      refine r_iload (pc := 26) hv 18 rfl rfl ?_
      refine r_iload (pc := 28) hv 19 rfl rfl ?_
      refine r_imul (pc := 30) hv 20 rfl  ?_
      refine r_iload_n (pc := 31) hv 21 rfl rfl ?_
      refine r_icmp_lt (pc := 32) hv 22 rfl (fun c => ?_) (fun c => ?_)
      · replace h := h.1 c
        refine r_iload (pc := 41) hv 26 rfl rfl ?_
        refine r_iconst (pc := 43) hv 27 rfl  ?_
        refine r_iadd (pc := 44) hv 28 rfl  ?_
        refine r_istore_n (pc := 45) (lo' := [some (aI l0), some (aI (((l1 + l2) / 2) + 1)), some (aI l2), some (aI l3), some (aI ((l1 + l2) / 2))]) hv 29 rfl rfl ?_
        refine r_iinc (pc := 46) (lo' := [some (aI l0), some (aI (((l1 + l2) / 2) + 1)), some (aI l2), some (aI (l3 + 1)), some (aI ((l1 + l2) / 2))]) hv 30 rfl rfl rfl ?_
        refine r_goto (pc := 49) hv 31 rfl  ?_
        exact hw 8 [some (aI l0), some (aI (((l1 + l2) / 2) + 1)), some (aI l2), some (aI (l3 + 1)), none] _ _ _ ⟨rfl, ⟨rfl, ⟨rfl, ⟨rfl, trivial⟩⟩⟩⟩ h
      · replace h := h.2 c
        refine r_iload (pc := 35) hv 23 rfl rfl ?_
        refine r_istore_n (pc := 37) (lo' := [some (aI l0), some (aI l1), some (aI ((l1 + l2) / 2)), some (aI l3), some (aI ((l1 + l2) / 2))]) hv 24 rfl rfl ?_
        refine r_goto (pc := 38) hv 25 rfl  ?_
        refine r_iinc (pc := 46) (lo' := [some (aI l0), some (aI l1), some (aI ((l1 + l2) / 2)), some (aI (l3 + 1)), some (aI ((l1 + l2) / 2))]) hv 30 rfl rfl rfl ?_
        refine r_goto (pc := 49) hv 31 rfl  ?_
        exact hw 8 [some (aI l0), some (aI l1), some (aI ((l1 + l2) / 2)), some (aI (l3 + 1)), none] _ _ _ ⟨rfl, ⟨rfl, ⟨rfl, ⟨rfl, trivial⟩⟩⟩⟩ h
def vc_X8_rootAbove_0 (S : Sp) (Φ : Rs) (v : Kt) (l0 : Int32) (σ : St) : Prop := v 8 [some (aI l0), some (aI 0), some (aI 2000), some (aI 0), none] [] σ
theorem w_X8_rootAbove_0 {S : Sp} (hS : Sys S) {Φ : Rs} {v : Kt} (hv : Cl S Φ k_X8_rootAbove v) (hw : Wk v) (l0 : Int32) (σ : St) (h : vc_X8_rootAbove_0 S Φ v l0 σ) : v 0 [some (aI l0), none, none, none, none] [] σ := by
  unfold vc_X8_rootAbove_0 at h
  refine r_iconst (pc := 0) hv 0 rfl  ?_
  refine r_istore_n (pc := 1) (lo' := [some (aI l0), some (aI 0), none, none, none]) hv 1 rfl rfl ?_
  refine r_sipush (pc := 2) hv 2 rfl  ?_
  refine r_istore_n (pc := 5) (lo' := [some (aI l0), some (aI 0), some (aI 2000), none, none]) hv 3 rfl rfl ?_
  refine r_iconst (pc := 6) hv 4 rfl  ?_
  refine r_istore_n (pc := 7) (lo' := [some (aI l0), some (aI 0), some (aI 2000), some (aI 0), none]) hv 5 rfl rfl ?_
  exact h
