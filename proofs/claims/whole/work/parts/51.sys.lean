/-! the machine's methods are such a system -/
set_option maxRecDepth 100000 in
theorem mt_e : mtab = mktab.map Prod.fst ++ mtab.drop 242 := by
  unfold mktab mk1 mk2 mk3 mk4 mk5
  rfl
theorem mt_fst {q : Nat} {M : MI} {kc : List Ent} (h : mktab[q]? = some (M, kc)) : mtab[q]? = some M := by
  have e := mt_e
  have hq : q < mktab.length := (List.getElem?_eq_some_iff.mp h).1
  rw [e, List.getElem?_append_left (by rw [List.length_map]; exact hq), List.getElem?_map, h]; rfl
theorem mk_ok : ∀ x ∈ mktab, okK x.1 x.2 = true := fun x hx => by
  unfold mktab at hx
  simp only [List.mem_append] at hx
  rcases hx with (((h | h) | h) | h) | h
  · exact mk1_ok x h
  · exact mk2_ok x h
  · exact mk3_ok x h
  · exact mk4_ok x h
  · exact mk5_ok x h
theorem sys_Mt {l : Launch} {D : va_G} {cy : Nat → ClassId} {ad : Nat → Nat} {A : Nat → Prop} (hAp : Apart ad A) : Sys (Mt l D cy ad A) :=
  ⟨fun q av σ Φ Φ' hΦ h M hM => MetV_mono hΦ (h M hM), fun q M kc av σ Φ hq hlen h M' hM' => by
    have e := Option.some.inj ((mt_fst hq).symm.trans hM')
    subst e
    exact met_of (mk_ok _ (List.mem_of_getElem? hq)) (fun q av σ Φ M hM hS => hS M hM) hAp hlen h⟩
