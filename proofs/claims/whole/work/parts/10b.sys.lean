/-! what the pure side may use: a predicate on calls, monotone, closed under the methods' code -/
def Sys (S : Sp) : Prop := SpM S ∧ (∀ (q : Nat) (M : MI) (kc : List Ent) (av : List AV) (σ : St) (Φ : Rs), mktab[q]? = some (M, kc) → (lay av).length ≤ M.2.2.1 → (∀ v : Kt, Cl S Φ kc v → Wk v → v 0 (ent0 M.2.2.1 av) [] σ) → S q av σ Φ)
def Mt (l : Launch) (D : va_G) (cy : Nat → ClassId) (ad : Nat → Nat) (A : Nat → Prop) : Sp := fun q av σ Φ => ∀ M, mtab[q]? = some M → MetV l D cy ad A M av σ Φ
theorem MetV_mono {l : Launch} {D : va_G} {cy : Nat → ClassId} {ad : Nat → Nat} {A : Nat → Prop} {M : MI} {av : List AV} {σ : St} {Φ Φ' : Rs} (hΦ : ∀ r σ', Φ r σ' → Φ' r σ') (h : MetV l D cy ad A M av σ Φ) : MetV l D cy ad A M av σ Φ' := by
  unfold MetV Met at h ⊢
  refine MetFree.mono h (fun a s q => q) (fun _ _ _ _ _ q => q) (fun a s o t hp q => ⟨⟨?_, q.1.2⟩, q.2⟩)
  obtain ⟨r, σ', h1, h2, h3, h4⟩ := q.1.1
  exact ⟨r, σ', h1, h2, hΦ r σ' h3, h4⟩
