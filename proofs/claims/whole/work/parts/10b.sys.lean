/-! what the pure side may use: a predicate on calls, monotone, closed under the methods' code -/
def Sys (S : Sp) : Prop := SpM S ∧ (∀ (q : Nat) (M : MI) (kc : List Ent) (av : List AV) (σ : St) (Φ : Rs), mktab[q]? = some (M, kc) → (lay av).length ≤ M.2.2.1 → (∀ v : Kt, Cl S Φ kc v → v 0 (ent0 M.2.2.1 av) [] σ) → S q av σ Φ)
theorem sem_S {S S1 : Sp} (h1 : ∀ q av σ Φ, S1 q av σ Φ → S q av σ Φ) {Φ : Rs} {K : Kt} {en : Ent} {lo : Lo} {st : List AV} {σ : St} (h : sem S1 Φ K en lo st σ) : sem S Φ K en lo st σ := by
  obtain ⟨pc, i, len, x1, x2, x3, x4, zi, zl⟩ := en
  cases i <;> simp only [sem] at h ⊢ <;> first
    | exact h
    | exact spl_m (fun av st => qR_m (fun a t g => ⟨g.1, g.2.1, h1 _ _ _ _ g.2.2⟩)) h
    | exact bif_m id (bif_m id (bif_m id (bif_m id (bif_m id (spl_m (fun av t g => ⟨g.1, h1 _ _ _ _ g.2⟩)))))) h
/-- a method, from the conditions of its code -/
theorem go {S S1 : Sp} (hS : Sys S) (h1 : ∀ q av σ Φ, S1 q av σ Φ → S q av σ Φ) (hm : SpM S1) (q : Nat) {M : MI} {kc : List Ent} (ht : mktab[q]? = some (M, kc)) {av : List AV} {σ : St} {Φ : Rs} (hl : (lay av).length ≤ M.2.2.1)
    (h : ∀ v : Kt, (∀ (sp : List Nat) (n pc : Nat) (lo : Lo) (st : List AV) (σ : St), wp S1 Φ v kc sp n (fnd pc kc) pc lo st σ → v pc lo st σ) → v 0 (ent0 M.2.2.1 av) [] σ) : S q av σ Φ :=
  hS.2 q M kc av σ Φ ht hl (fun v hv => h v (fun sp n pc lo st σ => wp0 hm (fun en hen lo st σ hs => hv en hen lo st σ (sem_S h1 hs)) sp n pc))
def Mt (l : Launch) (D : va_G) (cy : Nat → ClassId) (ad : Nat → Nat) (A : Nat → Prop) : Sp := fun q av σ Φ => ∀ M, mtab[q]? = some M → MetV l D cy ad A M av σ Φ
theorem MetV_mono {l : Launch} {D : va_G} {cy : Nat → ClassId} {ad : Nat → Nat} {A : Nat → Prop} {M : MI} {av : List AV} {σ : St} {Φ Φ' : Rs} (hΦ : ∀ r σ', Φ r σ' → Φ' r σ') (h : MetV l D cy ad A M av σ Φ) : MetV l D cy ad A M av σ Φ' := by
  unfold MetV Met at h ⊢
  refine MetFree.mono h (fun a s q => q) (fun _ _ _ _ _ q => q) (fun a s o t hp q => ⟨⟨?_, q.1.2⟩, q.2⟩)
  obtain ⟨r, σ', h1, h2, h3, h4⟩ := q.1.1
  exact ⟨r, σ', h1, h2, hΦ r σ' h3, h4⟩
