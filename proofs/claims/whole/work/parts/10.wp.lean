/-! the locals at a method's entry -/
def lay : List AV → Lo
  | [] => []
  | .inr (.inl x) :: t => some (aL x) :: none :: lay t
  | .inl x :: t => some (aI x) :: lay t
  | .inr (.inr x) :: t => some (aR x) :: lay t
def pad : Nat → Lo → Lo
  | 0, _ => []
  | n + 1, [] => none :: pad n []
  | n + 1, a :: t => a :: pad n t
def ent0 (nL : Nat) (av : List AV) : Lo := pad nL (lay av)
theorem pad_e : ∀ (n : Nat) (lo : Lo), lo.length ≤ n → pad n lo = lo ++ List.replicate (n - lo.length) none
  | 0, [], _ => rfl
  | 0, _ :: _, h => absurd h (by simp)
  | n + 1, [], _ => by
    have := pad_e n [] (Nat.zero_le n)
    simp only [pad, this]
    simp [List.replicate_succ]
  | n + 1, a :: t, h => by
    have := pad_e n t (by simpa using h)
    simp only [pad, this]
    simp
theorem lay_len {ad : Nat → Nat} : ∀ av : List AV, (lg_sl (av.map (cv ad))).length = (lay av).length
  | [] => rfl
  | .inr (.inl x) :: t => by
    have := lay_len (ad := ad) t
    simp only [List.map_cons, lay, List.length_cons, ← this]
    simp [lg_sl, cv, Value.category]
  | .inl x :: t => by
    have := lay_len (ad := ad) t
    simp only [List.map_cons, lay, List.length_cons, ← this]
    simp [lg_sl, cv, Value.category]
  | .inr (.inr x) :: t => by
    have := lay_len (ad := ad) t
    simp only [List.map_cons, lay, List.length_cons, ← this]
    simp [lg_sl, cv, Value.category]
theorem prs_nil {ad : Nat → Nat} : ∀ (n i : Nat), prs ad i (List.replicate n none) = []
  | 0, i => rfl
  | n + 1, i => by rw [List.replicate_succ]; exact prs_nil n (i + 1)
theorem prs_lay {ad : Nat → Nat} {n : Nat} : ∀ (av : List AV) (i : Nat), prs ad i (lay av ++ List.replicate n none) = lv_args i (av.map (cv ad))
  | [], i => prs_nil n i
  | .inr (.inl x) :: t, i => by
    have := prs_lay (ad := ad) (n := n) t (i + 1 + 1)
    simp only [lay, List.cons_append, prs, List.map_cons, lv_args, this]
    simp [cv, Value.category]
  | .inl x :: t, i => by
    have := prs_lay (ad := ad) (n := n) t (i + 1)
    simp only [lay, List.cons_append, prs, List.map_cons, lv_args, this]
    simp [cv, Value.category]
  | .inr (.inr x) :: t, i => by
    have := prs_lay (ad := ad) (n := n) t (i + 1)
    simp only [lay, List.cons_append, prs, List.map_cons, lv_args, this]
    simp [cv, Value.category]
/-- what a frame's judgement is closed under: its instructions -/
def Cl (S : Sp) (Φ : Rs) (kc : List Ent) (v : Kt) : Prop := ∀ en ∈ kc, ∀ lo st σ, sem S Φ v en lo st σ → v en.1 lo st σ
def okK (M : MI) (kc : List Ent) : Bool := okM M && kc.all (okE M.1.cls M.2.1 M.2.2.1 M.2.2.2.2.2.1 M.2.2.2.2.2.2.1 M.2.2.2.1)
set_option maxHeartbeats 1000000 in
theorem met_of {l : Launch} {D : va_G} {cy : Nat → ClassId} {ad : Nat → Nat} {A : Nat → Prop} {M : MI} {kc : List Ent} (hok : okK M kc = true) {S : Sp} (hSp : SpH l D cy ad A S) (hAp : Apart ad A) {av : List AV} {σ : St} {Φ : Rs} (hlen : (lay av).length ≤ M.2.2.1)
    (h : ∀ v : Kt, Cl S Φ kc v → v 0 (ent0 M.2.2.1 av) [] σ) : MetV l D cy ad A M av σ Φ := by
  simp only [okK, Bool.and_eq_true, List.all_eq_true] at hok
  obtain ⟨hokM, hokE⟩ := hok
  obtain ⟨g1, -, -, g4, g5, g6⟩ := okM_e hokM
  refine Met.ofW (cc := M.2.1) (maxL := M.2.2.1) (ret := M.2.2.2.1) g6 rfl ?_
  intro p e s m args below meth c s₁ B hml hv
  obtain ⟨rfl, hP, hK, hE⟩ := hv
  have hx := B.exec
  have hb := B.bytes
  have hr := B.returns
  have hts := atoms_spec (ws := wsM M) B.pre
  have hown : s.vm.findClass M.1.cls = some m.cls := findClass_of_methodNamed B.named
  have hlocks := B.notSynchronized
  have C : Cx D cy ad A M.2.2.1 p (rmM M) s m (av.map (cv ad)).toArray c 0 0 M.1.cls M.2.1 := ⟨hx, hb, hml, hown, fun w hw => hts w (List.mem_cons_of_mem _ hw), hK, hAp, hE, Nat.le_refl _, Nat.le_refl _⟩
  have hl := lv_entry (av.map (cv ad)) (n := M.2.2.1) (by rw [lay_len]; exact hlen)
  rw [lg_entry_eq]
  generalize (lg_sl (av.map (cv ad)) ++ List.replicate (M.2.2.1 - (lg_sl (av.map (cv ad))).length) Slot.unset).toArray = ls at hl ⊢
  have hl' : lv_has ls M.2.2.1 (prs ad 0 (ent0 M.2.2.1 av)) := by
    unfold ent0
    rw [pad_e _ _ hlen, prs_lay]
    exact hl
  have hR : RetH M.2.2.2.1 M.2.1 Φ (Vd D cy ad A M.2.2.1 p l e (rmM M) s m (av.map (cv ad)).toArray below meth c 0 0 (MQ below (fun _ => Post D cy ad A Φ) (av.map (cv ad)).toArray s 0 0 A)) := by
    refine ⟨fun pc lo x σ hd ⟨ty, h1, h2⟩ hΦ => ?_, fun pc lo x σ hd h1 hΦ => ?_, fun pc lo a σ hd ⟨ty, h1, h2⟩ hΦ => ?_, fun pc lo σ hd h1 hΦ => ?_⟩
    · intro H locs ls hP hS hl
      exact W.zret hx hb (hr.trans h1) h2 (fun t ht hW => ⟨⟨[aI x], σ, by simp, rfl, hΦ, by rw [ht]; exact hP⟩, hS.F ht⟩) hS.2.2 hd
    · intro H locs ls hP hS hl
      exact W.lret hx hb (hr.trans h1) (fun t ht hW => ⟨⟨[aL x], σ, by simp, rfl, hΦ, by rw [ht]; exact hP⟩, hS.F ht⟩) hS.2.2 hd
    · intro H locs ls hP hS hl
      exact W.aret hx hb (hr.trans h1) h2 (Or.inr ⟨ad a, rfl⟩) (fun t ht hW => ⟨⟨[aR a], σ, by simp, rfl, hΦ, by rw [ht]; exact hP⟩, hS.F ht⟩) hS.2.2 hd
    · intro H locs ls hP hS hl
      exact W.vret hx hb (hr.trans h1) (fun t ht hW => ⟨⟨[], σ, by simp, rfl, hΦ, by rw [ht]; exact hP⟩, hS.F ht⟩) hS.2.2 hd
  have hV := h (Vd D cy ad A M.2.2.1 p l e (rmM M) s m (av.map (cv ad)).toArray below meth c 0 0 (MQ below (fun _ => Post D cy ad A Φ) (av.map (cv ad)).toArray s 0 0 A)) (fun en hen lo st σ hs => sem_sound C hSp hR (Nat.le_refl _) (Nat.le_refl _) (hokE en hen) hs)
  exact hV s.heap [] ls hP va_S.rf hl'
/-! monotony -/
theorem gI_m {k k' : Int32 → Prop} (h : ∀ x, k x → k' x) : ∀ {lo : Lo} {i : Nat}, gI k lo i → gI k' lo i
  | [], i, g => g
  | some (.inl x) :: t, 0, g => h x g
  | some (.inr x) :: t, 0, g => g
  | none :: t, 0, g => g
  | a :: t, n + 1, g => by
    have := gI_m h (lo := t) (i := n) (by simpa [gI] using g)
    simpa [gI] using this
theorem gL_m {k k' : Int64 → Prop} (h : ∀ x, k x → k' x) : ∀ {lo : Lo} {i : Nat}, gL k lo i → gL k' lo i
  | [], i, g => g
  | some (.inr (.inl x)) :: t, 0, g => h x g
  | some (.inl x) :: t, 0, g => g
  | some (.inr (.inr x)) :: t, 0, g => g
  | none :: t, 0, g => g
  | a :: t, n + 1, g => by
    have := gL_m h (lo := t) (i := n) (by simpa [gL] using g)
    simpa [gL] using this
theorem gR_m {k k' : Nat → Prop} (h : ∀ x, k x → k' x) : ∀ {lo : Lo} {i : Nat}, gR k lo i → gR k' lo i
  | [], i, g => g
  | some (.inr (.inr x)) :: t, 0, g => h x g
  | some (.inl x) :: t, 0, g => g
  | some (.inr (.inl x)) :: t, 0, g => g
  | none :: t, 0, g => g
  | a :: t, n + 1, g => by
    have := gR_m h (lo := t) (i := n) (by simpa [gR] using g)
    simpa [gR] using this
theorem q1_m {st : List AV} {k k' : Int32 → List AV → Prop} (h : ∀ x t, k x t → k' x t) (g : q1 st k) : q1 st k' := by
  obtain ⟨x, t, rfl, g⟩ := q1_e g; exact h _ _ g
theorem q2_m {st : List AV} {k k' : Int32 → Int32 → List AV → Prop} (h : ∀ x y t, k x y t → k' x y t) (g : q2 st k) : q2 st k' := by
  obtain ⟨x, y, t, rfl, g⟩ := q2_e g; exact h _ _ _ g
theorem qL_m {st : List AV} {k k' : Int64 → List AV → Prop} (h : ∀ x t, k x t → k' x t) (g : qL st k) : qL st k' := by
  obtain ⟨x, t, rfl, g⟩ := qL_e g; exact h _ _ g
theorem qLL_m {st : List AV} {k k' : Int64 → Int64 → List AV → Prop} (h : ∀ x y t, k x y t → k' x y t) (g : qLL st k) : qLL st k' := by
  obtain ⟨x, y, t, rfl, g⟩ := qLL_e g; exact h _ _ _ g
theorem qIL_m {st : List AV} {k k' : Int64 → Int32 → List AV → Prop} (h : ∀ x y t, k x y t → k' x y t) (g : qIL st k) : qIL st k' := by
  obtain ⟨x, y, t, rfl, g⟩ := qIL_e g; exact h _ _ _ g
theorem qR_m {st : List AV} {k k' : Nat → List AV → Prop} (h : ∀ a t, k a t → k' a t) (g : qR st k) : qR st k' := by
  obtain ⟨a, t, rfl, g⟩ := qR_e g; exact h _ _ g
theorem qIR_m {st : List AV} {k k' : Nat → Int32 → List AV → Prop} (h : ∀ a i t, k a i t → k' a i t) (g : qIR st k) : qIR st k' := by
  obtain ⟨a, i, t, rfl, g⟩ := qIR_e g; exact h _ _ _ g
theorem qIV_m {st : List AV} {k k' : Nat → Int32 → List AV → Prop} (h : ∀ a i t, k a i t → k' a i t) (g : qIV st k) : qIV st k' := by
  obtain ⟨a, i, t, rfl, g⟩ := qIV_e g; exact h _ _ _ g
theorem qIIR_m {st : List AV} {k k' : Nat → Int32 → Int32 → List AV → Prop} (h : ∀ a i x t, k a i x t → k' a i x t) (g : qIIR st k) : qIIR st k' := by
  obtain ⟨a, i, x, t, rfl, g⟩ := qIIR_e g; exact h _ _ _ _ g
theorem qLIR_m {st : List AV} {k k' : Nat → Int32 → Int64 → List AV → Prop} (h : ∀ a i x t, k a i x t → k' a i x t) (g : qLIR st k) : qLIR st k' := by
  obtain ⟨a, i, x, t, rfl, g⟩ := qLIR_e g; exact h _ _ _ _ g
theorem qC_m {st : List AV} {k k' : Nat → Int32 → Nat → Int32 → Int32 → List AV → Prop} (h : ∀ a sp b dp n t, k a sp b dp n t → k' a sp b dp n t) (g : qC st k) : qC st k' := by
  obtain ⟨a, sp, b, dp, n, t, rfl, g⟩ := qC_e g; exact h _ _ _ _ _ _ g
theorem br_m {c : ClassFile.Cond} {x y : Int32} {a a' b b' : Prop} (h1 : a → a') (h2 : b → b') (g : br c x y a b) : br c x y a' b' := by
  cases c <;> exact ⟨fun q => h1 (g.1 q), fun q => h2 (g.2 q)⟩
theorem swT_m {pc : Nat} {k k' : Nat → Prop} {x : Int32} (h : ∀ q, k q → k' q) : ∀ {os : List Int} {lo : Int}, swT pc k x lo os → swT pc k' x lo os
  | [], lo, g => trivial
  | o :: t, lo, g => ⟨fun q => h _ (g.1 q), swT_m h g.2⟩
theorem swL_m {pc : Nat} {k k' : Nat → Prop} {x : Int32} {d : Int} (h : ∀ q, k q → k' q) : ∀ {ps : List (Int × Int)}, swL pc k x d ps → swL pc k' x d ps
  | [], g => h _ g
  | o :: t, g => ⟨fun q => h _ (g.1 q), fun q => swL_m h (g.2 q)⟩
theorem bif_m {c : Bool} {a a' b b' : Prop} (h1 : a → a') (h2 : b → b') (h : bif c then a else b) : bif c then a' else b' := by
  cases c
  · exact h2 h
  · exact h1 h
def SpM (S : Sp) : Prop := ∀ q av σ (Φ Φ' : Rs), (∀ r σ', Φ r σ' → Φ' r σ') → S q av σ Φ → S q av σ Φ'
set_option maxHeartbeats 4000000 in
theorem sem_mono {S : Sp} (hS : SpM S) {Φ : Rs} {K K' : Kt} (hK : ∀ pc lo st σ, K pc lo st σ → K' pc lo st σ) {en : Ent} {lo : Lo} {st : List AV} {σ : St} (h : sem S Φ K en lo st σ) : sem S Φ K' en lo st σ := by
  obtain ⟨pc, i, len, x1, x2, x3, x4, zi, zl⟩ := en
  cases i <;> simp only [sem] at h ⊢ <;> first
    | exact h
    | exact hK _ _ _ _ h
    | exact gI_m (fun x => hK _ _ _ _) h
    | exact gL_m (fun x => hK _ _ _ _) h
    | exact gR_m (fun x => hK _ _ _ _) h
    | exact q1_m (fun x t => hK _ _ _ _) h
    | exact q2_m (fun x y t => hK _ _ _ _) h
    | exact q2_m (fun x y t => And.imp id (hK _ _ _ _)) h
    | exact qL_m (fun x t => hK _ _ _ _) h
    | exact qLL_m (fun x y t => hK _ _ _ _) h
    | exact qIL_m (fun x y t => hK _ _ _ _) h
    | exact qR_m (fun x t => hK _ _ _ _) h
    | exact q1_m (fun x t => br_m (hK _ _ _ _) (hK _ _ _ _)) h
    | exact q2_m (fun x y t => br_m (hK _ _ _ _) (hK _ _ _ _)) h
    | exact q1_m (fun x t => And.imp (fun g q => hK _ _ _ _ (g q)) (swT_m (fun q => hK _ _ _ _))) h
    | exact q1_m (fun x t => swL_m (fun q => hK _ _ _ _)) h
    | exact qIV_m (fun a x t g => ⟨g.1, bif_m (And.imp id (hK _ _ _ _)) (hK _ _ _ _) g.2⟩) h
    | exact qIR_m (fun a i t => And.imp id (And.imp id (hK _ _ _ _))) h
    | exact qIIR_m (fun a i x t => And.imp id (And.imp id (hK _ _ _ _))) h
    | exact qLIR_m (fun a i x t => And.imp id (And.imp id (hK _ _ _ _))) h
    | exact qR_m (fun a t => And.imp id (hK _ _ _ _)) h
    | exact qR_m (fun a t g => ⟨g.1, bif_m (hK _ _ _ _) (hK _ _ _ _) g.2⟩) h
    | exact bif_m (hK _ _ _ _) (hK _ _ _ _) h
    | (split at h
       · exact ⟨h.1, hK _ _ _ _ h.2⟩
       · exact h.elim)
    | (split at h
       · exact ⟨h.1, h.2.1, hK _ _ _ _ h.2.2⟩
       · exact h.elim)
    | exact spl_m (fun av st => qR_m (fun a t g => ⟨g.1, g.2.1, hS _ _ _ _ _ (fun r σ' => hK _ _ _ _) g.2.2⟩)) h
    | exact bif_m (qC_m (fun a sp b dp n t g => ⟨g.1, g.2.1, g.2.2.1, g.2.2.2.1, g.2.2.2.2.1, g.2.2.2.2.2.1, g.2.2.2.2.2.2.1, hK _ _ _ _ g.2.2.2.2.2.2.2⟩)) (bif_m (qC_m (fun a sp b dp n t g => ⟨g.1, g.2.1, g.2.2.1, g.2.2.2.1, g.2.2.2.2.1, g.2.2.2.2.2.1, g.2.2.2.2.2.2.1, hK _ _ _ _ g.2.2.2.2.2.2.2⟩)) (bif_m (q2_m (fun x y t => And.imp id (hK _ _ _ _))) (bif_m (q2_m (fun x y t => And.imp id (hK _ _ _ _))) (bif_m (q1_m (fun x t => And.imp id (hK _ _ _ _))) (spl_m (fun av t g => ⟨g.1, hS _ _ _ _ _ (fun r σ' => hK _ _ _ _) g.2⟩)))))) h
def fnd (pc : Nat) : List Ent → List Ent
  | [] => []
  | en :: t => bif en.1 == pc then en :: t else fnd pc t
theorem fnd_e {pc : Nat} {en : Ent} {t : List Ent} : ∀ {kc : List Ent}, fnd pc kc = en :: t → en ∈ kc ∧ en.1 = pc ∧ ∀ x ∈ t, x ∈ kc
  | [], h => by cases h
  | a :: k, h => by
    simp only [fnd] at h
    cases q : (a.1 == pc) with
    | true =>
      rw [q] at h
      cases h
      exact ⟨List.mem_cons_self, beq_iff_eq.mp q, fun x hx => List.mem_cons_of_mem _ hx⟩
    | false =>
      rw [q] at h
      obtain ⟨h1, h2, h3⟩ := fnd_e (kc := k) h
      exact ⟨List.mem_cons_of_mem _ h1, h2, fun x hx => List.mem_cons_of_mem _ (h3 x hx)⟩
def mb (pc : Nat) : List Nat → Bool
  | [] => false
  | a :: t => bif a == pc then true else mb pc t
/-- what a place asks, some instructions on; it stops at the places 'sp' -/
def wp (S : Sp) (Φ : Rs) (v : Kt) (kc : List Ent) (sp : List Nat) : Nat → List Ent → Nat → Lo → List AV → St → Prop
  | 0, _, pc, lo, st, σ => v pc lo st σ
  | n + 1, [], pc, lo, st, σ => bif mb pc sp then v pc lo st σ else match fnd pc kc with
    | en :: tl => sem S Φ (wp S Φ v kc sp n tl) en lo st σ
    | [] => v pc lo st σ
  | n + 1, en :: tl, pc, lo, st, σ => bif mb pc sp then v pc lo st σ else bif en.1 == pc then sem S Φ (wp S Φ v kc sp n tl) en lo st σ else match fnd pc kc with
    | en :: tl => sem S Φ (wp S Φ v kc sp n tl) en lo st σ
    | [] => v pc lo st σ
theorem wp_sound {S : Sp} (hS : SpM S) {Φ : Rs} {v : Kt} {kc : List Ent} (hv : Cl S Φ kc v) {sp : List Nat} : ∀ (n : Nat) (cs : List Ent), (∀ x ∈ cs, x ∈ kc) → ∀ pc lo st σ, wp S Φ v kc sp n cs pc lo st σ → v pc lo st σ
  | 0, cs, hcs, pc, lo, st, σ, h => by simpa only [wp] using h
  | n + 1, cs, hcs, pc, lo, st, σ, h => by
    have hf : (match fnd pc kc with
      | en :: tl => sem S Φ (wp S Φ v kc sp n tl) en lo st σ
      | [] => v pc lo st σ) → v pc lo st σ := by
      intro h
      split at h
      · rename_i en tl he
        obtain ⟨h1, h2, h3⟩ := fnd_e he
        rw [← h2]
        exact hv en h1 lo st σ (sem_mono hS (wp_sound hS hv n tl h3) h)
      · exact h
    cases cs with
    | nil =>
      simp only [wp] at h
      cases q : mb pc sp with
      | true => rw [q] at h; exact h
      | false => rw [q] at h; exact hf h
    | cons en tl =>
      simp only [wp] at h
      cases q : mb pc sp with
      | true => rw [q] at h; exact h
      | false =>
        rw [q] at h
        cases r : (en.1 == pc) with
        | true =>
          rw [r] at h
          have he : en.1 = pc := beq_iff_eq.mp r
          rw [← he]
          exact hv en (hcs en List.mem_cons_self) lo st σ (sem_mono hS (wp_sound hS hv n tl (fun x hx => hcs x (List.mem_cons_of_mem _ hx))) h)
        | false => rw [r] at h; exact hf h
theorem wp0 {S : Sp} (hS : SpM S) {Φ : Rs} {v : Kt} {kc : List Ent} (hv : Cl S Φ kc v) (sp : List Nat) (n pc : Nat) {lo : Lo} {st : List AV} {σ : St} (h : wp S Φ v kc sp n (fnd pc kc) pc lo st σ) : v pc lo st σ :=
  wp_sound hS hv n (fnd pc kc) (fun x hx => by
    have : ∀ (k : List Ent), ∀ x ∈ fnd pc k, x ∈ k := by
      intro k
      induction k with
      | nil => exact fun x hx => hx
      | cons a k ih =>
        intro x hx
        simp only [fnd] at hx
        cases q : (a.1 == pc) with
        | true => rw [q] at hx; exact hx
        | false => rw [q] at hx; exact List.mem_cons_of_mem _ (ih x hx)
    exact this kc x hx) pc lo st σ h
