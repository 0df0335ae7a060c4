/-! the locals at a method's entry -/
def lay : List AV → Lo
  | [] => []
  | .inr (.inl x) :: t => some (aL x) :: none :: lay t
  | .inl x :: t => some (aI x) :: lay t
  | .inr (.inr x) :: t => some (aR x) :: lay t
def pad : Nat → Lo → Lo
  | 0, _ => []
  | n + 1, [] => none :: pad n []
  | n + 1, a :: t => a :: pad n t
def ent0 (nL : Nat) (av : List AV) : Lo := pad nL (lay av)
theorem pad_e : ∀ (n : Nat) (lo : Lo), lo.length ≤ n → pad n lo = lo ++ List.replicate (n - lo.length) none
  | 0, [], _ => rfl
  | 0, _ :: _, h => absurd h (by simp)
  | n + 1, [], _ => by
    have := pad_e n [] (Nat.zero_le n)
    simp only [pad, this]
    simp [List.replicate_succ]
  | n + 1, a :: t, h => by
    have := pad_e n t (by simpa using h)
    simp only [pad, this]
    simp
theorem lay_len {ad : Nat → Nat} : ∀ av : List AV, (lg_sl (av.map (cv ad))).length = (lay av).length
  | [] => rfl
  | .inr (.inl x) :: t => by
    have := lay_len (ad := ad) t
    simp only [List.map_cons, lay, List.length_cons, ← this]
    simp [lg_sl, cv, Value.category]
  | .inl x :: t => by
    have := lay_len (ad := ad) t
    simp only [List.map_cons, lay, List.length_cons, ← this]
    simp [lg_sl, cv, Value.category]
  | .inr (.inr x) :: t => by
    have := lay_len (ad := ad) t
    simp only [List.map_cons, lay, List.length_cons, ← this]
    simp [lg_sl, cv, Value.category]
theorem prs_nil {ad : Nat → Nat} : ∀ (n i : Nat), prs ad i (List.replicate n none) = []
  | 0, i => rfl
  | n + 1, i => by rw [List.replicate_succ]; exact prs_nil n (i + 1)
theorem prs_lay {ad : Nat → Nat} {n : Nat} : ∀ (av : List AV) (i : Nat), prs ad i (lay av ++ List.replicate n none) = lv_args i (av.map (cv ad))
  | [], i => prs_nil n i
  | .inr (.inl x) :: t, i => by
    have := prs_lay (ad := ad) (n := n) t (i + 1 + 1)
    simp only [lay, List.cons_append, prs, List.map_cons, lv_args, this]
    simp [cv, Value.category]
  | .inl x :: t, i => by
    have := prs_lay (ad := ad) (n := n) t (i + 1)
    simp only [lay, List.cons_append, prs, List.map_cons, lv_args, this]
    simp [cv, Value.category]
  | .inr (.inr x) :: t, i => by
    have := prs_lay (ad := ad) (n := n) t (i + 1)
    simp only [lay, List.cons_append, prs, List.map_cons, lv_args, this]
    simp [cv, Value.category]
/-- what a frame's judgement is closed under: its instructions -/
def Cl (S : Sp) (Φ : Rs) (kc : List Ent) (v : Kt) : Prop := ∀ en ∈ kc, ∀ lo st σ, sem S Φ v en lo st σ → v en.1 lo st σ
/-- less is known of the locals -/
def lw : Lo → Lo → Prop
  | [], [] => True
  | none :: a, _ :: b => lw a b
  | some x :: a, some y :: b => x = y ∧ lw a b
  | _, _ => False
def Wk (v : Kt) : Prop := ∀ pc (lo' lo : Lo) st σ, lw lo' lo → v pc lo' st σ → v pc lo st σ
theorem prs_lw {ad : Nat → Nat} : ∀ {a b : Lo} {i : Nat} {q : Nat × Value}, lw a b → q ∈ prs ad i a → q ∈ prs ad i b
  | [], [], i, q, h, hq => hq
  | [], _ :: _, i, q, h, hq => by simp [prs] at hq
  | none :: a, [], i, q, h, hq => by simp [lw] at h
  | some x :: a, [], i, q, h, hq => by simp [lw] at h
  | none :: a, none :: b, i, q, h, hq => prs_lw (a := a) (b := b) (i := i + 1) (by simpa [lw] using h) hq
  | none :: a, some y :: b, i, q, h, hq => List.mem_cons_of_mem _ (prs_lw (a := a) (b := b) (i := i + 1) (by simpa [lw] using h) hq)
  | some x :: a, none :: b, i, q, h, hq => by simp [lw] at h
  | some x :: a, some y :: b, i, q, h, hq => by
    obtain ⟨h1, h2⟩ : x = y ∧ lw a b := by simpa [lw] using h
    subst h1
    rcases List.mem_cons.mp hq with g | g
    · rw [g]; exact List.mem_cons_self
    · exact List.mem_cons_of_mem _ (prs_lw h2 g)
def okK (M : MI) (kc : List Ent) : Bool := okM M && kc.all (okE M.1.cls M.2.1 M.2.2.1 M.2.2.2.2.2.1 M.2.2.2.2.2.2.1 M.2.2.2.1)
set_option maxHeartbeats 1000000 in
theorem met_of {l : Launch} {D : va_G} {cy : Nat → ClassId} {ad : Nat → Nat} {A : Nat → Prop} {M : MI} {kc : List Ent} (hok : okK M kc = true) {S : Sp} (hSp : SpH l D cy ad A S) (hAp : Apart ad A) {av : List AV} {σ : St} {Φ : Rs} (hlen : (lay av).length ≤ M.2.2.1)
    (h : ∀ v : Kt, Cl S Φ kc v → Wk v → v 0 (ent0 M.2.2.1 av) [] σ) : MetV l D cy ad A M av σ Φ := by
  simp only [okK, Bool.and_eq_true, List.all_eq_true] at hok
  obtain ⟨hokM, hokE⟩ := hok
  obtain ⟨g1, -, -, g4, g5, g6⟩ := okM_e hokM
  refine Met.ofW (cc := M.2.1) (maxL := M.2.2.1) (ret := M.2.2.2.1) g6 rfl ?_
  intro p e s m args below meth c s₁ B hml hv
  obtain ⟨rfl, hP, hK, hE⟩ := hv
  have hx := B.exec
  have hb := B.bytes
  have hr := B.returns
  have hts := atoms_spec (ws := wsM M) B.pre
  have hown : s.vm.findClass M.1.cls = some m.cls := findClass_of_methodNamed B.named
  have hlocks := B.notSynchronized
  have C : Cx D cy ad A M.2.2.1 p (rmM M) s m (av.map (cv ad)).toArray c 0 0 M.1.cls M.2.1 := ⟨hx, hb, hml, hown, fun w hw => hts w (List.mem_cons_of_mem _ hw), hK, hAp, hE, Nat.le_refl _, Nat.le_refl _⟩
  have hl := lv_entry (av.map (cv ad)) (n := M.2.2.1) (by rw [lay_len]; exact hlen)
  rw [lg_entry_eq]
  generalize (lg_sl (av.map (cv ad)) ++ List.replicate (M.2.2.1 - (lg_sl (av.map (cv ad))).length) Slot.unset).toArray = ls at hl ⊢
  have hl' : lv_has ls M.2.2.1 (prs ad 0 (ent0 M.2.2.1 av)) := by
    unfold ent0
    rw [pad_e _ _ hlen, prs_lay]
    exact hl
  have hR : RetH M.2.2.2.1 M.2.1 Φ (Vd D cy ad A M.2.2.1 p l e (rmM M) s m (av.map (cv ad)).toArray below meth c 0 0 (MQ below (fun _ => Post D cy ad A Φ) (av.map (cv ad)).toArray s 0 0 A)) := by
    refine ⟨fun pc lo x σ hd ⟨ty, h1, h2⟩ hΦ => ?_, fun pc lo x σ hd h1 hΦ => ?_, fun pc lo a σ hd ⟨ty, h1, h2⟩ hΦ => ?_, fun pc lo σ hd h1 hΦ => ?_⟩
    · intro H locs ls hP hS hl
      exact W.zret hx hb (hr.trans h1) h2 (fun t ht hW => ⟨⟨[aI x], σ, by simp, rfl, hΦ, by rw [ht]; exact hP⟩, hS.F ht⟩) hS.2.2 hd
    · intro H locs ls hP hS hl
      exact W.lret hx hb (hr.trans h1) (fun t ht hW => ⟨⟨[aL x], σ, by simp, rfl, hΦ, by rw [ht]; exact hP⟩, hS.F ht⟩) hS.2.2 hd
    · intro H locs ls hP hS hl
      exact W.aret hx hb (hr.trans h1) h2 (Or.inr ⟨ad a, rfl⟩) (fun t ht hW => ⟨⟨[aR a], σ, by simp, rfl, hΦ, by rw [ht]; exact hP⟩, hS.F ht⟩) hS.2.2 hd
    · intro H locs ls hP hS hl
      exact W.vret hx hb (hr.trans h1) (fun t ht hW => ⟨⟨[], σ, by simp, rfl, hΦ, by rw [ht]; exact hP⟩, hS.F ht⟩) hS.2.2 hd
  have hV := h (Vd D cy ad A M.2.2.1 p l e (rmM M) s m (av.map (cv ad)).toArray below meth c 0 0 (MQ below (fun _ => Post D cy ad A Φ) (av.map (cv ad)).toArray s 0 0 A)) (fun en hen lo st σ hs => sem_sound C hSp hR (Nat.le_refl _) (Nat.le_refl _) (hokE en hen) hs) (fun pc lo' lo st σ hlw h1 H locs ls hP hS hl => h1 H locs ls hP hS ⟨hl.1, hl.2.1, fun q hq => hl.2.2 q (prs_lw hlw hq)⟩)
  exact hV s.heap [] ls hP va_S.rf hl'
def SpM (S : Sp) : Prop := ∀ q av σ (Φ Φ' : Rs), (∀ r σ', Φ r σ' → Φ' r σ') → S q av σ Φ → S q av σ Φ'
theorem cl_at {S : Sp} {Φ : Rs} {kc : List Ent} {v : Kt} (hv : Cl S Φ kc v) (i : Nat) {en : Ent} (he : kc[i]? = some en) {lo : Lo} {st : List AV} {σ : St} (h : sem S Φ v en lo st σ) : v en.1 lo st σ := hv en (List.mem_of_getElem? he) lo st σ h
