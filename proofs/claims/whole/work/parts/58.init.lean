/-! the first state: both objects as they are made -/
def sigL : List (Nat → Int32) := [zI0, zI0, zI0, zI0, fRul, zI0, zI0, zI0, fRul, zI0, zI0, zI0, fRul, zI0, zI0, zI0, zI0, zI0, zI0, zI0, zI0, zI0, zI0, zI0, zI0, zI0, zI0, zI0, zI0, zI0, zI0, zI0, zI0, zI0, zI0, zI0, zI0, zI0, zI0, zI0, zI0, zI0, zI0, zI0, zI0, zI0, zI0, fX6_6, zI0, zI0, fX9_1, zI0, zI0, zI0, zI0, zI0, zI0, zI0, zI0, zI0, fX9_11, fX9_12, zI0, zI0, zI0, fX9_16, zI0, zI0]
def sig0 : St := (fun k => sigL.getD k zI0, fun _ => zJ0)
/-- the places' addresses -/
def adF (V : List Nat) (b : Nat) (ad0 : Nat → Nat) : Nat → Nat := fun k => bif Nat.blt k 68 then V.getD k 0 else bif Nat.beq k 70 then b else ad0 k
theorem row_e {z0 z1 z2 z3 : Nat} {ad : Nat → Nat} (h0 : z0 = ad 43) (h1 : z1 = ad 44) (h2 : z2 = ad 45) (h3 : z3 = ad 46) : (fun i => ([some z0, some z1, some z2, some z3] : List (Option Nat)).getD i none) = fun i => (([some 43, some 44, some 45, some 46] : List (Option Nat)).getD i none).map ad := by
  subst h0 h1 h2 h3
  exact funext fun i => match i with
    | 0 => rfl
    | 1 => rfl
    | 2 => rfl
    | 3 => rfl
    | _ + 4 => rfl
def ws0 (cy : Nat → ClassId) (x0 x1 x2 x3 x4 x5 x6 x7 x8 x9 x10 x11 x12 x13 x14 x15 x16 x17 x18 x19 x20 x21 x22 x23 x24 x25 x26 x27 x28 x29 x30 x31 x32 x33 x34 x35 x36 x37 x38 x39 x40 x41 x42 x43 x44 x45 x46 x47 x48 m0 m1 m2 m3 m4 m5 m6 m7 m8 m9 m10 m11 m12 m13 m14 m15 m16 m17 m18 : Nat) : va_W := [(x0, .inr (7, [.ref x1, .ref x5, .ref x9, .ref x13, .ref x20, .ref x27, .ref x34, .ref x36, .ref x41, .ref x48, .int 0, .int 0, .int 0, .int 0, .int 0])),
  (x1, .inr (1, [.ref x2, .ref x3, .ref x4, .int 0, .int 0, .int 0])),
  (x2, .inl (cy 1, 180, .inl zI0)),
  (x3, .inl (cy 1, 120, .inl zI0)),
  (x4, .inl (cy 1, 3, .inl fRul)),
  (x5, .inr (1, [.ref x6, .ref x7, .ref x8, .int 0, .int 0, .int 0])),
  (x6, .inl (cy 1, 180, .inl zI0)),
  (x7, .inl (cy 1, 120, .inl zI0)),
  (x8, .inl (cy 1, 3, .inl fRul)),
  (x9, .inr (1, [.ref x10, .ref x11, .ref x12, .int 0, .int 0, .int 0])),
  (x10, .inl (cy 1, 180, .inl zI0)),
  (x11, .inl (cy 1, 120, .inl zI0)),
  (x12, .inl (cy 1, 3, .inl fRul)),
  (x13, .inr (0, [.ref x1, .ref x14, .ref x15, .ref x16, .int 0, .int 0, .int 0])),
  (x14, .inl (cy 1, 20, .inl zI0)),
  (x15, .inl (cy 1, 20, .inl zI0)),
  (x16, .inr (6, [.ref x17, .ref x18, .ref x19, .int 0, .int 0, .int 0, .int 0])),
  (x17, .inl (cy 1, 40, .inl zI0)),
  (x18, .inl (cy 1, 40, .inl zI0)),
  (x19, .inl (cy 1, 40, .inl zI0)),
  (x20, .inr (0, [.ref x1, .ref x21, .ref x22, .ref x23, .int 0, .int 0, .int 0])),
  (x21, .inl (cy 1, 20, .inl zI0)),
  (x22, .inl (cy 1, 20, .inl zI0)),
  (x23, .inr (6, [.ref x24, .ref x25, .ref x26, .int 0, .int 0, .int 0, .int 0])),
  (x24, .inl (cy 1, 40, .inl zI0)),
  (x25, .inl (cy 1, 40, .inl zI0)),
  (x26, .inl (cy 1, 40, .inl zI0)),
  (x27, .inr (2, [.ref x1, .ref x13, .ref x28, .ref x29, .ref x30, .int 0, .int 0, .int 0])),
  (x28, .inl (cy 1, 20, .inl zI0)),
  (x29, .inl (cy 1, 20, .inl zI0)),
  (x30, .inr (6, [.ref x31, .ref x32, .ref x33, .int 0, .int 0, .int 0, .int 0])),
  (x31, .inl (cy 1, 40, .inl zI0)),
  (x32, .inl (cy 1, 40, .inl zI0)),
  (x33, .inl (cy 1, 40, .inl zI0)),
  (x34, .inr (4, [.ref x35, .int 0])),
  (x35, .inl (cy 2, 1239, .inl zI0)),
  (x36, .inr (3, [.ref x37, .int 0, .int 0, .ref x38, .ref x39, .ref x40, .int 0, .int 0, .int 0])),
  (x37, .inl (cy 2, 80, .inl zI0)),
  (x38, .inl (cy 1, 13, .inl zI0)),
  (x39, .inl (cy 1, 13, .inl zI0)),
  (x40, .inl (cy 1, 78, .inl zI0)),
  (x41, .inr (5, [.ref x42, .ref x47])),
  (x42, .inl (cy 5, 4, .inr (.inr (.inr (.inr (fun i => ([some x43, some x44, some x45, some x46] : List (Option Nat)).getD i none)))))),
  (x43, .inl (cy 4, 40, .inr (.inl zJ0))),
  (x44, .inl (cy 4, 40, .inr (.inl zJ0))),
  (x45, .inl (cy 4, 40, .inr (.inl zJ0))),
  (x46, .inl (cy 4, 40, .inr (.inl zJ0))),
  (x47, .inl (cy 1, 4, .inl fX6_6)),
  (x48, .inl (cy 1, 40, .inl zI0)),
  (m0, .inr (8, [.ref m1, .ref m2, .ref m3, .int 0, .int 0, .ref m4, .ref m5, .int 0, .int 0, .ref m6, .ref m7, .ref m8, .int 0, .int 0, .int 0, .int 0, .int 0, .ref m9, .int 0, .ref m10, .int 0, .ref m11, .ref m12, .int 0, .int 0, .int 0, .int 0, .int 0, .ref m13, .ref m14, .int 0, .ref m15, .ref m16, .ref m17, .ref m18])),
  (m1, .inl (cy 1, 286, .inl fX9_1)),
  (m2, .inl (cy 1, 286, .inl zI0)),
  (m3, .inl (cy 1, 286, .inl zI0)),
  (m4, .inl (cy 1, 20, .inl zI0)),
  (m5, .inl (cy 1, 20, .inl zI0)),
  (m6, .inl (cy 1, 40, .inl zI0)),
  (m7, .inl (cy 1, 40, .inl zI0)),
  (m8, .inl (cy 1, 40, .inl zI0)),
  (m9, .inl (cy 1, 20, .inl zI0)),
  (m10, .inl (cy 1, 80, .inl zI0)),
  (m11, .inl (cy 3, 56, .inl fX9_11)),
  (m12, .inl (cy 1, 13, .inl fX9_12)),
  (m13, .inl (cy 1, 6, .inl zI0)),
  (m14, .inl (cy 1, 2000, .inl zI0)),
  (m15, .inl (cy 4, 160, .inr (.inl zJ0))),
  (m16, .inl (cy 1, 4, .inl fX9_16)),
  (m17, .inl (cy 1, 40, .inl zI0)),
  (m18, .inl (cy 4, 40, .inr (.inl zJ0)))]
set_option maxRecDepth 100000 in
theorem ws0_at {cy : Nat → ClassId} {x0 x1 x2 x3 x4 x5 x6 x7 x8 x9 x10 x11 x12 x13 x14 x15 x16 x17 x18 x19 x20 x21 x22 x23 x24 x25 x26 x27 x28 x29 x30 x31 x32 x33 x34 x35 x36 x37 x38 x39 x40 x41 x42 x43 x44 x45 x46 x47 x48 m0 m1 m2 m3 m4 m5 m6 m7 m8 m9 m10 m11 m12 m13 m14 m15 m16 m17 m18 b : Nat} {ad0 : Nat → Nat} : ∀ k, k < 68 → (ws0 cy x0 x1 x2 x3 x4 x5 x6 x7 x8 x9 x10 x11 x12 x13 x14 x15 x16 x17 x18 x19 x20 x21 x22 x23 x24 x25 x26 x27 x28 x29 x30 x31 x32 x33 x34 x35 x36 x37 x38 x39 x40 x41 x42 x43 x44 x45 x46 x47 x48 m0 m1 m2 m3 m4 m5 m6 m7 m8 m9 m10 m11 m12 m13 m14 m15 m16 m17 m18)[([0, 1, 2, 3, 4, 5, 6, 7, 8, 9, 10, 11, 12, 13, 14, 15, 16, 17, 18, 19, 20, 21, 22, 23, 24, 25, 26, 27, 28, 29, 30, 31, 32, 33, 34, 35, 36, 37, 38, 39, 40, 41, 42, 43, 44, 45, 46, 47, 48, 49, 50, 51, 52, 53, 54, 55, 56, 57, 58, 59, 60, 61, 62, 63, 64, 65, 66, 67] : List Nat).getD k 0]? = (shape[k]?).map (fun c => (adF [x0, x1, x2, x3, x4, x5, x6, x7, x8, x9, x10, x11, x12, x13, x14, x15, x16, x17, x18, x19, x20, x21, x22, x23, x24, x25, x26, x27, x28, x29, x30, x31, x32, x33, x34, x35, x36, x37, x38, x39, x40, x41, x42, x43, x44, x45, x46, x47, x48, m0, m1, m2, m3, m4, m5, m6, m7, m8, m9, m10, m11, m12, m13, m14, m15, m16, m17, m18] b ad0 k, cellV cy (adF [x0, x1, x2, x3, x4, x5, x6, x7, x8, x9, x10, x11, x12, x13, x14, x15, x16, x17, x18, x19, x20, x21, x22, x23, x24, x25, x26, x27, x28, x29, x30, x31, x32, x33, x34, x35, x36, x37, x38, x39, x40, x41, x42, x43, x44, x45, x46, x47, x48, m0, m1, m2, m3, m4, m5, m6, m7, m8, m9, m10, m11, m12, m13, m14, m15, m16, m17, m18] b ad0) sig0 k c)) := by
  intro k hk
  match k, hk with
  | 0, _ => rfl
  | 1, _ => rfl
  | 2, _ => rfl
  | 3, _ => rfl
  | 4, _ => rfl
  | 5, _ => rfl
  | 6, _ => rfl
  | 7, _ => rfl
  | 8, _ => rfl
  | 9, _ => rfl
  | 10, _ => rfl
  | 11, _ => rfl
  | 12, _ => rfl
  | 13, _ => rfl
  | 14, _ => rfl
  | 15, _ => rfl
  | 16, _ => rfl
  | 17, _ => rfl
  | 18, _ => rfl
  | 19, _ => rfl
  | 20, _ => rfl
  | 21, _ => rfl
  | 22, _ => rfl
  | 23, _ => rfl
  | 24, _ => rfl
  | 25, _ => rfl
  | 26, _ => rfl
  | 27, _ => rfl
  | 28, _ => rfl
  | 29, _ => rfl
  | 30, _ => rfl
  | 31, _ => rfl
  | 32, _ => rfl
  | 33, _ => rfl
  | 34, _ => rfl
  | 35, _ => rfl
  | 36, _ => rfl
  | 37, _ => rfl
  | 38, _ => rfl
  | 39, _ => rfl
  | 40, _ => rfl
  | 41, _ => rfl
  | 42, _ => exact congrArg (fun f : Nat → Option Nat => (some (x42, (Sum.inl (cy 5, 4, Sum.inr (Sum.inr (Sum.inr (Sum.inr f)))) : va_E)) : Option (Nat × va_E))) (row_e (ad := adF [x0, x1, x2, x3, x4, x5, x6, x7, x8, x9, x10, x11, x12, x13, x14, x15, x16, x17, x18, x19, x20, x21, x22, x23, x24, x25, x26, x27, x28, x29, x30, x31, x32, x33, x34, x35, x36, x37, x38, x39, x40, x41, x42, x43, x44, x45, x46, x47, x48, m0, m1, m2, m3, m4, m5, m6, m7, m8, m9, m10, m11, m12, m13, m14, m15, m16, m17, m18] b ad0) (z0 := x43) (z1 := x44) (z2 := x45) (z3 := x46) rfl rfl rfl rfl)
  | 43, _ => rfl
  | 44, _ => rfl
  | 45, _ => rfl
  | 46, _ => rfl
  | 47, _ => rfl
  | 48, _ => rfl
  | 49, _ => rfl
  | 50, _ => rfl
  | 51, _ => rfl
  | 52, _ => rfl
  | 53, _ => rfl
  | 54, _ => rfl
  | 55, _ => rfl
  | 56, _ => rfl
  | 57, _ => rfl
  | 58, _ => rfl
  | 59, _ => rfl
  | 60, _ => rfl
  | 61, _ => rfl
  | 62, _ => rfl
  | 63, _ => rfl
  | 64, _ => rfl
  | 65, _ => rfl
  | 66, _ => rfl
  | 67, _ => rfl
  | k + 68, hk => exact absurd hk (by omega)
theorem perm_inj : ∀ i, i < 68 → ∀ j, j < 68 → ([0, 1, 2, 3, 4, 5, 6, 7, 8, 9, 10, 11, 12, 13, 14, 15, 16, 17, 18, 19, 20, 21, 22, 23, 24, 25, 26, 27, 28, 29, 30, 31, 32, 33, 34, 35, 36, 37, 38, 39, 40, 41, 42, 43, 44, 45, 46, 47, 48, 49, 50, 51, 52, 53, 54, 55, 56, 57, 58, 59, 60, 61, 62, 63, 64, 65, 66, 67] : List Nat).getD i 0 = ([0, 1, 2, 3, 4, 5, 6, 7, 8, 9, 10, 11, 12, 13, 14, 15, 16, 17, 18, 19, 20, 21, 22, 23, 24, 25, 26, 27, 28, 29, 30, 31, 32, 33, 34, 35, 36, 37, 38, 39, 40, 41, 42, 43, 44, 45, 46, 47, 48, 49, 50, 51, 52, 53, 54, 55, 56, 57, 58, 59, 60, 61, 62, 63, 64, 65, 66, 67] : List Nat).getD j 0 → i = j := by decide +kernel
theorem ws0_P {D : va_G} {cy : Nat → ClassId} {H : Heap} {x0 x1 x2 x3 x4 x5 x6 x7 x8 x9 x10 x11 x12 x13 x14 x15 x16 x17 x18 x19 x20 x21 x22 x23 x24 x25 x26 x27 x28 x29 x30 x31 x32 x33 x34 x35 x36 x37 x38 x39 x40 x41 x42 x43 x44 x45 x46 x47 x48 m0 m1 m2 m3 m4 m5 m6 m7 m8 m9 m10 m11 m12 m13 m14 m15 m16 m17 m18 b : Nat} {ad0 : Nat → Nat} (h : va_P D vwCl (ws0 cy x0 x1 x2 x3 x4 x5 x6 x7 x8 x9 x10 x11 x12 x13 x14 x15 x16 x17 x18 x19 x20 x21 x22 x23 x24 x25 x26 x27 x28 x29 x30 x31 x32 x33 x34 x35 x36 x37 x38 x39 x40 x41 x42 x43 x44 x45 x46 x47 x48 m0 m1 m2 m3 m4 m5 m6 m7 m8 m9 m10 m11 m12 m13 m14 m15 m16 m17 m18) H) : va_P D vwCl (WS cy (adF [x0, x1, x2, x3, x4, x5, x6, x7, x8, x9, x10, x11, x12, x13, x14, x15, x16, x17, x18, x19, x20, x21, x22, x23, x24, x25, x26, x27, x28, x29, x30, x31, x32, x33, x34, x35, x36, x37, x38, x39, x40, x41, x42, x43, x44, x45, x46, x47, x48, m0, m1, m2, m3, m4, m5, m6, m7, m8, m9, m10, m11, m12, m13, m14, m15, m16, m17, m18] b ad0) sig0) H := by
  intro k q hk
  obtain ⟨c, hc, rfl⟩ := WS_of hk
  have hk68 : k < 68 := shape_lt hc
  have e := ws0_at (cy := cy) (x0 := x0) (x1 := x1) (x2 := x2) (x3 := x3) (x4 := x4) (x5 := x5) (x6 := x6) (x7 := x7) (x8 := x8) (x9 := x9) (x10 := x10) (x11 := x11) (x12 := x12) (x13 := x13) (x14 := x14) (x15 := x15) (x16 := x16) (x17 := x17) (x18 := x18) (x19 := x19) (x20 := x20) (x21 := x21) (x22 := x22) (x23 := x23) (x24 := x24) (x25 := x25) (x26 := x26) (x27 := x27) (x28 := x28) (x29 := x29) (x30 := x30) (x31 := x31) (x32 := x32) (x33 := x33) (x34 := x34) (x35 := x35) (x36 := x36) (x37 := x37) (x38 := x38) (x39 := x39) (x40 := x40) (x41 := x41) (x42 := x42) (x43 := x43) (x44 := x44) (x45 := x45) (x46 := x46) (x47 := x47) (x48 := x48) (m0 := m0) (m1 := m1) (m2 := m2) (m3 := m3) (m4 := m4) (m5 := m5) (m6 := m6) (m7 := m7) (m8 := m8) (m9 := m9) (m10 := m10) (m11 := m11) (m12 := m12) (m13 := m13) (m14 := m14) (m15 := m15) (m16 := m16) (m17 := m17) (m18 := m18) (b := b) (ad0 := ad0) k hk68
  rw [hc] at e
  exact h _ _ e
theorem ws0_D {A : Nat → Prop} {cy : Nat → ClassId} {x0 x1 x2 x3 x4 x5 x6 x7 x8 x9 x10 x11 x12 x13 x14 x15 x16 x17 x18 x19 x20 x21 x22 x23 x24 x25 x26 x27 x28 x29 x30 x31 x32 x33 x34 x35 x36 x37 x38 x39 x40 x41 x42 x43 x44 x45 x46 x47 x48 m0 m1 m2 m3 m4 m5 m6 m7 m8 m9 m10 m11 m12 m13 m14 m15 m16 m17 m18 b : Nat} {ad0 : Nat → Nat} (h : va_D A (ws0 cy x0 x1 x2 x3 x4 x5 x6 x7 x8 x9 x10 x11 x12 x13 x14 x15 x16 x17 x18 x19 x20 x21 x22 x23 x24 x25 x26 x27 x28 x29 x30 x31 x32 x33 x34 x35 x36 x37 x38 x39 x40 x41 x42 x43 x44 x45 x46 x47 x48 m0 m1 m2 m3 m4 m5 m6 m7 m8 m9 m10 m11 m12 m13 m14 m15 m16 m17 m18)) : Apart (adF [x0, x1, x2, x3, x4, x5, x6, x7, x8, x9, x10, x11, x12, x13, x14, x15, x16, x17, x18, x19, x20, x21, x22, x23, x24, x25, x26, x27, x28, x29, x30, x31, x32, x33, x34, x35, x36, x37, x38, x39, x40, x41, x42, x43, x44, x45, x46, x47, x48, m0, m1, m2, m3, m4, m5, m6, m7, m8, m9, m10, m11, m12, m13, m14, m15, m16, m17, m18] b ad0) A := by
  refine ⟨fun i j hi hj he => ?_, fun k hk => ?_⟩
  · have hi68 : i < 68 := hi
    have hj68 : j < 68 := hj
    have e1 := ws0_at (cy := cy) (x0 := x0) (x1 := x1) (x2 := x2) (x3 := x3) (x4 := x4) (x5 := x5) (x6 := x6) (x7 := x7) (x8 := x8) (x9 := x9) (x10 := x10) (x11 := x11) (x12 := x12) (x13 := x13) (x14 := x14) (x15 := x15) (x16 := x16) (x17 := x17) (x18 := x18) (x19 := x19) (x20 := x20) (x21 := x21) (x22 := x22) (x23 := x23) (x24 := x24) (x25 := x25) (x26 := x26) (x27 := x27) (x28 := x28) (x29 := x29) (x30 := x30) (x31 := x31) (x32 := x32) (x33 := x33) (x34 := x34) (x35 := x35) (x36 := x36) (x37 := x37) (x38 := x38) (x39 := x39) (x40 := x40) (x41 := x41) (x42 := x42) (x43 := x43) (x44 := x44) (x45 := x45) (x46 := x46) (x47 := x47) (x48 := x48) (m0 := m0) (m1 := m1) (m2 := m2) (m3 := m3) (m4 := m4) (m5 := m5) (m6 := m6) (m7 := m7) (m8 := m8) (m9 := m9) (m10 := m10) (m11 := m11) (m12 := m12) (m13 := m13) (m14 := m14) (m15 := m15) (m16 := m16) (m17 := m17) (m18 := m18) (b := b) (ad0 := ad0) i hi68
    have e2 := ws0_at (cy := cy) (x0 := x0) (x1 := x1) (x2 := x2) (x3 := x3) (x4 := x4) (x5 := x5) (x6 := x6) (x7 := x7) (x8 := x8) (x9 := x9) (x10 := x10) (x11 := x11) (x12 := x12) (x13 := x13) (x14 := x14) (x15 := x15) (x16 := x16) (x17 := x17) (x18 := x18) (x19 := x19) (x20 := x20) (x21 := x21) (x22 := x22) (x23 := x23) (x24 := x24) (x25 := x25) (x26 := x26) (x27 := x27) (x28 := x28) (x29 := x29) (x30 := x30) (x31 := x31) (x32 := x32) (x33 := x33) (x34 := x34) (x35 := x35) (x36 := x36) (x37 := x37) (x38 := x38) (x39 := x39) (x40 := x40) (x41 := x41) (x42 := x42) (x43 := x43) (x44 := x44) (x45 := x45) (x46 := x46) (x47 := x47) (x48 := x48) (m0 := m0) (m1 := m1) (m2 := m2) (m3 := m3) (m4 := m4) (m5 := m5) (m6 := m6) (m7 := m7) (m8 := m8) (m9 := m9) (m10 := m10) (m11 := m11) (m12 := m12) (m13 := m13) (m14 := m14) (m15 := m15) (m16 := m16) (m17 := m17) (m18 := m18) (b := b) (ad0 := ad0) j hj68
    rw [List.getElem?_eq_getElem (show i < shape.length from hi)] at e1
    rw [List.getElem?_eq_getElem (show j < shape.length from hj)] at e2
    exact perm_inj i hi68 j hj68 (h.1 _ _ _ _ e1 e2 he)
  · have hk68 : k < 68 := hk
    have e1 := ws0_at (cy := cy) (x0 := x0) (x1 := x1) (x2 := x2) (x3 := x3) (x4 := x4) (x5 := x5) (x6 := x6) (x7 := x7) (x8 := x8) (x9 := x9) (x10 := x10) (x11 := x11) (x12 := x12) (x13 := x13) (x14 := x14) (x15 := x15) (x16 := x16) (x17 := x17) (x18 := x18) (x19 := x19) (x20 := x20) (x21 := x21) (x22 := x22) (x23 := x23) (x24 := x24) (x25 := x25) (x26 := x26) (x27 := x27) (x28 := x28) (x29 := x29) (x30 := x30) (x31 := x31) (x32 := x32) (x33 := x33) (x34 := x34) (x35 := x35) (x36 := x36) (x37 := x37) (x38 := x38) (x39 := x39) (x40 := x40) (x41 := x41) (x42 := x42) (x43 := x43) (x44 := x44) (x45 := x45) (x46 := x46) (x47 := x47) (x48 := x48) (m0 := m0) (m1 := m1) (m2 := m2) (m3 := m3) (m4 := m4) (m5 := m5) (m6 := m6) (m7 := m7) (m8 := m8) (m9 := m9) (m10 := m10) (m11 := m11) (m12 := m12) (m13 := m13) (m14 := m14) (m15 := m15) (m16 := m16) (m17 := m17) (m18 := m18) (b := b) (ad0 := ad0) k hk68
    rw [List.getElem?_eq_getElem (show k < shape.length from hk)] at e1
    exact h.2 _ _ e1
/-- the first pattern: no holes, no wires, the first rules, the clock at 0 -/
def P0 : Pl := fun k => if k = 282 then 8 else if k = 283 then 100 else if k = 284 then 25 else 0
def L0 : Ls := (fun _ => -1, fun _ _ => 0)
def A0 : Ab := (P0, P0, false, 0, [], L0)
theorem P0_z {k : Int} (h : ¬ k = 282 ∧ ¬ k = 283 ∧ ¬ k = 284) : P0 k = 0 := by unfold P0; rw [if_neg h.1, if_neg h.2.1, if_neg h.2.2]
theorem MP0 : MP 50 P0 sig0 := by
  intro i hi
  obtain ⟨n, rfl⟩ : ∃ n : Nat, i = (n : Int) := ⟨i.toNat, by omega⟩
  have hn : n < 286 := by omega
  revert hn
  clear hi
  revert n
  decide +kernel
theorem W0 : WF P0 := by
  refine ⟨by decide +kernel, fun h h0 h1 => ?_, fun w h0 h1 => ?_, fun g h h0 h1 h2 => ?_⟩
  · rw [P0_z (by omega)] at h1; omega
  · rw [P0_z (by omega)] at h1; omega
  · rw [P0_z (by omega)] at h2; omega
theorem K0 : CLK P0 := by
  unfold CLK shL
  rw [P0_z (k := 280) (by omega), lp_z _ _ (Int.le_refl 0), P0_z (by omega)]
  exact Int.le_refl 0
theorem CP0 : CP 1 P0 sig0 := by
  refine ⟨by decide +kernel, fun k hk => ?_, fun h k hh => ?_, fun h hh => ?_, fun w k hh => ?_⟩
  · obtain ⟨n, rfl⟩ : ∃ n : Nat, k = (n : Int) := ⟨k.toNat, by omega⟩
    have hn : n < 3 := by omega
    revert hn
    clear hk
    revert n
    decide +kernel
  · have := hh.1; rw [P0_z (by omega)] at this; omega
  · rw [P0_z (by omega)] at hh; omega
  · have := hh.1; rw [P0_z (by omega)] at this; omega
theorem OKA0 : OKA A0 := ⟨W0, K0, (fun h => by cases h), ⟨by decide, fun i h => absurd h (Nat.not_lt_zero i)⟩, fun l h0 h1 => ⟨Int.le_refl _, by show (-1 : Int) ≤ 40; decide⟩⟩
theorem LC0 : LC L0 sig0 := by
  intro l h0 h1
  refine ⟨?_, fun i _ _ => rfl⟩
  obtain ⟨n, rfl⟩ : ∃ n : Nat, l = (n : Int) := ⟨l.toNat, by omega⟩
  have hn : n < 4 := by omega
  revert hn
  clear h0 h1
  revert n
  decide +kernel
theorem LM0 : LM L0 sig0 := by
  intro l h0 h1
  refine ⟨?_, fun i _ _ => rfl⟩
  obtain ⟨n, rfl⟩ : ∃ n : Nat, l = (n : Int) := ⟨l.toNat, by omega⟩
  have hn : n < 4 := by omega
  revert hn
  clear h0 h1
  revert n
  decide +kernel
theorem WLM0 : WLM sig0 := ⟨by decide +kernel, by decide +kernel⟩
theorem JJ0 : JJ A0 sig0 :=
  ⟨⟨⟨CP0, Or.inl (by decide +kernel), Or.inl (by decide +kernel), Or.inl (by decide +kernel)⟩, ⟨by decide +kernel, fun h => by cases h⟩, by decide +kernel, ⟨by decide +kernel, fun i h => absurd h (Nat.not_lt_zero i)⟩, LC0⟩, MP0, ⟨by decide +kernel, fun h => by cases h⟩, by decide +kernel, ⟨by decide +kernel, fun i h => absurd h (Nat.not_lt_zero i)⟩, LM0, WLM0⟩
section SK
variable {s : State} {args : Array Value}
theorem arr_K {ty : FieldType} {c : ClassId} {k : Class} {comp : ClassId} (h2 : s.vm.classes[c]? = some k) (h3 : k.kind = .array comp ty) : ArrOfT s c ty := fun N z => ⟨(fun k h => by cases h), k, h2, comp, h3⟩
set_option maxRecDepth 100000 in
theorem cl_inst : ∀ k, k < 9 → lw_tbl[([155, 113, 228, 280, 264, 316, 161, 105, 1085] : List Nat).getD k 0]? = (vwCl[k]?).map (fun q => .instantiable q.1 q.2.2) := by decide +kernel
theorem start_K (hts : ∀ w ∈ lw_tbl, w.before args s = true) : ∃ (D : va_G) (cy : Nat → ClassId), va_K D vwCl (tysOf cy) s ∧ OvJ s := by
  have tb : ∀ {k : Nat} {c : Jvm.Cond}, lw_tbl[k]? = some c → c.before args s = true := fun h => hts _ (List.mem_of_getElem? h)
  have h0 : ∀ k : Nat, ∃ z : ClassId × (Nat → Nat), ∀ q, vwCl[k]? = some q → u_Kn s q.1 q.2.1 q.2.2 z.1 z.2 := by
    intro k
    cases hq : vwCl[k]? with
    | none => exact ⟨(0, fun _ => 0), fun q h => by cases h⟩
    | some q =>
      have hk : k < 9 := (List.getElem?_eq_some_iff.mp hq).1
      have hi := cl_inst k hk
      rw [hq] at hi
      obtain ⟨c, iS, h⟩ := u_known (ws := tg) (s := s) (args := args) (C := q.1) (T := q.2.1) (N := q.2.2) (n := q.2.2) (fun w hw => hts w (List.mem_filter.mp hw).1) (cl_facts k q hq).1 (tb hi)
      exact ⟨(c, iS), fun q' h' => by cases h'; exact h⟩
  obtain ⟨z, hz⟩ := Classical.axiomOfChoice h0
  have hO : OvJ s := over_spec (args := args) (tb (k := 322) (by decide +kernel))
  obtain ⟨c1, k1, e1, a1, b1, d1⟩ := Cond.arrayClass_spec (type := .int) (args := args) (hts _ (List.mem_filter.mp ar_I).1)
  obtain ⟨c2, k2, e2, a2, b2, d2⟩ := Cond.arrayClass_spec (type := .byte) (args := args) (hts _ (List.mem_filter.mp ar_B).1)
  obtain ⟨c3, k3, e3, a3, b3, d3⟩ := Cond.arrayClass_spec (type := .char) (args := args) (hts _ (List.mem_filter.mp ar_C).1)
  obtain ⟨c4, k4, e4, a4, b4, d4⟩ := Cond.arrayClass_spec (type := .long) (args := args) (hts _ (List.mem_filter.mp ar_J).1)
  obtain ⟨e5, c5, k5, f5, b5, d5, a5⟩ := id hO
  have a5' : s.vm.findClass ("[" ++ (FieldType.array .long).toString) = some c5 := by
    rw [show ("[" ++ (FieldType.array .long).toString : String) = "[[J" from by decide +kernel]; exact a5
  refine ⟨(fun k => (z k).1, fun k => (z k).2), fun k => [0, c1, c2, c3, c4, c5].getD k 0, ⟨fun k q h => hz k q h, fun k q h => ?_⟩, hO⟩
  match k, h with
  | 0, h => cases h; exact ⟨arr_K b1 d1, a1⟩
  | 1, h => cases h; exact ⟨arr_K b2 d2, a2⟩
  | 2, h => cases h; exact ⟨arr_K b3 d3, a3⟩
  | 3, h => cases h; exact ⟨arr_K b4 d4, a4⟩
  | 4, h => cases h; exact ⟨arr_K b5 d5, a5'⟩
  | k + 5, h => simp [tysOf] at h
end SK
