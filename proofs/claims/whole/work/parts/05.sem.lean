abbrev Kt : Type := Nat → Lo → List AV → St → Prop
abbrev Rs : Type := List AV → St → Prop
abbrev Sp : Type := Nat → List AV → St → Rs → Prop
/-! reading the shape -/
def oc (k : Nat) : Option Nat := match shape[k]? with
  | some c => if c.1 = 0 then some c.2.1 else none
  | none => none
def fo (k j : Nat) : Option (Option Nat) := match shape[k]? with
  | some c => if c.1 = 0 then c.2.2[j]? else none
  | none => none
def al (k : Nat) : Option (Nat × Nat) := match shape[k]? with
  | some c => if c.1 = 0 then none else some (c.1, c.2.1)
  | none => match stA[k - 100]? with
    | some q => if k < 100 then none else some (7, q.2.2.length)
    | none => none
def sv (k j : Nat) : Int32 := match stA[k - 100]? with
  | some q => q.2.2.getD j 0
  | none => 0
/-- the place that a reference field names -/
def ch (k j : Nat) : Nat := match fo k j with
  | some (some r) => r
  | _ => 0
/-- kind and length of an array -/
def tag (k : Nat) : Nat := match al k with
  | some q => q.1
  | none => 0
def ln (k : Nat) : Nat := match al k with
  | some q => q.2
  | none => 0
/-- what an int array holds -/
def rd (σ : St) (k j : Nat) : Int32 := bif Nat.blt k 100 then σ.1 k j else sv k j
def rcv (k x : Nat) : Prop := if x = 99 then 200 ≤ k ∧ k < 200 + strN else oc k = some x
/-! writing -/
def upI (σ : St) (a j : Nat) (x : Int32) : St := (fun k => if k = a then upd (σ.1 a) j x else σ.1 k, σ.2)
def upJ (σ : St) (a j : Nat) (x : Int64) : St := (σ.1, fun k => if k = a then vp_updL (σ.2 a) j x else σ.2 k)
def cpI (σ : St) (k0 k1 sp dp n : Nat) : St := (fun k => if k = k1 then va_cpy (σ.1 k0) (σ.1 k1) sp dp n else σ.1 k, σ.2)
def cpJ (σ : St) (k0 k1 sp dp n : Nat) : St := (σ.1, fun k => if k = k1 then va_cpy (σ.2 k0) (σ.2 k1) sp dp n else σ.2 k)
/-! locals and stack -/
def gI (k : Int32 → Prop) : Lo → Nat → Prop
  | [], _ => False
  | some (.inl x) :: _, 0 => k x
  | some (.inr _) :: _, 0 => False
  | none :: _, 0 => False
  | _ :: t, n + 1 => gI k t n
def gL (k : Int64 → Prop) : Lo → Nat → Prop
  | [], _ => False
  | some (.inr (.inl x)) :: _, 0 => k x
  | some (.inl _) :: _, 0 => False
  | some (.inr (.inr _)) :: _, 0 => False
  | none :: _, 0 => False
  | _ :: t, n + 1 => gL k t n
def gR (k : Nat → Prop) : Lo → Nat → Prop
  | [], _ => False
  | some (.inr (.inr x)) :: _, 0 => k x
  | some (.inl _) :: _, 0 => False
  | some (.inr (.inl _)) :: _, 0 => False
  | none :: _, 0 => False
  | _ :: t, n + 1 => gR k t n
def q1 (st : List AV) (k : Int32 → List AV → Prop) : Prop := match st with
  | .inl x :: t => k x t
  | _ => False
def q2 (st : List AV) (k : Int32 → Int32 → List AV → Prop) : Prop := match st with
  | .inl y :: .inl x :: t => k x y t
  | _ => False
def qL (st : List AV) (k : Int64 → List AV → Prop) : Prop := match st with
  | .inr (.inl x) :: t => k x t
  | _ => False
def qLL (st : List AV) (k : Int64 → Int64 → List AV → Prop) : Prop := match st with
  | .inr (.inl y) :: .inr (.inl x) :: t => k x y t
  | _ => False
def qIL (st : List AV) (k : Int64 → Int32 → List AV → Prop) : Prop := match st with
  | .inl y :: .inr (.inl x) :: t => k x y t
  | _ => False
def qR (st : List AV) (k : Nat → List AV → Prop) : Prop := match st with
  | .inr (.inr a) :: t => k a t
  | _ => False
def qIR (st : List AV) (k : Nat → Int32 → List AV → Prop) : Prop := match st with
  | .inl i :: .inr (.inr a) :: t => k a i t
  | _ => False
def qIIR (st : List AV) (k : Nat → Int32 → Int32 → List AV → Prop) : Prop := match st with
  | .inl x :: .inl i :: .inr (.inr a) :: t => k a i x t
  | _ => False
def qLIR (st : List AV) (k : Nat → Int32 → Int64 → List AV → Prop) : Prop := match st with
  | .inr (.inl x) :: .inl i :: .inr (.inr a) :: t => k a i x t
  | _ => False
def qIV (st : List AV) (k : Nat → Int32 → List AV → Prop) : Prop := match st with
  | .inl x :: .inr (.inr a) :: t => k a x t
  | _ => False
def qC (st : List AV) (k : Nat → Int32 → Nat → Int32 → Int32 → List AV → Prop) : Prop := match st with
  | .inl n :: .inl dp :: .inr (.inr b) :: .inl sp :: .inr (.inr a) :: t => k a sp b dp n t
  | _ => False
def isC1 (v : AV) : Prop := match v with
  | .inr (.inl _) => False
  | _ => True
def wsum : List AV → Nat
  | [] => 0
  | .inr (.inl _) :: t => 2 + wsum t
  | _ :: t => 1 + wsum t
/-- no more than n words -/
def w8 : List AV → Nat → Prop
  | [], _ => True
  | .inr (.inl _) :: t, n + 2 => w8 t n
  | .inl _ :: t, n + 1 => w8 t n
  | .inr (.inr _) :: t, n + 1 => w8 t n
  | _, _ => False
/-- n arguments off the stack -/
def spl (k : List AV → List AV → Prop) : Nat → List AV → List AV → Prop
  | 0, acc, st => k acc st
  | n + 1, acc, v :: t => spl k n (v :: acc) t
  | _ + 1, _, [] => False
/-! branches -/
def br (c : ClassFile.Cond) (x y : Int32) (kt kf : Prop) : Prop := match c with
  | .eq => (x = y → kt) ∧ (¬ x = y → kf)
  | .ne => (¬ x = y → kt) ∧ (x = y → kf)
  | .lt => (x < y → kt) ∧ (¬ x < y → kf)
  | .ge => (y ≤ x → kt) ∧ (¬ y ≤ x → kf)
  | .gt => (y < x → kt) ∧ (¬ y < x → kf)
  | .le => (x ≤ y → kt) ∧ (¬ x ≤ y → kf)
def sw (k : Nat → Prop) (x : Int32) (d : Nat) : List (Int32 × Nat) → Prop
  | [] => k d
  | q :: t => (x = q.1 → k q.2) ∧ (¬ x = q.1 → sw k x d t)
/-- what an instruction asks, given what the places behind it ask -/
def sem (S : Sp) (Rt : Rs) (K : Kt) (e : Ent) (lo : Lo) (st : List AV) (σ : St) : Prop := match e with
  | (pc, i, len, x1, x2, _, x4, zi, zl, ks) => match i with
    | .iconst _ => K (pc + 1) lo (aI zi :: st) σ
    | .bipush _ => K (pc + 2) lo (aI zi :: st) σ
    | .sipush _ => K (pc + 3) lo (aI zi :: st) σ
    | .lconst _ => K (pc + 1) lo (aL zl :: st) σ
    | .ldc _ => bif x1 == 1 then K (pc + 2) lo (aR (200 + x2) :: st) σ else K (pc + 2) lo (aI zi :: st) σ
    | .ldc_w _ => K (pc + 3) lo (aI zi :: st) σ
    | .ldc2_w _ => K (pc + 3) lo (aL zl :: st) σ
    | .iload_n _ => gI (fun x => K (pc + 1) lo (aI x :: st) σ) lo x1
    | .iload _ => gI (fun x => K (pc + 2) lo (aI x :: st) σ) lo x1
    | .lload_n _ => gL (fun x => K (pc + 1) lo (aL x :: st) σ) lo x1
    | .lload _ => gL (fun x => K (pc + 2) lo (aL x :: st) σ) lo x1
    | .aload_n _ => gR (fun x => K (pc + 1) lo (aR x :: st) σ) lo x1
    | .aload _ => gR (fun x => K (pc + 2) lo (aR x :: st) σ) lo x1
    | .istore_n _ => q1 st fun x t => K (pc + 1) (sto lo x1 (aI x)) t σ
    | .istore _ => q1 st fun x t => K (pc + 2) (sto lo x1 (aI x)) t σ
    | .lstore_n _ => qL st fun x t => K (pc + 1) (stoL lo x1 (aL x)) t σ
    | .lstore _ => qL st fun x t => K (pc + 2) (stoL lo x1 (aL x)) t σ
    | .astore_n _ => qR st fun x t => K (pc + 1) (sto lo x1 (aR x)) t σ
    | .astore _ => qR st fun x t => K (pc + 2) (sto lo x1 (aR x)) t σ
    | .iinc _ _ => gI (fun x => K (pc + 3) (sto lo x1 (aI (x + zi))) st σ) lo x1
    | .iadd => q2 st fun x y t => K (pc + 1) lo (aI (x + y) :: t) σ
    | .isub => q2 st fun x y t => K (pc + 1) lo (aI (x - y) :: t) σ
    | .imul => q2 st fun x y t => K (pc + 1) lo (aI (x * y) :: t) σ
    | .idiv => q2 st fun x y t => ¬ y = 0 ∧ K (pc + 1) lo (aI (x / y) :: t) σ
    | .irem => q2 st fun x y t => ¬ y = 0 ∧ K (pc + 1) lo (aI (x - x / y * y) :: t) σ
    | .ineg => q1 st fun x t => K (pc + 1) lo (aI (-x) :: t) σ
    | .iand => q2 st fun x y t => K (pc + 1) lo (aI (x &&& y) :: t) σ
    | .ior => q2 st fun x y t => K (pc + 1) lo (aI (x ||| y) :: t) σ
    | .ixor => q2 st fun x y t => K (pc + 1) lo (aI (x ^^^ y) :: t) σ
    | .ishl => q2 st fun x y t => K (pc + 1) lo (aI (x <<< (y &&& 31)) :: t) σ
    | .ishr => q2 st fun x y t => K (pc + 1) lo (aI (x >>> (y &&& 31)) :: t) σ
    | .iushr => q2 st fun x y t => K (pc + 1) lo (aI (x.toUInt32 >>> (y.toUInt32 &&& Int32.toUInt32 31)).toInt32 :: t) σ
    | .i2l => q1 st fun x t => K (pc + 1) lo (aL x.toInt64 :: t) σ
    | .i2b => q1 st fun x t => K (pc + 1) lo (aI x.toInt8.toInt32 :: t) σ
    | .ladd => qLL st fun x y t => K (pc + 1) lo (aL (x + y) :: t) σ
    | .lmul => qLL st fun x y t => K (pc + 1) lo (aL (x * y) :: t) σ
    | .land => qLL st fun x y t => K (pc + 1) lo (aL (x &&& y) :: t) σ
    | .lor => qLL st fun x y t => K (pc + 1) lo (aL (x ||| y) :: t) σ
    | .lshl => qIL st fun x y t => K (pc + 1) lo (aL (x <<< (y.toInt64 &&& 63)) :: t) σ
    | .lcmp => qLL st fun x y t => K (pc + 1) lo (aI (lg_cmp x y) :: t) σ
    | .dup => match st with
      | v :: t => isC1 v ∧ K (pc + 1) lo (v :: v :: t) σ
      | _ => False
    | .dup2 => match st with
      | v :: u :: t => isC1 v ∧ isC1 u ∧ K (pc + 1) lo (v :: u :: v :: u :: t) σ
      | _ => False
    | .pop => match st with
      | v :: t => isC1 v ∧ K (pc + 1) lo t σ
      | _ => False
    | .ifCond c _ => q1 st fun x t => br c x 0 (K x1 lo t σ) (K (pc + 3) lo t σ)
    | .if_icmp c _ => q2 st fun x y t => br c x y (K x1 lo t σ) (K (pc + 3) lo t σ)
    | .goto _ => K x1 lo st σ
    | .tableswitch _ _ _ _ => q1 st fun x t => sw (fun q => K q lo t σ) x x1 ks
    | .lookupswitch _ _ => q1 st fun x t => sw (fun q => K q lo t σ) x x1 ks
    | .getfield _ => qR st fun a t => oc a = some x1 ∧ (bif x4 == 2 then K (pc + 3) lo (aR (ch a x2) :: t) σ else K (pc + 3) lo (aI (σ.1 a x2) :: t) σ)
    | .putfield _ => qIV st fun a x t => oc a = some x1 ∧ (bif x4 == 1 then (x = 0 ∨ x = 1) ∧ K (pc + 3) lo t (upI σ a x2 x) else K (pc + 3) lo t (upI σ a x2 x))
    | .getstatic _ => K (pc + 3) lo (aR (100 + x1) :: st) σ
    | .iaload => qIR st fun a i t => (tag a = 1 ∨ tag a = 7) ∧ vp_in i (ln a) ∧ K (pc + 1) lo (aI (rd σ a i.toNatClampNeg) :: t) σ
    | .baload => qIR st fun a i t => tag a = 2 ∧ vp_in i (ln a) ∧ K (pc + 1) lo (aI (σ.1 a i.toNatClampNeg) :: t) σ
    | .caload => qIR st fun a i t => tag a = 3 ∧ vp_in i (ln a) ∧ K (pc + 1) lo (aI (σ.1 a i.toNatClampNeg) :: t) σ
    | .laload => qIR st fun a i t => tag a = 4 ∧ vp_in i (ln a) ∧ K (pc + 1) lo (aL (σ.2 a i.toNatClampNeg) :: t) σ
    | .aaload => qIR st fun a i t => a = 42 ∧ vp_in i 4 ∧ K (pc + 1) lo (aR (43 + i.toNatClampNeg) :: t) σ
    | .arraylength => qR st fun a t => tag a ≠ 0 ∧ K (pc + 1) lo (aI (Int32.ofNat (ln a)) :: t) σ
    | .iastore => qIIR st fun a i x t => tag a = 1 ∧ vp_in i (ln a) ∧ K (pc + 1) lo t (upI σ a i.toNatClampNeg x)
    | .bastore => qIIR st fun a i x t => tag a = 2 ∧ vp_in i (ln a) ∧ K (pc + 1) lo t (upI σ a i.toNatClampNeg x.toInt8.toInt32)
    | .lastore => qLIR st fun a i x t => tag a = 4 ∧ vp_in i (ln a) ∧ K (pc + 1) lo t (upJ σ a i.toNatClampNeg x)
    | .invokevirtual _ => spl (fun av st => qR st fun a t => rcv a x4 ∧ w8 t 8 ∧ S x1 (aR a :: av) σ (fun r σ' => K (pc + 3) lo (r ++ t) σ')) x2 [] st
    | .invokestatic _ => bif x4 == 9 then (qC st fun a sp b dp n t => (tag a = 1 ∧ tag b = 1) ∧ ¬ sp < 0 ∧ ¬ dp < 0 ∧ ¬ n < 0 ∧ sp.toNatClampNeg + n.toNatClampNeg ≤ ln a ∧ dp.toNatClampNeg + n.toNatClampNeg ≤ ln b ∧ w8 t 8 ∧ K (pc + 3) lo t (cpI σ a b sp.toNatClampNeg dp.toNatClampNeg n.toNatClampNeg))
      else bif x4 == 8 then (qC st fun a sp b dp n t => (tag a = 4 ∧ tag b = 4) ∧ ¬ sp < 0 ∧ ¬ dp < 0 ∧ ¬ n < 0 ∧ sp.toNatClampNeg + n.toNatClampNeg ≤ ln a ∧ dp.toNatClampNeg + n.toNatClampNeg ≤ ln b ∧ w8 t 8 ∧ K (pc + 3) lo t (cpJ σ a b sp.toNatClampNeg dp.toNatClampNeg n.toNatClampNeg))
      else bif x4 == 10 then q2 st fun x y t => w8 t 8 ∧ K (pc + 3) lo (aI (if x < y then y else x) :: t) σ
      else bif x4 == 11 then q2 st fun x y t => w8 t 8 ∧ K (pc + 3) lo (aI (if y < x then y else x) :: t) σ
      else bif x4 == 12 then q1 st fun x t => w8 t 8 ∧ K (pc + 3) lo (aI (if 0 ≤ x then x else 0 - x) :: t) σ
      else spl (fun av t => w8 t 8 ∧ S x1 av σ (fun r σ' => K (pc + 3) lo (r ++ t) σ')) x2 [] st
    | .ireturn => q1 st fun x t => t = [] ∧ (bif x1 == 1 then (x = 0 ∨ x = 1) ∧ Rt [aI x] σ else Rt [aI x] σ)
    | .lreturn => qL st fun x t => t = [] ∧ Rt [aL x] σ
    | .areturn => qR st fun a t => t = [] ∧ Rt [aR a] σ
    | .return_ => st = [] ∧ Rt [] σ
    | _ => False
/-- the table's words that any callee may have -/
def tg : List Jvm.Cond := lw_tbl.filter goodWord
/-- a word by its place -/
def atW (i : Nat) (w : Jvm.Cond) : Bool := decide (lw_tbl[i]? = some w) && goodWord w
theorem atW_in {i : Nat} {w : Jvm.Cond} (h : atW i w = true) : w ∈ tg := by
  simp only [atW, Bool.and_eq_true, decide_eq_true_eq] at h
  exact List.mem_filter.mpr ⟨List.mem_of_getElem? h.1, h.2⟩
theorem tg_good : GoodIn tg tg := fun w h => ⟨h, good_of_word (List.mem_filter.mp h).2⟩
/-- a descriptor of a reference -/
def isRd (d : String) : Bool := d != "I" && d != "Z"
/-- the method's own words are right -/
def okM (M : MI) : Bool := match M with
  | (y, b, mL, r, n, _, _, stt, p1, p2, p3, p4) => atW p1 (.code y b mL r) && (if stt then atW p2 (.static y) else atW p2 (.instanceMethod y) && atW p3 (.selects y.cls y y)) && atW p4 (.initialized y.cls) && decide (y.cls ≠ "java/lang/invoke/MethodHandle") && decide (y.cls ≠ "java/lang/invoke/VarHandle") && decide ((parseMethodDescriptor y.desc).map (fun d => d.parameters.length) = some n) && plainName y.cls
/-- the decoded row is right: its bytes, its links, its room -/
def okE (own : String) (cc : ByteArray) (nL fr lc : Nat) (rt : Option FieldType) (e : Ent) : Bool := match e with
  | (pc, i, len, x1, x2, x3, x4, zi, zl, ks) => decide (decode cc pc = .ok (i, len)) && match i with
    | .iconst n => decide (Int32.ofInt n = zi) && len == 1
    | .bipush n => decide ((Int8.ofInt n).toInt32 = zi) && len == 2
    | .sipush n => decide ((Int16.ofInt n).toInt32 = zi) && len == 3
    | .lconst n => decide (Int64.ofNat (n : Nat) = zl) && len == 1
    | .ldc idx => len == 2 && (if x1 = 1 then (match strR[x3]? with
        | some q => q.1 == own && q.2.1 == idx && q.2.2.2 == x2
        | none => false) else atW x3 (.constant own idx zi))
    | .ldc_w idx => len == 3 && atW x3 (.constant own idx zi)
    | .ldc2_w idx => len == 3 && atW x3 (.constantLong own idx zl)
    | .iload_n k => len == 1 && decide ((k : Nat) = x1)
    | .lload_n k => len == 1 && decide ((k : Nat) = x1)
    | .aload_n k => len == 1 && decide ((k : Nat) = x1)
    | .iload k => len == 2 && decide ((k : Nat) = x1)
    | .lload k => len == 2 && decide ((k : Nat) = x1)
    | .aload k => len == 2 && decide ((k : Nat) = x1)
    | .istore_n k => len == 1 && decide ((k : Nat) = x1) && decide ((k : Nat) < nL)
    | .astore_n k => len == 1 && decide ((k : Nat) = x1) && decide ((k : Nat) < nL)
    | .lstore_n k => len == 1 && decide ((k : Nat) = x1) && decide ((k : Nat) + 1 < nL)
    | .istore k => len == 2 && decide ((k : Nat) = x1) && decide (k < nL)
    | .astore k => len == 2 && decide ((k : Nat) = x1) && decide (k < nL)
    | .lstore k => len == 2 && decide ((k : Nat) = x1) && decide (k + 1 < nL)
    | .iinc k n => len == 3 && decide (k = x1) && decide (k < nL) && decide (Int32.ofInt n = zi)
    | .ifCond _ off => len == 3 && decide ((pc : Int) + off = (x1 : Int))
    | .if_icmp _ off => len == 3 && decide ((pc : Int) + off = (x1 : Int))
    | .goto off => len == 3 && decide ((pc : Int) + off = (x1 : Int))
    | .tableswitch d a b os => decide ((pc : Int) + d = (x1 : Int)) && decide ((os.size : Int) = b - a + 1) && decide (ks.map (fun q => q.1.toInt) = (List.range os.size).map (fun (j : Nat) => a + (j : Int))) && decide (ks.map (fun q => (q.2 : Int)) = os.toList.map (fun o => (pc : Int) + o))
    | .lookupswitch d ps => decide ((pc : Int) + d = (x1 : Int)) && decide (ks.map (fun q => q.1.toInt) = ps.toList.map (fun o => o.1)) && decide (ks.map (fun q => (q.2 : Int)) = ps.toList.map (fun o => (pc : Int) + o.2)) && (ps.toList.zip (ps.toList.drop 1)).all (fun (a, next) => a.1 < next.1)
    | .getfield idx => len == 3 && (match vwCl[x1]? with
      | some (C, F, N) => decide (x2 < N) && decide ((F x2).1 = C) && atW x3 (.fieldLink own idx C (F x2).2.1 (F x2).2.2.1) && ((x4 == 2) == isRd (F x2).2.2.1)
      | none => false)
    | .putfield idx => len == 3 && (match vwCl[x1]? with
      | some (C, F, N) => decide (x2 < N) && decide ((F x2).1 = C) && atW x3 (.fieldLink own idx C (F x2).2.1 (F x2).2.2.1) && decide ((F x2).2.2.2 = false) && (isRd (F x2).2.2.1 == false) && (if x4 = 1 then decide (parseFieldDescriptor (F x2).2.2.1 = some .boolean) else decide (parseFieldDescriptor (F x2).2.2.1 = some .int))
      | none => false)
    | .getstatic idx => len == 3 && (match stA[x1]? with
      | some q => if x2 = 1 then (match nestF[x3]? with
          | some f => f.1 == own && f.2.1 == idx && f.2.2.1 == q.1 && f.2.2.2.1 == q.2.1 && f.2.2.2.2.1 == "[I"
          | none => false) else atW x3 (.fieldLink own idx q.1 q.2.1 "[I")
      | none => false)
    | .invokevirtual idx => len == 3 && (match mtab[x1]? with
      | some M => atW x3 (.methodLink own idx M.1) && okM M && decide (M.2.2.2.2.1 = x2) && (M.2.2.2.2.2.2.2.1 == false) && decide (M.2.2.2.2.2.1 + 1 ≤ fr) && decide (8 + (M.2.2.1 + 11) + M.2.2.2.2.2.2.1 ≤ lc) && (if x4 = 99 then M.1.cls == "java/lang/String" else match vwCl[x4]? with
          | some q => q.1 == M.1.cls
          | none => false)
      | none => false)
    | .invokestatic idx => len == 3 && (if x4 = 9 ∨ x4 = 8 then atW x3 (.methodLink own idx arraycopyName) && decide (1 ≤ fr) && decide (8 + (nativeFrameWords "java/lang/System" "arraycopy" 5 + 11) ≤ lc) else if x4 = 10 then atW x3 (.methodLink own idx Lib.Math.max.name) && decide (1 ≤ fr) && decide (21 ≤ lc) else if x4 = 11 then atW x3 (.methodLink own idx Lib.Math.min.name) && decide (1 ≤ fr) && decide (21 ≤ lc) else if x4 = 12 then atW x3 (.methodLink own idx Lib.Math.abs.name) && decide (1 ≤ fr) && decide (21 ≤ lc) else match mtab[x1]? with
      | some M => (if x4 = 1 then (match nestM[x3]? with
          | some f => f.1 == own && f.2.1 == idx && decide (f.2.2.1 = M.1)
          | none => false) else atW x3 (.methodLink own idx M.1)) && okM M && decide (M.2.2.2.2.1 = x2) && (M.2.2.2.2.2.2.2.1 == true) && decide (M.2.2.2.2.2.1 + 1 ≤ fr) && decide (8 + (M.2.2.1 + 11) + M.2.2.2.2.2.2.1 ≤ lc)
      | none => false)
    | .ireturn => len == 1 && (match rt with
      | some .int => true
      | some .boolean => x1 == 1
      | _ => false)
    | .lreturn => len == 1 && decide (rt = some .long)
    | .areturn => len == 1 && (match rt with
      | some (.object _) => true
      | some (.array _) => true
      | _ => false)
    | .return_ => len == 1 && decide (rt = none)
    | _ => len == 1
