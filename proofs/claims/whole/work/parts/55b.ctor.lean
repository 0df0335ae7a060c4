/-! a fill of the row made last -/
section CTL
variable {p : Program} {l : Launch} {e : Env} {R : Room} {s : State} {m : MethodId} {args : Array Value} {below : List Frame} {meth : Method} {c : Code} {cells slots : Nat} {Q : State → Prop}
variable {D : va_G} {cy : Nat → ClassId} {ad : Nat → Nat} {A : Nat → Prop} {nL : Nat} {own : String} {cc : ByteArray} {pc : Nat} {lv : List (Nat × Value)} {st : List Value} {pre : va_W}
theorem y_iastL (C : Cy D cy ad A nL p s m args c own cc) {a n : Nat} {f : Nat → Int32} {i x : Int32} {j : Nat} (hj : i.toNatClampNeg = j) (hin : vp_in i n) (hdg : decode cc pc = .ok (.iastore, 1)) (kk : Vy D A nL p l e R s m args below meth c Q (pc + 1) lv st (pre ++ [(a, .inl (cy 1, n, .inl (upd f j x)))]) cells slots) : Vy D A nL p l e R s m args below meth c Q pc lv (.int x :: .int i :: .ref a :: st) (pre ++ [(a, .inl (cy 1, n, .inl f))]) cells slots := by
  refine y_iast C pre.length (f := f) (by simp) hj hin hdg ?_
  have e : (pre ++ [(a, .inl (cy 1, n, .inl f))] : va_W).set pre.length (a, .inl (cy 1, n, .inl (upd f j x))) = pre ++ [(a, .inl (cy 1, n, .inl (upd f j x)))] := by simp
  rw [e]
  exact kk
theorem y_castL (C : Cy D cy ad A nL p s m args c own cc) {a n : Nat} {f : Nat → Int32} {i x y : Int32} {j : Nat} (hj : i.toNatClampNeg = j) (hin : vp_in i n) (hy : vp_nar .char x = y) (hdg : decode cc pc = .ok (.castore, 1)) (kk : Vy D A nL p l e R s m args below meth c Q (pc + 1) lv st (pre ++ [(a, .inl (cy 3, n, .inl (upd f j y)))]) cells slots) : Vy D A nL p l e R s m args below meth c Q pc lv (.int x :: .int i :: .ref a :: st) (pre ++ [(a, .inl (cy 3, n, .inl f))]) cells slots := by
  refine y_cast C pre.length (f := f) (by simp) hj hin hy hdg ?_
  have e : (pre ++ [(a, .inl (cy 3, n, .inl f))] : va_W).set pre.length (a, .inl (cy 3, n, .inl (upd f j y))) = pre ++ [(a, .inl (cy 3, n, .inl (upd f j y)))] := by simp
  rw [e]
  exact kk
end CTL
