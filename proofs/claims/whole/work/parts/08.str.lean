def chs0 (x : Int32) : Int32 := (strB.getD 0 []).getD x.toNatClampNeg 0
def ixF (c : Int32) : List Int32 → Nat → Int32
  | [], _ => -1
  | b :: l, k => if b = c then nI k else ixF c l (k + 1)
def ixs1 (c : Int32) : Int32 := ixF c (strB.getD 1 []) 0
section GOS
variable {p : Program} {l : Launch} {e : Env} {hR : Nat} {s : State} {m : MethodId} {args : Array Value} {below : List Frame} {meth : Method} {c : Code} {Q : State → Prop} {G : GT} {nL : Nat} {M : CM × OM} {pc index : Nat} {lv : List (Nat × Value)} {st : List Value} {cc : ByteArray} {own : String}
theorem go_ldcS0 (K : Kx p s m args meth c cc nL RX8 G) (hdg : decode cc pc = .ok (.ldc 59, 2)) (k : GO p l e hR s m args below meth c Q G nL M (pc + 2) lv (.ref (G.2.2.2.1 0) :: st)) : GO p l e hR s m args below meth c Q G nL M pc lv st :=
  fun H o ls h1 h2 h3 => va_ldcS K.1 K.2.1 K.2.2.2.1 K.2.2.2.2.2.1.2.2.2.1 hdg (k H o ls h1 h2 h3)
theorem go_ldcS1 (K : Kx p s m args meth c cc nL RX8 G) (hdg : decode cc pc = .ok (.ldc 76, 2)) (k : GO p l e hR s m args below meth c Q G nL M (pc + 2) lv (.ref (G.2.2.2.1 1) :: st)) : GO p l e hR s m args below meth c Q G nL M pc lv st :=
  fun H o ls h1 h2 h3 => va_ldcS K.1 K.2.1 K.2.2.2.1 K.2.2.2.2.2.1.2.2.2.2.1 hdg (k H o ls h1 h2 h3)
theorem go_slen0 (K : Kx p s m args meth c cc nL own G) (hl : Cond.methodLink own index yJ0_length_8abf5 ∈ TT) (hh : 6 < hR) (hdg : decode cc pc = .ok (.invokevirtual index, 3)) (k : GO p l e hR s m args below meth c Q G nL M (pc + 3) lv (.int (147 : Int32) :: st)) : GO p l e hR s m args below meth c Q G nL M pc lv (.ref (G.2.2.2.1 0) :: st) := by
  sorry
theorem go_charAt0 (K : Kx p s m args meth c cc nL own G) {x : Int32} (hx : inb x 147) (hl : Cond.methodLink own index yJ0_charAt_5068e ∈ TT) (hh : 6 < hR) (hdg : decode cc pc = .ok (.invokevirtual index, 3)) (k : GO p l e hR s m args below meth c Q G nL M (pc + 3) lv (.int (chs0 x) :: st)) : GO p l e hR s m args below meth c Q G nL M pc lv (.int x :: .ref (G.2.2.2.1 0) :: st) := by
  sorry
theorem go_indexOf1 (K : Kx p s m args meth c cc nL own G) {x : Int32} (hl : Cond.methodLink own index yJ0_indexOf_0f7a4 ∈ TT) (hh : 6 < hR) (hdg : decode cc pc = .ok (.invokevirtual index, 3)) (k : GO p l e hR s m args below meth c Q G nL M (pc + 3) lv (.int (ixs1 x) :: st)) : GO p l e hR s m args below meth c Q G nL M pc lv (.int x :: .ref (G.2.2.2.1 1) :: st) := by
  sorry
end GOS
