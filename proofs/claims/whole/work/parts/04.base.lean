/-! The world: all cells of the class and of the reference, at addresses base + i; a memory C for the class, O for the reference. -/
abbrev CM : Type := Nat → Nat → Int32
abbrev OM : Type := (Nat → Nat → Int32) × (Nat → Nat → Int64)
abbrev GT : Type := va_G × (Nat → ClassId) × Nat × (Nat → Nat) × (Nat → Nat)
abbrev gB (G : GT) : Nat := G.2.2.1
def NN : Nat := 475
def up2 (C : CM) (i k : Nat) (v : Int32) : CM := fun a => if a = i then upd (C i) k v else C a
def rowC (C : CM) (i : Nat) (f : Nat → Int32) : CM := fun a => if a = i then f else C a
def oup (O : OM) (i k : Nat) (v : Int32) : OM := (up2 O.1 i k v, O.2)
def oupJ (O : OM) (i k : Nat) (v : Int64) : OM := (O.1, fun a => if a = i then vp_updL (O.2 i) k v else O.2 a)
/-- the cells of a State, of a Script, of a Whole, by their places from the first on -/
def shSt (k : Nat) : Nat × Nat := match k with
  | 0 => (3, 0) | 1 => (20, 7) | 2 => (20, 7) | 3 => (20, 7) | 4 => (20, 49) | _ => (20, 90)
def shSc (k : Nat) : Nat × Nat := match k with
  | 0 => (4, 0) | 1 => (20, 300) | 2 => (20, 4) | 3 => (20, 4) | 4 => (20, 24) | _ => (20, 72)
def shWh (k : Nat) : Nat × Nat := if k = 0 then (2, 0) else if k < 7 then shSt (k - 1) else if k = 7 then (20, 5) else if k = 8 then (25, 30) else shSt ((k - 9) % 6)
def shX (k : Nat) : Nat × Nat := match k with
  | 0 => (24, 4) | 1 => (5, 0) | 2 => (6, 0) | 3 => (20, 10) | 4 => (20, 64) | 5 => (5, 1)
  | 6 => (3, 0) | 7 => (20, 7) | 8 => (20, 7) | 9 => (20, 7) | 10 => (20, 49) | 11 => (20, 90)
  | 12 => (6, 1) | 13 => (20, 10) | 14 => (20, 64) | 15 => (7, 0) | 16 => (20, 300) | 17 => (8, 0)
  | 18 => (4, 0) | 19 => (20, 300) | 20 => (20, 4) | 21 => (20, 4) | 22 => (20, 24) | 23 => (20, 72)
  | 24 => (9, 0) | 25 => (10, 0) | 26 => (20, 128) | 27 => (20, 128) | 28 => (11, 0) | 29 => (20, 10) | 30 => (20, 10) | 31 => (20, 10) | _ => (20, 5)
def shM (k : Nat) : Nat × Nat := match k with
  | 0 => (12, 0) | 1 => (21, 5130) | 2 => (21, 5130) | 3 => (22, 300) | 4 => (21, 4) | 5 => (21, 96) | 6 => (21, 96) | 7 => (21, 96) | 8 => (21, 96) | 9 => (21, 96)
  | 10 => (21, 1600) | 11 => (21, 1600) | 12 => (21, 40) | 13 => (21, 41) | 14 => (21, 80) | 15 => (21, 80) | 16 => (21, 41)
  | 17 => (21, 24) | 18 => (21, 24) | 19 => (21, 24) | 20 => (21, 24) | 21 => (21, 24) | 22 => (21, 400) | 23 => (21, 400)
  | 24 => (21, 164) | 25 => (21, 10) | 26 => (23, 200) | 27 => (21, 2048) | _ => (21, 128)
def SH (i : Nat) : Nat × Nat :=
  if i = 0 then (0, 0) else if i = 1 then (1, 0) else if i < 5 then (20, 7) else if i < 194 then shWh (i - 5) else if i < 383 then shWh (i - 194)
  else if i < 389 then shSc (i - 383) else if i < 422 then shX (i - 389) else if i < 446 then shSc ((i - 422) % 6) else shM (i - 446)
/-- town (q = 0) and foreseen (q = 1): the Town, its State, its Laws -/
def twI (q : Nat) : Nat := if q = 0 then 390 else 394
def stI (q : Nat) : Nat := if q = 0 then 6 else 395
def laI (q : Nat) : Nat := if q = 0 then 391 else 401
def StAt (s : Nat) : Prop := s + 5 < 446 ∧ SH s = (3, 0) ∧ SH (s + 1) = (20, 7) ∧ SH (s + 2) = (20, 7) ∧ SH (s + 3) = (20, 7) ∧ SH (s + 4) = (20, 49) ∧ SH (s + 5) = (20, 90)
def ScAt (s : Nat) : Prop := s + 5 < 446 ∧ SH s = (4, 0) ∧ SH (s + 1) = (20, 300) ∧ SH (s + 2) = (20, 4) ∧ SH (s + 3) = (20, 4) ∧ SH (s + 4) = (20, 24) ∧ SH (s + 5) = (20, 72)
def WhAt (w : Nat) : Prop := w = 5 ∨ w = 194
/-- what an object holds -/
abbrev fsX (b i : Nat) (f g : Nat → Int32) (q : Nat) : Nat → List Value := fun k => match k with
  | 0 => [.int (f 0), .int (f 1), .int (f 2), .int (f 3), .int (f 4), .int (f 5)]
  | 1 => [.ref (b + 1), .ref (b + stI q), .ref (b + (i + 1)), .ref (b + (i + 2)), .int (f 4), .ref (b + (f 5).toNatClampNeg)]
  | 2 => [.int (f 0), .int (f 1), .ref (b + (i + 1)), .ref (b + (i + 2)), .ref (b + (i + 3)), .ref (b + (i + 4))]
  | 3 => [.ref (b + (i + 1)), .ref (b + (i + 2)), .ref (b + (i + 3))]
  | 4 => [.ref (b + (i + 1)), .int (f 1), .int (f 2), .ref (b + 404), .int (f 4)]
  | 5 => [.ref (b + (i + 1)), .ref (b + (i + 2))]
  | 6 => [.ref (b + (i + 1)), .ref (b + (i + 2)), .ref (b + (i + 3)), .ref (b + (i + 4)), .ref (b + (i + 5)), .int (f 5), .int (f 6)]
  | 7 => [.int (f 0), .int (f 1), .int (f 2), .int (f 3), .int (f 4), .ref (b + (i + 1)), .ref (b + (i + 2)), .ref (b + (i + 3)), .ref (b + (i + 4)), .ref (b + (i + 5))]
  | 8 => [.ref (b + (i + 1)), .int (f 1), .int (f 2), .int (f 3), .int (f 4), .int (f 5)]
  | 9 => [.ref (b + stI q), .ref (b + laI q), .ref (b + 1)]
  | 10 => [.ref (b + (i + 1)), .ref (b + (i + 7)), .int (f 2), .int (f 3), .int (f 4), .ref (b + (i + 8)), .int (f 6)]
  | 11 => [.ref (b + 1), .ref (b + 5), .ref (b + 194), .ref (b + 383), .ref (b + 389), .ref (b + 390), .ref (b + 394), .ref (b + 404), .ref (b + 406), .ref (b + 413), .ref (b + 414), .ref (b + 417)]
  | _ => [.ref (b + 447), .ref (b + 448), .ref (b + 449), .int (g 3), .int (g 4), .int (g 5), .ref (b + 450), .ref (b + 451), .ref (b + 452), .ref (b + 453), .ref (b + 454), .ref (b + 455), .ref (b + 456), .ref (b + 457),
    .int (g 14), .int (g 15), .int (g 16), .int (g 17), .int (g 18), .int (g 19), .int (g 20), .int (g 21), .int (g 22), .ref (b + 458), .ref (b + 459), .int (g 25), .ref (b + 460), .ref (b + 461), .int (g 28), .ref (b + 462), .int (g 30), .int (g 31),
    .ref (b + 463), .ref (b + 464), .ref (b + 465), .ref (b + 466), .ref (b + 467), .int (g 37), .ref (b + 468), .ref (b + 469), .ref (b + 470), .ref (b + 471), .ref (b + 472), .int (g 43), .ref (b + 473), .ref (b + 474)]
/-- a cell: by its kind, out of its rows of the memories -/
def cellE (G : GT) (f g : Nat → Int32) (h : Nat → Int64) (i : Nat) (sh : Nat × Nat) : va_E := match sh with
  | (0, _) => .inr (11, fsX (gB G) i f g 0 11)
  | (1, _) => .inr (3, fsX (gB G) i f g 0 3)
  | (2, _) => .inr (10, fsX (gB G) i f g 0 10)
  | (3, _) => .inr (7, fsX (gB G) i f g 0 7)
  | (4, _) => .inr (6, fsX (gB G) i f g 0 6)
  | (5, q) => .inr (9, fsX (gB G) i f g q 9)
  | (6, q) => .inr (1, fsX (gB G) i f g q 1)
  | (7, _) => .inr (8, fsX (gB G) i f g 0 8)
  | (8, _) => .inr (4, fsX (gB G) i f g 0 4)
  | (9, _) => .inr (0, fsX (gB G) i f g 0 0)
  | (10, _) => .inr (5, fsX (gB G) i f g 0 5)
  | (11, _) => .inr (2, fsX (gB G) i f g 0 2)
  | (12, _) => .inr (12, fsX (gB G) i f g 0 12)
  | (20, n) => .inl (G.2.1 0, n, .inl f)
  | (21, n) => .inl (G.2.1 0, n, .inl g)
  | (22, n) => .inl (G.2.1 1, n, .inl g)
  | (23, n) => .inl (G.2.1 2, n, .inr (.inl h))
  | (24, n) => .inl (G.2.1 3, n, .inr (.inr (.inr (.inr (fun k => some (gB G + (422 + 6 * k)))))))
  | (_, n) => .inl (G.2.1 4, n, .inr (.inr (.inr (.inr (fun k => some (gB G + (i + 1 + 6 * k)))))))
def cellM (G : GT) (M : CM × OM) (i : Nat) : Nat × va_E := (gB G + i, cellE G (M.1 i) (M.2.1 i) (M.2.2 i) i (SH i))
def wld (G : GT) (M : CM × OM) : va_W := (List.range NN).map (cellM G M)
abbrev tysG (G : GT) : List (ClassId × FieldType) := [(G.2.1 0, .int), (G.2.1 1, .byte), (G.2.1 2, .long), (G.2.1 3, .object "BowsOwed$Script"), (G.2.1 4, .object "BowsOwed$State")]
def Fr (G : GT) : Nat → Prop := fun q => gB G ≤ q
theorem wld_at (G : GT) (M : CM × OM) {i : Nat} (hi : i < NN) : (wld G M)[i]? = some (cellM G M i) := by
  unfold wld
  rw [List.getElem?_map, List.getElem?_range hi]; rfl
theorem wld_len (G : GT) (M : CM × OM) : (wld G M).length = NN := by unfold wld; simp
theorem wld_D (G : GT) (M : CM × OM) : va_D (Fr G) (wld G M) := by
  have key : ∀ (i : Nat) (p : Nat × va_E), (wld G M)[i]? = some p → p = cellM G M i := by
    intro i p h
    have hi : i < NN := by rw [← wld_len G M]; exact (List.getElem?_eq_some_iff.mp h).1
    rw [wld_at G M hi] at h; exact (Option.some.inj h).symm
  refine ⟨fun i j p q h1 h2 h3 => ?_, fun k q h => ?_⟩
  · rw [key i p h1, key j q h2] at h3
    exact Nat.add_left_cancel h3
  · rw [key k q h]
    exact Nat.le_add_right _ _
theorem wld_ext (G : GT) (M M' : CM × OM) {i : Nat} (hi : i < NN) (e : va_E) (hne : ∀ j, j ≠ i → M'.1 j = M.1 j ∧ M'.2.1 j = M.2.1 j ∧ M'.2.2 j = M.2.2 j) (he : e = (cellM G M' i).2) : (wld G M).set i (gB G + i, e) = wld G M' := by
  subst he
  apply List.ext_getElem?
  intro j
  by_cases hj : j < NN
  · by_cases hji : i = j
    · subst hji
      rw [List.getElem?_set_self (by rw [wld_len]; exact hi), wld_at G M' hi]; rfl
    · rw [List.getElem?_set_ne hji, wld_at G M hj, wld_at G M' hj]
      obtain ⟨h1, h2, h3⟩ := hne j (fun h => hji h.symm)
      unfold cellM
      rw [h1, h2, h3]
  · rw [List.getElem?_eq_none (by rw [List.length_set, wld_len]; omega), List.getElem?_eq_none (by rw [wld_len]; omega)]
theorem up2_ne {C : CM} {i k : Nat} {v : Int32} {j : Nat} (h : j ≠ i) : up2 C i k v j = C j := by simp [up2, h]
theorem up2_eq {C : CM} {i k : Nat} {v : Int32} : up2 C i k v i = upd (C i) k v := by simp [up2]
theorem rowC_ne {C : CM} {i : Nat} {f : Nat → Int32} {j : Nat} (h : j ≠ i) : rowC C i f j = C j := by simp [rowC, h]
theorem rowC_eq {C : CM} {i : Nat} {f : Nat → Int32} : rowC C i f i = f := by simp [rowC]
/-- words on nest mates' private members: the tables hold them, a contract carries them in its start -/
def nestL : List (String × Nat × MethodName) := [(RX11, 9, yX3_init), (RX10, 11, yX7_init), (RX11, 28, yX6_init), (RX11, 52, yX7_init), (RX11, 58, yX8_init), (RX4, 11, yX6_init), (RX11, 74, yX0_init), (RX11, 81, yX5_init), (RX11, 88, yX2_init), (RX3, 21, yX11_within), (RX7, 68, yX11_within), (RX6, 44, yX11_isLaw), (RX6, 40, yX11_within), (RX1, 86, yX11_within), (RX1, 48, yX11_clamped), (RX10, 53, yX11_within), (RX7, 60, yX11_clamped), (RX8, 19, yX11_within), (RX4, 57, yX11_within), (RX4, 61, yX11_isLaw), (RX2, 52, yX11_within)]
def tx0 : String := "size more late ruin one bow owe walk retreat clear feast hour back day who age whom other owes due given at to of and or not owed if then else end "
def tx1 : String := "<>=#+-*/();"
def strB : List (List Int32) := [tx0.toList.map (fun c => Int32.ofNat c.toNat), tx1.toList.map (fun c => Int32.ofNat c.toNat)]
def strL : List Nat := [147, 11]
/-- what holds of the machine all along: classes, arrays' classes, nest mates, the two String constants, a static -/
def xx (G : GT) (U : State) (H : Heap) : Prop :=
  va_K G.1 vwCl (tysG G) U ∧ (∀ q ∈ nestL, va_Nw (.methodLinkNest q.1 q.2.1 q.2.2 "BowsOwed") U) ∧ vk_S 2 strL strB G.2.2.2.1 G.2.2.2.2 (Fr G) U H ∧ vk_R RX8 59 tx0 (G.2.2.2.1 0) U ∧ vk_R RX8 76 tx1 (G.2.2.2.1 1) U ∧ va_Z "java/lang/String" "COMPACT_STRINGS" "Z" (.int 1) (Fr G) U H ∧ va_Zq "jdk/internal/util/Preconditions" "SIOOBE_FORMATTER" "Ljava/util/function/BiFunction;" (Fr G) U H
theorem xx.go {G : GT} {s U : State} {H H1 : Heap} (hW : s.WarmedH U.vm) (hk : ∀ a : Nat, a < H.size → ¬ Fr G a → H1[a]? = H[a]?) (h : xx G s H) : xx G U H1 := by
  obtain ⟨h1, h2, h3, h4, h5, h6, h7⟩ := h
  exact ⟨va_K.moved hW.alike h1, fun q hq => va_Nw.warmM hW (h2 q hq), (h3.moved hW.alike).kept hk, h4.warm hW, h5.warm hW, (h6.moved hW.alike).kept hk, (h7.moved hW.alike).kept hk⟩
/-- the world in a heap; the world in a state -/
def Wl (G : GT) (M : CM × OM) (H : Heap) : Prop := va_P G.1 vwCl (wld G M) H
def wB (G : GT) (M : CM × OM) (U : State) : Prop := Wl G M U.heap ∧ xx G U U.heap
abbrev rmH (h : Nat) : Room := { frames := h, cells := 0, slots := 0, locals := 60 * h }
def MI (l : Launch) (G : GT) (y : MethodName) (cc : ByteArray) (nL : Nat) (ret : Option FieldType) (h : Nat) (av : List Value) (M : CM × OM) (r : Int32) (M' : CM × OM) : Prop :=
  Met l y (.code y cc nL ret :: TT) (rmH h) (va_Pc av (wB G M)) (va_Qi (fun (r' : Int32) (u : CM × OM) => r' = r ∧ u = M') (wB G) (Fr G)) 0 0 (Fr G)
def MJ (l : Launch) (G : GT) (y : MethodName) (cc : ByteArray) (nL : Nat) (ret : Option FieldType) (h : Nat) (av : List Value) (M : CM × OM) (r : Int64) (M' : CM × OM) : Prop :=
  Met l y (.code y cc nL ret :: TT) (rmH h) (va_Pc av (wB G M)) (va_Ql (fun (r' : Int64) (u : CM × OM) => r' = r ∧ u = M') (wB G) (Fr G)) 0 0 (Fr G)
def MV (l : Launch) (G : GT) (y : MethodName) (cc : ByteArray) (nL : Nat) (ret : Option FieldType) (h : Nat) (av : List Value) (M : CM × OM) (M' : CM × OM) : Prop :=
  Met l y (.code y cc nL ret :: TT) (rmH h) (va_Pc av (wB G M)) (va_Qv (fun (u : CM × OM) => u = M') (wB G) (Fr G)) 0 0 (Fr G)
def MR (l : Launch) (G : GT) (y : MethodName) (cc : ByteArray) (nL : Nat) (ret : Option FieldType) (h : Nat) (av : List Value) (M : CM × OM) (r : Nat) (M' : CM × OM) : Prop :=
  Met l y (.code y cc nL ret :: TT) (rmH h) (va_Pc av (wB G M)) (va_Qr (fun (u : CM × OM) => u = M') (fun u a t => a = gB G + r ∧ wB G u t) (Fr G)) 0 0 (Fr G)
/-- what a body stands on -/
def Kx (p : Program) (s : State) (m : MethodId) (args : Array Value) (meth : Method) (c : Code) (cc : ByteArray) (nL : Nat) (own : String) (G : GT) : Prop :=
  p.tables.exec = Jvm.exec ∧ c.code = cc ∧ c.maxLocals = nL ∧ s.vm.findClass own = some m.cls ∧ (∀ w ∈ TT, w.before args s = true) ∧ xx G s s.heap ∧ meth.locks = false
/-- the machine in a body, at pc with these locals and this stack, over any heap of which Wp holds, comes to its end -/
def GOg (p : Program) (l : Launch) (e : Env) (R : Room) (cells slots : Nat) (s : State) (m : MethodId) (args : Array Value) (below : List Frame) (meth : Method) (c : Code) (Q : State → Prop) (G : GT) (nL : Nat) (Wp : Heap → Prop) (pc : Nat) (lv : List (Nat × Value)) (st : List Value) : Prop :=
  ∀ (H : Heap) (locs : List Loc) (ls : Array Slot), Wp H → va_S (Fr G) s.heap H locs → lv_has ls nL lv → W p l e R s m args below meth c H locs cells slots Q (F0 m pc ls st)
abbrev GO (p : Program) (l : Launch) (e : Env) (hR : Nat) (s : State) (m : MethodId) (args : Array Value) (below : List Frame) (meth : Method) (c : Code) (Q : State → Prop) (G : GT) (nL : Nat) (M : CM × OM) (pc : Nat) (lv : List (Nat × Value)) (st : List Value) : Prop :=
  GOg p l e (rmH hR) 0 0 s m args below meth c Q G nL (Wl G M) pc lv st
theorem good_cons {c0 c1 : Cond} (h : c1 ∈ TT) : GoodIn (c0 :: TT) (c1 :: TT) := by
  intro w hw
  have hm : w ∈ TT := by
    rcases List.mem_cons.mp hw with rfl | hw
    · exact h
    · exact hw
  exact ⟨List.mem_cons_of_mem _ hm, good_of_word (List.mem_filter.mp hm).2⟩
theorem good_TT {c1 : Cond} (h : c1 ∈ TT) : GoodIn TT (c1 :: TT) := by
  intro w hw
  have hm : w ∈ TT := by
    rcases List.mem_cons.mp hw with rfl | hw
    · exact h
    · exact hw
  exact ⟨hm, good_of_word (List.mem_filter.mp hm).2⟩
theorem met_ofF {l : Launch} {y : MethodName} {ws ws' : List Cond} {rm : Room} {Pc : Array Value → State → Prop} {Qc : Array Value → State → Outcome → State → Prop} {mc ms : Nat} {free : Addr → Prop} {cc : ByteArray} {maxL : Nat} {ret : Option FieldType}
    (hy : plainFor y = true) (hw : ws = Cond.code y cc maxL ret :: ws')
    (body : ∀ p e s m args below meth c s₁, BodyLoose p l y (headSpec ws rm) cc maxL ret e s m args below meth c s₁ → c.maxLocals = maxL → Pc args s →
      W p l e (headSpec ws rm).room s m args below meth c s.heap [] 0 0 (MQ below Qc args s mc ms free) (entryFrame m args maxL)) : Met l y ws rm Pc Qc mc ms free := by
  refine MetFree.of_bodySF (code := cc) (maxLocals := maxL) (ret := ret) hy ?_ ?_
  · intro args s m h hn
    obtain ⟨meth, c, h1, h2, h3, h4, h5, h6, -, -⟩ := Cond.code_spec hn (atoms_spec (ws := ws) h _ (by rw [hw]; exact List.mem_cons_self))
    exact ⟨meth, c, h1, h2, h3, h4, h5, h6⟩
  · intro p e s m args below meth c s₁ B hml hP _
    have hh0 : s₁.heap = s.heap := by rw [B.state]; rfl
    obtain ⟨t, a1, o, b1, b2, b3⟩ := body p e s m args below meth c s₁ B hml hP s₁ hh0 (Stand.of_body B)
    exact ⟨t, o, a1, b1, b2, ⟨b3.1, b3.2⟩⟩
/-- from a contract to its body -/
theorem met_in {l : Launch} {G : GT} {y : MethodName} {cc : ByteArray} {nL : Nat} {ret : Option FieldType} {h : Nat} {av : List Value} {M : CM × OM} {Qc : Array Value → State → Outcome → State → Prop} (own : String) (hy : plainFor y = true) (ho : y.cls = own) (lv : List (Nat × Value)) (hlv : lv_args 0 av = lv) (hn : (lg_sl av).length ≤ nL)
    (body : ∀ (p : Program) (e : Env) (s : State) (m : MethodId) (args : Array Value) (below : List Frame) (meth : Method) (c : Code), Kx p s m args meth c cc nL own G → meth.sig.returnType = ret →
      GO p l e h s m args below meth c (MQ below Qc args s 0 0 (Fr G)) G nL M 0 lv []) :
    Met l y (.code y cc nL ret :: TT) (rmH h) (va_Pc av (wB G M)) Qc 0 0 (Fr G) := by
  refine met_ofF (cc := cc) (maxL := nL) (ret := ret) hy rfl ?_
  intro p e s m args below meth c s₁ B hml hv
  obtain ⟨rfl, hw, hX⟩ := hv
  have hts := atoms_spec (ws := .code y cc nL ret :: TT) B.pre
  have hown : s.vm.findClass y.cls = some m.cls := findClass_of_methodNamed B.named
  rw [ho] at hown
  have hl := lv_entry av (n := nL) hn
  rw [hlv] at hl
  rw [lg_entry_eq]
  exact body p e s m _ below meth c ⟨B.exec, B.bytes, hml, hown, fun w hw => hts w (List.mem_cons_of_mem _ hw), hX, B.notSynchronized⟩ B.returns s.heap [] _ hw va_S.rf hl
