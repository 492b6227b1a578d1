/-! Constructors: the world while it grows: n cells, the cell i holds E i. -/
def C0 : CM := fun i k => match SH i with
  | (3, _) => if k = 3 then 97 else 0
  | (2, _) => if k = 3 then -1 else 0
  | (8, _) => if k = 1 then -1 else if k = 2 then -1 else 0
  | (6, _) => if k = 5 then nI 383 else 0
  | (20, n) => if n = 5 then (if i = 421 then 0 else if k < 5 then -1 else 0) else 0
  | _ => 0
def O0 : OM := (fun i k => if i = 446 then (if k = 4 then -1 else if k = 5 then -1 else 0) else 0, fun _ _ => 0)
def upE (E : Nat → va_E) (i : Nat) (e : va_E) : Nat → va_E := fun j => if j = i then e else E j
def finG (G : GT) : Nat → va_E := fun j => (cellM G (C0, O0) j).2
def finE (G : GT) (E : Nat → va_E) (i n : Nat) : Nat → va_E := fun j => if j = i ∨ n ≤ j then finG G j else E j
def CW (G : GT) (n : Nat) (E : Nat → va_E) (H : Heap) : Prop := H.size = gB G + n ∧ ∀ i, i < n → va_at G.1 vwCl (gB G + i, E i) H
def cB (G : GT) (n : Nat) (E : Nat → va_E) (U : State) : Prop := CW G n E U.heap ∧ xx G U U.heap ∧ va_AO "BowsOwed$State" U ∧ va_AO "BowsOwed$Script" U
abbrev rmC (h mc ms : Nat) : Room := { frames := h, cells := mc, slots := ms, locals := 60 * h }
def MC (l : Launch) (G : GT) (y : MethodName) (cc : ByteArray) (nL : Nat) (mc ms h : Nat) (av : List Value) (n : Nat) (E : Nat → va_E) (n' : Nat) (E' : Nat → va_E) : Prop :=
  Met l y (.code y cc nL none :: TT) (rmC h mc ms) (va_Pc av (cB G n E)) (va_Qv (fun (_ : Unit) => True) (fun _ U => cB G n' E' U) (Fr G)) mc ms (Fr G)
def Kc (p : Program) (s : State) (m : MethodId) (args : Array Value) (meth : Method) (c : Code) (cc : ByteArray) (nL : Nat) (own : String) (G : GT) : Prop :=
  Kx p s m args meth c cc nL own G ∧ va_AO "BowsOwed$State" s ∧ va_AO "BowsOwed$Script" s
theorem CW.congr {G : GT} {n : Nat} {E E' : Nat → va_E} {H : Heap} (h : CW G n E H) (he : ∀ i, i < n → E i = E' i) : CW G n E' H := ⟨h.1, fun i hi => by rw [← he i hi]; exact h.2 i hi⟩
theorem CW.up {G : GT} {n : Nat} {E : Nat → va_E} {H H1 : Heap} (h : CW G n E H) {i : Nat} {e : va_E} (hz : H1.size = H.size) (oq : ∀ q, q ≠ gB G + i → H1[q]? = H[q]?) (he : va_at G.1 vwCl (gB G + i, e) H1) : CW G n (upE E i e) H1 := by
  refine ⟨hz.trans h.1, fun j hj => ?_⟩
  unfold upE
  by_cases hji : j = i
  · rw [if_pos hji, hji]; exact he
  · rw [if_neg hji]
    exact (h.2 j hj).kept (oq _ (by show gB G + j ≠ gB G + i; omega))
theorem CW.push {G : GT} {n : Nat} {E : Nat → va_E} {H H1 : Heap} (h : CW G n E H) {e : va_E} (hz : H1.size = H.size + 1) (oq : ∀ q, q < H.size → H1[q]? = H[q]?) (he : va_at G.1 vwCl (gB G + n, e) H1) : CW G (n + 1) (upE E n e) H1 := by
  refine ⟨by rw [hz, h.1]; omega, fun j hj => ?_⟩
  unfold upE
  by_cases hji : j = n
  · rw [if_pos hji, hji]; exact he
  · rw [if_neg hji]
    have hjn : j < n := by omega
    exact (h.2 j hjn).kept (oq _ (by show gB G + j < H.size; rw [h.1]; omega))
theorem cB_blind (G : GT) (av : List Value) (n : Nat) (E : Nat → va_E) : FrameBlind (va_Pc av (cB G n E)) :=
  fun a U g mk q => ⟨q.1, q.2.1, xx.same (U := U) (U1 := U.calling g mk a) rfl q.2.2.1, va_AO.moved (u := U) (U := U.calling g mk a) (Vm.Alike.refl U.vm) q.2.2.2.1, va_AO.moved (u := U) (U := U.calling g mk a) (Vm.Alike.refl U.vm) q.2.2.2.2⟩
theorem kc_objectInit : (Cond.code Lib.objectInit ⟨#[0xb1]⟩ 1 none) ∈ TT := tt_1 (List.mem_of_getElem? (i := 29) rfl) rfl
section GOC2
variable {p : Program} {l : Launch} {e : Env} {R : Room} {cells slots : Nat} {s : State} {m : MethodId} {args : Array Value} {below : List Frame} {meth : Method} {c : Code} {Q : State → Prop} {G : GT} {nL n n' : Nat} {E E' : Nat → va_E} {pc index i : Nat} {lv : List (Nat × Value)} {st rest As : List Value} {cc : ByteArray} {own : String}
theorem cB_in (K : Kc p s m args meth c cc nL own G) {H : Heap} {locs : List Loc} (h1 : CW G n E H) (hS : va_S (Fr G) s.heap H locs) (av : List Value) : ∀ U : State, U.heap = H → s.WarmedH U.vm → va_Pc av (cB G n E) av.toArray U := by
  intro U hU hW
  refine ⟨rfl, ?_, ?_, va_AO.moved hW.alike K.2.1, va_AO.moved hW.alike K.2.2⟩
  · rw [hU]; exact h1
  · rw [hU]; exact xx.go hW hS.2.1 K.1.2.2.2.2.2.1
theorem cg_new (K : Kc p s m args meth c cc nL own G) {ci : Nat} {C : String} {T : u_T} {N : Nat} (hin : ∀ w ∈ u_ws C T N, w ∈ TT) (ty : Nat → FieldType) (hty : ∀ k, k < N → parseFieldDescriptor (T k).2.2.1 = some (ty k)) (hcl : Cond.classLink own index C ∈ TT) (hinst : Cond.instantiable C N ∈ TT) (hini : Cond.initialized C ∈ TT) (hc : vwCl[ci]? = some (C, T, N)) {fs : List Value} (hfs : ∀ j, j < N → defaultValue (ty j) = vp_V fs j) (hcells : cells + 1 ≤ R.cells) (hslots : slots + N ≤ R.slots) (hdg : decode cc pc = .ok (.new index, 3))
    (kk : GOg p l e R (cells + 1) (slots + N) s m args below meth c Q G nL (CW G (n + 1) (upE E n (.inr (ci, fs)))) (pc + 3) lv (.ref (gB G + n) :: st)) : GOg p l e R cells slots s m args below meth c Q G nL (CW G n E) pc lv st := by
  intro H o ls h1 h2 h3
  have hKn := K.1.2.2.2.2.2.1.1.1 ci _ hc
  refine W.newcK K.1.1 K.1.2.1 K.1.2.2.2.1 (K.1.2.2.2.2.1 _ hcl) (K.1.2.2.2.2.1 _ hinst) (K.1.2.2.2.2.1 _ hini) rfl hdg hcells hslots hKn.2.1 h1.1 fun H1 kC hkC e1 z1 o1 => ?_
  have hat : va_at G.1 vwCl (gB G + n, .inr (ci, fs)) H1 := ⟨_, hc, (u_born ty K.1.2.2.2.2.1 hin hKn hkC e1 hty).to hfs⟩
  exact kk H1 o ls (h1.push (by rw [z1, h1.1]) (fun q hq => o1 q (by rw [← h1.1]; exact hq)) hat) ⟨Nat.le_trans h2.1 (by rw [h1.1, z1]; omega), fun q g1 g2 => (o1 q (by rw [← h1.1]; exact Nat.lt_of_lt_of_le g1 h2.1)).trans (h2.2.1 q g1 g2), h2.2.2⟩ h3
theorem cg_newa (K : Kc p s m args meth c cc nL own G) {atype : ArrayType} (harr : Cond.arrayClass (newarray.typeOf atype) ∈ TT) {t0 : Nat} {cA : ClassId} (ht : (tysG G)[t0]? = some (cA, newarray.typeOf atype)) (hra : ∀ C, newarray.typeOf atype ≠ .object C) {x : Int32} {N : Nat} {a0 : vp_A} (ha : vp_cell cA a0 = arrV cA N (fun _ => defaultValue (newarray.typeOf atype))) (hn : ¬ x < 0) (hN : x.toNatClampNeg = N) (hbytes : N * componentBytes (newarray.typeOf atype) ≤ 536870912) (hcells : cells + 1 ≤ R.cells) (hslots : slots + N ≤ R.slots) (hdg : decode cc pc = .ok (.newarray atype, 2))
    (kk : GOg p l e R (cells + 1) (slots + N) s m args below meth c Q G nL (CW G (n + 1) (upE E n (.inl (cA, a0)))) (pc + 2) lv (.ref (gB G + n) :: st)) : GOg p l e R cells slots s m args below meth c Q G nL (CW G n E) pc lv (.int x :: st) := by
  intro H o ls h1 h2 h3
  refine va_newaK K.1.1 K.1.2.1 (K.1.2.2.2.2.1 _ harr) rfl hdg rfl hn hN hbytes hcells hslots h1.1 fun H1 cA' e1 z1 o1 hAr hNm => ?_
  have hRA := (K.1.2.2.2.2.2.1.1.2 t0 _ ht).2
  have hcc : cA' = cA := by
    have hf : s.vm.findClass ("[" ++ (newarray.typeOf atype).toString) = some cA := by cases atype <;> exact hRA
    exact Option.some.inj (hNm.symm.trans hf)
  subst hcc
  have hat : va_at G.1 vwCl (gB G + n, .inl (cA', a0)) H1 := by
    show H1[gB G + n]? = some (vp_cell _ _)
    rw [ha]; exact e1
  exact kk H1 o ls (h1.push (by rw [z1, h1.1]) (fun q hq => o1 q (by rw [← h1.1]; exact hq)) hat) ⟨Nat.le_trans h2.1 (by rw [h1.1, z1]; omega), fun q g1 g2 => (o1 q (by rw [← h1.1]; exact Nat.lt_of_lt_of_le g1 h2.1)).trans (h2.2.1 q g1 g2), h2.2.2⟩ h3
theorem cg_anew (K : Kc p s m args meth c cc nL own G) {C : String} {t0 : Nat} {cA : ClassId} (hover : va_AO C s) (hcl : Cond.classLink own index C ∈ TT) (ht : (tysG G)[t0]? = some (cA, .object C)) {x : Int32} {N : Nat} (hn : ¬ x < 0) (hN : x.toNatClampNeg = N) (hbytes : N * 4 ≤ 536870912) (hcells : cells + 1 ≤ R.cells) (hslots : slots + N ≤ R.slots) (hdg : decode cc pc = .ok (.anewarray index, 3))
    (kk : GOg p l e R (cells + 1) (slots + N) s m args below meth c Q G nL (CW G (n + 1) (upE E n (.inl (cA, N, .inr (.inr (.inr (.inr (fun _ => none)))))))) (pc + 3) lv (.ref (gB G + n) :: st)) : GOg p l e R cells slots s m args below meth c Q G nL (CW G n E) pc lv (.int x :: st) := by
  subst hN
  intro H o ls h1 h2 h3
  refine W.anew K.1.1 K.1.2.1 K.1.2.2.2.1 (K.1.2.2.2.2.1 _ hcl) (va_AO.use hover) rfl hdg rfl hn hbytes hcells hslots fun cA' kA comp f1 f2 f3 f4 => ?_
  obtain ⟨kA2, comp2, g1, g2, g3, g4⟩ := (K.1.2.2.2.2.2.1.1.2 t0 _ ht).2
  have hcc : cA' = cA := Option.some.inj (f1.symm.trans g4)
  subst hcc
  generalize hH1 : H.push ({ cls := cA', slots := Array.replicate x.toNatClampNeg .null, vm := .none } : Cell) = H1
  have z1 : H1.size = H.size + 1 := by rw [← hH1, Array.size_push]
  have e1 : H1[H.size]? = some (arrV cA' x.toNatClampNeg (fun _ => .null)) := by rw [← hH1, Array.getElem?_push_size, ← arrV_new]
  have o1 : ∀ q : Nat, q < H.size → H1[q]? = H[q]? := fun q hq => by rw [← hH1, Array.getElem?_push, if_neg (Nat.ne_of_lt hq)]
  have hat : va_at G.1 vwCl (gB G + n, .inl (cA', x.toNatClampNeg, .inr (.inr (.inr (.inr (fun _ => none)))))) H1 := by
    show H1[gB G + n]? = some (vp_cell _ _)
    rw [← h1.1, vp_cell_q]; exact e1
  rw [h1.1]
  exact kk H1 o ls (h1.push z1 o1 hat) ⟨Nat.le_trans h2.1 (by rw [z1]; omega), fun q g1 g2 => (o1 q (Nat.lt_of_lt_of_le g1 h2.1)).trans (h2.2.1 q g1 g2), h2.2.2⟩ h3
theorem cg_put (K : Kc p s m args meth c cc nL own G) {ci : Nat} {fs : List Value} {C : String} {T : u_T} {N : Nat} {ty0 : Nat → FieldType} (hi : i < n) (he : E i = .inr (ci, fs)) (hc : vwCl[ci]? = some (C, T, N)) (hin : ∀ w ∈ u_ws C T N, w ∈ TT) (hty : ∀ k, k < N → parseFieldDescriptor (T k).2.2.1 = some (ty0 k)) (hnm : ∀ a, a < N → ∀ b, b < N → a ≠ b → (T a).2.1 ≠ (T b).2.1) (k : Nat) (hk : k < N) (hl : Cond.fieldLink own index (T k).1 (T k).2.1 (T k).2.2.1 ∈ TT) (hfin : (T k).2.2.2 = false ∨ ((T k).2.2.2 = true ∧ meth.name = "<init>" ∧ (T k).1 = own)) {v : Value} (hn : narrow (ty0 k) v = v) (hfit : fits (ty0 k) v = true) (hlen : k < fs.length) (hdg : decode cc pc = .ok (.putfield index, 3))
    (kk : GOg p l e R cells slots s m args below meth c Q G nL (CW G n (upE E i (.inr (ci, fs.set k v)))) (pc + 3) lv st) : GOg p l e R cells slots s m args below meth c Q G nL (CW G n E) pc lv (v :: .ref (gB G + i) :: st) := by
  intro H o ls h1 h2 h3
  have hap := va_apart (own := own) K.1.2.2.2.2.1 hin ty0 hty hnm K.1.2.2.2.2.2.1.1 hc
  have hati := h1.2 i hi
  rw [he] at hati
  obtain ⟨r, h1', cell, q1, q2, q3, q4⟩ := hati
  have hr : r = (C, T, N) := Option.some.inj (h1'.symm.trans hc)
  subst hr
  obtain ⟨hS, hfc, kC, hkC, hkind⟩ := K.1.2.2.2.2.2.1.1.1 ci _ hc
  obtain ⟨cf, kf, fi, f, hif, hsl⟩ := hS k hk
  have hlay := K.1.2.2.2.2.1 _ (hin _ (u_in_lay hk))
  have hst := (u_facts hfc hkC (u_lays K.1.2.2.2.2.1 hin hk) hif).1
  have fini : ∀ H' : Heap, H'[gB G + i]? = some (cell.setSlot f.slot v) → H'.size = H.size → (∀ q, q ≠ gB G + i → H'[q]? = H[q]?) → W p l e R s m args below meth c H' (o ++ [⟨gB G + i, f.slot⟩]) cells slots Q (F0 m (pc + 3) ls st) := by
    intro H' e1 e2 e3
    rw [hsl] at e1
    have hat : va_at G.1 vwCl (gB G + i, .inr (ci, fs.set k v)) H' := ⟨_, hc, t_OB.to (V := updV (vp_V fs) k v) ⟨_, e1, q2, q3, t_set q4 hap hk v⟩ (fun j _ => vp_updV_set hlen v j)⟩
    exact kk H' _ ls (h1.up e2 e3 hat) (h2.put e2 e3 (Nat.le_add_right _ _)) h3
  rcases hfin with hfin | ⟨hfin, hin2, hdecl⟩
  · unfold u_lay at hlay
    rw [if_neg (by rw [hfin]; decide)] at hlay
    have h6 := u_store hfc hkC hkind hlay hif (hty k hk) hn hfit
    exact W.putK K.1.1 K.1.2.1 (f := f) ⟨K.1.2.2.2.1, K.1.2.2.2.2.1 _ hl, ⟨_, _, _, hif⟩, hst⟩ (by rw [q2]; exact h6) q1 q3 (by rw [hsl]; exact k2_hasslot (q4 k hk)) rfl rfl hdg fini
  · unfold u_lay at hlay
    rw [if_pos hfin] at hlay
    have hcf : m.cls = cf := by
      obtain ⟨_, _, c', _, _, _, -, -, hf', -, -, -, hown2, -⟩ := Cond.laysFinal_spec hlay
      have e1 : c' = cf := by have := hif.symm.trans hf'; simp at this; exact this.1.symm
      rw [hdecl] at hown2
      rw [← e1]; exact Option.some.inj (K.1.2.2.2.1.symm.trans hown2)
    have h6 := u_fits hfc hkC hkind (Or.inr hlay) hif (hty k hk) hn hfit
    exact W.putFinK K.1.1 K.1.2.1 K.1.2.2.2.1 (K.1.2.2.2.2.1 _ hl) hif hst hcf hin2 (by rw [q2]; exact h6) q1 q3 (by rw [hsl]; exact k2_hasslot (q4 k hk)) rfl rfl hdg fini
theorem cg_get (K : Kc p s m args meth c cc nL own G) {ci : Nat} {fs : List Value} {C : String} {T : u_T} {N : Nat} (hi : i < n) (he : E i = .inr (ci, fs)) (hc : vwCl[ci]? = some (C, T, N)) (hin : ∀ w ∈ u_ws C T N, w ∈ TT) (k : Nat) (hk : k < N) (hl : Cond.fieldLink own index (T k).1 (T k).2.1 (T k).2.2.1 ∈ TT) {v : Value} (hv : fs[k]? = some v) (hdg : decode cc pc = .ok (.getfield index, 3))
    (kk : GOg p l e R cells slots s m args below meth c Q G nL (CW G n E) (pc + 3) lv (v :: st)) : GOg p l e R cells slots s m args below meth c Q G nL (CW G n E) pc lv (.ref (gB G + i) :: st) := by
  intro H o ls h1 h2 h3
  have hP : va_P G.1 vwCl [(gB G + i, .inr (ci, fs))] H := fun k q hq => by
    match k, hq with
    | 0, hq => cases hq; have := h1.2 i hi; rw [he] at this; exact this
  exact va_get (ref := (T k).1) K.1.1 K.1.2.1 K.1.2.2.2.2.1 hin K.1.2.2.2.1 K.1.2.2.2.2.2.1.1 hP 0 rfl hc k hk (K.1.2.2.2.2.1 _ hl) (fun _ h => h) hv hdg (kk H o ls h1 h2 h3)
theorem cg_iast (K : Kc p s m args meth c cc nL own G) {N : Nat} {f : Nat → Int32} (hi : i < n) (he : E i = .inl (G.2.1 0, N, .inl f)) {x v : Int32} {k : Nat} (hin : vp_in x N) (hk : x.toNatClampNeg = k) (hdg : decode cc pc = .ok (.iastore, 1))
    (kk : GOg p l e R cells slots s m args below meth c Q G nL (CW G n (upE E i (.inl (G.2.1 0, N, .inl (upd f k v))))) (pc + 1) lv st) : GOg p l e R cells slots s m args below meth c Q G nL (CW G n E) pc lv (.int v :: .int x :: .ref (gB G + i) :: st) := by
  subst hk
  intro H o ls h1 h2 h3
  have ha : va_at G.1 vwCl (gB G + i, .inl (G.2.1 0, N, .inl f)) H := by have := h1.2 i hi; rwa [he] at this
  refine W.iast K.1.1 K.1.2.1 ha ((K.1.2.2.2.2.2.1.1.2 0 _ rfl).1 N (fun j => .int (f j))) (fun q => by cases q) (by show ¬ (x < 0 ∨ (arrV _ _ _).slots.size ≤ _); rw [arrV_size]; exact hin) rfl rfl hdg fun H1 e1 z oq => ?_
  have hat : va_at G.1 vwCl (gB G + i, .inl (G.2.1 0, N, .inl (upd f x.toNatClampNeg v))) H1 := by
    show H1[gB G + i]? = some (vp_cell _ _)
    rw [e1, vp_cell_i, vp_cell_i, arrV_store]
    congr 2
    funext q
    by_cases hq : q = x.toNatClampNeg
    · subst hq; simp [updV, upd]
    · simp [updV, upd, hq]
  exact kk H1 _ ls (h1.up z oq hat) (h2.put z oq (Nat.le_add_right _ _)) h3
theorem cg_aast (K : Kc p s m args meth c cc nL own G) {N t0 j ci : Nat} {cA : ClassId} {r : vw_C} {vs : List Value} {f : Nat → Option Nat} (hi : i < n) (he : E i = .inl (cA, N, .inr (.inr (.inr (.inr f))))) (ht : (tysG G)[t0]? = some (cA, .object r.1)) (hj : j < n) (hv : E j = .inr (ci, vs)) (hc : vwCl[ci]? = some r) {x : Int32} {k : Nat} (hin : vp_in x N) (hk : x.toNatClampNeg = k) (hdg : decode cc pc = .ok (.aastore, 1))
    (kk : GOg p l e R cells slots s m args below meth c Q G nL (CW G n (upE E i (.inl (cA, N, .inr (.inr (.inr (.inr (va_up f k (some (gB G + j))))))))) ) (pc + 1) lv st) : GOg p l e R cells slots s m args below meth c Q G nL (CW G n E) pc lv (.ref (gB G + j) :: .int x :: .ref (gB G + i) :: st) := by
  subst hk
  intro H o ls h1 h2 h3
  have ha : va_at G.1 vwCl (gB G + i, .inl (cA, N, .inr (.inr (.inr (.inr f))))) H := by have := h1.2 i hi; rwa [he] at this
  have hlt : x.toNatClampNeg < N := Nat.not_le.mp fun q => hin (Or.inr q)
  have h0 : ¬ x < 0 := fun q => hin (Or.inl q)
  have hb := h1.2 j hj
  rw [hv] at hb
  obtain ⟨r', hr', cellV, g1, g2, g3, -⟩ := hb
  have hcls := (K.1.2.2.2.2.2.1.1.1 ci r hc).2
  obtain ⟨kA, comp, k1, k2, k3, -⟩ := (K.1.2.2.2.2.2.1.1.2 t0 _ ht).2
  have hcomp : comp = G.1.1 ci := Option.some.inj (k3.symm.trans hcls.1)
  subst hcomp
  obtain ⟨kC, hkC, -⟩ := hcls.2
  refine W.aast K.1.1 K.1.2.1 ha (fun q h => by cases h) (fun h => by cases h) k1 k2 rfl hkC ⟨h0, by show _ < (arrV _ _ _).slots.size; rw [arrV_size]; exact hlt⟩ g1 (fun q h => by rw [g3] at h; cases h) (by rw [g2]; exact hkC) (by rw [g2]; exact va_assign hcls) rfl rfl hdg fun H1 e1 z oq => ?_
  have hat : va_at G.1 vwCl (gB G + i, .inl (cA, N, .inr (.inr (.inr (.inr (va_up f x.toNatClampNeg (some (gB G + j)))))))) H1 := by
    show H1[gB G + i]? = some (vp_cell _ _)
    rw [e1, vp_cell_q, vp_cell_q, arrV_store]
    congr 2
    funext q
    by_cases hq : q = x.toNatClampNeg
    · subst hq; simp [updV, va_up, va_rf]
    · simp [updV, va_up, hq]
  exact kk H1 _ ls (h1.up z oq hat) (h2.put z oq (Nat.le_add_right _ _)) h3
theorem cg_obj {Wp : Heap → Prop} (K : Kc p s m args meth c cc nL own G) {a : Nat} (hl : Cond.methodLink own index objectInit ∈ TT) (hf : 1 ≤ R.frames) (hlo : 60 ≤ R.locals) (hW : (st.map fun v => v.category).sum ≤ 8) (hdg : decode cc pc = .ok (.invokespecial index, 3))
    (kk : GOg p l e R cells slots s m args below meth c Q G nL Wp (pc + 3) lv st) : GOg p l e R cells slots s m args below meth c Q G nL Wp pc lv (.ref a :: st) := by
  intro H o ls h1 h2 h3
  refine W.objInit K.1.1 K.1.2.1 K.1.2.2.2.1 (K.1.2.2.2.2.1 _ hl) (K.1.2.2.2.2.1 _ ki_bjectInit) (K.1.2.2.2.2.1 _ kc_objectInit) rfl (by rw [K.1.2.2.1]; exact h3.1) rfl hdg hf ?_ (kk H o ls h1 h2 h3)
  have h := lv_room (m := m) (pc := pc) (ls := ls) (rest := st) hW
  have : 2 * (F0 m pc ls (.ref a :: st)).monitorRoom = 2 * (F0 m pc ls st).monitorRoom := rfl
  omega
theorem cg_call {y : MethodName} {bytes : ByteArray} {maxL na mc ms h : Nat} (K : Kc p s m args meth c cc nL own G) (hM : MC l G y bytes maxL mc ms h (.ref (gB G + i) :: As) n E n' E') (cf : CF y bytes maxL none na) (hin : Cond.instanceMethod y ∈ TT) (hy : y.name = "<init>") (hl : Cond.methodLink own index y ∈ TT ∨ (own, index, y) ∈ nestL) (hf : h + 1 ≤ R.frames) (hlo : 60 * (h + 1) ≤ R.locals) (hroom : cells + mc ≤ R.cells ∧ slots + ms ≤ R.slots) (hn : As.length = na) (hst : st = As.reverse ++ .ref (gB G + i) :: rest) (hW : (rest.map fun v => v.category).sum ≤ 8) (hdg : decode cc pc = .ok (.invokespecial index, 3))
    (kk : GOg p l e R (cells + mc) (slots + ms) s m args below meth c Q G nL (CW G n' E') (pc + 3) lv rest) : GOg p l e R cells slots s m args below meth c Q G nL (CW G n E) pc lv st := by
  intro H o ls h1 h2 h3
  have hR : (rmC h mc ms).frames + 1 ≤ R.frames ∧ 8 + (maxL + 11) + (rmC h mc ms).locals ≤ R.locals := ⟨hf, by have := cf.2.2.2; show 8 + (maxL + 11) + 60 * h ≤ R.locals; omega⟩
  have fini : ∀ (u : Unit) (t : State) (H1 : Heap) (o1 : List Loc), t.heap = H1 → s.vm.Alike t.vm → True → cB G n' E' t → H.size ≤ H1.size → (∀ q : Nat, q < H.size → ¬ Fr G q → H1[q]? = H[q]?) → va_S (Fr G) s.heap H1 o1 → W p l e R s m args below meth c H1 o1 (cells + mc) (slots + ms) Q (F0 m (pc + 3) ls rest) := by
    intro u t H1 o1 ht hvm hw hB hz hk hS
    rw [← ht] at hS ⊢
    exact kk t.heap o1 ls hB.1 hS h3
  rcases hl with hl | hl
  · exact va_callv (va_runI ⟨K.1.1, K.1.2.1, K.1.2.2.1, K.1.2.2.2.1, K.1.2.2.2.2.1⟩ hM ⟨callB_of na K.1.2.2.2.2.1 (good_TT cf.1) rfl rfl rfl (K.1.2.2.2.2.1 _ cf.2.1) (K.1.2.2.2.2.1 _ hl) cf.2.2.1 hR, hy, K.1.2.2.2.2.1 _ hin⟩ ⟨cB_blind G _ n E, cB_in K h1 h2 _⟩ rfl hn h3.1 hst (lv_room hW) hdg hroom) h2 (fun _ _ h => h) (fun _ h => h) fini
  · exact va_callv (va_runIN ⟨K.1.1, K.1.2.1, K.1.2.2.1, K.1.2.2.2.1, K.1.2.2.2.2.1⟩ hM ⟨va_cnB na K.1.2.2.2.2.1 (good_TT cf.1) rfl rfl rfl (K.1.2.2.2.2.2.1.2.1 _ hl) (K.1.2.2.2.2.1 _ cf.2.1) cf.2.2.1 hR, hy, K.1.2.2.2.2.1 _ hin⟩ ⟨cB_blind G _ n E, cB_in K h1 h2 _⟩ rfl hn h3.1 hst (lv_room hW) hdg hroom) h2 (fun _ _ h => h) (fun _ h => h) fini
theorem cg_ret (K : Kc p s m args meth c cc nL own G) (hr : meth.sig.returnType = none) (hE : ∀ j, j < n → E j = E' j) (hdg : decode cc pc = .ok (.return_, 1)) : GOg p l e R cells slots s m args below meth c (MQ below (va_Qv (fun (_ : Unit) => True) (fun _ U => cB G n E' U) (Fr G)) args s cells slots (Fr G)) G nL (CW G n E) pc lv [] := by
  intro H o ls h1 h2 h3
  have hlk : meth.locks = false := K.1.2.2.2.2.2.2
  exact W.vret K.1.1 K.1.2.1 hr (fun t ht hW => ⟨⟨(), rfl, trivial, by rw [ht]; exact h1.congr hE, by rw [ht]; exact xx.go hW h2.2.1 K.1.2.2.2.2.2.1, va_AO.moved hW.alike K.2.1, va_AO.moved hW.alike K.2.2⟩, h2.F ht⟩) h2.2.2 hdg hlk
theorem cg_eq (hE : ∀ j, j < n → E j = E' j) (kk : GOg p l e R cells slots s m args below meth c Q G nL (CW G n E') pc lv st) : GOg p l e R cells slots s m args below meth c Q G nL (CW G n E) pc lv st := fun H o ls h1 h2 h3 => kk H o ls (h1.congr hE) h2 h3
end GOC2
theorem metc_in {l : Launch} {G : GT} {y : MethodName} {cc : ByteArray} {nL mc ms h : Nat} {av : List Value} {n n' : Nat} {E E' : Nat → va_E} (own : String) (hy : plainFor y = true) (ho : y.cls = own) (hyn : y.name = "<init>") (lv : List (Nat × Value)) (hlv : lv_args 0 av = lv) (hn : (lg_sl av).length ≤ nL)
    (body : ∀ (p : Program) (e : Env) (s : State) (m : MethodId) (args : Array Value) (below : List Frame) (meth : Method) (c : Code), Kc p s m args meth c cc nL own G → meth.sig.returnType = none → meth.name = "<init>" →
      GOg p l e (rmC h mc ms) 0 0 s m args below meth c (MQ below (va_Qv (fun (_ : Unit) => True) (fun _ U => cB G n' E' U) (Fr G)) args s mc ms (Fr G)) G nL (CW G n E) 0 lv []) :
    MC l G y cc nL mc ms h av n E n' E' := by
  refine met_ofF (cc := cc) (maxL := nL) (ret := none) hy rfl ?_
  intro p e s m args below meth c s₁ B hml hv
  obtain ⟨rfl, hw, hX, ha1, ha2⟩ := hv
  have hts := atoms_spec (ws := .code y cc nL none :: TT) B.pre
  have hown : s.vm.findClass y.cls = some m.cls := findClass_of_methodNamed B.named
  rw [ho] at hown
  have hin : meth.name = "<init>" := (name_of_methodNamed B.named B.method).1.trans hyn
  have hl := lv_entry av (n := nL) hn
  rw [hlv] at hl
  rw [lg_entry_eq]
  exact body p e s m _ below meth c ⟨⟨B.exec, B.bytes, hml, hown, fun w hw => hts w (List.mem_cons_of_mem _ hw), hX, B.notSynchronized⟩, ha1, ha2⟩ B.returns hin s.heap [] _ hw va_S.rf hl
