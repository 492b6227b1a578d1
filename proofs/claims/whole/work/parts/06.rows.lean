theorem xx.same {G : GT} {U U1 : State} {H : Heap} (hv : U1.vm = U.vm) (h : xx G U H) : xx G U1 H := by
  have ha : U.vm.Alike U1.vm := by rw [hv]; exact Vm.Alike.refl U.vm
  obtain ⟨h1, h2, h3, h4, h5, h6, h7⟩ := h
  exact ⟨va_K.moved ha h1, fun q hq => va_Nw.same rfl hv.symm (h2 q hq), h3.moved ha, h4.same hv, h5.same hv, h6.moved ha, h7.moved ha⟩
theorem wB_blind (G : GT) (av : List Value) (M : CM × OM) : FrameBlind (va_Pc av (wB G M)) :=
  fun a U g mk q => ⟨q.1, q.2.1, xx.same (U := U) (U1 := U.calling g mk a) rfl q.2.2⟩
def CF (y : MethodName) (bytes : ByteArray) (maxL : Nat) (ret : Option FieldType) (n : Nat) : Prop :=
  Cond.code y bytes maxL ret ∈ TT ∧ Cond.initialized y.cls ∈ TT ∧ (y.cls ≠ "java/lang/invoke/MethodHandle" ∧ y.cls ≠ "java/lang/invoke/VarHandle" ∧ (parseMethodDescriptor y.desc).map (fun d => d.parameters.length) = some n) ∧ maxL ≤ 41
def CFv (y : MethodName) : Prop := Cond.instanceMethod y ∈ TT ∧ Cond.selects y.cls y y ∈ TT
def RV (G : GT) (M : CM × OM) (i : Nat) (C : String) : Prop := ∃ (ci : Nat) (q : vw_C) (fs : List Value), vwCl[ci]? = some q ∧ q.1 = C ∧ i < NN ∧ (cellM G M i).2 = .inr (ci, fs)
section GOC
variable {p : Program} {l : Launch} {e : Env} {hR : Nat} {s : State} {m : MethodId} {args : Array Value} {below : List Frame} {meth : Method} {c : Code} {Q : State → Prop} {G : GT} {nL : Nat} {M M' : CM × OM} {pc : Nat} {lv : List (Nat × Value)} {st rest As : List Value} {cc : ByteArray} {own : String}
variable {y : MethodName} {bytes : ByteArray} {maxL n h index i : Nat} {ret : Option FieldType} {Qc : Array Value → State → Outcome → State → Prop}
theorem room_ok (hm : maxL ≤ 41) (hh : h < hR) : (rmH h).frames + 1 ≤ (rmH hR).frames ∧ 8 + (maxL + 11) + (rmH h).locals ≤ (rmH hR).locals := ⟨hh, by show 8 + (maxL + 11) + 60 * h ≤ 60 * hR; omega⟩
theorem callB_in (K : Kx p s m args meth c cc nL own G) (cf : CF y bytes maxL ret n) (hl : Cond.methodLink own index y ∈ TT) (hh : h < hR) : CallB (rmH hR) s args own index y bytes maxL ret (.code y bytes maxL ret :: TT) (rmH h) 0 0 n :=
  callB_of n K.2.2.2.2.1 (good_TT cf.1) rfl rfl rfl (K.2.2.2.2.1 _ cf.2.1) (K.2.2.2.2.1 _ hl) cf.2.2.1 (room_ok cf.2.2.2 hh)
theorem pre_in (K : Kx p s m args meth c cc nL own G) {H : Heap} {locs : List Loc} (h1 : Wl G M H) (hS : va_S (Fr G) s.heap H locs) (av : List Value) : ∀ U : State, U.heap = H → s.WarmedH U.vm → va_Pc av (wB G M) av.toArray U := by
  intro U hU hW
  refine ⟨rfl, ?_, ?_⟩
  · rw [hU]; exact h1
  · rw [hU]; exact xx.go hW hS.2.1 K.2.2.2.2.2.1
/-- a virtual call, run -/
theorem runV_in (K : Kx p s m args meth c cc nL own G) (hM : Met l y (.code y bytes maxL ret :: TT) (rmH h) (va_Pc (.ref (gB G + i) :: As) (wB G M)) Qc 0 0 (Fr G)) (cf : CF y bytes maxL ret n) (cv : CFv y) (hl : Cond.methodLink own index y ∈ TT) (hr : RV G M i y.cls) (hh : h < hR) (hn : As.length = n) (hst : st = As.reverse ++ .ref (gB G + i) :: rest) (hW : (rest.map fun v => v.category).sum ≤ 8) (hdg : decode cc pc = .ok (.invokevirtual index, 3))
    {H : Heap} {locs : List Loc} {ls : Array Slot} (h1 : Wl G M H) (hS : va_S (Fr G) s.heap H locs) (hlv : lv_has ls nL lv) : va_Run p l e (rmH hR) s m args below meth c H locs 0 0 0 0 (F0 m pc ls st) rest (Qc (Value.ref (gB G + i) :: As).toArray) (Fr G) := by
  obtain ⟨ci, q, fs, hq, hqC, hi, he⟩ := hr
  have hrec := va_recv (q0 := i) K.2.2.2.2.2.1.1 h1 hq ((wld_at G M hi).trans (congrArg some (show cellM G M i = (gB G + i, _) from Prod.ext rfl he)))
  rw [hqC] at hrec
  exact va_runV (C := y.cls) ⟨K.1, K.2.1, K.2.2.1, K.2.2.2.1, K.2.2.2.2.1⟩ hM ⟨callB_in K cf hl hh, K.2.2.2.2.1 _ cv.1, K.2.2.2.2.1 _ cv.2⟩ ⟨wB_blind G _ M, hrec, pre_in K h1 hS _⟩ rfl hn hlv.1 hst (lv_room hW) hdg ⟨Nat.le_refl _, Nat.le_refl _⟩
theorem runS_in (K : Kx p s m args meth c cc nL own G) (hM : Met l y (.code y bytes maxL ret :: TT) (rmH h) (va_Pc As (wB G M)) Qc 0 0 (Fr G)) (cf : CF y bytes maxL ret n) (cv : Cond.static y ∈ TT) (hl : Cond.methodLink own index y ∈ TT) (hh : h < hR) (hn : As.length = n) (hst : st = As.reverse ++ rest) (hW : (rest.map fun v => v.category).sum ≤ 8) (hdg : decode cc pc = .ok (.invokestatic index, 3))
    {H : Heap} {locs : List Loc} {ls : Array Slot} (h1 : Wl G M H) (hS : va_S (Fr G) s.heap H locs) (hlv : lv_has ls nL lv) : va_Run p l e (rmH hR) s m args below meth c H locs 0 0 0 0 (F0 m pc ls st) rest (Qc As.toArray) (Fr G) :=
  va_runS ⟨K.1, K.2.1, K.2.2.1, K.2.2.2.1, K.2.2.2.2.1⟩ hM ⟨callB_in K cf hl hh, K.2.2.2.2.1 _ cv⟩ ⟨wB_blind G _ M, pre_in K h1 hS _⟩ rfl hn hlv.1 hst (lv_room hW) hdg ⟨Nat.le_refl _, Nat.le_refl _⟩
theorem runSN_in (K : Kx p s m args meth c cc nL own G) (hM : Met l y (.code y bytes maxL ret :: TT) (rmH h) (va_Pc As (wB G M)) Qc 0 0 (Fr G)) (cf : CF y bytes maxL ret n) (cv : Cond.static y ∈ TT) (hl : (own, index, y) ∈ nestL) (hh : h < hR) (hn : As.length = n) (hst : st = As.reverse ++ rest) (hW : (rest.map fun v => v.category).sum ≤ 8) (hdg : decode cc pc = .ok (.invokestatic index, 3))
    {H : Heap} {locs : List Loc} {ls : Array Slot} (h1 : Wl G M H) (hS : va_S (Fr G) s.heap H locs) (hlv : lv_has ls nL lv) : va_Run p l e (rmH hR) s m args below meth c H locs 0 0 0 0 (F0 m pc ls st) rest (Qc As.toArray) (Fr G) :=
  va_runSN ⟨K.1, K.2.1, K.2.2.1, K.2.2.2.1, K.2.2.2.2.1⟩ hM ⟨va_cnB n K.2.2.2.2.1 (good_TT cf.1) rfl rfl rfl (K.2.2.2.2.2.1.2.1 _ hl) (K.2.2.2.2.1 _ cf.2.1) cf.2.2.1 (room_ok cf.2.2.2 hh), K.2.2.2.2.1 _ cv, trivial⟩ ⟨wB_blind G _ M, pre_in K h1 hS _⟩ rfl hn hlv.1 hst (lv_room hW) hdg ⟨Nat.le_refl _, Nat.le_refl _⟩
theorem go_cVI (K : Kx p s m args meth c cc nL own G) {r : Int32} (hM : MI l G y bytes maxL ret h (.ref (gB G + i) :: As) M r M') (cf : CF y bytes maxL ret n) (cv : CFv y) (hl : Cond.methodLink own index y ∈ TT) (hr : RV G M i y.cls) (hh : h < hR) (hn : As.length = n) (hst : st = As.reverse ++ .ref (gB G + i) :: rest) (hW : (rest.map fun v => v.category).sum ≤ 8) (hdg : decode cc pc = .ok (.invokevirtual index, 3)) (k : GO p l e hR s m args below meth c Q G nL M' (pc + 3) lv (.int r :: rest)) : GO p l e hR s m args below meth c Q G nL M (pc) lv (st) := by
  intro H o ls h1 h2 h3
  refine va_calli (runV_in K hM cf cv hl hr hh hn hst hW hdg h1 h2 h3) h2 (fun _ _ h => h) (fun _ h => h) (fun r1 u t H1 o1 ht hvm hw hB hz hk hS => ?_)
  obtain ⟨rfl, rfl⟩ := hw
  rw [← ht] at hS ⊢
  exact k t.heap o1 ls hB.1 hS h3
theorem go_cVJ (K : Kx p s m args meth c cc nL own G) {r : Int64} (hM : MJ l G y bytes maxL ret h (.ref (gB G + i) :: As) M r M') (cf : CF y bytes maxL ret n) (cv : CFv y) (hl : Cond.methodLink own index y ∈ TT) (hr : RV G M i y.cls) (hh : h < hR) (hn : As.length = n) (hst : st = As.reverse ++ .ref (gB G + i) :: rest) (hW : (rest.map fun v => v.category).sum ≤ 8) (hdg : decode cc pc = .ok (.invokevirtual index, 3)) (k : GO p l e hR s m args below meth c Q G nL M' (pc + 3) lv (.long r :: rest)) : GO p l e hR s m args below meth c Q G nL M (pc) lv (st) := by
  intro H o ls h1 h2 h3
  refine va_calll (runV_in K hM cf cv hl hr hh hn hst hW hdg h1 h2 h3) h2 (fun _ _ h => h) (fun _ h => h) (fun r1 u t H1 o1 ht hvm hw hB hz hk hS => ?_)
  obtain ⟨rfl, rfl⟩ := hw
  rw [← ht] at hS ⊢
  exact k t.heap o1 ls hB.1 hS h3
theorem go_cVV (K : Kx p s m args meth c cc nL own G) (hM : MV l G y bytes maxL ret h (.ref (gB G + i) :: As) M M') (cf : CF y bytes maxL ret n) (cv : CFv y) (hl : Cond.methodLink own index y ∈ TT) (hr : RV G M i y.cls) (hh : h < hR) (hn : As.length = n) (hst : st = As.reverse ++ .ref (gB G + i) :: rest) (hW : (rest.map fun v => v.category).sum ≤ 8) (hdg : decode cc pc = .ok (.invokevirtual index, 3)) (k : GO p l e hR s m args below meth c Q G nL M' (pc + 3) lv (rest)) : GO p l e hR s m args below meth c Q G nL M (pc) lv (st) := by
  intro H o ls h1 h2 h3
  refine va_callv (runV_in K hM cf cv hl hr hh hn hst hW hdg h1 h2 h3) h2 (fun _ _ h => h) (fun _ h => h) (fun u t H1 o1 ht hvm hw hB hz hk hS => ?_)
  obtain rfl := hw
  rw [← ht] at hS ⊢
  exact k t.heap o1 ls hB.1 hS h3
theorem go_cVR (K : Kx p s m args meth c cc nL own G) {r : Nat} (hM : MR l G y bytes maxL ret h (.ref (gB G + i) :: As) M r M') (cf : CF y bytes maxL ret n) (cv : CFv y) (hl : Cond.methodLink own index y ∈ TT) (hr : RV G M i y.cls) (hh : h < hR) (hn : As.length = n) (hst : st = As.reverse ++ .ref (gB G + i) :: rest) (hW : (rest.map fun v => v.category).sum ≤ 8) (hdg : decode cc pc = .ok (.invokevirtual index, 3)) (k : GO p l e hR s m args below meth c Q G nL M' (pc + 3) lv (.ref (gB G + r) :: rest)) : GO p l e hR s m args below meth c Q G nL M (pc) lv (st) := by
  intro H o ls h1 h2 h3
  refine va_callr (runV_in K hM cf cv hl hr hh hn hst hW hdg h1 h2 h3) h2 (fun _ _ h => h) (fun _ h => h) (fun u ra t H1 o1 ht hvm hw hB hz hk hS => ?_)
  obtain rfl := hw
  obtain ⟨rfl, hB⟩ := hB
  rw [← ht] at hS ⊢
  exact k t.heap o1 ls hB.1 hS h3
theorem go_cSI (K : Kx p s m args meth c cc nL own G) {r : Int32} (hM : MI l G y bytes maxL ret h As M r M') (cf : CF y bytes maxL ret n) (cv : Cond.static y ∈ TT) (hl : Cond.methodLink own index y ∈ TT) (hh : h < hR) (hn : As.length = n) (hst : st = As.reverse ++ rest) (hW : (rest.map fun v => v.category).sum ≤ 8) (hdg : decode cc pc = .ok (.invokestatic index, 3)) (k : GO p l e hR s m args below meth c Q G nL M' (pc + 3) lv (.int r :: rest)) : GO p l e hR s m args below meth c Q G nL M (pc) lv (st) := by
  intro H o ls h1 h2 h3
  refine va_calli (runS_in K hM cf cv hl hh hn hst hW hdg h1 h2 h3) h2 (fun _ _ h => h) (fun _ h => h) (fun r1 u t H1 o1 ht hvm hw hB hz hk hS => ?_)
  obtain ⟨rfl, rfl⟩ := hw
  rw [← ht] at hS ⊢
  exact k t.heap o1 ls hB.1 hS h3
theorem go_cSJ (K : Kx p s m args meth c cc nL own G) {r : Int64} (hM : MJ l G y bytes maxL ret h As M r M') (cf : CF y bytes maxL ret n) (cv : Cond.static y ∈ TT) (hl : Cond.methodLink own index y ∈ TT) (hh : h < hR) (hn : As.length = n) (hst : st = As.reverse ++ rest) (hW : (rest.map fun v => v.category).sum ≤ 8) (hdg : decode cc pc = .ok (.invokestatic index, 3)) (k : GO p l e hR s m args below meth c Q G nL M' (pc + 3) lv (.long r :: rest)) : GO p l e hR s m args below meth c Q G nL M (pc) lv (st) := by
  intro H o ls h1 h2 h3
  refine va_calll (runS_in K hM cf cv hl hh hn hst hW hdg h1 h2 h3) h2 (fun _ _ h => h) (fun _ h => h) (fun r1 u t H1 o1 ht hvm hw hB hz hk hS => ?_)
  obtain ⟨rfl, rfl⟩ := hw
  rw [← ht] at hS ⊢
  exact k t.heap o1 ls hB.1 hS h3
theorem go_cSV (K : Kx p s m args meth c cc nL own G) (hM : MV l G y bytes maxL ret h As M M') (cf : CF y bytes maxL ret n) (cv : Cond.static y ∈ TT) (hl : Cond.methodLink own index y ∈ TT) (hh : h < hR) (hn : As.length = n) (hst : st = As.reverse ++ rest) (hW : (rest.map fun v => v.category).sum ≤ 8) (hdg : decode cc pc = .ok (.invokestatic index, 3)) (k : GO p l e hR s m args below meth c Q G nL M' (pc + 3) lv (rest)) : GO p l e hR s m args below meth c Q G nL M (pc) lv (st) := by
  intro H o ls h1 h2 h3
  refine va_callv (runS_in K hM cf cv hl hh hn hst hW hdg h1 h2 h3) h2 (fun _ _ h => h) (fun _ h => h) (fun u t H1 o1 ht hvm hw hB hz hk hS => ?_)
  obtain rfl := hw
  rw [← ht] at hS ⊢
  exact k t.heap o1 ls hB.1 hS h3
theorem go_cSR (K : Kx p s m args meth c cc nL own G) {r : Nat} (hM : MR l G y bytes maxL ret h As M r M') (cf : CF y bytes maxL ret n) (cv : Cond.static y ∈ TT) (hl : Cond.methodLink own index y ∈ TT) (hh : h < hR) (hn : As.length = n) (hst : st = As.reverse ++ rest) (hW : (rest.map fun v => v.category).sum ≤ 8) (hdg : decode cc pc = .ok (.invokestatic index, 3)) (k : GO p l e hR s m args below meth c Q G nL M' (pc + 3) lv (.ref (gB G + r) :: rest)) : GO p l e hR s m args below meth c Q G nL M (pc) lv (st) := by
  intro H o ls h1 h2 h3
  refine va_callr (runS_in K hM cf cv hl hh hn hst hW hdg h1 h2 h3) h2 (fun _ _ h => h) (fun _ h => h) (fun u ra t H1 o1 ht hvm hw hB hz hk hS => ?_)
  obtain rfl := hw
  obtain ⟨rfl, hB⟩ := hB
  rw [← ht] at hS ⊢
  exact k t.heap o1 ls hB.1 hS h3
theorem go_cNI (K : Kx p s m args meth c cc nL own G) {r : Int32} (hM : MI l G y bytes maxL ret h As M r M') (cf : CF y bytes maxL ret n) (cv : Cond.static y ∈ TT) (hl : (own, index, y) ∈ nestL) (hh : h < hR) (hn : As.length = n) (hst : st = As.reverse ++ rest) (hW : (rest.map fun v => v.category).sum ≤ 8) (hdg : decode cc pc = .ok (.invokestatic index, 3)) (k : GO p l e hR s m args below meth c Q G nL M' (pc + 3) lv (.int r :: rest)) : GO p l e hR s m args below meth c Q G nL M (pc) lv (st) := by
  intro H o ls h1 h2 h3
  refine va_calli (runSN_in K hM cf cv hl hh hn hst hW hdg h1 h2 h3) h2 (fun _ _ h => h) (fun _ h => h) (fun r1 u t H1 o1 ht hvm hw hB hz hk hS => ?_)
  obtain ⟨rfl, rfl⟩ := hw
  rw [← ht] at hS ⊢
  exact k t.heap o1 ls hB.1 hS h3
theorem go_cNJ (K : Kx p s m args meth c cc nL own G) {r : Int64} (hM : MJ l G y bytes maxL ret h As M r M') (cf : CF y bytes maxL ret n) (cv : Cond.static y ∈ TT) (hl : (own, index, y) ∈ nestL) (hh : h < hR) (hn : As.length = n) (hst : st = As.reverse ++ rest) (hW : (rest.map fun v => v.category).sum ≤ 8) (hdg : decode cc pc = .ok (.invokestatic index, 3)) (k : GO p l e hR s m args below meth c Q G nL M' (pc + 3) lv (.long r :: rest)) : GO p l e hR s m args below meth c Q G nL M (pc) lv (st) := by
  intro H o ls h1 h2 h3
  refine va_calll (runSN_in K hM cf cv hl hh hn hst hW hdg h1 h2 h3) h2 (fun _ _ h => h) (fun _ h => h) (fun r1 u t H1 o1 ht hvm hw hB hz hk hS => ?_)
  obtain ⟨rfl, rfl⟩ := hw
  rw [← ht] at hS ⊢
  exact k t.heap o1 ls hB.1 hS h3
theorem go_cNV (K : Kx p s m args meth c cc nL own G) (hM : MV l G y bytes maxL ret h As M M') (cf : CF y bytes maxL ret n) (cv : Cond.static y ∈ TT) (hl : (own, index, y) ∈ nestL) (hh : h < hR) (hn : As.length = n) (hst : st = As.reverse ++ rest) (hW : (rest.map fun v => v.category).sum ≤ 8) (hdg : decode cc pc = .ok (.invokestatic index, 3)) (k : GO p l e hR s m args below meth c Q G nL M' (pc + 3) lv (rest)) : GO p l e hR s m args below meth c Q G nL M (pc) lv (st) := by
  intro H o ls h1 h2 h3
  refine va_callv (runSN_in K hM cf cv hl hh hn hst hW hdg h1 h2 h3) h2 (fun _ _ h => h) (fun _ h => h) (fun u t H1 o1 ht hvm hw hB hz hk hS => ?_)
  obtain rfl := hw
  rw [← ht] at hS ⊢
  exact k t.heap o1 ls hB.1 hS h3
theorem go_cNR (K : Kx p s m args meth c cc nL own G) {r : Nat} (hM : MR l G y bytes maxL ret h As M r M') (cf : CF y bytes maxL ret n) (cv : Cond.static y ∈ TT) (hl : (own, index, y) ∈ nestL) (hh : h < hR) (hn : As.length = n) (hst : st = As.reverse ++ rest) (hW : (rest.map fun v => v.category).sum ≤ 8) (hdg : decode cc pc = .ok (.invokestatic index, 3)) (k : GO p l e hR s m args below meth c Q G nL M' (pc + 3) lv (.ref (gB G + r) :: rest)) : GO p l e hR s m args below meth c Q G nL M (pc) lv (st) := by
  intro H o ls h1 h2 h3
  refine va_callr (runSN_in K hM cf cv hl hh hn hst hW hdg h1 h2 h3) h2 (fun _ _ h => h) (fun _ h => h) (fun u ra t H1 o1 ht hvm hw hB hz hk hS => ?_)
  obtain rfl := hw
  obtain ⟨rfl, hB⟩ := hB
  rw [← ht] at hS ⊢
  exact k t.heap o1 ls hB.1 hS h3
theorem go_cVIg {R : Room} {cells slots : Nat} (K : Kx p s m args meth c cc nL own G) {r : Int32} (hM : MI l G y bytes maxL ret h (.ref (gB G + i) :: As) M r M') (cf : CF y bytes maxL ret n) (cv : CFv y) (hl : Cond.methodLink own index y ∈ TT) (hr : RV G M i y.cls) (hroom : (rmH h).frames + 1 ≤ R.frames ∧ 8 + (maxL + 11) + (rmH h).locals ≤ R.locals) (hcs : cells + 0 ≤ R.cells ∧ slots + 0 ≤ R.slots) (hn : As.length = n) (hst : st = As.reverse ++ .ref (gB G + i) :: rest) (hW : (rest.map fun v => v.category).sum ≤ 8) (hdg : decode cc pc = .ok (.invokevirtual index, 3)) (k : GOg p l e R cells slots s m args below meth c Q G nL (Wl G M') (pc + 3) lv (.int r :: rest)) : GOg p l e R cells slots s m args below meth c Q G nL (Wl G M) pc lv st := by
  intro H o ls h1 h2 h3
  obtain ⟨ci, q, fs, hq, hqC, hi, he⟩ := hr
  have hrec := va_recv (q0 := i) K.2.2.2.2.2.1.1 h1 hq ((wld_at G M hi).trans (congrArg some (show cellM G M i = (gB G + i, _) from Prod.ext rfl he)))
  rw [hqC] at hrec
  refine va_calli (va_runV (C := y.cls) ⟨K.1, K.2.1, K.2.2.1, K.2.2.2.1, K.2.2.2.2.1⟩ hM ⟨callB_of n K.2.2.2.2.1 (good_TT cf.1) rfl rfl rfl (K.2.2.2.2.1 _ cf.2.1) (K.2.2.2.2.1 _ hl) cf.2.2.1 hroom, K.2.2.2.2.1 _ cv.1, K.2.2.2.2.1 _ cv.2⟩ ⟨wB_blind G _ M, hrec, pre_in K h1 h2 _⟩ rfl hn h3.1 hst (lv_room hW) hdg hcs) h2 (fun _ _ h => h) (fun _ h => h) (fun r1 u t H1 o1 ht hvm hw hB hz hk hS => ?_)
  obtain ⟨rfl, rfl⟩ := hw
  rw [← ht] at hS ⊢
  exact k t.heap o1 ls hB.1 hS h3
theorem cm20 (h : SH i = (20, n)) : cellM G M i = (gB G + i, .inl (G.2.1 0, n, .inl (M.1 i))) := by unfold cellM; rw [h]; rfl
theorem cm21 (h : SH i = (21, n)) : cellM G M i = (gB G + i, .inl (G.2.1 0, n, .inl (M.2.1 i))) := by unfold cellM; rw [h]; rfl
theorem cm22 (h : SH i = (22, n)) : cellM G M i = (gB G + i, .inl (G.2.1 1, n, .inl (M.2.1 i))) := by unfold cellM; rw [h]; rfl
theorem cm23 (h : SH i = (23, n)) : cellM G M i = (gB G + i, .inl (G.2.1 2, n, .inr (.inl (M.2.2 i)))) := by unfold cellM; rw [h]; rfl
theorem cm24 (h : SH i = (24, n)) : cellM G M i = (gB G + i, .inl (G.2.1 3, n, .inr (.inr (.inr (.inr (fun k => some (gB G + (422 + 6 * k)))))))) := by unfold cellM; rw [h]; rfl
theorem cm25 (h : SH i = (25, n)) : cellM G M i = (gB G + i, .inl (G.2.1 4, n, .inr (.inr (.inr (.inr (fun k => some (gB G + (i + 1 + 6 * k)))))))) := by unfold cellM; rw [h]; rfl
theorem go_cald (K : Kx p s m args meth c cc nL own G) (hi : i < NN) (hsh : SH i = (20, n)) {x : Int32} {kx : Nat} (hin : vp_in x n) (hk : x.toNatClampNeg = kx) (hdg : decode cc pc = .ok (.iaload, 1)) (k : GO p l e hR s m args below meth c Q G nL M (pc + 1) lv (.int (M.1 i kx) :: rest)) : GO p l e hR s m args below meth c Q G nL M (pc) lv (.int x :: .ref (gB G + i) :: rest) := fun H o ls h1 h2 h3 => va_iald K.1 K.2.1 K.2.2.2.2.2.1.1 h1 i 0 ((wld_at G M hi).trans (congrArg some (cm20 hsh))) rfl hin hdg (by rw [hk]; exact k H o ls h1 h2 h3)
theorem go_mald (K : Kx p s m args meth c cc nL own G) (hi : i < NN) (hsh : SH i = (21, n)) {x : Int32} {kx : Nat} (hin : vp_in x n) (hk : x.toNatClampNeg = kx) (hdg : decode cc pc = .ok (.iaload, 1)) (k : GO p l e hR s m args below meth c Q G nL M (pc + 1) lv (.int (M.2.1 i kx) :: rest)) : GO p l e hR s m args below meth c Q G nL M (pc) lv (.int x :: .ref (gB G + i) :: rest) := fun H o ls h1 h2 h3 => va_iald K.1 K.2.1 K.2.2.2.2.2.1.1 h1 i 0 ((wld_at G M hi).trans (congrArg some (cm21 hsh))) rfl hin hdg (by rw [hk]; exact k H o ls h1 h2 h3)
theorem go_mbald (K : Kx p s m args meth c cc nL own G) (hi : i < NN) (hsh : SH i = (22, n)) {x : Int32} {kx : Nat} (hin : vp_in x n) (hk : x.toNatClampNeg = kx) (hdg : decode cc pc = .ok (.baload, 1)) (k : GO p l e hR s m args below meth c Q G nL M (pc + 1) lv (.int (M.2.1 i kx) :: rest)) : GO p l e hR s m args below meth c Q G nL M (pc) lv (.int x :: .ref (gB G + i) :: rest) := fun H o ls h1 h2 h3 => va_bald K.1 K.2.1 K.2.2.2.2.2.1.1 h1 i 1 ((wld_at G M hi).trans (congrArg some (cm22 hsh))) rfl hin hdg (by rw [hk]; exact k H o ls h1 h2 h3)
theorem go_mlald (K : Kx p s m args meth c cc nL own G) (hi : i < NN) (hsh : SH i = (23, n)) {x : Int32} {kx : Nat} (hin : vp_in x n) (hk : x.toNatClampNeg = kx) (hdg : decode cc pc = .ok (.laload, 1)) (k : GO p l e hR s m args below meth c Q G nL M (pc + 1) lv (.long (M.2.2 i kx) :: rest)) : GO p l e hR s m args below meth c Q G nL M (pc) lv (.int x :: .ref (gB G + i) :: rest) := fun H o ls h1 h2 h3 => va_lald K.1 K.2.1 K.2.2.2.2.2.1.1 h1 i 2 ((wld_at G M hi).trans (congrArg some (cm23 hsh))) rfl hin hdg (by rw [hk]; exact k H o ls h1 h2 h3)
theorem go_cast (K : Kx p s m args meth c cc nL own G) (hi : i < NN) (hsh : SH i = (20, n)) {x : Int32} {v : Int32} {kx : Nat} (hin : vp_in x n) (hk : x.toNatClampNeg = kx) (hdg : decode cc pc = .ok (.iastore, 1)) (k : GO p l e hR s m args below meth c Q G nL (up2 M.1 i kx v, M.2) (pc + 1) lv (rest)) : GO p l e hR s m args below meth c Q G nL M (pc) lv (.int v :: .int x :: .ref (gB G + i) :: rest) := by
  subst hk
  intro H o ls h1 h2 h3
  refine va_iast K.1 K.2.1 K.2.2.2.2.2.1.1 h1 (wld_D G M) h2 i 0 ((wld_at G M hi).trans (congrArg some (cm20 hsh))) rfl hin hdg (fun H1 o1 hP hD hS => ?_)
  rw [wld_ext G M (up2 M.1 i x.toNatClampNeg v, M.2) hi _ (fun j hj => ⟨up2_ne hj, rfl, rfl⟩) (by rw [cm20 hsh]; simp [up2_eq])] at hP
  exact k H1 o1 ls hP hS h3
theorem go_mast (K : Kx p s m args meth c cc nL own G) (hi : i < NN) (hsh : SH i = (21, n)) {x : Int32} {v : Int32} {kx : Nat} (hin : vp_in x n) (hk : x.toNatClampNeg = kx) (hdg : decode cc pc = .ok (.iastore, 1)) (k : GO p l e hR s m args below meth c Q G nL (M.1, oup M.2 i kx v) (pc + 1) lv (rest)) : GO p l e hR s m args below meth c Q G nL M (pc) lv (.int v :: .int x :: .ref (gB G + i) :: rest) := by
  subst hk
  intro H o ls h1 h2 h3
  refine va_iast K.1 K.2.1 K.2.2.2.2.2.1.1 h1 (wld_D G M) h2 i 0 ((wld_at G M hi).trans (congrArg some (cm21 hsh))) rfl hin hdg (fun H1 o1 hP hD hS => ?_)
  rw [wld_ext G M (M.1, oup M.2 i x.toNatClampNeg v) hi _ (fun j hj => ⟨rfl, up2_ne hj, rfl⟩) (by rw [cm21 hsh]; simp [oup, up2_eq])] at hP
  exact k H1 o1 ls hP hS h3
theorem go_mbast (K : Kx p s m args meth c cc nL own G) (hi : i < NN) (hsh : SH i = (22, n)) {x : Int32} {v : Int32} {kx : Nat} (hin : vp_in x n) (hk : x.toNatClampNeg = kx) (hdg : decode cc pc = .ok (.bastore, 1)) (k : GO p l e hR s m args below meth c Q G nL (M.1, oup M.2 i kx (vp_nar .byte v)) (pc + 1) lv (rest)) : GO p l e hR s m args below meth c Q G nL M (pc) lv (.int v :: .int x :: .ref (gB G + i) :: rest) := by
  subst hk
  intro H o ls h1 h2 h3
  refine va_bast K.1 K.2.1 K.2.2.2.2.2.1.1 h1 (wld_D G M) h2 i 1 ((wld_at G M hi).trans (congrArg some (cm22 hsh))) rfl hin hdg (fun H1 o1 hP hD hS => ?_)
  rw [wld_ext G M (M.1, oup M.2 i x.toNatClampNeg (vp_nar .byte v)) hi _ (fun j hj => ⟨rfl, up2_ne hj, rfl⟩) (by rw [cm22 hsh]; simp [oup, up2_eq])] at hP
  exact k H1 o1 ls hP hS h3
theorem go_mlast (K : Kx p s m args meth c cc nL own G) (hi : i < NN) (hsh : SH i = (23, n)) {x : Int32} {v : Int64} {kx : Nat} (hin : vp_in x n) (hk : x.toNatClampNeg = kx) (hdg : decode cc pc = .ok (.lastore, 1)) (k : GO p l e hR s m args below meth c Q G nL (M.1, oupJ M.2 i kx v) (pc + 1) lv (rest)) : GO p l e hR s m args below meth c Q G nL M (pc) lv (.long v :: .int x :: .ref (gB G + i) :: rest) := by
  subst hk
  intro H o ls h1 h2 h3
  refine va_last K.1 K.2.1 K.2.2.2.2.2.1.1 h1 (wld_D G M) h2 i 2 ((wld_at G M hi).trans (congrArg some (cm23 hsh))) rfl hin hdg (fun H1 o1 hP hD hS => ?_)
  rw [wld_ext G M (M.1, oupJ M.2 i x.toNatClampNeg v) hi _ (fun j hj => ⟨rfl, rfl, by simp [oupJ, hj]⟩) (by rw [cm23 hsh]; simp [oupJ])] at hP
  exact k H1 o1 ls hP hS h3
theorem go_scald (K : Kx p s m args meth c cc nL own G) (hi : i < NN) (hsh : SH i = (24, n)) {x : Int32} {kx : Nat} (hin : vp_in x n) (hk : x.toNatClampNeg = kx) (hdg : decode cc pc = .ok (.aaload, 1)) (k : GO p l e hR s m args below meth c Q G nL M (pc + 1) lv (.ref (gB G + (422 + 6 * kx)) :: rest)) : GO p l e hR s m args below meth c Q G nL M (pc) lv (.int x :: .ref (gB G + i) :: rest) := fun H o ls h1 h2 h3 => va_aldq K.1 K.2.1 K.2.2.2.2.2.1.1 h1 i 3 ((wld_at G M hi).trans (congrArg some (cm24 hsh))) rfl hin hdg (by rw [hk]; exact k H o ls h1 h2 h3)
theorem go_stald (K : Kx p s m args meth c cc nL own G) (hi : i < NN) (hsh : SH i = (25, n)) {x : Int32} {kx : Nat} (hin : vp_in x n) (hk : x.toNatClampNeg = kx) (hdg : decode cc pc = .ok (.aaload, 1)) (k : GO p l e hR s m args below meth c Q G nL M (pc + 1) lv (.ref (gB G + (i + 1 + 6 * kx)) :: rest)) : GO p l e hR s m args below meth c Q G nL M (pc) lv (.int x :: .ref (gB G + i) :: rest) := fun H o ls h1 h2 h3 => va_aldq K.1 K.2.1 K.2.2.2.2.2.1.1 h1 i 4 ((wld_at G M hi).trans (congrArg some (cm25 hsh))) rfl hin hdg (by rw [hk]; exact k H o ls h1 h2 h3)
theorem go_clen (K : Kx p s m args meth c cc nL own G) (hi : i < NN) (hsh : SH i = (20, n)) {v : Int32} (hv : Int32.ofNat n = v) (hdg : decode cc pc = .ok (.arraylength, 1)) (k : GO p l e hR s m args below meth c Q G nL M (pc + 1) lv (.int v :: rest)) : GO p l e hR s m args below meth c Q G nL M (pc) lv (.ref (gB G + i) :: rest) := fun H o ls h1 h2 h3 => va_alen K.1 K.2.1 K.2.2.2.2.2.1.1 h1 i 0 ((wld_at G M hi).trans (congrArg some (cm20 hsh))) rfl hv hdg (k H o ls h1 h2 h3)
theorem go_mlen (K : Kx p s m args meth c cc nL own G) (hi : i < NN) (hsh : SH i = (21, n)) {v : Int32} (hv : Int32.ofNat n = v) (hdg : decode cc pc = .ok (.arraylength, 1)) (k : GO p l e hR s m args below meth c Q G nL M (pc + 1) lv (.int v :: rest)) : GO p l e hR s m args below meth c Q G nL M (pc) lv (.ref (gB G + i) :: rest) := fun H o ls h1 h2 h3 => va_alen K.1 K.2.1 K.2.2.2.2.2.1.1 h1 i 0 ((wld_at G M hi).trans (congrArg some (cm21 hsh))) rfl hv hdg (k H o ls h1 h2 h3)
theorem go_sclen (K : Kx p s m args meth c cc nL own G) (hi : i < NN) (hsh : SH i = (24, n)) {v : Int32} (hv : Int32.ofNat n = v) (hdg : decode cc pc = .ok (.arraylength, 1)) (k : GO p l e hR s m args below meth c Q G nL M (pc + 1) lv (.int v :: rest)) : GO p l e hR s m args below meth c Q G nL M (pc) lv (.ref (gB G + i) :: rest) := fun H o ls h1 h2 h3 => va_alen K.1 K.2.1 K.2.2.2.2.2.1.1 h1 i 3 ((wld_at G M hi).trans (congrArg some (cm24 hsh))) rfl hv hdg (k H o ls h1 h2 h3)
theorem go_stlen (K : Kx p s m args meth c cc nL own G) (hi : i < NN) (hsh : SH i = (25, n)) {v : Int32} (hv : Int32.ofNat n = v) (hdg : decode cc pc = .ok (.arraylength, 1)) (k : GO p l e hR s m args below meth c Q G nL M (pc + 1) lv (.int v :: rest)) : GO p l e hR s m args below meth c Q G nL M (pc) lv (.ref (gB G + i) :: rest) := fun H o ls h1 h2 h3 => va_alen K.1 K.2.1 K.2.2.2.2.2.1.1 h1 i 4 ((wld_at G M hi).trans (congrArg some (cm25 hsh))) rfl hv hdg (k H o ls h1 h2 h3)
theorem nfw : nativeFrameWords "java/lang/System" "arraycopy" 5 = 7 := by decide +kernel
theorem nfw_ok {rest : List Value} {hR : Nat} (hW : (rest.map fun v => v.category).sum ≤ 8) (hR1 : 0 < hR) : (rest.map fun v => v.category).sum + (nativeFrameWords "java/lang/System" "arraycopy" 5 + 11) ≤ (rmH hR).locals := by rw [nfw]; show _ ≤ 60 * hR; omega
theorem go_copy (K : Kx p s m args meth c cc nL own G) {j n0 n1 : Nat} (hi : i < NN) (hsi : SH i = (20, n0)) (hj : j < NN) (hsj : SH j = (20, n1)) {sp dp n : Int32} (g1 : ¬ sp < 0) (g2 : ¬ dp < 0) (g3 : ¬ n < 0) {sp' dp' n' : Nat} (e1 : sp.toNatClampNeg = sp') (e2 : dp.toNatClampNeg = dp') (e3 : n.toNatClampNeg = n') (g4 : sp' + n' ≤ n0) (g5 : dp' + n' ≤ n1) (hl : Cond.methodLink own index arraycopyName ∈ TT) (hR1 : 0 < hR) (hW : (rest.map fun v => v.category).sum ≤ 8) (hdg : decode cc pc = .ok (.invokestatic index, 3)) (k : GO p l e hR s m args below meth c Q G nL (rowC M.1 j (va_cpy (M.1 i) (M.1 j) sp' dp' n'), M.2) (pc + 3) lv (rest)) : GO p l e hR s m args below meth c Q G nL M (pc) lv (.int n :: .int dp :: .ref (gB G + j) :: .int sp :: .ref (gB G + i) :: rest) := by
  subst e1 e2 e3
  intro H o ls h1 h2 h3
  refine va_copyi K.1 K.2.1 (K.2.2.1.trans h3.1.symm) K.2.2.2.1 (K.2.2.2.2.1 _ hl) (K.2.2.2.2.1 _ kn_8bc877) (K.2.2.2.2.1 _ kt_8bc877) (K.2.2.2.2.1 _ kj_J10) K.2.2.2.2.2.1.1 h1 (wld_D G M) h2 i j 0 0 ((wld_at G M hi).trans (congrArg some (cm20 hsi))) ((wld_at G M hj).trans (congrArg some (cm20 hsj))) rfl rfl rfl g1 g2 g3 g4 g5 (fun _ _ => rfl) (show 1 ≤ hR from hR1) (nfw_ok hW hR1) hdg (fun H1 o1 hP hD hS => ?_)
  rw [wld_ext G M (rowC M.1 j (va_cpy (M.1 i) (M.1 j) sp.toNatClampNeg dp.toNatClampNeg n.toNatClampNeg), M.2) hj _ (fun q hq => ⟨rowC_ne hq, rfl, rfl⟩) (by rw [cm20 hsj]; simp [rowC_eq])] at hP
  exact k H1 o1 ls hP hS h3
theorem go_iret (K : Kx p s m args meth c cc nL own G) {v r : Int32} (hr : meth.sig.returnType = some .int) (hv : v = r) (hM : M = M') (hdg : decode cc pc = .ok (.ireturn, 1)) : GO p l e hR s m args below meth c (MQ below (va_Qi (fun (r' : Int32) (u : CM × OM) => r' = r ∧ u = M') (wB G) (Fr G)) args s 0 0 (Fr G)) G nL M pc lv [.int v] := by
  intro H o ls h1 h2 h3
  have hlk : meth.locks = false := K.2.2.2.2.2.2
  exact W.iret K.1 K.2.1 hr (fun t ht hW => ⟨⟨v, M, rfl, ⟨hv, hM⟩, ⟨by rw [ht]; exact h1, by rw [ht]; exact xx.go hW h2.2.1 K.2.2.2.2.2.1⟩⟩, h2.F ht⟩) h2.2.2 hdg hlk
theorem go_zret (K : Kx p s m args meth c cc nL own G) {v r : Int32} {ty : FieldType} (hr : meth.sig.returnType = some ty) (hn : narrow ty (.int v) = .int v) (hv : v = r) (hM : M = M') (hdg : decode cc pc = .ok (.ireturn, 1)) : GO p l e hR s m args below meth c (MQ below (va_Qi (fun (r' : Int32) (u : CM × OM) => r' = r ∧ u = M') (wB G) (Fr G)) args s 0 0 (Fr G)) G nL M pc lv [.int v] := by
  intro H o ls h1 h2 h3
  have hlk : meth.locks = false := K.2.2.2.2.2.2
  exact W.zret K.1 K.2.1 hr hn (fun t ht hW => ⟨⟨v, M, rfl, ⟨hv, hM⟩, ⟨by rw [ht]; exact h1, by rw [ht]; exact xx.go hW h2.2.1 K.2.2.2.2.2.1⟩⟩, h2.F ht⟩) h2.2.2 hdg hlk
theorem go_lret (K : Kx p s m args meth c cc nL own G) {v r : Int64} (hr : meth.sig.returnType = some .long) (hv : v = r) (hM : M = M') (hdg : decode cc pc = .ok (.lreturn, 1)) : GO p l e hR s m args below meth c (MQ below (va_Ql (fun (r' : Int64) (u : CM × OM) => r' = r ∧ u = M') (wB G) (Fr G)) args s 0 0 (Fr G)) G nL M pc lv [.long v] := by
  intro H o ls h1 h2 h3
  have hlk : meth.locks = false := K.2.2.2.2.2.2
  exact W.lret K.1 K.2.1 hr (fun t ht hW => ⟨⟨v, M, rfl, ⟨hv, hM⟩, ⟨by rw [ht]; exact h1, by rw [ht]; exact xx.go hW h2.2.1 K.2.2.2.2.2.1⟩⟩, h2.F ht⟩) h2.2.2 hdg hlk
theorem go_vret (K : Kx p s m args meth c cc nL own G) (hr : meth.sig.returnType = none) (hM : M = M') (hdg : decode cc pc = .ok (.return_, 1)) : GO p l e hR s m args below meth c (MQ below (va_Qv (fun (u : CM × OM) => u = M') (wB G) (Fr G)) args s 0 0 (Fr G)) G nL M pc lv [] := by
  intro H o ls h1 h2 h3
  have hlk : meth.locks = false := K.2.2.2.2.2.2
  exact W.vret K.1 K.2.1 hr (fun t ht hW => ⟨⟨M, rfl, hM, ⟨by rw [ht]; exact h1, by rw [ht]; exact xx.go hW h2.2.1 K.2.2.2.2.2.1⟩⟩, h2.F ht⟩) h2.2.2 hdg hlk
theorem go_aret (K : Kx p s m args meth c cc nL own G) {v r : Nat} {rt : FieldType} (hr : meth.sig.returnType = some rt) (hrt : (∃ n, rt = .object n) ∨ ∃ t, rt = .array t) (hv : v = r) (hM : M = M') (hdg : decode cc pc = .ok (.areturn, 1)) : GO p l e hR s m args below meth c (MQ below (va_Qr (fun (u : CM × OM) => u = M') (fun u a t => a = gB G + r ∧ wB G u t) (Fr G)) args s 0 0 (Fr G)) G nL M pc lv [.ref (gB G + v)] := by
  intro H o ls h1 h2 h3
  have hlk : meth.locks = false := K.2.2.2.2.2.2
  exact W.aret K.1 K.2.1 hr hrt (Or.inr ⟨_, rfl⟩) (fun t ht hW => ⟨⟨M, _, rfl, hM, by rw [hv], ⟨by rw [ht]; exact h1, by rw [ht]; exact xx.go hW h2.2.1 K.2.2.2.2.2.1⟩⟩, h2.F ht⟩) h2.2.2 hdg hlk
end GOC
/-- a guard: what the machine tests before it uses -/
def gd {α : Type} (c : Prop) [Decidable c] (k : Option α) : Option α := if c then k else none
theorem gd_e {α : Type} {c : Prop} [Decidable c] {k : Option α} {r : α} (h : gd c k = some r) : c ∧ k = some r := by
  unfold gd at h
  by_cases hc : c
  · rw [if_pos hc] at h; exact ⟨hc, h⟩
  · rw [if_neg hc] at h; cases h
theorem gd_p {α : Type} {c : Prop} [Decidable c] {k : Option α} (h : c) : gd c k = k := if_pos h
theorem ite_t {α : Type} {c : Prop} [Decidable c] {a b r : α} (h : (if c then a else b) = r) (hc : c) : a = r := by rwa [if_pos hc] at h
theorem ite_f {α : Type} {c : Prop} [Decidable c] {a b r : α} (h : (if c then a else b) = r) (hc : ¬ c) : b = r := by rwa [if_neg hc] at h
def bnd {α β : Type} (x : Option α) (k : α → Option β) : Option β := match x with
  | some a => k a
  | none => none
def bnd2 {α β γ : Type} (x : Option (α × β)) (k : α → β → Option γ) : Option γ := match x with
  | some (a, b) => k a b
  | none => none
theorem bnd_e {α β : Type} {x : Option α} {k : α → Option β} {r : β} (h : bnd x k = some r) : ∃ a, x = some a ∧ k a = some r := by
  cases x with
  | none => cases h
  | some a => exact ⟨a, rfl, h⟩
theorem bnd2_e {α β γ : Type} {x : Option (α × β)} {k : α → β → Option γ} {r : γ} (h : bnd2 x k = some r) : ∃ a b, x = some (a, b) ∧ k a b = some r := by
  cases x with
  | none => cases h
  | some q => exact ⟨q.1, q.2, rfl, h⟩
theorem bnd_s {α β : Type} {a : α} {k : α → Option β} : bnd (some a) k = k a := rfl
theorem bnd2_s {α β γ : Type} {a : α} {b : β} {k : α → β → Option γ} : bnd2 (some (a, b)) k = k a b := rfl
abbrev inb (i : Int32) (n : Nat) : Prop := ¬ (i < 0 ∨ n ≤ i.toNatClampNeg)
theorem narrow_z {v : Int32} (h : v = 0 ∨ v = 1) : narrow .boolean (.int v) = .int v := by rcases h with rfl | rfl <;> rfl
