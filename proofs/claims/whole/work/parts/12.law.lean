/-! THE CLAIM OUT OF ONE WALK OF THE LAW'S BODY. Your part is whole_start (and what it stands on); all else here is the same for every law, but numbers. -/
def R_law : String := "BowsOwedLaw"
def lw_P (b : Addr) (xs : List Int32) (args : Array Value) (s : State) : Prop := args = #[.ref b] ∧ s.IntsAt b xs ∧ xs.length ≤ 3584 ∧ (Jvm.Cond.and given_1 narrow_1).before args s = true
def lw_Q (_ : Array Value) (s : State) (o : Outcome) (t : State) : Prop := o = .returned (some (.int 1)) ∧ Framed s o t [] 600000 7302250
def lw_Z (below : List Frame) (a : Array Value) (s : State) : State → Prop := fun t => ∃ o, t.status = .running ∧ Ended t below o ∧ lw_Q a s o t
/-- the law's own end, with 1 on the stack, nothing written that was there before, its room as the claim has it -/
theorem lw_ret {p : Program} {l : Launch} {e : Env} {s : State} {m : MethodId} {below : List Frame} {meth : Method} {c : Code} {b : Nat} (hx : p.tables.exec = Jvm.exec) (hb : c.code = code) (hr : meth.sig.returnType = ret) (hlocks : meth.locks = false) {pc : Nat} {H : Heap} {ls : Array Slot} (hdg : decode code pc = .ok (.ireturn, 1)) : W p l e room_1 s m #[Value.ref b] below meth c H [] 600000 7302250 (lw_Z below #[Value.ref b] s) (F0 m pc ls [.int 1]) := by
  intro T hT X
  obtain ⟨fs, hret, hrun, hended, hW, hframe⟩ := X.leave (v := some (.int 1)) (hlocks := hlocks) (fun h => by rw [hr] at h; cases h)
  have hmeth' : T.vm.method? m = some meth := X.method'
  refine ⟨T.setFrames fs, ?_, .returned (some (.int 1)), hrun, hended, rfl, ⟨_, rfl⟩, hW, hframe⟩
  jvm_step X.here [X.here.top, hx, hb, hdg, hmeth', hr, ret, narrow_b1]
  (try refine ⟨rfl, ?_⟩); (try refine ⟨rfl, ?_⟩)
  first | (intro acts; rw [hret _ acts rfl rfl rfl]) | rw [hret _ _ rfl rfl rfl]
  exact Steps.refl _
section GOL
variable {p : Program} {l : Launch} {e : Env} {s : State} {m : MethodId} {below : List Frame} {meth : Method} {c : Code} {G : GT} {b L : Nat} {xs : Nat → Int32} {R : Room} {cells slots pc : Nat} {M : CM × OM} {lv : List (Nat × Value)} {st : List Value} {Q : State → Prop} {nL : Nat} {cc : ByteArray} {own : String} {args : Array Value} {Wp : Heap → Prop}
theorem go_sld (K : Kx p s m args meth c cc nL own G) (hX : va_X b L xs s s.heap) (hbl : b < s.heap.size) (hbA : ¬ Fr G b) {x : Int32} {k : Nat} (hx : x = nI k) (hk : k < L) (hL : L ≤ 3584) (hdg : decode cc pc = .ok (.iaload, 1)) (kk : GOg p l e R cells slots s m args below meth c Q G nL Wp (pc + 1) lv (.int (xs k) :: st)) : GOg p l e R cells slots s m args below meth c Q G nL Wp (pc) lv (.int x :: .ref b :: st) := by
  subst hx
  have e : (nI k).toNatClampNeg = k := nI_clamp (by omega)
  intro H o ls h1 h2 h3
  exact va_sld K.1 K.2.1 hX hbl hbA h2 (vp_in_nI hk (by omega)) hdg (by rw [e]; exact kk H o ls h1 h2 h3)
theorem go_slen (K : Kx p s m args meth c cc nL own G) (hX : va_X b L xs s s.heap) (hbl : b < s.heap.size) (hbA : ¬ Fr G b) (hdg : decode cc pc = .ok (.arraylength, 1)) (kk : GOg p l e R cells slots s m args below meth c Q G nL Wp (pc + 1) lv (.int (nI L) :: st)) : GOg p l e R cells slots s m args below meth c Q G nL Wp (pc) lv (.ref b :: st) := fun H o ls h1 h2 h3 => va_slen K.1 K.2.1 hX hbl hbA h2 hdg (kk H o ls h1 h2 h3)
theorem law_ix {i j : Nat} {v : Int32} (hv : v = nI j) : nI i + v = nI (i + j) := by rw [hv, nI_add]
end GOL
def bz (x : Int32) : Int32 := if x = 0 then 0 else 1
def op_person (Rel : CM → OM → Prop) : Prop := ∀ (C : CM) (O : OM), Rel C O → ∀ (v w x : Int32), ∃ (r : Int32) (C' : CM) (O' : OM), f_X11_person v w x C = some (r, C') ∧ f_X12_person v w x O = some (r, O') ∧ Rel C' O'
def op_bow (Rel : CM → OM → Prop) : Prop := ∀ (C : CM) (O : OM), Rel C O → ∀ (v w : Int32), ∃ (r : Int32) (C' : CM) (O' : OM), f_X11_bow v w C = some (r, C') ∧ f_X12_bow v w O = some (r, O') ∧ Rel C' O'
def op_owe (Rel : CM → OM → Prop) : Prop := ∀ (C : CM) (O : OM), Rel C O → ∀ (v w x : Int32), ∃ (r : Int32) (C' : CM) (O' : OM), f_X11_owe v w x C = some (r, C') ∧ f_X12_owe v w x O = some (r, O') ∧ Rel C' O'
def op_walk (Rel : CM → OM → Prop) : Prop := ∀ (C : CM) (O : OM), Rel C O → ∀ (v w : Int32), ∃ (r : Int32) (C' : CM) (O' : OM), f_X11_walk v w C = some (r, C') ∧ f_X12_walk v w O = some (r, O') ∧ Rel C' O'
def op_feast (Rel : CM → OM → Prop) : Prop := ∀ (C : CM) (O : OM), Rel C O → ∃ (r : Int32) (C' : CM) (O' : OM), f_X11_feast C = some (r, C') ∧ f_X12_feast O = some (r, O') ∧ Rel C' O'
def op_clear (Rel : CM → OM → Prop) : Prop := ∀ (C : CM) (O : OM), Rel C O → ∀ (v w x : Int32), ∃ (r : Int32) (C' : CM) (O' : OM), f_X11_clear v w x C = some (r, C') ∧ f_X12_clear v w x O = some (r, O') ∧ Rel C' O'
def op_hour (Rel : CM → OM → Prop) : Prop := ∀ (C : CM) (O : OM), Rel C O → ∀ (v : Int32), ∃ (r : Int32) (C' : CM) (O' : OM), f_X11_hour v C = some (r, C') ∧ f_X12_hour v O = some (r, O') ∧ Rel C' O'
def op_weeks (Rel : CM → OM → Prop) : Prop := ∀ (C : CM) (O : OM), Rel C O → ∀ (v w : Int32), ∃ (r : Int32) (C' : CM) (O' : OM), f_X11_weeks v w C = some (r, C') ∧ f_X12_weeks v w O = some (r, O') ∧ Rel C' O'
def op_feed (Rel : CM → OM → Prop) : Prop := ∀ (C : CM) (O : OM), Rel C O → ∀ (v w x y z : Int32), ∃ (r : Int32) (C' : CM) (O' : OM), f_X11_feed v w x y z C = some (r, C') ∧ f_X12_feed v w x y z O = some (r, O') ∧ Rel C' O'
def op_end (Rel : CM → OM → Prop) : Prop := ∀ (C : CM) (O : OM), Rel C O → ∀ (v : Int32), ∃ (r : Int32) (C' : CM) (O' : OM), f_X11_end v C = some (r, C') ∧ f_X12_end v O = some (r, O') ∧ Rel C' O'
def op_text (Rel : CM → OM → Prop) : Prop := ∀ (C : CM) (O : OM), Rel C O → ∃ (r : Int32) (C' : CM) (O' : OM), f_X11_text C = some (r, C') ∧ f_X12_text O = some (r, O') ∧ Rel C' O'
def op_fault (Rel : CM → OM → Prop) : Prop := ∀ (C : CM) (O : OM), Rel C O → ∀ (v : Int32), ∃ (r : Int32), f_X11_fault v C = r ∧ f_X12_fault v O = r ∧ Rel C O
def op_by (Rel : CM → OM → Prop) : Prop := ∀ (C : CM) (O : OM), Rel C O → ∀ (v : Int32), ∃ (r : Int32) (C' : CM) (O' : OM), f_X11_by v C = some (r, C') ∧ f_X12_by v O = some (r, O') ∧ Rel C' O'
def op_played (Rel : CM → OM → Prop) : Prop := ∀ (C : CM) (O : OM), Rel C O → ∀ (v : Int32), ∃ (r : Int32) (C' : CM) (O' : OM), f_X11_played v C = some (r, C') ∧ f_X12_played v O = some (r, O') ∧ Rel C' O'
def op_undo (Rel : CM → OM → Prop) : Prop := ∀ (C : CM) (O : OM), Rel C O → ∃ (r : Int32) (C' : CM) (O' : OM), f_X11_undo C = some (r, C') ∧ f_X12_undo O = some (r, O') ∧ Rel C' O'
def op_of (Rel : CM → OM → Prop) : Prop := ∀ (C : CM) (O : OM), Rel C O → ∀ (v w : Int32), ∃ (r : Int32) (C' : CM) (O' : OM), f_X11_of v w C = some (r, C') ∧ f_X12_of v w O = some (r, O') ∧ Rel C' O'
def op_two (Rel : CM → OM → Prop) : Prop := ∀ (C : CM) (O : OM), Rel C O → ∀ (v w x : Int32), ∃ (r : Int32) (C' : CM) (O' : OM), f_X11_two v w x C = some (r, C') ∧ f_X12_two v w x O = some (r, O') ∧ Rel C' O'
def op_more (Rel : CM → OM → Prop) : Prop := ∀ (C : CM) (O : OM), Rel C O → ∀ (v w x : Int32), ∃ (r : Int32) (C' : CM) (O' : OM), f_X11_more v w x C = some (r, C') ∧ f_X12_more v w x O = some (r, O') ∧ Rel C' O'
def op_book (Rel : CM → OM → Prop) : Prop := ∀ (C : CM) (O : OM), Rel C O → ∀ (v w : Int32), ∃ (r : Int32), f_X11_book v w C = some r ∧ f_X12_book v w O = some r ∧ Rel C O
def op_foretold (Rel : CM → OM → Prop) : Prop := ∀ (C : CM) (O : OM), Rel C O → ∀ (v w x : Int32), ∃ (r : Int32) (C' : CM) (O' : OM), f_X11_foretold v w x C = some (r, C') ∧ f_X12_foretold v w x O = some (r, O') ∧ Rel C' O'
def op_indoors (Rel : CM → OM → Prop) : Prop := ∀ (C : CM) (O : OM), Rel C O → ∀ (v w : Int32), ∃ (r : Int32) (C' : CM) (O' : OM), f_X11_indoors v w C = some (r, C') ∧ f_X12_indoors v w O = some (r, O') ∧ Rel C' O'
def op_first (Rel : CM → OM → Prop) : Prop := ∀ (C : CM) (O : OM), Rel C O → ∀ (v : Int32), ∃ (r : Int32) (C' : CM) (O' : OM), f_X11_first v C = some (r, C') ∧ f_X12_first v O = some (r, O') ∧ Rel C' O'
def op_whose (Rel : CM → OM → Prop) : Prop := ∀ (C : CM) (O : OM), Rel C O → ∀ (v : Int32), ∃ (r : Int32) (C' : CM) (O' : OM), f_X11_whose v C = some (r, C') ∧ f_X12_whose v O = some (r, O') ∧ Rel C' O'
def op_route (Rel : CM → OM → Prop) : Prop := ∀ (C : CM) (O : OM), Rel C O → ∀ (v w : Int32), ∃ (r : Int32) (C' : CM) (O' : OM), f_X11_route v w C = some (r, C') ∧ f_X12_route v w O = some (r, O') ∧ Rel C' O'
def op_settled (Rel : CM → OM → Prop) : Prop := ∀ (C : CM) (O : OM), Rel C O → ∀ (v : Int32), ∃ (r : Int32) (C' : CM) (O' : OM), f_X11_settled (bz v) C = some (r, C') ∧ f_X12_settled (bz v) O = some (r, O') ∧ Rel C' O'
def op_lane (Rel : CM → OM → Prop) : Prop := ∀ (C : CM) (O : OM), Rel C O → ∀ (v w x y z u : Int32), ∃ (r : Int32), f_X11_lane v w x y z u = some r ∧ f_X12_lane v w x y z u = some r ∧ Rel C O
def op_doors (Rel : CM → OM → Prop) : Prop := ∀ (C : CM) (O : OM), Rel C O → ∀ (v : Int32), ∃ (r : Int32) (C' : CM) (O' : OM), f_X11_doors v C = some (r, C') ∧ f_X12_doors v O = some (r, O') ∧ Rel C' O'
def op_neck (Rel : CM → OM → Prop) : Prop := ∀ (C : CM) (O : OM), Rel C O → ∀ (v w : Int32), ∃ (r : Int32) (C' : CM) (O' : OM), f_X11_neck v w C = some (r, C') ∧ f_X12_neck v w O = some (r, O') ∧ Rel C' O'
def op_explained (Rel : CM → OM → Prop) : Prop := ∀ (C : CM) (O : OM), Rel C O → ∃ (r : Int32) (C' : CM), f_X11_explained C = some (r, C') ∧ f_X12_explained O = some r ∧ Rel C' O
def op_sure (Rel : CM → OM → Prop) : Prop := ∀ (C : CM) (O : OM), Rel C O → ∀ (v w : Int32), ∃ (r : Int32) (C' : CM), f_X11_sure v w C = some (r, C') ∧ f_X12_sure v w O = some r ∧ Rel C' O
def op_corner (Rel : CM → OM → Prop) : Prop := ∀ (C : CM) (O : OM), Rel C O → ∃ (r : Int32) (C' : CM), f_X11_corner C = some (r, C') ∧ f_X12_corner O = some r ∧ Rel C' O
def op_image (Rel : CM → OM → Prop) : Prop := ∀ (C : CM) (O : OM), Rel C O → ∃ (r : Int32) (C' : CM) (O' : OM), f_X11_image C = some (r, C') ∧ f_X12_image O = some (r, O') ∧ Rel C' O'
def op_back (Rel : CM → OM → Prop) : Prop := ∀ (C : CM) (O : OM), Rel C O → ∃ (r : Int32) (C' : CM) (O' : OM), f_X11_back C = some (r, C') ∧ f_X12_back O = some (r, O') ∧ Rel C' O'
def op_about (Rel : CM → OM → Prop) : Prop := ∀ (C : CM) (O : OM), Rel C O → ∀ (v : Int32), ∃ (r : Int32), f_X11_about v C = r ∧ f_X12_about v O = some r ∧ Rel C O
def Ops (Rel : CM → OM → Prop) : Prop := op_person Rel ∧ op_bow Rel ∧ op_owe Rel ∧ op_walk Rel ∧ op_feast Rel ∧ op_clear Rel ∧ op_hour Rel ∧ op_weeks Rel ∧ op_feed Rel ∧ op_end Rel ∧ op_text Rel ∧ op_fault Rel ∧ op_by Rel ∧ op_played Rel ∧ op_undo Rel ∧ op_of Rel ∧ op_two Rel ∧ op_more Rel ∧ op_book Rel ∧ op_foretold Rel ∧ op_indoors Rel ∧ op_first Rel ∧ op_whose Rel ∧ op_route Rel ∧ op_settled Rel ∧ op_lane Rel ∧ op_doors Rel ∧ op_neck Rel ∧ op_explained Rel ∧ op_sure Rel ∧ op_corner Rel ∧ op_image Rel ∧ op_back Rel ∧ op_about Rel
set_option maxHeartbeats 4000000 in
set_option maxRecDepth 100000 in
theorem law_person {p : Program} {l : Launch} {e : Env} {s : State} {m : MethodId} {below : List Frame} {meth : Method} {c : Code} {G : GT} {b L : Nat} {xs : Nat → Int32} (K : Kx p s m #[Value.ref b] meth c cL_law 4 RL G) (hX : va_X b L xs s s.heap) (hbl : b < s.heap.size) (hbA : ¬ Fr G b) (hL : L ≤ 3584) {i : Nat} (hi : i + 7 ≤ L) {C C' : CM} {O O' : OM} {r : Int32} (h1 : f_X11_person (xs (i + 1)) (xs (i + 2)) (xs (i + 3)) C = some (r, C')) (h2 : f_X12_person (xs (i + 1)) (xs (i + 2)) (xs (i + 3)) O = some (r, O')) (kk : GOg p l e room_1 600000 7302250 s m #[Value.ref b] below meth c (lw_Z below #[Value.ref b] s) G 4 (Wl G (C', O')) 1214 [(0, .ref b), (1, .ref (gB G + 0)), (2, .ref (gB G + 446)), (3, .int (nI i))] ([])) : GOg p l e room_1 600000 7302250 s m #[Value.ref b] below meth c (lw_Z below #[Value.ref b] s) G 4 (Wl G (C, O)) 184 [(0, .ref b), (1, .ref (gB G + 0)), (2, .ref (gB G + 446)), (3, .int (nI i))] ([]) := by
  refine go_aload_n K dL_law_184 1 rfl rfl ?_
  refine go_aload_n K dL_law_185 0 rfl rfl ?_
  refine go_iload_n K dL_law_186 3 rfl rfl ?_
  refine go_iconst (v := (1 : Int32)) K dL_law_187 (by decide) ?_
  refine go_iadd K dL_law_188 ?_
  refine go_sld (k := i + 1) K hX hbl hbA (law_ix rfl) (by omega) hL dL_law_189 ?_
  refine go_aload_n K dL_law_190 0 rfl rfl ?_
  refine go_iload_n K dL_law_191 3 rfl rfl ?_
  refine go_iconst (v := (2 : Int32)) K dL_law_192 (by decide) ?_
  refine go_iadd K dL_law_193 ?_
  refine go_sld (k := i + 2) K hX hbl hbA (law_ix rfl) (by omega) hL dL_law_194 ?_
  refine go_aload_n K dL_law_195 0 rfl rfl ?_
  refine go_iload_n K dL_law_196 3 rfl rfl ?_
  refine go_iconst (v := (3 : Int32)) K dL_law_197 (by decide) ?_
  refine go_iadd K dL_law_198 ?_
  refine go_sld (k := i + 3) K hX hbl hbA (law_ix rfl) (by omega) hL dL_law_199 ?_
  refine go_cVIg K (c_X11_person l G _ _ _ C O r C' h1) cf_X11_person cv_X11_person km_L_13 rv_X11 ⟨by decide, by decide⟩ ⟨by decide, by decide⟩ rfl rfl (Nat.le_of_ble_eq_true rfl) dL_law_200 ?_
  refine go_aload_n K dL_law_203 2 rfl rfl ?_
  refine go_aload_n K dL_law_204 0 rfl rfl ?_
  refine go_iload_n K dL_law_205 3 rfl rfl ?_
  refine go_iconst (v := (1 : Int32)) K dL_law_206 (by decide) ?_
  refine go_iadd K dL_law_207 ?_
  refine go_sld (k := i + 1) K hX hbl hbA (law_ix rfl) (by omega) hL dL_law_208 ?_
  refine go_aload_n K dL_law_209 0 rfl rfl ?_
  refine go_iload_n K dL_law_210 3 rfl rfl ?_
  refine go_iconst (v := (2 : Int32)) K dL_law_211 (by decide) ?_
  refine go_iadd K dL_law_212 ?_
  refine go_sld (k := i + 2) K hX hbl hbA (law_ix rfl) (by omega) hL dL_law_213 ?_
  refine go_aload_n K dL_law_214 0 rfl rfl ?_
  refine go_iload_n K dL_law_215 3 rfl rfl ?_
  refine go_iconst (v := (3 : Int32)) K dL_law_216 (by decide) ?_
  refine go_iadd K dL_law_217 ?_
  refine go_sld (k := i + 3) K hX hbl hbA (law_ix rfl) (by omega) hL dL_law_218 ?_
  refine go_cVIg K (c_X12_person l G _ _ _ C'  O r O' h2) cf_X12_person cv_X12_person km_L_17 rv_X12 ⟨by decide, by decide⟩ ⟨by decide, by decide⟩ rfl rfl (Nat.le_of_ble_eq_true rfl) dL_law_219 ?_
  refine go_icmp_eq (tgt := 1214) K dL_law_222 (by decide) (fun _ => kk) (fun hc => absurd rfl hc)
set_option maxHeartbeats 4000000 in
set_option maxRecDepth 100000 in
theorem law_bow {p : Program} {l : Launch} {e : Env} {s : State} {m : MethodId} {below : List Frame} {meth : Method} {c : Code} {G : GT} {b L : Nat} {xs : Nat → Int32} (K : Kx p s m #[Value.ref b] meth c cL_law 4 RL G) (hX : va_X b L xs s s.heap) (hbl : b < s.heap.size) (hbA : ¬ Fr G b) (hL : L ≤ 3584) {i : Nat} (hi : i + 7 ≤ L) {C C' : CM} {O O' : OM} {r : Int32} (h1 : f_X11_bow (xs (i + 1)) (xs (i + 2)) C = some (r, C')) (h2 : f_X12_bow (xs (i + 1)) (xs (i + 2)) O = some (r, O')) (kk : GOg p l e room_1 600000 7302250 s m #[Value.ref b] below meth c (lw_Z below #[Value.ref b] s) G 4 (Wl G (C', O')) 1214 [(0, .ref b), (1, .ref (gB G + 0)), (2, .ref (gB G + 446)), (3, .int (nI i))] ([])) : GOg p l e room_1 600000 7302250 s m #[Value.ref b] below meth c (lw_Z below #[Value.ref b] s) G 4 (Wl G (C, O)) 227 [(0, .ref b), (1, .ref (gB G + 0)), (2, .ref (gB G + 446)), (3, .int (nI i))] ([]) := by
  refine go_aload_n K dL_law_227 1 rfl rfl ?_
  refine go_aload_n K dL_law_228 0 rfl rfl ?_
  refine go_iload_n K dL_law_229 3 rfl rfl ?_
  refine go_iconst (v := (1 : Int32)) K dL_law_230 (by decide) ?_
  refine go_iadd K dL_law_231 ?_
  refine go_sld (k := i + 1) K hX hbl hbA (law_ix rfl) (by omega) hL dL_law_232 ?_
  refine go_aload_n K dL_law_233 0 rfl rfl ?_
  refine go_iload_n K dL_law_234 3 rfl rfl ?_
  refine go_iconst (v := (2 : Int32)) K dL_law_235 (by decide) ?_
  refine go_iadd K dL_law_236 ?_
  refine go_sld (k := i + 2) K hX hbl hbA (law_ix rfl) (by omega) hL dL_law_237 ?_
  refine go_cVIg K (c_X11_bow l G _ _ C O r C' h1) cf_X11_bow cv_X11_bow km_L_18 rv_X11 ⟨by decide, by decide⟩ ⟨by decide, by decide⟩ rfl rfl (Nat.le_of_ble_eq_true rfl) dL_law_238 ?_
  refine go_aload_n K dL_law_241 2 rfl rfl ?_
  refine go_aload_n K dL_law_242 0 rfl rfl ?_
  refine go_iload_n K dL_law_243 3 rfl rfl ?_
  refine go_iconst (v := (1 : Int32)) K dL_law_244 (by decide) ?_
  refine go_iadd K dL_law_245 ?_
  refine go_sld (k := i + 1) K hX hbl hbA (law_ix rfl) (by omega) hL dL_law_246 ?_
  refine go_aload_n K dL_law_247 0 rfl rfl ?_
  refine go_iload_n K dL_law_248 3 rfl rfl ?_
  refine go_iconst (v := (2 : Int32)) K dL_law_249 (by decide) ?_
  refine go_iadd K dL_law_250 ?_
  refine go_sld (k := i + 2) K hX hbl hbA (law_ix rfl) (by omega) hL dL_law_251 ?_
  refine go_cVIg K (c_X12_bow l G _ _ C'  O r O' h2) cf_X12_bow cv_X12_bow km_L_22 rv_X12 ⟨by decide, by decide⟩ ⟨by decide, by decide⟩ rfl rfl (Nat.le_of_ble_eq_true rfl) dL_law_252 ?_
  refine go_icmp_eq (tgt := 1214) K dL_law_255 (by decide) (fun _ => kk) (fun hc => absurd rfl hc)
set_option maxHeartbeats 4000000 in
set_option maxRecDepth 100000 in
theorem law_owe {p : Program} {l : Launch} {e : Env} {s : State} {m : MethodId} {below : List Frame} {meth : Method} {c : Code} {G : GT} {b L : Nat} {xs : Nat → Int32} (K : Kx p s m #[Value.ref b] meth c cL_law 4 RL G) (hX : va_X b L xs s s.heap) (hbl : b < s.heap.size) (hbA : ¬ Fr G b) (hL : L ≤ 3584) {i : Nat} (hi : i + 7 ≤ L) {C C' : CM} {O O' : OM} {r : Int32} (h1 : f_X11_owe (xs (i + 1)) (xs (i + 2)) (xs (i + 3)) C = some (r, C')) (h2 : f_X12_owe (xs (i + 1)) (xs (i + 2)) (xs (i + 3)) O = some (r, O')) (kk : GOg p l e room_1 600000 7302250 s m #[Value.ref b] below meth c (lw_Z below #[Value.ref b] s) G 4 (Wl G (C', O')) 1214 [(0, .ref b), (1, .ref (gB G + 0)), (2, .ref (gB G + 446)), (3, .int (nI i))] ([])) : GOg p l e room_1 600000 7302250 s m #[Value.ref b] below meth c (lw_Z below #[Value.ref b] s) G 4 (Wl G (C, O)) 260 [(0, .ref b), (1, .ref (gB G + 0)), (2, .ref (gB G + 446)), (3, .int (nI i))] ([]) := by
  refine go_aload_n K dL_law_260 1 rfl rfl ?_
  refine go_aload_n K dL_law_261 0 rfl rfl ?_
  refine go_iload_n K dL_law_262 3 rfl rfl ?_
  refine go_iconst (v := (1 : Int32)) K dL_law_263 (by decide) ?_
  refine go_iadd K dL_law_264 ?_
  refine go_sld (k := i + 1) K hX hbl hbA (law_ix rfl) (by omega) hL dL_law_265 ?_
  refine go_aload_n K dL_law_266 0 rfl rfl ?_
  refine go_iload_n K dL_law_267 3 rfl rfl ?_
  refine go_iconst (v := (2 : Int32)) K dL_law_268 (by decide) ?_
  refine go_iadd K dL_law_269 ?_
  refine go_sld (k := i + 2) K hX hbl hbA (law_ix rfl) (by omega) hL dL_law_270 ?_
  refine go_aload_n K dL_law_271 0 rfl rfl ?_
  refine go_iload_n K dL_law_272 3 rfl rfl ?_
  refine go_iconst (v := (3 : Int32)) K dL_law_273 (by decide) ?_
  refine go_iadd K dL_law_274 ?_
  refine go_sld (k := i + 3) K hX hbl hbA (law_ix rfl) (by omega) hL dL_law_275 ?_
  refine go_cVIg K (c_X11_owe l G _ _ _ C O r C' h1) cf_X11_owe cv_X11_owe km_L_23 rv_X11 ⟨by decide, by decide⟩ ⟨by decide, by decide⟩ rfl rfl (Nat.le_of_ble_eq_true rfl) dL_law_276 ?_
  refine go_aload_n K dL_law_279 2 rfl rfl ?_
  refine go_aload_n K dL_law_280 0 rfl rfl ?_
  refine go_iload_n K dL_law_281 3 rfl rfl ?_
  refine go_iconst (v := (1 : Int32)) K dL_law_282 (by decide) ?_
  refine go_iadd K dL_law_283 ?_
  refine go_sld (k := i + 1) K hX hbl hbA (law_ix rfl) (by omega) hL dL_law_284 ?_
  refine go_aload_n K dL_law_285 0 rfl rfl ?_
  refine go_iload_n K dL_law_286 3 rfl rfl ?_
  refine go_iconst (v := (2 : Int32)) K dL_law_287 (by decide) ?_
  refine go_iadd K dL_law_288 ?_
  refine go_sld (k := i + 2) K hX hbl hbA (law_ix rfl) (by omega) hL dL_law_289 ?_
  refine go_aload_n K dL_law_290 0 rfl rfl ?_
  refine go_iload_n K dL_law_291 3 rfl rfl ?_
  refine go_iconst (v := (3 : Int32)) K dL_law_292 (by decide) ?_
  refine go_iadd K dL_law_293 ?_
  refine go_sld (k := i + 3) K hX hbl hbA (law_ix rfl) (by omega) hL dL_law_294 ?_
  refine go_cVIg K (c_X12_owe l G _ _ _ C'  O r O' h2) cf_X12_owe cv_X12_owe km_L_27 rv_X12 ⟨by decide, by decide⟩ ⟨by decide, by decide⟩ rfl rfl (Nat.le_of_ble_eq_true rfl) dL_law_295 ?_
  refine go_icmp_eq (tgt := 1214) K dL_law_298 (by decide) (fun _ => kk) (fun hc => absurd rfl hc)
set_option maxHeartbeats 4000000 in
set_option maxRecDepth 100000 in
theorem law_walk {p : Program} {l : Launch} {e : Env} {s : State} {m : MethodId} {below : List Frame} {meth : Method} {c : Code} {G : GT} {b L : Nat} {xs : Nat → Int32} (K : Kx p s m #[Value.ref b] meth c cL_law 4 RL G) (hX : va_X b L xs s s.heap) (hbl : b < s.heap.size) (hbA : ¬ Fr G b) (hL : L ≤ 3584) {i : Nat} (hi : i + 7 ≤ L) {C C' : CM} {O O' : OM} {r : Int32} (h1 : f_X11_walk (xs (i + 1)) (xs (i + 2)) C = some (r, C')) (h2 : f_X12_walk (xs (i + 1)) (xs (i + 2)) O = some (r, O')) (kk : GOg p l e room_1 600000 7302250 s m #[Value.ref b] below meth c (lw_Z below #[Value.ref b] s) G 4 (Wl G (C', O')) 1214 [(0, .ref b), (1, .ref (gB G + 0)), (2, .ref (gB G + 446)), (3, .int (nI i))] ([])) : GOg p l e room_1 600000 7302250 s m #[Value.ref b] below meth c (lw_Z below #[Value.ref b] s) G 4 (Wl G (C, O)) 303 [(0, .ref b), (1, .ref (gB G + 0)), (2, .ref (gB G + 446)), (3, .int (nI i))] ([]) := by
  refine go_aload_n K dL_law_303 1 rfl rfl ?_
  refine go_aload_n K dL_law_304 0 rfl rfl ?_
  refine go_iload_n K dL_law_305 3 rfl rfl ?_
  refine go_iconst (v := (1 : Int32)) K dL_law_306 (by decide) ?_
  refine go_iadd K dL_law_307 ?_
  refine go_sld (k := i + 1) K hX hbl hbA (law_ix rfl) (by omega) hL dL_law_308 ?_
  refine go_aload_n K dL_law_309 0 rfl rfl ?_
  refine go_iload_n K dL_law_310 3 rfl rfl ?_
  refine go_iconst (v := (2 : Int32)) K dL_law_311 (by decide) ?_
  refine go_iadd K dL_law_312 ?_
  refine go_sld (k := i + 2) K hX hbl hbA (law_ix rfl) (by omega) hL dL_law_313 ?_
  refine go_cVIg K (c_X11_walk l G _ _ C O r C' h1) cf_X11_walk cv_X11_walk km_L_28 rv_X11 ⟨by decide, by decide⟩ ⟨by decide, by decide⟩ rfl rfl (Nat.le_of_ble_eq_true rfl) dL_law_314 ?_
  refine go_aload_n K dL_law_317 2 rfl rfl ?_
  refine go_aload_n K dL_law_318 0 rfl rfl ?_
  refine go_iload_n K dL_law_319 3 rfl rfl ?_
  refine go_iconst (v := (1 : Int32)) K dL_law_320 (by decide) ?_
  refine go_iadd K dL_law_321 ?_
  refine go_sld (k := i + 1) K hX hbl hbA (law_ix rfl) (by omega) hL dL_law_322 ?_
  refine go_aload_n K dL_law_323 0 rfl rfl ?_
  refine go_iload_n K dL_law_324 3 rfl rfl ?_
  refine go_iconst (v := (2 : Int32)) K dL_law_325 (by decide) ?_
  refine go_iadd K dL_law_326 ?_
  refine go_sld (k := i + 2) K hX hbl hbA (law_ix rfl) (by omega) hL dL_law_327 ?_
  refine go_cVIg K (c_X12_walk l G _ _ C'  O r O' h2) cf_X12_walk cv_X12_walk km_L_31 rv_X12 ⟨by decide, by decide⟩ ⟨by decide, by decide⟩ rfl rfl (Nat.le_of_ble_eq_true rfl) dL_law_328 ?_
  refine go_icmp_eq (tgt := 1214) K dL_law_331 (by decide) (fun _ => kk) (fun hc => absurd rfl hc)
set_option maxHeartbeats 4000000 in
set_option maxRecDepth 100000 in
theorem law_feast {p : Program} {l : Launch} {e : Env} {s : State} {m : MethodId} {below : List Frame} {meth : Method} {c : Code} {G : GT} {b L : Nat} {xs : Nat → Int32} (K : Kx p s m #[Value.ref b] meth c cL_law 4 RL G) (hX : va_X b L xs s s.heap) (hbl : b < s.heap.size) (hbA : ¬ Fr G b) (hL : L ≤ 3584) {i : Nat} (hi : i + 7 ≤ L) {C C' : CM} {O O' : OM} {r : Int32} (h1 : f_X11_feast C = some (r, C')) (h2 : f_X12_feast O = some (r, O')) (kk : GOg p l e room_1 600000 7302250 s m #[Value.ref b] below meth c (lw_Z below #[Value.ref b] s) G 4 (Wl G (C', O')) 1214 [(0, .ref b), (1, .ref (gB G + 0)), (2, .ref (gB G + 446)), (3, .int (nI i))] ([])) : GOg p l e room_1 600000 7302250 s m #[Value.ref b] below meth c (lw_Z below #[Value.ref b] s) G 4 (Wl G (C, O)) 336 [(0, .ref b), (1, .ref (gB G + 0)), (2, .ref (gB G + 446)), (3, .int (nI i))] ([]) := by
  refine go_aload_n K dL_law_336 1 rfl rfl ?_
  refine go_cVIg K (c_X11_feast l G C O r C' h1) cf_X11_feast cv_X11_feast km_L_32 rv_X11 ⟨by decide, by decide⟩ ⟨by decide, by decide⟩ rfl rfl (Nat.le_of_ble_eq_true rfl) dL_law_337 ?_
  refine go_aload_n K dL_law_340 2 rfl rfl ?_
  refine go_cVIg K (c_X12_feast l G C'  O r O' h2) cf_X12_feast cv_X12_feast km_L_36 rv_X12 ⟨by decide, by decide⟩ ⟨by decide, by decide⟩ rfl rfl (Nat.le_of_ble_eq_true rfl) dL_law_341 ?_
  refine go_icmp_eq (tgt := 1214) K dL_law_344 (by decide) (fun _ => kk) (fun hc => absurd rfl hc)
set_option maxHeartbeats 4000000 in
set_option maxRecDepth 100000 in
theorem law_clear {p : Program} {l : Launch} {e : Env} {s : State} {m : MethodId} {below : List Frame} {meth : Method} {c : Code} {G : GT} {b L : Nat} {xs : Nat → Int32} (K : Kx p s m #[Value.ref b] meth c cL_law 4 RL G) (hX : va_X b L xs s s.heap) (hbl : b < s.heap.size) (hbA : ¬ Fr G b) (hL : L ≤ 3584) {i : Nat} (hi : i + 7 ≤ L) {C C' : CM} {O O' : OM} {r : Int32} (h1 : f_X11_clear (xs (i + 1)) (xs (i + 2)) (xs (i + 3)) C = some (r, C')) (h2 : f_X12_clear (xs (i + 1)) (xs (i + 2)) (xs (i + 3)) O = some (r, O')) (kk : GOg p l e room_1 600000 7302250 s m #[Value.ref b] below meth c (lw_Z below #[Value.ref b] s) G 4 (Wl G (C', O')) 1214 [(0, .ref b), (1, .ref (gB G + 0)), (2, .ref (gB G + 446)), (3, .int (nI i))] ([])) : GOg p l e room_1 600000 7302250 s m #[Value.ref b] below meth c (lw_Z below #[Value.ref b] s) G 4 (Wl G (C, O)) 349 [(0, .ref b), (1, .ref (gB G + 0)), (2, .ref (gB G + 446)), (3, .int (nI i))] ([]) := by
  refine go_aload_n K dL_law_349 1 rfl rfl ?_
  refine go_aload_n K dL_law_350 0 rfl rfl ?_
  refine go_iload_n K dL_law_351 3 rfl rfl ?_
  refine go_iconst (v := (1 : Int32)) K dL_law_352 (by decide) ?_
  refine go_iadd K dL_law_353 ?_
  refine go_sld (k := i + 1) K hX hbl hbA (law_ix rfl) (by omega) hL dL_law_354 ?_
  refine go_aload_n K dL_law_355 0 rfl rfl ?_
  refine go_iload_n K dL_law_356 3 rfl rfl ?_
  refine go_iconst (v := (2 : Int32)) K dL_law_357 (by decide) ?_
  refine go_iadd K dL_law_358 ?_
  refine go_sld (k := i + 2) K hX hbl hbA (law_ix rfl) (by omega) hL dL_law_359 ?_
  refine go_aload_n K dL_law_360 0 rfl rfl ?_
  refine go_iload_n K dL_law_361 3 rfl rfl ?_
  refine go_iconst (v := (3 : Int32)) K dL_law_362 (by decide) ?_
  refine go_iadd K dL_law_363 ?_
  refine go_sld (k := i + 3) K hX hbl hbA (law_ix rfl) (by omega) hL dL_law_364 ?_
  refine go_cVIg K (c_X11_clear l G _ _ _ C O r C' h1) cf_X11_clear cv_X11_clear km_L_37 rv_X11 ⟨by decide, by decide⟩ ⟨by decide, by decide⟩ rfl rfl (Nat.le_of_ble_eq_true rfl) dL_law_365 ?_
  refine go_aload_n K dL_law_368 2 rfl rfl ?_
  refine go_aload_n K dL_law_369 0 rfl rfl ?_
  refine go_iload_n K dL_law_370 3 rfl rfl ?_
  refine go_iconst (v := (1 : Int32)) K dL_law_371 (by decide) ?_
  refine go_iadd K dL_law_372 ?_
  refine go_sld (k := i + 1) K hX hbl hbA (law_ix rfl) (by omega) hL dL_law_373 ?_
  refine go_aload_n K dL_law_374 0 rfl rfl ?_
  refine go_iload_n K dL_law_375 3 rfl rfl ?_
  refine go_iconst (v := (2 : Int32)) K dL_law_376 (by decide) ?_
  refine go_iadd K dL_law_377 ?_
  refine go_sld (k := i + 2) K hX hbl hbA (law_ix rfl) (by omega) hL dL_law_378 ?_
  refine go_aload_n K dL_law_379 0 rfl rfl ?_
  refine go_iload_n K dL_law_380 3 rfl rfl ?_
  refine go_iconst (v := (3 : Int32)) K dL_law_381 (by decide) ?_
  refine go_iadd K dL_law_382 ?_
  refine go_sld (k := i + 3) K hX hbl hbA (law_ix rfl) (by omega) hL dL_law_383 ?_
  refine go_cVIg K (c_X12_clear l G _ _ _ C'  O r O' h2) cf_X12_clear cv_X12_clear km_L_40 rv_X12 ⟨by decide, by decide⟩ ⟨by decide, by decide⟩ rfl rfl (Nat.le_of_ble_eq_true rfl) dL_law_384 ?_
  refine go_icmp_eq (tgt := 1214) K dL_law_387 (by decide) (fun _ => kk) (fun hc => absurd rfl hc)
set_option maxHeartbeats 4000000 in
set_option maxRecDepth 100000 in
theorem law_hour {p : Program} {l : Launch} {e : Env} {s : State} {m : MethodId} {below : List Frame} {meth : Method} {c : Code} {G : GT} {b L : Nat} {xs : Nat → Int32} (K : Kx p s m #[Value.ref b] meth c cL_law 4 RL G) (hX : va_X b L xs s s.heap) (hbl : b < s.heap.size) (hbA : ¬ Fr G b) (hL : L ≤ 3584) {i : Nat} (hi : i + 7 ≤ L) {C C' : CM} {O O' : OM} {r : Int32} (h1 : f_X11_hour (xs (i + 1)) C = some (r, C')) (h2 : f_X12_hour (xs (i + 1)) O = some (r, O')) (kk : GOg p l e room_1 600000 7302250 s m #[Value.ref b] below meth c (lw_Z below #[Value.ref b] s) G 4 (Wl G (C', O')) 1214 [(0, .ref b), (1, .ref (gB G + 0)), (2, .ref (gB G + 446)), (3, .int (nI i))] ([])) : GOg p l e room_1 600000 7302250 s m #[Value.ref b] below meth c (lw_Z below #[Value.ref b] s) G 4 (Wl G (C, O)) 392 [(0, .ref b), (1, .ref (gB G + 0)), (2, .ref (gB G + 446)), (3, .int (nI i))] ([]) := by
  refine go_aload_n K dL_law_392 1 rfl rfl ?_
  refine go_aload_n K dL_law_393 0 rfl rfl ?_
  refine go_iload_n K dL_law_394 3 rfl rfl ?_
  refine go_iconst (v := (1 : Int32)) K dL_law_395 (by decide) ?_
  refine go_iadd K dL_law_396 ?_
  refine go_sld (k := i + 1) K hX hbl hbA (law_ix rfl) (by omega) hL dL_law_397 ?_
  refine go_cVIg K (c_X11_hour l G _ C O r C' h1) cf_X11_hour cv_X11_hour km_L_41 rv_X11 ⟨by decide, by decide⟩ ⟨by decide, by decide⟩ rfl rfl (Nat.le_of_ble_eq_true rfl) dL_law_398 ?_
  refine go_aload_n K dL_law_401 2 rfl rfl ?_
  refine go_aload_n K dL_law_402 0 rfl rfl ?_
  refine go_iload_n K dL_law_403 3 rfl rfl ?_
  refine go_iconst (v := (1 : Int32)) K dL_law_404 (by decide) ?_
  refine go_iadd K dL_law_405 ?_
  refine go_sld (k := i + 1) K hX hbl hbA (law_ix rfl) (by omega) hL dL_law_406 ?_
  refine go_cVIg K (c_X12_hour l G _ C'  O r O' h2) cf_X12_hour cv_X12_hour km_L_45 rv_X12 ⟨by decide, by decide⟩ ⟨by decide, by decide⟩ rfl rfl (Nat.le_of_ble_eq_true rfl) dL_law_407 ?_
  refine go_icmp_eq (tgt := 1214) K dL_law_410 (by decide) (fun _ => kk) (fun hc => absurd rfl hc)
set_option maxHeartbeats 4000000 in
set_option maxRecDepth 100000 in
theorem law_weeks {p : Program} {l : Launch} {e : Env} {s : State} {m : MethodId} {below : List Frame} {meth : Method} {c : Code} {G : GT} {b L : Nat} {xs : Nat → Int32} (K : Kx p s m #[Value.ref b] meth c cL_law 4 RL G) (hX : va_X b L xs s s.heap) (hbl : b < s.heap.size) (hbA : ¬ Fr G b) (hL : L ≤ 3584) {i : Nat} (hi : i + 7 ≤ L) {C C' : CM} {O O' : OM} {r : Int32} (h1 : f_X11_weeks (xs (i + 1)) (xs (i + 2)) C = some (r, C')) (h2 : f_X12_weeks (xs (i + 1)) (xs (i + 2)) O = some (r, O')) (kk : GOg p l e room_1 600000 7302250 s m #[Value.ref b] below meth c (lw_Z below #[Value.ref b] s) G 4 (Wl G (C', O')) 1214 [(0, .ref b), (1, .ref (gB G + 0)), (2, .ref (gB G + 446)), (3, .int (nI i))] ([])) : GOg p l e room_1 600000 7302250 s m #[Value.ref b] below meth c (lw_Z below #[Value.ref b] s) G 4 (Wl G (C, O)) 415 [(0, .ref b), (1, .ref (gB G + 0)), (2, .ref (gB G + 446)), (3, .int (nI i))] ([]) := by
  refine go_aload_n K dL_law_415 1 rfl rfl ?_
  refine go_aload_n K dL_law_416 0 rfl rfl ?_
  refine go_iload_n K dL_law_417 3 rfl rfl ?_
  refine go_iconst (v := (1 : Int32)) K dL_law_418 (by decide) ?_
  refine go_iadd K dL_law_419 ?_
  refine go_sld (k := i + 1) K hX hbl hbA (law_ix rfl) (by omega) hL dL_law_420 ?_
  refine go_aload_n K dL_law_421 0 rfl rfl ?_
  refine go_iload_n K dL_law_422 3 rfl rfl ?_
  refine go_iconst (v := (2 : Int32)) K dL_law_423 (by decide) ?_
  refine go_iadd K dL_law_424 ?_
  refine go_sld (k := i + 2) K hX hbl hbA (law_ix rfl) (by omega) hL dL_law_425 ?_
  refine go_cVIg K (c_X11_weeks l G _ _ C O r C' h1) cf_X11_weeks cv_X11_weeks km_L_46 rv_X11 ⟨by decide, by decide⟩ ⟨by decide, by decide⟩ rfl rfl (Nat.le_of_ble_eq_true rfl) dL_law_426 ?_
  refine go_aload_n K dL_law_429 2 rfl rfl ?_
  refine go_aload_n K dL_law_430 0 rfl rfl ?_
  refine go_iload_n K dL_law_431 3 rfl rfl ?_
  refine go_iconst (v := (1 : Int32)) K dL_law_432 (by decide) ?_
  refine go_iadd K dL_law_433 ?_
  refine go_sld (k := i + 1) K hX hbl hbA (law_ix rfl) (by omega) hL dL_law_434 ?_
  refine go_aload_n K dL_law_435 0 rfl rfl ?_
  refine go_iload_n K dL_law_436 3 rfl rfl ?_
  refine go_iconst (v := (2 : Int32)) K dL_law_437 (by decide) ?_
  refine go_iadd K dL_law_438 ?_
  refine go_sld (k := i + 2) K hX hbl hbA (law_ix rfl) (by omega) hL dL_law_439 ?_
  refine go_cVIg K (c_X12_weeks l G _ _ C'  O r O' h2) cf_X12_weeks cv_X12_weeks km_L_49 rv_X12 ⟨by decide, by decide⟩ ⟨by decide, by decide⟩ rfl rfl (Nat.le_of_ble_eq_true rfl) dL_law_440 ?_
  refine go_icmp_eq (tgt := 1214) K dL_law_443 (by decide) (fun _ => kk) (fun hc => absurd rfl hc)
set_option maxHeartbeats 4000000 in
set_option maxRecDepth 100000 in
theorem law_feed {p : Program} {l : Launch} {e : Env} {s : State} {m : MethodId} {below : List Frame} {meth : Method} {c : Code} {G : GT} {b L : Nat} {xs : Nat → Int32} (K : Kx p s m #[Value.ref b] meth c cL_law 4 RL G) (hX : va_X b L xs s s.heap) (hbl : b < s.heap.size) (hbA : ¬ Fr G b) (hL : L ≤ 3584) {i : Nat} (hi : i + 7 ≤ L) {C C' : CM} {O O' : OM} {r : Int32} (h1 : f_X11_feed (xs (i + 1)) (xs (i + 2)) (xs (i + 3)) (xs (i + 4)) (xs (i + 5)) C = some (r, C')) (h2 : f_X12_feed (xs (i + 1)) (xs (i + 2)) (xs (i + 3)) (xs (i + 4)) (xs (i + 5)) O = some (r, O')) (kk : GOg p l e room_1 600000 7302250 s m #[Value.ref b] below meth c (lw_Z below #[Value.ref b] s) G 4 (Wl G (C', O')) 1214 [(0, .ref b), (1, .ref (gB G + 0)), (2, .ref (gB G + 446)), (3, .int (nI i))] ([])) : GOg p l e room_1 600000 7302250 s m #[Value.ref b] below meth c (lw_Z below #[Value.ref b] s) G 4 (Wl G (C, O)) 448 [(0, .ref b), (1, .ref (gB G + 0)), (2, .ref (gB G + 446)), (3, .int (nI i))] ([]) := by
  refine go_aload_n K dL_law_448 1 rfl rfl ?_
  refine go_aload_n K dL_law_449 0 rfl rfl ?_
  refine go_iload_n K dL_law_450 3 rfl rfl ?_
  refine go_iconst (v := (1 : Int32)) K dL_law_451 (by decide) ?_
  refine go_iadd K dL_law_452 ?_
  refine go_sld (k := i + 1) K hX hbl hbA (law_ix rfl) (by omega) hL dL_law_453 ?_
  refine go_aload_n K dL_law_454 0 rfl rfl ?_
  refine go_iload_n K dL_law_455 3 rfl rfl ?_
  refine go_iconst (v := (2 : Int32)) K dL_law_456 (by decide) ?_
  refine go_iadd K dL_law_457 ?_
  refine go_sld (k := i + 2) K hX hbl hbA (law_ix rfl) (by omega) hL dL_law_458 ?_
  refine go_aload_n K dL_law_459 0 rfl rfl ?_
  refine go_iload_n K dL_law_460 3 rfl rfl ?_
  refine go_iconst (v := (3 : Int32)) K dL_law_461 (by decide) ?_
  refine go_iadd K dL_law_462 ?_
  refine go_sld (k := i + 3) K hX hbl hbA (law_ix rfl) (by omega) hL dL_law_463 ?_
  refine go_aload_n K dL_law_464 0 rfl rfl ?_
  refine go_iload_n K dL_law_465 3 rfl rfl ?_
  refine go_iconst (v := (4 : Int32)) K dL_law_466 (by decide) ?_
  refine go_iadd K dL_law_467 ?_
  refine go_sld (k := i + 4) K hX hbl hbA (law_ix rfl) (by omega) hL dL_law_468 ?_
  refine go_aload_n K dL_law_469 0 rfl rfl ?_
  refine go_iload_n K dL_law_470 3 rfl rfl ?_
  refine go_iconst (v := (5 : Int32)) K dL_law_471 (by decide) ?_
  refine go_iadd K dL_law_472 ?_
  refine go_sld (k := i + 5) K hX hbl hbA (law_ix rfl) (by omega) hL dL_law_473 ?_
  refine go_cVIg K (c_X11_feed l G _ _ _ _ _ C O r C' h1) cf_X11_feed cv_X11_feed km_L_50 rv_X11 ⟨by decide, by decide⟩ ⟨by decide, by decide⟩ rfl rfl (Nat.le_of_ble_eq_true rfl) dL_law_474 ?_
  refine go_aload_n K dL_law_477 2 rfl rfl ?_
  refine go_aload_n K dL_law_478 0 rfl rfl ?_
  refine go_iload_n K dL_law_479 3 rfl rfl ?_
  refine go_iconst (v := (1 : Int32)) K dL_law_480 (by decide) ?_
  refine go_iadd K dL_law_481 ?_
  refine go_sld (k := i + 1) K hX hbl hbA (law_ix rfl) (by omega) hL dL_law_482 ?_
  refine go_aload_n K dL_law_483 0 rfl rfl ?_
  refine go_iload_n K dL_law_484 3 rfl rfl ?_
  refine go_iconst (v := (2 : Int32)) K dL_law_485 (by decide) ?_
  refine go_iadd K dL_law_486 ?_
  refine go_sld (k := i + 2) K hX hbl hbA (law_ix rfl) (by omega) hL dL_law_487 ?_
  refine go_aload_n K dL_law_488 0 rfl rfl ?_
  refine go_iload_n K dL_law_489 3 rfl rfl ?_
  refine go_iconst (v := (3 : Int32)) K dL_law_490 (by decide) ?_
  refine go_iadd K dL_law_491 ?_
  refine go_sld (k := i + 3) K hX hbl hbA (law_ix rfl) (by omega) hL dL_law_492 ?_
  refine go_aload_n K dL_law_493 0 rfl rfl ?_
  refine go_iload_n K dL_law_494 3 rfl rfl ?_
  refine go_iconst (v := (4 : Int32)) K dL_law_495 (by decide) ?_
  refine go_iadd K dL_law_496 ?_
  refine go_sld (k := i + 4) K hX hbl hbA (law_ix rfl) (by omega) hL dL_law_497 ?_
  refine go_aload_n K dL_law_498 0 rfl rfl ?_
  refine go_iload_n K dL_law_499 3 rfl rfl ?_
  refine go_iconst (v := (5 : Int32)) K dL_law_500 (by decide) ?_
  refine go_iadd K dL_law_501 ?_
  refine go_sld (k := i + 5) K hX hbl hbA (law_ix rfl) (by omega) hL dL_law_502 ?_
  refine go_cVIg K (c_X12_feed l G _ _ _ _ _ C'  O r O' h2) cf_X12_feed cv_X12_feed km_L_54 rv_X12 ⟨by decide, by decide⟩ ⟨by decide, by decide⟩ rfl rfl (Nat.le_of_ble_eq_true rfl) dL_law_503 ?_
  refine go_icmp_eq (tgt := 1214) K dL_law_506 (by decide) (fun _ => kk) (fun hc => absurd rfl hc)
set_option maxHeartbeats 4000000 in
set_option maxRecDepth 100000 in
theorem law_end {p : Program} {l : Launch} {e : Env} {s : State} {m : MethodId} {below : List Frame} {meth : Method} {c : Code} {G : GT} {b L : Nat} {xs : Nat → Int32} (K : Kx p s m #[Value.ref b] meth c cL_law 4 RL G) (hX : va_X b L xs s s.heap) (hbl : b < s.heap.size) (hbA : ¬ Fr G b) (hL : L ≤ 3584) {i : Nat} (hi : i + 7 ≤ L) {C C' : CM} {O O' : OM} {r : Int32} (h1 : f_X11_end (xs (i + 1)) C = some (r, C')) (h2 : f_X12_end (xs (i + 1)) O = some (r, O')) (kk : GOg p l e room_1 600000 7302250 s m #[Value.ref b] below meth c (lw_Z below #[Value.ref b] s) G 4 (Wl G (C', O')) 1214 [(0, .ref b), (1, .ref (gB G + 0)), (2, .ref (gB G + 446)), (3, .int (nI i))] ([])) : GOg p l e room_1 600000 7302250 s m #[Value.ref b] below meth c (lw_Z below #[Value.ref b] s) G 4 (Wl G (C, O)) 511 [(0, .ref b), (1, .ref (gB G + 0)), (2, .ref (gB G + 446)), (3, .int (nI i))] ([]) := by
  refine go_aload_n K dL_law_511 1 rfl rfl ?_
  refine go_aload_n K dL_law_512 0 rfl rfl ?_
  refine go_iload_n K dL_law_513 3 rfl rfl ?_
  refine go_iconst (v := (1 : Int32)) K dL_law_514 (by decide) ?_
  refine go_iadd K dL_law_515 ?_
  refine go_sld (k := i + 1) K hX hbl hbA (law_ix rfl) (by omega) hL dL_law_516 ?_
  refine go_cVIg K (c_X11_end l G _ C O r C' h1) cf_X11_end cv_X11_end km_L_55 rv_X11 ⟨by decide, by decide⟩ ⟨by decide, by decide⟩ rfl rfl (Nat.le_of_ble_eq_true rfl) dL_law_517 ?_
  refine go_aload_n K dL_law_520 2 rfl rfl ?_
  refine go_aload_n K dL_law_521 0 rfl rfl ?_
  refine go_iload_n K dL_law_522 3 rfl rfl ?_
  refine go_iconst (v := (1 : Int32)) K dL_law_523 (by decide) ?_
  refine go_iadd K dL_law_524 ?_
  refine go_sld (k := i + 1) K hX hbl hbA (law_ix rfl) (by omega) hL dL_law_525 ?_
  refine go_cVIg K (c_X12_end l G _ C'  O r O' h2) cf_X12_end cv_X12_end km_L_58 rv_X12 ⟨by decide, by decide⟩ ⟨by decide, by decide⟩ rfl rfl (Nat.le_of_ble_eq_true rfl) dL_law_526 ?_
  refine go_icmp_eq (tgt := 1214) K dL_law_529 (by decide) (fun _ => kk) (fun hc => absurd rfl hc)
set_option maxHeartbeats 4000000 in
set_option maxRecDepth 100000 in
theorem law_text {p : Program} {l : Launch} {e : Env} {s : State} {m : MethodId} {below : List Frame} {meth : Method} {c : Code} {G : GT} {b L : Nat} {xs : Nat → Int32} (K : Kx p s m #[Value.ref b] meth c cL_law 4 RL G) (hX : va_X b L xs s s.heap) (hbl : b < s.heap.size) (hbA : ¬ Fr G b) (hL : L ≤ 3584) {i : Nat} (hi : i + 7 ≤ L) {C C' : CM} {O O' : OM} {r : Int32} (h1 : f_X11_text C = some (r, C')) (h2 : f_X12_text O = some (r, O')) (kk : GOg p l e room_1 600000 7302250 s m #[Value.ref b] below meth c (lw_Z below #[Value.ref b] s) G 4 (Wl G (C', O')) 1214 [(0, .ref b), (1, .ref (gB G + 0)), (2, .ref (gB G + 446)), (3, .int (nI i))] ([])) : GOg p l e room_1 600000 7302250 s m #[Value.ref b] below meth c (lw_Z below #[Value.ref b] s) G 4 (Wl G (C, O)) 534 [(0, .ref b), (1, .ref (gB G + 0)), (2, .ref (gB G + 446)), (3, .int (nI i))] ([]) := by
  refine go_aload_n K dL_law_534 1 rfl rfl ?_
  refine go_cVIg K (c_X11_text l G C O r C' h1) cf_X11_text cv_X11_text km_L_59 rv_X11 ⟨by decide, by decide⟩ ⟨by decide, by decide⟩ rfl rfl (Nat.le_of_ble_eq_true rfl) dL_law_535 ?_
  refine go_aload_n K dL_law_538 2 rfl rfl ?_
  refine go_cVIg K (c_X12_text l G C'  O r O' h2) cf_X12_text cv_X12_text km_L_62 rv_X12 ⟨by decide, by decide⟩ ⟨by decide, by decide⟩ rfl rfl (Nat.le_of_ble_eq_true rfl) dL_law_539 ?_
  refine go_icmp_eq (tgt := 1214) K dL_law_542 (by decide) (fun _ => kk) (fun hc => absurd rfl hc)
set_option maxHeartbeats 4000000 in
set_option maxRecDepth 100000 in
theorem law_fault {p : Program} {l : Launch} {e : Env} {s : State} {m : MethodId} {below : List Frame} {meth : Method} {c : Code} {G : GT} {b L : Nat} {xs : Nat → Int32} (K : Kx p s m #[Value.ref b] meth c cL_law 4 RL G) (hX : va_X b L xs s s.heap) (hbl : b < s.heap.size) (hbA : ¬ Fr G b) (hL : L ≤ 3584) {i : Nat} (hi : i + 7 ≤ L) {C C' : CM} {O O' : OM} {r : Int32} (h1 : f_X11_fault (xs (i + 1)) C = r) (h2 : f_X12_fault (xs (i + 1)) O = r) (kk : GOg p l e room_1 600000 7302250 s m #[Value.ref b] below meth c (lw_Z below #[Value.ref b] s) G 4 (Wl G (C, O)) 1214 [(0, .ref b), (1, .ref (gB G + 0)), (2, .ref (gB G + 446)), (3, .int (nI i))] ([])) : GOg p l e room_1 600000 7302250 s m #[Value.ref b] below meth c (lw_Z below #[Value.ref b] s) G 4 (Wl G (C, O)) 547 [(0, .ref b), (1, .ref (gB G + 0)), (2, .ref (gB G + 446)), (3, .int (nI i))] ([]) := by
  refine go_aload_n K dL_law_547 1 rfl rfl ?_
  refine go_aload_n K dL_law_548 0 rfl rfl ?_
  refine go_iload_n K dL_law_549 3 rfl rfl ?_
  refine go_iconst (v := (1 : Int32)) K dL_law_550 (by decide) ?_
  refine go_iadd K dL_law_551 ?_
  refine go_sld (k := i + 1) K hX hbl hbA (law_ix rfl) (by omega) hL dL_law_552 ?_
  refine go_cVIg K (c_X11_fault l G _ C O r h1) cf_X11_fault cv_X11_fault km_L_63 rv_X11 ⟨by decide, by decide⟩ ⟨by decide, by decide⟩ rfl rfl (Nat.le_of_ble_eq_true rfl) dL_law_553 ?_
  refine go_aload_n K dL_law_556 2 rfl rfl ?_
  refine go_aload_n K dL_law_557 0 rfl rfl ?_
  refine go_iload_n K dL_law_558 3 rfl rfl ?_
  refine go_iconst (v := (1 : Int32)) K dL_law_559 (by decide) ?_
  refine go_iadd K dL_law_560 ?_
  refine go_sld (k := i + 1) K hX hbl hbA (law_ix rfl) (by omega) hL dL_law_561 ?_
  refine go_cVIg K (c_X12_fault l G _ C  O r h2) cf_X12_fault cv_X12_fault km_L_66 rv_X12 ⟨by decide, by decide⟩ ⟨by decide, by decide⟩ rfl rfl (Nat.le_of_ble_eq_true rfl) dL_law_562 ?_
  refine go_icmp_eq (tgt := 1214) K dL_law_565 (by decide) (fun _ => kk) (fun hc => absurd rfl hc)
set_option maxHeartbeats 4000000 in
set_option maxRecDepth 100000 in
theorem law_by {p : Program} {l : Launch} {e : Env} {s : State} {m : MethodId} {below : List Frame} {meth : Method} {c : Code} {G : GT} {b L : Nat} {xs : Nat → Int32} (K : Kx p s m #[Value.ref b] meth c cL_law 4 RL G) (hX : va_X b L xs s s.heap) (hbl : b < s.heap.size) (hbA : ¬ Fr G b) (hL : L ≤ 3584) {i : Nat} (hi : i + 7 ≤ L) {C C' : CM} {O O' : OM} {r : Int32} (h1 : f_X11_by (xs (i + 1)) C = some (r, C')) (h2 : f_X12_by (xs (i + 1)) O = some (r, O')) (kk : GOg p l e room_1 600000 7302250 s m #[Value.ref b] below meth c (lw_Z below #[Value.ref b] s) G 4 (Wl G (C', O')) 1214 [(0, .ref b), (1, .ref (gB G + 0)), (2, .ref (gB G + 446)), (3, .int (nI i))] ([])) : GOg p l e room_1 600000 7302250 s m #[Value.ref b] below meth c (lw_Z below #[Value.ref b] s) G 4 (Wl G (C, O)) 570 [(0, .ref b), (1, .ref (gB G + 0)), (2, .ref (gB G + 446)), (3, .int (nI i))] ([]) := by
  refine go_aload_n K dL_law_570 1 rfl rfl ?_
  refine go_aload_n K dL_law_571 0 rfl rfl ?_
  refine go_iload_n K dL_law_572 3 rfl rfl ?_
  refine go_iconst (v := (1 : Int32)) K dL_law_573 (by decide) ?_
  refine go_iadd K dL_law_574 ?_
  refine go_sld (k := i + 1) K hX hbl hbA (law_ix rfl) (by omega) hL dL_law_575 ?_
  refine go_cVIg K (c_X11_by l G _ C O r C' h1) cf_X11_by cv_X11_by km_L_67 rv_X11 ⟨by decide, by decide⟩ ⟨by decide, by decide⟩ rfl rfl (Nat.le_of_ble_eq_true rfl) dL_law_576 ?_
  refine go_aload_n K dL_law_579 2 rfl rfl ?_
  refine go_aload_n K dL_law_580 0 rfl rfl ?_
  refine go_iload_n K dL_law_581 3 rfl rfl ?_
  refine go_iconst (v := (1 : Int32)) K dL_law_582 (by decide) ?_
  refine go_iadd K dL_law_583 ?_
  refine go_sld (k := i + 1) K hX hbl hbA (law_ix rfl) (by omega) hL dL_law_584 ?_
  refine go_cVIg K (c_X12_by l G _ C'  O r O' h2) cf_X12_by cv_X12_by km_L_71 rv_X12 ⟨by decide, by decide⟩ ⟨by decide, by decide⟩ rfl rfl (Nat.le_of_ble_eq_true rfl) dL_law_585 ?_
  refine go_icmp_eq (tgt := 1214) K dL_law_588 (by decide) (fun _ => kk) (fun hc => absurd rfl hc)
set_option maxHeartbeats 4000000 in
set_option maxRecDepth 100000 in
theorem law_played {p : Program} {l : Launch} {e : Env} {s : State} {m : MethodId} {below : List Frame} {meth : Method} {c : Code} {G : GT} {b L : Nat} {xs : Nat → Int32} (K : Kx p s m #[Value.ref b] meth c cL_law 4 RL G) (hX : va_X b L xs s s.heap) (hbl : b < s.heap.size) (hbA : ¬ Fr G b) (hL : L ≤ 3584) {i : Nat} (hi : i + 7 ≤ L) {C C' : CM} {O O' : OM} {r : Int32} (h1 : f_X11_played (xs (i + 1)) C = some (r, C')) (h2 : f_X12_played (xs (i + 1)) O = some (r, O')) (kk : GOg p l e room_1 600000 7302250 s m #[Value.ref b] below meth c (lw_Z below #[Value.ref b] s) G 4 (Wl G (C', O')) 1214 [(0, .ref b), (1, .ref (gB G + 0)), (2, .ref (gB G + 446)), (3, .int (nI i))] ([])) : GOg p l e room_1 600000 7302250 s m #[Value.ref b] below meth c (lw_Z below #[Value.ref b] s) G 4 (Wl G (C, O)) 593 [(0, .ref b), (1, .ref (gB G + 0)), (2, .ref (gB G + 446)), (3, .int (nI i))] ([]) := by
  refine go_aload_n K dL_law_593 1 rfl rfl ?_
  refine go_aload_n K dL_law_594 0 rfl rfl ?_
  refine go_iload_n K dL_law_595 3 rfl rfl ?_
  refine go_iconst (v := (1 : Int32)) K dL_law_596 (by decide) ?_
  refine go_iadd K dL_law_597 ?_
  refine go_sld (k := i + 1) K hX hbl hbA (law_ix rfl) (by omega) hL dL_law_598 ?_
  refine go_cVIg K (c_X11_played l G _ C O r C' h1) cf_X11_played cv_X11_played km_L_72 rv_X11 ⟨by decide, by decide⟩ ⟨by decide, by decide⟩ rfl rfl (Nat.le_of_ble_eq_true rfl) dL_law_599 ?_
  refine go_aload_n K dL_law_602 2 rfl rfl ?_
  refine go_aload_n K dL_law_603 0 rfl rfl ?_
  refine go_iload_n K dL_law_604 3 rfl rfl ?_
  refine go_iconst (v := (1 : Int32)) K dL_law_605 (by decide) ?_
  refine go_iadd K dL_law_606 ?_
  refine go_sld (k := i + 1) K hX hbl hbA (law_ix rfl) (by omega) hL dL_law_607 ?_
  refine go_cVIg K (c_X12_played l G _ C'  O r O' h2) cf_X12_played cv_X12_played km_L_75 rv_X12 ⟨by decide, by decide⟩ ⟨by decide, by decide⟩ rfl rfl (Nat.le_of_ble_eq_true rfl) dL_law_608 ?_
  refine go_icmp_eq (tgt := 1214) K dL_law_611 (by decide) (fun _ => kk) (fun hc => absurd rfl hc)
set_option maxHeartbeats 4000000 in
set_option maxRecDepth 100000 in
theorem law_undo {p : Program} {l : Launch} {e : Env} {s : State} {m : MethodId} {below : List Frame} {meth : Method} {c : Code} {G : GT} {b L : Nat} {xs : Nat → Int32} (K : Kx p s m #[Value.ref b] meth c cL_law 4 RL G) (hX : va_X b L xs s s.heap) (hbl : b < s.heap.size) (hbA : ¬ Fr G b) (hL : L ≤ 3584) {i : Nat} (hi : i + 7 ≤ L) {C C' : CM} {O O' : OM} {r : Int32} (h1 : f_X11_undo C = some (r, C')) (h2 : f_X12_undo O = some (r, O')) (kk : GOg p l e room_1 600000 7302250 s m #[Value.ref b] below meth c (lw_Z below #[Value.ref b] s) G 4 (Wl G (C', O')) 1214 [(0, .ref b), (1, .ref (gB G + 0)), (2, .ref (gB G + 446)), (3, .int (nI i))] ([])) : GOg p l e room_1 600000 7302250 s m #[Value.ref b] below meth c (lw_Z below #[Value.ref b] s) G 4 (Wl G (C, O)) 616 [(0, .ref b), (1, .ref (gB G + 0)), (2, .ref (gB G + 446)), (3, .int (nI i))] ([]) := by
  refine go_aload_n K dL_law_616 1 rfl rfl ?_
  refine go_cVIg K (c_X11_undo l G C O r C' h1) cf_X11_undo cv_X11_undo km_L_76 rv_X11 ⟨by decide, by decide⟩ ⟨by decide, by decide⟩ rfl rfl (Nat.le_of_ble_eq_true rfl) dL_law_617 ?_
  refine go_aload_n K dL_law_620 2 rfl rfl ?_
  refine go_cVIg K (c_X12_undo l G C'  O r O' h2) cf_X12_undo cv_X12_undo km_L_79 rv_X12 ⟨by decide, by decide⟩ ⟨by decide, by decide⟩ rfl rfl (Nat.le_of_ble_eq_true rfl) dL_law_621 ?_
  refine go_icmp_eq (tgt := 1214) K dL_law_624 (by decide) (fun _ => kk) (fun hc => absurd rfl hc)
set_option maxHeartbeats 4000000 in
set_option maxRecDepth 100000 in
theorem law_of {p : Program} {l : Launch} {e : Env} {s : State} {m : MethodId} {below : List Frame} {meth : Method} {c : Code} {G : GT} {b L : Nat} {xs : Nat → Int32} (K : Kx p s m #[Value.ref b] meth c cL_law 4 RL G) (hX : va_X b L xs s s.heap) (hbl : b < s.heap.size) (hbA : ¬ Fr G b) (hL : L ≤ 3584) {i : Nat} (hi : i + 7 ≤ L) {C C' : CM} {O O' : OM} {r : Int32} (h1 : f_X11_of (xs (i + 1)) (xs (i + 2)) C = some (r, C')) (h2 : f_X12_of (xs (i + 1)) (xs (i + 2)) O = some (r, O')) (kk : GOg p l e room_1 600000 7302250 s m #[Value.ref b] below meth c (lw_Z below #[Value.ref b] s) G 4 (Wl G (C', O')) 1214 [(0, .ref b), (1, .ref (gB G + 0)), (2, .ref (gB G + 446)), (3, .int (nI i))] ([])) : GOg p l e room_1 600000 7302250 s m #[Value.ref b] below meth c (lw_Z below #[Value.ref b] s) G 4 (Wl G (C, O)) 629 [(0, .ref b), (1, .ref (gB G + 0)), (2, .ref (gB G + 446)), (3, .int (nI i))] ([]) := by
  refine go_aload_n K dL_law_629 1 rfl rfl ?_
  refine go_aload_n K dL_law_630 0 rfl rfl ?_
  refine go_iload_n K dL_law_631 3 rfl rfl ?_
  refine go_iconst (v := (1 : Int32)) K dL_law_632 (by decide) ?_
  refine go_iadd K dL_law_633 ?_
  refine go_sld (k := i + 1) K hX hbl hbA (law_ix rfl) (by omega) hL dL_law_634 ?_
  refine go_aload_n K dL_law_635 0 rfl rfl ?_
  refine go_iload_n K dL_law_636 3 rfl rfl ?_
  refine go_iconst (v := (2 : Int32)) K dL_law_637 (by decide) ?_
  refine go_iadd K dL_law_638 ?_
  refine go_sld (k := i + 2) K hX hbl hbA (law_ix rfl) (by omega) hL dL_law_639 ?_
  refine go_cVIg K (c_X11_of l G _ _ C O r C' h1) cf_X11_of cv_X11_of km_L_80 rv_X11 ⟨by decide, by decide⟩ ⟨by decide, by decide⟩ rfl rfl (Nat.le_of_ble_eq_true rfl) dL_law_640 ?_
  refine go_aload_n K dL_law_643 2 rfl rfl ?_
  refine go_aload_n K dL_law_644 0 rfl rfl ?_
  refine go_iload_n K dL_law_645 3 rfl rfl ?_
  refine go_iconst (v := (1 : Int32)) K dL_law_646 (by decide) ?_
  refine go_iadd K dL_law_647 ?_
  refine go_sld (k := i + 1) K hX hbl hbA (law_ix rfl) (by omega) hL dL_law_648 ?_
  refine go_aload_n K dL_law_649 0 rfl rfl ?_
  refine go_iload_n K dL_law_650 3 rfl rfl ?_
  refine go_iconst (v := (2 : Int32)) K dL_law_651 (by decide) ?_
  refine go_iadd K dL_law_652 ?_
  refine go_sld (k := i + 2) K hX hbl hbA (law_ix rfl) (by omega) hL dL_law_653 ?_
  refine go_cVIg K (c_X12_of l G _ _ C'  O r O' h2) cf_X12_of cv_X12_of km_L_83 rv_X12 ⟨by decide, by decide⟩ ⟨by decide, by decide⟩ rfl rfl (Nat.le_of_ble_eq_true rfl) dL_law_654 ?_
  refine go_icmp_eq (tgt := 1214) K dL_law_657 (by decide) (fun _ => kk) (fun hc => absurd rfl hc)
set_option maxHeartbeats 4000000 in
set_option maxRecDepth 100000 in
theorem law_two {p : Program} {l : Launch} {e : Env} {s : State} {m : MethodId} {below : List Frame} {meth : Method} {c : Code} {G : GT} {b L : Nat} {xs : Nat → Int32} (K : Kx p s m #[Value.ref b] meth c cL_law 4 RL G) (hX : va_X b L xs s s.heap) (hbl : b < s.heap.size) (hbA : ¬ Fr G b) (hL : L ≤ 3584) {i : Nat} (hi : i + 7 ≤ L) {C C' : CM} {O O' : OM} {r : Int32} (h1 : f_X11_two (xs (i + 1)) (xs (i + 2)) (xs (i + 3)) C = some (r, C')) (h2 : f_X12_two (xs (i + 1)) (xs (i + 2)) (xs (i + 3)) O = some (r, O')) (kk : GOg p l e room_1 600000 7302250 s m #[Value.ref b] below meth c (lw_Z below #[Value.ref b] s) G 4 (Wl G (C', O')) 1214 [(0, .ref b), (1, .ref (gB G + 0)), (2, .ref (gB G + 446)), (3, .int (nI i))] ([])) : GOg p l e room_1 600000 7302250 s m #[Value.ref b] below meth c (lw_Z below #[Value.ref b] s) G 4 (Wl G (C, O)) 662 [(0, .ref b), (1, .ref (gB G + 0)), (2, .ref (gB G + 446)), (3, .int (nI i))] ([]) := by
  refine go_aload_n K dL_law_662 1 rfl rfl ?_
  refine go_aload_n K dL_law_663 0 rfl rfl ?_
  refine go_iload_n K dL_law_664 3 rfl rfl ?_
  refine go_iconst (v := (1 : Int32)) K dL_law_665 (by decide) ?_
  refine go_iadd K dL_law_666 ?_
  refine go_sld (k := i + 1) K hX hbl hbA (law_ix rfl) (by omega) hL dL_law_667 ?_
  refine go_aload_n K dL_law_668 0 rfl rfl ?_
  refine go_iload_n K dL_law_669 3 rfl rfl ?_
  refine go_iconst (v := (2 : Int32)) K dL_law_670 (by decide) ?_
  refine go_iadd K dL_law_671 ?_
  refine go_sld (k := i + 2) K hX hbl hbA (law_ix rfl) (by omega) hL dL_law_672 ?_
  refine go_aload_n K dL_law_673 0 rfl rfl ?_
  refine go_iload_n K dL_law_674 3 rfl rfl ?_
  refine go_iconst (v := (3 : Int32)) K dL_law_675 (by decide) ?_
  refine go_iadd K dL_law_676 ?_
  refine go_sld (k := i + 3) K hX hbl hbA (law_ix rfl) (by omega) hL dL_law_677 ?_
  refine go_cVIg K (c_X11_two l G _ _ _ C O r C' h1) cf_X11_two cv_X11_two km_L_84 rv_X11 ⟨by decide, by decide⟩ ⟨by decide, by decide⟩ rfl rfl (Nat.le_of_ble_eq_true rfl) dL_law_678 ?_
  refine go_aload_n K dL_law_681 2 rfl rfl ?_
  refine go_aload_n K dL_law_682 0 rfl rfl ?_
  refine go_iload_n K dL_law_683 3 rfl rfl ?_
  refine go_iconst (v := (1 : Int32)) K dL_law_684 (by decide) ?_
  refine go_iadd K dL_law_685 ?_
  refine go_sld (k := i + 1) K hX hbl hbA (law_ix rfl) (by omega) hL dL_law_686 ?_
  refine go_aload_n K dL_law_687 0 rfl rfl ?_
  refine go_iload_n K dL_law_688 3 rfl rfl ?_
  refine go_iconst (v := (2 : Int32)) K dL_law_689 (by decide) ?_
  refine go_iadd K dL_law_690 ?_
  refine go_sld (k := i + 2) K hX hbl hbA (law_ix rfl) (by omega) hL dL_law_691 ?_
  refine go_aload_n K dL_law_692 0 rfl rfl ?_
  refine go_iload_n K dL_law_693 3 rfl rfl ?_
  refine go_iconst (v := (3 : Int32)) K dL_law_694 (by decide) ?_
  refine go_iadd K dL_law_695 ?_
  refine go_sld (k := i + 3) K hX hbl hbA (law_ix rfl) (by omega) hL dL_law_696 ?_
  refine go_cVIg K (c_X12_two l G _ _ _ C'  O r O' h2) cf_X12_two cv_X12_two km_L_87 rv_X12 ⟨by decide, by decide⟩ ⟨by decide, by decide⟩ rfl rfl (Nat.le_of_ble_eq_true rfl) dL_law_697 ?_
  refine go_icmp_eq (tgt := 1214) K dL_law_700 (by decide) (fun _ => kk) (fun hc => absurd rfl hc)
set_option maxHeartbeats 4000000 in
set_option maxRecDepth 100000 in
theorem law_more {p : Program} {l : Launch} {e : Env} {s : State} {m : MethodId} {below : List Frame} {meth : Method} {c : Code} {G : GT} {b L : Nat} {xs : Nat → Int32} (K : Kx p s m #[Value.ref b] meth c cL_law 4 RL G) (hX : va_X b L xs s s.heap) (hbl : b < s.heap.size) (hbA : ¬ Fr G b) (hL : L ≤ 3584) {i : Nat} (hi : i + 7 ≤ L) {C C' : CM} {O O' : OM} {r : Int32} (h1 : f_X11_more (xs (i + 1)) (xs (i + 2)) (xs (i + 3)) C = some (r, C')) (h2 : f_X12_more (xs (i + 1)) (xs (i + 2)) (xs (i + 3)) O = some (r, O')) (kk : GOg p l e room_1 600000 7302250 s m #[Value.ref b] below meth c (lw_Z below #[Value.ref b] s) G 4 (Wl G (C', O')) 1214 [(0, .ref b), (1, .ref (gB G + 0)), (2, .ref (gB G + 446)), (3, .int (nI i))] ([])) : GOg p l e room_1 600000 7302250 s m #[Value.ref b] below meth c (lw_Z below #[Value.ref b] s) G 4 (Wl G (C, O)) 705 [(0, .ref b), (1, .ref (gB G + 0)), (2, .ref (gB G + 446)), (3, .int (nI i))] ([]) := by
  refine go_aload_n K dL_law_705 1 rfl rfl ?_
  refine go_aload_n K dL_law_706 0 rfl rfl ?_
  refine go_iload_n K dL_law_707 3 rfl rfl ?_
  refine go_iconst (v := (1 : Int32)) K dL_law_708 (by decide) ?_
  refine go_iadd K dL_law_709 ?_
  refine go_sld (k := i + 1) K hX hbl hbA (law_ix rfl) (by omega) hL dL_law_710 ?_
  refine go_aload_n K dL_law_711 0 rfl rfl ?_
  refine go_iload_n K dL_law_712 3 rfl rfl ?_
  refine go_iconst (v := (2 : Int32)) K dL_law_713 (by decide) ?_
  refine go_iadd K dL_law_714 ?_
  refine go_sld (k := i + 2) K hX hbl hbA (law_ix rfl) (by omega) hL dL_law_715 ?_
  refine go_aload_n K dL_law_716 0 rfl rfl ?_
  refine go_iload_n K dL_law_717 3 rfl rfl ?_
  refine go_iconst (v := (3 : Int32)) K dL_law_718 (by decide) ?_
  refine go_iadd K dL_law_719 ?_
  refine go_sld (k := i + 3) K hX hbl hbA (law_ix rfl) (by omega) hL dL_law_720 ?_
  refine go_cVIg K (c_X11_more l G _ _ _ C O r C' h1) cf_X11_more cv_X11_more km_L_88 rv_X11 ⟨by decide, by decide⟩ ⟨by decide, by decide⟩ rfl rfl (Nat.le_of_ble_eq_true rfl) dL_law_721 ?_
  refine go_aload_n K dL_law_724 2 rfl rfl ?_
  refine go_aload_n K dL_law_725 0 rfl rfl ?_
  refine go_iload_n K dL_law_726 3 rfl rfl ?_
  refine go_iconst (v := (1 : Int32)) K dL_law_727 (by decide) ?_
  refine go_iadd K dL_law_728 ?_
  refine go_sld (k := i + 1) K hX hbl hbA (law_ix rfl) (by omega) hL dL_law_729 ?_
  refine go_aload_n K dL_law_730 0 rfl rfl ?_
  refine go_iload_n K dL_law_731 3 rfl rfl ?_
  refine go_iconst (v := (2 : Int32)) K dL_law_732 (by decide) ?_
  refine go_iadd K dL_law_733 ?_
  refine go_sld (k := i + 2) K hX hbl hbA (law_ix rfl) (by omega) hL dL_law_734 ?_
  refine go_aload_n K dL_law_735 0 rfl rfl ?_
  refine go_iload_n K dL_law_736 3 rfl rfl ?_
  refine go_iconst (v := (3 : Int32)) K dL_law_737 (by decide) ?_
  refine go_iadd K dL_law_738 ?_
  refine go_sld (k := i + 3) K hX hbl hbA (law_ix rfl) (by omega) hL dL_law_739 ?_
  refine go_cVIg K (c_X12_more l G _ _ _ C'  O r O' h2) cf_X12_more cv_X12_more km_L_91 rv_X12 ⟨by decide, by decide⟩ ⟨by decide, by decide⟩ rfl rfl (Nat.le_of_ble_eq_true rfl) dL_law_740 ?_
  refine go_icmp_eq (tgt := 1214) K dL_law_743 (by decide) (fun _ => kk) (fun hc => absurd rfl hc)
set_option maxHeartbeats 4000000 in
set_option maxRecDepth 100000 in
theorem law_book {p : Program} {l : Launch} {e : Env} {s : State} {m : MethodId} {below : List Frame} {meth : Method} {c : Code} {G : GT} {b L : Nat} {xs : Nat → Int32} (K : Kx p s m #[Value.ref b] meth c cL_law 4 RL G) (hX : va_X b L xs s s.heap) (hbl : b < s.heap.size) (hbA : ¬ Fr G b) (hL : L ≤ 3584) {i : Nat} (hi : i + 7 ≤ L) {C C' : CM} {O O' : OM} {r : Int32} (h1 : f_X11_book (xs (i + 1)) (xs (i + 2)) C = some r) (h2 : f_X12_book (xs (i + 1)) (xs (i + 2)) O = some r) (kk : GOg p l e room_1 600000 7302250 s m #[Value.ref b] below meth c (lw_Z below #[Value.ref b] s) G 4 (Wl G (C, O)) 1214 [(0, .ref b), (1, .ref (gB G + 0)), (2, .ref (gB G + 446)), (3, .int (nI i))] ([])) : GOg p l e room_1 600000 7302250 s m #[Value.ref b] below meth c (lw_Z below #[Value.ref b] s) G 4 (Wl G (C, O)) 748 [(0, .ref b), (1, .ref (gB G + 0)), (2, .ref (gB G + 446)), (3, .int (nI i))] ([]) := by
  refine go_aload_n K dL_law_748 1 rfl rfl ?_
  refine go_aload_n K dL_law_749 0 rfl rfl ?_
  refine go_iload_n K dL_law_750 3 rfl rfl ?_
  refine go_iconst (v := (1 : Int32)) K dL_law_751 (by decide) ?_
  refine go_iadd K dL_law_752 ?_
  refine go_sld (k := i + 1) K hX hbl hbA (law_ix rfl) (by omega) hL dL_law_753 ?_
  refine go_aload_n K dL_law_754 0 rfl rfl ?_
  refine go_iload_n K dL_law_755 3 rfl rfl ?_
  refine go_iconst (v := (2 : Int32)) K dL_law_756 (by decide) ?_
  refine go_iadd K dL_law_757 ?_
  refine go_sld (k := i + 2) K hX hbl hbA (law_ix rfl) (by omega) hL dL_law_758 ?_
  refine go_cVIg K (c_X11_book l G _ _ C O r h1) cf_X11_book cv_X11_book km_L_92 rv_X11 ⟨by decide, by decide⟩ ⟨by decide, by decide⟩ rfl rfl (Nat.le_of_ble_eq_true rfl) dL_law_759 ?_
  refine go_aload_n K dL_law_762 2 rfl rfl ?_
  refine go_aload_n K dL_law_763 0 rfl rfl ?_
  refine go_iload_n K dL_law_764 3 rfl rfl ?_
  refine go_iconst (v := (1 : Int32)) K dL_law_765 (by decide) ?_
  refine go_iadd K dL_law_766 ?_
  refine go_sld (k := i + 1) K hX hbl hbA (law_ix rfl) (by omega) hL dL_law_767 ?_
  refine go_aload_n K dL_law_768 0 rfl rfl ?_
  refine go_iload_n K dL_law_769 3 rfl rfl ?_
  refine go_iconst (v := (2 : Int32)) K dL_law_770 (by decide) ?_
  refine go_iadd K dL_law_771 ?_
  refine go_sld (k := i + 2) K hX hbl hbA (law_ix rfl) (by omega) hL dL_law_772 ?_
  refine go_cVIg K (c_X12_book l G _ _ C  O r h2) cf_X12_book cv_X12_book km_L_95 rv_X12 ⟨by decide, by decide⟩ ⟨by decide, by decide⟩ rfl rfl (Nat.le_of_ble_eq_true rfl) dL_law_773 ?_
  refine go_icmp_eq (tgt := 1214) K dL_law_776 (by decide) (fun _ => kk) (fun hc => absurd rfl hc)
set_option maxHeartbeats 4000000 in
set_option maxRecDepth 100000 in
theorem law_foretold {p : Program} {l : Launch} {e : Env} {s : State} {m : MethodId} {below : List Frame} {meth : Method} {c : Code} {G : GT} {b L : Nat} {xs : Nat → Int32} (K : Kx p s m #[Value.ref b] meth c cL_law 4 RL G) (hX : va_X b L xs s s.heap) (hbl : b < s.heap.size) (hbA : ¬ Fr G b) (hL : L ≤ 3584) {i : Nat} (hi : i + 7 ≤ L) {C C' : CM} {O O' : OM} {r : Int32} (h1 : f_X11_foretold (xs (i + 1)) (xs (i + 2)) (xs (i + 3)) C = some (r, C')) (h2 : f_X12_foretold (xs (i + 1)) (xs (i + 2)) (xs (i + 3)) O = some (r, O')) (kk : GOg p l e room_1 600000 7302250 s m #[Value.ref b] below meth c (lw_Z below #[Value.ref b] s) G 4 (Wl G (C', O')) 1214 [(0, .ref b), (1, .ref (gB G + 0)), (2, .ref (gB G + 446)), (3, .int (nI i))] ([])) : GOg p l e room_1 600000 7302250 s m #[Value.ref b] below meth c (lw_Z below #[Value.ref b] s) G 4 (Wl G (C, O)) 781 [(0, .ref b), (1, .ref (gB G + 0)), (2, .ref (gB G + 446)), (3, .int (nI i))] ([]) := by
  refine go_aload_n K dL_law_781 1 rfl rfl ?_
  refine go_aload_n K dL_law_782 0 rfl rfl ?_
  refine go_iload_n K dL_law_783 3 rfl rfl ?_
  refine go_iconst (v := (1 : Int32)) K dL_law_784 (by decide) ?_
  refine go_iadd K dL_law_785 ?_
  refine go_sld (k := i + 1) K hX hbl hbA (law_ix rfl) (by omega) hL dL_law_786 ?_
  refine go_aload_n K dL_law_787 0 rfl rfl ?_
  refine go_iload_n K dL_law_788 3 rfl rfl ?_
  refine go_iconst (v := (2 : Int32)) K dL_law_789 (by decide) ?_
  refine go_iadd K dL_law_790 ?_
  refine go_sld (k := i + 2) K hX hbl hbA (law_ix rfl) (by omega) hL dL_law_791 ?_
  refine go_aload_n K dL_law_792 0 rfl rfl ?_
  refine go_iload_n K dL_law_793 3 rfl rfl ?_
  refine go_iconst (v := (3 : Int32)) K dL_law_794 (by decide) ?_
  refine go_iadd K dL_law_795 ?_
  refine go_sld (k := i + 3) K hX hbl hbA (law_ix rfl) (by omega) hL dL_law_796 ?_
  refine go_cVIg K (c_X11_foretold l G _ _ _ C O r C' h1) cf_X11_foretold cv_X11_foretold km_L_96 rv_X11 ⟨by decide, by decide⟩ ⟨by decide, by decide⟩ rfl rfl (Nat.le_of_ble_eq_true rfl) dL_law_797 ?_
  refine go_aload_n K dL_law_800 2 rfl rfl ?_
  refine go_aload_n K dL_law_801 0 rfl rfl ?_
  refine go_iload_n K dL_law_802 3 rfl rfl ?_
  refine go_iconst (v := (1 : Int32)) K dL_law_803 (by decide) ?_
  refine go_iadd K dL_law_804 ?_
  refine go_sld (k := i + 1) K hX hbl hbA (law_ix rfl) (by omega) hL dL_law_805 ?_
  refine go_aload_n K dL_law_806 0 rfl rfl ?_
  refine go_iload_n K dL_law_807 3 rfl rfl ?_
  refine go_iconst (v := (2 : Int32)) K dL_law_808 (by decide) ?_
  refine go_iadd K dL_law_809 ?_
  refine go_sld (k := i + 2) K hX hbl hbA (law_ix rfl) (by omega) hL dL_law_810 ?_
  refine go_aload_n K dL_law_811 0 rfl rfl ?_
  refine go_iload_n K dL_law_812 3 rfl rfl ?_
  refine go_iconst (v := (3 : Int32)) K dL_law_813 (by decide) ?_
  refine go_iadd K dL_law_814 ?_
  refine go_sld (k := i + 3) K hX hbl hbA (law_ix rfl) (by omega) hL dL_law_815 ?_
  refine go_cVIg K (c_X12_foretold l G _ _ _ C'  O r O' h2) cf_X12_foretold cv_X12_foretold km_L_99 rv_X12 ⟨by decide, by decide⟩ ⟨by decide, by decide⟩ rfl rfl (Nat.le_of_ble_eq_true rfl) dL_law_816 ?_
  refine go_icmp_eq (tgt := 1214) K dL_law_819 (by decide) (fun _ => kk) (fun hc => absurd rfl hc)
set_option maxHeartbeats 4000000 in
set_option maxRecDepth 100000 in
theorem law_indoors {p : Program} {l : Launch} {e : Env} {s : State} {m : MethodId} {below : List Frame} {meth : Method} {c : Code} {G : GT} {b L : Nat} {xs : Nat → Int32} (K : Kx p s m #[Value.ref b] meth c cL_law 4 RL G) (hX : va_X b L xs s s.heap) (hbl : b < s.heap.size) (hbA : ¬ Fr G b) (hL : L ≤ 3584) {i : Nat} (hi : i + 7 ≤ L) {C C' : CM} {O O' : OM} {r : Int32} (h1 : f_X11_indoors (xs (i + 1)) (xs (i + 2)) C = some (r, C')) (h2 : f_X12_indoors (xs (i + 1)) (xs (i + 2)) O = some (r, O')) (kk : GOg p l e room_1 600000 7302250 s m #[Value.ref b] below meth c (lw_Z below #[Value.ref b] s) G 4 (Wl G (C', O')) 1214 [(0, .ref b), (1, .ref (gB G + 0)), (2, .ref (gB G + 446)), (3, .int (nI i))] ([])) : GOg p l e room_1 600000 7302250 s m #[Value.ref b] below meth c (lw_Z below #[Value.ref b] s) G 4 (Wl G (C, O)) 824 [(0, .ref b), (1, .ref (gB G + 0)), (2, .ref (gB G + 446)), (3, .int (nI i))] ([]) := by
  refine go_aload_n K dL_law_824 1 rfl rfl ?_
  refine go_aload_n K dL_law_825 0 rfl rfl ?_
  refine go_iload_n K dL_law_826 3 rfl rfl ?_
  refine go_iconst (v := (1 : Int32)) K dL_law_827 (by decide) ?_
  refine go_iadd K dL_law_828 ?_
  refine go_sld (k := i + 1) K hX hbl hbA (law_ix rfl) (by omega) hL dL_law_829 ?_
  refine go_aload_n K dL_law_830 0 rfl rfl ?_
  refine go_iload_n K dL_law_831 3 rfl rfl ?_
  refine go_iconst (v := (2 : Int32)) K dL_law_832 (by decide) ?_
  refine go_iadd K dL_law_833 ?_
  refine go_sld (k := i + 2) K hX hbl hbA (law_ix rfl) (by omega) hL dL_law_834 ?_
  refine go_cVIg K (c_X11_indoors l G _ _ C O r C' h1) cf_X11_indoors cv_X11_indoors km_L_100 rv_X11 ⟨by decide, by decide⟩ ⟨by decide, by decide⟩ rfl rfl (Nat.le_of_ble_eq_true rfl) dL_law_835 ?_
  refine go_aload_n K dL_law_838 2 rfl rfl ?_
  refine go_aload_n K dL_law_839 0 rfl rfl ?_
  refine go_iload_n K dL_law_840 3 rfl rfl ?_
  refine go_iconst (v := (1 : Int32)) K dL_law_841 (by decide) ?_
  refine go_iadd K dL_law_842 ?_
  refine go_sld (k := i + 1) K hX hbl hbA (law_ix rfl) (by omega) hL dL_law_843 ?_
  refine go_aload_n K dL_law_844 0 rfl rfl ?_
  refine go_iload_n K dL_law_845 3 rfl rfl ?_
  refine go_iconst (v := (2 : Int32)) K dL_law_846 (by decide) ?_
  refine go_iadd K dL_law_847 ?_
  refine go_sld (k := i + 2) K hX hbl hbA (law_ix rfl) (by omega) hL dL_law_848 ?_
  refine go_cVIg K (c_X12_indoors l G _ _ C'  O r O' h2) cf_X12_indoors cv_X12_indoors km_L_103 rv_X12 ⟨by decide, by decide⟩ ⟨by decide, by decide⟩ rfl rfl (Nat.le_of_ble_eq_true rfl) dL_law_849 ?_
  refine go_icmp_eq (tgt := 1214) K dL_law_852 (by decide) (fun _ => kk) (fun hc => absurd rfl hc)
set_option maxHeartbeats 4000000 in
set_option maxRecDepth 100000 in
theorem law_first {p : Program} {l : Launch} {e : Env} {s : State} {m : MethodId} {below : List Frame} {meth : Method} {c : Code} {G : GT} {b L : Nat} {xs : Nat → Int32} (K : Kx p s m #[Value.ref b] meth c cL_law 4 RL G) (hX : va_X b L xs s s.heap) (hbl : b < s.heap.size) (hbA : ¬ Fr G b) (hL : L ≤ 3584) {i : Nat} (hi : i + 7 ≤ L) {C C' : CM} {O O' : OM} {r : Int32} (h1 : f_X11_first (xs (i + 1)) C = some (r, C')) (h2 : f_X12_first (xs (i + 1)) O = some (r, O')) (kk : GOg p l e room_1 600000 7302250 s m #[Value.ref b] below meth c (lw_Z below #[Value.ref b] s) G 4 (Wl G (C', O')) 1214 [(0, .ref b), (1, .ref (gB G + 0)), (2, .ref (gB G + 446)), (3, .int (nI i))] ([])) : GOg p l e room_1 600000 7302250 s m #[Value.ref b] below meth c (lw_Z below #[Value.ref b] s) G 4 (Wl G (C, O)) 857 [(0, .ref b), (1, .ref (gB G + 0)), (2, .ref (gB G + 446)), (3, .int (nI i))] ([]) := by
  refine go_aload_n K dL_law_857 1 rfl rfl ?_
  refine go_aload_n K dL_law_858 0 rfl rfl ?_
  refine go_iload_n K dL_law_859 3 rfl rfl ?_
  refine go_iconst (v := (1 : Int32)) K dL_law_860 (by decide) ?_
  refine go_iadd K dL_law_861 ?_
  refine go_sld (k := i + 1) K hX hbl hbA (law_ix rfl) (by omega) hL dL_law_862 ?_
  refine go_cVIg K (c_X11_first l G _ C O r C' h1) cf_X11_first cv_X11_first km_L_104 rv_X11 ⟨by decide, by decide⟩ ⟨by decide, by decide⟩ rfl rfl (Nat.le_of_ble_eq_true rfl) dL_law_863 ?_
  refine go_aload_n K dL_law_866 2 rfl rfl ?_
  refine go_aload_n K dL_law_867 0 rfl rfl ?_
  refine go_iload_n K dL_law_868 3 rfl rfl ?_
  refine go_iconst (v := (1 : Int32)) K dL_law_869 (by decide) ?_
  refine go_iadd K dL_law_870 ?_
  refine go_sld (k := i + 1) K hX hbl hbA (law_ix rfl) (by omega) hL dL_law_871 ?_
  refine go_cVIg K (c_X12_first l G _ C'  O r O' h2) cf_X12_first cv_X12_first km_L_107 rv_X12 ⟨by decide, by decide⟩ ⟨by decide, by decide⟩ rfl rfl (Nat.le_of_ble_eq_true rfl) dL_law_872 ?_
  refine go_icmp_eq (tgt := 1214) K dL_law_875 (by decide) (fun _ => kk) (fun hc => absurd rfl hc)
set_option maxHeartbeats 4000000 in
set_option maxRecDepth 100000 in
theorem law_whose {p : Program} {l : Launch} {e : Env} {s : State} {m : MethodId} {below : List Frame} {meth : Method} {c : Code} {G : GT} {b L : Nat} {xs : Nat → Int32} (K : Kx p s m #[Value.ref b] meth c cL_law 4 RL G) (hX : va_X b L xs s s.heap) (hbl : b < s.heap.size) (hbA : ¬ Fr G b) (hL : L ≤ 3584) {i : Nat} (hi : i + 7 ≤ L) {C C' : CM} {O O' : OM} {r : Int32} (h1 : f_X11_whose (xs (i + 1)) C = some (r, C')) (h2 : f_X12_whose (xs (i + 1)) O = some (r, O')) (kk : GOg p l e room_1 600000 7302250 s m #[Value.ref b] below meth c (lw_Z below #[Value.ref b] s) G 4 (Wl G (C', O')) 1214 [(0, .ref b), (1, .ref (gB G + 0)), (2, .ref (gB G + 446)), (3, .int (nI i))] ([])) : GOg p l e room_1 600000 7302250 s m #[Value.ref b] below meth c (lw_Z below #[Value.ref b] s) G 4 (Wl G (C, O)) 880 [(0, .ref b), (1, .ref (gB G + 0)), (2, .ref (gB G + 446)), (3, .int (nI i))] ([]) := by
  refine go_aload_n K dL_law_880 1 rfl rfl ?_
  refine go_aload_n K dL_law_881 0 rfl rfl ?_
  refine go_iload_n K dL_law_882 3 rfl rfl ?_
  refine go_iconst (v := (1 : Int32)) K dL_law_883 (by decide) ?_
  refine go_iadd K dL_law_884 ?_
  refine go_sld (k := i + 1) K hX hbl hbA (law_ix rfl) (by omega) hL dL_law_885 ?_
  refine go_cVIg K (c_X11_whose l G _ C O r C' h1) cf_X11_whose cv_X11_whose km_L_108 rv_X11 ⟨by decide, by decide⟩ ⟨by decide, by decide⟩ rfl rfl (Nat.le_of_ble_eq_true rfl) dL_law_886 ?_
  refine go_aload_n K dL_law_889 2 rfl rfl ?_
  refine go_aload_n K dL_law_890 0 rfl rfl ?_
  refine go_iload_n K dL_law_891 3 rfl rfl ?_
  refine go_iconst (v := (1 : Int32)) K dL_law_892 (by decide) ?_
  refine go_iadd K dL_law_893 ?_
  refine go_sld (k := i + 1) K hX hbl hbA (law_ix rfl) (by omega) hL dL_law_894 ?_
  refine go_cVIg K (c_X12_whose l G _ C'  O r O' h2) cf_X12_whose cv_X12_whose km_L_111 rv_X12 ⟨by decide, by decide⟩ ⟨by decide, by decide⟩ rfl rfl (Nat.le_of_ble_eq_true rfl) dL_law_895 ?_
  refine go_icmp_eq (tgt := 1214) K dL_law_898 (by decide) (fun _ => kk) (fun hc => absurd rfl hc)
set_option maxHeartbeats 4000000 in
set_option maxRecDepth 100000 in
theorem law_route {p : Program} {l : Launch} {e : Env} {s : State} {m : MethodId} {below : List Frame} {meth : Method} {c : Code} {G : GT} {b L : Nat} {xs : Nat → Int32} (K : Kx p s m #[Value.ref b] meth c cL_law 4 RL G) (hX : va_X b L xs s s.heap) (hbl : b < s.heap.size) (hbA : ¬ Fr G b) (hL : L ≤ 3584) {i : Nat} (hi : i + 7 ≤ L) {C C' : CM} {O O' : OM} {r : Int32} (h1 : f_X11_route (xs (i + 1)) (xs (i + 2)) C = some (r, C')) (h2 : f_X12_route (xs (i + 1)) (xs (i + 2)) O = some (r, O')) (kk : GOg p l e room_1 600000 7302250 s m #[Value.ref b] below meth c (lw_Z below #[Value.ref b] s) G 4 (Wl G (C', O')) 1214 [(0, .ref b), (1, .ref (gB G + 0)), (2, .ref (gB G + 446)), (3, .int (nI i))] ([])) : GOg p l e room_1 600000 7302250 s m #[Value.ref b] below meth c (lw_Z below #[Value.ref b] s) G 4 (Wl G (C, O)) 903 [(0, .ref b), (1, .ref (gB G + 0)), (2, .ref (gB G + 446)), (3, .int (nI i))] ([]) := by
  refine go_aload_n K dL_law_903 1 rfl rfl ?_
  refine go_aload_n K dL_law_904 0 rfl rfl ?_
  refine go_iload_n K dL_law_905 3 rfl rfl ?_
  refine go_iconst (v := (1 : Int32)) K dL_law_906 (by decide) ?_
  refine go_iadd K dL_law_907 ?_
  refine go_sld (k := i + 1) K hX hbl hbA (law_ix rfl) (by omega) hL dL_law_908 ?_
  refine go_aload_n K dL_law_909 0 rfl rfl ?_
  refine go_iload_n K dL_law_910 3 rfl rfl ?_
  refine go_iconst (v := (2 : Int32)) K dL_law_911 (by decide) ?_
  refine go_iadd K dL_law_912 ?_
  refine go_sld (k := i + 2) K hX hbl hbA (law_ix rfl) (by omega) hL dL_law_913 ?_
  refine go_cVIg K (c_X11_route l G _ _ C O r C' h1) cf_X11_route cv_X11_route km_L_112 rv_X11 ⟨by decide, by decide⟩ ⟨by decide, by decide⟩ rfl rfl (Nat.le_of_ble_eq_true rfl) dL_law_914 ?_
  refine go_aload_n K dL_law_917 2 rfl rfl ?_
  refine go_aload_n K dL_law_918 0 rfl rfl ?_
  refine go_iload_n K dL_law_919 3 rfl rfl ?_
  refine go_iconst (v := (1 : Int32)) K dL_law_920 (by decide) ?_
  refine go_iadd K dL_law_921 ?_
  refine go_sld (k := i + 1) K hX hbl hbA (law_ix rfl) (by omega) hL dL_law_922 ?_
  refine go_aload_n K dL_law_923 0 rfl rfl ?_
  refine go_iload_n K dL_law_924 3 rfl rfl ?_
  refine go_iconst (v := (2 : Int32)) K dL_law_925 (by decide) ?_
  refine go_iadd K dL_law_926 ?_
  refine go_sld (k := i + 2) K hX hbl hbA (law_ix rfl) (by omega) hL dL_law_927 ?_
  refine go_cVIg K (c_X12_route l G _ _ C'  O r O' h2) cf_X12_route cv_X12_route km_L_115 rv_X12 ⟨by decide, by decide⟩ ⟨by decide, by decide⟩ rfl rfl (Nat.le_of_ble_eq_true rfl) dL_law_928 ?_
  refine go_icmp_eq (tgt := 1214) K dL_law_931 (by decide) (fun _ => kk) (fun hc => absurd rfl hc)
set_option maxHeartbeats 4000000 in
set_option maxRecDepth 100000 in
theorem law_settled {p : Program} {l : Launch} {e : Env} {s : State} {m : MethodId} {below : List Frame} {meth : Method} {c : Code} {G : GT} {b L : Nat} {xs : Nat → Int32} (K : Kx p s m #[Value.ref b] meth c cL_law 4 RL G) (hX : va_X b L xs s s.heap) (hbl : b < s.heap.size) (hbA : ¬ Fr G b) (hL : L ≤ 3584) {i : Nat} (hi : i + 7 ≤ L) {C C' : CM} {O O' : OM} {r : Int32} (h1 : f_X11_settled (bz (xs (i + 1))) C = some (r, C')) (h2 : f_X12_settled (bz (xs (i + 1))) O = some (r, O')) (kk : GOg p l e room_1 600000 7302250 s m #[Value.ref b] below meth c (lw_Z below #[Value.ref b] s) G 4 (Wl G (C', O')) 1214 [(0, .ref b), (1, .ref (gB G + 0)), (2, .ref (gB G + 446)), (3, .int (nI i))] ([])) : GOg p l e room_1 600000 7302250 s m #[Value.ref b] below meth c (lw_Z below #[Value.ref b] s) G 4 (Wl G (C, O)) 936 [(0, .ref b), (1, .ref (gB G + 0)), (2, .ref (gB G + 446)), (3, .int (nI i))] ([]) := by
  refine go_aload_n K dL_law_936 1 rfl rfl ?_
  refine go_aload_n K dL_law_937 0 rfl rfl ?_
  refine go_iload_n K dL_law_938 3 rfl rfl ?_
  refine go_iconst (v := (1 : Int32)) K dL_law_939 (by decide) ?_
  refine go_iadd K dL_law_940 ?_
  refine go_sld (k := i + 1) K hX hbl hbA (law_ix rfl) (by omega) hL dL_law_941 ?_
  have hB942 : GOg p l e room_1 600000 7302250 s m #[Value.ref b] below meth c (lw_Z below #[Value.ref b] s) G 4 (Wl G (C, O)) 950 [(0, .ref b), (1, .ref (gB G + 0)), (2, .ref (gB G + 446)), (3, .int (nI i))] (.int (bz (xs (i + 1))) :: .ref (gB G + 0) :: []) → GOg p l e room_1 600000 7302250 s m #[Value.ref b] below meth c (lw_Z below #[Value.ref b] s) G 4 (Wl G (C, O)) 942 [(0, .ref b), (1, .ref (gB G + 0)), (2, .ref (gB G + 446)), (3, .int (nI i))] (.int (xs (i + 1)) :: .ref (gB G + 0) :: []) := by
    intro hb
    refine go_if_eq (tgt := 949) K dL_law_942 (by decide) (fun hc => ?_) (fun hc => ?_)
    · refine go_iconst (v := (0 : Int32)) K dL_law_949 (by decide) ?_
      rw [bz, if_pos hc] at hb; exact hb
    · refine go_iconst (v := (1 : Int32)) K dL_law_945 (by decide) ?_
      refine go_goto (tgt := 950) K dL_law_946 (by decide) ?_
      rw [bz, if_neg hc] at hb; exact hb
  refine hB942 ?_
  refine go_cVIg K (c_X11_settled l G _ C O r C' h1) cf_X11_settled cv_X11_settled km_L_116 rv_X11 ⟨by decide, by decide⟩ ⟨by decide, by decide⟩ rfl rfl (Nat.le_of_ble_eq_true rfl) dL_law_950 ?_
  refine go_aload_n K dL_law_953 2 rfl rfl ?_
  refine go_aload_n K dL_law_954 0 rfl rfl ?_
  refine go_iload_n K dL_law_955 3 rfl rfl ?_
  refine go_iconst (v := (1 : Int32)) K dL_law_956 (by decide) ?_
  refine go_iadd K dL_law_957 ?_
  refine go_sld (k := i + 1) K hX hbl hbA (law_ix rfl) (by omega) hL dL_law_958 ?_
  have hB959 : GOg p l e room_1 600000 7302250 s m #[Value.ref b] below meth c (lw_Z below #[Value.ref b] s) G 4 (Wl G (C', O)) 967 [(0, .ref b), (1, .ref (gB G + 0)), (2, .ref (gB G + 446)), (3, .int (nI i))] (.int (bz (xs (i + 1))) :: .ref (gB G + 446) :: .int r :: []) → GOg p l e room_1 600000 7302250 s m #[Value.ref b] below meth c (lw_Z below #[Value.ref b] s) G 4 (Wl G (C', O)) 959 [(0, .ref b), (1, .ref (gB G + 0)), (2, .ref (gB G + 446)), (3, .int (nI i))] (.int (xs (i + 1)) :: .ref (gB G + 446) :: .int r :: []) := by
    intro hb
    refine go_if_eq (tgt := 966) K dL_law_959 (by decide) (fun hc => ?_) (fun hc => ?_)
    · refine go_iconst (v := (0 : Int32)) K dL_law_966 (by decide) ?_
      rw [bz, if_pos hc] at hb; exact hb
    · refine go_iconst (v := (1 : Int32)) K dL_law_962 (by decide) ?_
      refine go_goto (tgt := 967) K dL_law_963 (by decide) ?_
      rw [bz, if_neg hc] at hb; exact hb
  refine hB959 ?_
  refine go_cVIg K (c_X12_settled l G _ C'  O r O' h2) cf_X12_settled cv_X12_settled km_L_120 rv_X12 ⟨by decide, by decide⟩ ⟨by decide, by decide⟩ rfl rfl (Nat.le_of_ble_eq_true rfl) dL_law_967 ?_
  refine go_icmp_eq (tgt := 1214) K dL_law_970 (by decide) (fun _ => kk) (fun hc => absurd rfl hc)
set_option maxHeartbeats 4000000 in
set_option maxRecDepth 100000 in
theorem law_lane {p : Program} {l : Launch} {e : Env} {s : State} {m : MethodId} {below : List Frame} {meth : Method} {c : Code} {G : GT} {b L : Nat} {xs : Nat → Int32} (K : Kx p s m #[Value.ref b] meth c cL_law 4 RL G) (hX : va_X b L xs s s.heap) (hbl : b < s.heap.size) (hbA : ¬ Fr G b) (hL : L ≤ 3584) {i : Nat} (hi : i + 7 ≤ L) {C C' : CM} {O O' : OM} {r : Int32} (h1 : f_X11_lane (xs (i + 1)) (xs (i + 2)) (xs (i + 3)) (xs (i + 4)) (xs (i + 5)) (xs (i + 6)) = some r) (h2 : f_X12_lane (xs (i + 1)) (xs (i + 2)) (xs (i + 3)) (xs (i + 4)) (xs (i + 5)) (xs (i + 6)) = some r) (kk : GOg p l e room_1 600000 7302250 s m #[Value.ref b] below meth c (lw_Z below #[Value.ref b] s) G 4 (Wl G (C, O)) 1214 [(0, .ref b), (1, .ref (gB G + 0)), (2, .ref (gB G + 446)), (3, .int (nI i))] ([])) : GOg p l e room_1 600000 7302250 s m #[Value.ref b] below meth c (lw_Z below #[Value.ref b] s) G 4 (Wl G (C, O)) 975 [(0, .ref b), (1, .ref (gB G + 0)), (2, .ref (gB G + 446)), (3, .int (nI i))] ([]) := by
  refine go_aload_n K dL_law_975 1 rfl rfl ?_
  refine go_aload_n K dL_law_976 0 rfl rfl ?_
  refine go_iload_n K dL_law_977 3 rfl rfl ?_
  refine go_iconst (v := (1 : Int32)) K dL_law_978 (by decide) ?_
  refine go_iadd K dL_law_979 ?_
  refine go_sld (k := i + 1) K hX hbl hbA (law_ix rfl) (by omega) hL dL_law_980 ?_
  refine go_aload_n K dL_law_981 0 rfl rfl ?_
  refine go_iload_n K dL_law_982 3 rfl rfl ?_
  refine go_iconst (v := (2 : Int32)) K dL_law_983 (by decide) ?_
  refine go_iadd K dL_law_984 ?_
  refine go_sld (k := i + 2) K hX hbl hbA (law_ix rfl) (by omega) hL dL_law_985 ?_
  refine go_aload_n K dL_law_986 0 rfl rfl ?_
  refine go_iload_n K dL_law_987 3 rfl rfl ?_
  refine go_iconst (v := (3 : Int32)) K dL_law_988 (by decide) ?_
  refine go_iadd K dL_law_989 ?_
  refine go_sld (k := i + 3) K hX hbl hbA (law_ix rfl) (by omega) hL dL_law_990 ?_
  refine go_aload_n K dL_law_991 0 rfl rfl ?_
  refine go_iload_n K dL_law_992 3 rfl rfl ?_
  refine go_iconst (v := (4 : Int32)) K dL_law_993 (by decide) ?_
  refine go_iadd K dL_law_994 ?_
  refine go_sld (k := i + 4) K hX hbl hbA (law_ix rfl) (by omega) hL dL_law_995 ?_
  refine go_aload_n K dL_law_996 0 rfl rfl ?_
  refine go_iload_n K dL_law_997 3 rfl rfl ?_
  refine go_iconst (v := (5 : Int32)) K dL_law_998 (by decide) ?_
  refine go_iadd K dL_law_999 ?_
  refine go_sld (k := i + 5) K hX hbl hbA (law_ix rfl) (by omega) hL dL_law_1000 ?_
  refine go_aload_n K dL_law_1001 0 rfl rfl ?_
  refine go_iload_n K dL_law_1002 3 rfl rfl ?_
  refine go_bipush (v := (6 : Int32)) K dL_law_1003 (by decide) ?_
  refine go_iadd K dL_law_1005 ?_
  refine go_sld (k := i + 6) K hX hbl hbA (law_ix rfl) (by omega) hL dL_law_1006 ?_
  refine go_cVIg K (c_X11_lane l G _ _ _ _ _ _ C O r h1) cf_X11_lane cv_X11_lane km_L_121 rv_X11 ⟨by decide, by decide⟩ ⟨by decide, by decide⟩ rfl rfl (Nat.le_of_ble_eq_true rfl) dL_law_1007 ?_
  refine go_aload_n K dL_law_1010 2 rfl rfl ?_
  refine go_aload_n K dL_law_1011 0 rfl rfl ?_
  refine go_iload_n K dL_law_1012 3 rfl rfl ?_
  refine go_iconst (v := (1 : Int32)) K dL_law_1013 (by decide) ?_
  refine go_iadd K dL_law_1014 ?_
  refine go_sld (k := i + 1) K hX hbl hbA (law_ix rfl) (by omega) hL dL_law_1015 ?_
  refine go_aload_n K dL_law_1016 0 rfl rfl ?_
  refine go_iload_n K dL_law_1017 3 rfl rfl ?_
  refine go_iconst (v := (2 : Int32)) K dL_law_1018 (by decide) ?_
  refine go_iadd K dL_law_1019 ?_
  refine go_sld (k := i + 2) K hX hbl hbA (law_ix rfl) (by omega) hL dL_law_1020 ?_
  refine go_aload_n K dL_law_1021 0 rfl rfl ?_
  refine go_iload_n K dL_law_1022 3 rfl rfl ?_
  refine go_iconst (v := (3 : Int32)) K dL_law_1023 (by decide) ?_
  refine go_iadd K dL_law_1024 ?_
  refine go_sld (k := i + 3) K hX hbl hbA (law_ix rfl) (by omega) hL dL_law_1025 ?_
  refine go_aload_n K dL_law_1026 0 rfl rfl ?_
  refine go_iload_n K dL_law_1027 3 rfl rfl ?_
  refine go_iconst (v := (4 : Int32)) K dL_law_1028 (by decide) ?_
  refine go_iadd K dL_law_1029 ?_
  refine go_sld (k := i + 4) K hX hbl hbA (law_ix rfl) (by omega) hL dL_law_1030 ?_
  refine go_aload_n K dL_law_1031 0 rfl rfl ?_
  refine go_iload_n K dL_law_1032 3 rfl rfl ?_
  refine go_iconst (v := (5 : Int32)) K dL_law_1033 (by decide) ?_
  refine go_iadd K dL_law_1034 ?_
  refine go_sld (k := i + 5) K hX hbl hbA (law_ix rfl) (by omega) hL dL_law_1035 ?_
  refine go_aload_n K dL_law_1036 0 rfl rfl ?_
  refine go_iload_n K dL_law_1037 3 rfl rfl ?_
  refine go_bipush (v := (6 : Int32)) K dL_law_1038 (by decide) ?_
  refine go_iadd K dL_law_1040 ?_
  refine go_sld (k := i + 6) K hX hbl hbA (law_ix rfl) (by omega) hL dL_law_1041 ?_
  refine go_cVIg K (c_X12_lane l G _ _ _ _ _ _ C  O r h2) cf_X12_lane cv_X12_lane km_L_125 rv_X12 ⟨by decide, by decide⟩ ⟨by decide, by decide⟩ rfl rfl (Nat.le_of_ble_eq_true rfl) dL_law_1042 ?_
  refine go_icmp_eq (tgt := 1214) K dL_law_1045 (by decide) (fun _ => kk) (fun hc => absurd rfl hc)
set_option maxHeartbeats 4000000 in
set_option maxRecDepth 100000 in
theorem law_doors {p : Program} {l : Launch} {e : Env} {s : State} {m : MethodId} {below : List Frame} {meth : Method} {c : Code} {G : GT} {b L : Nat} {xs : Nat → Int32} (K : Kx p s m #[Value.ref b] meth c cL_law 4 RL G) (hX : va_X b L xs s s.heap) (hbl : b < s.heap.size) (hbA : ¬ Fr G b) (hL : L ≤ 3584) {i : Nat} (hi : i + 7 ≤ L) {C C' : CM} {O O' : OM} {r : Int32} (h1 : f_X11_doors (xs (i + 1)) C = some (r, C')) (h2 : f_X12_doors (xs (i + 1)) O = some (r, O')) (kk : GOg p l e room_1 600000 7302250 s m #[Value.ref b] below meth c (lw_Z below #[Value.ref b] s) G 4 (Wl G (C', O')) 1214 [(0, .ref b), (1, .ref (gB G + 0)), (2, .ref (gB G + 446)), (3, .int (nI i))] ([])) : GOg p l e room_1 600000 7302250 s m #[Value.ref b] below meth c (lw_Z below #[Value.ref b] s) G 4 (Wl G (C, O)) 1050 [(0, .ref b), (1, .ref (gB G + 0)), (2, .ref (gB G + 446)), (3, .int (nI i))] ([]) := by
  refine go_aload_n K dL_law_1050 1 rfl rfl ?_
  refine go_aload_n K dL_law_1051 0 rfl rfl ?_
  refine go_iload_n K dL_law_1052 3 rfl rfl ?_
  refine go_iconst (v := (1 : Int32)) K dL_law_1053 (by decide) ?_
  refine go_iadd K dL_law_1054 ?_
  refine go_sld (k := i + 1) K hX hbl hbA (law_ix rfl) (by omega) hL dL_law_1055 ?_
  refine go_cVIg K (c_X11_doors l G _ C O r C' h1) cf_X11_doors cv_X11_doors km_L_126 rv_X11 ⟨by decide, by decide⟩ ⟨by decide, by decide⟩ rfl rfl (Nat.le_of_ble_eq_true rfl) dL_law_1056 ?_
  refine go_aload_n K dL_law_1059 2 rfl rfl ?_
  refine go_aload_n K dL_law_1060 0 rfl rfl ?_
  refine go_iload_n K dL_law_1061 3 rfl rfl ?_
  refine go_iconst (v := (1 : Int32)) K dL_law_1062 (by decide) ?_
  refine go_iadd K dL_law_1063 ?_
  refine go_sld (k := i + 1) K hX hbl hbA (law_ix rfl) (by omega) hL dL_law_1064 ?_
  refine go_cVIg K (c_X12_doors l G _ C'  O r O' h2) cf_X12_doors cv_X12_doors km_L_129 rv_X12 ⟨by decide, by decide⟩ ⟨by decide, by decide⟩ rfl rfl (Nat.le_of_ble_eq_true rfl) dL_law_1065 ?_
  refine go_icmp_eq (tgt := 1214) K dL_law_1068 (by decide) (fun _ => kk) (fun hc => absurd rfl hc)
set_option maxHeartbeats 4000000 in
set_option maxRecDepth 100000 in
theorem law_neck {p : Program} {l : Launch} {e : Env} {s : State} {m : MethodId} {below : List Frame} {meth : Method} {c : Code} {G : GT} {b L : Nat} {xs : Nat → Int32} (K : Kx p s m #[Value.ref b] meth c cL_law 4 RL G) (hX : va_X b L xs s s.heap) (hbl : b < s.heap.size) (hbA : ¬ Fr G b) (hL : L ≤ 3584) {i : Nat} (hi : i + 7 ≤ L) {C C' : CM} {O O' : OM} {r : Int32} (h1 : f_X11_neck (xs (i + 1)) (xs (i + 2)) C = some (r, C')) (h2 : f_X12_neck (xs (i + 1)) (xs (i + 2)) O = some (r, O')) (kk : GOg p l e room_1 600000 7302250 s m #[Value.ref b] below meth c (lw_Z below #[Value.ref b] s) G 4 (Wl G (C', O')) 1214 [(0, .ref b), (1, .ref (gB G + 0)), (2, .ref (gB G + 446)), (3, .int (nI i))] ([])) : GOg p l e room_1 600000 7302250 s m #[Value.ref b] below meth c (lw_Z below #[Value.ref b] s) G 4 (Wl G (C, O)) 1073 [(0, .ref b), (1, .ref (gB G + 0)), (2, .ref (gB G + 446)), (3, .int (nI i))] ([]) := by
  refine go_aload_n K dL_law_1073 1 rfl rfl ?_
  refine go_aload_n K dL_law_1074 0 rfl rfl ?_
  refine go_iload_n K dL_law_1075 3 rfl rfl ?_
  refine go_iconst (v := (1 : Int32)) K dL_law_1076 (by decide) ?_
  refine go_iadd K dL_law_1077 ?_
  refine go_sld (k := i + 1) K hX hbl hbA (law_ix rfl) (by omega) hL dL_law_1078 ?_
  refine go_aload_n K dL_law_1079 0 rfl rfl ?_
  refine go_iload_n K dL_law_1080 3 rfl rfl ?_
  refine go_iconst (v := (2 : Int32)) K dL_law_1081 (by decide) ?_
  refine go_iadd K dL_law_1082 ?_
  refine go_sld (k := i + 2) K hX hbl hbA (law_ix rfl) (by omega) hL dL_law_1083 ?_
  refine go_cVIg K (c_X11_neck l G _ _ C O r C' h1) cf_X11_neck cv_X11_neck km_L_130 rv_X11 ⟨by decide, by decide⟩ ⟨by decide, by decide⟩ rfl rfl (Nat.le_of_ble_eq_true rfl) dL_law_1084 ?_
  refine go_aload_n K dL_law_1087 2 rfl rfl ?_
  refine go_aload_n K dL_law_1088 0 rfl rfl ?_
  refine go_iload_n K dL_law_1089 3 rfl rfl ?_
  refine go_iconst (v := (1 : Int32)) K dL_law_1090 (by decide) ?_
  refine go_iadd K dL_law_1091 ?_
  refine go_sld (k := i + 1) K hX hbl hbA (law_ix rfl) (by omega) hL dL_law_1092 ?_
  refine go_aload_n K dL_law_1093 0 rfl rfl ?_
  refine go_iload_n K dL_law_1094 3 rfl rfl ?_
  refine go_iconst (v := (2 : Int32)) K dL_law_1095 (by decide) ?_
  refine go_iadd K dL_law_1096 ?_
  refine go_sld (k := i + 2) K hX hbl hbA (law_ix rfl) (by omega) hL dL_law_1097 ?_
  refine go_cVIg K (c_X12_neck l G _ _ C'  O r O' h2) cf_X12_neck cv_X12_neck km_L_134 rv_X12 ⟨by decide, by decide⟩ ⟨by decide, by decide⟩ rfl rfl (Nat.le_of_ble_eq_true rfl) dL_law_1098 ?_
  refine go_icmp_eq (tgt := 1214) K dL_law_1101 (by decide) (fun _ => kk) (fun hc => absurd rfl hc)
set_option maxHeartbeats 4000000 in
set_option maxRecDepth 100000 in
theorem law_explained {p : Program} {l : Launch} {e : Env} {s : State} {m : MethodId} {below : List Frame} {meth : Method} {c : Code} {G : GT} {b L : Nat} {xs : Nat → Int32} (K : Kx p s m #[Value.ref b] meth c cL_law 4 RL G) (hX : va_X b L xs s s.heap) (hbl : b < s.heap.size) (hbA : ¬ Fr G b) (hL : L ≤ 3584) {i : Nat} (hi : i + 7 ≤ L) {C C' : CM} {O O' : OM} {r : Int32} (h1 : f_X11_explained C = some (r, C')) (h2 : f_X12_explained O = some r) (kk : GOg p l e room_1 600000 7302250 s m #[Value.ref b] below meth c (lw_Z below #[Value.ref b] s) G 4 (Wl G (C', O)) 1214 [(0, .ref b), (1, .ref (gB G + 0)), (2, .ref (gB G + 446)), (3, .int (nI i))] ([])) : GOg p l e room_1 600000 7302250 s m #[Value.ref b] below meth c (lw_Z below #[Value.ref b] s) G 4 (Wl G (C, O)) 1106 [(0, .ref b), (1, .ref (gB G + 0)), (2, .ref (gB G + 446)), (3, .int (nI i))] ([]) := by
  refine go_aload_n K dL_law_1106 1 rfl rfl ?_
  refine go_cVIg K (c_X11_explained l G C O r C' h1) cf_X11_explained cv_X11_explained km_L_135 rv_X11 ⟨by decide, by decide⟩ ⟨by decide, by decide⟩ rfl rfl (Nat.le_of_ble_eq_true rfl) dL_law_1107 ?_
  refine go_aload_n K dL_law_1110 2 rfl rfl ?_
  refine go_cVIg K (c_X12_explained l G C'  O r h2) cf_X12_explained cv_X12_explained km_L_138 rv_X12 ⟨by decide, by decide⟩ ⟨by decide, by decide⟩ rfl rfl (Nat.le_of_ble_eq_true rfl) dL_law_1111 ?_
  refine go_icmp_eq (tgt := 1214) K dL_law_1114 (by decide) (fun _ => kk) (fun hc => absurd rfl hc)
set_option maxHeartbeats 4000000 in
set_option maxRecDepth 100000 in
theorem law_sure {p : Program} {l : Launch} {e : Env} {s : State} {m : MethodId} {below : List Frame} {meth : Method} {c : Code} {G : GT} {b L : Nat} {xs : Nat → Int32} (K : Kx p s m #[Value.ref b] meth c cL_law 4 RL G) (hX : va_X b L xs s s.heap) (hbl : b < s.heap.size) (hbA : ¬ Fr G b) (hL : L ≤ 3584) {i : Nat} (hi : i + 7 ≤ L) {C C' : CM} {O O' : OM} {r : Int32} (h1 : f_X11_sure (xs (i + 1)) (xs (i + 2)) C = some (r, C')) (h2 : f_X12_sure (xs (i + 1)) (xs (i + 2)) O = some r) (kk : GOg p l e room_1 600000 7302250 s m #[Value.ref b] below meth c (lw_Z below #[Value.ref b] s) G 4 (Wl G (C', O)) 1214 [(0, .ref b), (1, .ref (gB G + 0)), (2, .ref (gB G + 446)), (3, .int (nI i))] ([])) : GOg p l e room_1 600000 7302250 s m #[Value.ref b] below meth c (lw_Z below #[Value.ref b] s) G 4 (Wl G (C, O)) 1119 [(0, .ref b), (1, .ref (gB G + 0)), (2, .ref (gB G + 446)), (3, .int (nI i))] ([]) := by
  refine go_aload_n K dL_law_1119 1 rfl rfl ?_
  refine go_aload_n K dL_law_1120 0 rfl rfl ?_
  refine go_iload_n K dL_law_1121 3 rfl rfl ?_
  refine go_iconst (v := (1 : Int32)) K dL_law_1122 (by decide) ?_
  refine go_iadd K dL_law_1123 ?_
  refine go_sld (k := i + 1) K hX hbl hbA (law_ix rfl) (by omega) hL dL_law_1124 ?_
  refine go_aload_n K dL_law_1125 0 rfl rfl ?_
  refine go_iload_n K dL_law_1126 3 rfl rfl ?_
  refine go_iconst (v := (2 : Int32)) K dL_law_1127 (by decide) ?_
  refine go_iadd K dL_law_1128 ?_
  refine go_sld (k := i + 2) K hX hbl hbA (law_ix rfl) (by omega) hL dL_law_1129 ?_
  refine go_cVIg K (c_X11_sure l G _ _ C O r C' h1) cf_X11_sure cv_X11_sure km_L_139 rv_X11 ⟨by decide, by decide⟩ ⟨by decide, by decide⟩ rfl rfl (Nat.le_of_ble_eq_true rfl) dL_law_1130 ?_
  refine go_aload_n K dL_law_1133 2 rfl rfl ?_
  refine go_aload_n K dL_law_1134 0 rfl rfl ?_
  refine go_iload_n K dL_law_1135 3 rfl rfl ?_
  refine go_iconst (v := (1 : Int32)) K dL_law_1136 (by decide) ?_
  refine go_iadd K dL_law_1137 ?_
  refine go_sld (k := i + 1) K hX hbl hbA (law_ix rfl) (by omega) hL dL_law_1138 ?_
  refine go_aload_n K dL_law_1139 0 rfl rfl ?_
  refine go_iload_n K dL_law_1140 3 rfl rfl ?_
  refine go_iconst (v := (2 : Int32)) K dL_law_1141 (by decide) ?_
  refine go_iadd K dL_law_1142 ?_
  refine go_sld (k := i + 2) K hX hbl hbA (law_ix rfl) (by omega) hL dL_law_1143 ?_
  refine go_cVIg K (c_X12_sure l G _ _ C'  O r h2) cf_X12_sure cv_X12_sure km_L_142 rv_X12 ⟨by decide, by decide⟩ ⟨by decide, by decide⟩ rfl rfl (Nat.le_of_ble_eq_true rfl) dL_law_1144 ?_
  refine go_icmp_eq (tgt := 1214) K dL_law_1147 (by decide) (fun _ => kk) (fun hc => absurd rfl hc)
set_option maxHeartbeats 4000000 in
set_option maxRecDepth 100000 in
theorem law_corner {p : Program} {l : Launch} {e : Env} {s : State} {m : MethodId} {below : List Frame} {meth : Method} {c : Code} {G : GT} {b L : Nat} {xs : Nat → Int32} (K : Kx p s m #[Value.ref b] meth c cL_law 4 RL G) (hX : va_X b L xs s s.heap) (hbl : b < s.heap.size) (hbA : ¬ Fr G b) (hL : L ≤ 3584) {i : Nat} (hi : i + 7 ≤ L) {C C' : CM} {O O' : OM} {r : Int32} (h1 : f_X11_corner C = some (r, C')) (h2 : f_X12_corner O = some r) (kk : GOg p l e room_1 600000 7302250 s m #[Value.ref b] below meth c (lw_Z below #[Value.ref b] s) G 4 (Wl G (C', O)) 1214 [(0, .ref b), (1, .ref (gB G + 0)), (2, .ref (gB G + 446)), (3, .int (nI i))] ([])) : GOg p l e room_1 600000 7302250 s m #[Value.ref b] below meth c (lw_Z below #[Value.ref b] s) G 4 (Wl G (C, O)) 1152 [(0, .ref b), (1, .ref (gB G + 0)), (2, .ref (gB G + 446)), (3, .int (nI i))] ([]) := by
  refine go_aload_n K dL_law_1152 1 rfl rfl ?_
  refine go_cVIg K (c_X11_corner l G C O r C' h1) cf_X11_corner cv_X11_corner km_L_143 rv_X11 ⟨by decide, by decide⟩ ⟨by decide, by decide⟩ rfl rfl (Nat.le_of_ble_eq_true rfl) dL_law_1153 ?_
  refine go_aload_n K dL_law_1156 2 rfl rfl ?_
  refine go_cVIg K (c_X12_corner l G C'  O r h2) cf_X12_corner cv_X12_corner km_L_146 rv_X12 ⟨by decide, by decide⟩ ⟨by decide, by decide⟩ rfl rfl (Nat.le_of_ble_eq_true rfl) dL_law_1157 ?_
  refine go_icmp_eq (tgt := 1214) K dL_law_1160 (by decide) (fun _ => kk) (fun hc => absurd rfl hc)
set_option maxHeartbeats 4000000 in
set_option maxRecDepth 100000 in
theorem law_image {p : Program} {l : Launch} {e : Env} {s : State} {m : MethodId} {below : List Frame} {meth : Method} {c : Code} {G : GT} {b L : Nat} {xs : Nat → Int32} (K : Kx p s m #[Value.ref b] meth c cL_law 4 RL G) (hX : va_X b L xs s s.heap) (hbl : b < s.heap.size) (hbA : ¬ Fr G b) (hL : L ≤ 3584) {i : Nat} (hi : i + 7 ≤ L) {C C' : CM} {O O' : OM} {r : Int32} (h1 : f_X11_image C = some (r, C')) (h2 : f_X12_image O = some (r, O')) (kk : GOg p l e room_1 600000 7302250 s m #[Value.ref b] below meth c (lw_Z below #[Value.ref b] s) G 4 (Wl G (C', O')) 1214 [(0, .ref b), (1, .ref (gB G + 0)), (2, .ref (gB G + 446)), (3, .int (nI i))] ([])) : GOg p l e room_1 600000 7302250 s m #[Value.ref b] below meth c (lw_Z below #[Value.ref b] s) G 4 (Wl G (C, O)) 1165 [(0, .ref b), (1, .ref (gB G + 0)), (2, .ref (gB G + 446)), (3, .int (nI i))] ([]) := by
  refine go_aload_n K dL_law_1165 1 rfl rfl ?_
  refine go_cVIg K (c_X11_image l G C O r C' h1) cf_X11_image cv_X11_image km_L_147 rv_X11 ⟨by decide, by decide⟩ ⟨by decide, by decide⟩ rfl rfl (Nat.le_of_ble_eq_true rfl) dL_law_1166 ?_
  refine go_aload_n K dL_law_1169 2 rfl rfl ?_
  refine go_cVIg K (c_X12_image l G C'  O r O' h2) cf_X12_image cv_X12_image km_L_150 rv_X12 ⟨by decide, by decide⟩ ⟨by decide, by decide⟩ rfl rfl (Nat.le_of_ble_eq_true rfl) dL_law_1170 ?_
  refine go_icmp_eq (tgt := 1214) K dL_law_1173 (by decide) (fun _ => kk) (fun hc => absurd rfl hc)
set_option maxHeartbeats 4000000 in
set_option maxRecDepth 100000 in
theorem law_back {p : Program} {l : Launch} {e : Env} {s : State} {m : MethodId} {below : List Frame} {meth : Method} {c : Code} {G : GT} {b L : Nat} {xs : Nat → Int32} (K : Kx p s m #[Value.ref b] meth c cL_law 4 RL G) (hX : va_X b L xs s s.heap) (hbl : b < s.heap.size) (hbA : ¬ Fr G b) (hL : L ≤ 3584) {i : Nat} (hi : i + 7 ≤ L) {C C' : CM} {O O' : OM} {r : Int32} (h1 : f_X11_back C = some (r, C')) (h2 : f_X12_back O = some (r, O')) (kk : GOg p l e room_1 600000 7302250 s m #[Value.ref b] below meth c (lw_Z below #[Value.ref b] s) G 4 (Wl G (C', O')) 1214 [(0, .ref b), (1, .ref (gB G + 0)), (2, .ref (gB G + 446)), (3, .int (nI i))] ([])) : GOg p l e room_1 600000 7302250 s m #[Value.ref b] below meth c (lw_Z below #[Value.ref b] s) G 4 (Wl G (C, O)) 1178 [(0, .ref b), (1, .ref (gB G + 0)), (2, .ref (gB G + 446)), (3, .int (nI i))] ([]) := by
  refine go_aload_n K dL_law_1178 1 rfl rfl ?_
  refine go_cVIg K (c_X11_back l G C O r C' h1) cf_X11_back cv_X11_back km_L_151 rv_X11 ⟨by decide, by decide⟩ ⟨by decide, by decide⟩ rfl rfl (Nat.le_of_ble_eq_true rfl) dL_law_1179 ?_
  refine go_aload_n K dL_law_1182 2 rfl rfl ?_
  refine go_cVIg K (c_X12_back l G C'  O r O' h2) cf_X12_back cv_X12_back km_L_154 rv_X12 ⟨by decide, by decide⟩ ⟨by decide, by decide⟩ rfl rfl (Nat.le_of_ble_eq_true rfl) dL_law_1183 ?_
  refine go_icmp_eq (tgt := 1214) K dL_law_1186 (by decide) (fun _ => kk) (fun hc => absurd rfl hc)
set_option maxHeartbeats 4000000 in
set_option maxRecDepth 100000 in
theorem law_about {p : Program} {l : Launch} {e : Env} {s : State} {m : MethodId} {below : List Frame} {meth : Method} {c : Code} {G : GT} {b L : Nat} {xs : Nat → Int32} (K : Kx p s m #[Value.ref b] meth c cL_law 4 RL G) (hX : va_X b L xs s s.heap) (hbl : b < s.heap.size) (hbA : ¬ Fr G b) (hL : L ≤ 3584) {i : Nat} (hi : i + 7 ≤ L) {C C' : CM} {O O' : OM} {r : Int32} (h1 : f_X11_about (xs (i + 1)) C = r) (h2 : f_X12_about (xs (i + 1)) O = some r) (kk : GOg p l e room_1 600000 7302250 s m #[Value.ref b] below meth c (lw_Z below #[Value.ref b] s) G 4 (Wl G (C, O)) 1214 [(0, .ref b), (1, .ref (gB G + 0)), (2, .ref (gB G + 446)), (3, .int (nI i))] ([])) : GOg p l e room_1 600000 7302250 s m #[Value.ref b] below meth c (lw_Z below #[Value.ref b] s) G 4 (Wl G (C, O)) 1191 [(0, .ref b), (1, .ref (gB G + 0)), (2, .ref (gB G + 446)), (3, .int (nI i))] ([]) := by
  refine go_aload_n K dL_law_1191 1 rfl rfl ?_
  refine go_aload_n K dL_law_1192 0 rfl rfl ?_
  refine go_iload_n K dL_law_1193 3 rfl rfl ?_
  refine go_iconst (v := (1 : Int32)) K dL_law_1194 (by decide) ?_
  refine go_iadd K dL_law_1195 ?_
  refine go_sld (k := i + 1) K hX hbl hbA (law_ix rfl) (by omega) hL dL_law_1196 ?_
  refine go_cVIg K (c_X11_about l G _ C O r h1) cf_X11_about cv_X11_about km_L_155 rv_X11 ⟨by decide, by decide⟩ ⟨by decide, by decide⟩ rfl rfl (Nat.le_of_ble_eq_true rfl) dL_law_1197 ?_
  refine go_aload_n K dL_law_1200 2 rfl rfl ?_
  refine go_aload_n K dL_law_1201 0 rfl rfl ?_
  refine go_iload_n K dL_law_1202 3 rfl rfl ?_
  refine go_iconst (v := (1 : Int32)) K dL_law_1203 (by decide) ?_
  refine go_iadd K dL_law_1204 ?_
  refine go_sld (k := i + 1) K hX hbl hbA (law_ix rfl) (by omega) hL dL_law_1205 ?_
  refine go_cVIg K (c_X12_about l G _ C  O r h2) cf_X12_about cv_X12_about km_L_158 rv_X12 ⟨by decide, by decide⟩ ⟨by decide, by decide⟩ rfl rfl (Nat.le_of_ble_eq_true rfl) dL_law_1206 ?_
  refine go_icmp_eq (tgt := 1214) K dL_law_1209 (by decide) (fun _ => kk) (fun hc => absurd rfl hc)
set_option maxHeartbeats 4000000 in
set_option maxRecDepth 100000 in
theorem law_loop {p : Program} {l : Launch} {e : Env} {s : State} {m : MethodId} {below : List Frame} {meth : Method} {c : Code} {G : GT} {b L : Nat} {xs : Nat → Int32} (K : Kx p s m #[Value.ref b] meth c cL_law 4 RL G) (hr : meth.sig.returnType = ret) (hX : va_X b L xs s s.heap) (hbl : b < s.heap.size) (hbA : ¬ Fr G b) (hL : L ≤ 3584) (hG : s.heap.size ≤ gB G) (Rel : CM → OM → Prop) (hops : Ops Rel) : ∀ (n i : Nat) (C : CM) (O : OM), Rel C O → i ≤ L → L + 1 ≤ i + n → GOg p l e room_1 600000 7302250 s m #[Value.ref b] below meth c (lw_Z below #[Value.ref b] s) G 4 (Wl G (C, O)) 18 [(0, .ref b), (1, .ref (gB G + 0)), (2, .ref (gB G + 446)), (3, .int (nI i))] ([]) := by
  obtain ⟨s_person, s_bow, s_owe, s_walk, s_feast, s_clear, s_hour, s_weeks, s_feed, s_end, s_text, s_fault, s_by, s_played, s_undo, s_of, s_two, s_more, s_book, s_foretold, s_indoors, s_first, s_whose, s_route, s_settled, s_lane, s_doors, s_neck, s_explained, s_sure, s_corner, s_image, s_back, s_about⟩ := hops
  intro n
  induction n with
  | zero => intro i C O _ h1 h2; omega
  | succ n ih =>
    intro i C O hRel hiL hn
    refine go_iload_n K dL_law_18 3 rfl rfl ?_
    refine go_aload_n K dL_law_19 0 rfl rfl ?_
    refine go_slen K hX hbl hbA dL_law_20 ?_
    refine go_bipush (v := (7 : Int32)) K dL_law_21 (by decide) ?_
    refine go_isub K dL_law_23 ?_
    have hsub : (nI L - 7).toInt = (L : Int) - 7 := pk_sub_toInt (b := 7) (by omega) (by omega)
    have hint : (nI i).toInt = (i : Int) := nI_toInt (by omega)
    refine go_icmp_gt (tgt := 1220) K dL_law_24 (by decide) (fun hc => ?_) (fun hc => ?_)
    · refine go_iconst (v := (1 : Int32)) K dL_law_1220 (by decide) ?_
      intro H o ls h1 h2 h3
      exact va_forget (fun q hq => Nat.le_trans hG (h2.2.2 q hq)) (lw_ret K.1 K.2.1 hr K.2.2.2.2.2.2 dL_law_1221)
    have hi : i + 7 ≤ L := by
      rw [Int32.lt_iff_toInt_lt, hsub, hint] at hc
      omega
    have next : ∀ (C : CM) (O : OM), Rel C O → GOg p l e room_1 600000 7302250 s m #[Value.ref b] below meth c (lw_Z below #[Value.ref b] s) G 4 (Wl G (C, O)) 1214 [(0, .ref b), (1, .ref (gB G + 0)), (2, .ref (gB G + 446)), (3, .int (nI i))] ([]) := by
      intro C O h
      refine go_iinc K dL_law_1214 3 rfl (v := nI (i + 7)) (law_ix (j := 7) rfl) (by decide) (lv' := [(3, .int (nI (i + 7))), (0, .ref b), (1, .ref (gB G + 0)), (2, .ref (gB G + 446))]) rfl ?_
      refine go_goto (tgt := 18) K dL_law_1217 (by decide) ?_
      exact go_sub [1, 2, 3, 0] rfl (ih (i + 7) C O h hi (by omega))
    refine go_aload_n K dL_law_27 0 rfl rfl ?_
    refine go_iload_n K dL_law_28 3 rfl rfl ?_
    refine go_sld (k := i) K hX hbl hbA rfl (by omega) hL dL_law_29 ?_
    refine go_bipush (v := (63 : Int32)) K dL_law_30 (by decide) ?_
    refine go_iand K dL_law_32 ?_
    by_cases c0 : xs i &&& 63 = (0 : Int32)
    · refine go_tableIn K dL_law_33 (by rw [c0]; decide) (by rw [c0]; decide) (off := 151) (by rw [c0]; decide) (tgt := 184) (by decide) ?_
      obtain ⟨r, C', O', h1, h2, h3⟩ := s_person C O hRel (xs (i + 1)) (xs (i + 2)) (xs (i + 3))
      exact law_person K hX hbl hbA hL hi h1 h2 (next _ _ h3)
    replace c0 := sw_ne c0 (k := 0) (by decide)
    by_cases c1 : xs i &&& 63 = (1 : Int32)
    · refine go_tableIn K dL_law_33 (by rw [c1]; decide) (by rw [c1]; decide) (off := 194) (by rw [c1]; decide) (tgt := 227) (by decide) ?_
      obtain ⟨r, C', O', h1, h2, h3⟩ := s_bow C O hRel (xs (i + 1)) (xs (i + 2))
      exact law_bow K hX hbl hbA hL hi h1 h2 (next _ _ h3)
    replace c1 := sw_ne c1 (k := 1) (by decide)
    by_cases c2 : xs i &&& 63 = (2 : Int32)
    · refine go_tableIn K dL_law_33 (by rw [c2]; decide) (by rw [c2]; decide) (off := 227) (by rw [c2]; decide) (tgt := 260) (by decide) ?_
      obtain ⟨r, C', O', h1, h2, h3⟩ := s_owe C O hRel (xs (i + 1)) (xs (i + 2)) (xs (i + 3))
      exact law_owe K hX hbl hbA hL hi h1 h2 (next _ _ h3)
    replace c2 := sw_ne c2 (k := 2) (by decide)
    by_cases c3 : xs i &&& 63 = (3 : Int32)
    · refine go_tableIn K dL_law_33 (by rw [c3]; decide) (by rw [c3]; decide) (off := 270) (by rw [c3]; decide) (tgt := 303) (by decide) ?_
      obtain ⟨r, C', O', h1, h2, h3⟩ := s_walk C O hRel (xs (i + 1)) (xs (i + 2))
      exact law_walk K hX hbl hbA hL hi h1 h2 (next _ _ h3)
    replace c3 := sw_ne c3 (k := 3) (by decide)
    by_cases c4 : xs i &&& 63 = (4 : Int32)
    · refine go_tableIn K dL_law_33 (by rw [c4]; decide) (by rw [c4]; decide) (off := 303) (by rw [c4]; decide) (tgt := 336) (by decide) ?_
      obtain ⟨r, C', O', h1, h2, h3⟩ := s_feast C O hRel
      exact law_feast K hX hbl hbA hL hi h1 h2 (next _ _ h3)
    replace c4 := sw_ne c4 (k := 4) (by decide)
    by_cases c5 : xs i &&& 63 = (5 : Int32)
    · refine go_tableIn K dL_law_33 (by rw [c5]; decide) (by rw [c5]; decide) (off := 316) (by rw [c5]; decide) (tgt := 349) (by decide) ?_
      obtain ⟨r, C', O', h1, h2, h3⟩ := s_clear C O hRel (xs (i + 1)) (xs (i + 2)) (xs (i + 3))
      exact law_clear K hX hbl hbA hL hi h1 h2 (next _ _ h3)
    replace c5 := sw_ne c5 (k := 5) (by decide)
    by_cases c6 : xs i &&& 63 = (6 : Int32)
    · refine go_tableIn K dL_law_33 (by rw [c6]; decide) (by rw [c6]; decide) (off := 359) (by rw [c6]; decide) (tgt := 392) (by decide) ?_
      obtain ⟨r, C', O', h1, h2, h3⟩ := s_hour C O hRel (xs (i + 1))
      exact law_hour K hX hbl hbA hL hi h1 h2 (next _ _ h3)
    replace c6 := sw_ne c6 (k := 6) (by decide)
    by_cases c7 : xs i &&& 63 = (7 : Int32)
    · refine go_tableIn K dL_law_33 (by rw [c7]; decide) (by rw [c7]; decide) (off := 382) (by rw [c7]; decide) (tgt := 415) (by decide) ?_
      obtain ⟨r, C', O', h1, h2, h3⟩ := s_weeks C O hRel (xs (i + 1)) (xs (i + 2))
      exact law_weeks K hX hbl hbA hL hi h1 h2 (next _ _ h3)
    replace c7 := sw_ne c7 (k := 7) (by decide)
    by_cases c8 : xs i &&& 63 = (8 : Int32)
    · refine go_tableIn K dL_law_33 (by rw [c8]; decide) (by rw [c8]; decide) (off := 415) (by rw [c8]; decide) (tgt := 448) (by decide) ?_
      obtain ⟨r, C', O', h1, h2, h3⟩ := s_feed C O hRel (xs (i + 1)) (xs (i + 2)) (xs (i + 3)) (xs (i + 4)) (xs (i + 5))
      exact law_feed K hX hbl hbA hL hi h1 h2 (next _ _ h3)
    replace c8 := sw_ne c8 (k := 8) (by decide)
    by_cases c9 : xs i &&& 63 = (9 : Int32)
    · refine go_tableIn K dL_law_33 (by rw [c9]; decide) (by rw [c9]; decide) (off := 478) (by rw [c9]; decide) (tgt := 511) (by decide) ?_
      obtain ⟨r, C', O', h1, h2, h3⟩ := s_end C O hRel (xs (i + 1))
      exact law_end K hX hbl hbA hL hi h1 h2 (next _ _ h3)
    replace c9 := sw_ne c9 (k := 9) (by decide)
    by_cases c10 : xs i &&& 63 = (10 : Int32)
    · refine go_tableIn K dL_law_33 (by rw [c10]; decide) (by rw [c10]; decide) (off := 501) (by rw [c10]; decide) (tgt := 534) (by decide) ?_
      obtain ⟨r, C', O', h1, h2, h3⟩ := s_text C O hRel
      exact law_text K hX hbl hbA hL hi h1 h2 (next _ _ h3)
    replace c10 := sw_ne c10 (k := 10) (by decide)
    by_cases c11 : xs i &&& 63 = (11 : Int32)
    · refine go_tableIn K dL_law_33 (by rw [c11]; decide) (by rw [c11]; decide) (off := 514) (by rw [c11]; decide) (tgt := 547) (by decide) ?_
      obtain ⟨r, h1, h2, h3⟩ := s_fault C O hRel (xs (i + 1))
      exact law_fault K hX hbl hbA hL hi (C' := C) (O' := O) h1 h2 (next _ _ h3)
    replace c11 := sw_ne c11 (k := 11) (by decide)
    by_cases c12 : xs i &&& 63 = (12 : Int32)
    · refine go_tableIn K dL_law_33 (by rw [c12]; decide) (by rw [c12]; decide) (off := 537) (by rw [c12]; decide) (tgt := 570) (by decide) ?_
      obtain ⟨r, C', O', h1, h2, h3⟩ := s_by C O hRel (xs (i + 1))
      exact law_by K hX hbl hbA hL hi h1 h2 (next _ _ h3)
    replace c12 := sw_ne c12 (k := 12) (by decide)
    by_cases c13 : xs i &&& 63 = (13 : Int32)
    · refine go_tableIn K dL_law_33 (by rw [c13]; decide) (by rw [c13]; decide) (off := 560) (by rw [c13]; decide) (tgt := 593) (by decide) ?_
      obtain ⟨r, C', O', h1, h2, h3⟩ := s_played C O hRel (xs (i + 1))
      exact law_played K hX hbl hbA hL hi h1 h2 (next _ _ h3)
    replace c13 := sw_ne c13 (k := 13) (by decide)
    by_cases c14 : xs i &&& 63 = (14 : Int32)
    · refine go_tableIn K dL_law_33 (by rw [c14]; decide) (by rw [c14]; decide) (off := 583) (by rw [c14]; decide) (tgt := 616) (by decide) ?_
      obtain ⟨r, C', O', h1, h2, h3⟩ := s_undo C O hRel
      exact law_undo K hX hbl hbA hL hi h1 h2 (next _ _ h3)
    replace c14 := sw_ne c14 (k := 14) (by decide)
    by_cases c15 : xs i &&& 63 = (15 : Int32)
    · refine go_tableIn K dL_law_33 (by rw [c15]; decide) (by rw [c15]; decide) (off := 596) (by rw [c15]; decide) (tgt := 629) (by decide) ?_
      obtain ⟨r, C', O', h1, h2, h3⟩ := s_of C O hRel (xs (i + 1)) (xs (i + 2))
      exact law_of K hX hbl hbA hL hi h1 h2 (next _ _ h3)
    replace c15 := sw_ne c15 (k := 15) (by decide)
    by_cases c16 : xs i &&& 63 = (16 : Int32)
    · refine go_tableIn K dL_law_33 (by rw [c16]; decide) (by rw [c16]; decide) (off := 629) (by rw [c16]; decide) (tgt := 662) (by decide) ?_
      obtain ⟨r, C', O', h1, h2, h3⟩ := s_two C O hRel (xs (i + 1)) (xs (i + 2)) (xs (i + 3))
      exact law_two K hX hbl hbA hL hi h1 h2 (next _ _ h3)
    replace c16 := sw_ne c16 (k := 16) (by decide)
    by_cases c17 : xs i &&& 63 = (17 : Int32)
    · refine go_tableIn K dL_law_33 (by rw [c17]; decide) (by rw [c17]; decide) (off := 672) (by rw [c17]; decide) (tgt := 705) (by decide) ?_
      obtain ⟨r, C', O', h1, h2, h3⟩ := s_more C O hRel (xs (i + 1)) (xs (i + 2)) (xs (i + 3))
      exact law_more K hX hbl hbA hL hi h1 h2 (next _ _ h3)
    replace c17 := sw_ne c17 (k := 17) (by decide)
    by_cases c18 : xs i &&& 63 = (18 : Int32)
    · refine go_tableIn K dL_law_33 (by rw [c18]; decide) (by rw [c18]; decide) (off := 715) (by rw [c18]; decide) (tgt := 748) (by decide) ?_
      obtain ⟨r, h1, h2, h3⟩ := s_book C O hRel (xs (i + 1)) (xs (i + 2))
      exact law_book K hX hbl hbA hL hi (C' := C) (O' := O) h1 h2 (next _ _ h3)
    replace c18 := sw_ne c18 (k := 18) (by decide)
    by_cases c19 : xs i &&& 63 = (19 : Int32)
    · refine go_tableIn K dL_law_33 (by rw [c19]; decide) (by rw [c19]; decide) (off := 748) (by rw [c19]; decide) (tgt := 781) (by decide) ?_
      obtain ⟨r, C', O', h1, h2, h3⟩ := s_foretold C O hRel (xs (i + 1)) (xs (i + 2)) (xs (i + 3))
      exact law_foretold K hX hbl hbA hL hi h1 h2 (next _ _ h3)
    replace c19 := sw_ne c19 (k := 19) (by decide)
    by_cases c20 : xs i &&& 63 = (20 : Int32)
    · refine go_tableIn K dL_law_33 (by rw [c20]; decide) (by rw [c20]; decide) (off := 791) (by rw [c20]; decide) (tgt := 824) (by decide) ?_
      obtain ⟨r, C', O', h1, h2, h3⟩ := s_indoors C O hRel (xs (i + 1)) (xs (i + 2))
      exact law_indoors K hX hbl hbA hL hi h1 h2 (next _ _ h3)
    replace c20 := sw_ne c20 (k := 20) (by decide)
    by_cases c21 : xs i &&& 63 = (21 : Int32)
    · refine go_tableIn K dL_law_33 (by rw [c21]; decide) (by rw [c21]; decide) (off := 824) (by rw [c21]; decide) (tgt := 857) (by decide) ?_
      obtain ⟨r, C', O', h1, h2, h3⟩ := s_first C O hRel (xs (i + 1))
      exact law_first K hX hbl hbA hL hi h1 h2 (next _ _ h3)
    replace c21 := sw_ne c21 (k := 21) (by decide)
    by_cases c22 : xs i &&& 63 = (22 : Int32)
    · refine go_tableIn K dL_law_33 (by rw [c22]; decide) (by rw [c22]; decide) (off := 847) (by rw [c22]; decide) (tgt := 880) (by decide) ?_
      obtain ⟨r, C', O', h1, h2, h3⟩ := s_whose C O hRel (xs (i + 1))
      exact law_whose K hX hbl hbA hL hi h1 h2 (next _ _ h3)
    replace c22 := sw_ne c22 (k := 22) (by decide)
    by_cases c23 : xs i &&& 63 = (23 : Int32)
    · refine go_tableIn K dL_law_33 (by rw [c23]; decide) (by rw [c23]; decide) (off := 870) (by rw [c23]; decide) (tgt := 903) (by decide) ?_
      obtain ⟨r, C', O', h1, h2, h3⟩ := s_route C O hRel (xs (i + 1)) (xs (i + 2))
      exact law_route K hX hbl hbA hL hi h1 h2 (next _ _ h3)
    replace c23 := sw_ne c23 (k := 23) (by decide)
    by_cases c24 : xs i &&& 63 = (24 : Int32)
    · refine go_tableIn K dL_law_33 (by rw [c24]; decide) (by rw [c24]; decide) (off := 903) (by rw [c24]; decide) (tgt := 936) (by decide) ?_
      obtain ⟨r, C', O', h1, h2, h3⟩ := s_settled C O hRel (xs (i + 1))
      exact law_settled K hX hbl hbA hL hi h1 h2 (next _ _ h3)
    replace c24 := sw_ne c24 (k := 24) (by decide)
    by_cases c25 : xs i &&& 63 = (25 : Int32)
    · refine go_tableIn K dL_law_33 (by rw [c25]; decide) (by rw [c25]; decide) (off := 942) (by rw [c25]; decide) (tgt := 975) (by decide) ?_
      obtain ⟨r, h1, h2, h3⟩ := s_lane C O hRel (xs (i + 1)) (xs (i + 2)) (xs (i + 3)) (xs (i + 4)) (xs (i + 5)) (xs (i + 6))
      exact law_lane K hX hbl hbA hL hi (C' := C) (O' := O) h1 h2 (next _ _ h3)
    replace c25 := sw_ne c25 (k := 25) (by decide)
    by_cases c26 : xs i &&& 63 = (26 : Int32)
    · refine go_tableIn K dL_law_33 (by rw [c26]; decide) (by rw [c26]; decide) (off := 1017) (by rw [c26]; decide) (tgt := 1050) (by decide) ?_
      obtain ⟨r, C', O', h1, h2, h3⟩ := s_doors C O hRel (xs (i + 1))
      exact law_doors K hX hbl hbA hL hi h1 h2 (next _ _ h3)
    replace c26 := sw_ne c26 (k := 26) (by decide)
    by_cases c27 : xs i &&& 63 = (27 : Int32)
    · refine go_tableIn K dL_law_33 (by rw [c27]; decide) (by rw [c27]; decide) (off := 1040) (by rw [c27]; decide) (tgt := 1073) (by decide) ?_
      obtain ⟨r, C', O', h1, h2, h3⟩ := s_neck C O hRel (xs (i + 1)) (xs (i + 2))
      exact law_neck K hX hbl hbA hL hi h1 h2 (next _ _ h3)
    replace c27 := sw_ne c27 (k := 27) (by decide)
    by_cases c28 : xs i &&& 63 = (28 : Int32)
    · refine go_tableIn K dL_law_33 (by rw [c28]; decide) (by rw [c28]; decide) (off := 1073) (by rw [c28]; decide) (tgt := 1106) (by decide) ?_
      obtain ⟨r, C', h1, h2, h3⟩ := s_explained C O hRel
      exact law_explained K hX hbl hbA hL hi (O' := O) h1 h2 (next _ _ h3)
    replace c28 := sw_ne c28 (k := 28) (by decide)
    by_cases c29 : xs i &&& 63 = (29 : Int32)
    · refine go_tableIn K dL_law_33 (by rw [c29]; decide) (by rw [c29]; decide) (off := 1086) (by rw [c29]; decide) (tgt := 1119) (by decide) ?_
      obtain ⟨r, C', h1, h2, h3⟩ := s_sure C O hRel (xs (i + 1)) (xs (i + 2))
      exact law_sure K hX hbl hbA hL hi (O' := O) h1 h2 (next _ _ h3)
    replace c29 := sw_ne c29 (k := 29) (by decide)
    by_cases c30 : xs i &&& 63 = (30 : Int32)
    · refine go_tableIn K dL_law_33 (by rw [c30]; decide) (by rw [c30]; decide) (off := 1119) (by rw [c30]; decide) (tgt := 1152) (by decide) ?_
      obtain ⟨r, C', h1, h2, h3⟩ := s_corner C O hRel
      exact law_corner K hX hbl hbA hL hi (O' := O) h1 h2 (next _ _ h3)
    replace c30 := sw_ne c30 (k := 30) (by decide)
    by_cases c31 : xs i &&& 63 = (31 : Int32)
    · refine go_tableIn K dL_law_33 (by rw [c31]; decide) (by rw [c31]; decide) (off := 1132) (by rw [c31]; decide) (tgt := 1165) (by decide) ?_
      obtain ⟨r, C', O', h1, h2, h3⟩ := s_image C O hRel
      exact law_image K hX hbl hbA hL hi h1 h2 (next _ _ h3)
    replace c31 := sw_ne c31 (k := 31) (by decide)
    by_cases c32 : xs i &&& 63 = (32 : Int32)
    · refine go_tableIn K dL_law_33 (by rw [c32]; decide) (by rw [c32]; decide) (off := 1145) (by rw [c32]; decide) (tgt := 1178) (by decide) ?_
      obtain ⟨r, C', O', h1, h2, h3⟩ := s_back C O hRel
      exact law_back K hX hbl hbA hL hi h1 h2 (next _ _ h3)
    replace c32 := sw_ne c32 (k := 32) (by decide)
    by_cases c33 : xs i &&& 63 = (33 : Int32)
    · refine go_tableIn K dL_law_33 (by rw [c33]; decide) (by rw [c33]; decide) (off := 1158) (by rw [c33]; decide) (tgt := 1191) (by decide) ?_
      obtain ⟨r, h1, h2, h3⟩ := s_about C O hRel (xs (i + 1))
      exact law_about K hX hbl hbA hL hi (C' := C) (O' := O) h1 h2 (next _ _ h3)
    replace c33 := sw_ne c33 (k := 33) (by decide)
    refine go_tableOut (tgt := 1214) K dL_law_33 (show (xs i &&& 63).toInt < 0 ∨ 33 < (xs i &&& 63).toInt from by omega) (by decide) ?_
    exact next C O hRel
