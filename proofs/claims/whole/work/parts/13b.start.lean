theorem tl_1 {w : Cond} (h : w ∈ tables_1_1) : w ∈ lw_tbl := List.mem_append_right _ (List.mem_append_left _ h)
theorem tl_2 {w : Cond} (h : w ∈ tables_1_2) : w ∈ lw_tbl := List.mem_append_right _ (List.mem_append_right _ (List.mem_append_left _ h))
theorem tl_3 {w : Cond} (h : w ∈ tables_1_3) : w ∈ lw_tbl := List.mem_append_right _ (List.mem_append_right _ (List.mem_append_right _ (List.mem_append_left _ h)))
theorem tl_4 {w : Cond} (h : w ∈ tables_1_4) : w ∈ lw_tbl := List.mem_append_right _ (List.mem_append_right _ (List.mem_append_right _ (List.mem_append_right _ (List.mem_append_left _ h))))
theorem tl_5 {w : Cond} (h : w ∈ tables_1_5) : w ∈ lw_tbl := List.mem_append_right _ (List.mem_append_right _ (List.mem_append_right _ (List.mem_append_right _ (List.mem_append_right _ (List.mem_append_left _ h)))))
theorem tl_6 {w : Cond} (h : w ∈ tables_1_6) : w ∈ lw_tbl := List.mem_append_right _ (List.mem_append_right _ (List.mem_append_right _ (List.mem_append_right _ (List.mem_append_right _ (List.mem_append_right _ (List.mem_append_left _ h))))))
theorem tl_7 {w : Cond} (h : w ∈ tables_1_7) : w ∈ lw_tbl := List.mem_append_right _ (List.mem_append_right _ (List.mem_append_right _ (List.mem_append_right _ (List.mem_append_right _ (List.mem_append_right _ (List.mem_append_right _ (List.mem_append_left _ h)))))))
theorem tl_8 {w : Cond} (h : w ∈ tables_1_8) : w ∈ lw_tbl := List.mem_append_right _ (List.mem_append_right _ (List.mem_append_right _ (List.mem_append_right _ (List.mem_append_right _ (List.mem_append_right _ (List.mem_append_right _ (List.mem_append_right _ (h))))))))
theorem nest_in : ∀ q ∈ nestL, Cond.methodLinkNest q.1 q.2.1 q.2.2 "BowsOwed" ∈ lw_tbl := List.forall_mem_cons.mpr ⟨tl_1 (List.mem_of_getElem? (i := 32) rfl), List.forall_mem_cons.mpr ⟨tl_1 (List.mem_of_getElem? (i := 55) rfl), List.forall_mem_cons.mpr ⟨tl_1 (List.mem_of_getElem? (i := 134) rfl), List.forall_mem_cons.mpr ⟨tl_1 (List.mem_of_getElem? (i := 207) rfl), List.forall_mem_cons.mpr ⟨tl_1 (List.mem_of_getElem? (i := 210) rfl), List.forall_mem_cons.mpr ⟨tl_2 (List.mem_of_getElem? (i := 4) rfl), List.forall_mem_cons.mpr ⟨tl_2 (List.mem_of_getElem? (i := 26) rfl), List.forall_mem_cons.mpr ⟨tl_2 (List.mem_of_getElem? (i := 52) rfl), List.forall_mem_cons.mpr ⟨tl_2 (List.mem_of_getElem? (i := 65) rfl), List.forall_mem_cons.mpr ⟨tl_2 (List.mem_of_getElem? (i := 137) rfl), List.forall_mem_cons.mpr ⟨tl_2 (List.mem_of_getElem? (i := 142) rfl), List.forall_mem_cons.mpr ⟨tl_2 (List.mem_of_getElem? (i := 191) rfl), List.forall_mem_cons.mpr ⟨tl_2 (List.mem_of_getElem? (i := 219) rfl), List.forall_mem_cons.mpr ⟨tl_2 (List.mem_of_getElem? (i := 224) rfl), List.forall_mem_cons.mpr ⟨tl_3 (List.mem_of_getElem? (i := 0) rfl), List.forall_mem_cons.mpr ⟨tl_3 (List.mem_of_getElem? (i := 17) rfl), List.forall_mem_cons.mpr ⟨tl_3 (List.mem_of_getElem? (i := 42) rfl), List.forall_mem_cons.mpr ⟨tl_3 (List.mem_of_getElem? (i := 161) rfl), List.forall_mem_cons.mpr ⟨tl_4 (List.mem_of_getElem? (i := 82) rfl), List.forall_mem_cons.mpr ⟨tl_4 (List.mem_of_getElem? (i := 87) rfl), List.forall_mem_cons.mpr ⟨tl_5 (List.mem_of_getElem? (i := 131) rfl), fun _ h => absurd h List.not_mem_nil⟩⟩⟩⟩⟩⟩⟩⟩⟩⟩⟩⟩⟩⟩⟩⟩⟩⟩⟩⟩⟩
theorem in_s0 : (Cond.stringRef RX8 59 tx0) ∈ lw_tbl := tl_3 (List.mem_of_getElem? (i := 197) rfl)
theorem in_s1 : (Cond.stringRef RX8 76 tx1) ∈ lw_tbl := tl_4 (List.mem_of_getElem? (i := 18) rfl)
theorem in_cs : (Cond.laysStatic "java/lang/String" "COMPACT_STRINGS" "Z") ∈ lw_tbl := tl_3 (List.mem_of_getElem? (i := 207) rfl)
theorem in_fm : (Cond.laysStatic "jdk/internal/util/Preconditions" "SIOOBE_FORMATTER" "Ljava/util/function/BiFunction;") ∈ lw_tbl := tl_3 (List.mem_of_getElem? (i := 223) rfl)
theorem in_as : (Cond.arrayOver (.object "BowsOwed$State")) ∈ lw_tbl := tl_1 (List.mem_of_getElem? (i := 104) rfl)
theorem in_ac : (Cond.arrayOver (.object "BowsOwed$Script")) ∈ lw_tbl := tl_1 (List.mem_of_getElem? (i := 162) rfl)
section GOM2
variable {p : Program} {l : Launch} {e : Env} {R : Room} {cells slots : Nat} {s : State} {m : MethodId} {args : Array Value} {below : List Frame} {meth : Method} {c : Code} {Q : State → Prop} {G : GT} {nL : Nat} {M : CM × OM} {E : Nat → va_E} {pc index : Nat} {lv : List (Nat × Value)} {rest : List Value} {cc : ByteArray} {own : String}
theorem cg_callM (K : Kc p s m args meth c cc nL own G) (hM : MCM l G E M) (hl : Cond.methodLink own index yX12_init ∈ TT) (hf : 4 ≤ R.frames) (hlo : 240 ≤ R.locals) (hroom : cells + 28 ≤ R.cells ∧ slots + 17996 ≤ R.slots) (hW : (rest.map fun v => v.category).sum ≤ 8) (hdg : decode cc pc = .ok (.invokespecial index, 3))
    (kk : GOg p l e R (cells + 28) (slots + 17996) s m args below meth c Q G nL (Wl G M) (pc + 3) lv rest) : GOg p l e R cells slots s m args below meth c Q G nL (CW G 447 E) pc lv (.ref (gB G + 446) :: rest) := by
  intro H o ls h1 h2 h3
  have hR : (rmC 3 28 17996).frames + 1 ≤ R.frames ∧ 8 + (2 + 11) + (rmC 3 28 17996).locals ≤ R.locals := ⟨hf, by show 8 + (2 + 11) + 60 * 3 ≤ R.locals; omega⟩
  refine va_callv (va_runI (As := []) ⟨K.1.1, K.1.2.1, K.1.2.2.1, K.1.2.2.2.1, K.1.2.2.2.2.1⟩ hM ⟨callB_of 0 K.1.2.2.2.2.1 (good_TT cf_X12_init.1) rfl rfl rfl (K.1.2.2.2.2.1 _ cf_X12_init.2.1) (K.1.2.2.2.2.1 _ hl) cf_X12_init.2.2.1 hR, rfl, K.1.2.2.2.2.1 _ ki_X12_init⟩ ⟨cB_blind G _ 447 E, cB_in K h1 h2 _⟩ rfl rfl h3.1 rfl (lv_room hW) hdg hroom) h2 (fun _ _ h => h) (fun _ h => h) (fun u t H1 o1 ht hvm hw hB hz hk hS => ?_)
  obtain rfl := hw
  rw [← ht] at hS ⊢
  exact kk t.heap o1 ls hB.1 hS h3
end GOM2
theorem eq_val {args : Array Value} {s : State} {t : Term} {v : Int32} (h : (Cond.eq t (.int v)).before args s = true) : t.eval args s none [] s = some (.int v) := by
  obtain ⟨y, h1, h2⟩ := Cond.eq_one (show (Cond.eq t (.int v)).holds args s none s [] = true from h)
  cases (show some (Value.int v) = some y from h2)
  exact h1
set_option maxHeartbeats 4000000 in
set_option maxRecDepth 100000 in
theorem start_of {p : Program} {e : Env} {s : State} {m : MethodId} {below : List Frame} {meth : Method} {c : Code} (l : Launch) {b L : Nat} {xs : Nat → Int32} (Rel : CM → OM → Prop) (hops : Ops Rel) (O1 : OM) (hcop : f_X12_copies 1 (OL 5) = some O1) (hrel : Rel C0 O1) (hL : L ≤ 3584) (CC : lw_At p s m meth c b L xs) : W p l e room_1 s m #[Value.ref b] below meth c s.heap [] 0 0 (lw_Z below #[Value.ref b] s) (entryFrame m ([Value.ref b] : List Value).toArray 4) := by
  obtain ⟨hx, hb, hr, hml, hown, hts, hX, hbl, hlocks, hgv⟩ := CC
  have hTT : ∀ w ∈ TT, w.before #[Value.ref b] s = true := fun w h => hts w (List.mem_filter.mp h).1
  have hKn0 := u_known (n := 6) hTT inX0 (hTT _ ka_X0)
  have hKn1 := u_known (n := 6) hTT inX1 (hTT _ ka_X1)
  have hKn2 := u_known (n := 6) hTT inX2 (hTT _ ka_X2)
  have hKn3 := u_known (n := 3) hTT inX3 (hTT _ ka_X3)
  have hKn4 := u_known (n := 5) hTT inX4 (hTT _ ka_X4)
  have hKn5 := u_known (n := 2) hTT inX5 (hTT _ ka_X5)
  have hKn6 := u_known (n := 7) hTT inX6 (hTT _ ka_X6)
  have hKn7 := u_known (n := 10) hTT inX7 (hTT _ ka_X7)
  have hKn8 := u_known (n := 6) hTT inX8 (hTT _ ka_X8)
  have hKn9 := u_known (n := 3) hTT inX9 (hTT _ ka_X9)
  have hKn10 := u_known (n := 7) hTT inX10 (hTT _ ka_X10)
  have hKn11 := u_known (n := 12) hTT inX11 (hTT _ ka_X11)
  have hKn12 := u_known (n := 46) hTT inX12 (hTT _ ka_X12)
  have hk : ∀ k : Nat, ∃ z : ClassId × (Nat → Nat), ∀ q : vw_C, vwCl[k]? = some q → u_Kn s q.1 q.2.1 q.2.2 z.1 z.2 := by
    intro k
    match k with
    | 0 => obtain ⟨a, b, h⟩ := hKn0; exact ⟨(a, b), fun q hq => by cases hq; exact h⟩
    | 1 => obtain ⟨a, b, h⟩ := hKn1; exact ⟨(a, b), fun q hq => by cases hq; exact h⟩
    | 2 => obtain ⟨a, b, h⟩ := hKn2; exact ⟨(a, b), fun q hq => by cases hq; exact h⟩
    | 3 => obtain ⟨a, b, h⟩ := hKn3; exact ⟨(a, b), fun q hq => by cases hq; exact h⟩
    | 4 => obtain ⟨a, b, h⟩ := hKn4; exact ⟨(a, b), fun q hq => by cases hq; exact h⟩
    | 5 => obtain ⟨a, b, h⟩ := hKn5; exact ⟨(a, b), fun q hq => by cases hq; exact h⟩
    | 6 => obtain ⟨a, b, h⟩ := hKn6; exact ⟨(a, b), fun q hq => by cases hq; exact h⟩
    | 7 => obtain ⟨a, b, h⟩ := hKn7; exact ⟨(a, b), fun q hq => by cases hq; exact h⟩
    | 8 => obtain ⟨a, b, h⟩ := hKn8; exact ⟨(a, b), fun q hq => by cases hq; exact h⟩
    | 9 => obtain ⟨a, b, h⟩ := hKn9; exact ⟨(a, b), fun q hq => by cases hq; exact h⟩
    | 10 => obtain ⟨a, b, h⟩ := hKn10; exact ⟨(a, b), fun q hq => by cases hq; exact h⟩
    | 11 => obtain ⟨a, b, h⟩ := hKn11; exact ⟨(a, b), fun q hq => by cases hq; exact h⟩
    | 12 => obtain ⟨a, b, h⟩ := hKn12; exact ⟨(a, b), fun q hq => by cases hq; exact h⟩
    | k + 13 => exact ⟨(0, fun _ => 0), fun q hq => by simp [vwCl] at hq⟩
  obtain ⟨f, hf⟩ := Classical.axiomOfChoice hk
  obtain ⟨cI, a1, a2⟩ := arr_known (hTT _ kr_1_46) (fun _ h => by cases h)
  obtain ⟨cB, b1, b2⟩ := arr_known (hTT _ kr_4_170) (fun _ h => by cases h)
  obtain ⟨cJ, c1, c2⟩ := arr_known (hTT _ kr_6_92) (fun _ h => by cases h)
  obtain ⟨cS, d1, d2⟩ := row_known (hts _ in_ac)
  obtain ⟨cT, e1, e2⟩ := row_known (hts _ in_as)
  have hA0 : ∀ a : Nat, a < s.heap.size → ¬ s.heap.size ≤ a := fun a h => Nat.not_le.mpr h
  obtain ⟨adK, adV, hS, hev⟩ := str_known (A := fun q => s.heap.size ≤ q) hgv hA0
  have hs := flat_of_before _ hgv
  obtain ⟨G, hG⟩ : ∃ G : GT, G = ((fun k => (f k).1, fun k => (f k).2), (fun k => match k with | 0 => cI | 1 => cB | 2 => cJ | 3 => cS | _ => cT), s.heap.size, adK, adV) := ⟨_, rfl⟩
  have hbase : gB G = s.heap.size := by rw [hG]
  have hxx : xx G s s.heap := by
    rw [hG]
    refine ⟨⟨fun k q hq => hf k q hq, fun k q hq => ?_⟩, fun q hq => va_Nw.of rfl (hts _ (nest_in q hq)), hS, vk_R.of (hts _ in_s0) (hev 0 (by decide)), vk_R.of (hts _ in_s1) (hev 1 (by decide)), va_Zof (hts _ in_cs) (hTT _ kj_J0) (eq_val (hs _ (by decide +kernel))) hA0, va_Zqof (hts _ in_fm) (hTT _ kj_J3) (hs _ (by decide +kernel)) hA0⟩
    match k, hq with
    | 0, hq => cases hq; exact ⟨a1, a2⟩
    | 1, hq => cases hq; exact ⟨b1, b2⟩
    | 2, hq => cases hq; exact ⟨c1, c2⟩
    | 3, hq => cases hq; exact ⟨d1, d2⟩
    | 4, hq => cases hq; exact ⟨e1, e2⟩
    | k + 5, hq => simp at hq
  clear hG
  have K : Kc p s m #[Value.ref b] meth c cL_law 4 RL G := ⟨⟨hx, hb, hml, hown, hTT, hxx, hlocks⟩, va_AO.of (hts _ in_as), va_AO.of (hts _ in_ac)⟩
  have hbA : ¬ Fr G b := by unfold Fr; rw [hbase]; omega
  have hl := lv_entry ([.ref b]) (n := 4) (Nat.le_of_ble_eq_true rfl)
  rw [lg_entry_eq]
  have main : GOg p l e room_1 0 0 s m #[Value.ref b] below meth c (lw_Z below #[Value.ref b] s) G 4 (CW G 0 (finG G)) 0 [(0, .ref b)] [] := by
    refine cg_new K inX11 tyX11 tyX11_ok kl_L_7 ka_X11 kj_X11 (ci := 11) rfl (fs := [.null, .null, .null, .null, .null, .null, .null, .null, .null, .null, .null, .null]) (fun j hj => by rcases (show j = 0 ∨ j = 1 ∨ j = 2 ∨ j = 3 ∨ j = 4 ∨ j = 5 ∨ j = 6 ∨ j = 7 ∨ j = 8 ∨ j = 9 ∨ j = 10 ∨ j = 11 by omega) with rfl | rfl | rfl | rfl | rfl | rfl | rfl | rfl | rfl | rfl | rfl | rfl <;> rfl) (Nat.le_of_ble_eq_true rfl) (Nat.le_of_ble_eq_true rfl) dL_law_0 ?_
    refine go_dup K.1 dL_law_3 rfl ?_
    refine cg_call K (As := []) (cc_X11 l G _ upE_eq) cf_X11_init ki_X11_init rfl (Or.inl km_L_9) (by decide) (by decide) ⟨Nat.le_of_ble_eq_true rfl, Nat.le_of_ble_eq_true rfl⟩ rfl rfl (Nat.le_of_ble_eq_true rfl) dL_law_4 ?_
    refine go_astore_n K.1 dL_law_7 rfl (by decide) (lv' := [(1, .ref (gB G + 0)), (0, .ref b)]) rfl ?_
    refine cg_new K inX12 tyX12 tyX12_ok kl_L_10 ka_X12 kj_X12 (ci := 12) rfl (fs := [.null, .null, .null, .int 0, .int 0, .int 0, .null, .null, .null, .null, .null, .null, .null, .null, .int 0, .int 0, .int 0, .int 0, .int 0, .int 0, .int 0, .int 0, .int 0, .null, .null, .int 0, .null, .null, .int 0, .null, .int 0, .int 0, .null, .null, .null, .null, .null, .int 0, .null, .null, .null, .null, .null, .int 0, .null, .null]) (fun j hj => by rcases (show j = 0 ∨ j = 1 ∨ j = 2 ∨ j = 3 ∨ j = 4 ∨ j = 5 ∨ j = 6 ∨ j = 7 ∨ j = 8 ∨ j = 9 ∨ j = 10 ∨ j = 11 ∨ j = 12 ∨ j = 13 ∨ j = 14 ∨ j = 15 ∨ j = 16 ∨ j = 17 ∨ j = 18 ∨ j = 19 ∨ j = 20 ∨ j = 21 ∨ j = 22 ∨ j = 23 ∨ j = 24 ∨ j = 25 ∨ j = 26 ∨ j = 27 ∨ j = 28 ∨ j = 29 ∨ j = 30 ∨ j = 31 ∨ j = 32 ∨ j = 33 ∨ j = 34 ∨ j = 35 ∨ j = 36 ∨ j = 37 ∨ j = 38 ∨ j = 39 ∨ j = 40 ∨ j = 41 ∨ j = 42 ∨ j = 43 ∨ j = 44 ∨ j = 45 by omega) with rfl | rfl | rfl | rfl | rfl | rfl | rfl | rfl | rfl | rfl | rfl | rfl | rfl | rfl | rfl | rfl | rfl | rfl | rfl | rfl | rfl | rfl | rfl | rfl | rfl | rfl | rfl | rfl | rfl | rfl | rfl | rfl | rfl | rfl | rfl | rfl | rfl | rfl | rfl | rfl | rfl | rfl | rfl | rfl | rfl | rfl <;> rfl) (Nat.le_of_ble_eq_true rfl) (Nat.le_of_ble_eq_true rfl) dL_law_8 ?_
    refine go_dup K.1 dL_law_11 rfl ?_
    refine cg_callM K (cc_X12 l G _ upE_eq (fun j hj => (upE_ne (by omega)).trans (if_pos (by omega))) O1 hcop) km_L_12 (by decide) (by decide) ⟨Nat.le_of_ble_eq_true rfl, Nat.le_of_ble_eq_true rfl⟩ (Nat.le_of_ble_eq_true rfl) dL_law_12 ?_
    refine go_astore_n K.1 dL_law_15 rfl (by decide) (lv' := [(2, .ref (gB G + 446)), (1, .ref (gB G + 0)), (0, .ref b)]) rfl ?_
    refine go_iconst (v := nI 0) K.1 dL_law_16 (by decide) ?_
    refine go_istore_n K.1 dL_law_17 rfl (by decide) (lv' := [(3, .int (nI 0)), (2, .ref (gB G + 446)), (1, .ref (gB G + 0)), (0, .ref b)]) rfl ?_
    intro H o ls h1 h2 h3
    refine W.widen (k := 600000) (n := 7302250) (Nat.le_of_ble_eq_true rfl) (Nat.le_of_ble_eq_true rfl) ?_
    exact law_loop K.1 hr hX hbl hbA hL (Nat.le_of_eq hbase.symm) Rel hops (L + 1) 0 C0 O1 hrel (Nat.zero_le _) (by omega) H o ls h1 h2 (lv_sub h3 [3, 2, 1, 0] rfl)
  exact main s.heap [] _ ⟨hbase.symm, fun i hi => absurd hi (Nat.not_lt_zero _)⟩ va_S.rf hl
