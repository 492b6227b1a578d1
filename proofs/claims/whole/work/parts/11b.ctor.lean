def FinFrom (G : GT) (F : Nat → va_E) (n0 : Nat) : Prop := ∀ j, n0 ≤ j → F j = finG G j
theorem upE_eq {F : Nat → va_E} {i : Nat} {e : va_E} : upE F i e i = e := if_pos rfl
theorem upE_ne {F : Nat → va_E} {i j : Nat} {e : va_E} (h : j ≠ i) : upE F i e j = F j := if_neg h
theorem ff_fin {G : GT} {E : Nat → va_E} {i n : Nat} : FinFrom G (finE G E i n) n := fun j h => if_pos (Or.inr h)
theorem ff_up {G : GT} {F : Nat → va_E} {i n m : Nat} {e : va_E} (h : FinFrom G F n) (hi : i < m) (hm : n ≤ m) : FinFrom G (upE F i e) m := fun j hj => (upE_ne (by omega)).trans (h j (by omega))
theorem nf_arr {G : GT} {F : Nat → va_E} {n0 n : Nat} {a : va_E} (hF : FinFrom G F n0) (hn : n0 ≤ n) (ha : a = finG G n) : ∀ j, j < n + 1 → upE F n a j = F j := by
  intro j hj
  by_cases h : j = n
  · subst h; rw [upE_eq, ha, hF _ hn]
  · exact upE_ne h
theorem nf_obj {G : GT} {F : Nat → va_E} {n0 n m k : Nat} {b : va_E} (hF : FinFrom G F n0) (hn : n0 ≤ n) (hm : n0 ≤ m) : ∀ j, j < k → finE G (upE F n b) n m j = F j := by
  intro j hj
  unfold finE
  by_cases h : j = n ∨ m ≤ j
  · rw [if_pos h]
    rcases h with h | h
    · rw [hF j (by omega)]
    · rw [hF j (by omega)]
  · rw [if_neg h]
    exact upE_ne (fun q => h (Or.inl q))
theorem nf_put {F : Nat → va_E} {i k : Nat} {e e' : va_E} : ∀ j, j < k → upE (upE F i e) i e' j = upE F i e' j := by
  intro j hj
  unfold upE
  by_cases h : j = i <;> simp [h]
theorem nf_put2 {F : Nat → va_E} {i a k : Nat} {e e' x : va_E} (hne : a ≠ i) : ∀ j, j < k → upE (upE (upE F i e) a x) i e' j = upE (upE F i e') a x j := by
  intro j hj
  unfold upE
  by_cases h : j = i
  · subst h; simp; intro q; exact absurd q.symm hne
  · simp [h]
theorem nf_start {G : GT} {E : Nat → va_E} {i n : Nat} {e : va_E} (hE : E i = e) : ∀ j, j < n → E j = upE (finE G E i n) i e j := by
  intro j hj
  by_cases h : j = i
  · subst h; exact hE.trans upE_eq.symm
  · rw [upE_ne h]; unfold finE; rw [if_neg (by omega)]
theorem nf_full {G : GT} {F : Nat → va_E} {n0 a k : Nat} {x : va_E} (hF : FinFrom G F n0) (hn : n0 ≤ a) (hx : x = finG G a) : ∀ j, j < k → upE F a x j = F j := by
  intro j hj
  by_cases h : j = a
  · subst h; rw [upE_eq, hx, hF _ hn]
  · exact upE_ne h
theorem nf_end {G : GT} {E : Nat → va_E} {i n k : Nat} {e : va_E} (he : e = finG G i) : ∀ j, j < k → upE (finE G E i n) i e j = finE G E i n j := by
  intro j hj
  by_cases h : j = i
  · subst h; rw [upE_eq, he]; unfold finE; rw [if_pos (Or.inl rfl)]
  · exact upE_ne h
theorem C0_arr {a n : Nat} (h : SH a = (20, n)) (hn : n ≠ 5) : C0 a = fun _ => 0 := by
  funext k; unfold C0; rw [h]; simp [hn]
theorem C0_st {i : Nat} (h : SH i = (3, 0)) (k : Nat) : C0 i k = if k = 3 then 97 else 0 := by unfold C0; rw [h]; rfl
theorem C0_sc {i : Nat} (h : SH i = (4, 0)) (k : Nat) : C0 i k = 0 := by unfold C0; rw [h]; rfl
theorem C0_wh {i : Nat} (h : SH i = (2, 0)) (k : Nat) : C0 i k = if k = 3 then -1 else 0 := by unfold C0; rw [h]; rfl
theorem fin_arr {G : GT} {a n : Nat} (h : SH a = (20, n)) (hn : n ≠ 5) : (.inl (G.2.1 0, n, .inl (fun _ => 0)) : va_E) = finG G a := by
  unfold finG; rw [cm20 h]; show _ = Sum.inl (G.2.1 0, n, Sum.inl (C0 a)); rw [C0_arr h hn]
theorem fin_marr {G : GT} {a n : Nat} (h : SH a = (21, n)) (ha : a ≠ 446) : (.inl (G.2.1 0, n, .inl (fun _ => 0)) : va_E) = finG G a := by
  unfold finG; rw [cm21 h]
  have e : O0.1 a = fun _ => 0 := by funext k; simp [O0, ha]
  show _ = Sum.inl (G.2.1 0, n, Sum.inl (O0.1 a))
  rw [e]
theorem fin_mbarr {G : GT} : (.inl (G.2.1 1, 300, .inl (fun _ => 0)) : va_E) = finG G 449 := rfl
theorem fin_mlarr {G : GT} : (.inl (G.2.1 2, 200, .inr (.inl (fun _ => 0))) : va_E) = finG G 472 := rfl
theorem fin_nk {G : GT} {w : Nat} (h : WhAt w) : (.inl (G.2.1 0, 5, .inl (upd (upd (upd (upd (upd (fun _ => 0) 0 (-1)) 1 (-1)) 2 (-1)) 3 (-1)) 4 (-1))) : va_E) = finG G (w + 7) := by
  unfold finG; rw [cm20 (wh_nk h)]
  have e : C0 (w + 7) = upd (upd (upd (upd (upd (fun _ => 0) 0 (-1)) 1 (-1)) 2 (-1)) 3 (-1)) 4 (-1) := by
    funext k
    unfold C0
    rw [wh_nk h]
    have hne : w + 7 ≠ 421 := by rcases h with rfl | rfl <;> decide
    show (if (5 : Nat) = 5 then (if w + 7 = 421 then (0 : Int32) else if k < 5 then -1 else 0) else 0) = _
    rw [if_pos rfl, if_neg hne]
    simp only [upd]
    by_cases h5 : k < 5
    · rcases (show k = 0 ∨ k = 1 ∨ k = 2 ∨ k = 3 ∨ k = 4 by omega) with rfl | rfl | rfl | rfl | rfl <;> rfl
    · simp [h5, show ¬ k = 4 by omega, show ¬ k = 3 by omega, show ¬ k = 2 by omega, show ¬ k = 1 by omega, show ¬ k = 0 by omega]
  show _ = Sum.inl (G.2.1 0, 5, Sum.inl (C0 (w + 7)))
  rw [e]
theorem fin_bent {G : GT} : (.inl (G.2.1 0, 5, .inl (fun _ => 0)) : va_E) = finG G 421 := by
  unfold finG; rw [cm20 (show SH 421 = (20, 5) from rfl)]
  have e : C0 421 = fun _ => 0 := by funext k; rfl
  show _ = Sum.inl (G.2.1 0, 5, Sum.inl (C0 421))
  rw [e]
theorem arr_congr {cA : ClassId} {n : Nat} {f g : Nat → Option Nat} (h : ∀ j, j < n → f j = g j) : vp_cell cA (n, .inr (.inr (.inr (.inr f)))) = vp_cell cA (n, .inr (.inr (.inr (.inr g)))) := by
  rw [vp_cell_q, vp_cell_q]
  unfold arrV
  congr 1
  apply Array.ext
  · simp
  · intro i h1 h2
    simp only [Array.size_map, Array.size_range] at h1 h2
    simp [h i (by simpa using h1)]

theorem cf_X7_init : CF yX7_init cX7_init 1 none 0 := ⟨kc_X7_init, kj_X7, ⟨by decide +kernel, by decide +kernel, by decide +kernel⟩, by decide⟩
set_option maxHeartbeats 4000000 in
set_option maxRecDepth 100000 in
theorem cc_X7 (l : Launch) (G : GT) {i : Nat} (hs : StAt i) (E : Nat → va_E) (hE : E i = .inr (7, [.int 0, .int 0, .int 0, .int 0, .int 0, .null, .null, .null, .null, .null])) : MC l G yX7_init cX7_init 1 5 160 2 [.ref (gB G + i)] (i + 1) E (i + 6) (finE G E i (i + 1)) := by
  unfold MC
  refine metc_in RX7 (by decide +kernel) rfl rfl [(0, .ref (gB G + i))] rfl (Nat.le_of_ble_eq_true rfl) ?_
  intro pM eM sM mM aM bM meM cM K hr hin
  refine cg_eq (E' := (upE (finE G E i (i + 1)) i (.inr (7, [.int 0, .int 0, .int 0, .int 0, .int 0, .null, .null, .null, .null, .null])))) (nf_start hE) ?_
  refine go_aload_n K.1 dX7_init_0 0 rfl rfl ?_
  refine cg_obj K km_X7_3 (by decide) (by decide) (Nat.le_of_ble_eq_true rfl) dX7_init_1 ?_
  refine go_aload_n K.1 dX7_init_4 0 rfl rfl ?_
  refine go_bipush (v := (97 : Int32)) K.1 dX7_init_5 (by decide) ?_
  refine cg_put K (i := i) (by omega) upE_eq rfl inX7 tyX7_ok nmX7 3 (by decide) kf_X7_9 (Or.inl rfl) rfl rfl (Nat.le_of_ble_eq_true rfl) dX7_init_7 ?_
  refine cg_eq (E' := (upE (finE G E i (i + 1)) i (.inr (7, [.int 0, .int 0, .int 0, .int (97 : Int32), .int 0, .null, .null, .null, .null, .null])))) nf_put ?_
  refine go_aload_n K.1 dX7_init_10 0 rfl rfl ?_
  refine go_bipush (v := (7 : Int32)) K.1 dX7_init_11 (by decide) ?_
  refine cg_newa K (atype := .int) kr_1_46 (t0 := 0) (cA := G.2.1 0) rfl (fun _ h => by cases h) (N := 7) (a0 := (7, .inl (fun _ => 0))) rfl (by decide) (by decide) (Nat.le_of_ble_eq_true rfl) (Nat.le_of_ble_eq_true rfl) (Nat.le_of_ble_eq_true rfl) dX7_init_13 ?_
  refine cg_eq (E' := (upE (finE G E i (i + 1)) i (.inr (7, [.int 0, .int 0, .int 0, .int (97 : Int32), .int 0, .null, .null, .null, .null, .null])))) (nf_arr (ff_up (m := (i + 1)) ff_fin (by omega) (by omega)) (by omega) (fin_arr (n := 7) (hs.2.2.1) (by decide))) ?_
  refine cg_put K (i := i) (by omega) upE_eq rfl inX7 tyX7_ok nmX7 5 (by decide) kf_X7_15 (Or.inr ⟨rfl, hin, rfl⟩) rfl rfl (Nat.le_of_ble_eq_true rfl) dX7_init_15 ?_
  refine cg_eq (E' := (upE (finE G E i (i + 1)) i (.inr (7, [.int 0, .int 0, .int 0, .int (97 : Int32), .int 0, .ref (gB G + (i + 1)), .null, .null, .null, .null])))) nf_put ?_
  refine go_aload_n K.1 dX7_init_18 0 rfl rfl ?_
  refine go_bipush (v := (7 : Int32)) K.1 dX7_init_19 (by decide) ?_
  refine cg_newa K (atype := .int) kr_1_46 (t0 := 0) (cA := G.2.1 0) rfl (fun _ h => by cases h) (N := 7) (a0 := (7, .inl (fun _ => 0))) rfl (by decide) (by decide) (Nat.le_of_ble_eq_true rfl) (Nat.le_of_ble_eq_true rfl) (Nat.le_of_ble_eq_true rfl) dX7_init_21 ?_
  refine cg_eq (E' := (upE (finE G E i (i + 1)) i (.inr (7, [.int 0, .int 0, .int 0, .int (97 : Int32), .int 0, .ref (gB G + (i + 1)), .null, .null, .null, .null])))) (nf_arr (ff_up (m := (i + 1)) ff_fin (by omega) (by omega)) (by omega) (fin_arr (n := 7) (hs.2.2.2.1) (by decide))) ?_
  refine cg_put K (i := i) (by omega) upE_eq rfl inX7 tyX7_ok nmX7 6 (by decide) kf_X7_19 (Or.inr ⟨rfl, hin, rfl⟩) rfl rfl (Nat.le_of_ble_eq_true rfl) dX7_init_23 ?_
  refine cg_eq (E' := (upE (finE G E i (i + 1)) i (.inr (7, [.int 0, .int 0, .int 0, .int (97 : Int32), .int 0, .ref (gB G + (i + 1)), .ref (gB G + (i + 2)), .null, .null, .null])))) nf_put ?_
  refine go_aload_n K.1 dX7_init_26 0 rfl rfl ?_
  refine go_bipush (v := (7 : Int32)) K.1 dX7_init_27 (by decide) ?_
  refine cg_newa K (atype := .int) kr_1_46 (t0 := 0) (cA := G.2.1 0) rfl (fun _ h => by cases h) (N := 7) (a0 := (7, .inl (fun _ => 0))) rfl (by decide) (by decide) (Nat.le_of_ble_eq_true rfl) (Nat.le_of_ble_eq_true rfl) (Nat.le_of_ble_eq_true rfl) dX7_init_29 ?_
  refine cg_eq (E' := (upE (finE G E i (i + 1)) i (.inr (7, [.int 0, .int 0, .int 0, .int (97 : Int32), .int 0, .ref (gB G + (i + 1)), .ref (gB G + (i + 2)), .null, .null, .null])))) (nf_arr (ff_up (m := (i + 1)) ff_fin (by omega) (by omega)) (by omega) (fin_arr (n := 7) (hs.2.2.2.2.1) (by decide))) ?_
  refine cg_put K (i := i) (by omega) upE_eq rfl inX7 tyX7_ok nmX7 7 (by decide) kf_X7_22 (Or.inr ⟨rfl, hin, rfl⟩) rfl rfl (Nat.le_of_ble_eq_true rfl) dX7_init_31 ?_
  refine cg_eq (E' := (upE (finE G E i (i + 1)) i (.inr (7, [.int 0, .int 0, .int 0, .int (97 : Int32), .int 0, .ref (gB G + (i + 1)), .ref (gB G + (i + 2)), .ref (gB G + (i + 3)), .null, .null])))) nf_put ?_
  refine go_aload_n K.1 dX7_init_34 0 rfl rfl ?_
  refine go_bipush (v := (49 : Int32)) K.1 dX7_init_35 (by decide) ?_
  refine cg_newa K (atype := .int) kr_1_46 (t0 := 0) (cA := G.2.1 0) rfl (fun _ h => by cases h) (N := 49) (a0 := (49, .inl (fun _ => 0))) rfl (by decide) (by decide) (Nat.le_of_ble_eq_true rfl) (Nat.le_of_ble_eq_true rfl) (Nat.le_of_ble_eq_true rfl) dX7_init_37 ?_
  refine cg_eq (E' := (upE (finE G E i (i + 1)) i (.inr (7, [.int 0, .int 0, .int 0, .int (97 : Int32), .int 0, .ref (gB G + (i + 1)), .ref (gB G + (i + 2)), .ref (gB G + (i + 3)), .null, .null])))) (nf_arr (ff_up (m := (i + 1)) ff_fin (by omega) (by omega)) (by omega) (fin_arr (n := 49) (hs.2.2.2.2.2.1) (by decide))) ?_
  refine cg_put K (i := i) (by omega) upE_eq rfl inX7 tyX7_ok nmX7 8 (by decide) kf_X7_25 (Or.inr ⟨rfl, hin, rfl⟩) rfl rfl (Nat.le_of_ble_eq_true rfl) dX7_init_39 ?_
  refine cg_eq (E' := (upE (finE G E i (i + 1)) i (.inr (7, [.int 0, .int 0, .int 0, .int (97 : Int32), .int 0, .ref (gB G + (i + 1)), .ref (gB G + (i + 2)), .ref (gB G + (i + 3)), .ref (gB G + (i + 4)), .null])))) nf_put ?_
  refine go_aload_n K.1 dX7_init_42 0 rfl rfl ?_
  refine go_bipush (v := (90 : Int32)) K.1 dX7_init_43 (by decide) ?_
  refine cg_newa K (atype := .int) kr_1_46 (t0 := 0) (cA := G.2.1 0) rfl (fun _ h => by cases h) (N := 90) (a0 := (90, .inl (fun _ => 0))) rfl (by decide) (by decide) (Nat.le_of_ble_eq_true rfl) (Nat.le_of_ble_eq_true rfl) (Nat.le_of_ble_eq_true rfl) dX7_init_45 ?_
  refine cg_eq (E' := (upE (finE G E i (i + 1)) i (.inr (7, [.int 0, .int 0, .int 0, .int (97 : Int32), .int 0, .ref (gB G + (i + 1)), .ref (gB G + (i + 2)), .ref (gB G + (i + 3)), .ref (gB G + (i + 4)), .null])))) (nf_arr (ff_up (m := (i + 1)) ff_fin (by omega) (by omega)) (by omega) (fin_arr (n := 90) (hs.2.2.2.2.2.2) (by decide))) ?_
  refine cg_put K (i := i) (by omega) upE_eq rfl inX7 tyX7_ok nmX7 9 (by decide) kf_X7_28 (Or.inr ⟨rfl, hin, rfl⟩) rfl rfl (Nat.le_of_ble_eq_true rfl) dX7_init_47 ?_
  refine cg_eq (E' := (upE (finE G E i (i + 1)) i (.inr (7, [.int 0, .int 0, .int 0, .int (97 : Int32), .int 0, .ref (gB G + (i + 1)), .ref (gB G + (i + 2)), .ref (gB G + (i + 3)), .ref (gB G + (i + 4)), .ref (gB G + (i + 5))])))) nf_put ?_
  exact cg_ret K hr (nf_end (by unfold finG cellM; rw [ce_X7 hs]; simp only [fsX, C0_st hs.2.1]; rfl)) dX7_init_50
theorem cf_X6_init : CF yX6_init cX6_init 1 none 0 := ⟨kc_X6_init, kj_X6, ⟨by decide +kernel, by decide +kernel, by decide +kernel⟩, by decide⟩
set_option maxHeartbeats 4000000 in
set_option maxRecDepth 100000 in
theorem cc_X6 (l : Launch) (G : GT) {i : Nat} (hs : ScAt i) (E : Nat → va_E) (hE : E i = .inr (6, [.null, .null, .null, .null, .null, .int 0, .int 0])) : MC l G yX6_init cX6_init 1 5 404 2 [.ref (gB G + i)] (i + 1) E (i + 6) (finE G E i (i + 1)) := by
  unfold MC
  refine metc_in RX6 (by decide +kernel) rfl rfl [(0, .ref (gB G + i))] rfl (Nat.le_of_ble_eq_true rfl) ?_
  intro pM eM sM mM aM bM meM cM K hr hin
  refine cg_eq (E' := (upE (finE G E i (i + 1)) i (.inr (6, [.null, .null, .null, .null, .null, .int 0, .int 0])))) (nf_start hE) ?_
  refine go_aload_n K.1 dX6_init_0 0 rfl rfl ?_
  refine cg_obj K km_X6_3 (by decide) (by decide) (Nat.le_of_ble_eq_true rfl) dX6_init_1 ?_
  refine go_aload_n K.1 dX6_init_4 0 rfl rfl ?_
  refine go_sipush (v := (300 : Int32)) K.1 dX6_init_5 (by decide) ?_
  refine cg_newa K (atype := .int) kr_1_46 (t0 := 0) (cA := G.2.1 0) rfl (fun _ h => by cases h) (N := 300) (a0 := (300, .inl (fun _ => 0))) rfl (by decide) (by decide) (Nat.le_of_ble_eq_true rfl) (Nat.le_of_ble_eq_true rfl) (Nat.le_of_ble_eq_true rfl) dX6_init_8 ?_
  refine cg_eq (E' := (upE (finE G E i (i + 1)) i (.inr (6, [.null, .null, .null, .null, .null, .int 0, .int 0])))) (nf_arr (ff_up (m := (i + 1)) ff_fin (by omega) (by omega)) (by omega) (fin_arr (n := 300) (hs.2.2.1) (by decide))) ?_
  refine cg_put K (i := i) (by omega) upE_eq rfl inX6 tyX6_ok nmX6 0 (by decide) kf_X6_9 (Or.inr ⟨rfl, hin, rfl⟩) rfl rfl (Nat.le_of_ble_eq_true rfl) dX6_init_10 ?_
  refine cg_eq (E' := (upE (finE G E i (i + 1)) i (.inr (6, [.ref (gB G + (i + 1)), .null, .null, .null, .null, .int 0, .int 0])))) nf_put ?_
  refine go_aload_n K.1 dX6_init_13 0 rfl rfl ?_
  refine go_iconst (v := (4 : Int32)) K.1 dX6_init_14 (by decide) ?_
  refine cg_newa K (atype := .int) kr_1_46 (t0 := 0) (cA := G.2.1 0) rfl (fun _ h => by cases h) (N := 4) (a0 := (4, .inl (fun _ => 0))) rfl (by decide) (by decide) (Nat.le_of_ble_eq_true rfl) (Nat.le_of_ble_eq_true rfl) (Nat.le_of_ble_eq_true rfl) dX6_init_15 ?_
  refine cg_eq (E' := (upE (finE G E i (i + 1)) i (.inr (6, [.ref (gB G + (i + 1)), .null, .null, .null, .null, .int 0, .int 0])))) (nf_arr (ff_up (m := (i + 1)) ff_fin (by omega) (by omega)) (by omega) (fin_arr (n := 4) (hs.2.2.2.1) (by decide))) ?_
  refine cg_put K (i := i) (by omega) upE_eq rfl inX6 tyX6_ok nmX6 1 (by decide) kf_X6_15 (Or.inr ⟨rfl, hin, rfl⟩) rfl rfl (Nat.le_of_ble_eq_true rfl) dX6_init_17 ?_
  refine cg_eq (E' := (upE (finE G E i (i + 1)) i (.inr (6, [.ref (gB G + (i + 1)), .ref (gB G + (i + 2)), .null, .null, .null, .int 0, .int 0])))) nf_put ?_
  refine go_aload_n K.1 dX6_init_20 0 rfl rfl ?_
  refine go_iconst (v := (4 : Int32)) K.1 dX6_init_21 (by decide) ?_
  refine cg_newa K (atype := .int) kr_1_46 (t0 := 0) (cA := G.2.1 0) rfl (fun _ h => by cases h) (N := 4) (a0 := (4, .inl (fun _ => 0))) rfl (by decide) (by decide) (Nat.le_of_ble_eq_true rfl) (Nat.le_of_ble_eq_true rfl) (Nat.le_of_ble_eq_true rfl) dX6_init_22 ?_
  refine cg_eq (E' := (upE (finE G E i (i + 1)) i (.inr (6, [.ref (gB G + (i + 1)), .ref (gB G + (i + 2)), .null, .null, .null, .int 0, .int 0])))) (nf_arr (ff_up (m := (i + 1)) ff_fin (by omega) (by omega)) (by omega) (fin_arr (n := 4) (hs.2.2.2.2.1) (by decide))) ?_
  refine cg_put K (i := i) (by omega) upE_eq rfl inX6 tyX6_ok nmX6 2 (by decide) kf_X6_18 (Or.inr ⟨rfl, hin, rfl⟩) rfl rfl (Nat.le_of_ble_eq_true rfl) dX6_init_24 ?_
  refine cg_eq (E' := (upE (finE G E i (i + 1)) i (.inr (6, [.ref (gB G + (i + 1)), .ref (gB G + (i + 2)), .ref (gB G + (i + 3)), .null, .null, .int 0, .int 0])))) nf_put ?_
  refine go_aload_n K.1 dX6_init_27 0 rfl rfl ?_
  refine go_bipush (v := (24 : Int32)) K.1 dX6_init_28 (by decide) ?_
  refine cg_newa K (atype := .int) kr_1_46 (t0 := 0) (cA := G.2.1 0) rfl (fun _ h => by cases h) (N := 24) (a0 := (24, .inl (fun _ => 0))) rfl (by decide) (by decide) (Nat.le_of_ble_eq_true rfl) (Nat.le_of_ble_eq_true rfl) (Nat.le_of_ble_eq_true rfl) dX6_init_30 ?_
  refine cg_eq (E' := (upE (finE G E i (i + 1)) i (.inr (6, [.ref (gB G + (i + 1)), .ref (gB G + (i + 2)), .ref (gB G + (i + 3)), .null, .null, .int 0, .int 0])))) (nf_arr (ff_up (m := (i + 1)) ff_fin (by omega) (by omega)) (by omega) (fin_arr (n := 24) (hs.2.2.2.2.2.1) (by decide))) ?_
  refine cg_put K (i := i) (by omega) upE_eq rfl inX6 tyX6_ok nmX6 3 (by decide) kf_X6_21 (Or.inr ⟨rfl, hin, rfl⟩) rfl rfl (Nat.le_of_ble_eq_true rfl) dX6_init_32 ?_
  refine cg_eq (E' := (upE (finE G E i (i + 1)) i (.inr (6, [.ref (gB G + (i + 1)), .ref (gB G + (i + 2)), .ref (gB G + (i + 3)), .ref (gB G + (i + 4)), .null, .int 0, .int 0])))) nf_put ?_
  refine go_aload_n K.1 dX6_init_35 0 rfl rfl ?_
  refine go_bipush (v := (72 : Int32)) K.1 dX6_init_36 (by decide) ?_
  refine cg_newa K (atype := .int) kr_1_46 (t0 := 0) (cA := G.2.1 0) rfl (fun _ h => by cases h) (N := 72) (a0 := (72, .inl (fun _ => 0))) rfl (by decide) (by decide) (Nat.le_of_ble_eq_true rfl) (Nat.le_of_ble_eq_true rfl) (Nat.le_of_ble_eq_true rfl) dX6_init_38 ?_
  refine cg_eq (E' := (upE (finE G E i (i + 1)) i (.inr (6, [.ref (gB G + (i + 1)), .ref (gB G + (i + 2)), .ref (gB G + (i + 3)), .ref (gB G + (i + 4)), .null, .int 0, .int 0])))) (nf_arr (ff_up (m := (i + 1)) ff_fin (by omega) (by omega)) (by omega) (fin_arr (n := 72) (hs.2.2.2.2.2.2) (by decide))) ?_
  refine cg_put K (i := i) (by omega) upE_eq rfl inX6 tyX6_ok nmX6 4 (by decide) kf_X6_24 (Or.inr ⟨rfl, hin, rfl⟩) rfl rfl (Nat.le_of_ble_eq_true rfl) dX6_init_40 ?_
  refine cg_eq (E' := (upE (finE G E i (i + 1)) i (.inr (6, [.ref (gB G + (i + 1)), .ref (gB G + (i + 2)), .ref (gB G + (i + 3)), .ref (gB G + (i + 4)), .ref (gB G + (i + 5)), .int 0, .int 0])))) nf_put ?_
  exact cg_ret K hr (nf_end (by unfold finG cellM; rw [ce_X6 hs]; simp only [fsX, C0_sc hs.2.1])) dX6_init_43
theorem cf_X3_init : CF yX3_init cX3_init 1 none 0 := ⟨kc_X3_init, kj_X3, ⟨by decide +kernel, by decide +kernel, by decide +kernel⟩, by decide⟩
set_option maxHeartbeats 4000000 in
set_option maxRecDepth 100000 in
theorem cc_X3 (l : Launch) (G : GT) (E : Nat → va_E) (hE : E 1 = .inr (3, [.null, .null, .null])) : MC l G yX3_init cX3_init 1 3 21 2 [.ref (gB G + 1)] 2 E 5 (finE G E 1 2) := by
  unfold MC
  refine metc_in RX3 (by decide +kernel) rfl rfl [(0, .ref (gB G + 1))] rfl (Nat.le_of_ble_eq_true rfl) ?_
  intro pM eM sM mM aM bM meM cM K hr hin
  refine cg_eq (E' := (upE (finE G E 1 2) 1 (.inr (3, [.null, .null, .null])))) (nf_start hE) ?_
  refine go_aload_n K.1 dX3_init_0 0 rfl rfl ?_
  refine cg_obj K km_X3_3 (by decide) (by decide) (Nat.le_of_ble_eq_true rfl) dX3_init_1 ?_
  refine go_aload_n K.1 dX3_init_4 0 rfl rfl ?_
  refine go_bipush (v := (7 : Int32)) K.1 dX3_init_5 (by decide) ?_
  refine cg_newa K (atype := .int) kr_1_46 (t0 := 0) (cA := G.2.1 0) rfl (fun _ h => by cases h) (N := 7) (a0 := (7, .inl (fun _ => 0))) rfl (by decide) (by decide) (Nat.le_of_ble_eq_true rfl) (Nat.le_of_ble_eq_true rfl) (Nat.le_of_ble_eq_true rfl) dX3_init_7 ?_
  refine cg_eq (E' := (upE (finE G E 1 2) 1 (.inr (3, [.null, .null, .null])))) (nf_arr (ff_up (m := 2) ff_fin (by omega) (by omega)) (by omega) (fin_arr (rfl : SH 2 = (20, 7)) (by decide))) ?_
  refine cg_put K (i := 1) (by omega) upE_eq rfl inX3 tyX3_ok nmX3 0 (by decide) kf_X3_9 (Or.inr ⟨rfl, hin, rfl⟩) rfl rfl (Nat.le_of_ble_eq_true rfl) dX3_init_9 ?_
  refine cg_eq (E' := (upE (finE G E 1 2) 1 (.inr (3, [.ref (gB G + 2), .null, .null])))) nf_put ?_
  refine go_aload_n K.1 dX3_init_12 0 rfl rfl ?_
  refine go_bipush (v := (7 : Int32)) K.1 dX3_init_13 (by decide) ?_
  refine cg_newa K (atype := .int) kr_1_46 (t0 := 0) (cA := G.2.1 0) rfl (fun _ h => by cases h) (N := 7) (a0 := (7, .inl (fun _ => 0))) rfl (by decide) (by decide) (Nat.le_of_ble_eq_true rfl) (Nat.le_of_ble_eq_true rfl) (Nat.le_of_ble_eq_true rfl) dX3_init_15 ?_
  refine cg_eq (E' := (upE (finE G E 1 2) 1 (.inr (3, [.ref (gB G + 2), .null, .null])))) (nf_arr (ff_up (m := 2) ff_fin (by omega) (by omega)) (by omega) (fin_arr (rfl : SH 3 = (20, 7)) (by decide))) ?_
  refine cg_put K (i := 1) (by omega) upE_eq rfl inX3 tyX3_ok nmX3 1 (by decide) kf_X3_15 (Or.inr ⟨rfl, hin, rfl⟩) rfl rfl (Nat.le_of_ble_eq_true rfl) dX3_init_17 ?_
  refine cg_eq (E' := (upE (finE G E 1 2) 1 (.inr (3, [.ref (gB G + 2), .ref (gB G + 3), .null])))) nf_put ?_
  refine go_aload_n K.1 dX3_init_20 0 rfl rfl ?_
  refine go_bipush (v := (7 : Int32)) K.1 dX3_init_21 (by decide) ?_
  refine cg_newa K (atype := .int) kr_1_46 (t0 := 0) (cA := G.2.1 0) rfl (fun _ h => by cases h) (N := 7) (a0 := (7, .inl (fun _ => 0))) rfl (by decide) (by decide) (Nat.le_of_ble_eq_true rfl) (Nat.le_of_ble_eq_true rfl) (Nat.le_of_ble_eq_true rfl) dX3_init_23 ?_
  refine cg_eq (E' := (upE (finE G E 1 2) 1 (.inr (3, [.ref (gB G + 2), .ref (gB G + 3), .null])))) (nf_arr (ff_up (m := 2) ff_fin (by omega) (by omega)) (by omega) (fin_arr (rfl : SH 4 = (20, 7)) (by decide))) ?_
  refine cg_put K (i := 1) (by omega) upE_eq rfl inX3 tyX3_ok nmX3 2 (by decide) kf_X3_18 (Or.inr ⟨rfl, hin, rfl⟩) rfl rfl (Nat.le_of_ble_eq_true rfl) dX3_init_25 ?_
  refine cg_eq (E' := (upE (finE G E 1 2) 1 (.inr (3, [.ref (gB G + 2), .ref (gB G + 3), .ref (gB G + 4)])))) nf_put ?_
  exact cg_ret K hr (nf_end rfl) dX3_init_28
theorem cf_X8_init : CF yX8_init cX8_init 1 none 0 := ⟨kc_X8_init, kj_X8, ⟨by decide +kernel, by decide +kernel, by decide +kernel⟩, by decide⟩
set_option maxHeartbeats 4000000 in
set_option maxRecDepth 100000 in
theorem cc_X8 (l : Launch) (G : GT) (E : Nat → va_E) (hE : E 404 = .inr (8, [.null, .int 0, .int 0, .int 0, .int 0, .int 0])) : MC l G yX8_init cX8_init 1 1 300 2 [.ref (gB G + 404)] 405 E 406 (finE G E 404 405) := by
  unfold MC
  refine metc_in RX8 (by decide +kernel) rfl rfl [(0, .ref (gB G + 404))] rfl (Nat.le_of_ble_eq_true rfl) ?_
  intro pM eM sM mM aM bM meM cM K hr hin
  refine cg_eq (E' := (upE (finE G E 404 405) 404 (.inr (8, [.null, .int 0, .int 0, .int 0, .int 0, .int 0])))) (nf_start hE) ?_
  refine go_aload_n K.1 dX8_init_0 0 rfl rfl ?_
  refine cg_obj K km_X8_3 (by decide) (by decide) (Nat.le_of_ble_eq_true rfl) dX8_init_1 ?_
  refine go_aload_n K.1 dX8_init_4 0 rfl rfl ?_
  refine go_sipush (v := (300 : Int32)) K.1 dX8_init_5 (by decide) ?_
  refine cg_newa K (atype := .int) kr_1_46 (t0 := 0) (cA := G.2.1 0) rfl (fun _ h => by cases h) (N := 300) (a0 := (300, .inl (fun _ => 0))) rfl (by decide) (by decide) (Nat.le_of_ble_eq_true rfl) (Nat.le_of_ble_eq_true rfl) (Nat.le_of_ble_eq_true rfl) dX8_init_8 ?_
  refine cg_eq (E' := (upE (finE G E 404 405) 404 (.inr (8, [.null, .int 0, .int 0, .int 0, .int 0, .int 0])))) (nf_arr (ff_up (m := 405) ff_fin (by omega) (by omega)) (by omega) (fin_arr (rfl : SH 405 = (20, 300)) (by decide))) ?_
  refine cg_put K (i := 404) (by omega) upE_eq rfl inX8 tyX8_ok nmX8 0 (by decide) kf_X8_9 (Or.inr ⟨rfl, hin, rfl⟩) rfl rfl (Nat.le_of_ble_eq_true rfl) dX8_init_10 ?_
  refine cg_eq (E' := (upE (finE G E 404 405) 404 (.inr (8, [.ref (gB G + 405), .int 0, .int 0, .int 0, .int 0, .int 0])))) nf_put ?_
  exact cg_ret K hr (nf_end rfl) dX8_init_13
theorem cf_X0_init : CF yX0_init cX0_init 1 none 0 := ⟨kc_X0_init, kj_X0, ⟨by decide +kernel, by decide +kernel, by decide +kernel⟩, by decide⟩
set_option maxHeartbeats 4000000 in
set_option maxRecDepth 100000 in
theorem cc_X0 (l : Launch) (G : GT) (E : Nat → va_E) (hE : E 413 = .inr (0, [.int 0, .int 0, .int 0, .int 0, .int 0, .int 0])) : MC l G yX0_init cX0_init 1 0 0 2 [.ref (gB G + 413)] 414 E 414 (finE G E 413 414) := by
  unfold MC
  refine metc_in RX0 (by decide +kernel) rfl rfl [(0, .ref (gB G + 413))] rfl (Nat.le_of_ble_eq_true rfl) ?_
  intro pM eM sM mM aM bM meM cM K hr hin
  refine cg_eq (E' := (upE (finE G E 413 414) 413 (.inr (0, [.int 0, .int 0, .int 0, .int 0, .int 0, .int 0])))) (nf_start hE) ?_
  refine go_aload_n K.1 dX0_init_0 0 rfl rfl ?_
  refine cg_obj K km_X0_3 (by decide) (by decide) (Nat.le_of_ble_eq_true rfl) dX0_init_1 ?_
  exact cg_ret K hr (nf_end rfl) dX0_init_4
theorem cf_X5_init : CF yX5_init cX5_init 1 none 0 := ⟨kc_X5_init, kj_X5, ⟨by decide +kernel, by decide +kernel, by decide +kernel⟩, by decide⟩
set_option maxHeartbeats 4000000 in
set_option maxRecDepth 100000 in
theorem cc_X5 (l : Launch) (G : GT) (E : Nat → va_E) (hE : E 414 = .inr (5, [.null, .null])) : MC l G yX5_init cX5_init 1 2 256 2 [.ref (gB G + 414)] 415 E 417 (finE G E 414 415) := by
  unfold MC
  refine metc_in RX5 (by decide +kernel) rfl rfl [(0, .ref (gB G + 414))] rfl (Nat.le_of_ble_eq_true rfl) ?_
  intro pM eM sM mM aM bM meM cM K hr hin
  refine cg_eq (E' := (upE (finE G E 414 415) 414 (.inr (5, [.null, .null])))) (nf_start hE) ?_
  refine go_aload_n K.1 dX5_init_0 0 rfl rfl ?_
  refine cg_obj K km_X5_3 (by decide) (by decide) (Nat.le_of_ble_eq_true rfl) dX5_init_1 ?_
  refine go_aload_n K.1 dX5_init_4 0 rfl rfl ?_
  refine go_sipush (v := (128 : Int32)) K.1 dX5_init_5 (by decide) ?_
  refine cg_newa K (atype := .int) kr_1_46 (t0 := 0) (cA := G.2.1 0) rfl (fun _ h => by cases h) (N := 128) (a0 := (128, .inl (fun _ => 0))) rfl (by decide) (by decide) (Nat.le_of_ble_eq_true rfl) (Nat.le_of_ble_eq_true rfl) (Nat.le_of_ble_eq_true rfl) dX5_init_8 ?_
  refine cg_eq (E' := (upE (finE G E 414 415) 414 (.inr (5, [.null, .null])))) (nf_arr (ff_up (m := 415) ff_fin (by omega) (by omega)) (by omega) (fin_arr (rfl : SH 415 = (20, 128)) (by decide))) ?_
  refine cg_put K (i := 414) (by omega) upE_eq rfl inX5 tyX5_ok nmX5 0 (by decide) kf_X5_11 (Or.inr ⟨rfl, hin, rfl⟩) rfl rfl (Nat.le_of_ble_eq_true rfl) dX5_init_10 ?_
  refine cg_eq (E' := (upE (finE G E 414 415) 414 (.inr (5, [.ref (gB G + 415), .null])))) nf_put ?_
  refine go_aload_n K.1 dX5_init_13 0 rfl rfl ?_
  refine go_sipush (v := (128 : Int32)) K.1 dX5_init_14 (by decide) ?_
  refine cg_newa K (atype := .int) kr_1_46 (t0 := 0) (cA := G.2.1 0) rfl (fun _ h => by cases h) (N := 128) (a0 := (128, .inl (fun _ => 0))) rfl (by decide) (by decide) (Nat.le_of_ble_eq_true rfl) (Nat.le_of_ble_eq_true rfl) (Nat.le_of_ble_eq_true rfl) dX5_init_17 ?_
  refine cg_eq (E' := (upE (finE G E 414 415) 414 (.inr (5, [.ref (gB G + 415), .null])))) (nf_arr (ff_up (m := 415) ff_fin (by omega) (by omega)) (by omega) (fin_arr (rfl : SH 416 = (20, 128)) (by decide))) ?_
  refine cg_put K (i := 414) (by omega) upE_eq rfl inX5 tyX5_ok nmX5 1 (by decide) kf_X5_15 (Or.inr ⟨rfl, hin, rfl⟩) rfl rfl (Nat.le_of_ble_eq_true rfl) dX5_init_19 ?_
  refine cg_eq (E' := (upE (finE G E 414 415) 414 (.inr (5, [.ref (gB G + 415), .ref (gB G + 416)])))) nf_put ?_
  exact cg_ret K hr (nf_end rfl) dX5_init_22
theorem cf_X2_init : CF yX2_init cX2_init 1 none 0 := ⟨kc_X2_init, kj_X2, ⟨by decide +kernel, by decide +kernel, by decide +kernel⟩, by decide⟩
set_option maxHeartbeats 4000000 in
set_option maxRecDepth 100000 in
theorem cc_X2 (l : Launch) (G : GT) (E : Nat → va_E) (hE : E 417 = .inr (2, [.int 0, .int 0, .null, .null, .null, .null])) : MC l G yX2_init cX2_init 1 4 35 2 [.ref (gB G + 417)] 418 E 422 (finE G E 417 418) := by
  unfold MC
  refine metc_in RX2 (by decide +kernel) rfl rfl [(0, .ref (gB G + 417))] rfl (Nat.le_of_ble_eq_true rfl) ?_
  intro pM eM sM mM aM bM meM cM K hr hin
  refine cg_eq (E' := (upE (finE G E 417 418) 417 (.inr (2, [.int 0, .int 0, .null, .null, .null, .null])))) (nf_start hE) ?_
  refine go_aload_n K.1 dX2_init_0 0 rfl rfl ?_
  refine cg_obj K km_X2_3 (by decide) (by decide) (Nat.le_of_ble_eq_true rfl) dX2_init_1 ?_
  refine go_aload_n K.1 dX2_init_4 0 rfl rfl ?_
  refine go_bipush (v := (10 : Int32)) K.1 dX2_init_5 (by decide) ?_
  refine cg_newa K (atype := .int) kr_1_46 (t0 := 0) (cA := G.2.1 0) rfl (fun _ h => by cases h) (N := 10) (a0 := (10, .inl (fun _ => 0))) rfl (by decide) (by decide) (Nat.le_of_ble_eq_true rfl) (Nat.le_of_ble_eq_true rfl) (Nat.le_of_ble_eq_true rfl) dX2_init_7 ?_
  refine cg_eq (E' := (upE (finE G E 417 418) 417 (.inr (2, [.int 0, .int 0, .null, .null, .null, .null])))) (nf_arr (ff_up (m := 418) ff_fin (by omega) (by omega)) (by omega) (fin_arr (rfl : SH 418 = (20, 10)) (by decide))) ?_
  refine cg_put K (i := 417) (by omega) upE_eq rfl inX2 tyX2_ok nmX2 2 (by decide) kf_X2_11 (Or.inr ⟨rfl, hin, rfl⟩) rfl rfl (Nat.le_of_ble_eq_true rfl) dX2_init_9 ?_
  refine cg_eq (E' := (upE (finE G E 417 418) 417 (.inr (2, [.int 0, .int 0, .ref (gB G + 418), .null, .null, .null])))) nf_put ?_
  refine go_aload_n K.1 dX2_init_12 0 rfl rfl ?_
  refine go_bipush (v := (10 : Int32)) K.1 dX2_init_13 (by decide) ?_
  refine cg_newa K (atype := .int) kr_1_46 (t0 := 0) (cA := G.2.1 0) rfl (fun _ h => by cases h) (N := 10) (a0 := (10, .inl (fun _ => 0))) rfl (by decide) (by decide) (Nat.le_of_ble_eq_true rfl) (Nat.le_of_ble_eq_true rfl) (Nat.le_of_ble_eq_true rfl) dX2_init_15 ?_
  refine cg_eq (E' := (upE (finE G E 417 418) 417 (.inr (2, [.int 0, .int 0, .ref (gB G + 418), .null, .null, .null])))) (nf_arr (ff_up (m := 418) ff_fin (by omega) (by omega)) (by omega) (fin_arr (rfl : SH 419 = (20, 10)) (by decide))) ?_
  refine cg_put K (i := 417) (by omega) upE_eq rfl inX2 tyX2_ok nmX2 3 (by decide) kf_X2_15 (Or.inr ⟨rfl, hin, rfl⟩) rfl rfl (Nat.le_of_ble_eq_true rfl) dX2_init_17 ?_
  refine cg_eq (E' := (upE (finE G E 417 418) 417 (.inr (2, [.int 0, .int 0, .ref (gB G + 418), .ref (gB G + 419), .null, .null])))) nf_put ?_
  refine go_aload_n K.1 dX2_init_20 0 rfl rfl ?_
  refine go_bipush (v := (10 : Int32)) K.1 dX2_init_21 (by decide) ?_
  refine cg_newa K (atype := .int) kr_1_46 (t0 := 0) (cA := G.2.1 0) rfl (fun _ h => by cases h) (N := 10) (a0 := (10, .inl (fun _ => 0))) rfl (by decide) (by decide) (Nat.le_of_ble_eq_true rfl) (Nat.le_of_ble_eq_true rfl) (Nat.le_of_ble_eq_true rfl) dX2_init_23 ?_
  refine cg_eq (E' := (upE (finE G E 417 418) 417 (.inr (2, [.int 0, .int 0, .ref (gB G + 418), .ref (gB G + 419), .null, .null])))) (nf_arr (ff_up (m := 418) ff_fin (by omega) (by omega)) (by omega) (fin_arr (rfl : SH 420 = (20, 10)) (by decide))) ?_
  refine cg_put K (i := 417) (by omega) upE_eq rfl inX2 tyX2_ok nmX2 4 (by decide) kf_X2_18 (Or.inr ⟨rfl, hin, rfl⟩) rfl rfl (Nat.le_of_ble_eq_true rfl) dX2_init_25 ?_
  refine cg_eq (E' := (upE (finE G E 417 418) 417 (.inr (2, [.int 0, .int 0, .ref (gB G + 418), .ref (gB G + 419), .ref (gB G + 420), .null])))) nf_put ?_
  refine go_aload_n K.1 dX2_init_28 0 rfl rfl ?_
  refine go_iconst (v := (5 : Int32)) K.1 dX2_init_29 (by decide) ?_
  refine cg_newa K (atype := .int) kr_1_46 (t0 := 0) (cA := G.2.1 0) rfl (fun _ h => by cases h) (N := 5) (a0 := (5, .inl (fun _ => 0))) rfl (by decide) (by decide) (Nat.le_of_ble_eq_true rfl) (Nat.le_of_ble_eq_true rfl) (Nat.le_of_ble_eq_true rfl) dX2_init_30 ?_
  refine cg_eq (E' := (upE (finE G E 417 418) 417 (.inr (2, [.int 0, .int 0, .ref (gB G + 418), .ref (gB G + 419), .ref (gB G + 420), .null])))) (nf_arr (ff_up (m := 418) ff_fin (by omega) (by omega)) (by omega) fin_bent) ?_
  refine cg_put K (i := 417) (by omega) upE_eq rfl inX2 tyX2_ok nmX2 5 (by decide) kf_X2_21 (Or.inr ⟨rfl, hin, rfl⟩) rfl rfl (Nat.le_of_ble_eq_true rfl) dX2_init_32 ?_
  refine cg_eq (E' := (upE (finE G E 417 418) 417 (.inr (2, [.int 0, .int 0, .ref (gB G + 418), .ref (gB G + 419), .ref (gB G + 420), .ref (gB G + 421)])))) nf_put ?_
  exact cg_ret K hr (nf_end rfl) dX2_init_35
theorem cf_X1_init : CF yX1_init cX1_init 4 none 3 := ⟨kc_X1_init, kj_X1, ⟨by decide +kernel, by decide +kernel, by decide +kernel⟩, by decide⟩
set_option maxHeartbeats 4000000 in
set_option maxRecDepth 100000 in
theorem cc_X1_0 (l : Launch) (G : GT) (E : Nat → va_E) (hE : E 391 = .inr (1, [.null, .null, .null, .null, .int 0, .null])) : MC l G yX1_init cX1_init 4 2 74 2 [.ref (gB G + 391), .ref (gB G + 1), .ref (gB G + 6), .ref (gB G + 383)] 392 E 394 (finE G E 391 392) := by
  unfold MC
  refine metc_in RX1 (by decide +kernel) rfl rfl [(0, .ref (gB G + 391)), (1, .ref (gB G + 1)), (2, .ref (gB G + 6)), (3, .ref (gB G + 383))] rfl (Nat.le_of_ble_eq_true rfl) ?_
  intro pM eM sM mM aM bM meM cM K hr hin
  refine cg_eq (E' := (upE (finE G E 391 392) 391 (.inr (1, [.null, .null, .null, .null, .int 0, .null])))) (nf_start hE) ?_
  refine go_aload_n K.1 dX1_init_0 0 rfl rfl ?_
  refine cg_obj K km_X1_3 (by decide) (by decide) (Nat.le_of_ble_eq_true rfl) dX1_init_1 ?_
  refine go_aload_n K.1 dX1_init_4 0 rfl rfl ?_
  refine go_bipush (v := (10 : Int32)) K.1 dX1_init_5 (by decide) ?_
  refine cg_newa K (atype := .int) kr_1_46 (t0 := 0) (cA := G.2.1 0) rfl (fun _ h => by cases h) (N := 10) (a0 := (10, .inl (fun _ => 0))) rfl (by decide) (by decide) (Nat.le_of_ble_eq_true rfl) (Nat.le_of_ble_eq_true rfl) (Nat.le_of_ble_eq_true rfl) dX1_init_7 ?_
  refine cg_eq (E' := (upE (finE G E 391 392) 391 (.inr (1, [.null, .null, .null, .null, .int 0, .null])))) (nf_arr (ff_up (m := 392) ff_fin (by omega) (by omega)) (by omega) (fin_arr (rfl : SH 392 = (20, 10)) (by decide))) ?_
  refine cg_put K (i := 391) (by omega) upE_eq rfl inX1 tyX1_ok nmX1 2 (by decide) kf_X1_9 (Or.inr ⟨rfl, hin, rfl⟩) rfl rfl (Nat.le_of_ble_eq_true rfl) dX1_init_9 ?_
  refine cg_eq (E' := (upE (finE G E 391 392) 391 (.inr (1, [.null, .null, .ref (gB G + 392), .null, .int 0, .null])))) nf_put ?_
  refine go_aload_n K.1 dX1_init_12 0 rfl rfl ?_
  refine go_bipush (v := (64 : Int32)) K.1 dX1_init_13 (by decide) ?_
  refine cg_newa K (atype := .int) kr_1_46 (t0 := 0) (cA := G.2.1 0) rfl (fun _ h => by cases h) (N := 64) (a0 := (64, .inl (fun _ => 0))) rfl (by decide) (by decide) (Nat.le_of_ble_eq_true rfl) (Nat.le_of_ble_eq_true rfl) (Nat.le_of_ble_eq_true rfl) dX1_init_15 ?_
  refine cg_eq (E' := (upE (finE G E 391 392) 391 (.inr (1, [.null, .null, .ref (gB G + 392), .null, .int 0, .null])))) (nf_arr (ff_up (m := 392) ff_fin (by omega) (by omega)) (by omega) (fin_arr (rfl : SH 393 = (20, 64)) (by decide))) ?_
  refine cg_put K (i := 391) (by omega) upE_eq rfl inX1 tyX1_ok nmX1 3 (by decide) kf_X1_15 (Or.inr ⟨rfl, hin, rfl⟩) rfl rfl (Nat.le_of_ble_eq_true rfl) dX1_init_17 ?_
  refine cg_eq (E' := (upE (finE G E 391 392) 391 (.inr (1, [.null, .null, .ref (gB G + 392), .ref (gB G + 393), .int 0, .null])))) nf_put ?_
  refine go_aload_n K.1 dX1_init_20 0 rfl rfl ?_
  refine go_aload_n K.1 dX1_init_21 1 rfl rfl ?_
  refine cg_put K (i := 391) (by omega) upE_eq rfl inX1 tyX1_ok nmX1 0 (by decide) kf_X1_18 (Or.inr ⟨rfl, hin, rfl⟩) rfl rfl (Nat.le_of_ble_eq_true rfl) dX1_init_22 ?_
  refine cg_eq (E' := (upE (finE G E 391 392) 391 (.inr (1, [.ref (gB G + 1), .null, .ref (gB G + 392), .ref (gB G + 393), .int 0, .null])))) nf_put ?_
  refine go_aload_n K.1 dX1_init_25 0 rfl rfl ?_
  refine go_aload_n K.1 dX1_init_26 2 rfl rfl ?_
  refine cg_put K (i := 391) (by omega) upE_eq rfl inX1 tyX1_ok nmX1 1 (by decide) kf_X1_22 (Or.inr ⟨rfl, hin, rfl⟩) rfl rfl (Nat.le_of_ble_eq_true rfl) dX1_init_27 ?_
  refine cg_eq (E' := (upE (finE G E 391 392) 391 (.inr (1, [.ref (gB G + 1), .ref (gB G + 6), .ref (gB G + 392), .ref (gB G + 393), .int 0, .null])))) nf_put ?_
  refine go_aload_n K.1 dX1_init_30 0 rfl rfl ?_
  refine go_aload_n K.1 dX1_init_31 3 rfl rfl ?_
  refine cg_put K (i := 391) (by omega) upE_eq rfl inX1 tyX1_ok nmX1 5 (by decide) kf_X1_26 (Or.inl rfl) rfl rfl (Nat.le_of_ble_eq_true rfl) dX1_init_32 ?_
  refine cg_eq (E' := (upE (finE G E 391 392) 391 (.inr (1, [.ref (gB G + 1), .ref (gB G + 6), .ref (gB G + 392), .ref (gB G + 393), .int 0, .ref (gB G + 383)])))) nf_put ?_
  exact cg_ret K hr (nf_end rfl) dX1_init_35
set_option maxHeartbeats 4000000 in
set_option maxRecDepth 100000 in
theorem cc_X1_1 (l : Launch) (G : GT) (E : Nat → va_E) (hE : E 401 = .inr (1, [.null, .null, .null, .null, .int 0, .null])) : MC l G yX1_init cX1_init 4 2 74 2 [.ref (gB G + 401), .ref (gB G + 1), .ref (gB G + 395), .ref (gB G + 383)] 402 E 404 (finE G E 401 402) := by
  unfold MC
  refine metc_in RX1 (by decide +kernel) rfl rfl [(0, .ref (gB G + 401)), (1, .ref (gB G + 1)), (2, .ref (gB G + 395)), (3, .ref (gB G + 383))] rfl (Nat.le_of_ble_eq_true rfl) ?_
  intro pM eM sM mM aM bM meM cM K hr hin
  refine cg_eq (E' := (upE (finE G E 401 402) 401 (.inr (1, [.null, .null, .null, .null, .int 0, .null])))) (nf_start hE) ?_
  refine go_aload_n K.1 dX1_init_0 0 rfl rfl ?_
  refine cg_obj K km_X1_3 (by decide) (by decide) (Nat.le_of_ble_eq_true rfl) dX1_init_1 ?_
  refine go_aload_n K.1 dX1_init_4 0 rfl rfl ?_
  refine go_bipush (v := (10 : Int32)) K.1 dX1_init_5 (by decide) ?_
  refine cg_newa K (atype := .int) kr_1_46 (t0 := 0) (cA := G.2.1 0) rfl (fun _ h => by cases h) (N := 10) (a0 := (10, .inl (fun _ => 0))) rfl (by decide) (by decide) (Nat.le_of_ble_eq_true rfl) (Nat.le_of_ble_eq_true rfl) (Nat.le_of_ble_eq_true rfl) dX1_init_7 ?_
  refine cg_eq (E' := (upE (finE G E 401 402) 401 (.inr (1, [.null, .null, .null, .null, .int 0, .null])))) (nf_arr (ff_up (m := 402) ff_fin (by omega) (by omega)) (by omega) (fin_arr (rfl : SH 402 = (20, 10)) (by decide))) ?_
  refine cg_put K (i := 401) (by omega) upE_eq rfl inX1 tyX1_ok nmX1 2 (by decide) kf_X1_9 (Or.inr ⟨rfl, hin, rfl⟩) rfl rfl (Nat.le_of_ble_eq_true rfl) dX1_init_9 ?_
  refine cg_eq (E' := (upE (finE G E 401 402) 401 (.inr (1, [.null, .null, .ref (gB G + 402), .null, .int 0, .null])))) nf_put ?_
  refine go_aload_n K.1 dX1_init_12 0 rfl rfl ?_
  refine go_bipush (v := (64 : Int32)) K.1 dX1_init_13 (by decide) ?_
  refine cg_newa K (atype := .int) kr_1_46 (t0 := 0) (cA := G.2.1 0) rfl (fun _ h => by cases h) (N := 64) (a0 := (64, .inl (fun _ => 0))) rfl (by decide) (by decide) (Nat.le_of_ble_eq_true rfl) (Nat.le_of_ble_eq_true rfl) (Nat.le_of_ble_eq_true rfl) dX1_init_15 ?_
  refine cg_eq (E' := (upE (finE G E 401 402) 401 (.inr (1, [.null, .null, .ref (gB G + 402), .null, .int 0, .null])))) (nf_arr (ff_up (m := 402) ff_fin (by omega) (by omega)) (by omega) (fin_arr (rfl : SH 403 = (20, 64)) (by decide))) ?_
  refine cg_put K (i := 401) (by omega) upE_eq rfl inX1 tyX1_ok nmX1 3 (by decide) kf_X1_15 (Or.inr ⟨rfl, hin, rfl⟩) rfl rfl (Nat.le_of_ble_eq_true rfl) dX1_init_17 ?_
  refine cg_eq (E' := (upE (finE G E 401 402) 401 (.inr (1, [.null, .null, .ref (gB G + 402), .ref (gB G + 403), .int 0, .null])))) nf_put ?_
  refine go_aload_n K.1 dX1_init_20 0 rfl rfl ?_
  refine go_aload_n K.1 dX1_init_21 1 rfl rfl ?_
  refine cg_put K (i := 401) (by omega) upE_eq rfl inX1 tyX1_ok nmX1 0 (by decide) kf_X1_18 (Or.inr ⟨rfl, hin, rfl⟩) rfl rfl (Nat.le_of_ble_eq_true rfl) dX1_init_22 ?_
  refine cg_eq (E' := (upE (finE G E 401 402) 401 (.inr (1, [.ref (gB G + 1), .null, .ref (gB G + 402), .ref (gB G + 403), .int 0, .null])))) nf_put ?_
  refine go_aload_n K.1 dX1_init_25 0 rfl rfl ?_
  refine go_aload_n K.1 dX1_init_26 2 rfl rfl ?_
  refine cg_put K (i := 401) (by omega) upE_eq rfl inX1 tyX1_ok nmX1 1 (by decide) kf_X1_22 (Or.inr ⟨rfl, hin, rfl⟩) rfl rfl (Nat.le_of_ble_eq_true rfl) dX1_init_27 ?_
  refine cg_eq (E' := (upE (finE G E 401 402) 401 (.inr (1, [.ref (gB G + 1), .ref (gB G + 395), .ref (gB G + 402), .ref (gB G + 403), .int 0, .null])))) nf_put ?_
  refine go_aload_n K.1 dX1_init_30 0 rfl rfl ?_
  refine go_aload_n K.1 dX1_init_31 3 rfl rfl ?_
  refine cg_put K (i := 401) (by omega) upE_eq rfl inX1 tyX1_ok nmX1 5 (by decide) kf_X1_26 (Or.inl rfl) rfl rfl (Nat.le_of_ble_eq_true rfl) dX1_init_32 ?_
  refine cg_eq (E' := (upE (finE G E 401 402) 401 (.inr (1, [.ref (gB G + 1), .ref (gB G + 395), .ref (gB G + 402), .ref (gB G + 403), .int 0, .ref (gB G + 383)])))) nf_put ?_
  exact cg_ret K hr (nf_end rfl) dX1_init_35
theorem cf_X9_init : CF yX9_init cX9_init 4 none 3 := ⟨kc_X9_init, kj_X9, ⟨by decide +kernel, by decide +kernel, by decide +kernel⟩, by decide⟩
set_option maxHeartbeats 4000000 in
set_option maxRecDepth 100000 in
theorem cc_X9_0 (l : Launch) (G : GT) (E : Nat → va_E) (hE : E 390 = .inr (9, [.null, .null, .null])) : MC l G yX9_init cX9_init 4 3 80 3 [.ref (gB G + 390), .ref (gB G + 1), .ref (gB G + 6), .ref (gB G + 383)] 391 E 394 (finE G E 390 391) := by
  unfold MC
  refine metc_in RX9 (by decide +kernel) rfl rfl [(0, .ref (gB G + 390)), (1, .ref (gB G + 1)), (2, .ref (gB G + 6)), (3, .ref (gB G + 383))] rfl (Nat.le_of_ble_eq_true rfl) ?_
  intro pM eM sM mM aM bM meM cM K hr hin
  refine cg_eq (E' := (upE (finE G E 390 391) 390 (.inr (9, [.null, .null, .null])))) (nf_start hE) ?_
  refine go_aload_n K.1 dX9_init_0 0 rfl rfl ?_
  refine cg_obj K km_X9_3 (by decide) (by decide) (Nat.le_of_ble_eq_true rfl) dX9_init_1 ?_
  refine go_aload_n K.1 dX9_init_4 0 rfl rfl ?_
  refine go_aload_n K.1 dX9_init_5 1 rfl rfl ?_
  refine cg_put K (i := 390) (by omega) upE_eq rfl inX9 tyX9_ok nmX9 2 (by decide) kf_X9_9 (Or.inr ⟨rfl, hin, rfl⟩) rfl rfl (Nat.le_of_ble_eq_true rfl) dX9_init_6 ?_
  refine cg_eq (E' := (upE (finE G E 390 391) 390 (.inr (9, [.null, .null, .ref (gB G + 1)])))) nf_put ?_
  refine go_aload_n K.1 dX9_init_9 0 rfl rfl ?_
  refine go_aload_n K.1 dX9_init_10 2 rfl rfl ?_
  refine cg_put K (i := 390) (by omega) upE_eq rfl inX9 tyX9_ok nmX9 0 (by decide) kf_X9_15 (Or.inr ⟨rfl, hin, rfl⟩) rfl rfl (Nat.le_of_ble_eq_true rfl) dX9_init_11 ?_
  refine cg_eq (E' := (upE (finE G E 390 391) 390 (.inr (9, [.ref (gB G + 6), .null, .ref (gB G + 1)])))) nf_put ?_
  refine go_aload_n K.1 dX9_init_14 0 rfl rfl ?_
  refine cg_new K inX1 tyX1 tyX1_ok kl_X9_19 ka_X1 kj_X1 (ci := 1) rfl (fs := [.null, .null, .null, .null, .int 0, .null]) (fun j hj => by rcases (show j = 0 ∨ j = 1 ∨ j = 2 ∨ j = 3 ∨ j = 4 ∨ j = 5 by omega) with rfl | rfl | rfl | rfl | rfl | rfl <;> rfl) (Nat.le_of_ble_eq_true rfl) (Nat.le_of_ble_eq_true rfl) dX9_init_15 ?_
  refine go_dup K.1 dX9_init_18 rfl ?_
  refine go_aload_n K.1 dX9_init_19 1 rfl rfl ?_
  refine go_aload_n K.1 dX9_init_20 2 rfl rfl ?_
  refine go_aload_n K.1 dX9_init_21 3 rfl rfl ?_
  refine cg_call K (As := [.ref (gB G + 1), .ref (gB G + 6), .ref (gB G + 383)]) (cc_X1_0 l G _ upE_eq) cf_X1_init ki_X1_init rfl (Or.inl km_X9_21) (by decide) (by decide) ⟨Nat.le_of_ble_eq_true rfl, Nat.le_of_ble_eq_true rfl⟩ rfl rfl (Nat.le_of_ble_eq_true rfl) dX9_init_22 ?_
  refine cg_eq (E' := (upE (finE G E 390 391) 390 (.inr (9, [.ref (gB G + 6), .null, .ref (gB G + 1)])))) (nf_obj (ff_up (m := 391) ff_fin (by omega) (by omega)) (by omega) (by omega)) ?_
  refine cg_put K (i := 390) (by omega) upE_eq rfl inX9 tyX9_ok nmX9 1 (by decide) kf_X9_24 (Or.inr ⟨rfl, hin, rfl⟩) rfl rfl (Nat.le_of_ble_eq_true rfl) dX9_init_25 ?_
  refine cg_eq (E' := (upE (finE G E 390 391) 390 (.inr (9, [.ref (gB G + 6), .ref (gB G + 391), .ref (gB G + 1)])))) nf_put ?_
  exact cg_ret K hr (nf_end rfl) dX9_init_28
set_option maxHeartbeats 4000000 in
set_option maxRecDepth 100000 in
theorem cc_X9_1 (l : Launch) (G : GT) (E : Nat → va_E) (hE : E 394 = .inr (9, [.null, .null, .null])) : MC l G yX9_init cX9_init 4 3 80 3 [.ref (gB G + 394), .ref (gB G + 1), .ref (gB G + 395), .ref (gB G + 383)] 401 E 404 (finE G E 394 401) := by
  unfold MC
  refine metc_in RX9 (by decide +kernel) rfl rfl [(0, .ref (gB G + 394)), (1, .ref (gB G + 1)), (2, .ref (gB G + 395)), (3, .ref (gB G + 383))] rfl (Nat.le_of_ble_eq_true rfl) ?_
  intro pM eM sM mM aM bM meM cM K hr hin
  refine cg_eq (E' := (upE (finE G E 394 401) 394 (.inr (9, [.null, .null, .null])))) (nf_start hE) ?_
  refine go_aload_n K.1 dX9_init_0 0 rfl rfl ?_
  refine cg_obj K km_X9_3 (by decide) (by decide) (Nat.le_of_ble_eq_true rfl) dX9_init_1 ?_
  refine go_aload_n K.1 dX9_init_4 0 rfl rfl ?_
  refine go_aload_n K.1 dX9_init_5 1 rfl rfl ?_
  refine cg_put K (i := 394) (by omega) upE_eq rfl inX9 tyX9_ok nmX9 2 (by decide) kf_X9_9 (Or.inr ⟨rfl, hin, rfl⟩) rfl rfl (Nat.le_of_ble_eq_true rfl) dX9_init_6 ?_
  refine cg_eq (E' := (upE (finE G E 394 401) 394 (.inr (9, [.null, .null, .ref (gB G + 1)])))) nf_put ?_
  refine go_aload_n K.1 dX9_init_9 0 rfl rfl ?_
  refine go_aload_n K.1 dX9_init_10 2 rfl rfl ?_
  refine cg_put K (i := 394) (by omega) upE_eq rfl inX9 tyX9_ok nmX9 0 (by decide) kf_X9_15 (Or.inr ⟨rfl, hin, rfl⟩) rfl rfl (Nat.le_of_ble_eq_true rfl) dX9_init_11 ?_
  refine cg_eq (E' := (upE (finE G E 394 401) 394 (.inr (9, [.ref (gB G + 395), .null, .ref (gB G + 1)])))) nf_put ?_
  refine go_aload_n K.1 dX9_init_14 0 rfl rfl ?_
  refine cg_new K inX1 tyX1 tyX1_ok kl_X9_19 ka_X1 kj_X1 (ci := 1) rfl (fs := [.null, .null, .null, .null, .int 0, .null]) (fun j hj => by rcases (show j = 0 ∨ j = 1 ∨ j = 2 ∨ j = 3 ∨ j = 4 ∨ j = 5 by omega) with rfl | rfl | rfl | rfl | rfl | rfl <;> rfl) (Nat.le_of_ble_eq_true rfl) (Nat.le_of_ble_eq_true rfl) dX9_init_15 ?_
  refine go_dup K.1 dX9_init_18 rfl ?_
  refine go_aload_n K.1 dX9_init_19 1 rfl rfl ?_
  refine go_aload_n K.1 dX9_init_20 2 rfl rfl ?_
  refine go_aload_n K.1 dX9_init_21 3 rfl rfl ?_
  refine cg_call K (As := [.ref (gB G + 1), .ref (gB G + 395), .ref (gB G + 383)]) (cc_X1_1 l G _ upE_eq) cf_X1_init ki_X1_init rfl (Or.inl km_X9_21) (by decide) (by decide) ⟨Nat.le_of_ble_eq_true rfl, Nat.le_of_ble_eq_true rfl⟩ rfl rfl (Nat.le_of_ble_eq_true rfl) dX9_init_22 ?_
  refine cg_eq (E' := (upE (finE G E 394 401) 394 (.inr (9, [.ref (gB G + 395), .null, .ref (gB G + 1)])))) (nf_obj (ff_up (m := 401) ff_fin (by omega) (by omega)) (by omega) (by omega)) ?_
  refine cg_put K (i := 394) (by omega) upE_eq rfl inX9 tyX9_ok nmX9 1 (by decide) kf_X9_24 (Or.inr ⟨rfl, hin, rfl⟩) rfl rfl (Nat.le_of_ble_eq_true rfl) dX9_init_25 ?_
  refine cg_eq (E' := (upE (finE G E 394 401) 394 (.inr (9, [.ref (gB G + 395), .ref (gB G + 401), .ref (gB G + 1)])))) nf_put ?_
  exact cg_ret K hr (nf_end rfl) dX9_init_28
theorem cf_X4_init : CF yX4_init cX4_init 2 none 1 := ⟨kc_X4_init, kj_X4, ⟨by decide +kernel, by decide +kernel, by decide +kernel⟩, by decide⟩
set_option maxHeartbeats 4000000 in
set_option maxRecDepth 100000 in
theorem cc_X4 (l : Launch) (G : GT) (E : Nat → va_E) (hE : E 406 = .inr (4, [.null, .int 0, .int 0, .null, .int 0])) : MC l G yX4_init cX4_init 2 6 411 3 [.ref (gB G + 406), .ref (gB G + 404)] 407 E 413 (finE G E 406 407) := by
  unfold MC
  refine metc_in RX4 (by decide +kernel) rfl rfl [(0, .ref (gB G + 406)), (1, .ref (gB G + 404))] rfl (Nat.le_of_ble_eq_true rfl) ?_
  intro pM eM sM mM aM bM meM cM K hr hin
  refine cg_eq (E' := (upE (finE G E 406 407) 406 (.inr (4, [.null, .int 0, .int 0, .null, .int 0])))) (nf_start hE) ?_
  refine go_aload_n K.1 dX4_init_0 0 rfl rfl ?_
  refine cg_obj K km_X4_3 (by decide) (by decide) (Nat.le_of_ble_eq_true rfl) dX4_init_1 ?_
  refine go_aload_n K.1 dX4_init_4 0 rfl rfl ?_
  refine cg_new K inX6 tyX6 tyX6_ok kl_X4_9 ka_X6 kj_X6 (ci := 6) rfl (fs := [.null, .null, .null, .null, .null, .int 0, .int 0]) (fun j hj => by rcases (show j = 0 ∨ j = 1 ∨ j = 2 ∨ j = 3 ∨ j = 4 ∨ j = 5 ∨ j = 6 by omega) with rfl | rfl | rfl | rfl | rfl | rfl | rfl <;> rfl) (Nat.le_of_ble_eq_true rfl) (Nat.le_of_ble_eq_true rfl) dX4_init_5 ?_
  refine go_dup K.1 dX4_init_8 rfl ?_
  refine cg_call K (As := []) (cc_X6 l G sc_407 _ upE_eq) cf_X6_init ki_X6_init rfl (Or.inr (List.mem_of_getElem? (i := 5) rfl)) (by decide) (by decide) ⟨Nat.le_of_ble_eq_true rfl, Nat.le_of_ble_eq_true rfl⟩ rfl rfl (Nat.le_of_ble_eq_true rfl) dX4_init_9 ?_
  refine cg_eq (E' := (upE (finE G E 406 407) 406 (.inr (4, [.null, .int 0, .int 0, .null, .int 0])))) (nf_obj (ff_up (m := 407) ff_fin (by omega) (by omega)) (by omega) (by omega)) ?_
  refine cg_put K (i := 406) (by omega) upE_eq rfl inX4 tyX4_ok nmX4 0 (by decide) kf_X4_12 (Or.inr ⟨rfl, hin, rfl⟩) rfl rfl (Nat.le_of_ble_eq_true rfl) dX4_init_12 ?_
  refine cg_eq (E' := (upE (finE G E 406 407) 406 (.inr (4, [.ref (gB G + 407), .int 0, .int 0, .null, .int 0])))) nf_put ?_
  refine go_aload_n K.1 dX4_init_15 0 rfl rfl ?_
  refine go_iconst (v := (-1 : Int32)) K.1 dX4_init_16 (by decide) ?_
  refine cg_put K (i := 406) (by omega) upE_eq rfl inX4 tyX4_ok nmX4 1 (by decide) kf_X4_18 (Or.inl rfl) rfl rfl (Nat.le_of_ble_eq_true rfl) dX4_init_17 ?_
  refine cg_eq (E' := (upE (finE G E 406 407) 406 (.inr (4, [.ref (gB G + 407), .int (-1 : Int32), .int 0, .null, .int 0])))) nf_put ?_
  refine go_aload_n K.1 dX4_init_20 0 rfl rfl ?_
  refine go_iconst (v := (-1 : Int32)) K.1 dX4_init_21 (by decide) ?_
  refine cg_put K (i := 406) (by omega) upE_eq rfl inX4 tyX4_ok nmX4 2 (by decide) kf_X4_22 (Or.inl rfl) rfl rfl (Nat.le_of_ble_eq_true rfl) dX4_init_22 ?_
  refine cg_eq (E' := (upE (finE G E 406 407) 406 (.inr (4, [.ref (gB G + 407), .int (-1 : Int32), .int (-1 : Int32), .null, .int 0])))) nf_put ?_
  refine go_aload_n K.1 dX4_init_25 0 rfl rfl ?_
  refine go_aload_n K.1 dX4_init_26 1 rfl rfl ?_
  refine cg_put K (i := 406) (by omega) upE_eq rfl inX4 tyX4_ok nmX4 3 (by decide) kf_X4_25 (Or.inr ⟨rfl, hin, rfl⟩) rfl rfl (Nat.le_of_ble_eq_true rfl) dX4_init_27 ?_
  refine cg_eq (E' := (upE (finE G E 406 407) 406 (.inr (4, [.ref (gB G + 407), .int (-1 : Int32), .int (-1 : Int32), .ref (gB G + 404), .int 0])))) nf_put ?_
  exact cg_ret K hr (nf_end rfl) dX4_init_30
theorem cg_eqv {p : Program} {l : Launch} {e : Env} {R : Room} {cells slots : Nat} {s : State} {m : MethodId} {args : Array Value} {below : List Frame} {meth : Method} {c : Code} {Q : State → Prop} {G : GT} {nL n : Nat} {E E' : Nat → va_E} {pc : Nat} {lv : List (Nat × Value)} {st : List Value} (hE : ∀ j, j < n → ∀ H : Heap, va_at G.1 vwCl (gB G + j, E j) H → va_at G.1 vwCl (gB G + j, E' j) H) (kk : GOg p l e R cells slots s m args below meth c Q G nL (CW G n E') pc lv st) : GOg p l e R cells slots s m args below meth c Q G nL (CW G n E) pc lv st := fun H o ls h1 h2 h3 => kk H o ls ⟨h1.1, fun j hj => hE j hj H (h1.2 j hj)⟩ h2 h3
theorem row_fun {b k : Nat} (g : Nat → Nat) : va_up (fun j => if j < k then some (b + g j) else none) k (some (b + g k)) = fun j => if j < k + 1 then some (b + g j) else none := by
  funext j
  unfold va_up
  by_cases h : j = k
  · subst h; simp
  · simp only [if_neg h]
    by_cases h2 : j < k
    · rw [if_pos h2, if_pos (by omega)]
    · rw [if_neg h2, if_neg (by omega)]
theorem wh_bf9 {w k : Nat} (h : WhAt w) (hk : k < 30) : StAt (w + 8 + 1 + 6 * k) := by
  rcases h with rfl | rfl
  · exact (st_bf0 _ hk).1
  · exact (st_bf0 _ hk).2
theorem fin_st {G : GT} {i : Nat} (hs : StAt i) : finG G i = .inr (7, [.int 0, .int 0, .int 0, .int 97, .int 0, .ref (gB G + (i + 1)), .ref (gB G + (i + 2)), .ref (gB G + (i + 3)), .ref (gB G + (i + 4)), .ref (gB G + (i + 5))]) := by
  unfold finG cellM; rw [ce_X7 hs]; simp only [fsX, C0_st hs.2.1]; rfl
theorem fin_wh {G : GT} {w : Nat} (hs : WhAt w) : (.inr (10, [.ref (gB G + (w + 1)), .ref (gB G + (w + 7)), .int 0, .int (-1 : Int32), .int 0, .ref (gB G + (w + 8)), .int 0]) : va_E) = finG G w := by
  unfold finG cellM; rw [ce_X10 hs]; simp only [fsX, C0_wh (se_X10 hs)]; rfl
theorem fin_bf {G : GT} {w : Nat} (hs : WhAt w) : (.inl (G.2.1 4, 30, .inr (.inr (.inr (.inr (fun j => some (gB G + (w + 8 + 1 + 6 * j))))))) : va_E) = finG G (w + 8) := by
  unfold finG; rw [cm25 (wh_bf hs)]
theorem cf_X10_init : CF yX10_init cX10_init 2 none 0 := ⟨kc_X10_init, kj_X10, ⟨by decide +kernel, by decide +kernel, by decide +kernel⟩, by decide⟩
set_option maxHeartbeats 4000000 in
set_option maxRecDepth 100000 in
theorem cc_X10 (l : Launch) (G : GT) {w : Nat} (hs : WhAt w) (E : Nat → va_E) (hE : E w = .inr (10, [.null, .null, .int 0, .int 0, .int 0, .null, .int 0])) : MC l G yX10_init cX10_init 2 188 5305 3 [.ref (gB G + w)] (w + 1) E (w + 189) (finE G E w (w + 1)) := by
  unfold MC
  refine metc_in RX10 (by decide +kernel) rfl rfl [(0, .ref (gB G + w))] rfl (Nat.le_of_ble_eq_true rfl) ?_
  intro pM eM sM mM aM bM meM cM K hr hin
  refine cg_eq (E' := (upE (finE G E w (w + 1)) w (.inr (10, [.null, .null, .int 0, .int 0, .int 0, .null, .int 0])))) (nf_start hE) ?_
  refine go_aload_n K.1 dX10_init_0 0 rfl rfl ?_
  refine cg_obj K km_X10_3 (by decide) (by decide) (Nat.le_of_ble_eq_true rfl) dX10_init_1 ?_
  refine go_aload_n K.1 dX10_init_4 0 rfl rfl ?_
  refine cg_new K inX7 tyX7 tyX7_ok kl_X10_9 ka_X7 kj_X7 (ci := 7) rfl (fs := [.int 0, .int 0, .int 0, .int 0, .int 0, .null, .null, .null, .null, .null]) (fun j hj => by rcases (show j = 0 ∨ j = 1 ∨ j = 2 ∨ j = 3 ∨ j = 4 ∨ j = 5 ∨ j = 6 ∨ j = 7 ∨ j = 8 ∨ j = 9 by omega) with rfl | rfl | rfl | rfl | rfl | rfl | rfl | rfl | rfl | rfl <;> rfl) (Nat.le_of_ble_eq_true rfl) (Nat.le_of_ble_eq_true rfl) dX10_init_5 ?_
  refine go_dup K.1 dX10_init_8 rfl ?_
  refine cg_call K (As := []) (cc_X7 l G (wh_st hs) _ upE_eq) cf_X7_init ki_X7_init rfl (Or.inr (List.mem_of_getElem? (i := 1) rfl)) (by decide) (by decide) ⟨Nat.le_of_ble_eq_true rfl, Nat.le_of_ble_eq_true rfl⟩ rfl rfl (Nat.le_of_ble_eq_true rfl) dX10_init_9 ?_
  refine cg_eq (E' := (upE (finE G E w (w + 1)) w (.inr (10, [.null, .null, .int 0, .int 0, .int 0, .null, .int 0])))) (nf_obj (ff_up (m := (w + 1)) ff_fin (by omega) (by omega)) (by omega) (by omega)) ?_
  refine cg_put K (i := w) (by omega) upE_eq rfl inX10 tyX10_ok nmX10 0 (by decide) kf_X10_12 (Or.inr ⟨rfl, hin, rfl⟩) rfl rfl (Nat.le_of_ble_eq_true rfl) dX10_init_12 ?_
  refine cg_eq (E' := (upE (finE G E w (w + 1)) w (.inr (10, [.ref (gB G + (w + 1)), .null, .int 0, .int 0, .int 0, .null, .int 0])))) nf_put ?_
  refine go_aload_n K.1 dX10_init_15 0 rfl rfl ?_
  refine go_iconst (v := (5 : Int32)) K.1 dX10_init_16 (by decide) ?_
  refine cg_newa K (atype := .int) kr_1_46 (t0 := 0) (cA := G.2.1 0) rfl (fun _ h => by cases h) (N := 5) (a0 := (5, .inl (fun _ => 0))) rfl (by decide) (by decide) (Nat.le_of_ble_eq_true rfl) (Nat.le_of_ble_eq_true rfl) (Nat.le_of_ble_eq_true rfl) dX10_init_17 ?_
  refine go_dup K.1 dX10_init_19 rfl ?_
  refine go_iconst (v := (0 : Int32)) K.1 dX10_init_20 (by decide) ?_
  refine go_iconst (v := (-1 : Int32)) K.1 dX10_init_21 (by decide) ?_
  refine cg_iast K (i := (w + 7)) (by omega) upE_eq (k := 0) (in_k (k := 0) (by decide) (by decide)) (by decide) dX10_init_22 ?_
  refine cg_eq (E' := (upE (upE (finE G E w (w + 1)) w (.inr (10, [.ref (gB G + (w + 1)), .null, .int 0, .int 0, .int 0, .null, .int 0]))) (w + 7) (.inl (G.2.1 0, 5, .inl (upd (fun _ => 0) 0 (-1)))))) nf_put ?_
  refine go_dup K.1 dX10_init_23 rfl ?_
  refine go_iconst (v := (1 : Int32)) K.1 dX10_init_24 (by decide) ?_
  refine go_iconst (v := (-1 : Int32)) K.1 dX10_init_25 (by decide) ?_
  refine cg_iast K (i := (w + 7)) (by omega) upE_eq (k := 1) (in_k (k := 1) (by decide) (by decide)) (by decide) dX10_init_26 ?_
  refine cg_eq (E' := (upE (upE (finE G E w (w + 1)) w (.inr (10, [.ref (gB G + (w + 1)), .null, .int 0, .int 0, .int 0, .null, .int 0]))) (w + 7) (.inl (G.2.1 0, 5, .inl (upd (upd (fun _ => 0) 0 (-1)) 1 (-1)))))) nf_put ?_
  refine go_dup K.1 dX10_init_27 rfl ?_
  refine go_iconst (v := (2 : Int32)) K.1 dX10_init_28 (by decide) ?_
  refine go_iconst (v := (-1 : Int32)) K.1 dX10_init_29 (by decide) ?_
  refine cg_iast K (i := (w + 7)) (by omega) upE_eq (k := 2) (in_k (k := 2) (by decide) (by decide)) (by decide) dX10_init_30 ?_
  refine cg_eq (E' := (upE (upE (finE G E w (w + 1)) w (.inr (10, [.ref (gB G + (w + 1)), .null, .int 0, .int 0, .int 0, .null, .int 0]))) (w + 7) (.inl (G.2.1 0, 5, .inl (upd (upd (upd (fun _ => 0) 0 (-1)) 1 (-1)) 2 (-1)))))) nf_put ?_
  refine go_dup K.1 dX10_init_31 rfl ?_
  refine go_iconst (v := (3 : Int32)) K.1 dX10_init_32 (by decide) ?_
  refine go_iconst (v := (-1 : Int32)) K.1 dX10_init_33 (by decide) ?_
  refine cg_iast K (i := (w + 7)) (by omega) upE_eq (k := 3) (in_k (k := 3) (by decide) (by decide)) (by decide) dX10_init_34 ?_
  refine cg_eq (E' := (upE (upE (finE G E w (w + 1)) w (.inr (10, [.ref (gB G + (w + 1)), .null, .int 0, .int 0, .int 0, .null, .int 0]))) (w + 7) (.inl (G.2.1 0, 5, .inl (upd (upd (upd (upd (fun _ => 0) 0 (-1)) 1 (-1)) 2 (-1)) 3 (-1)))))) nf_put ?_
  refine go_dup K.1 dX10_init_35 rfl ?_
  refine go_iconst (v := (4 : Int32)) K.1 dX10_init_36 (by decide) ?_
  refine go_iconst (v := (-1 : Int32)) K.1 dX10_init_37 (by decide) ?_
  refine cg_iast K (i := (w + 7)) (by omega) upE_eq (k := 4) (in_k (k := 4) (by decide) (by decide)) (by decide) dX10_init_38 ?_
  refine cg_eq (E' := (upE (upE (finE G E w (w + 1)) w (.inr (10, [.ref (gB G + (w + 1)), .null, .int 0, .int 0, .int 0, .null, .int 0]))) (w + 7) (.inl (G.2.1 0, 5, .inl (upd (upd (upd (upd (upd (fun _ => 0) 0 (-1)) 1 (-1)) 2 (-1)) 3 (-1)) 4 (-1)))))) nf_put ?_
  refine cg_eq (E' := (upE (finE G E w (w + 1)) w (.inr (10, [.ref (gB G + (w + 1)), .null, .int 0, .int 0, .int 0, .null, .int 0])))) (nf_full (ff_up (m := (w + 1)) ff_fin (by omega) (by omega)) (by omega) (fin_nk hs)) ?_
  refine cg_put K (i := w) (by omega) upE_eq rfl inX10 tyX10_ok nmX10 1 (by decide) kf_X10_18 (Or.inr ⟨rfl, hin, rfl⟩) rfl rfl (Nat.le_of_ble_eq_true rfl) dX10_init_39 ?_
  refine cg_eq (E' := (upE (finE G E w (w + 1)) w (.inr (10, [.ref (gB G + (w + 1)), .ref (gB G + (w + 7)), .int 0, .int 0, .int 0, .null, .int 0])))) nf_put ?_
  refine go_aload_n K.1 dX10_init_42 0 rfl rfl ?_
  refine go_iconst (v := (-1 : Int32)) K.1 dX10_init_43 (by decide) ?_
  refine cg_put K (i := w) (by omega) upE_eq rfl inX10 tyX10_ok nmX10 3 (by decide) kf_X10_22 (Or.inl rfl) rfl rfl (Nat.le_of_ble_eq_true rfl) dX10_init_44 ?_
  refine cg_eq (E' := (upE (finE G E w (w + 1)) w (.inr (10, [.ref (gB G + (w + 1)), .ref (gB G + (w + 7)), .int 0, .int (-1 : Int32), .int 0, .null, .int 0])))) nf_put ?_
  refine go_aload_n K.1 dX10_init_47 0 rfl rfl ?_
  refine go_bipush (v := (30 : Int32)) K.1 dX10_init_48 (by decide) ?_
  refine cg_anew K (C := "BowsOwed$State") (t0 := 4) (cA := G.2.1 4) K.2.1 kl_X10_9 rfl (N := 30) (by decide) (by decide) (by decide) (Nat.le_of_ble_eq_true rfl) (Nat.le_of_ble_eq_true rfl) dX10_init_50 ?_
  refine cg_put K (i := w) (by omega) ((upE_ne (by omega)).trans upE_eq) rfl inX10 tyX10_ok nmX10 5 (by decide) kf_X10_26 (Or.inr ⟨rfl, hin, rfl⟩) rfl rfl (Nat.le_of_ble_eq_true rfl) dX10_init_53 ?_
  refine cg_eq (E' := (upE (upE (finE G E w (w + 1)) w (.inr (10, [.ref (gB G + (w + 1)), .ref (gB G + (w + 7)), .int 0, .int (-1 : Int32), .int 0, .ref (gB G + (w + 8)), .int 0]))) (w + 8) (.inl (G.2.1 4, 30, .inr (.inr (.inr (.inr (fun _ => none)))))))) (nf_put2 (by omega)) ?_
  refine go_iconst (v := (0 : Int32)) K.1 dX10_init_56 (by decide) ?_
  refine go_istore_n K.1 dX10_init_57 rfl (by decide) (lv' := [(1, .int (0 : Int32)), (0, .ref (gB G + w))]) rfl ?_
  have hl : ∀ (d k : Nat), k + d = 30 → GOg pM l eM (rmC 3 188 5305) (8 + 6 * k) (205 + 170 * k) sM mM aM bM meM cM (MQ bM (va_Qv (fun (_ : Unit) => True) (fun _ U => cB G ((w + 189)) (finE G E w (w + 1)) U) (Fr G)) aM sM 188 5305 (Fr G)) G 2 (CW G ((w + 8 + 1 + 6 * k)) (upE (upE (finE G E w (w + 1)) w (.inr (10, [.ref (gB G + (w + 1)), .ref (gB G + (w + 7)), .int 0, .int (-1 : Int32), .int 0, .ref (gB G + (w + 8)), .int 0]))) (w + 8) (.inl (G.2.1 4, 30, .inr (.inr (.inr (.inr (fun j => if j < k then some (gB G + (w + 8 + 1 + 6 * j)) else none)))))))) 58 [(1, .int (nI k)), (0, .ref (gB G + w))] [] := by
    intro d
    induction d with
    | zero =>
      intro k hk
      obtain rfl : k = 30 := by omega
      refine go_iload_n K.1 dX10_init_58 0 rfl rfl ?_
      refine go_aload_n K.1 dX10_init_59 1 rfl rfl ?_
      refine cg_get K (i := w) (by omega) ((upE_ne (by omega)).trans upE_eq) rfl inX10 5 (by decide) kf_X10_26 (v := .ref (gB G + (w + 8))) rfl dX10_init_60 ?_
      intro H o ls h1 h2 h3
      refine va_alen (D := G.1) (cl := vwCl) (tys := tysG G) (ws := [(gB G + (w + 8), (.inl (G.2.1 4, 30, .inr (.inr (.inr (.inr (fun j => if j < 30 then some (gB G + (w + 8 + 1 + 6 * j)) else none)))))))]) K.1.1 K.1.2.1 K.1.2.2.2.2.2.1.1 (fun q x hx => by
        match q, hx with
        | 0, hx => cases hx; have h := h1.2 ((w + 8)) (by omega); rw [upE_eq] at h; exact h) 0 4 rfl rfl (v := (30 : Int32)) rfl dX10_init_63 ?_
      revert h1 h2 h3
      revert H o ls
      show GOg pM l eM (rmC 3 188 5305) (8 + 6 * 30) (205 + 170 * 30) sM mM aM bM meM cM (MQ bM (va_Qv (fun (_ : Unit) => True) (fun _ U => cB G ((w + 189)) (finE G E w (w + 1)) U) (Fr G)) aM sM 188 5305 (Fr G)) G 2 (CW G ((w + 8 + 1 + 6 * 30)) (upE (upE (finE G E w (w + 1)) w (.inr (10, [.ref (gB G + (w + 1)), .ref (gB G + (w + 7)), .int 0, .int (-1 : Int32), .int 0, .ref (gB G + (w + 8)), .int 0]))) (w + 8) (.inl (G.2.1 4, 30, .inr (.inr (.inr (.inr (fun j => if j < 30 then some (gB G + (w + 8 + 1 + 6 * j)) else none)))))))) 64 [(1, .int (nI 30)), (0, .ref (gB G + w))] [.int (30 : Int32), .int (nI 30)]
      refine go_icmp_ge (tgt := 86) K.1 dX10_init_64 (by decide) (fun _ => ?_) (fun hc => absurd (by decide) hc)
      refine cg_eqv (E' := finE G E w (w + 1)) (fun j hj H0 hat => ?_) ?_
      · by_cases h1 : j = (w + 8)
        · rw [h1] at hat ⊢
          rw [upE_eq] at hat
          rw [show finE G E w (w + 1) (w + 8) = finG G (w + 8) from if_pos (Or.inr (by omega)), ← (fin_bf hs)]
          refine Eq.trans hat (congrArg some (arr_congr (fun q hq => ?_)))
          rw [if_pos hq]
        · rw [upE_ne h1] at hat
          by_cases h2 : j = w
          · rw [h2] at hat ⊢
            rw [upE_eq] at hat
            rw [show finE G E w (w + 1) w = finG G w from if_pos (Or.inl rfl), ← (fin_wh hs)]; exact hat
          · rw [upE_ne h2] at hat; exact hat
      exact cg_ret K hr (fun j _ => rfl) dX10_init_86
    | succ d ih =>
      intro k hk
      refine go_iload_n K.1 dX10_init_58 0 rfl rfl ?_
      refine go_aload_n K.1 dX10_init_59 1 rfl rfl ?_
      refine cg_get K (i := w) (by omega) ((upE_ne (by omega)).trans upE_eq) rfl inX10 5 (by decide) kf_X10_26 (v := .ref (gB G + (w + 8))) rfl dX10_init_60 ?_
      intro H o ls h1 h2 h3
      refine va_alen (D := G.1) (cl := vwCl) (tys := tysG G) (ws := [(gB G + (w + 8), (.inl (G.2.1 4, 30, .inr (.inr (.inr (.inr (fun j => if j < k then some (gB G + (w + 8 + 1 + 6 * j)) else none)))))))]) K.1.1 K.1.2.1 K.1.2.2.2.2.2.1.1 (fun q x hx => by
        match q, hx with
        | 0, hx => cases hx; have h := h1.2 ((w + 8)) (by omega); rw [upE_eq] at h; exact h) 0 4 rfl rfl (v := (30 : Int32)) rfl dX10_init_63 ?_
      revert h1 h2 h3
      revert H o ls
      show GOg pM l eM (rmC 3 188 5305) (8 + 6 * k) (205 + 170 * k) sM mM aM bM meM cM (MQ bM (va_Qv (fun (_ : Unit) => True) (fun _ U => cB G ((w + 189)) (finE G E w (w + 1)) U) (Fr G)) aM sM 188 5305 (Fr G)) G 2 (CW G ((w + 8 + 1 + 6 * k)) (upE (upE (finE G E w (w + 1)) w (.inr (10, [.ref (gB G + (w + 1)), .ref (gB G + (w + 7)), .int 0, .int (-1 : Int32), .int 0, .ref (gB G + (w + 8)), .int 0]))) (w + 8) (.inl (G.2.1 4, 30, .inr (.inr (.inr (.inr (fun j => if j < k then some (gB G + (w + 8 + 1 + 6 * j)) else none)))))))) 64 [(1, .int (nI k)), (0, .ref (gB G + w))] [.int (30 : Int32), .int (nI k)]
      refine go_icmp_ge (tgt := 86) K.1 dX10_init_64 (by decide) (fun hc => absurd hc (nI_ge (b := 30) (by omega) (by decide))) (fun _ => ?_)
      refine go_aload_n K.1 dX10_init_67 1 rfl rfl ?_
      refine cg_get K (i := w) (by omega) ((upE_ne (by omega)).trans upE_eq) rfl inX10 5 (by decide) kf_X10_26 (v := .ref (gB G + (w + 8))) rfl dX10_init_68 ?_
      refine go_iload_n K.1 dX10_init_71 0 rfl rfl ?_
      refine cg_new K inX7 tyX7 tyX7_ok kl_X10_9 ka_X7 kj_X7 (ci := 7) rfl (fs := [.int 0, .int 0, .int 0, .int 0, .int 0, .null, .null, .null, .null, .null]) (fun j hj => by rcases (show j = 0 ∨ j = 1 ∨ j = 2 ∨ j = 3 ∨ j = 4 ∨ j = 5 ∨ j = 6 ∨ j = 7 ∨ j = 8 ∨ j = 9 by omega) with rfl | rfl | rfl | rfl | rfl | rfl | rfl | rfl | rfl | rfl <;> rfl) (by show _ ≤ 188; omega) (by show _ ≤ 5305; omega) dX10_init_72 ?_
      refine go_dup K.1 dX10_init_75 rfl ?_
      refine cg_call K (As := []) (cc_X7 l G (wh_bf9 hs (show k < 30 by omega)) _ upE_eq) cf_X7_init ki_X7_init rfl (Or.inr (List.mem_of_getElem? (i := 1) rfl)) (by decide) (by decide) ⟨by show _ ≤ 188; omega, by show _ ≤ 5305; omega⟩ rfl rfl (Nat.le_of_ble_eq_true rfl) dX10_init_76 ?_
      refine cg_eq (E' := (upE (upE (finE G E w (w + 1)) w (.inr (10, [.ref (gB G + (w + 1)), .ref (gB G + (w + 7)), .int 0, .int (-1 : Int32), .int 0, .ref (gB G + (w + 8)), .int 0]))) (w + 8) (.inl (G.2.1 4, 30, .inr (.inr (.inr (.inr (fun j => if j < k then some (gB G + (w + 8 + 1 + 6 * j)) else none)))))))) (nf_obj (ff_up (m := (w + 9)) (ff_up (m := (w + 1)) ff_fin (by omega) (by omega)) (by omega) (by omega)) (by omega) (by omega)) ?_
      refine cg_aast K (i := (w + 8)) (j := (w + 8 + 1 + 6 * k)) (t0 := 4) (r := (RX7, TX7, 10)) (N := 30) (by omega) upE_eq rfl (by omega) ((upE_ne (by omega)).trans ((upE_ne (by omega)).trans ((if_pos (Or.inr (by omega))).trans (fin_st (wh_bf9 hs (show k < 30 by omega)))))) rfl (k := k) (vp_in_nI (by omega) (by decide)) (nI_clamp (by omega)) dX10_init_79 ?_
      refine cg_eq (E' := (upE (upE (finE G E w (w + 1)) w (.inr (10, [.ref (gB G + (w + 1)), .ref (gB G + (w + 7)), .int 0, .int (-1 : Int32), .int 0, .ref (gB G + (w + 8)), .int 0]))) (w + 8) (.inl (G.2.1 4, 30, .inr (.inr (.inr (.inr (fun j => if j < (k + 1) then some (gB G + (w + 8 + 1 + 6 * j)) else none)))))))) (fun j hj => (nf_put (k := j + 1) j (by omega)).trans (congrArg (fun z => upE (upE (finE G E w (w + 1)) w (.inr (10, [.ref (gB G + (w + 1)), .ref (gB G + (w + 7)), .int 0, .int (-1 : Int32), .int 0, .ref (gB G + (w + 8)), .int 0]))) (w + 8) (.inl (G.2.1 4, 30, .inr (.inr (.inr (.inr z))))) j) (row_fun (fun j => (w + 8 + 1 + 6 * j))))) ?_
      refine go_iinc K.1 dX10_init_80 0 rfl (v := nI (k + 1)) (nI_1 k) (by decide) (lv' := [(1, .int (nI (k + 1))), (0, .ref (gB G + w))]) rfl ?_
      refine go_goto (tgt := 58) K.1 dX10_init_83 (by decide) ?_
      exact ih (k + 1) (by omega)
  refine cg_eq (E' := (upE (upE (finE G E w (w + 1)) w (.inr (10, [.ref (gB G + (w + 1)), .ref (gB G + (w + 7)), .int 0, .int (-1 : Int32), .int 0, .ref (gB G + (w + 8)), .int 0]))) (w + 8) (.inl (G.2.1 4, 30, .inr (.inr (.inr (.inr (fun j => if j < 0 then some (gB G + (w + 8 + 1 + 6 * j)) else none)))))))) (fun j hj => congrArg (fun z => upE (upE (finE G E w (w + 1)) w (.inr (10, [.ref (gB G + (w + 1)), .ref (gB G + (w + 7)), .int 0, .int (-1 : Int32), .int 0, .ref (gB G + (w + 8)), .int 0]))) (w + 8) (.inl (G.2.1 4, 30, .inr (.inr (.inr (.inr z))))) j) (funext fun q => (if_neg (Nat.not_lt_zero q)).symm)) ?_
  exact hl 30 0 rfl
theorem fin_sc {G : GT} {i : Nat} (hs : ScAt i) : finG G i = .inr (6, [.ref (gB G + (i + 1)), .ref (gB G + (i + 2)), .ref (gB G + (i + 3)), .ref (gB G + (i + 4)), .ref (gB G + (i + 5)), .int 0, .int 0]) := by
  unfold finG cellM; rw [ce_X6 hs]; simp only [fsX, C0_sc hs.2.1]
theorem fin_tx {G : GT} : (.inl (G.2.1 3, 4, .inr (.inr (.inr (.inr (fun j => some (gB G + (422 + 6 * j))))))) : va_E) = finG G 389 := by
  unfold finG; rw [cm24 (show SH 389 = (24, 4) from rfl)]
theorem sc_txk {k : Nat} (hk : k < 4) : ScAt (422 + 6 * k) := isSc_at (Or.inr (by omega))
theorem cf_X11_init : CF yX11_init cX11_init 2 none 0 := ⟨kc_X11_init, kj_X11, ⟨by decide +kernel, by decide +kernel, by decide +kernel⟩, by decide⟩
set_option maxHeartbeats 4000000 in
set_option maxRecDepth 100000 in
theorem cc_X11 (l : Launch) (G : GT) (E : Nat → va_E) (hE : E 0 = .inr (11, [.null, .null, .null, .null, .null, .null, .null, .null, .null, .null, .null, .null])) : MC l G yX11_init cX11_init 2 445 14070 4 [.ref (gB G + 0)] 1 E 446 (finE G E 0 1) := by
  unfold MC
  refine metc_in RX11 (by decide +kernel) rfl rfl [(0, .ref (gB G + 0))] rfl (Nat.le_of_ble_eq_true rfl) ?_
  intro pM eM sM mM aM bM meM cM K hr hin
  refine cg_eq (E' := (upE (finE G E 0 1) 0 (.inr (11, [.null, .null, .null, .null, .null, .null, .null, .null, .null, .null, .null, .null])))) (nf_start hE) ?_
  refine go_aload_n K.1 dX11_init_0 0 rfl rfl ?_
  refine cg_obj K km_X11_1 (by decide) (by decide) (Nat.le_of_ble_eq_true rfl) dX11_init_1 ?_
  refine go_aload_n K.1 dX11_init_4 0 rfl rfl ?_
  refine cg_new K inX3 tyX3 tyX3_ok kl_X11_7 ka_X3 kj_X3 (ci := 3) rfl (fs := [.null, .null, .null]) (fun j hj => by rcases (show j = 0 ∨ j = 1 ∨ j = 2 by omega) with rfl | rfl | rfl <;> rfl) (Nat.le_of_ble_eq_true rfl) (Nat.le_of_ble_eq_true rfl) dX11_init_5 ?_
  refine go_dup K.1 dX11_init_8 rfl ?_
  refine cg_call K (As := []) (cc_X3 l G _ upE_eq) cf_X3_init ki_X3_init rfl (Or.inr (List.mem_of_getElem? (i := 0) rfl)) (by decide) (by decide) ⟨Nat.le_of_ble_eq_true rfl, Nat.le_of_ble_eq_true rfl⟩ rfl rfl (Nat.le_of_ble_eq_true rfl) dX11_init_9 ?_
  refine cg_eq (E' := (upE (finE G E 0 1) 0 (.inr (11, [.null, .null, .null, .null, .null, .null, .null, .null, .null, .null, .null, .null])))) (nf_obj (ff_up (m := 1) ff_fin (by omega) (by omega)) (by omega) (by omega)) ?_
  refine cg_put K (i := 0) (by omega) upE_eq rfl inX11 tyX11_ok nmX11 0 (by decide) kf_X11_10 (Or.inr ⟨rfl, hin, rfl⟩) rfl rfl (Nat.le_of_ble_eq_true rfl) dX11_init_12 ?_
  refine cg_eq (E' := (upE (finE G E 0 1) 0 (.inr (11, [.ref (gB G + 1), .null, .null, .null, .null, .null, .null, .null, .null, .null, .null, .null])))) nf_put ?_
  refine go_aload_n K.1 dX11_init_15 0 rfl rfl ?_
  refine cg_new K inX10 tyX10 tyX10_ok kl_X11_16 ka_X10 kj_X10 (ci := 10) rfl (fs := [.null, .null, .int 0, .int 0, .int 0, .null, .int 0]) (fun j hj => by rcases (show j = 0 ∨ j = 1 ∨ j = 2 ∨ j = 3 ∨ j = 4 ∨ j = 5 ∨ j = 6 by omega) with rfl | rfl | rfl | rfl | rfl | rfl | rfl <;> rfl) (Nat.le_of_ble_eq_true rfl) (Nat.le_of_ble_eq_true rfl) dX11_init_16 ?_
  refine go_dup K.1 dX11_init_19 rfl ?_
  refine cg_call K (As := []) (cc_X10 l G wh_5 _ upE_eq) cf_X10_init ki_X10_init rfl (Or.inl km_X11_18) (by decide) (by decide) ⟨Nat.le_of_ble_eq_true rfl, Nat.le_of_ble_eq_true rfl⟩ rfl rfl (Nat.le_of_ble_eq_true rfl) dX11_init_20 ?_
  refine cg_eq (E' := (upE (finE G E 0 1) 0 (.inr (11, [.ref (gB G + 1), .null, .null, .null, .null, .null, .null, .null, .null, .null, .null, .null])))) (nf_obj (ff_up (m := 1) ff_fin (by omega) (by omega)) (by omega) (by omega)) ?_
  refine cg_put K (i := 0) (by omega) upE_eq rfl inX11 tyX11_ok nmX11 1 (by decide) kf_X11_19 (Or.inr ⟨rfl, hin, rfl⟩) rfl rfl (Nat.le_of_ble_eq_true rfl) dX11_init_23 ?_
  refine cg_eq (E' := (upE (finE G E 0 1) 0 (.inr (11, [.ref (gB G + 1), .ref (gB G + 5), .null, .null, .null, .null, .null, .null, .null, .null, .null, .null])))) nf_put ?_
  refine go_aload_n K.1 dX11_init_26 0 rfl rfl ?_
  refine cg_new K inX10 tyX10 tyX10_ok kl_X11_16 ka_X10 kj_X10 (ci := 10) rfl (fs := [.null, .null, .int 0, .int 0, .int 0, .null, .int 0]) (fun j hj => by rcases (show j = 0 ∨ j = 1 ∨ j = 2 ∨ j = 3 ∨ j = 4 ∨ j = 5 ∨ j = 6 by omega) with rfl | rfl | rfl | rfl | rfl | rfl | rfl <;> rfl) (Nat.le_of_ble_eq_true rfl) (Nat.le_of_ble_eq_true rfl) dX11_init_27 ?_
  refine go_dup K.1 dX11_init_30 rfl ?_
  refine cg_call K (As := []) (cc_X10 l G wh_194 _ upE_eq) cf_X10_init ki_X10_init rfl (Or.inl km_X11_18) (by decide) (by decide) ⟨Nat.le_of_ble_eq_true rfl, Nat.le_of_ble_eq_true rfl⟩ rfl rfl (Nat.le_of_ble_eq_true rfl) dX11_init_31 ?_
  refine cg_eq (E' := (upE (finE G E 0 1) 0 (.inr (11, [.ref (gB G + 1), .ref (gB G + 5), .null, .null, .null, .null, .null, .null, .null, .null, .null, .null])))) (nf_obj (ff_up (m := 1) ff_fin (by omega) (by omega)) (by omega) (by omega)) ?_
  refine cg_put K (i := 0) (by omega) upE_eq rfl inX11 tyX11_ok nmX11 2 (by decide) kf_X11_23 (Or.inr ⟨rfl, hin, rfl⟩) rfl rfl (Nat.le_of_ble_eq_true rfl) dX11_init_34 ?_
  refine cg_eq (E' := (upE (finE G E 0 1) 0 (.inr (11, [.ref (gB G + 1), .ref (gB G + 5), .ref (gB G + 194), .null, .null, .null, .null, .null, .null, .null, .null, .null])))) nf_put ?_
  refine go_aload_n K.1 dX11_init_37 0 rfl rfl ?_
  refine cg_new K inX6 tyX6 tyX6_ok kl_X11_26 ka_X6 kj_X6 (ci := 6) rfl (fs := [.null, .null, .null, .null, .null, .int 0, .int 0]) (fun j hj => by rcases (show j = 0 ∨ j = 1 ∨ j = 2 ∨ j = 3 ∨ j = 4 ∨ j = 5 ∨ j = 6 by omega) with rfl | rfl | rfl | rfl | rfl | rfl | rfl <;> rfl) (Nat.le_of_ble_eq_true rfl) (Nat.le_of_ble_eq_true rfl) dX11_init_38 ?_
  refine go_dup K.1 dX11_init_41 rfl ?_
  refine cg_call K (As := []) (cc_X6 l G sc_383 _ upE_eq) cf_X6_init ki_X6_init rfl (Or.inr (List.mem_of_getElem? (i := 2) rfl)) (by decide) (by decide) ⟨Nat.le_of_ble_eq_true rfl, Nat.le_of_ble_eq_true rfl⟩ rfl rfl (Nat.le_of_ble_eq_true rfl) dX11_init_42 ?_
  refine cg_eq (E' := (upE (finE G E 0 1) 0 (.inr (11, [.ref (gB G + 1), .ref (gB G + 5), .ref (gB G + 194), .null, .null, .null, .null, .null, .null, .null, .null, .null])))) (nf_obj (ff_up (m := 1) ff_fin (by omega) (by omega)) (by omega) (by omega)) ?_
  refine cg_put K (i := 0) (by omega) upE_eq rfl inX11 tyX11_ok nmX11 3 (by decide) kf_X11_29 (Or.inr ⟨rfl, hin, rfl⟩) rfl rfl (Nat.le_of_ble_eq_true rfl) dX11_init_45 ?_
  refine cg_eq (E' := (upE (finE G E 0 1) 0 (.inr (11, [.ref (gB G + 1), .ref (gB G + 5), .ref (gB G + 194), .ref (gB G + 383), .null, .null, .null, .null, .null, .null, .null, .null])))) nf_put ?_
  refine go_aload_n K.1 dX11_init_48 0 rfl rfl ?_
  refine go_iconst (v := (4 : Int32)) K.1 dX11_init_49 (by decide) ?_
  refine cg_anew K (C := "BowsOwed$Script") (t0 := 3) (cA := G.2.1 3) K.2.2 kl_X11_26 rfl (N := 4) (by decide) (by decide) (by decide) (Nat.le_of_ble_eq_true rfl) (Nat.le_of_ble_eq_true rfl) dX11_init_50 ?_
  refine cg_put K (i := 0) (by omega) ((upE_ne (by omega)).trans upE_eq) rfl inX11 tyX11_ok nmX11 4 (by decide) kf_X11_33 (Or.inr ⟨rfl, hin, rfl⟩) rfl rfl (Nat.le_of_ble_eq_true rfl) dX11_init_53 ?_
  refine cg_eq (E' := (upE (upE (finE G E 0 1) 0 (.inr (11, [.ref (gB G + 1), .ref (gB G + 5), .ref (gB G + 194), .ref (gB G + 383), .ref (gB G + 389), .null, .null, .null, .null, .null, .null, .null]))) 389 (.inl (G.2.1 3, 4, .inr (.inr (.inr (.inr (fun _ => none)))))))) (nf_put2 (by omega)) ?_
  refine go_aload_n K.1 dX11_init_56 0 rfl rfl ?_
  refine cg_new K inX9 tyX9 tyX9_ok kl_X11_37 ka_X9 kj_X9 (ci := 9) rfl (fs := [.null, .null, .null]) (fun j hj => by rcases (show j = 0 ∨ j = 1 ∨ j = 2 by omega) with rfl | rfl | rfl <;> rfl) (Nat.le_of_ble_eq_true rfl) (Nat.le_of_ble_eq_true rfl) dX11_init_57 ?_
  refine go_dup K.1 dX11_init_60 rfl ?_
  refine go_aload_n K.1 dX11_init_61 0 rfl rfl ?_
  refine cg_get K (i := 0) (by omega) ((upE_ne (by omega)).trans ((upE_ne (by omega)).trans upE_eq)) rfl inX11 0 (by decide) kf_X11_10 (v := .ref (gB G + 1)) rfl dX11_init_62 ?_
  refine go_aload_n K.1 dX11_init_65 0 rfl rfl ?_
  refine cg_get K (i := 0) (by omega) ((upE_ne (by omega)).trans ((upE_ne (by omega)).trans upE_eq)) rfl inX11 1 (by decide) kf_X11_19 (v := .ref (gB G + 5)) rfl dX11_init_66 ?_
  refine cg_get K (i := 5) (by omega) ((upE_ne (by omega)).trans ((upE_ne (by omega)).trans ((upE_ne (by omega)).trans ((if_pos (Or.inr (by omega))).trans (fin_wh wh_5).symm)))) rfl inX10 0 (by decide) kf_X11_39 (v := .ref (gB G + 6)) rfl dX11_init_69 ?_
  refine go_aload_n K.1 dX11_init_72 0 rfl rfl ?_
  refine cg_get K (i := 0) (by omega) ((upE_ne (by omega)).trans ((upE_ne (by omega)).trans upE_eq)) rfl inX11 3 (by decide) kf_X11_29 (v := .ref (gB G + 383)) rfl dX11_init_73 ?_
  refine cg_call K (As := [.ref (gB G + 1), .ref (gB G + 6), .ref (gB G + 383)]) (cc_X9_0 l G _ upE_eq) cf_X9_init ki_X9_init rfl (Or.inl km_X11_43) (by decide) (by decide) ⟨Nat.le_of_ble_eq_true rfl, Nat.le_of_ble_eq_true rfl⟩ rfl rfl (Nat.le_of_ble_eq_true rfl) dX11_init_76 ?_
  refine cg_eq (E' := (upE (upE (finE G E 0 1) 0 (.inr (11, [.ref (gB G + 1), .ref (gB G + 5), .ref (gB G + 194), .ref (gB G + 383), .ref (gB G + 389), .null, .null, .null, .null, .null, .null, .null]))) 389 (.inl (G.2.1 3, 4, .inr (.inr (.inr (.inr (fun _ => none)))))))) (nf_obj (ff_up (m := 390) (ff_up (m := 1) ff_fin (by omega) (by omega)) (by omega) (by omega)) (by omega) (by omega)) ?_
  refine cg_put K (i := 0) (by omega) ((upE_ne (by omega)).trans upE_eq) rfl inX11 tyX11_ok nmX11 5 (by decide) kf_X11_46 (Or.inr ⟨rfl, hin, rfl⟩) rfl rfl (Nat.le_of_ble_eq_true rfl) dX11_init_79 ?_
  refine cg_eq (E' := (upE (upE (finE G E 0 1) 0 (.inr (11, [.ref (gB G + 1), .ref (gB G + 5), .ref (gB G + 194), .ref (gB G + 383), .ref (gB G + 389), .ref (gB G + 390), .null, .null, .null, .null, .null, .null]))) 389 (.inl (G.2.1 3, 4, .inr (.inr (.inr (.inr (fun _ => none)))))))) (nf_put2 (by omega)) ?_
  refine go_aload_n K.1 dX11_init_82 0 rfl rfl ?_
  refine cg_new K inX9 tyX9 tyX9_ok kl_X11_37 ka_X9 kj_X9 (ci := 9) rfl (fs := [.null, .null, .null]) (fun j hj => by rcases (show j = 0 ∨ j = 1 ∨ j = 2 by omega) with rfl | rfl | rfl <;> rfl) (Nat.le_of_ble_eq_true rfl) (Nat.le_of_ble_eq_true rfl) dX11_init_83 ?_
  refine go_dup K.1 dX11_init_86 rfl ?_
  refine go_aload_n K.1 dX11_init_87 0 rfl rfl ?_
  refine cg_get K (i := 0) (by omega) ((upE_ne (by omega)).trans ((upE_ne (by omega)).trans upE_eq)) rfl inX11 0 (by decide) kf_X11_10 (v := .ref (gB G + 1)) rfl dX11_init_88 ?_
  refine cg_new K inX7 tyX7 tyX7_ok kl_X11_50 ka_X7 kj_X7 (ci := 7) rfl (fs := [.int 0, .int 0, .int 0, .int 0, .int 0, .null, .null, .null, .null, .null]) (fun j hj => by rcases (show j = 0 ∨ j = 1 ∨ j = 2 ∨ j = 3 ∨ j = 4 ∨ j = 5 ∨ j = 6 ∨ j = 7 ∨ j = 8 ∨ j = 9 by omega) with rfl | rfl | rfl | rfl | rfl | rfl | rfl | rfl | rfl | rfl <;> rfl) (Nat.le_of_ble_eq_true rfl) (Nat.le_of_ble_eq_true rfl) dX11_init_91 ?_
  refine go_dup K.1 dX11_init_94 rfl ?_
  refine cg_call K (As := []) (cc_X7 l G st_395 _ upE_eq) cf_X7_init ki_X7_init rfl (Or.inr (List.mem_of_getElem? (i := 3) rfl)) (by decide) (by decide) ⟨Nat.le_of_ble_eq_true rfl, Nat.le_of_ble_eq_true rfl⟩ rfl rfl (Nat.le_of_ble_eq_true rfl) dX11_init_95 ?_
  refine cg_eq (E' := (upE (upE (upE (finE G E 0 1) 0 (.inr (11, [.ref (gB G + 1), .ref (gB G + 5), .ref (gB G + 194), .ref (gB G + 383), .ref (gB G + 389), .ref (gB G + 390), .null, .null, .null, .null, .null, .null]))) 389 (.inl (G.2.1 3, 4, .inr (.inr (.inr (.inr (fun _ => none))))))) 394 (.inr (9, [.null, .null, .null])))) (nf_obj (ff_up (m := 395) (ff_up (m := 390) (ff_up (m := 1) ff_fin (by omega) (by omega)) (by omega) (by omega)) (by omega) (by omega)) (by omega) (by omega)) ?_
  refine go_aload_n K.1 dX11_init_98 0 rfl rfl ?_
  refine cg_get K (i := 0) (by omega) ((upE_ne (by omega)).trans ((upE_ne (by omega)).trans upE_eq)) rfl inX11 3 (by decide) kf_X11_29 (v := .ref (gB G + 383)) rfl dX11_init_99 ?_
  refine cg_call K (As := [.ref (gB G + 1), .ref (gB G + 395), .ref (gB G + 383)]) (cc_X9_1 l G _ upE_eq) cf_X9_init ki_X9_init rfl (Or.inl km_X11_43) (by decide) (by decide) ⟨Nat.le_of_ble_eq_true rfl, Nat.le_of_ble_eq_true rfl⟩ rfl rfl (Nat.le_of_ble_eq_true rfl) dX11_init_102 ?_
  refine cg_eq (E' := (upE (upE (finE G E 0 1) 0 (.inr (11, [.ref (gB G + 1), .ref (gB G + 5), .ref (gB G + 194), .ref (gB G + 383), .ref (gB G + 389), .ref (gB G + 390), .null, .null, .null, .null, .null, .null]))) 389 (.inl (G.2.1 3, 4, .inr (.inr (.inr (.inr (fun _ => none)))))))) (nf_obj (ff_up (m := 390) (ff_up (m := 1) ff_fin (by omega) (by omega)) (by omega) (by omega)) (by omega) (by omega)) ?_
  refine cg_put K (i := 0) (by omega) ((upE_ne (by omega)).trans upE_eq) rfl inX11 tyX11_ok nmX11 6 (by decide) kf_X11_53 (Or.inr ⟨rfl, hin, rfl⟩) rfl rfl (Nat.le_of_ble_eq_true rfl) dX11_init_105 ?_
  refine cg_eq (E' := (upE (upE (finE G E 0 1) 0 (.inr (11, [.ref (gB G + 1), .ref (gB G + 5), .ref (gB G + 194), .ref (gB G + 383), .ref (gB G + 389), .ref (gB G + 390), .ref (gB G + 394), .null, .null, .null, .null, .null]))) 389 (.inl (G.2.1 3, 4, .inr (.inr (.inr (.inr (fun _ => none)))))))) (nf_put2 (by omega)) ?_
  refine go_aload_n K.1 dX11_init_108 0 rfl rfl ?_
  refine cg_new K inX8 tyX8 tyX8_ok kl_X11_56 ka_X8 kj_X8 (ci := 8) rfl (fs := [.null, .int 0, .int 0, .int 0, .int 0, .int 0]) (fun j hj => by rcases (show j = 0 ∨ j = 1 ∨ j = 2 ∨ j = 3 ∨ j = 4 ∨ j = 5 by omega) with rfl | rfl | rfl | rfl | rfl | rfl <;> rfl) (Nat.le_of_ble_eq_true rfl) (Nat.le_of_ble_eq_true rfl) dX11_init_109 ?_
  refine go_dup K.1 dX11_init_112 rfl ?_
  refine cg_call K (As := []) (cc_X8 l G _ upE_eq) cf_X8_init ki_X8_init rfl (Or.inr (List.mem_of_getElem? (i := 4) rfl)) (by decide) (by decide) ⟨Nat.le_of_ble_eq_true rfl, Nat.le_of_ble_eq_true rfl⟩ rfl rfl (Nat.le_of_ble_eq_true rfl) dX11_init_113 ?_
  refine cg_eq (E' := (upE (upE (finE G E 0 1) 0 (.inr (11, [.ref (gB G + 1), .ref (gB G + 5), .ref (gB G + 194), .ref (gB G + 383), .ref (gB G + 389), .ref (gB G + 390), .ref (gB G + 394), .null, .null, .null, .null, .null]))) 389 (.inl (G.2.1 3, 4, .inr (.inr (.inr (.inr (fun _ => none)))))))) (nf_obj (ff_up (m := 390) (ff_up (m := 1) ff_fin (by omega) (by omega)) (by omega) (by omega)) (by omega) (by omega)) ?_
  refine cg_put K (i := 0) (by omega) ((upE_ne (by omega)).trans upE_eq) rfl inX11 tyX11_ok nmX11 7 (by decide) kf_X11_59 (Or.inr ⟨rfl, hin, rfl⟩) rfl rfl (Nat.le_of_ble_eq_true rfl) dX11_init_116 ?_
  refine cg_eq (E' := (upE (upE (finE G E 0 1) 0 (.inr (11, [.ref (gB G + 1), .ref (gB G + 5), .ref (gB G + 194), .ref (gB G + 383), .ref (gB G + 389), .ref (gB G + 390), .ref (gB G + 394), .ref (gB G + 404), .null, .null, .null, .null]))) 389 (.inl (G.2.1 3, 4, .inr (.inr (.inr (.inr (fun _ => none)))))))) (nf_put2 (by omega)) ?_
  refine go_aload_n K.1 dX11_init_119 0 rfl rfl ?_
  refine cg_new K inX4 tyX4 tyX4_ok kl_X11_63 ka_X4 kj_X4 (ci := 4) rfl (fs := [.null, .int 0, .int 0, .null, .int 0]) (fun j hj => by rcases (show j = 0 ∨ j = 1 ∨ j = 2 ∨ j = 3 ∨ j = 4 by omega) with rfl | rfl | rfl | rfl | rfl <;> rfl) (Nat.le_of_ble_eq_true rfl) (Nat.le_of_ble_eq_true rfl) dX11_init_120 ?_
  refine go_dup K.1 dX11_init_123 rfl ?_
  refine go_aload_n K.1 dX11_init_124 0 rfl rfl ?_
  refine cg_get K (i := 0) (by omega) ((upE_ne (by omega)).trans ((upE_ne (by omega)).trans upE_eq)) rfl inX11 7 (by decide) kf_X11_59 (v := .ref (gB G + 404)) rfl dX11_init_125 ?_
  refine cg_call K (As := [.ref (gB G + 404)]) (cc_X4 l G _ upE_eq) cf_X4_init ki_X4_init rfl (Or.inl km_X11_65) (by decide) (by decide) ⟨Nat.le_of_ble_eq_true rfl, Nat.le_of_ble_eq_true rfl⟩ rfl rfl (Nat.le_of_ble_eq_true rfl) dX11_init_128 ?_
  refine cg_eq (E' := (upE (upE (finE G E 0 1) 0 (.inr (11, [.ref (gB G + 1), .ref (gB G + 5), .ref (gB G + 194), .ref (gB G + 383), .ref (gB G + 389), .ref (gB G + 390), .ref (gB G + 394), .ref (gB G + 404), .null, .null, .null, .null]))) 389 (.inl (G.2.1 3, 4, .inr (.inr (.inr (.inr (fun _ => none)))))))) (nf_obj (ff_up (m := 390) (ff_up (m := 1) ff_fin (by omega) (by omega)) (by omega) (by omega)) (by omega) (by omega)) ?_
  refine cg_put K (i := 0) (by omega) ((upE_ne (by omega)).trans upE_eq) rfl inX11 tyX11_ok nmX11 8 (by decide) kf_X11_68 (Or.inr ⟨rfl, hin, rfl⟩) rfl rfl (Nat.le_of_ble_eq_true rfl) dX11_init_131 ?_
  refine cg_eq (E' := (upE (upE (finE G E 0 1) 0 (.inr (11, [.ref (gB G + 1), .ref (gB G + 5), .ref (gB G + 194), .ref (gB G + 383), .ref (gB G + 389), .ref (gB G + 390), .ref (gB G + 394), .ref (gB G + 404), .ref (gB G + 406), .null, .null, .null]))) 389 (.inl (G.2.1 3, 4, .inr (.inr (.inr (.inr (fun _ => none)))))))) (nf_put2 (by omega)) ?_
  refine go_aload_n K.1 dX11_init_134 0 rfl rfl ?_
  refine cg_new K inX0 tyX0 tyX0_ok kl_X11_72 ka_X0 kj_X0 (ci := 0) rfl (fs := [.int 0, .int 0, .int 0, .int 0, .int 0, .int 0]) (fun j hj => by rcases (show j = 0 ∨ j = 1 ∨ j = 2 ∨ j = 3 ∨ j = 4 ∨ j = 5 by omega) with rfl | rfl | rfl | rfl | rfl | rfl <;> rfl) (Nat.le_of_ble_eq_true rfl) (Nat.le_of_ble_eq_true rfl) dX11_init_135 ?_
  refine go_dup K.1 dX11_init_138 rfl ?_
  refine cg_call K (As := []) (cc_X0 l G _ upE_eq) cf_X0_init ki_X0_init rfl (Or.inr (List.mem_of_getElem? (i := 6) rfl)) (by decide) (by decide) ⟨Nat.le_of_ble_eq_true rfl, Nat.le_of_ble_eq_true rfl⟩ rfl rfl (Nat.le_of_ble_eq_true rfl) dX11_init_139 ?_
  refine cg_eq (E' := (upE (upE (finE G E 0 1) 0 (.inr (11, [.ref (gB G + 1), .ref (gB G + 5), .ref (gB G + 194), .ref (gB G + 383), .ref (gB G + 389), .ref (gB G + 390), .ref (gB G + 394), .ref (gB G + 404), .ref (gB G + 406), .null, .null, .null]))) 389 (.inl (G.2.1 3, 4, .inr (.inr (.inr (.inr (fun _ => none)))))))) (nf_obj (ff_up (m := 390) (ff_up (m := 1) ff_fin (by omega) (by omega)) (by omega) (by omega)) (by omega) (by omega)) ?_
  refine cg_put K (i := 0) (by omega) ((upE_ne (by omega)).trans upE_eq) rfl inX11 tyX11_ok nmX11 9 (by decide) kf_X11_75 (Or.inr ⟨rfl, hin, rfl⟩) rfl rfl (Nat.le_of_ble_eq_true rfl) dX11_init_142 ?_
  refine cg_eq (E' := (upE (upE (finE G E 0 1) 0 (.inr (11, [.ref (gB G + 1), .ref (gB G + 5), .ref (gB G + 194), .ref (gB G + 383), .ref (gB G + 389), .ref (gB G + 390), .ref (gB G + 394), .ref (gB G + 404), .ref (gB G + 406), .ref (gB G + 413), .null, .null]))) 389 (.inl (G.2.1 3, 4, .inr (.inr (.inr (.inr (fun _ => none)))))))) (nf_put2 (by omega)) ?_
  refine go_aload_n K.1 dX11_init_145 0 rfl rfl ?_
  refine cg_new K inX5 tyX5 tyX5_ok kl_X11_79 ka_X5 kj_X5 (ci := 5) rfl (fs := [.null, .null]) (fun j hj => by rcases (show j = 0 ∨ j = 1 by omega) with rfl | rfl <;> rfl) (Nat.le_of_ble_eq_true rfl) (Nat.le_of_ble_eq_true rfl) dX11_init_146 ?_
  refine go_dup K.1 dX11_init_149 rfl ?_
  refine cg_call K (As := []) (cc_X5 l G _ upE_eq) cf_X5_init ki_X5_init rfl (Or.inr (List.mem_of_getElem? (i := 7) rfl)) (by decide) (by decide) ⟨Nat.le_of_ble_eq_true rfl, Nat.le_of_ble_eq_true rfl⟩ rfl rfl (Nat.le_of_ble_eq_true rfl) dX11_init_150 ?_
  refine cg_eq (E' := (upE (upE (finE G E 0 1) 0 (.inr (11, [.ref (gB G + 1), .ref (gB G + 5), .ref (gB G + 194), .ref (gB G + 383), .ref (gB G + 389), .ref (gB G + 390), .ref (gB G + 394), .ref (gB G + 404), .ref (gB G + 406), .ref (gB G + 413), .null, .null]))) 389 (.inl (G.2.1 3, 4, .inr (.inr (.inr (.inr (fun _ => none)))))))) (nf_obj (ff_up (m := 390) (ff_up (m := 1) ff_fin (by omega) (by omega)) (by omega) (by omega)) (by omega) (by omega)) ?_
  refine cg_put K (i := 0) (by omega) ((upE_ne (by omega)).trans upE_eq) rfl inX11 tyX11_ok nmX11 10 (by decide) kf_X11_82 (Or.inr ⟨rfl, hin, rfl⟩) rfl rfl (Nat.le_of_ble_eq_true rfl) dX11_init_153 ?_
  refine cg_eq (E' := (upE (upE (finE G E 0 1) 0 (.inr (11, [.ref (gB G + 1), .ref (gB G + 5), .ref (gB G + 194), .ref (gB G + 383), .ref (gB G + 389), .ref (gB G + 390), .ref (gB G + 394), .ref (gB G + 404), .ref (gB G + 406), .ref (gB G + 413), .ref (gB G + 414), .null]))) 389 (.inl (G.2.1 3, 4, .inr (.inr (.inr (.inr (fun _ => none)))))))) (nf_put2 (by omega)) ?_
  refine go_aload_n K.1 dX11_init_156 0 rfl rfl ?_
  refine cg_new K inX2 tyX2 tyX2_ok kl_X11_86 ka_X2 kj_X2 (ci := 2) rfl (fs := [.int 0, .int 0, .null, .null, .null, .null]) (fun j hj => by rcases (show j = 0 ∨ j = 1 ∨ j = 2 ∨ j = 3 ∨ j = 4 ∨ j = 5 by omega) with rfl | rfl | rfl | rfl | rfl | rfl <;> rfl) (Nat.le_of_ble_eq_true rfl) (Nat.le_of_ble_eq_true rfl) dX11_init_157 ?_
  refine go_dup K.1 dX11_init_160 rfl ?_
  refine cg_call K (As := []) (cc_X2 l G _ upE_eq) cf_X2_init ki_X2_init rfl (Or.inr (List.mem_of_getElem? (i := 8) rfl)) (by decide) (by decide) ⟨Nat.le_of_ble_eq_true rfl, Nat.le_of_ble_eq_true rfl⟩ rfl rfl (Nat.le_of_ble_eq_true rfl) dX11_init_161 ?_
  refine cg_eq (E' := (upE (upE (finE G E 0 1) 0 (.inr (11, [.ref (gB G + 1), .ref (gB G + 5), .ref (gB G + 194), .ref (gB G + 383), .ref (gB G + 389), .ref (gB G + 390), .ref (gB G + 394), .ref (gB G + 404), .ref (gB G + 406), .ref (gB G + 413), .ref (gB G + 414), .null]))) 389 (.inl (G.2.1 3, 4, .inr (.inr (.inr (.inr (fun _ => none)))))))) (nf_obj (ff_up (m := 390) (ff_up (m := 1) ff_fin (by omega) (by omega)) (by omega) (by omega)) (by omega) (by omega)) ?_
  refine cg_put K (i := 0) (by omega) ((upE_ne (by omega)).trans upE_eq) rfl inX11 tyX11_ok nmX11 11 (by decide) kf_X11_89 (Or.inr ⟨rfl, hin, rfl⟩) rfl rfl (Nat.le_of_ble_eq_true rfl) dX11_init_164 ?_
  refine cg_eq (E' := (upE (upE (finE G E 0 1) 0 (.inr (11, [.ref (gB G + 1), .ref (gB G + 5), .ref (gB G + 194), .ref (gB G + 383), .ref (gB G + 389), .ref (gB G + 390), .ref (gB G + 394), .ref (gB G + 404), .ref (gB G + 406), .ref (gB G + 413), .ref (gB G + 414), .ref (gB G + 417)]))) 389 (.inl (G.2.1 3, 4, .inr (.inr (.inr (.inr (fun _ => none)))))))) (nf_put2 (by omega)) ?_
  refine go_iconst (v := (0 : Int32)) K.1 dX11_init_167 (by decide) ?_
  refine go_istore_n K.1 dX11_init_168 rfl (by decide) (lv' := [(1, .int (0 : Int32)), (0, .ref (gB G + 0))]) rfl ?_
  have hl : ∀ (d k : Nat), k + d = 4 → GOg pM l eM (rmC 4 445 14070) (421 + 6 * k) (12426 + 411 * k) sM mM aM bM meM cM (MQ bM (va_Qv (fun (_ : Unit) => True) (fun _ U => cB G (446) (finE G E 0 1) U) (Fr G)) aM sM 445 14070 (Fr G)) G 2 (CW G ((422 + 6 * k)) (upE (upE (finE G E 0 1) 0 (.inr (11, [.ref (gB G + 1), .ref (gB G + 5), .ref (gB G + 194), .ref (gB G + 383), .ref (gB G + 389), .ref (gB G + 390), .ref (gB G + 394), .ref (gB G + 404), .ref (gB G + 406), .ref (gB G + 413), .ref (gB G + 414), .ref (gB G + 417)]))) 389 (.inl (G.2.1 3, 4, .inr (.inr (.inr (.inr (fun j => if j < k then some (gB G + (422 + 6 * j)) else none)))))))) 169 [(1, .int (nI k)), (0, .ref (gB G + 0))] [] := by
    intro d
    induction d with
    | zero =>
      intro k hk
      obtain rfl : k = 4 := by omega
      refine go_iload_n K.1 dX11_init_169 0 rfl rfl ?_
      refine go_aload_n K.1 dX11_init_170 1 rfl rfl ?_
      refine cg_get K (i := 0) (by omega) ((upE_ne (by omega)).trans upE_eq) rfl inX11 4 (by decide) kf_X11_33 (v := .ref (gB G + 389)) rfl dX11_init_171 ?_
      intro H o ls h1 h2 h3
      refine va_alen (D := G.1) (cl := vwCl) (tys := tysG G) (ws := [(gB G + 389, (.inl (G.2.1 3, 4, .inr (.inr (.inr (.inr (fun j => if j < 4 then some (gB G + (422 + 6 * j)) else none)))))))]) K.1.1 K.1.2.1 K.1.2.2.2.2.2.1.1 (fun q x hx => by
        match q, hx with
        | 0, hx => cases hx; have h := h1.2 (389) (by omega); rw [upE_eq] at h; exact h) 0 3 rfl rfl (v := (4 : Int32)) rfl dX11_init_174 ?_
      revert h1 h2 h3
      revert H o ls
      show GOg pM l eM (rmC 4 445 14070) (421 + 6 * 4) (12426 + 411 * 4) sM mM aM bM meM cM (MQ bM (va_Qv (fun (_ : Unit) => True) (fun _ U => cB G (446) (finE G E 0 1) U) (Fr G)) aM sM 445 14070 (Fr G)) G 2 (CW G ((422 + 6 * 4)) (upE (upE (finE G E 0 1) 0 (.inr (11, [.ref (gB G + 1), .ref (gB G + 5), .ref (gB G + 194), .ref (gB G + 383), .ref (gB G + 389), .ref (gB G + 390), .ref (gB G + 394), .ref (gB G + 404), .ref (gB G + 406), .ref (gB G + 413), .ref (gB G + 414), .ref (gB G + 417)]))) 389 (.inl (G.2.1 3, 4, .inr (.inr (.inr (.inr (fun j => if j < 4 then some (gB G + (422 + 6 * j)) else none)))))))) 175 [(1, .int (nI 4)), (0, .ref (gB G + 0))] [.int (4 : Int32), .int (nI 4)]
      refine go_icmp_ge (tgt := 197) K.1 dX11_init_175 (by decide) (fun _ => ?_) (fun hc => absurd (by decide) hc)
      refine cg_eqv (E' := finE G E 0 1) (fun j hj H0 hat => ?_) ?_
      · by_cases h1 : j = 389
        · rw [h1] at hat ⊢
          rw [upE_eq] at hat
          rw [show finE G E 0 1 389 = finG G 389 from if_pos (Or.inr (by omega)), ← fin_tx]
          refine Eq.trans hat (congrArg some (arr_congr (fun q hq => ?_)))
          rw [if_pos hq]
        · rw [upE_ne h1] at hat
          by_cases h2 : j = 0
          · rw [h2] at hat ⊢
            rw [upE_eq] at hat
            rw [show finE G E 0 1 0 = finG G 0 from if_pos (Or.inl rfl), ← (show _ = finG G 0 from rfl)]; exact hat
          · rw [upE_ne h2] at hat; exact hat
      exact cg_ret K hr (fun j _ => rfl) dX11_init_197
    | succ d ih =>
      intro k hk
      refine go_iload_n K.1 dX11_init_169 0 rfl rfl ?_
      refine go_aload_n K.1 dX11_init_170 1 rfl rfl ?_
      refine cg_get K (i := 0) (by omega) ((upE_ne (by omega)).trans upE_eq) rfl inX11 4 (by decide) kf_X11_33 (v := .ref (gB G + 389)) rfl dX11_init_171 ?_
      intro H o ls h1 h2 h3
      refine va_alen (D := G.1) (cl := vwCl) (tys := tysG G) (ws := [(gB G + 389, (.inl (G.2.1 3, 4, .inr (.inr (.inr (.inr (fun j => if j < k then some (gB G + (422 + 6 * j)) else none)))))))]) K.1.1 K.1.2.1 K.1.2.2.2.2.2.1.1 (fun q x hx => by
        match q, hx with
        | 0, hx => cases hx; have h := h1.2 (389) (by omega); rw [upE_eq] at h; exact h) 0 3 rfl rfl (v := (4 : Int32)) rfl dX11_init_174 ?_
      revert h1 h2 h3
      revert H o ls
      show GOg pM l eM (rmC 4 445 14070) (421 + 6 * k) (12426 + 411 * k) sM mM aM bM meM cM (MQ bM (va_Qv (fun (_ : Unit) => True) (fun _ U => cB G (446) (finE G E 0 1) U) (Fr G)) aM sM 445 14070 (Fr G)) G 2 (CW G ((422 + 6 * k)) (upE (upE (finE G E 0 1) 0 (.inr (11, [.ref (gB G + 1), .ref (gB G + 5), .ref (gB G + 194), .ref (gB G + 383), .ref (gB G + 389), .ref (gB G + 390), .ref (gB G + 394), .ref (gB G + 404), .ref (gB G + 406), .ref (gB G + 413), .ref (gB G + 414), .ref (gB G + 417)]))) 389 (.inl (G.2.1 3, 4, .inr (.inr (.inr (.inr (fun j => if j < k then some (gB G + (422 + 6 * j)) else none)))))))) 175 [(1, .int (nI k)), (0, .ref (gB G + 0))] [.int (4 : Int32), .int (nI k)]
      refine go_icmp_ge (tgt := 197) K.1 dX11_init_175 (by decide) (fun hc => absurd hc (nI_ge (b := 4) (by omega) (by decide))) (fun _ => ?_)
      refine go_aload_n K.1 dX11_init_178 1 rfl rfl ?_
      refine cg_get K (i := 0) (by omega) ((upE_ne (by omega)).trans upE_eq) rfl inX11 4 (by decide) kf_X11_33 (v := .ref (gB G + 389)) rfl dX11_init_179 ?_
      refine go_iload_n K.1 dX11_init_182 0 rfl rfl ?_
      refine cg_new K inX6 tyX6 tyX6_ok kl_X11_26 ka_X6 kj_X6 (ci := 6) rfl (fs := [.null, .null, .null, .null, .null, .int 0, .int 0]) (fun j hj => by rcases (show j = 0 ∨ j = 1 ∨ j = 2 ∨ j = 3 ∨ j = 4 ∨ j = 5 ∨ j = 6 by omega) with rfl | rfl | rfl | rfl | rfl | rfl | rfl <;> rfl) (by show _ ≤ 445; omega) (by show _ ≤ 14070; omega) dX11_init_183 ?_
      refine go_dup K.1 dX11_init_186 rfl ?_
      refine cg_call K (As := []) (cc_X6 l G (sc_txk (show k < 4 by omega)) _ upE_eq) cf_X6_init ki_X6_init rfl (Or.inr (List.mem_of_getElem? (i := 2) rfl)) (by decide) (by decide) ⟨by show _ ≤ 445; omega, by show _ ≤ 14070; omega⟩ rfl rfl (Nat.le_of_ble_eq_true rfl) dX11_init_187 ?_
      refine cg_eq (E' := (upE (upE (finE G E 0 1) 0 (.inr (11, [.ref (gB G + 1), .ref (gB G + 5), .ref (gB G + 194), .ref (gB G + 383), .ref (gB G + 389), .ref (gB G + 390), .ref (gB G + 394), .ref (gB G + 404), .ref (gB G + 406), .ref (gB G + 413), .ref (gB G + 414), .ref (gB G + 417)]))) 389 (.inl (G.2.1 3, 4, .inr (.inr (.inr (.inr (fun j => if j < k then some (gB G + (422 + 6 * j)) else none)))))))) (nf_obj (ff_up (m := 390) (ff_up (m := 1) ff_fin (by omega) (by omega)) (by omega) (by omega)) (by omega) (by omega)) ?_
      refine cg_aast K (i := 389) (j := (422 + 6 * k)) (t0 := 3) (r := (RX6, TX6, 7)) (N := 4) (by omega) upE_eq rfl (by omega) ((upE_ne (by omega)).trans ((upE_ne (by omega)).trans ((if_pos (Or.inr (by omega))).trans (fin_sc (sc_txk (show k < 4 by omega)))))) rfl (k := k) (vp_in_nI (by omega) (by decide)) (nI_clamp (by omega)) dX11_init_190 ?_
      refine cg_eq (E' := (upE (upE (finE G E 0 1) 0 (.inr (11, [.ref (gB G + 1), .ref (gB G + 5), .ref (gB G + 194), .ref (gB G + 383), .ref (gB G + 389), .ref (gB G + 390), .ref (gB G + 394), .ref (gB G + 404), .ref (gB G + 406), .ref (gB G + 413), .ref (gB G + 414), .ref (gB G + 417)]))) 389 (.inl (G.2.1 3, 4, .inr (.inr (.inr (.inr (fun j => if j < (k + 1) then some (gB G + (422 + 6 * j)) else none)))))))) (fun j hj => (nf_put (k := j + 1) j (by omega)).trans (congrArg (fun z => upE (upE (finE G E 0 1) 0 (.inr (11, [.ref (gB G + 1), .ref (gB G + 5), .ref (gB G + 194), .ref (gB G + 383), .ref (gB G + 389), .ref (gB G + 390), .ref (gB G + 394), .ref (gB G + 404), .ref (gB G + 406), .ref (gB G + 413), .ref (gB G + 414), .ref (gB G + 417)]))) 389 (.inl (G.2.1 3, 4, .inr (.inr (.inr (.inr z))))) j) (row_fun (fun j => (422 + 6 * j))))) ?_
      refine go_iinc K.1 dX11_init_191 0 rfl (v := nI (k + 1)) (nI_1 k) (by decide) (lv' := [(1, .int (nI (k + 1))), (0, .ref (gB G + 0))]) rfl ?_
      refine go_goto (tgt := 169) K.1 dX11_init_194 (by decide) ?_
      exact ih (k + 1) (by omega)
  refine cg_eq (E' := (upE (upE (finE G E 0 1) 0 (.inr (11, [.ref (gB G + 1), .ref (gB G + 5), .ref (gB G + 194), .ref (gB G + 383), .ref (gB G + 389), .ref (gB G + 390), .ref (gB G + 394), .ref (gB G + 404), .ref (gB G + 406), .ref (gB G + 413), .ref (gB G + 414), .ref (gB G + 417)]))) 389 (.inl (G.2.1 3, 4, .inr (.inr (.inr (.inr (fun j => if j < 0 then some (gB G + (422 + 6 * j)) else none)))))))) (fun j hj => congrArg (fun z => upE (upE (finE G E 0 1) 0 (.inr (11, [.ref (gB G + 1), .ref (gB G + 5), .ref (gB G + 194), .ref (gB G + 383), .ref (gB G + 389), .ref (gB G + 390), .ref (gB G + 394), .ref (gB G + 404), .ref (gB G + 406), .ref (gB G + 413), .ref (gB G + 414), .ref (gB G + 417)]))) 389 (.inl (G.2.1 3, 4, .inr (.inr (.inr (.inr z))))) j) (funext fun q => (if_neg (Nat.not_lt_zero q)).symm)) ?_
  exact hl 4 0 rfl
