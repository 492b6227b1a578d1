noncomputable def X11_owe_j35 (v1 : Int32) (v2 : Int32) (v3 : Int32) (t0 : Int32) (C : CM) : Option (Int32 × CM) := (if t0 = 0 then (some ((0 : Int32), C)) else (bnd (f_X7_owed 6 v1 v2 C) (fun r3 => (if r3 = v3 then (some ((0 : Int32), C)) else (bnd (f_X10_keepStep 5 C) (fun C5 => (bnd (f_X7_setOwed 6 v1 v2 v3 C5) (fun C6 => (some ((1 : Int32), C6))))))))))
noncomputable def X11_owe_j34 (v1 : Int32) (v2 : Int32) (v3 : Int32) (C : CM) : Option (Int32 × CM) := (X11_owe_j35 v1 v2 v3 (0 : Int32) C)
noncomputable def f_X11_owe (v1 : Int32) (v2 : Int32) (v3 : Int32) (C : CM) : Option (Int32 × CM) := (if (f_X7_areTwo 6 v1 v2 C) = 0 then (X11_owe_j34 v1 v2 v3 C) else (if (f_X11_within v3 (0 : Int32) (9999 : Int32)) = 0 then (X11_owe_j34 v1 v2 v3 C) else (X11_owe_j35 v1 v2 v3 (1 : Int32) C)))
theorem cf_X11_owe : CF yX11_owe cX11_owe 6 (Option.some Jvm.ClassFile.FieldType.boolean) 3 := ⟨kc_X11_owe, kj_X11, ⟨by decide +kernel, by decide +kernel, by decide +kernel⟩, by decide⟩
theorem cv_X11_owe : CFv yX11_owe := ⟨ki_X11_owe, ks_X11_owe⟩
set_option maxHeartbeats 4000000 in
set_option maxRecDepth 100000 in
theorem c_X11_owe (l : Launch) (G : GT) (v1 : Int32) (v2 : Int32) (v3 : Int32) (C : CM) (O : OM) (res : Int32) (C' : CM) (h : f_X11_owe v1 v2 v3 C = some (res, C')) : MI l G yX11_owe cX11_owe 6 (Option.some Jvm.ClassFile.FieldType.boolean) (4) [.ref (gB G + 0), .int v1, .int v2, .int v3] (C, O) res (C', O) := by
  unfold MI
  refine met_in RX11 (by decide +kernel) rfl [(0, .ref (gB G + 0)), (1, .int v1), (2, .int v2), (3, .int v3)] rfl (Nat.le_of_ble_eq_true rfl) ?_
  intro pM eM sM mM aM bM meM cM K hr
  have hj35 : ∀ (v1 : Int32) (v2 : Int32) (v3 : Int32) (t0 : Int32) (C : CM), X11_owe_j35 v1 v2 v3 t0 C = some (res, C') → GO pM l eM (4) sM mM aM bM meM cM (MQ bM (va_Qi (fun (r' : Int32) (u : CM × OM) => r' = res ∧ u = (C', O)) (wB G) (Fr G)) aM sM 0 0 (Fr G)) G 6 (C, O) 35 [(0, .ref (gB G + 0)), (1, .int v1), (2, .int v2), (3, .int v3), (4, .ref (gB G + 6))] [.int t0] := by
    intro v1 v2 v3 t0 C h
    rw [X11_owe_j35] at h
    refine go_istore K dX11_owe_35 (by decide) (lv' := [(5, .int t0), (0, .ref (gB G + 0)), (1, .int v1), (2, .int v2), (3, .int v3), (4, .ref (gB G + 6))]) rfl ?_
    refine go_iload K dX11_owe_37 0 rfl ?_
    refine go_if_eq (tgt := 53) K dX11_owe_39 (by decide) (fun c2 => ?_) (fun c2 => ?_)
    · replace h := ite_t h c2
      refine go_iconst (v := (0 : Int32)) K dX11_owe_53 (by decide) ?_
      exact go_zret K hr (by decide) (Prod.mk.inj (Option.some.inj h)).1 (congrArg (fun z => (z, O)) (Prod.mk.inj (Option.some.inj h)).2) dX11_owe_54
    replace h := ite_f h c2
    refine go_aload K dX11_owe_42 5 rfl ?_
    refine go_iload_n K dX11_owe_44 2 rfl rfl ?_
    refine go_iload_n K dX11_owe_45 3 rfl rfl ?_
    obtain ⟨r3, e3, h⟩ := bnd_e h
    refine go_cVI K (c_X7_owed l G st_6 _ _ _ _ _ e3) cf_X7_owed cv_X7_owed km_X11_127 (rv_X7 st_6) (by decide) rfl rfl (Nat.le_of_ble_eq_true rfl) dX11_owe_46 ?_
    refine go_iload_n K dX11_owe_49 4 rfl rfl ?_
    refine go_icmp_ne (tgt := 55) K dX11_owe_50 (by decide) (fun c4 => ?_) (fun c4 => ?_)
    rotate_left
    · replace h := ite_t h c4
      refine go_iconst (v := (0 : Int32)) K dX11_owe_53 (by decide) ?_
      exact go_zret K hr (by decide) (Prod.mk.inj (Option.some.inj h)).1 (congrArg (fun z => (z, O)) (Prod.mk.inj (Option.some.inj h)).2) dX11_owe_54
    replace h := ite_f h c4
    refine go_aload_n K dX11_owe_55 1 rfl rfl ?_
    refine gf_X11 K 1 (by decide) kf_X11_19 (v := .ref (gB G + 5)) rfl dX11_owe_56 ?_
    obtain ⟨C5, e5, h⟩ := bnd_e h
    refine go_cVV K (c_X10_keepStep l G wh_5 _ _ _ e5) cf_X10_keepStep cv_X10_keepStep km_X11_113 (rv_X10 wh_5) (by decide) rfl rfl (Nat.le_of_ble_eq_true rfl) dX11_owe_59 ?_
    refine go_aload K dX11_owe_62 5 rfl ?_
    refine go_iload_n K dX11_owe_64 2 rfl rfl ?_
    refine go_iload_n K dX11_owe_65 3 rfl rfl ?_
    refine go_iload_n K dX11_owe_66 4 rfl rfl ?_
    obtain ⟨C6, e6, h⟩ := bnd_e h
    refine go_cVV K (c_X7_setOwed l G st_6 _ _ _ _ _ _ e6) cf_X7_setOwed cv_X7_setOwed km_X11_131 (rv_X7 st_6) (by decide) rfl rfl (Nat.le_of_ble_eq_true rfl) dX11_owe_67 ?_
    refine go_iconst (v := (1 : Int32)) K dX11_owe_70 (by decide) ?_
    exact go_zret K hr (by decide) (Prod.mk.inj (Option.some.inj h)).1 (congrArg (fun z => (z, O)) (Prod.mk.inj (Option.some.inj h)).2) dX11_owe_71
  have hj34 : ∀ (v1 : Int32) (v2 : Int32) (v3 : Int32) (C : CM), X11_owe_j34 v1 v2 v3 C = some (res, C') → GO pM l eM (4) sM mM aM bM meM cM (MQ bM (va_Qi (fun (r' : Int32) (u : CM × OM) => r' = res ∧ u = (C', O)) (wB G) (Fr G)) aM sM 0 0 (Fr G)) G 6 (C, O) 34 [(0, .ref (gB G + 0)), (1, .int v1), (2, .int v2), (3, .int v3), (4, .ref (gB G + 6))] [] := by
    intro v1 v2 v3 C h
    rw [X11_owe_j34] at h
    refine go_iconst (v := (0 : Int32)) K dX11_owe_34 (by decide) ?_
    exact hj35 _ _ _ _ _ h
  rw [f_X11_owe] at h
  refine go_aload_n K dX11_owe_0 0 rfl rfl ?_
  refine gf_X11 K 1 (by decide) kf_X11_19 (v := .ref (gB G + 5)) rfl dX11_owe_1 ?_
  refine gf_X10 K wh_5 0 (by decide) kf_X11_39 (v := .ref (gB G + 6)) rfl dX11_owe_4 ?_
  refine go_astore K dX11_owe_7 (by decide) (lv' := [(4, .ref (gB G + 6)), (0, .ref (gB G + 0)), (1, .int v1), (2, .int v2), (3, .int v3)]) rfl ?_
  refine go_aload K dX11_owe_9 0 rfl ?_
  refine go_iload_n K dX11_owe_11 2 rfl rfl ?_
  refine go_iload_n K dX11_owe_12 3 rfl rfl ?_
  refine go_cVI K (c_X7_areTwo l G st_6 _ _ _ _ _ rfl) cf_X7_areTwo cv_X7_areTwo km_X11_124 (rv_X7 st_6) (by decide) rfl rfl (Nat.le_of_ble_eq_true rfl) dX11_owe_13 ?_
  refine go_if_eq (tgt := 34) K dX11_owe_16 (by decide) (fun c1 => ?_) (fun c1 => ?_)
  · replace h := ite_t h c1
    exact go_sub [1, 2, 3, 4, 0] rfl (hj34 _ _ _ _ h)
  replace h := ite_f h c1
  refine go_iload_n K dX11_owe_19 4 rfl rfl ?_
  refine go_iconst (v := (0 : Int32)) K dX11_owe_20 (by decide) ?_
  refine go_sipush (v := (9999 : Int32)) K dX11_owe_21 (by decide) ?_
  refine go_cSI K (c_X11_within l G _ _ _ _ _ _ rfl) cf_X11_within kt_X11_within km_X11_93 (by decide) rfl rfl (Nat.le_of_ble_eq_true rfl) dX11_owe_24 ?_
  refine go_if_eq (tgt := 34) K dX11_owe_27 (by decide) (fun c7 => ?_) (fun c7 => ?_)
  · replace h := ite_t h c7
    exact go_sub [1, 2, 3, 4, 0] rfl (hj34 _ _ _ _ h)
  replace h := ite_f h c7
  refine go_iconst (v := (1 : Int32)) K dX11_owe_30 (by decide) ?_
  refine go_goto (tgt := 35) K dX11_owe_31 (by decide) ?_
  exact go_sub [1, 2, 3, 4, 0] rfl (hj35 _ _ _ _ _ h)
noncomputable def X11_walk_j28 (v1 : Int32) (v2 : Int32) (C : CM) : Option (Int32 × CM) := (bnd (f_X10_keepStep 5 C) (fun C4 => (bnd (f_X7_walks 6 v1 v2 C4) (fun C5 => (bnd (f_X7_placeOf 6 v1 C5) (fun r6 => (some (r6, C5))))))))
noncomputable def f_X11_walk (v1 : Int32) (v2 : Int32) (C : CM) : Option (Int32 × CM) := (bnd (f_X7_out 6 v1 C) (fun r1 => (if r1 = 0 then (some ((-1 : Int32), C)) else (if v2 = (1 : Int32) then (X11_walk_j28 v1 v2 C) else (if v2 = (-1 : Int32) then (X11_walk_j28 v1 v2 C) else (some ((-1 : Int32), C)))))))
theorem cf_X11_walk : CF yX11_walk cX11_walk 4 (Option.some Jvm.ClassFile.FieldType.int) 2 := ⟨kc_X11_walk, kj_X11, ⟨by decide +kernel, by decide +kernel, by decide +kernel⟩, by decide⟩
theorem cv_X11_walk : CFv yX11_walk := ⟨ki_X11_walk, ks_X11_walk⟩
set_option maxHeartbeats 4000000 in
set_option maxRecDepth 100000 in
theorem c_X11_walk (l : Launch) (G : GT) (v1 : Int32) (v2 : Int32) (C : CM) (O : OM) (res : Int32) (C' : CM) (h : f_X11_walk v1 v2 C = some (res, C')) : MI l G yX11_walk cX11_walk 4 (Option.some Jvm.ClassFile.FieldType.int) (4) [.ref (gB G + 0), .int v1, .int v2] (C, O) res (C', O) := by
  unfold MI
  refine met_in RX11 (by decide +kernel) rfl [(0, .ref (gB G + 0)), (1, .int v1), (2, .int v2)] rfl (Nat.le_of_ble_eq_true rfl) ?_
  intro pM eM sM mM aM bM meM cM K hr
  have hj28 : ∀ (v1 : Int32) (v2 : Int32) (C : CM), X11_walk_j28 v1 v2 C = some (res, C') → GO pM l eM (4) sM mM aM bM meM cM (MQ bM (va_Qi (fun (r' : Int32) (u : CM × OM) => r' = res ∧ u = (C', O)) (wB G) (Fr G)) aM sM 0 0 (Fr G)) G 4 (C, O) 28 [(0, .ref (gB G + 0)), (1, .int v1), (2, .int v2), (3, .ref (gB G + 6))] [] := by
    intro v1 v2 C h
    rw [X11_walk_j28] at h
    refine go_aload_n K dX11_walk_28 0 rfl rfl ?_
    refine gf_X11 K 1 (by decide) kf_X11_19 (v := .ref (gB G + 5)) rfl dX11_walk_29 ?_
    obtain ⟨C4, e4, h⟩ := bnd_e h
    refine go_cVV K (c_X10_keepStep l G wh_5 _ _ _ e4) cf_X10_keepStep cv_X10_keepStep km_X11_113 (rv_X10 wh_5) (by decide) rfl rfl (Nat.le_of_ble_eq_true rfl) dX11_walk_32 ?_
    refine go_aload_n K dX11_walk_35 3 rfl rfl ?_
    refine go_iload_n K dX11_walk_36 1 rfl rfl ?_
    refine go_iload_n K dX11_walk_37 2 rfl rfl ?_
    obtain ⟨C5, e5, h⟩ := bnd_e h
    refine go_cVV K (c_X7_walks l G st_6 _ _ _ _ _ e5) cf_X7_walks cv_X7_walks km_X11_139 (rv_X7 st_6) (by decide) rfl rfl (Nat.le_of_ble_eq_true rfl) dX11_walk_38 ?_
    refine go_aload_n K dX11_walk_41 3 rfl rfl ?_
    refine go_iload_n K dX11_walk_42 1 rfl rfl ?_
    obtain ⟨r6, e6, h⟩ := bnd_e h
    refine go_cVI K (c_X7_placeOf l G st_6 _ _ _ _ e6) cf_X7_placeOf cv_X7_placeOf km_X11_142 (rv_X7 st_6) (by decide) rfl rfl (Nat.le_of_ble_eq_true rfl) dX11_walk_43 ?_
    exact go_iret K hr (Prod.mk.inj (Option.some.inj h)).1 (congrArg (fun z => (z, O)) (Prod.mk.inj (Option.some.inj h)).2) dX11_walk_46
  rw [f_X11_walk] at h
  refine go_aload_n K dX11_walk_0 0 rfl rfl ?_
  refine gf_X11 K 1 (by decide) kf_X11_19 (v := .ref (gB G + 5)) rfl dX11_walk_1 ?_
  refine gf_X10 K wh_5 0 (by decide) kf_X11_39 (v := .ref (gB G + 6)) rfl dX11_walk_4 ?_
  refine go_astore_n K dX11_walk_7 rfl (by decide) (lv' := [(3, .ref (gB G + 6)), (0, .ref (gB G + 0)), (1, .int v1), (2, .int v2)]) rfl ?_
  refine go_aload_n K dX11_walk_8 0 rfl rfl ?_
  refine go_iload_n K dX11_walk_9 2 rfl rfl ?_
  obtain ⟨r1, e1, h⟩ := bnd_e h
  refine go_cVI K (c_X7_out l G st_6 _ _ _ _ e1) cf_X7_out cv_X7_out km_X11_135 (rv_X7 st_6) (by decide) rfl rfl (Nat.le_of_ble_eq_true rfl) dX11_walk_10 ?_
  refine go_if_eq (tgt := 26) K dX11_walk_13 (by decide) (fun c2 => ?_) (fun c2 => ?_)
  · replace h := ite_t h c2
    refine go_iconst (v := (-1 : Int32)) K dX11_walk_26 (by decide) ?_
    exact go_iret K hr (Prod.mk.inj (Option.some.inj h)).1 (congrArg (fun z => (z, O)) (Prod.mk.inj (Option.some.inj h)).2) dX11_walk_27
  replace h := ite_f h c2
  refine go_iload_n K dX11_walk_16 3 rfl rfl ?_
  refine go_iconst (v := (1 : Int32)) K dX11_walk_17 (by decide) ?_
  refine go_icmp_eq (tgt := 28) K dX11_walk_18 (by decide) (fun c3 => ?_) (fun c3 => ?_)
  · replace h := ite_t h c3
    exact go_sub [1, 2, 3, 0] rfl (hj28 _ _ _ h)
  replace h := ite_f h c3
  refine go_iload_n K dX11_walk_21 3 rfl rfl ?_
  refine go_iconst (v := (-1 : Int32)) K dX11_walk_22 (by decide) ?_
  refine go_icmp_eq (tgt := 28) K dX11_walk_23 (by decide) (fun c7 => ?_) (fun c7 => ?_)
  · replace h := ite_t h c7
    exact go_sub [1, 2, 3, 0] rfl (hj28 _ _ _ h)
  replace h := ite_f h c7
  refine go_iconst (v := (-1 : Int32)) K dX11_walk_26 (by decide) ?_
  exact go_iret K hr (Prod.mk.inj (Option.some.inj h)).1 (congrArg (fun z => (z, O)) (Prod.mk.inj (Option.some.inj h)).2) dX11_walk_27
noncomputable def f_X11_feast (C : CM) : Option (Int32 × CM) := (bnd (f_X10_keepStep 5 C) (fun C1 => (bnd2 (f_X7_forgives 6 C1) (fun r2 C2 => (some (r2, C2))))))
theorem cf_X11_feast : CF yX11_feast cX11_feast 1 (Option.some Jvm.ClassFile.FieldType.int) 0 := ⟨kc_X11_feast, kj_X11, ⟨by decide +kernel, by decide +kernel, by decide +kernel⟩, by decide⟩
theorem cv_X11_feast : CFv yX11_feast := ⟨ki_X11_feast, ks_X11_feast⟩
set_option maxHeartbeats 4000000 in
set_option maxRecDepth 100000 in
theorem c_X11_feast (l : Launch) (G : GT) (C : CM) (O : OM) (res : Int32) (C' : CM) (h : f_X11_feast C = some (res, C')) : MI l G yX11_feast cX11_feast 1 (Option.some Jvm.ClassFile.FieldType.int) (5) [.ref (gB G + 0)] (C, O) res (C', O) := by
  unfold MI
  refine met_in RX11 (by decide +kernel) rfl [(0, .ref (gB G + 0))] rfl (Nat.le_of_ble_eq_true rfl) ?_
  intro pM eM sM mM aM bM meM cM K hr
  rw [f_X11_feast] at h
  refine go_aload_n K dX11_feast_0 0 rfl rfl ?_
  refine gf_X11 K 1 (by decide) kf_X11_19 (v := .ref (gB G + 5)) rfl dX11_feast_1 ?_
  obtain ⟨C1, e1, h⟩ := bnd_e h
  refine go_cVV K (c_X10_keepStep l G wh_5 _ _ _ e1) cf_X10_keepStep cv_X10_keepStep km_X11_113 (rv_X10 wh_5) (by decide) rfl rfl (Nat.le_of_ble_eq_true rfl) dX11_feast_4 ?_
  refine go_aload_n K dX11_feast_7 0 rfl rfl ?_
  refine gf_X11 K 1 (by decide) kf_X11_19 (v := .ref (gB G + 5)) rfl dX11_feast_8 ?_
  refine gf_X10 K wh_5 0 (by decide) kf_X11_39 (v := .ref (gB G + 6)) rfl dX11_feast_11 ?_
  obtain ⟨r2, C2, e2, h⟩ := bnd2_e h
  refine go_cVI K (c_X7_forgives l G st_6 _ _ _ _ e2) cf_X7_forgives cv_X7_forgives km_X11_145 (rv_X7 st_6) (by decide) rfl rfl (Nat.le_of_ble_eq_true rfl) dX11_feast_14 ?_
  exact go_iret K hr (Prod.mk.inj (Option.some.inj h)).1 (congrArg (fun z => (z, O)) (Prod.mk.inj (Option.some.inj h)).2) dX11_feast_17
noncomputable def f_X11_clear (v1 : Int32) (v2 : Int32) (v3 : Int32) (C : CM) : Option (Int32 × CM) := (bnd (f_X7_clearable 6 v1 v2 v3 C) (fun r1 => (if r1 = 0 then (some ((-1 : Int32), C)) else (bnd (f_X10_keepStep 5 C) (fun C3 => (bnd (f_X7_clears 6 v1 v2 v3 r1 C3) (fun C4 => (some (r1, C4)))))))))
theorem cf_X11_clear : CF yX11_clear cX11_clear 5 (Option.some Jvm.ClassFile.FieldType.int) 3 := ⟨kc_X11_clear, kj_X11, ⟨by decide +kernel, by decide +kernel, by decide +kernel⟩, by decide⟩
theorem cv_X11_clear : CFv yX11_clear := ⟨ki_X11_clear, ks_X11_clear⟩
set_option maxHeartbeats 4000000 in
set_option maxRecDepth 100000 in
theorem c_X11_clear (l : Launch) (G : GT) (v1 : Int32) (v2 : Int32) (v3 : Int32) (C : CM) (O : OM) (res : Int32) (C' : CM) (h : f_X11_clear v1 v2 v3 C = some (res, C')) : MI l G yX11_clear cX11_clear 5 (Option.some Jvm.ClassFile.FieldType.int) (5) [.ref (gB G + 0), .int v1, .int v2, .int v3] (C, O) res (C', O) := by
  unfold MI
  refine met_in RX11 (by decide +kernel) rfl [(0, .ref (gB G + 0)), (1, .int v1), (2, .int v2), (3, .int v3)] rfl (Nat.le_of_ble_eq_true rfl) ?_
  intro pM eM sM mM aM bM meM cM K hr
  rw [f_X11_clear] at h
  refine go_aload_n K dX11_clear_0 0 rfl rfl ?_
  refine gf_X11 K 1 (by decide) kf_X11_19 (v := .ref (gB G + 5)) rfl dX11_clear_1 ?_
  refine gf_X10 K wh_5 0 (by decide) kf_X11_39 (v := .ref (gB G + 6)) rfl dX11_clear_4 ?_
  refine go_iload_n K dX11_clear_7 1 rfl rfl ?_
  refine go_iload_n K dX11_clear_8 2 rfl rfl ?_
  refine go_iload_n K dX11_clear_9 3 rfl rfl ?_
  obtain ⟨r1, e1, h⟩ := bnd_e h
  refine go_cVI K (c_X7_clearable l G st_6 _ _ _ _ _ _ e1) cf_X7_clearable cv_X7_clearable km_X11_149 (rv_X7 st_6) (by decide) rfl rfl (Nat.le_of_ble_eq_true rfl) dX11_clear_10 ?_
  refine go_istore K dX11_clear_13 (by decide) (lv' := [(4, .int r1), (0, .ref (gB G + 0)), (1, .int v1), (2, .int v2), (3, .int v3)]) rfl ?_
  refine go_iload K dX11_clear_15 0 rfl ?_
  refine go_if_ne (tgt := 22) K dX11_clear_17 (by decide) (fun c2 => ?_) (fun c2 => ?_)
  rotate_left
  · replace h := ite_t h c2
    refine go_iconst (v := (-1 : Int32)) K dX11_clear_20 (by decide) ?_
    exact go_iret K hr (Prod.mk.inj (Option.some.inj h)).1 (congrArg (fun z => (z, O)) (Prod.mk.inj (Option.some.inj h)).2) dX11_clear_21
  replace h := ite_f h c2
  refine go_aload_n K dX11_clear_22 1 rfl rfl ?_
  refine gf_X11 K 1 (by decide) kf_X11_19 (v := .ref (gB G + 5)) rfl dX11_clear_23 ?_
  obtain ⟨C3, e3, h⟩ := bnd_e h
  refine go_cVV K (c_X10_keepStep l G wh_5 _ _ _ e3) cf_X10_keepStep cv_X10_keepStep km_X11_113 (rv_X10 wh_5) (by decide) rfl rfl (Nat.le_of_ble_eq_true rfl) dX11_clear_26 ?_
  refine go_aload_n K dX11_clear_29 1 rfl rfl ?_
  refine gf_X11 K 1 (by decide) kf_X11_19 (v := .ref (gB G + 5)) rfl dX11_clear_30 ?_
  refine gf_X10 K wh_5 0 (by decide) kf_X11_39 (v := .ref (gB G + 6)) rfl dX11_clear_33 ?_
  refine go_iload_n K dX11_clear_36 2 rfl rfl ?_
  refine go_iload_n K dX11_clear_37 3 rfl rfl ?_
  refine go_iload_n K dX11_clear_38 4 rfl rfl ?_
  refine go_iload K dX11_clear_39 0 rfl ?_
  obtain ⟨C4, e4, h⟩ := bnd_e h
  refine go_cVV K (c_X7_clears l G st_6 _ _ _ _ _ _ _ e4) cf_X7_clears cv_X7_clears km_X11_153 (rv_X7 st_6) (by decide) rfl rfl (Nat.le_of_ble_eq_true rfl) dX11_clear_41 ?_
  refine go_iload K dX11_clear_44 0 rfl ?_
  exact go_iret K hr (Prod.mk.inj (Option.some.inj h)).1 (congrArg (fun z => (z, O)) (Prod.mk.inj (Option.some.inj h)).2) dX11_clear_46
noncomputable def X11_hour_l29 : Nat → Int32 → Int32 → Int32 → CM → Option (Int32 × CM)
  | 0, _, _, _, _ => none
  | n + 1, v1, v2, v3, C => (if v1 ≤ v3 then (some (v2, C)) else (bnd (f_X10_keepStep 5 C) (fun C3 => (bnd2 (f_X9_passHour 0 C3) (fun r4 C4 => (X11_hour_l29 n v1 (v2 + r4) (v3 + (1 : Int32)) C4))))))
noncomputable def f_X11_hour (v1 : Int32) (C : CM) : Option (Int32 × CM) := (if (f_X11_within v1 (1 : Int32) (f_J9_min_7cf53 (60 : Int32) (f_X7_hoursToCome 6 C))) = 0 then (some ((-1 : Int32), C)) else (X11_hour_l29 FU v1 (0 : Int32) (0 : Int32) C))
theorem cf_X11_hour : CF yX11_hour cX11_hour 4 (Option.some Jvm.ClassFile.FieldType.int) 1 := ⟨kc_X11_hour, kj_X11, ⟨by decide +kernel, by decide +kernel, by decide +kernel⟩, by decide⟩
theorem cv_X11_hour : CFv yX11_hour := ⟨ki_X11_hour, ks_X11_hour⟩
set_option maxHeartbeats 4000000 in
set_option maxRecDepth 100000 in
theorem c_X11_hour (l : Launch) (G : GT) (v1 : Int32) (C : CM) (O : OM) (res : Int32) (C' : CM) (h : f_X11_hour v1 C = some (res, C')) : MI l G yX11_hour cX11_hour 4 (Option.some Jvm.ClassFile.FieldType.int) (6) [.ref (gB G + 0), .int v1] (C, O) res (C', O) := by
  unfold MI
  refine met_in RX11 (by decide +kernel) rfl [(0, .ref (gB G + 0)), (1, .int v1)] rfl (Nat.le_of_ble_eq_true rfl) ?_
  intro pM eM sM mM aM bM meM cM K hr
  have hl29 : ∀ (n29 : Nat) (v1 : Int32) (v2 : Int32) (v3 : Int32) (C : CM), X11_hour_l29 n29 v1 v2 v3 C = some (res, C') → GO pM l eM (6) sM mM aM bM meM cM (MQ bM (va_Qi (fun (r' : Int32) (u : CM × OM) => r' = res ∧ u = (C', O)) (wB G) (Fr G)) aM sM 0 0 (Fr G)) G 4 (C, O) 29 [(0, .ref (gB G + 0)), (1, .int v1), (2, .int v2), (3, .int v3)] [] := by
    intro n29
    induction n29 with
    | zero =>
      intro v1 v2 v3 C h
      rw [X11_hour_l29] at h
      cases h
    | succ n29 ih29 =>
      intro v1 v2 v3 C h
      rw [X11_hour_l29] at h
      refine go_iload_n K dX11_hour_29 3 rfl rfl ?_
      refine go_iload_n K dX11_hour_30 1 rfl rfl ?_
      refine go_icmp_ge (tgt := 57) K dX11_hour_31 (by decide) (fun c2 => ?_) (fun c2 => ?_)
      · replace h := ite_t h c2
        refine go_iload_n K dX11_hour_57 2 rfl rfl ?_
        exact go_iret K hr (Prod.mk.inj (Option.some.inj h)).1 (congrArg (fun z => (z, O)) (Prod.mk.inj (Option.some.inj h)).2) dX11_hour_58
      replace h := ite_f h c2
      refine go_aload_n K dX11_hour_34 0 rfl rfl ?_
      refine gf_X11 K 1 (by decide) kf_X11_19 (v := .ref (gB G + 5)) rfl dX11_hour_35 ?_
      obtain ⟨C3, e3, h⟩ := bnd_e h
      refine go_cVV K (c_X10_keepStep l G wh_5 _ _ _ e3) cf_X10_keepStep cv_X10_keepStep km_X11_113 (rv_X10 wh_5) (by decide) rfl rfl (Nat.le_of_ble_eq_true rfl) dX11_hour_38 ?_
      refine go_iload_n K dX11_hour_41 2 rfl rfl ?_
      refine go_aload_n K dX11_hour_42 0 rfl rfl ?_
      refine gf_X11 K 5 (by decide) kf_X11_46 (v := .ref (gB G + twI 0)) rfl dX11_hour_43 ?_
      obtain ⟨r4, C4, e4, h⟩ := bnd2_e h
      refine go_cVI K (c_X9_passHour l G q_0 _ _ _ _ e4) cf_X9_passHour cv_X9_passHour km_X11_164 (rv_X9 q_0) (by decide) rfl rfl (Nat.le_of_ble_eq_true rfl) dX11_hour_46 ?_
      refine go_iadd K dX11_hour_49 ?_
      refine go_istore_n K dX11_hour_50 rfl (by decide) (lv' := [(2, .int (v2 + r4)), (0, .ref (gB G + 0)), (1, .int v1), (3, .int v3)]) rfl ?_
      refine go_iinc K dX11_hour_51 3 rfl (v := (v3 + (1 : Int32))) rfl (by decide) (lv' := [(3, .int (v3 + (1 : Int32))), (2, .int (v2 + r4)), (0, .ref (gB G + 0)), (1, .int v1)]) rfl ?_
      refine go_goto (tgt := 29) K dX11_hour_54 (by decide) ?_
      exact go_sub [2, 3, 1, 0] rfl (ih29 _ _ _ _ h)
  rw [f_X11_hour] at h
  refine go_iload_n K dX11_hour_0 1 rfl rfl ?_
  refine go_iconst (v := (1 : Int32)) K dX11_hour_1 (by decide) ?_
  refine go_bipush (v := (60 : Int32)) K dX11_hour_2 (by decide) ?_
  refine go_aload_n K dX11_hour_4 0 rfl rfl ?_
  refine gf_X11 K 1 (by decide) kf_X11_19 (v := .ref (gB G + 5)) rfl dX11_hour_5 ?_
  refine gf_X10 K wh_5 0 (by decide) kf_X11_39 (v := .ref (gB G + 6)) rfl dX11_hour_8 ?_
  refine go_cVI K (c_X7_hoursToCome l G st_6 _ _ _ rfl) cf_X7_hoursToCome cv_X7_hoursToCome km_X11_156 (rv_X7 st_6) (by decide) rfl rfl (Nat.le_of_ble_eq_true rfl) dX11_hour_11 ?_
  refine go_cSI K (c_J9_min_7cf53 l G _ _ _ _ rfl) cf_J9_min_7cf53 kt_J9_min_7cf53 km_X11_159 (by decide) rfl rfl (Nat.le_of_ble_eq_true rfl) dX11_hour_14 ?_
  refine go_cSI K (c_X11_within l G _ _ _ _ _ _ rfl) cf_X11_within kt_X11_within km_X11_93 (by decide) rfl rfl (Nat.le_of_ble_eq_true rfl) dX11_hour_17 ?_
  refine go_if_ne (tgt := 25) K dX11_hour_20 (by decide) (fun c1 => ?_) (fun c1 => ?_)
  rotate_left
  · replace h := ite_t h c1
    refine go_iconst (v := (-1 : Int32)) K dX11_hour_23 (by decide) ?_
    exact go_iret K hr (Prod.mk.inj (Option.some.inj h)).1 (congrArg (fun z => (z, O)) (Prod.mk.inj (Option.some.inj h)).2) dX11_hour_24
  replace h := ite_f h c1
  refine go_iconst (v := (0 : Int32)) K dX11_hour_25 (by decide) ?_
  refine go_istore_n K dX11_hour_26 rfl (by decide) (lv' := [(2, .int (0 : Int32)), (0, .ref (gB G + 0)), (1, .int v1)]) rfl ?_
  refine go_iconst (v := (0 : Int32)) K dX11_hour_27 (by decide) ?_
  refine go_istore_n K dX11_hour_28 rfl (by decide) (lv' := [(3, .int (0 : Int32)), (2, .int (0 : Int32)), (0, .ref (gB G + 0)), (1, .int v1)]) rfl ?_
  exact go_sub [2, 3, 1, 0] rfl (hl29 FU _ _ _ _ h)
noncomputable def X11_weeks_j77 (C : CM) : Option (Int32 × CM) := (some ((C 6 1), C))
noncomputable def X11_weeks_l58 (k77 : CM → Option (Int32 × CM)) : Nat → Int32 → Int32 → CM → Option (Int32 × CM)
  | 0, _, _, _ => none
  | n + 1, v2, v4, C => (if v2 ≤ v4 then (k77 C) else (bnd (f_X9_drawDeed 0 C) (fun C6 => (X11_weeks_l58 k77 n v2 (v4 + (1 : Int32)) C6))))
noncomputable def f_X11_weeks (v1 : Int32) (v2 : Int32) (C : CM) : Option (Int32 × CM) := (if (f_X11_within v1 (0 : Int32) (9999 : Int32)) = 0 then (some ((-1 : Int32), C)) else (if (f_X11_within v2 (1 : Int32) (30 : Int32)) = 0 then (some ((-1 : Int32), C)) else (if (C 6 0) = 0 then (some ((-1 : Int32), C)) else (bnd (f_X10_keepStep 5 C) (fun C4 => (X11_weeks_l58 (fun C => (X11_weeks_j77 C)) FU v2 (0 : Int32) (up2 C4 6 3 ((v1 * (2 : Int32)) + (97 : Int32)))))))))
theorem cf_X11_weeks : CF yX11_weeks cX11_weeks 5 (Option.some Jvm.ClassFile.FieldType.int) 2 := ⟨kc_X11_weeks, kj_X11, ⟨by decide +kernel, by decide +kernel, by decide +kernel⟩, by decide⟩
theorem cv_X11_weeks : CFv yX11_weeks := ⟨ki_X11_weeks, ks_X11_weeks⟩
set_option maxHeartbeats 4000000 in
set_option maxRecDepth 100000 in
theorem c_X11_weeks (l : Launch) (G : GT) (v1 : Int32) (v2 : Int32) (C : CM) (O : OM) (res : Int32) (C' : CM) (h : f_X11_weeks v1 v2 C = some (res, C')) : MI l G yX11_weeks cX11_weeks 5 (Option.some Jvm.ClassFile.FieldType.int) (7) [.ref (gB G + 0), .int v1, .int v2] (C, O) res (C', O) := by
  unfold MI
  refine met_in RX11 (by decide +kernel) rfl [(0, .ref (gB G + 0)), (1, .int v1), (2, .int v2)] rfl (Nat.le_of_ble_eq_true rfl) ?_
  intro pM eM sM mM aM bM meM cM K hr
  have hj77 : ∀ (C : CM), X11_weeks_j77 C = some (res, C') → GO pM l eM (7) sM mM aM bM meM cM (MQ bM (va_Qi (fun (r' : Int32) (u : CM × OM) => r' = res ∧ u = (C', O)) (wB G) (Fr G)) aM sM 0 0 (Fr G)) G 5 (C, O) 77 [(3, .ref (gB G + 6))] [] := by
    intro C h
    rw [X11_weeks_j77] at h
    refine go_aload_n K dX11_weeks_77 0 rfl rfl ?_
    refine gf_X7 K st_6 1 (by decide) kf_X11_173 (v := .int (C 6 1)) rfl dX11_weeks_78 ?_
    exact go_iret K hr (Prod.mk.inj (Option.some.inj h)).1 (congrArg (fun z => (z, O)) (Prod.mk.inj (Option.some.inj h)).2) dX11_weeks_81
  have hl58 : ∀ (n58 : Nat) (v2 : Int32) (v4 : Int32) (C : CM), X11_weeks_l58 (fun C => (X11_weeks_j77 C)) n58 v2 v4 C = some (res, C') → GO pM l eM (7) sM mM aM bM meM cM (MQ bM (va_Qi (fun (r' : Int32) (u : CM × OM) => r' = res ∧ u = (C', O)) (wB G) (Fr G)) aM sM 0 0 (Fr G)) G 5 (C, O) 58 [(0, .ref (gB G + 0)), (2, .int v2), (3, .ref (gB G + 6)), (4, .int v4)] [] := by
    intro n58
    induction n58 with
    | zero =>
      intro v2 v4 C h
      rw [X11_weeks_l58] at h
      cases h
    | succ n58 ih58 =>
      intro v2 v4 C h
      rw [X11_weeks_l58] at h
      refine go_iload K dX11_weeks_58 3 rfl ?_
      refine go_iload_n K dX11_weeks_60 1 rfl rfl ?_
      refine go_icmp_ge (tgt := 77) K dX11_weeks_61 (by decide) (fun c5 => ?_) (fun c5 => ?_)
      · replace h := ite_t h c5
        exact go_sub [2] rfl (hj77 _ h)
      replace h := ite_f h c5
      refine go_aload_n K dX11_weeks_64 0 rfl rfl ?_
      refine gf_X11 K 5 (by decide) kf_X11_46 (v := .ref (gB G + twI 0)) rfl dX11_weeks_65 ?_
      obtain ⟨C6, e6, h⟩ := bnd_e h
      refine go_cVV K (c_X9_drawDeed l G q_0 _ _ _ e6) cf_X9_drawDeed cv_X9_drawDeed km_X11_170 (rv_X9 q_0) (by decide) rfl rfl (Nat.le_of_ble_eq_true rfl) dX11_weeks_68 ?_
      refine go_iinc K dX11_weeks_71 3 rfl (v := (v4 + (1 : Int32))) rfl (by decide) (lv' := [(4, .int (v4 + (1 : Int32))), (0, .ref (gB G + 0)), (2, .int v2), (3, .ref (gB G + 6))]) rfl ?_
      refine go_goto (tgt := 58) K dX11_weeks_74 (by decide) ?_
      exact go_sub [1, 2, 3, 0] rfl (ih58 _ _ _ h)
  rw [f_X11_weeks] at h
  refine go_aload_n K dX11_weeks_0 0 rfl rfl ?_
  refine gf_X11 K 1 (by decide) kf_X11_19 (v := .ref (gB G + 5)) rfl dX11_weeks_1 ?_
  refine gf_X10 K wh_5 0 (by decide) kf_X11_39 (v := .ref (gB G + 6)) rfl dX11_weeks_4 ?_
  refine go_astore_n K dX11_weeks_7 rfl (by decide) (lv' := [(3, .ref (gB G + 6)), (0, .ref (gB G + 0)), (1, .int v1), (2, .int v2)]) rfl ?_
  refine go_iload_n K dX11_weeks_8 2 rfl rfl ?_
  refine go_iconst (v := (0 : Int32)) K dX11_weeks_9 (by decide) ?_
  refine go_sipush (v := (9999 : Int32)) K dX11_weeks_10 (by decide) ?_
  refine go_cSI K (c_X11_within l G _ _ _ _ _ _ rfl) cf_X11_within kt_X11_within km_X11_93 (by decide) rfl rfl (Nat.le_of_ble_eq_true rfl) dX11_weeks_13 ?_
  refine go_if_eq (tgt := 36) K dX11_weeks_16 (by decide) (fun c1 => ?_) (fun c1 => ?_)
  · replace h := ite_t h c1
    refine go_iconst (v := (-1 : Int32)) K dX11_weeks_36 (by decide) ?_
    exact go_iret K hr (Prod.mk.inj (Option.some.inj h)).1 (congrArg (fun z => (z, O)) (Prod.mk.inj (Option.some.inj h)).2) dX11_weeks_37
  replace h := ite_f h c1
  refine go_iload_n K dX11_weeks_19 3 rfl rfl ?_
  refine go_iconst (v := (1 : Int32)) K dX11_weeks_20 (by decide) ?_
  refine go_bipush (v := (30 : Int32)) K dX11_weeks_21 (by decide) ?_
  refine go_cSI K (c_X11_within l G _ _ _ _ _ _ rfl) cf_X11_within kt_X11_within km_X11_93 (by decide) rfl rfl (Nat.le_of_ble_eq_true rfl) dX11_weeks_23 ?_
  refine go_if_eq (tgt := 36) K dX11_weeks_26 (by decide) (fun c2 => ?_) (fun c2 => ?_)
  · replace h := ite_t h c2
    refine go_iconst (v := (-1 : Int32)) K dX11_weeks_36 (by decide) ?_
    exact go_iret K hr (Prod.mk.inj (Option.some.inj h)).1 (congrArg (fun z => (z, O)) (Prod.mk.inj (Option.some.inj h)).2) dX11_weeks_37
  replace h := ite_f h c2
  refine go_aload_n K dX11_weeks_29 0 rfl rfl ?_
  refine gf_X7 K st_6 0 (by decide) kf_X11_97 (v := .int (C 6 0)) rfl dX11_weeks_30 ?_
  refine go_if_ne (tgt := 38) K dX11_weeks_33 (by decide) (fun c3 => ?_) (fun c3 => ?_)
  rotate_left
  · replace h := ite_t h c3
    refine go_iconst (v := (-1 : Int32)) K dX11_weeks_36 (by decide) ?_
    exact go_iret K hr (Prod.mk.inj (Option.some.inj h)).1 (congrArg (fun z => (z, O)) (Prod.mk.inj (Option.some.inj h)).2) dX11_weeks_37
  replace h := ite_f h c3
  refine go_aload_n K dX11_weeks_38 1 rfl rfl ?_
  refine gf_X11 K 1 (by decide) kf_X11_19 (v := .ref (gB G + 5)) rfl dX11_weeks_39 ?_
  obtain ⟨C4, e4, h⟩ := bnd_e h
  refine go_cVV K (c_X10_keepStep l G wh_5 _ _ _ e4) cf_X10_keepStep cv_X10_keepStep km_X11_113 (rv_X10 wh_5) (by decide) rfl rfl (Nat.le_of_ble_eq_true rfl) dX11_weeks_42 ?_
  refine go_aload_n K dX11_weeks_45 0 rfl rfl ?_
  refine go_iload_n K dX11_weeks_46 2 rfl rfl ?_
  refine go_iconst (v := (2 : Int32)) K dX11_weeks_47 (by decide) ?_
  refine go_imul K dX11_weeks_48 ?_
  refine go_bipush (v := (97 : Int32)) K dX11_weeks_49 (by decide) ?_
  refine go_iadd K dX11_weeks_51 ?_
  refine pf_X7 K st_6 3 (by decide) kf_X11_167 rfl rfl rfl dX11_weeks_52 ?_
  refine go_iconst (v := (0 : Int32)) K dX11_weeks_55 (by decide) ?_
  refine go_istore K dX11_weeks_56 (by decide) (lv' := [(4, .int (0 : Int32)), (3, .ref (gB G + 6)), (0, .ref (gB G + 0)), (1, .int v1), (2, .int v2)]) rfl ?_
  exact go_sub [2, 4, 1, 0] rfl (hl58 FU _ _ _ h)
noncomputable def f_X11_feed (v1 : Int32) (v2 : Int32) (v3 : Int32) (v4 : Int32) (v5 : Int32) (C : CM) : Option (Int32 × CM) := (if ((C 404 1) + (20 : Int32)) ≤ (300 : Int32) then (bnd (f_X8_add v1 C) (fun C2 => (bnd (f_X8_add v2 C2) (fun C3 => (bnd (f_X8_add v3 C3) (fun C4 => (bnd (f_X8_add v4 C4) (fun C5 => (bnd (f_X8_add v5 C5) (fun C6 => (some ((C6 404 1), C6)))))))))))) else (some ((-1 : Int32), C)))
theorem cf_X11_feed : CF yX11_feed cX11_feed 6 (Option.some Jvm.ClassFile.FieldType.int) 5 := ⟨kc_X11_feed, kj_X11, ⟨by decide +kernel, by decide +kernel, by decide +kernel⟩, by decide⟩
theorem cv_X11_feed : CFv yX11_feed := ⟨ki_X11_feed, ks_X11_feed⟩
set_option maxHeartbeats 4000000 in
set_option maxRecDepth 100000 in
theorem c_X11_feed (l : Launch) (G : GT) (v1 : Int32) (v2 : Int32) (v3 : Int32) (v4 : Int32) (v5 : Int32) (C : CM) (O : OM) (res : Int32) (C' : CM) (h : f_X11_feed v1 v2 v3 v4 v5 C = some (res, C')) : MI l G yX11_feed cX11_feed 6 (Option.some Jvm.ClassFile.FieldType.int) (3) [.ref (gB G + 0), .int v1, .int v2, .int v3, .int v4, .int v5] (C, O) res (C', O) := by
  unfold MI
  refine met_in RX11 (by decide +kernel) rfl [(0, .ref (gB G + 0)), (1, .int v1), (2, .int v2), (3, .int v3), (4, .int v4), (5, .int v5)] rfl (Nat.le_of_ble_eq_true rfl) ?_
  intro pM eM sM mM aM bM meM cM K hr
  rw [f_X11_feed] at h
  refine go_aload_n K dX11_feed_0 0 rfl rfl ?_
  refine gf_X11 K 7 (by decide) kf_X11_59 (v := .ref (gB G + 404)) rfl dX11_feed_1 ?_
  refine gf_X8 K 1 (by decide) kf_X11_176 (v := .int (C 404 1)) rfl dX11_feed_4 ?_
  refine go_bipush (v := (20 : Int32)) K dX11_feed_7 (by decide) ?_
  refine go_iadd K dX11_feed_9 ?_
  refine go_sipush (v := (300 : Int32)) K dX11_feed_10 (by decide) ?_
  refine go_icmp_le (tgt := 18) K dX11_feed_13 (by decide) (fun c1 => ?_) (fun c1 => ?_)
  rotate_left
  · replace h := ite_f h c1
    refine go_iconst (v := (-1 : Int32)) K dX11_feed_16 (by decide) ?_
    exact go_iret K hr (Prod.mk.inj (Option.some.inj h)).1 (congrArg (fun z => (z, O)) (Prod.mk.inj (Option.some.inj h)).2) dX11_feed_17
  replace h := ite_t h c1
  refine go_aload_n K dX11_feed_18 0 rfl rfl ?_
  refine gf_X11 K 7 (by decide) kf_X11_59 (v := .ref (gB G + 404)) rfl dX11_feed_19 ?_
  refine go_iload_n K dX11_feed_22 1 rfl rfl ?_
  obtain ⟨C2, e2, h⟩ := bnd_e h
  refine go_cVV K (c_X8_add l G _ _ _ _ e2) cf_X8_add cv_X8_add km_X11_179 rv_X8 (by decide) rfl rfl (Nat.le_of_ble_eq_true rfl) dX11_feed_23 ?_
  refine go_aload_n K dX11_feed_26 0 rfl rfl ?_
  refine gf_X11 K 7 (by decide) kf_X11_59 (v := .ref (gB G + 404)) rfl dX11_feed_27 ?_
  refine go_iload_n K dX11_feed_30 2 rfl rfl ?_
  obtain ⟨C3, e3, h⟩ := bnd_e h
  refine go_cVV K (c_X8_add l G _ _ _ _ e3) cf_X8_add cv_X8_add km_X11_179 rv_X8 (by decide) rfl rfl (Nat.le_of_ble_eq_true rfl) dX11_feed_31 ?_
  refine go_aload_n K dX11_feed_34 0 rfl rfl ?_
  refine gf_X11 K 7 (by decide) kf_X11_59 (v := .ref (gB G + 404)) rfl dX11_feed_35 ?_
  refine go_iload_n K dX11_feed_38 3 rfl rfl ?_
  obtain ⟨C4, e4, h⟩ := bnd_e h
  refine go_cVV K (c_X8_add l G _ _ _ _ e4) cf_X8_add cv_X8_add km_X11_179 rv_X8 (by decide) rfl rfl (Nat.le_of_ble_eq_true rfl) dX11_feed_39 ?_
  refine go_aload_n K dX11_feed_42 0 rfl rfl ?_
  refine gf_X11 K 7 (by decide) kf_X11_59 (v := .ref (gB G + 404)) rfl dX11_feed_43 ?_
  refine go_iload K dX11_feed_46 4 rfl ?_
  obtain ⟨C5, e5, h⟩ := bnd_e h
  refine go_cVV K (c_X8_add l G _ _ _ _ e5) cf_X8_add cv_X8_add km_X11_179 rv_X8 (by decide) rfl rfl (Nat.le_of_ble_eq_true rfl) dX11_feed_48 ?_
  refine go_aload_n K dX11_feed_51 0 rfl rfl ?_
  refine gf_X11 K 7 (by decide) kf_X11_59 (v := .ref (gB G + 404)) rfl dX11_feed_52 ?_
  refine go_iload K dX11_feed_55 5 rfl ?_
  obtain ⟨C6, e6, h⟩ := bnd_e h
  refine go_cVV K (c_X8_add l G _ _ _ _ e6) cf_X8_add cv_X8_add km_X11_179 rv_X8 (by decide) rfl rfl (Nat.le_of_ble_eq_true rfl) dX11_feed_57 ?_
  refine go_aload_n K dX11_feed_60 0 rfl rfl ?_
  refine gf_X11 K 7 (by decide) kf_X11_59 (v := .ref (gB G + 404)) rfl dX11_feed_61 ?_
  refine gf_X8 K 1 (by decide) kf_X11_176 (v := .int (C6 404 1)) rfl dX11_feed_64 ?_
  exact go_iret K hr (Prod.mk.inj (Option.some.inj h)).1 (congrArg (fun z => (z, O)) (Prod.mk.inj (Option.some.inj h)).2) dX11_feed_67
noncomputable def f_X11_end (v1 : Int32) (C : CM) : Option (Int32 × CM) := (if (f_X11_within v1 (0 : Int32) (C 404 1)) = 0 then (some ((-1 : Int32), C)) else (some (v1, (up2 C 404 1 v1))))
theorem cf_X11_end : CF yX11_end cX11_end 2 (Option.some Jvm.ClassFile.FieldType.int) 1 := ⟨kc_X11_end, kj_X11, ⟨by decide +kernel, by decide +kernel, by decide +kernel⟩, by decide⟩
theorem cv_X11_end : CFv yX11_end := ⟨ki_X11_end, ks_X11_end⟩
set_option maxHeartbeats 4000000 in
set_option maxRecDepth 100000 in
theorem c_X11_end (l : Launch) (G : GT) (v1 : Int32) (C : CM) (O : OM) (res : Int32) (C' : CM) (h : f_X11_end v1 C = some (res, C')) : MI l G yX11_end cX11_end 2 (Option.some Jvm.ClassFile.FieldType.int) (2) [.ref (gB G + 0), .int v1] (C, O) res (C', O) := by
  unfold MI
  refine met_in RX11 (by decide +kernel) rfl [(0, .ref (gB G + 0)), (1, .int v1)] rfl (Nat.le_of_ble_eq_true rfl) ?_
  intro pM eM sM mM aM bM meM cM K hr
  rw [f_X11_end] at h
  refine go_iload_n K dX11_end_0 1 rfl rfl ?_
  refine go_iconst (v := (0 : Int32)) K dX11_end_1 (by decide) ?_
  refine go_aload_n K dX11_end_2 0 rfl rfl ?_
  refine gf_X11 K 7 (by decide) kf_X11_59 (v := .ref (gB G + 404)) rfl dX11_end_3 ?_
  refine gf_X8 K 1 (by decide) kf_X11_176 (v := .int (C 404 1)) rfl dX11_end_6 ?_
  refine go_cSI K (c_X11_within l G _ _ _ _ _ _ rfl) cf_X11_within kt_X11_within km_X11_93 (by decide) rfl rfl (Nat.le_of_ble_eq_true rfl) dX11_end_9 ?_
  refine go_if_ne (tgt := 17) K dX11_end_12 (by decide) (fun c1 => ?_) (fun c1 => ?_)
  rotate_left
  · replace h := ite_t h c1
    refine go_iconst (v := (-1 : Int32)) K dX11_end_15 (by decide) ?_
    exact go_iret K hr (Prod.mk.inj (Option.some.inj h)).1 (congrArg (fun z => (z, O)) (Prod.mk.inj (Option.some.inj h)).2) dX11_end_16
  replace h := ite_f h c1
  refine go_aload_n K dX11_end_17 0 rfl rfl ?_
  refine gf_X11 K 7 (by decide) kf_X11_59 (v := .ref (gB G + 404)) rfl dX11_end_18 ?_
  refine go_iload_n K dX11_end_21 1 rfl rfl ?_
  refine pf_X8 K 1 (by decide) kf_X11_176 rfl rfl rfl dX11_end_22 ?_
  refine go_iload_n K dX11_end_25 1 rfl rfl ?_
  exact go_iret K hr (Prod.mk.inj (Option.some.inj h)).1 (congrArg (fun z => (z, O)) (Prod.mk.inj (Option.some.inj h)).2) dX11_end_26
noncomputable def f_X11_script (v1 : Int32) : Option Nat := (if (f_X11_within v1 (0 : Int32) (3 : Int32)) = 0 then (some 383) else (gd (inb v1 4) (some (422 + 6 * v1.toNatClampNeg))))
theorem cf_X11_script : CF yX11_script cX11_script 3 (Option.some (Jvm.ClassFile.FieldType.object "BowsOwed$Script")) 1 := ⟨kc_X11_script, kj_X11, ⟨by decide +kernel, by decide +kernel, by decide +kernel⟩, by decide⟩
theorem cv_X11_script : CFv yX11_script := ⟨ki_X11_script, ks_X11_script⟩
set_option maxHeartbeats 4000000 in
set_option maxRecDepth 100000 in
theorem c_X11_script (l : Launch) (G : GT) (v1 : Int32) (C : CM) (O : OM) (res : Nat) (h : f_X11_script v1 = some res) : MR l G yX11_script cX11_script 3 (Option.some (Jvm.ClassFile.FieldType.object "BowsOwed$Script")) (2) [.ref (gB G + 0), .int v1] (C, O) res (C, O) := by
  unfold MR
  refine met_in RX11 (by decide +kernel) rfl [(0, .ref (gB G + 0)), (1, .int v1)] rfl (Nat.le_of_ble_eq_true rfl) ?_
  intro pM eM sM mM aM bM meM cM K hr
  rw [f_X11_script] at h
  refine go_iload_n K dX11_script_0 1 rfl rfl ?_
  refine go_iconst (v := (0 : Int32)) K dX11_script_1 (by decide) ?_
  refine go_aload_n K dX11_script_2 0 rfl rfl ?_
  refine gf_X11 K 4 (by decide) kf_X11_33 (v := .ref (gB G + 389)) rfl dX11_script_3 ?_
  refine go_sclen K (Nat.le_of_ble_eq_true rfl) sh_389 (v := (4 : Int32)) rfl dX11_script_6 ?_
  refine go_iconst (v := (1 : Int32)) K dX11_script_7 (by decide) ?_
  refine go_isub K dX11_script_8 ?_
  refine go_fold (y := (3 : Int32)) (by decide) ?_
  refine go_cSI K (c_X11_within l G _ _ _ _ _ _ rfl) cf_X11_within kt_X11_within km_X11_93 (by decide) rfl rfl (Nat.le_of_ble_eq_true rfl) dX11_script_9 ?_
  refine go_if_ne (tgt := 20) K dX11_script_12 (by decide) (fun c1 => ?_) (fun c1 => ?_)
  rotate_left
  · replace h := ite_t h c1
    refine go_aload_n K dX11_script_15 0 rfl rfl ?_
    refine gf_X11 K 3 (by decide) kf_X11_29 (v := .ref (gB G + 383)) rfl dX11_script_16 ?_
    exact go_aret K hr (Or.inl ⟨_, rfl⟩) (Option.some.inj h) rfl dX11_script_19
  replace h := ite_f h c1
  refine go_aload_n K dX11_script_20 0 rfl rfl ?_
  refine gf_X11 K 4 (by decide) kf_X11_33 (v := .ref (gB G + 389)) rfl dX11_script_21 ?_
  refine go_iload_n K dX11_script_24 1 rfl rfl ?_
  obtain ⟨g2, h⟩ := gd_e h
  refine go_scald K (Nat.le_of_ble_eq_true rfl) sh_389 g2 rfl dX11_script_25 ?_
  refine go_astore_n K dX11_script_26 rfl (by decide) (lv' := [(2, .ref (gB G + (422 + 6 * v1.toNatClampNeg))), (0, .ref (gB G + 0)), (1, .int v1)]) rfl ?_
  refine go_aload_n K dX11_script_27 0 rfl rfl ?_
  refine go_ifnonnull (tgt := 38) K dX11_script_28 (by decide) ?_
  refine go_aload_n K dX11_script_38 0 rfl rfl ?_
  exact go_aret K hr (Or.inl ⟨_, rfl⟩) (Option.some.inj h) rfl dX11_script_39
theorem ty_X11_script {i : Int32} {r : Nat} (h : f_X11_script i = some r) : ScAt r := by
  rw [f_X11_script] at h
  split at h
  · rw [← Option.some.inj h]; exact sc_383
  · obtain ⟨g, h⟩ := gd_e h
    rw [← Option.some.inj h]
    exact sc_tx g
noncomputable def f_X11_text (C : CM) : Option (Int32 × CM) := (if (C 5 2) < (4 : Int32) then (bnd2 (f_X4_read C) (fun r2 C2 => (if r2 = 0 then (some ((-1 : Int32), (up2 C2 404 1 (0 : Int32)))) else (bnd (f_X11_script (C 5 2)) (fun r4 => (bnd (f_X6_copyFrom r4 407 (up2 C2 404 1 (0 : Int32))) (fun C5 => (some ((C 5 2), (up2 C5 5 2 ((C 5 2) + (1 : Int32)))))))))))) else (some ((-1 : Int32), C)))
theorem cf_X11_text : CF yX11_text cX11_text 3 (Option.some Jvm.ClassFile.FieldType.int) 0 := ⟨kc_X11_text, kj_X11, ⟨by decide +kernel, by decide +kernel, by decide +kernel⟩, by decide⟩
theorem cv_X11_text : CFv yX11_text := ⟨ki_X11_text, ks_X11_text⟩
set_option maxHeartbeats 4000000 in
set_option maxRecDepth 100000 in
theorem c_X11_text (l : Launch) (G : GT) (C : CM) (O : OM) (res : Int32) (C' : CM) (h : f_X11_text C = some (res, C')) : MI l G yX11_text cX11_text 3 (Option.some Jvm.ClassFile.FieldType.int) (203) [.ref (gB G + 0)] (C, O) res (C', O) := by
  unfold MI
  refine met_in RX11 (by decide +kernel) rfl [(0, .ref (gB G + 0))] rfl (Nat.le_of_ble_eq_true rfl) ?_
  intro pM eM sM mM aM bM meM cM K hr
  rw [f_X11_text] at h
  refine go_aload_n K dX11_text_0 0 rfl rfl ?_
  refine gf_X11 K 1 (by decide) kf_X11_19 (v := .ref (gB G + 5)) rfl dX11_text_1 ?_
  refine gf_X10 K wh_5 2 (by decide) kf_X11_183 (v := .int (C 5 2)) rfl dX11_text_4 ?_
  refine go_istore_n K dX11_text_7 rfl (by decide) (lv' := [(1, .int (C 5 2)), (0, .ref (gB G + 0))]) rfl ?_
  refine go_iload_n K dX11_text_8 0 rfl rfl ?_
  refine go_iconst (v := (4 : Int32)) K dX11_text_9 (by decide) ?_
  refine go_icmp_lt (tgt := 15) K dX11_text_10 (by decide) (fun c1 => ?_) (fun c1 => ?_)
  rotate_left
  · replace h := ite_f h c1
    refine go_iconst (v := (-1 : Int32)) K dX11_text_13 (by decide) ?_
    exact go_iret K hr (Prod.mk.inj (Option.some.inj h)).1 (congrArg (fun z => (z, O)) (Prod.mk.inj (Option.some.inj h)).2) dX11_text_14
  replace h := ite_t h c1
  refine go_aload_n K dX11_text_15 1 rfl rfl ?_
  refine gf_X11 K 8 (by decide) kf_X11_68 (v := .ref (gB G + 406)) rfl dX11_text_16 ?_
  obtain ⟨r2, C2, e2, h⟩ := bnd2_e h
  refine go_cVI K (c_X4_read l G _ _ _ _ e2) cf_X4_read cv_X4_read km_X11_185 rv_X4 (by decide) rfl rfl (Nat.le_of_ble_eq_true rfl) dX11_text_19 ?_
  refine go_istore_n K dX11_text_22 rfl (by decide) (lv' := [(2, .int r2), (1, .int (C 5 2)), (0, .ref (gB G + 0))]) rfl ?_
  refine go_aload_n K dX11_text_23 2 rfl rfl ?_
  refine gf_X11 K 7 (by decide) kf_X11_59 (v := .ref (gB G + 404)) rfl dX11_text_24 ?_
  refine go_iconst (v := (0 : Int32)) K dX11_text_27 (by decide) ?_
  refine pf_X8 K 1 (by decide) kf_X11_176 rfl rfl rfl dX11_text_28 ?_
  refine go_iload_n K dX11_text_31 0 rfl rfl ?_
  refine go_if_ne (tgt := 37) K dX11_text_32 (by decide) (fun c3 => ?_) (fun c3 => ?_)
  rotate_left
  · replace h := ite_t h c3
    refine go_iconst (v := (-1 : Int32)) K dX11_text_35 (by decide) ?_
    exact go_iret K hr (Prod.mk.inj (Option.some.inj h)).1 (congrArg (fun z => (z, O)) (Prod.mk.inj (Option.some.inj h)).2) dX11_text_36
  replace h := ite_f h c3
  refine go_aload_n K dX11_text_37 2 rfl rfl ?_
  refine go_iload_n K dX11_text_38 1 rfl rfl ?_
  obtain ⟨r4, e4, h⟩ := bnd_e h
  refine go_cVR K (c_X11_script l G _ _ _ _ e4) cf_X11_script cv_X11_script km_X11_189 rv_X11 (by decide) rfl rfl (Nat.le_of_ble_eq_true rfl) dX11_text_39 ?_
  refine go_aload_n K dX11_text_42 2 rfl rfl ?_
  refine gf_X11 K 8 (by decide) kf_X11_68 (v := .ref (gB G + 406)) rfl dX11_text_43 ?_
  refine gf_X4 K 0 (by decide) kf_X11_193 (v := .ref (gB G + 407)) rfl dX11_text_46 ?_
  obtain ⟨C5, e5, h⟩ := bnd_e h
  refine go_cVV K (c_X6_copyFrom l G (ty_X11_script e4) sc_407 _ _ _ e5) cf_X6_copyFrom cv_X6_copyFrom km_X11_196 (rv_X6 (ty_X11_script e4)) (by decide) rfl rfl (Nat.le_of_ble_eq_true rfl) dX11_text_49 ?_
  refine go_aload_n K dX11_text_52 2 rfl rfl ?_
  refine gf_X11 K 1 (by decide) kf_X11_19 (v := .ref (gB G + 5)) rfl dX11_text_53 ?_
  refine go_iload_n K dX11_text_56 1 rfl rfl ?_
  refine go_iconst (v := (1 : Int32)) K dX11_text_57 (by decide) ?_
  refine go_iadd K dX11_text_58 ?_
  refine pf_X10 K wh_5 2 (by decide) kf_X11_183 rfl rfl rfl dX11_text_59 ?_
  refine go_iload_n K dX11_text_62 1 rfl rfl ?_
  exact go_iret K hr (Prod.mk.inj (Option.some.inj h)).1 (congrArg (fun z => (z, O)) (Prod.mk.inj (Option.some.inj h)).2) dX11_text_63
noncomputable def f_X11_fault (v1 : Int32) (C : CM) : Int32 := (if v1 = (0 : Int32) then (C 406 1) else (if v1 = (1 : Int32) then (C 406 2) else (-1 : Int32)))
theorem cf_X11_fault : CF yX11_fault cX11_fault 2 (Option.some Jvm.ClassFile.FieldType.int) 1 := ⟨kc_X11_fault, kj_X11, ⟨by decide +kernel, by decide +kernel, by decide +kernel⟩, by decide⟩
theorem cv_X11_fault : CFv yX11_fault := ⟨ki_X11_fault, ks_X11_fault⟩
set_option maxHeartbeats 4000000 in
set_option maxRecDepth 100000 in
theorem c_X11_fault (l : Launch) (G : GT) (v1 : Int32) (C : CM) (O : OM) (res : Int32) (h : f_X11_fault v1 C = res) : MI l G yX11_fault cX11_fault 2 (Option.some Jvm.ClassFile.FieldType.int) (1) [.ref (gB G + 0), .int v1] (C, O) res (C, O) := by
  unfold MI
  refine met_in RX11 (by decide +kernel) rfl [(0, .ref (gB G + 0)), (1, .int v1)] rfl (Nat.le_of_ble_eq_true rfl) ?_
  intro pM eM sM mM aM bM meM cM K hr
  rw [f_X11_fault] at h
  refine go_iload_n K dX11_fault_0 1 rfl rfl ?_
  by_cases c1 : v1 = (0 : Int32)
  · refine go_lookup K dX11_fault_1 (by decide) (off := 27) (by rw [c1]; decide) (tgt := 28) (by decide) ?_
    replace h := ite_t h c1
    refine go_aload_n K dX11_fault_28 0 rfl rfl ?_
    refine gf_X11 K 8 (by decide) kf_X11_68 (v := .ref (gB G + 406)) rfl dX11_fault_29 ?_
    refine gf_X4 K 1 (by decide) kf_X11_200 (v := .int (C 406 1)) rfl dX11_fault_32 ?_
    exact go_iret K hr h rfl dX11_fault_35
  replace h := ite_f h c1
  by_cases c2 : v1 = (1 : Int32)
  · refine go_lookup K dX11_fault_1 (by decide) (off := 35) (by rw [c2]; decide) (tgt := 36) (by decide) ?_
    replace h := ite_t h c2
    refine go_aload_n K dX11_fault_36 0 rfl rfl ?_
    refine gf_X11 K 8 (by decide) kf_X11_68 (v := .ref (gB G + 406)) rfl dX11_fault_37 ?_
    refine gf_X4 K 2 (by decide) kf_X11_203 (v := .int (C 406 2)) rfl dX11_fault_40 ?_
    exact go_iret K hr h rfl dX11_fault_43
  replace h := ite_f h c2
  have c1 := sw_ne c1 (k := 0) (by decide)
  have c2 := sw_ne c2 (k := 1) (by decide)
  refine go_lookup K dX11_fault_1 (by decide) (off := 43) (show Op.lookupswitch.offset [(0, 27), (1, 35)] (43) (v1).toInt = 43 from by simp only [Op.lookupswitch.offset_cons, Op.lookupswitch.offset_nil]; rw [if_neg (fun q => c1 q.symm), if_neg (fun q => c2 q.symm)]) (tgt := 44) (by decide) ?_
  refine go_iconst (v := (-1 : Int32)) K dX11_fault_44 (by decide) ?_
  exact go_iret K hr h rfl dX11_fault_45
noncomputable def f_X11_isText (v1 : Int32) (C : CM) : Option Int32 := (gd ((f_X11_within v1 (0 : Int32) ((C 5 2) - (1 : Int32))) = 0 ∨ (f_X11_within v1 (0 : Int32) ((C 5 2) - (1 : Int32))) = 1) (some (f_X11_within v1 (0 : Int32) ((C 5 2) - (1 : Int32)))))
theorem cf_X11_isText : CF yX11_isText cX11_isText 2 (Option.some Jvm.ClassFile.FieldType.boolean) 1 := ⟨kc_X11_isText, kj_X11, ⟨by decide +kernel, by decide +kernel, by decide +kernel⟩, by decide⟩
theorem cv_X11_isText : CFv yX11_isText := ⟨ki_X11_isText, ks_X11_isText⟩
set_option maxHeartbeats 4000000 in
set_option maxRecDepth 100000 in
theorem c_X11_isText (l : Launch) (G : GT) (v1 : Int32) (C : CM) (O : OM) (res : Int32) (h : f_X11_isText v1 C = some res) : MI l G yX11_isText cX11_isText 2 (Option.some Jvm.ClassFile.FieldType.boolean) (2) [.ref (gB G + 0), .int v1] (C, O) res (C, O) := by
  unfold MI
  refine met_in RX11 (by decide +kernel) rfl [(0, .ref (gB G + 0)), (1, .int v1)] rfl (Nat.le_of_ble_eq_true rfl) ?_
  intro pM eM sM mM aM bM meM cM K hr
  rw [f_X11_isText] at h
  refine go_iload_n K dX11_isText_0 1 rfl rfl ?_
  refine go_iconst (v := (0 : Int32)) K dX11_isText_1 (by decide) ?_
  refine go_aload_n K dX11_isText_2 0 rfl rfl ?_
  refine gf_X11 K 1 (by decide) kf_X11_19 (v := .ref (gB G + 5)) rfl dX11_isText_3 ?_
  refine gf_X10 K wh_5 2 (by decide) kf_X11_183 (v := .int (C 5 2)) rfl dX11_isText_6 ?_
  refine go_iconst (v := (1 : Int32)) K dX11_isText_9 (by decide) ?_
  refine go_isub K dX11_isText_10 ?_
  refine go_cSI K (c_X11_within l G _ _ _ _ _ _ rfl) cf_X11_within kt_X11_within km_X11_93 (by decide) rfl rfl (Nat.le_of_ble_eq_true rfl) dX11_isText_11 ?_
  obtain ⟨g1, h⟩ := gd_e h
  exact go_zret K hr (narrow_z g1) (Option.some.inj h) rfl dX11_isText_14
noncomputable def X11_by_j15 (v1 : Int32) (C : CM) : Option (Int32 × CM) := (bnd (f_X11_script v1) (fun r2 => (bnd (f_X1_rule 0 r2 (up2 C 5 3 v1)) (fun C3 => (some ((1 : Int32), C3))))))
noncomputable def f_X11_by (v1 : Int32) (C : CM) : Option (Int32 × CM) := (if v1 = (-1 : Int32) then (X11_by_j15 v1 C) else (bnd (f_X11_isText v1 C) (fun r4 => (if r4 = 0 then (some ((0 : Int32), C)) else (X11_by_j15 v1 C)))))
theorem cf_X11_by : CF yX11_by cX11_by 2 (Option.some Jvm.ClassFile.FieldType.boolean) 1 := ⟨kc_X11_by, kj_X11, ⟨by decide +kernel, by decide +kernel, by decide +kernel⟩, by decide⟩
theorem cv_X11_by : CFv yX11_by := ⟨ki_X11_by, ks_X11_by⟩
set_option maxHeartbeats 4000000 in
set_option maxRecDepth 100000 in
theorem c_X11_by (l : Launch) (G : GT) (v1 : Int32) (C : CM) (O : OM) (res : Int32) (C' : CM) (h : f_X11_by v1 C = some (res, C')) : MI l G yX11_by cX11_by 2 (Option.some Jvm.ClassFile.FieldType.boolean) (3) [.ref (gB G + 0), .int v1] (C, O) res (C', O) := by
  unfold MI
  refine met_in RX11 (by decide +kernel) rfl [(0, .ref (gB G + 0)), (1, .int v1)] rfl (Nat.le_of_ble_eq_true rfl) ?_
  intro pM eM sM mM aM bM meM cM K hr
  have hj15 : ∀ (v1 : Int32) (C : CM), X11_by_j15 v1 C = some (res, C') → GO pM l eM (3) sM mM aM bM meM cM (MQ bM (va_Qi (fun (r' : Int32) (u : CM × OM) => r' = res ∧ u = (C', O)) (wB G) (Fr G)) aM sM 0 0 (Fr G)) G 2 (C, O) 15 [(0, .ref (gB G + 0)), (1, .int v1)] [] := by
    intro v1 C h
    rw [X11_by_j15] at h
    refine go_aload_n K dX11_by_15 0 rfl rfl ?_
    refine gf_X11 K 1 (by decide) kf_X11_19 (v := .ref (gB G + 5)) rfl dX11_by_16 ?_
    refine go_iload_n K dX11_by_19 1 rfl rfl ?_
    refine pf_X10 K wh_5 3 (by decide) kf_X11_209 rfl rfl rfl dX11_by_20 ?_
    refine go_aload_n K dX11_by_23 0 rfl rfl ?_
    refine gf_X11 K 5 (by decide) kf_X11_46 (v := .ref (gB G + twI 0)) rfl dX11_by_24 ?_
    refine gf_X9 K q_0 1 (by decide) kf_X11_212 (v := .ref (gB G + laI 0)) rfl dX11_by_27 ?_
    refine go_aload_n K dX11_by_30 0 rfl rfl ?_
    refine go_iload_n K dX11_by_31 1 rfl rfl ?_
    obtain ⟨r2, e2, h⟩ := bnd_e h
    refine go_cVR K (c_X11_script l G _ _ _ _ e2) cf_X11_script cv_X11_script km_X11_189 rv_X11 (by decide) rfl rfl (Nat.le_of_ble_eq_true rfl) dX11_by_32 ?_
    obtain ⟨C3, e3, h⟩ := bnd_e h
    refine go_cVV K (c_X1_rule l G q_0 (ty_X11_script e2) _ _ _ e3) cf_X1_rule cv_X1_rule km_X11_216 (rv_X1 q_0) (by decide) rfl rfl (Nat.le_of_ble_eq_true rfl) dX11_by_35 ?_
    refine go_iconst (v := (1 : Int32)) K dX11_by_38 (by decide) ?_
    exact go_zret K hr (by decide) (Prod.mk.inj (Option.some.inj h)).1 (congrArg (fun z => (z, O)) (Prod.mk.inj (Option.some.inj h)).2) dX11_by_39
  rw [f_X11_by] at h
  refine go_iload_n K dX11_by_0 1 rfl rfl ?_
  refine go_iconst (v := (-1 : Int32)) K dX11_by_1 (by decide) ?_
  refine go_icmp_eq (tgt := 15) K dX11_by_2 (by decide) (fun c1 => ?_) (fun c1 => ?_)
  · replace h := ite_t h c1
    exact hj15 _ _ h
  replace h := ite_f h c1
  refine go_aload_n K dX11_by_5 0 rfl rfl ?_
  refine go_iload_n K dX11_by_6 1 rfl rfl ?_
  obtain ⟨r4, e4, h⟩ := bnd_e h
  refine go_cVI K (c_X11_isText l G _ _ _ _ e4) cf_X11_isText cv_X11_isText km_X11_206 rv_X11 (by decide) rfl rfl (Nat.le_of_ble_eq_true rfl) dX11_by_7 ?_
  refine go_if_ne (tgt := 15) K dX11_by_10 (by decide) (fun c5 => ?_) (fun c5 => ?_)
  · replace h := ite_f h c5
    exact hj15 _ _ h
  replace h := ite_t h c5
  refine go_iconst (v := (0 : Int32)) K dX11_by_13 (by decide) ?_
  exact go_zret K hr (by decide) (Prod.mk.inj (Option.some.inj h)).1 (congrArg (fun z => (z, O)) (Prod.mk.inj (Option.some.inj h)).2) dX11_by_14
noncomputable def X11_play_l190 (t : Nat) : Nat → Int32 → Int32 → CM → Option (Int32 × CM)
  | 0, _, _, _ => none
  | n + 1, v3, v6, C => (if v3 ≤ v6 then (some ((1 : Int32), C)) else (bnd2 (f_X11_hour (1 : Int32) C) (fun r28 C28 => (if r28 = (-1 : Int32) then (some ((0 : Int32), C28)) else (X11_play_l190 t n v3 (v6 + (1 : Int32)) C28)))))
noncomputable def f_X11_play (t : Nat) (v2 : Int32) (C : CM) : Option (Int32 × CM) := (bnd (f_X6_number t v2 (0 : Int32) C) (fun r1 => (bnd (f_X6_number t v2 (1 : Int32) C) (fun r2 => (bnd (f_X6_number t v2 (2 : Int32) C) (fun r3 => (bnd (f_X6_deed t v2 C) (fun r4 => (if r4 = (132 : Int32) then (bnd2 (f_X11_person r1 r2 r3 C) (fun r6 C6 => (if r6 = (-1 : Int32) then (some ((0 : Int32), C6)) else (some ((1 : Int32), C6))))) else (if r4 = (133 : Int32) then (bnd2 (f_X11_bow r1 r2 C) (fun r9 C9 => (if r9 = (-1 : Int32) then (some ((0 : Int32), C9)) else (some ((1 : Int32), C9))))) else (if r4 = (134 : Int32) then (bnd2 (f_X11_owe r1 r2 r3 C) (fun r12 C12 => (gd (r12 = 0 ∨ r12 = 1) (some (r12, C12))))) else (if r4 = (135 : Int32) then (bnd2 (f_X11_walk r1 (1 : Int32) C) (fun r15 C15 => (if r15 = (-1 : Int32) then (some ((0 : Int32), C15)) else (some ((1 : Int32), C15))))) else (if r4 = (136 : Int32) then (bnd2 (f_X11_walk r1 (-1 : Int32) C) (fun r18 C18 => (if r18 = (-1 : Int32) then (some ((0 : Int32), C18)) else (some ((1 : Int32), C18))))) else (if r4 = (137 : Int32) then (bnd2 (f_X11_clear r1 r2 r3 C) (fun r21 C21 => (if r21 = (-1 : Int32) then (some ((0 : Int32), C21)) else (some ((1 : Int32), C21))))) else (if r4 = (138 : Int32) then (bnd2 (f_X11_feast C) (fun r24 C24 => (if r24 = (-1 : Int32) then (some ((0 : Int32), C24)) else (some ((1 : Int32), C24))))) else (if r4 = (139 : Int32) then (X11_play_l190 t FU r1 (0 : Int32) C) else (some ((0 : Int32), C))))))))))))))))))
theorem cf_X11_play : CF yX11_play cX11_play 7 (Option.some Jvm.ClassFile.FieldType.boolean) 2 := ⟨kc_X11_play, kj_X11, ⟨by decide +kernel, by decide +kernel, by decide +kernel⟩, by decide⟩
theorem cv_X11_play : CFv yX11_play := ⟨ki_X11_play, ks_X11_play⟩
set_option maxHeartbeats 4000000 in
set_option maxRecDepth 100000 in
theorem c_X11_play (l : Launch) (G : GT) {t : Nat} (ht : ScAt t) (v2 : Int32) (C : CM) (O : OM) (res : Int32) (C' : CM) (h : f_X11_play t v2 C = some (res, C')) : MI l G yX11_play cX11_play 7 (Option.some Jvm.ClassFile.FieldType.boolean) (7) [.ref (gB G + 0), .ref (gB G + t), .int v2] (C, O) res (C', O) := by
  unfold MI
  refine met_in RX11 (by decide +kernel) rfl [(0, .ref (gB G + 0)), (1, .ref (gB G + t)), (2, .int v2)] rfl (Nat.le_of_ble_eq_true rfl) ?_
  intro pM eM sM mM aM bM meM cM K hr
  have hl190 : ∀ (n190 : Nat) (v3 : Int32) (v6 : Int32) (C : CM), X11_play_l190 t n190 v3 v6 C = some (res, C') → GO pM l eM (7) sM mM aM bM meM cM (MQ bM (va_Qi (fun (r' : Int32) (u : CM × OM) => r' = res ∧ u = (C', O)) (wB G) (Fr G)) aM sM 0 0 (Fr G)) G 7 (C, O) 190 [(0, .ref (gB G + 0)), (3, .int v3), (6, .int v6)] [] := by
    intro n190
    induction n190 with
    | zero =>
      intro v3 v6 C h
      rw [X11_play_l190] at h
      cases h
    | succ n190 ih190 =>
      intro v3 v6 C h
      rw [X11_play_l190] at h
      refine go_iload K dX11_play_190 2 rfl ?_
      refine go_iload_n K dX11_play_192 1 rfl rfl ?_
      refine go_icmp_ge (tgt := 213) K dX11_play_193 (by decide) (fun c27 => ?_) (fun c27 => ?_)
      · replace h := ite_t h c27
        refine go_iconst (v := (1 : Int32)) K dX11_play_213 (by decide) ?_
        exact go_zret K hr (by decide) (Prod.mk.inj (Option.some.inj h)).1 (congrArg (fun z => (z, O)) (Prod.mk.inj (Option.some.inj h)).2) dX11_play_214
      replace h := ite_f h c27
      refine go_aload_n K dX11_play_196 0 rfl rfl ?_
      refine go_iconst (v := (1 : Int32)) K dX11_play_197 (by decide) ?_
      obtain ⟨r28, C28, e28, h⟩ := bnd2_e h
      refine go_cVI K (c_X11_hour l G _ _ _ _ _ e28) cf_X11_hour cv_X11_hour km_X11_360 rv_X11 (by decide) rfl rfl (Nat.le_of_ble_eq_true rfl) dX11_play_198 ?_
      refine go_iconst (v := (-1 : Int32)) K dX11_play_201 (by decide) ?_
      refine go_icmp_ne (tgt := 207) K dX11_play_202 (by decide) (fun c29 => ?_) (fun c29 => ?_)
      rotate_left
      · replace h := ite_t h c29
        refine go_iconst (v := (0 : Int32)) K dX11_play_205 (by decide) ?_
        exact go_zret K hr (by decide) (Prod.mk.inj (Option.some.inj h)).1 (congrArg (fun z => (z, O)) (Prod.mk.inj (Option.some.inj h)).2) dX11_play_206
      replace h := ite_f h c29
      refine go_iinc K dX11_play_207 2 rfl (v := (v6 + (1 : Int32))) rfl (by decide) (lv' := [(6, .int (v6 + (1 : Int32))), (0, .ref (gB G + 0)), (3, .int v3)]) rfl ?_
      refine go_goto (tgt := 190) K dX11_play_210 (by decide) ?_
      exact go_sub [1, 2, 0] rfl (ih190 _ _ _ h)
  rw [f_X11_play] at h
  refine go_aload_n K dX11_play_0 1 rfl rfl ?_
  refine go_iload_n K dX11_play_1 2 rfl rfl ?_
  refine go_iconst (v := (0 : Int32)) K dX11_play_2 (by decide) ?_
  obtain ⟨r1, e1, h⟩ := bnd_e h
  refine go_cVI K (c_X6_number l G ht _ _ _ _ _ e1) cf_X6_number cv_X6_number km_X11_339 (rv_X6 ht) (by decide) rfl rfl (Nat.le_of_ble_eq_true rfl) dX11_play_3 ?_
  refine go_istore_n K dX11_play_6 rfl (by decide) (lv' := [(3, .int r1), (0, .ref (gB G + 0)), (1, .ref (gB G + t)), (2, .int v2)]) rfl ?_
  refine go_aload_n K dX11_play_7 2 rfl rfl ?_
  refine go_iload_n K dX11_play_8 3 rfl rfl ?_
  refine go_iconst (v := (1 : Int32)) K dX11_play_9 (by decide) ?_
  obtain ⟨r2, e2, h⟩ := bnd_e h
  refine go_cVI K (c_X6_number l G ht _ _ _ _ _ e2) cf_X6_number cv_X6_number km_X11_339 (rv_X6 ht) (by decide) rfl rfl (Nat.le_of_ble_eq_true rfl) dX11_play_10 ?_
  refine go_istore K dX11_play_13 (by decide) (lv' := [(4, .int r2), (3, .int r1), (0, .ref (gB G + 0)), (1, .ref (gB G + t)), (2, .int v2)]) rfl ?_
  refine go_aload_n K dX11_play_15 3 rfl rfl ?_
  refine go_iload_n K dX11_play_16 4 rfl rfl ?_
  refine go_iconst (v := (2 : Int32)) K dX11_play_17 (by decide) ?_
  obtain ⟨r3, e3, h⟩ := bnd_e h
  refine go_cVI K (c_X6_number l G ht _ _ _ _ _ e3) cf_X6_number cv_X6_number km_X11_339 (rv_X6 ht) (by decide) rfl rfl (Nat.le_of_ble_eq_true rfl) dX11_play_18 ?_
  refine go_istore K dX11_play_21 (by decide) (lv' := [(5, .int r3), (4, .int r2), (3, .int r1), (0, .ref (gB G + 0)), (1, .ref (gB G + t)), (2, .int v2)]) rfl ?_
  refine go_aload_n K dX11_play_23 4 rfl rfl ?_
  refine go_iload_n K dX11_play_24 5 rfl rfl ?_
  obtain ⟨r4, e4, h⟩ := bnd_e h
  refine go_cVI K (c_X6_deed l G ht _ _ _ _ e4) cf_X6_deed cv_X6_deed km_X11_224 (rv_X6 ht) (by decide) rfl rfl (Nat.le_of_ble_eq_true rfl) dX11_play_25 ?_
  by_cases c5 : r4 = (132 : Int32)
  · refine go_tableIn K dX11_play_28 (by rw [c5]; decide) (by rw [c5]; decide) (off := 48) (by rw [c5]; decide) (tgt := 76) (by decide) ?_
    replace h := ite_t h c5
    refine go_aload_n K dX11_play_76 3 rfl rfl ?_
    refine go_iload_n K dX11_play_77 2 rfl rfl ?_
    refine go_iload K dX11_play_78 1 rfl ?_
    refine go_iload K dX11_play_80 0 rfl ?_
    obtain ⟨r6, C6, e6, h⟩ := bnd2_e h
    refine go_cVI K (c_X11_person l G _ _ _ _ _ _ _ e6) cf_X11_person cv_X11_person km_X11_342 rv_X11 (by decide) rfl rfl (Nat.le_of_ble_eq_true rfl) dX11_play_82 ?_
    refine go_iconst (v := (-1 : Int32)) K dX11_play_85 (by decide) ?_
    refine go_icmp_eq (tgt := 93) K dX11_play_86 (by decide) (fun c7 => ?_) (fun c7 => ?_)
    · replace h := ite_t h c7
      refine go_iconst (v := (0 : Int32)) K dX11_play_93 (by decide) ?_
      exact go_zret K hr (by decide) (Prod.mk.inj (Option.some.inj h)).1 (congrArg (fun z => (z, O)) (Prod.mk.inj (Option.some.inj h)).2) dX11_play_94
    replace h := ite_f h c7
    refine go_iconst (v := (1 : Int32)) K dX11_play_89 (by decide) ?_
    refine go_goto (tgt := 94) K dX11_play_90 (by decide) ?_
    exact go_zret K hr (by decide) (Prod.mk.inj (Option.some.inj h)).1 (congrArg (fun z => (z, O)) (Prod.mk.inj (Option.some.inj h)).2) dX11_play_94
  replace h := ite_f h c5
  by_cases c8 : r4 = (133 : Int32)
  · refine go_tableIn K dX11_play_28 (by rw [c8]; decide) (by rw [c8]; decide) (off := 67) (by rw [c8]; decide) (tgt := 95) (by decide) ?_
    replace h := ite_t h c8
    refine go_aload_n K dX11_play_95 3 rfl rfl ?_
    refine go_iload_n K dX11_play_96 2 rfl rfl ?_
    refine go_iload K dX11_play_97 1 rfl ?_
    obtain ⟨r9, C9, e9, h⟩ := bnd2_e h
    refine go_cVI K (c_X11_bow l G _ _ _ _ _ _ e9) cf_X11_bow cv_X11_bow km_X11_345 rv_X11 (by decide) rfl rfl (Nat.le_of_ble_eq_true rfl) dX11_play_99 ?_
    refine go_iconst (v := (-1 : Int32)) K dX11_play_102 (by decide) ?_
    refine go_icmp_eq (tgt := 110) K dX11_play_103 (by decide) (fun c10 => ?_) (fun c10 => ?_)
    · replace h := ite_t h c10
      refine go_iconst (v := (0 : Int32)) K dX11_play_110 (by decide) ?_
      exact go_zret K hr (by decide) (Prod.mk.inj (Option.some.inj h)).1 (congrArg (fun z => (z, O)) (Prod.mk.inj (Option.some.inj h)).2) dX11_play_111
    replace h := ite_f h c10
    refine go_iconst (v := (1 : Int32)) K dX11_play_106 (by decide) ?_
    refine go_goto (tgt := 111) K dX11_play_107 (by decide) ?_
    exact go_zret K hr (by decide) (Prod.mk.inj (Option.some.inj h)).1 (congrArg (fun z => (z, O)) (Prod.mk.inj (Option.some.inj h)).2) dX11_play_111
  replace h := ite_f h c8
  by_cases c11 : r4 = (134 : Int32)
  · refine go_tableIn K dX11_play_28 (by rw [c11]; decide) (by rw [c11]; decide) (off := 84) (by rw [c11]; decide) (tgt := 112) (by decide) ?_
    replace h := ite_t h c11
    refine go_aload_n K dX11_play_112 3 rfl rfl ?_
    refine go_iload_n K dX11_play_113 2 rfl rfl ?_
    refine go_iload K dX11_play_114 1 rfl ?_
    refine go_iload K dX11_play_116 0 rfl ?_
    obtain ⟨r12, C12, e12, h⟩ := bnd2_e h
    refine go_cVI K (c_X11_owe l G _ _ _ _ _ _ _ e12) cf_X11_owe cv_X11_owe km_X11_348 rv_X11 (by decide) rfl rfl (Nat.le_of_ble_eq_true rfl) dX11_play_118 ?_
    obtain ⟨g13, h⟩ := gd_e h
    exact go_zret K hr (narrow_z g13) (Prod.mk.inj (Option.some.inj h)).1 (congrArg (fun z => (z, O)) (Prod.mk.inj (Option.some.inj h)).2) dX11_play_121
  replace h := ite_f h c11
  by_cases c14 : r4 = (135 : Int32)
  · refine go_tableIn K dX11_play_28 (by rw [c14]; decide) (by rw [c14]; decide) (off := 94) (by rw [c14]; decide) (tgt := 122) (by decide) ?_
    replace h := ite_t h c14
    refine go_aload_n K dX11_play_122 3 rfl rfl ?_
    refine go_iload_n K dX11_play_123 2 rfl rfl ?_
    refine go_iconst (v := (1 : Int32)) K dX11_play_124 (by decide) ?_
    obtain ⟨r15, C15, e15, h⟩ := bnd2_e h
    refine go_cVI K (c_X11_walk l G _ _ _ _ _ _ e15) cf_X11_walk cv_X11_walk km_X11_351 rv_X11 (by decide) rfl rfl (Nat.le_of_ble_eq_true rfl) dX11_play_125 ?_
    refine go_iconst (v := (-1 : Int32)) K dX11_play_128 (by decide) ?_
    refine go_icmp_eq (tgt := 136) K dX11_play_129 (by decide) (fun c16 => ?_) (fun c16 => ?_)
    · replace h := ite_t h c16
      refine go_iconst (v := (0 : Int32)) K dX11_play_136 (by decide) ?_
      exact go_zret K hr (by decide) (Prod.mk.inj (Option.some.inj h)).1 (congrArg (fun z => (z, O)) (Prod.mk.inj (Option.some.inj h)).2) dX11_play_137
    replace h := ite_f h c16
    refine go_iconst (v := (1 : Int32)) K dX11_play_132 (by decide) ?_
    refine go_goto (tgt := 137) K dX11_play_133 (by decide) ?_
    exact go_zret K hr (by decide) (Prod.mk.inj (Option.some.inj h)).1 (congrArg (fun z => (z, O)) (Prod.mk.inj (Option.some.inj h)).2) dX11_play_137
  replace h := ite_f h c14
  by_cases c17 : r4 = (136 : Int32)
  · refine go_tableIn K dX11_play_28 (by rw [c17]; decide) (by rw [c17]; decide) (off := 110) (by rw [c17]; decide) (tgt := 138) (by decide) ?_
    replace h := ite_t h c17
    refine go_aload_n K dX11_play_138 3 rfl rfl ?_
    refine go_iload_n K dX11_play_139 2 rfl rfl ?_
    refine go_iconst (v := (-1 : Int32)) K dX11_play_140 (by decide) ?_
    obtain ⟨r18, C18, e18, h⟩ := bnd2_e h
    refine go_cVI K (c_X11_walk l G _ _ _ _ _ _ e18) cf_X11_walk cv_X11_walk km_X11_351 rv_X11 (by decide) rfl rfl (Nat.le_of_ble_eq_true rfl) dX11_play_141 ?_
    refine go_iconst (v := (-1 : Int32)) K dX11_play_144 (by decide) ?_
    refine go_icmp_eq (tgt := 152) K dX11_play_145 (by decide) (fun c19 => ?_) (fun c19 => ?_)
    · replace h := ite_t h c19
      refine go_iconst (v := (0 : Int32)) K dX11_play_152 (by decide) ?_
      exact go_zret K hr (by decide) (Prod.mk.inj (Option.some.inj h)).1 (congrArg (fun z => (z, O)) (Prod.mk.inj (Option.some.inj h)).2) dX11_play_153
    replace h := ite_f h c19
    refine go_iconst (v := (1 : Int32)) K dX11_play_148 (by decide) ?_
    refine go_goto (tgt := 153) K dX11_play_149 (by decide) ?_
    exact go_zret K hr (by decide) (Prod.mk.inj (Option.some.inj h)).1 (congrArg (fun z => (z, O)) (Prod.mk.inj (Option.some.inj h)).2) dX11_play_153
  replace h := ite_f h c17
  by_cases c20 : r4 = (137 : Int32)
  · refine go_tableIn K dX11_play_28 (by rw [c20]; decide) (by rw [c20]; decide) (off := 126) (by rw [c20]; decide) (tgt := 154) (by decide) ?_
    replace h := ite_t h c20
    refine go_aload_n K dX11_play_154 3 rfl rfl ?_
    refine go_iload_n K dX11_play_155 2 rfl rfl ?_
    refine go_iload K dX11_play_156 1 rfl ?_
    refine go_iload K dX11_play_158 0 rfl ?_
    obtain ⟨r21, C21, e21, h⟩ := bnd2_e h
    refine go_cVI K (c_X11_clear l G _ _ _ _ _ _ _ e21) cf_X11_clear cv_X11_clear km_X11_354 rv_X11 (by decide) rfl rfl (Nat.le_of_ble_eq_true rfl) dX11_play_160 ?_
    refine go_iconst (v := (-1 : Int32)) K dX11_play_163 (by decide) ?_
    refine go_icmp_eq (tgt := 171) K dX11_play_164 (by decide) (fun c22 => ?_) (fun c22 => ?_)
    · replace h := ite_t h c22
      refine go_iconst (v := (0 : Int32)) K dX11_play_171 (by decide) ?_
      exact go_zret K hr (by decide) (Prod.mk.inj (Option.some.inj h)).1 (congrArg (fun z => (z, O)) (Prod.mk.inj (Option.some.inj h)).2) dX11_play_172
    replace h := ite_f h c22
    refine go_iconst (v := (1 : Int32)) K dX11_play_167 (by decide) ?_
    refine go_goto (tgt := 172) K dX11_play_168 (by decide) ?_
    exact go_zret K hr (by decide) (Prod.mk.inj (Option.some.inj h)).1 (congrArg (fun z => (z, O)) (Prod.mk.inj (Option.some.inj h)).2) dX11_play_172
  replace h := ite_f h c20
  by_cases c23 : r4 = (138 : Int32)
  · refine go_tableIn K dX11_play_28 (by rw [c23]; decide) (by rw [c23]; decide) (off := 145) (by rw [c23]; decide) (tgt := 173) (by decide) ?_
    replace h := ite_t h c23
    refine go_aload_n K dX11_play_173 3 rfl rfl ?_
    obtain ⟨r24, C24, e24, h⟩ := bnd2_e h
    refine go_cVI K (c_X11_feast l G _ _ _ _ e24) cf_X11_feast cv_X11_feast km_X11_357 rv_X11 (by decide) rfl rfl (Nat.le_of_ble_eq_true rfl) dX11_play_174 ?_
    refine go_iconst (v := (-1 : Int32)) K dX11_play_177 (by decide) ?_
    refine go_icmp_eq (tgt := 185) K dX11_play_178 (by decide) (fun c25 => ?_) (fun c25 => ?_)
    · replace h := ite_t h c25
      refine go_iconst (v := (0 : Int32)) K dX11_play_185 (by decide) ?_
      exact go_zret K hr (by decide) (Prod.mk.inj (Option.some.inj h)).1 (congrArg (fun z => (z, O)) (Prod.mk.inj (Option.some.inj h)).2) dX11_play_186
    replace h := ite_f h c25
    refine go_iconst (v := (1 : Int32)) K dX11_play_181 (by decide) ?_
    refine go_goto (tgt := 186) K dX11_play_182 (by decide) ?_
    exact go_zret K hr (by decide) (Prod.mk.inj (Option.some.inj h)).1 (congrArg (fun z => (z, O)) (Prod.mk.inj (Option.some.inj h)).2) dX11_play_186
  replace h := ite_f h c23
  by_cases c26 : r4 = (139 : Int32)
  · refine go_tableIn K dX11_play_28 (by rw [c26]; decide) (by rw [c26]; decide) (off := 159) (by rw [c26]; decide) (tgt := 187) (by decide) ?_
    replace h := ite_t h c26
    refine go_iconst (v := (0 : Int32)) K dX11_play_187 (by decide) ?_
    refine go_istore K dX11_play_188 (by decide) (lv' := [(6, .int (0 : Int32)), (5, .int r3), (4, .int r2), (3, .int r1), (0, .ref (gB G + 0)), (1, .ref (gB G + t)), (2, .int v2)]) rfl ?_
    exact go_sub [4, 3, 0] rfl (hl190 FU _ _ _ h)
  replace h := ite_f h c26
  have c5 := sw_ne c5 (k := 132) (by decide)
  have c8 := sw_ne c8 (k := 133) (by decide)
  have c11 := sw_ne c11 (k := 134) (by decide)
  have c14 := sw_ne c14 (k := 135) (by decide)
  have c17 := sw_ne c17 (k := 136) (by decide)
  have c20 := sw_ne c20 (k := 137) (by decide)
  have c23 := sw_ne c23 (k := 138) (by decide)
  have c26 := sw_ne c26 (k := 139) (by decide)
  refine go_tableOut (tgt := 215) K dX11_play_28 (show (r4).toInt < 132 ∨ 139 < (r4).toInt from by omega) (by decide) ?_
  refine go_iconst (v := (0 : Int32)) K dX11_play_215 (by decide) ?_
  exact go_zret K hr (by decide) (Prod.mk.inj (Option.some.inj h)).1 (congrArg (fun z => (z, O)) (Prod.mk.inj (Option.some.inj h)).2) dX11_play_216
noncomputable def X11_played_j49 (rc : Nat → Int32 → CM → Option (Int32 × CM)) (u2 : Nat) (v3 : Int32) (C : CM) : Option (Int32 × CM) := (rc u2 (v3 + (1 : Int32)) C)
noncomputable def X11_played_l19 : Nat → Nat → Int32 → CM → Option (Int32 × CM)
  | 0, _, _, _ => none
  | n + 1, u2, v3, C => (if (C u2 6) ≤ v3 then (some ((-1 : Int32), C)) else (bnd (f_X6_deed u2 v3 C) (fun r5 => (if (f_X11_isLaw r5) = 0 then (bnd2 (f_X11_play u2 v3 C) (fun r7 C7 => (if r7 = 0 then (some (v3, C7)) else (X11_played_j49 (fun u2 v3 C => X11_played_l19 n u2 v3 C) u2 v3 C7)))) else (X11_played_j49 (fun u2 v3 C => X11_played_l19 n u2 v3 C) u2 v3 C)))))
noncomputable def f_X11_played (v1 : Int32) (C : CM) : Option (Int32 × CM) := (bnd (f_X11_isText v1 C) (fun r1 => (if r1 = 0 then (some ((-2 : Int32), C)) else (bnd (f_X11_script v1) (fun r3 => (X11_played_l19 FU r3 (0 : Int32) C))))))
theorem cf_X11_played : CF yX11_played cX11_played 4 (Option.some Jvm.ClassFile.FieldType.int) 1 := ⟨kc_X11_played, kj_X11, ⟨by decide +kernel, by decide +kernel, by decide +kernel⟩, by decide⟩
theorem cv_X11_played : CFv yX11_played := ⟨ki_X11_played, ks_X11_played⟩
set_option maxHeartbeats 4000000 in
set_option maxRecDepth 100000 in
theorem c_X11_played (l : Launch) (G : GT) (v1 : Int32) (C : CM) (O : OM) (res : Int32) (C' : CM) (h : f_X11_played v1 C = some (res, C')) : MI l G yX11_played cX11_played 4 (Option.some Jvm.ClassFile.FieldType.int) (8) [.ref (gB G + 0), .int v1] (C, O) res (C', O) := by
  unfold MI
  refine met_in RX11 (by decide +kernel) rfl [(0, .ref (gB G + 0)), (1, .int v1)] rfl (Nat.le_of_ble_eq_true rfl) ?_
  intro pM eM sM mM aM bM meM cM K hr
  have hl19 : ∀ (n19 : Nat) (u2 : Nat) (hu2 : ScAt u2) (v3 : Int32) (C : CM), X11_played_l19 n19 u2 v3 C = some (res, C') → GO pM l eM (8) sM mM aM bM meM cM (MQ bM (va_Qi (fun (r' : Int32) (u : CM × OM) => r' = res ∧ u = (C', O)) (wB G) (Fr G)) aM sM 0 0 (Fr G)) G 4 (C, O) 19 [(0, .ref (gB G + 0)), (2, .ref (gB G + u2)), (3, .int v3)] [] := by
    intro n19
    induction n19 with
    | zero =>
      intro u2 hu2 v3 C h
      rw [X11_played_l19] at h
      cases h
    | succ n19 ih19 =>
      have hj49 : ∀ (u2 : Nat) (hu2 : ScAt u2) (v3 : Int32) (C : CM), X11_played_j49 (fun u2 v3 C => X11_played_l19 n19 u2 v3 C) u2 v3 C = some (res, C') → GO pM l eM (8) sM mM aM bM meM cM (MQ bM (va_Qi (fun (r' : Int32) (u : CM × OM) => r' = res ∧ u = (C', O)) (wB G) (Fr G)) aM sM 0 0 (Fr G)) G 4 (C, O) 49 [(0, .ref (gB G + 0)), (2, .ref (gB G + u2)), (3, .int v3)] [] := by
        intro u2 hu2 v3 C h
        rw [X11_played_j49] at h
        refine go_iinc K dX11_played_49 2 rfl (v := (v3 + (1 : Int32))) rfl (by decide) (lv' := [(3, .int (v3 + (1 : Int32))), (0, .ref (gB G + 0)), (2, .ref (gB G + u2))]) rfl ?_
        refine go_goto (tgt := 19) K dX11_played_52 (by decide) ?_
        exact go_sub [1, 2, 0] rfl (ih19 _ hu2 _ _ h)
      intro u2 hu2 v3 C h
      rw [X11_played_l19] at h
      refine go_iload_n K dX11_played_19 2 rfl rfl ?_
      refine go_aload_n K dX11_played_20 1 rfl rfl ?_
      refine gf_X6 K hu2 6 (by decide) kf_X11_221 (v := .int (C u2 6)) rfl dX11_played_21 ?_
      refine go_icmp_ge (tgt := 55) K dX11_played_24 (by decide) (fun c4 => ?_) (fun c4 => ?_)
      · replace h := ite_t h c4
        refine go_iconst (v := (-1 : Int32)) K dX11_played_55 (by decide) ?_
        exact go_iret K hr (Prod.mk.inj (Option.some.inj h)).1 (congrArg (fun z => (z, O)) (Prod.mk.inj (Option.some.inj h)).2) dX11_played_56
      replace h := ite_f h c4
      refine go_aload_n K dX11_played_27 1 rfl rfl ?_
      refine go_iload_n K dX11_played_28 2 rfl rfl ?_
      obtain ⟨r5, e5, h⟩ := bnd_e h
      refine go_cVI K (c_X6_deed l G hu2 _ _ _ _ e5) cf_X6_deed cv_X6_deed km_X11_224 (rv_X6 hu2) (by decide) rfl rfl (Nat.le_of_ble_eq_true rfl) dX11_played_29 ?_
      refine go_cSI K (c_X11_isLaw l G _ _ _ _ rfl) cf_X11_isLaw kt_X11_isLaw km_X11_227 (by decide) rfl rfl (Nat.le_of_ble_eq_true rfl) dX11_played_32 ?_
      refine go_if_ne (tgt := 49) K dX11_played_35 (by decide) (fun c6 => ?_) (fun c6 => ?_)
      · replace h := ite_f h c6
        exact hj49 _ hu2 _ _ h
      replace h := ite_t h c6
      refine go_aload_n K dX11_played_38 0 rfl rfl ?_
      refine go_aload_n K dX11_played_39 1 rfl rfl ?_
      refine go_iload_n K dX11_played_40 2 rfl rfl ?_
      obtain ⟨r7, C7, e7, h⟩ := bnd2_e h
      refine go_cVI K (c_X11_play l G hu2 _ _ _ _ _ e7) cf_X11_play cv_X11_play km_X11_230 rv_X11 (by decide) rfl rfl (Nat.le_of_ble_eq_true rfl) dX11_played_41 ?_
      refine go_if_ne (tgt := 49) K dX11_played_44 (by decide) (fun c8 => ?_) (fun c8 => ?_)
      · replace h := ite_f h c8
        exact hj49 _ hu2 _ _ h
      replace h := ite_t h c8
      refine go_iload_n K dX11_played_47 2 rfl rfl ?_
      exact go_iret K hr (Prod.mk.inj (Option.some.inj h)).1 (congrArg (fun z => (z, O)) (Prod.mk.inj (Option.some.inj h)).2) dX11_played_48
  rw [f_X11_played] at h
  refine go_aload_n K dX11_played_0 0 rfl rfl ?_
  refine go_iload_n K dX11_played_1 1 rfl rfl ?_
  obtain ⟨r1, e1, h⟩ := bnd_e h
  refine go_cVI K (c_X11_isText l G _ _ _ _ e1) cf_X11_isText cv_X11_isText km_X11_206 rv_X11 (by decide) rfl rfl (Nat.le_of_ble_eq_true rfl) dX11_played_2 ?_
  refine go_if_ne (tgt := 11) K dX11_played_5 (by decide) (fun c2 => ?_) (fun c2 => ?_)
  rotate_left
  · replace h := ite_t h c2
    refine go_bipush (v := (-2 : Int32)) K dX11_played_8 (by decide) ?_
    exact go_iret K hr (Prod.mk.inj (Option.some.inj h)).1 (congrArg (fun z => (z, O)) (Prod.mk.inj (Option.some.inj h)).2) dX11_played_10
  replace h := ite_f h c2
  refine go_aload_n K dX11_played_11 0 rfl rfl ?_
  refine go_iload_n K dX11_played_12 1 rfl rfl ?_
  obtain ⟨r3, e3, h⟩ := bnd_e h
  refine go_cVR K (c_X11_script l G _ _ _ _ e3) cf_X11_script cv_X11_script km_X11_189 rv_X11 (by decide) rfl rfl (Nat.le_of_ble_eq_true rfl) dX11_played_13 ?_
  refine go_astore_n K dX11_played_16 rfl (by decide) (lv' := [(2, .ref (gB G + r3)), (0, .ref (gB G + 0)), (1, .int v1)]) rfl ?_
  refine go_iconst (v := (0 : Int32)) K dX11_played_17 (by decide) ?_
  refine go_istore_n K dX11_played_18 rfl (by decide) (lv' := [(3, .int (0 : Int32)), (2, .ref (gB G + r3)), (0, .ref (gB G + 0)), (1, .int v1)]) rfl ?_
  exact go_sub [2, 1, 0] rfl (hl19 FU _ (ty_X11_script e3) _ _ h)
