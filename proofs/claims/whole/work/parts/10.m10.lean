noncomputable def f_X11_doors (v1 : Int32) (C : CM) : Option (Int32 × CM) := (bnd (f_X5_weighOrders 6 C) (fun C1 => (if v1 = (-1 : Int32) then (bnd (f_X5_leastPaid C1) (fun r5 => (some (r5, C1)))) else (if (f_X11_within v1 (0 : Int32) ((C1 6 0) - (1 : Int32))) = 0 then (some ((-1 : Int32), C1)) else (bnd (f_X5_door 6 v1 C1) (fun r4 => (some (r4, C1))))))))
theorem cf_X11_doors : CF yX11_doors cX11_doors 2 (Option.some Jvm.ClassFile.FieldType.int) 1 := ⟨kc_X11_doors, kj_X11, ⟨by decide +kernel, by decide +kernel, by decide +kernel⟩, by decide⟩
theorem cv_X11_doors : CFv yX11_doors := ⟨ki_X11_doors, ks_X11_doors⟩
set_option maxHeartbeats 4000000 in
set_option maxRecDepth 100000 in
theorem c_X11_doors (l : Launch) (G : GT) (v1 : Int32) (C : CM) (O : OM) (res : Int32) (C' : CM) (h : f_X11_doors v1 C = some (res, C')) : MI l G yX11_doors cX11_doors 2 (Option.some Jvm.ClassFile.FieldType.int) (5) [.ref (gB G + 0), .int v1] (C, O) res (C', O) := by
  unfold MI
  refine met_in RX11 (by decide +kernel) rfl [(0, .ref (gB G + 0)), (1, .int v1)] rfl (Nat.le_of_ble_eq_true rfl) ?_
  intro pM eM sM mM aM bM meM cM K hr
  rw [f_X11_doors] at h
  refine go_aload_n K dX11_doors_0 0 rfl rfl ?_
  refine gf_X11 K 10 (by decide) kf_X11_82 (v := .ref (gB G + 414)) rfl dX11_doors_1 ?_
  refine go_aload_n K dX11_doors_4 0 rfl rfl ?_
  refine gf_X11 K 1 (by decide) kf_X11_19 (v := .ref (gB G + 5)) rfl dX11_doors_5 ?_
  refine gf_X10 K wh_5 0 (by decide) kf_X11_39 (v := .ref (gB G + 6)) rfl dX11_doors_8 ?_
  obtain ⟨C1, e1, h⟩ := bnd_e h
  refine go_cVV K (c_X5_weighOrders l G st_6 _ _ _ e1) cf_X5_weighOrders cv_X5_weighOrders km_X11_300 rv_X5 (by decide) rfl rfl (Nat.le_of_ble_eq_true rfl) dX11_doors_11 ?_
  refine go_iload_n K dX11_doors_14 1 rfl rfl ?_
  refine go_iconst (v := (-1 : Int32)) K dX11_doors_15 (by decide) ?_
  refine go_icmp_ne (tgt := 27) K dX11_doors_16 (by decide) (fun c2 => ?_) (fun c2 => ?_)
  rotate_left
  · replace h := ite_t h c2
    refine go_aload_n K dX11_doors_19 0 rfl rfl ?_
    refine gf_X11 K 10 (by decide) kf_X11_82 (v := .ref (gB G + 414)) rfl dX11_doors_20 ?_
    obtain ⟨r5, e5, h⟩ := bnd_e h
    refine go_cVI K (c_X5_leastPaid l G _ _ _ e5) cf_X5_leastPaid cv_X5_leastPaid km_X11_304 rv_X5 (by decide) rfl rfl (Nat.le_of_ble_eq_true rfl) dX11_doors_23 ?_
    exact go_iret K hr (Prod.mk.inj (Option.some.inj h)).1 (congrArg (fun z => (z, O)) (Prod.mk.inj (Option.some.inj h)).2) dX11_doors_26
  replace h := ite_f h c2
  refine go_iload_n K dX11_doors_27 1 rfl rfl ?_
  refine go_iconst (v := (0 : Int32)) K dX11_doors_28 (by decide) ?_
  refine go_aload_n K dX11_doors_29 0 rfl rfl ?_
  refine gf_X11 K 1 (by decide) kf_X11_19 (v := .ref (gB G + 5)) rfl dX11_doors_30 ?_
  refine gf_X10 K wh_5 0 (by decide) kf_X11_39 (v := .ref (gB G + 6)) rfl dX11_doors_33 ?_
  refine gf_X7 K st_6 0 (by decide) kf_X11_97 (v := .int (C1 6 0)) rfl dX11_doors_36 ?_
  refine go_iconst (v := (1 : Int32)) K dX11_doors_39 (by decide) ?_
  refine go_isub K dX11_doors_40 ?_
  refine go_cSI K (c_X11_within l G _ _ _ _ _ _ rfl) cf_X11_within kt_X11_within km_X11_93 (by decide) rfl rfl (Nat.le_of_ble_eq_true rfl) dX11_doors_41 ?_
  refine go_if_eq (tgt := 65) K dX11_doors_44 (by decide) (fun c3 => ?_) (fun c3 => ?_)
  · replace h := ite_t h c3
    refine go_iconst (v := (-1 : Int32)) K dX11_doors_65 (by decide) ?_
    exact go_iret K hr (Prod.mk.inj (Option.some.inj h)).1 (congrArg (fun z => (z, O)) (Prod.mk.inj (Option.some.inj h)).2) dX11_doors_66
  replace h := ite_f h c3
  refine go_aload_n K dX11_doors_47 0 rfl rfl ?_
  refine gf_X11 K 10 (by decide) kf_X11_82 (v := .ref (gB G + 414)) rfl dX11_doors_48 ?_
  refine go_aload_n K dX11_doors_51 0 rfl rfl ?_
  refine gf_X11 K 1 (by decide) kf_X11_19 (v := .ref (gB G + 5)) rfl dX11_doors_52 ?_
  refine gf_X10 K wh_5 0 (by decide) kf_X11_39 (v := .ref (gB G + 6)) rfl dX11_doors_55 ?_
  refine go_iload_n K dX11_doors_58 1 rfl rfl ?_
  obtain ⟨r4, e4, h⟩ := bnd_e h
  refine go_cVI K (c_X5_door l G st_6 _ _ _ _ e4) cf_X5_door cv_X5_door km_X11_307 rv_X5 (by decide) rfl rfl (Nat.le_of_ble_eq_true rfl) dX11_doors_59 ?_
  refine go_goto (tgt := 66) K dX11_doors_62 (by decide) ?_
  exact go_iret K hr (Prod.mk.inj (Option.some.inj h)).1 (congrArg (fun z => (z, O)) (Prod.mk.inj (Option.some.inj h)).2) dX11_doors_66
noncomputable def f_X11_necksNow (C : CM) : Int32 := (f_J9_min_7cf53 (5 : Int32) (C 6 0))
theorem cf_X11_necksNow : CF yX11_necksNow cX11_necksNow 1 (Option.some Jvm.ClassFile.FieldType.int) 0 := ⟨kc_X11_necksNow, kj_X11, ⟨by decide +kernel, by decide +kernel, by decide +kernel⟩, by decide⟩
theorem cv_X11_necksNow : CFv yX11_necksNow := ⟨ki_X11_necksNow, ks_X11_necksNow⟩
set_option maxHeartbeats 4000000 in
set_option maxRecDepth 100000 in
theorem c_X11_necksNow (l : Launch) (G : GT) (C : CM) (O : OM) (res : Int32) (h : f_X11_necksNow C = res) : MI l G yX11_necksNow cX11_necksNow 1 (Option.some Jvm.ClassFile.FieldType.int) (2) [.ref (gB G + 0)] (C, O) res (C, O) := by
  unfold MI
  refine met_in RX11 (by decide +kernel) rfl [(0, .ref (gB G + 0))] rfl (Nat.le_of_ble_eq_true rfl) ?_
  intro pM eM sM mM aM bM meM cM K hr
  rw [f_X11_necksNow] at h
  refine go_iconst (v := (5 : Int32)) K dX11_necksNow_0 (by decide) ?_
  refine go_aload_n K dX11_necksNow_1 0 rfl rfl ?_
  refine gf_X11 K 1 (by decide) kf_X11_19 (v := .ref (gB G + 5)) rfl dX11_necksNow_2 ?_
  refine gf_X10 K wh_5 0 (by decide) kf_X11_39 (v := .ref (gB G + 6)) rfl dX11_necksNow_5 ?_
  refine gf_X7 K st_6 0 (by decide) kf_X11_97 (v := .int (C 6 0)) rfl dX11_necksNow_8 ?_
  refine go_cSI K (c_J9_min_7cf53 l G _ _ _ _ rfl) cf_J9_min_7cf53 kt_J9_min_7cf53 km_X11_159 (by decide) rfl rfl (Nat.le_of_ble_eq_true rfl) dX11_necksNow_11 ?_
  exact go_iret K hr h rfl dX11_necksNow_14
noncomputable def X11_neck_j35 (v1 : Int32) (v2 : Int32) (t0 : Int32) (C : CM) : Option (Int32 × CM) := (if t0 = 0 then (gd (t0 = 0 ∨ t0 = 1) (some (t0, C))) else (gd (inb v1 5) (gd (t0 = 0 ∨ t0 = 1) (some (t0, (up2 C 12 v1.toNatClampNeg v2))))))
noncomputable def X11_neck_j34 (v1 : Int32) (v2 : Int32) (C : CM) : Option (Int32 × CM) := (X11_neck_j35 v1 v2 (0 : Int32) C)
noncomputable def X11_neck_j30 (v1 : Int32) (v2 : Int32) (C : CM) : Option (Int32 × CM) := (X11_neck_j35 v1 v2 (1 : Int32) C)
noncomputable def f_X11_neck (v1 : Int32) (v2 : Int32) (C : CM) : Option (Int32 × CM) := (if (f_X11_within v1 (0 : Int32) ((f_X11_necksNow C) - (1 : Int32))) = 0 then (X11_neck_j34 v1 v2 C) else (if v2 = (-1 : Int32) then (X11_neck_j30 v1 v2 C) else (if (f_X11_within v2 (0 : Int32) (999 : Int32)) = 0 then (X11_neck_j34 v1 v2 C) else (X11_neck_j30 v1 v2 C))))
theorem cf_X11_neck : CF yX11_neck cX11_neck 4 (Option.some Jvm.ClassFile.FieldType.boolean) 2 := ⟨kc_X11_neck, kj_X11, ⟨by decide +kernel, by decide +kernel, by decide +kernel⟩, by decide⟩
theorem cv_X11_neck : CFv yX11_neck := ⟨ki_X11_neck, ks_X11_neck⟩
set_option maxHeartbeats 4000000 in
set_option maxRecDepth 100000 in
theorem c_X11_neck (l : Launch) (G : GT) (v1 : Int32) (v2 : Int32) (C : CM) (O : OM) (res : Int32) (C' : CM) (h : f_X11_neck v1 v2 C = some (res, C')) : MI l G yX11_neck cX11_neck 4 (Option.some Jvm.ClassFile.FieldType.boolean) (3) [.ref (gB G + 0), .int v1, .int v2] (C, O) res (C', O) := by
  unfold MI
  refine met_in RX11 (by decide +kernel) rfl [(0, .ref (gB G + 0)), (1, .int v1), (2, .int v2)] rfl (Nat.le_of_ble_eq_true rfl) ?_
  intro pM eM sM mM aM bM meM cM K hr
  have hj35 : ∀ (v1 : Int32) (v2 : Int32) (t0 : Int32) (C : CM), X11_neck_j35 v1 v2 t0 C = some (res, C') → GO pM l eM (3) sM mM aM bM meM cM (MQ bM (va_Qi (fun (r' : Int32) (u : CM × OM) => r' = res ∧ u = (C', O)) (wB G) (Fr G)) aM sM 0 0 (Fr G)) G 4 (C, O) 35 [(0, .ref (gB G + 0)), (1, .int v1), (2, .int v2)] [.int t0] := by
    intro v1 v2 t0 C h
    rw [X11_neck_j35] at h
    refine go_istore_n K dX11_neck_35 rfl (by decide) (lv' := [(3, .int t0), (0, .ref (gB G + 0)), (1, .int v1), (2, .int v2)]) rfl ?_
    refine go_iload_n K dX11_neck_36 0 rfl rfl ?_
    refine go_if_eq (tgt := 50) K dX11_neck_37 (by decide) (fun c2 => ?_) (fun c2 => ?_)
    · replace h := ite_t h c2
      refine go_iload_n K dX11_neck_50 0 rfl rfl ?_
      obtain ⟨g3, h⟩ := gd_e h
      exact go_zret K hr (narrow_z g3) (Prod.mk.inj (Option.some.inj h)).1 (congrArg (fun z => (z, O)) (Prod.mk.inj (Option.some.inj h)).2) dX11_neck_51
    replace h := ite_f h c2
    refine go_aload_n K dX11_neck_40 1 rfl rfl ?_
    refine gf_X11 K 1 (by decide) kf_X11_19 (v := .ref (gB G + 5)) rfl dX11_neck_41 ?_
    refine gf_X10 K wh_5 1 (by decide) kf_X11_314 (v := .ref (gB G + 12)) rfl dX11_neck_44 ?_
    refine go_iload_n K dX11_neck_47 2 rfl rfl ?_
    refine go_iload_n K dX11_neck_48 3 rfl rfl ?_
    obtain ⟨g4, h⟩ := gd_e h
    refine go_cast K (wh_lt wh_5 7 (by decide)) (wh_nk wh_5) g4 rfl dX11_neck_49 ?_
    refine go_iload_n K dX11_neck_50 0 rfl rfl ?_
    obtain ⟨g5, h⟩ := gd_e h
    exact go_zret K hr (narrow_z g5) (Prod.mk.inj (Option.some.inj h)).1 (congrArg (fun z => (z, O)) (Prod.mk.inj (Option.some.inj h)).2) dX11_neck_51
  have hj34 : ∀ (v1 : Int32) (v2 : Int32) (C : CM), X11_neck_j34 v1 v2 C = some (res, C') → GO pM l eM (3) sM mM aM bM meM cM (MQ bM (va_Qi (fun (r' : Int32) (u : CM × OM) => r' = res ∧ u = (C', O)) (wB G) (Fr G)) aM sM 0 0 (Fr G)) G 4 (C, O) 34 [(0, .ref (gB G + 0)), (1, .int v1), (2, .int v2)] [] := by
    intro v1 v2 C h
    rw [X11_neck_j34] at h
    refine go_iconst (v := (0 : Int32)) K dX11_neck_34 (by decide) ?_
    exact hj35 _ _ _ _ h
  have hj30 : ∀ (v1 : Int32) (v2 : Int32) (C : CM), X11_neck_j30 v1 v2 C = some (res, C') → GO pM l eM (3) sM mM aM bM meM cM (MQ bM (va_Qi (fun (r' : Int32) (u : CM × OM) => r' = res ∧ u = (C', O)) (wB G) (Fr G)) aM sM 0 0 (Fr G)) G 4 (C, O) 30 [(0, .ref (gB G + 0)), (1, .int v1), (2, .int v2)] [] := by
    intro v1 v2 C h
    rw [X11_neck_j30] at h
    refine go_iconst (v := (1 : Int32)) K dX11_neck_30 (by decide) ?_
    refine go_goto (tgt := 35) K dX11_neck_31 (by decide) ?_
    exact hj35 _ _ _ _ h
  rw [f_X11_neck] at h
  refine go_iload_n K dX11_neck_0 1 rfl rfl ?_
  refine go_iconst (v := (0 : Int32)) K dX11_neck_1 (by decide) ?_
  refine go_aload_n K dX11_neck_2 0 rfl rfl ?_
  refine go_cVI K (c_X11_necksNow l G _ _ _ rfl) cf_X11_necksNow cv_X11_necksNow km_X11_311 rv_X11 (by decide) rfl rfl (Nat.le_of_ble_eq_true rfl) dX11_neck_3 ?_
  refine go_iconst (v := (1 : Int32)) K dX11_neck_6 (by decide) ?_
  refine go_isub K dX11_neck_7 ?_
  refine go_cSI K (c_X11_within l G _ _ _ _ _ _ rfl) cf_X11_within kt_X11_within km_X11_93 (by decide) rfl rfl (Nat.le_of_ble_eq_true rfl) dX11_neck_8 ?_
  refine go_if_eq (tgt := 34) K dX11_neck_11 (by decide) (fun c1 => ?_) (fun c1 => ?_)
  · replace h := ite_t h c1
    exact hj34 _ _ _ h
  replace h := ite_f h c1
  refine go_iload_n K dX11_neck_14 2 rfl rfl ?_
  refine go_iconst (v := (-1 : Int32)) K dX11_neck_15 (by decide) ?_
  refine go_icmp_eq (tgt := 30) K dX11_neck_16 (by decide) (fun c6 => ?_) (fun c6 => ?_)
  · replace h := ite_t h c6
    exact hj30 _ _ _ h
  replace h := ite_f h c6
  refine go_iload_n K dX11_neck_19 2 rfl rfl ?_
  refine go_iconst (v := (0 : Int32)) K dX11_neck_20 (by decide) ?_
  refine go_sipush (v := (999 : Int32)) K dX11_neck_21 (by decide) ?_
  refine go_cSI K (c_X11_within l G _ _ _ _ _ _ rfl) cf_X11_within kt_X11_within km_X11_93 (by decide) rfl rfl (Nat.le_of_ble_eq_true rfl) dX11_neck_24 ?_
  refine go_if_eq (tgt := 34) K dX11_neck_27 (by decide) (fun c7 => ?_) (fun c7 => ?_)
  · replace h := ite_t h c7
    exact hj34 _ _ _ h
  replace h := ite_f h c7
  exact hj30 _ _ _ h
noncomputable def f_X11_explained (C : CM) : Option (Int32 × CM) := (bnd (f_X2_reckon 6 12 C) (fun C1 => (some ((C1 417 0), C1))))
theorem cf_X11_explained : CF yX11_explained cX11_explained 1 (Option.some Jvm.ClassFile.FieldType.int) 0 := ⟨kc_X11_explained, kj_X11, ⟨by decide +kernel, by decide +kernel, by decide +kernel⟩, by decide⟩
theorem cv_X11_explained : CFv yX11_explained := ⟨ki_X11_explained, ks_X11_explained⟩
set_option maxHeartbeats 4000000 in
set_option maxRecDepth 100000 in
theorem c_X11_explained (l : Launch) (G : GT) (C : CM) (O : OM) (res : Int32) (C' : CM) (h : f_X11_explained C = some (res, C')) : MI l G yX11_explained cX11_explained 1 (Option.some Jvm.ClassFile.FieldType.int) (4) [.ref (gB G + 0)] (C, O) res (C', O) := by
  unfold MI
  refine met_in RX11 (by decide +kernel) rfl [(0, .ref (gB G + 0))] rfl (Nat.le_of_ble_eq_true rfl) ?_
  intro pM eM sM mM aM bM meM cM K hr
  rw [f_X11_explained] at h
  refine go_aload_n K dX11_explained_0 0 rfl rfl ?_
  refine gf_X11 K 11 (by decide) kf_X11_89 (v := .ref (gB G + 417)) rfl dX11_explained_1 ?_
  refine go_aload_n K dX11_explained_4 0 rfl rfl ?_
  refine gf_X11 K 1 (by decide) kf_X11_19 (v := .ref (gB G + 5)) rfl dX11_explained_5 ?_
  refine gf_X10 K wh_5 0 (by decide) kf_X11_39 (v := .ref (gB G + 6)) rfl dX11_explained_8 ?_
  refine go_aload_n K dX11_explained_11 0 rfl rfl ?_
  refine gf_X11 K 1 (by decide) kf_X11_19 (v := .ref (gB G + 5)) rfl dX11_explained_12 ?_
  refine gf_X10 K wh_5 1 (by decide) kf_X11_314 (v := .ref (gB G + 12)) rfl dX11_explained_15 ?_
  obtain ⟨C1, e1, h⟩ := bnd_e h
  refine go_cVV K (c_X2_reckon l G st_6 (wh_lt wh_5 7 (by decide)) (wh_nk wh_5) _ _ _ e1) cf_X2_reckon cv_X2_reckon km_X11_318 rv_X2 (by decide) rfl rfl (Nat.le_of_ble_eq_true rfl) dX11_explained_18 ?_
  refine go_aload_n K dX11_explained_21 0 rfl rfl ?_
  refine gf_X11 K 11 (by decide) kf_X11_89 (v := .ref (gB G + 417)) rfl dX11_explained_22 ?_
  refine gf_X2 K 0 (by decide) kf_X11_322 (v := .int (C1 417 0)) rfl dX11_explained_25 ?_
  exact go_iret K hr (Prod.mk.inj (Option.some.inj h)).1 (congrArg (fun z => (z, O)) (Prod.mk.inj (Option.some.inj h)).2) dX11_explained_28
noncomputable def f_X11_sure (v1 : Int32) (v2 : Int32) (C : CM) : Option (Int32 × CM) := (if v1 = v2 then (some ((-1 : Int32), C)) else (if (f_X11_within v1 (0 : Int32) ((f_X11_necksNow C) - (1 : Int32))) = 0 then (some ((-1 : Int32), C)) else (if (f_X11_within v2 (0 : Int32) ((f_X11_necksNow C) - (1 : Int32))) = 0 then (some ((-1 : Int32), C)) else (bnd (f_X2_reckon 6 12 C) (fun C4 => (bnd (f_X2_sureOf (f_J9_min_7cf53 v1 v2) (f_J9_max_7cf53 v1 v2) C4) (fun r5 => (some (r5, C4)))))))))
theorem cf_X11_sure : CF yX11_sure cX11_sure 4 (Option.some Jvm.ClassFile.FieldType.int) 2 := ⟨kc_X11_sure, kj_X11, ⟨by decide +kernel, by decide +kernel, by decide +kernel⟩, by decide⟩
theorem cv_X11_sure : CFv yX11_sure := ⟨ki_X11_sure, ks_X11_sure⟩
set_option maxHeartbeats 4000000 in
set_option maxRecDepth 100000 in
theorem c_X11_sure (l : Launch) (G : GT) (v1 : Int32) (v2 : Int32) (C : CM) (O : OM) (res : Int32) (C' : CM) (h : f_X11_sure v1 v2 C = some (res, C')) : MI l G yX11_sure cX11_sure 4 (Option.some Jvm.ClassFile.FieldType.int) (4) [.ref (gB G + 0), .int v1, .int v2] (C, O) res (C', O) := by
  unfold MI
  refine met_in RX11 (by decide +kernel) rfl [(0, .ref (gB G + 0)), (1, .int v1), (2, .int v2)] rfl (Nat.le_of_ble_eq_true rfl) ?_
  intro pM eM sM mM aM bM meM cM K hr
  rw [f_X11_sure] at h
  refine go_aload_n K dX11_sure_0 0 rfl rfl ?_
  refine go_cVI K (c_X11_necksNow l G _ _ _ rfl) cf_X11_necksNow cv_X11_necksNow km_X11_311 rv_X11 (by decide) rfl rfl (Nat.le_of_ble_eq_true rfl) dX11_sure_1 ?_
  refine go_iconst (v := (1 : Int32)) K dX11_sure_4 (by decide) ?_
  refine go_isub K dX11_sure_5 ?_
  refine go_istore_n K dX11_sure_6 rfl (by decide) (lv' := [(3, .int ((f_X11_necksNow C) - (1 : Int32))), (0, .ref (gB G + 0)), (1, .int v1), (2, .int v2)]) rfl ?_
  refine go_iload_n K dX11_sure_7 2 rfl rfl ?_
  refine go_iload_n K dX11_sure_8 3 rfl rfl ?_
  refine go_icmp_eq (tgt := 30) K dX11_sure_9 (by decide) (fun c1 => ?_) (fun c1 => ?_)
  · replace h := ite_t h c1
    refine go_iconst (v := (-1 : Int32)) K dX11_sure_30 (by decide) ?_
    exact go_iret K hr (Prod.mk.inj (Option.some.inj h)).1 (congrArg (fun z => (z, O)) (Prod.mk.inj (Option.some.inj h)).2) dX11_sure_31
  replace h := ite_f h c1
  refine go_iload_n K dX11_sure_12 2 rfl rfl ?_
  refine go_iconst (v := (0 : Int32)) K dX11_sure_13 (by decide) ?_
  refine go_iload_n K dX11_sure_14 0 rfl rfl ?_
  refine go_cSI K (c_X11_within l G _ _ _ _ _ _ rfl) cf_X11_within kt_X11_within km_X11_93 (by decide) rfl rfl (Nat.le_of_ble_eq_true rfl) dX11_sure_15 ?_
  refine go_if_eq (tgt := 30) K dX11_sure_18 (by decide) (fun c2 => ?_) (fun c2 => ?_)
  · replace h := ite_t h c2
    refine go_iconst (v := (-1 : Int32)) K dX11_sure_30 (by decide) ?_
    exact go_iret K hr (Prod.mk.inj (Option.some.inj h)).1 (congrArg (fun z => (z, O)) (Prod.mk.inj (Option.some.inj h)).2) dX11_sure_31
  replace h := ite_f h c2
  refine go_iload_n K dX11_sure_21 3 rfl rfl ?_
  refine go_iconst (v := (0 : Int32)) K dX11_sure_22 (by decide) ?_
  refine go_iload_n K dX11_sure_23 0 rfl rfl ?_
  refine go_cSI K (c_X11_within l G _ _ _ _ _ _ rfl) cf_X11_within kt_X11_within km_X11_93 (by decide) rfl rfl (Nat.le_of_ble_eq_true rfl) dX11_sure_24 ?_
  refine go_if_ne (tgt := 32) K dX11_sure_27 (by decide) (fun c3 => ?_) (fun c3 => ?_)
  rotate_left
  · replace h := ite_t h c3
    refine go_iconst (v := (-1 : Int32)) K dX11_sure_30 (by decide) ?_
    exact go_iret K hr (Prod.mk.inj (Option.some.inj h)).1 (congrArg (fun z => (z, O)) (Prod.mk.inj (Option.some.inj h)).2) dX11_sure_31
  replace h := ite_f h c3
  refine go_aload_n K dX11_sure_32 1 rfl rfl ?_
  refine gf_X11 K 11 (by decide) kf_X11_89 (v := .ref (gB G + 417)) rfl dX11_sure_33 ?_
  refine go_aload_n K dX11_sure_36 1 rfl rfl ?_
  refine gf_X11 K 1 (by decide) kf_X11_19 (v := .ref (gB G + 5)) rfl dX11_sure_37 ?_
  refine gf_X10 K wh_5 0 (by decide) kf_X11_39 (v := .ref (gB G + 6)) rfl dX11_sure_40 ?_
  refine go_aload_n K dX11_sure_43 1 rfl rfl ?_
  refine gf_X11 K 1 (by decide) kf_X11_19 (v := .ref (gB G + 5)) rfl dX11_sure_44 ?_
  refine gf_X10 K wh_5 1 (by decide) kf_X11_314 (v := .ref (gB G + 12)) rfl dX11_sure_47 ?_
  obtain ⟨C4, e4, h⟩ := bnd_e h
  refine go_cVV K (c_X2_reckon l G st_6 (wh_lt wh_5 7 (by decide)) (wh_nk wh_5) _ _ _ e4) cf_X2_reckon cv_X2_reckon km_X11_318 rv_X2 (by decide) rfl rfl (Nat.le_of_ble_eq_true rfl) dX11_sure_50 ?_
  refine go_aload_n K dX11_sure_53 1 rfl rfl ?_
  refine gf_X11 K 11 (by decide) kf_X11_89 (v := .ref (gB G + 417)) rfl dX11_sure_54 ?_
  refine go_iload_n K dX11_sure_57 2 rfl rfl ?_
  refine go_iload_n K dX11_sure_58 3 rfl rfl ?_
  refine go_cSI K (c_J9_min_7cf53 l G _ _ _ _ rfl) cf_J9_min_7cf53 kt_J9_min_7cf53 km_X11_159 (by decide) rfl rfl (Nat.le_of_ble_eq_true rfl) dX11_sure_59 ?_
  refine go_iload_n K dX11_sure_62 2 rfl rfl ?_
  refine go_iload_n K dX11_sure_63 3 rfl rfl ?_
  refine go_cSI K (c_J9_max_7cf53 l G _ _ _ _ rfl) cf_J9_max_7cf53 kt_J9_max_7cf53 km_X11_297 (by decide) rfl rfl (Nat.le_of_ble_eq_true rfl) dX11_sure_64 ?_
  obtain ⟨r5, e5, h⟩ := bnd_e h
  refine go_cVI K (c_X2_sureOf l G _ _ _ _ _ e5) cf_X2_sureOf cv_X2_sureOf km_X11_325 rv_X2 (by decide) rfl rfl (Nat.le_of_ble_eq_true rfl) dX11_sure_67 ?_
  exact go_iret K hr (Prod.mk.inj (Option.some.inj h)).1 (congrArg (fun z => (z, O)) (Prod.mk.inj (Option.some.inj h)).2) dX11_sure_70
noncomputable def f_X11_corner (C : CM) : Option (Int32 × CM) := (bnd (f_X2_reckon 6 12 C) (fun C1 => (bnd (f_X2_mostOpen C1) (fun r2 => (some (r2, C1))))))
theorem cf_X11_corner : CF yX11_corner cX11_corner 1 (Option.some Jvm.ClassFile.FieldType.int) 0 := ⟨kc_X11_corner, kj_X11, ⟨by decide +kernel, by decide +kernel, by decide +kernel⟩, by decide⟩
theorem cv_X11_corner : CFv yX11_corner := ⟨ki_X11_corner, ks_X11_corner⟩
set_option maxHeartbeats 4000000 in
set_option maxRecDepth 100000 in
theorem c_X11_corner (l : Launch) (G : GT) (C : CM) (O : OM) (res : Int32) (C' : CM) (h : f_X11_corner C = some (res, C')) : MI l G yX11_corner cX11_corner 1 (Option.some Jvm.ClassFile.FieldType.int) (4) [.ref (gB G + 0)] (C, O) res (C', O) := by
  unfold MI
  refine met_in RX11 (by decide +kernel) rfl [(0, .ref (gB G + 0))] rfl (Nat.le_of_ble_eq_true rfl) ?_
  intro pM eM sM mM aM bM meM cM K hr
  rw [f_X11_corner] at h
  refine go_aload_n K dX11_corner_0 0 rfl rfl ?_
  refine gf_X11 K 11 (by decide) kf_X11_89 (v := .ref (gB G + 417)) rfl dX11_corner_1 ?_
  refine go_aload_n K dX11_corner_4 0 rfl rfl ?_
  refine gf_X11 K 1 (by decide) kf_X11_19 (v := .ref (gB G + 5)) rfl dX11_corner_5 ?_
  refine gf_X10 K wh_5 0 (by decide) kf_X11_39 (v := .ref (gB G + 6)) rfl dX11_corner_8 ?_
  refine go_aload_n K dX11_corner_11 0 rfl rfl ?_
  refine gf_X11 K 1 (by decide) kf_X11_19 (v := .ref (gB G + 5)) rfl dX11_corner_12 ?_
  refine gf_X10 K wh_5 1 (by decide) kf_X11_314 (v := .ref (gB G + 12)) rfl dX11_corner_15 ?_
  obtain ⟨C1, e1, h⟩ := bnd_e h
  refine go_cVV K (c_X2_reckon l G st_6 (wh_lt wh_5 7 (by decide)) (wh_nk wh_5) _ _ _ e1) cf_X2_reckon cv_X2_reckon km_X11_318 rv_X2 (by decide) rfl rfl (Nat.le_of_ble_eq_true rfl) dX11_corner_18 ?_
  refine go_aload_n K dX11_corner_21 0 rfl rfl ?_
  refine gf_X11 K 11 (by decide) kf_X11_89 (v := .ref (gB G + 417)) rfl dX11_corner_22 ?_
  obtain ⟨r2, e2, h⟩ := bnd_e h
  refine go_cVI K (c_X2_mostOpen l G _ _ _ e2) cf_X2_mostOpen cv_X2_mostOpen km_X11_328 rv_X2 (by decide) rfl rfl (Nat.le_of_ble_eq_true rfl) dX11_corner_25 ?_
  exact go_iret K hr (Prod.mk.inj (Option.some.inj h)).1 (congrArg (fun z => (z, O)) (Prod.mk.inj (Option.some.inj h)).2) dX11_corner_28
noncomputable def f_X11_image (C : CM) : Option (Int32 × CM) := (bnd (f_X10_copyFrom 194 5 C) (fun C1 => (some ((C1 6 1), C1))))
theorem cf_X11_image : CF yX11_image cX11_image 1 (Option.some Jvm.ClassFile.FieldType.int) 0 := ⟨kc_X11_image, kj_X11, ⟨by decide +kernel, by decide +kernel, by decide +kernel⟩, by decide⟩
theorem cv_X11_image : CFv yX11_image := ⟨ki_X11_image, ks_X11_image⟩
set_option maxHeartbeats 4000000 in
set_option maxRecDepth 100000 in
theorem c_X11_image (l : Launch) (G : GT) (C : CM) (O : OM) (res : Int32) (C' : CM) (h : f_X11_image C = some (res, C')) : MI l G yX11_image cX11_image 1 (Option.some Jvm.ClassFile.FieldType.int) (3) [.ref (gB G + 0)] (C, O) res (C', O) := by
  unfold MI
  refine met_in RX11 (by decide +kernel) rfl [(0, .ref (gB G + 0))] rfl (Nat.le_of_ble_eq_true rfl) ?_
  intro pM eM sM mM aM bM meM cM K hr
  rw [f_X11_image] at h
  refine go_aload_n K dX11_image_0 0 rfl rfl ?_
  refine gf_X11 K 2 (by decide) kf_X11_23 (v := .ref (gB G + 194)) rfl dX11_image_1 ?_
  refine go_aload_n K dX11_image_4 0 rfl rfl ?_
  refine gf_X11 K 1 (by decide) kf_X11_19 (v := .ref (gB G + 5)) rfl dX11_image_5 ?_
  obtain ⟨C1, e1, h⟩ := bnd_e h
  refine go_cVV K (c_X10_copyFrom l G wh_194 wh_5 _ _ _ e1) cf_X10_copyFrom cv_X10_copyFrom km_X11_331 (rv_X10 wh_194) (by decide) rfl rfl (Nat.le_of_ble_eq_true rfl) dX11_image_8 ?_
  refine go_aload_n K dX11_image_11 0 rfl rfl ?_
  refine gf_X11 K 1 (by decide) kf_X11_19 (v := .ref (gB G + 5)) rfl dX11_image_12 ?_
  refine gf_X10 K wh_5 0 (by decide) kf_X11_39 (v := .ref (gB G + 6)) rfl dX11_image_15 ?_
  refine gf_X7 K st_6 1 (by decide) kf_X11_173 (v := .int (C1 6 1)) rfl dX11_image_18 ?_
  exact go_iret K hr (Prod.mk.inj (Option.some.inj h)).1 (congrArg (fun z => (z, O)) (Prod.mk.inj (Option.some.inj h)).2) dX11_image_21
noncomputable def f_X11_back (C : CM) : Option (Int32 × CM) := (bnd (f_X10_copyFrom 5 194 C) (fun C1 => (bnd (f_X11_script (C1 5 3)) (fun r2 => (bnd (f_X1_rule 0 r2 C1) (fun C3 => (some ((C3 6 1), C3))))))))
theorem cf_X11_back : CF yX11_back cX11_back 1 (Option.some Jvm.ClassFile.FieldType.int) 0 := ⟨kc_X11_back, kj_X11, ⟨by decide +kernel, by decide +kernel, by decide +kernel⟩, by decide⟩
theorem cv_X11_back : CFv yX11_back := ⟨ki_X11_back, ks_X11_back⟩
set_option maxHeartbeats 4000000 in
set_option maxRecDepth 100000 in
theorem c_X11_back (l : Launch) (G : GT) (C : CM) (O : OM) (res : Int32) (C' : CM) (h : f_X11_back C = some (res, C')) : MI l G yX11_back cX11_back 1 (Option.some Jvm.ClassFile.FieldType.int) (3) [.ref (gB G + 0)] (C, O) res (C', O) := by
  unfold MI
  refine met_in RX11 (by decide +kernel) rfl [(0, .ref (gB G + 0))] rfl (Nat.le_of_ble_eq_true rfl) ?_
  intro pM eM sM mM aM bM meM cM K hr
  rw [f_X11_back] at h
  refine go_aload_n K dX11_back_0 0 rfl rfl ?_
  refine gf_X11 K 1 (by decide) kf_X11_19 (v := .ref (gB G + 5)) rfl dX11_back_1 ?_
  refine go_aload_n K dX11_back_4 0 rfl rfl ?_
  refine gf_X11 K 2 (by decide) kf_X11_23 (v := .ref (gB G + 194)) rfl dX11_back_5 ?_
  obtain ⟨C1, e1, h⟩ := bnd_e h
  refine go_cVV K (c_X10_copyFrom l G wh_5 wh_194 _ _ _ e1) cf_X10_copyFrom cv_X10_copyFrom km_X11_331 (rv_X10 wh_5) (by decide) rfl rfl (Nat.le_of_ble_eq_true rfl) dX11_back_8 ?_
  refine go_aload_n K dX11_back_11 0 rfl rfl ?_
  refine gf_X11 K 5 (by decide) kf_X11_46 (v := .ref (gB G + twI 0)) rfl dX11_back_12 ?_
  refine gf_X9 K q_0 1 (by decide) kf_X11_212 (v := .ref (gB G + laI 0)) rfl dX11_back_15 ?_
  refine go_aload_n K dX11_back_18 0 rfl rfl ?_
  refine go_aload_n K dX11_back_19 0 rfl rfl ?_
  refine gf_X11 K 1 (by decide) kf_X11_19 (v := .ref (gB G + 5)) rfl dX11_back_20 ?_
  refine gf_X10 K wh_5 3 (by decide) kf_X11_209 (v := .int (C1 5 3)) rfl dX11_back_23 ?_
  obtain ⟨r2, e2, h⟩ := bnd_e h
  refine go_cVR K (c_X11_script l G _ _ _ _ e2) cf_X11_script cv_X11_script km_X11_189 rv_X11 (by decide) rfl rfl (Nat.le_of_ble_eq_true rfl) dX11_back_26 ?_
  obtain ⟨C3, e3, h⟩ := bnd_e h
  refine go_cVV K (c_X1_rule l G q_0 (ty_X11_script e2) _ _ _ e3) cf_X1_rule cv_X1_rule km_X11_216 (rv_X1 q_0) (by decide) rfl rfl (Nat.le_of_ble_eq_true rfl) dX11_back_29 ?_
  refine go_aload_n K dX11_back_32 0 rfl rfl ?_
  refine gf_X11 K 1 (by decide) kf_X11_19 (v := .ref (gB G + 5)) rfl dX11_back_33 ?_
  refine gf_X10 K wh_5 0 (by decide) kf_X11_39 (v := .ref (gB G + 6)) rfl dX11_back_36 ?_
  refine gf_X7 K st_6 1 (by decide) kf_X11_173 (v := .int (C3 6 1)) rfl dX11_back_39 ?_
  exact go_iret K hr (Prod.mk.inj (Option.some.inj h)).1 (congrArg (fun z => (z, O)) (Prod.mk.inj (Option.some.inj h)).2) dX11_back_42
noncomputable def f_X11_about (v1 : Int32) (C : CM) : Int32 := (if v1 = (0 : Int32) then (C 6 0) else (if v1 = (1 : Int32) then (C 6 1) else (if v1 = (2 : Int32) then (C 6 2) else (if v1 = (3 : Int32) then (C 6 3) else (if v1 = (4 : Int32) then (C 5 2) else (if v1 = (5 : Int32) then (C 5 3) else (if v1 = (6 : Int32) then (C 5 4) else (if v1 = (7 : Int32) then (C 404 1) else (-2 : Int32)))))))))
theorem cf_X11_about : CF yX11_about cX11_about 2 (Option.some Jvm.ClassFile.FieldType.int) 1 := ⟨kc_X11_about, kj_X11, ⟨by decide +kernel, by decide +kernel, by decide +kernel⟩, by decide⟩
theorem cv_X11_about : CFv yX11_about := ⟨ki_X11_about, ks_X11_about⟩
set_option maxHeartbeats 4000000 in
set_option maxRecDepth 100000 in
theorem c_X11_about (l : Launch) (G : GT) (v1 : Int32) (C : CM) (O : OM) (res : Int32) (h : f_X11_about v1 C = res) : MI l G yX11_about cX11_about 2 (Option.some Jvm.ClassFile.FieldType.int) (1) [.ref (gB G + 0), .int v1] (C, O) res (C, O) := by
  unfold MI
  refine met_in RX11 (by decide +kernel) rfl [(0, .ref (gB G + 0)), (1, .int v1)] rfl (Nat.le_of_ble_eq_true rfl) ?_
  intro pM eM sM mM aM bM meM cM K hr
  rw [f_X11_about] at h
  refine go_iload_n K dX11_about_0 1 rfl rfl ?_
  by_cases c1 : v1 = (0 : Int32)
  · refine go_tableIn K dX11_about_1 (by rw [c1]; decide) (by rw [c1]; decide) (off := 47) (by rw [c1]; decide) (tgt := 48) (by decide) ?_
    replace h := ite_t h c1
    refine go_aload_n K dX11_about_48 0 rfl rfl ?_
    refine gf_X11 K 1 (by decide) kf_X11_19 (v := .ref (gB G + 5)) rfl dX11_about_49 ?_
    refine gf_X10 K wh_5 0 (by decide) kf_X11_39 (v := .ref (gB G + 6)) rfl dX11_about_52 ?_
    refine gf_X7 K st_6 0 (by decide) kf_X11_97 (v := .int (C 6 0)) rfl dX11_about_55 ?_
    exact go_iret K hr h rfl dX11_about_58
  replace h := ite_f h c1
  by_cases c2 : v1 = (1 : Int32)
  · refine go_tableIn K dX11_about_1 (by rw [c2]; decide) (by rw [c2]; decide) (off := 58) (by rw [c2]; decide) (tgt := 59) (by decide) ?_
    replace h := ite_t h c2
    refine go_aload_n K dX11_about_59 0 rfl rfl ?_
    refine gf_X11 K 1 (by decide) kf_X11_19 (v := .ref (gB G + 5)) rfl dX11_about_60 ?_
    refine gf_X10 K wh_5 0 (by decide) kf_X11_39 (v := .ref (gB G + 6)) rfl dX11_about_63 ?_
    refine gf_X7 K st_6 1 (by decide) kf_X11_173 (v := .int (C 6 1)) rfl dX11_about_66 ?_
    exact go_iret K hr h rfl dX11_about_69
  replace h := ite_f h c2
  by_cases c3 : v1 = (2 : Int32)
  · refine go_tableIn K dX11_about_1 (by rw [c3]; decide) (by rw [c3]; decide) (off := 69) (by rw [c3]; decide) (tgt := 70) (by decide) ?_
    replace h := ite_t h c3
    refine go_aload_n K dX11_about_70 0 rfl rfl ?_
    refine gf_X11 K 1 (by decide) kf_X11_19 (v := .ref (gB G + 5)) rfl dX11_about_71 ?_
    refine gf_X10 K wh_5 0 (by decide) kf_X11_39 (v := .ref (gB G + 6)) rfl dX11_about_74 ?_
    refine gf_X7 K st_6 2 (by decide) kf_X11_334 (v := .int (C 6 2)) rfl dX11_about_77 ?_
    exact go_iret K hr h rfl dX11_about_80
  replace h := ite_f h c3
  by_cases c4 : v1 = (3 : Int32)
  · refine go_tableIn K dX11_about_1 (by rw [c4]; decide) (by rw [c4]; decide) (off := 80) (by rw [c4]; decide) (tgt := 81) (by decide) ?_
    replace h := ite_t h c4
    refine go_aload_n K dX11_about_81 0 rfl rfl ?_
    refine gf_X11 K 1 (by decide) kf_X11_19 (v := .ref (gB G + 5)) rfl dX11_about_82 ?_
    refine gf_X10 K wh_5 0 (by decide) kf_X11_39 (v := .ref (gB G + 6)) rfl dX11_about_85 ?_
    refine gf_X7 K st_6 3 (by decide) kf_X11_167 (v := .int (C 6 3)) rfl dX11_about_88 ?_
    exact go_iret K hr h rfl dX11_about_91
  replace h := ite_f h c4
  by_cases c5 : v1 = (4 : Int32)
  · refine go_tableIn K dX11_about_1 (by rw [c5]; decide) (by rw [c5]; decide) (off := 91) (by rw [c5]; decide) (tgt := 92) (by decide) ?_
    replace h := ite_t h c5
    refine go_aload_n K dX11_about_92 0 rfl rfl ?_
    refine gf_X11 K 1 (by decide) kf_X11_19 (v := .ref (gB G + 5)) rfl dX11_about_93 ?_
    refine gf_X10 K wh_5 2 (by decide) kf_X11_183 (v := .int (C 5 2)) rfl dX11_about_96 ?_
    exact go_iret K hr h rfl dX11_about_99
  replace h := ite_f h c5
  by_cases c6 : v1 = (5 : Int32)
  · refine go_tableIn K dX11_about_1 (by rw [c6]; decide) (by rw [c6]; decide) (off := 99) (by rw [c6]; decide) (tgt := 100) (by decide) ?_
    replace h := ite_t h c6
    refine go_aload_n K dX11_about_100 0 rfl rfl ?_
    refine gf_X11 K 1 (by decide) kf_X11_19 (v := .ref (gB G + 5)) rfl dX11_about_101 ?_
    refine gf_X10 K wh_5 3 (by decide) kf_X11_209 (v := .int (C 5 3)) rfl dX11_about_104 ?_
    exact go_iret K hr h rfl dX11_about_107
  replace h := ite_f h c6
  by_cases c7 : v1 = (6 : Int32)
  · refine go_tableIn K dX11_about_1 (by rw [c7]; decide) (by rw [c7]; decide) (off := 107) (by rw [c7]; decide) (tgt := 108) (by decide) ?_
    replace h := ite_t h c7
    refine go_aload_n K dX11_about_108 0 rfl rfl ?_
    refine gf_X11 K 1 (by decide) kf_X11_19 (v := .ref (gB G + 5)) rfl dX11_about_109 ?_
    refine gf_X10 K wh_5 4 (by decide) kf_X11_238 (v := .int (C 5 4)) rfl dX11_about_112 ?_
    exact go_iret K hr h rfl dX11_about_115
  replace h := ite_f h c7
  by_cases c8 : v1 = (7 : Int32)
  · refine go_tableIn K dX11_about_1 (by rw [c8]; decide) (by rw [c8]; decide) (off := 115) (by rw [c8]; decide) (tgt := 116) (by decide) ?_
    replace h := ite_t h c8
    refine go_aload_n K dX11_about_116 0 rfl rfl ?_
    refine gf_X11 K 7 (by decide) kf_X11_59 (v := .ref (gB G + 404)) rfl dX11_about_117 ?_
    refine gf_X8 K 1 (by decide) kf_X11_176 (v := .int (C 404 1)) rfl dX11_about_120 ?_
    exact go_iret K hr h rfl dX11_about_123
  replace h := ite_f h c8
  have c1 := sw_ne c1 (k := 0) (by decide)
  have c2 := sw_ne c2 (k := 1) (by decide)
  have c3 := sw_ne c3 (k := 2) (by decide)
  have c4 := sw_ne c4 (k := 3) (by decide)
  have c5 := sw_ne c5 (k := 4) (by decide)
  have c6 := sw_ne c6 (k := 5) (by decide)
  have c7 := sw_ne c7 (k := 6) (by decide)
  have c8 := sw_ne c8 (k := 7) (by decide)
  refine go_tableOut (tgt := 124) K dX11_about_1 (show (v1).toInt < 0 ∨ 7 < (v1).toInt from by omega) (by decide) ?_
  refine go_bipush (v := (-2 : Int32)) K dX11_about_124 (by decide) ?_
  exact go_iret K hr h rfl dX11_about_126
noncomputable def f_X12_in (v0 : Int32) (v1 : Int32) (v2 : Int32) : Int32 := (if v0 < v1 then (0 : Int32) else (if v2 < v0 then (0 : Int32) else (1 : Int32)))
theorem cf_X12_in : CF yX12_in cX12_in 3 (Option.some Jvm.ClassFile.FieldType.boolean) 3 := ⟨kc_X12_in, kj_X12, ⟨by decide +kernel, by decide +kernel, by decide +kernel⟩, by decide⟩
set_option maxHeartbeats 4000000 in
set_option maxRecDepth 100000 in
theorem c_X12_in (l : Launch) (G : GT) (v0 : Int32) (v1 : Int32) (v2 : Int32) (C : CM) (O : OM) (res : Int32) (h : f_X12_in v0 v1 v2 = res) : MI l G yX12_in cX12_in 3 (Option.some Jvm.ClassFile.FieldType.boolean) (1) [.int v0, .int v1, .int v2] (C, O) res (C, O) := by
  unfold MI
  refine met_in RX12 (by decide +kernel) rfl [(0, .int v0), (1, .int v1), (2, .int v2)] rfl (Nat.le_of_ble_eq_true rfl) ?_
  intro pM eM sM mM aM bM meM cM K hr
  rw [f_X12_in] at h
  refine go_iload_n K dX12_in_0 0 rfl rfl ?_
  refine go_iload_n K dX12_in_1 1 rfl rfl ?_
  refine go_icmp_lt (tgt := 14) K dX12_in_2 (by decide) (fun c1 => ?_) (fun c1 => ?_)
  · replace h := ite_t h c1
    refine go_iconst (v := (0 : Int32)) K dX12_in_14 (by decide) ?_
    exact go_zret K hr (by decide) h rfl dX12_in_15
  replace h := ite_f h c1
  refine go_iload_n K dX12_in_5 0 rfl rfl ?_
  refine go_iload_n K dX12_in_6 2 rfl rfl ?_
  refine go_icmp_gt (tgt := 14) K dX12_in_7 (by decide) (fun c2 => ?_) (fun c2 => ?_)
  · replace h := ite_t h c2
    refine go_iconst (v := (0 : Int32)) K dX12_in_14 (by decide) ?_
    exact go_zret K hr (by decide) h rfl dX12_in_15
  replace h := ite_f h c2
  refine go_iconst (v := (1 : Int32)) K dX12_in_10 (by decide) ?_
  refine go_goto (tgt := 15) K dX12_in_11 (by decide) ?_
  exact go_zret K hr (by decide) h rfl dX12_in_15
noncomputable def f_X12_has (v0 : Int32) (v1 : Int32) : Int32 := (if ((v0 >>> (v1 &&& 31)) &&& (1 : Int32)) = (1 : Int32) then (1 : Int32) else (0 : Int32))
theorem cf_X12_has : CF yX12_has cX12_has 2 (Option.some Jvm.ClassFile.FieldType.boolean) 2 := ⟨kc_X12_has, kj_X12, ⟨by decide +kernel, by decide +kernel, by decide +kernel⟩, by decide⟩
set_option maxHeartbeats 4000000 in
set_option maxRecDepth 100000 in
theorem c_X12_has (l : Launch) (G : GT) (v0 : Int32) (v1 : Int32) (C : CM) (O : OM) (res : Int32) (h : f_X12_has v0 v1 = res) : MI l G yX12_has cX12_has 2 (Option.some Jvm.ClassFile.FieldType.boolean) (1) [.int v0, .int v1] (C, O) res (C, O) := by
  unfold MI
  refine met_in RX12 (by decide +kernel) rfl [(0, .int v0), (1, .int v1)] rfl (Nat.le_of_ble_eq_true rfl) ?_
  intro pM eM sM mM aM bM meM cM K hr
  rw [f_X12_has] at h
  refine go_iload_n K dX12_has_0 0 rfl rfl ?_
  refine go_iload_n K dX12_has_1 1 rfl rfl ?_
  refine go_ishr K dX12_has_2 ?_
  refine go_iconst (v := (1 : Int32)) K dX12_has_3 (by decide) ?_
  refine go_iand K dX12_has_4 ?_
  refine go_iconst (v := (1 : Int32)) K dX12_has_5 (by decide) ?_
  refine go_icmp_ne (tgt := 13) K dX12_has_6 (by decide) (fun c1 => ?_) (fun c1 => ?_)
  · replace h := ite_f h c1
    refine go_iconst (v := (0 : Int32)) K dX12_has_13 (by decide) ?_
    exact go_zret K hr (by decide) h rfl dX12_has_14
  replace h := ite_t h c1
  refine go_iconst (v := (1 : Int32)) K dX12_has_9 (by decide) ?_
  refine go_goto (tgt := 14) K dX12_has_10 (by decide) ?_
  exact go_zret K hr (by decide) h rfl dX12_has_14
noncomputable def f_X12_held (v0 : Int64) (v2 : Int32) (v3 : Int32) : Int32 := (if 0 ≤ (lg_cmp v0 v2.toInt64) then (if (lg_cmp v0 v3.toInt64) ≤ 0 then v0.toInt32 else v3) else v2)
theorem cf_X12_held : CF yX12_held cX12_held 4 (Option.some Jvm.ClassFile.FieldType.int) 3 := ⟨kc_X12_held, kj_X12, ⟨by decide +kernel, by decide +kernel, by decide +kernel⟩, by decide⟩
set_option maxHeartbeats 4000000 in
set_option maxRecDepth 100000 in
theorem c_X12_held (l : Launch) (G : GT) (v0 : Int64) (v2 : Int32) (v3 : Int32) (C : CM) (O : OM) (res : Int32) (h : f_X12_held v0 v2 v3 = res) : MI l G yX12_held cX12_held 4 (Option.some Jvm.ClassFile.FieldType.int) (1) [.long v0, .int v2, .int v3] (C, O) res (C, O) := by
  unfold MI
  refine met_in RX12 (by decide +kernel) rfl [(0, .long v0), (2, .int v2), (3, .int v3)] rfl (Nat.le_of_ble_eq_true rfl) ?_
  intro pM eM sM mM aM bM meM cM K hr
  rw [f_X12_held] at h
  refine go_lload_n K dX12_held_0 0 rfl rfl ?_
  refine go_iload_n K dX12_held_1 1 rfl rfl ?_
  refine go_i2l K dX12_held_2 ?_
  refine go_lcmp K dX12_held_3 ?_
  refine go_if_ge (tgt := 11) K dX12_held_4 (by decide) (fun c1 => ?_) (fun c1 => ?_)
  rotate_left
  · replace h := ite_f h c1
    refine go_iload_n K dX12_held_7 1 rfl rfl ?_
    refine go_goto (tgt := 24) K dX12_held_8 (by decide) ?_
    exact go_iret K hr h rfl dX12_held_24
  replace h := ite_t h c1
  refine go_lload_n K dX12_held_11 0 rfl rfl ?_
  refine go_iload_n K dX12_held_12 2 rfl rfl ?_
  refine go_i2l K dX12_held_13 ?_
  refine go_lcmp K dX12_held_14 ?_
  refine go_if_le (tgt := 22) K dX12_held_15 (by decide) (fun c2 => ?_) (fun c2 => ?_)
  · replace h := ite_t h c2
    refine go_lload_n K dX12_held_22 0 rfl rfl ?_
    refine go_l2i K dX12_held_23 ?_
    exact go_iret K hr h rfl dX12_held_24
  replace h := ite_f h c2
  refine go_iload_n K dX12_held_18 2 rfl rfl ?_
  refine go_goto (tgt := 24) K dX12_held_19 (by decide) ?_
  exact go_iret K hr h rfl dX12_held_24
noncomputable def X12_copies_j40 (rc : Int32 → Int32 → OM → Option OM) (v1 : Int32) (v2 : Int32) (O : OM) : Option OM := (rc v1 (v2 + (1 : Int32)) O)
noncomputable def X12_copies_l2 : Nat → Int32 → Int32 → OM → Option OM
  | 0, _, _, _ => none
  | n + 1, v1, v2, O => (if (5130 : Int32) ≤ v2 then (some O) else (if v1 = 0 then (gd (inb v2 5130) (gd (inb v2 5130) (X12_copies_j40 (fun v1 v2 O => X12_copies_l2 n v1 v2 O) v1 v2 (oup O 447 v2.toNatClampNeg (O.1 448 v2.toNatClampNeg))))) else (gd (inb v2 5130) (gd (inb v2 5130) (X12_copies_j40 (fun v1 v2 O => X12_copies_l2 n v1 v2 O) v1 v2 (oup O 448 v2.toNatClampNeg (O.1 447 v2.toNatClampNeg)))))))
noncomputable def f_X12_copies (v1 : Int32) (O : OM) : Option OM := (X12_copies_l2 FU v1 (0 : Int32) O)
theorem cf_X12_copies : CF yX12_copies cX12_copies 3 (Option.none : Option Jvm.ClassFile.FieldType) 1 := ⟨kc_X12_copies, kj_X12, ⟨by decide +kernel, by decide +kernel, by decide +kernel⟩, by decide⟩
theorem cv_X12_copies : CFv yX12_copies := ⟨ki_X12_copies, ks_X12_copies⟩
set_option maxHeartbeats 4000000 in
set_option maxRecDepth 100000 in
theorem c_X12_copies (l : Launch) (G : GT) (v1 : Int32) (C : CM) (O : OM) (O' : OM) (h : f_X12_copies v1 O = some O') : MV l G yX12_copies cX12_copies 3 (Option.none : Option Jvm.ClassFile.FieldType) (1) [.ref (gB G + 446), .int v1] (C, O) (C, O') := by
  unfold MV
  refine met_in RX12 (by decide +kernel) rfl [(0, .ref (gB G + 446)), (1, .int v1)] rfl (Nat.le_of_ble_eq_true rfl) ?_
  intro pM eM sM mM aM bM meM cM K hr
  have hl2 : ∀ (n2 : Nat) (v1 : Int32) (v2 : Int32) (O : OM), X12_copies_l2 n2 v1 v2 O = some O' → GO pM l eM (1) sM mM aM bM meM cM (MQ bM (va_Qv (fun (u : CM × OM) => u = (C, O')) (wB G) (Fr G)) aM sM 0 0 (Fr G)) G 3 (C, O) 2 [(0, .ref (gB G + 446)), (1, .int v1), (2, .int v2)] [] := by
    intro n2
    induction n2 with
    | zero =>
      intro v1 v2 O h
      rw [X12_copies_l2] at h
      cases h
    | succ n2 ih2 =>
      have hj40 : ∀ (v1 : Int32) (v2 : Int32) (O : OM), X12_copies_j40 (fun v1 v2 O => X12_copies_l2 n2 v1 v2 O) v1 v2 O = some O' → GO pM l eM (1) sM mM aM bM meM cM (MQ bM (va_Qv (fun (u : CM × OM) => u = (C, O')) (wB G) (Fr G)) aM sM 0 0 (Fr G)) G 3 (C, O) 40 [(0, .ref (gB G + 446)), (1, .int v1), (2, .int v2)] [] := by
        intro v1 v2 O h
        rw [X12_copies_j40] at h
        refine go_iinc K dX12_copies_40 2 rfl (v := (v2 + (1 : Int32))) rfl (by decide) (lv' := [(2, .int (v2 + (1 : Int32))), (0, .ref (gB G + 446)), (1, .int v1)]) rfl ?_
        refine go_goto (tgt := 2) K dX12_copies_43 (by decide) ?_
        exact go_sub [1, 2, 0] rfl (ih2 _ _ _ h)
      intro v1 v2 O h
      rw [X12_copies_l2] at h
      refine go_iload_n K dX12_copies_2 2 rfl rfl ?_
      refine go_sipush (v := (5130 : Int32)) K dX12_copies_3 (by decide) ?_
      refine go_icmp_ge (tgt := 46) K dX12_copies_6 (by decide) (fun c1 => ?_) (fun c1 => ?_)
      · replace h := ite_t h c1
        exact go_vret K hr (congrArg (fun z => (C, z)) (Option.some.inj h)) dX12_copies_46
      replace h := ite_f h c1
      refine go_iload_n K dX12_copies_9 1 rfl rfl ?_
      refine go_if_eq (tgt := 28) K dX12_copies_10 (by decide) (fun c2 => ?_) (fun c2 => ?_)
      · replace h := ite_t h c2
        refine go_aload_n K dX12_copies_28 0 rfl rfl ?_
        refine gf_X12 K 0 (by decide) kf_X12_7 (v := .ref (gB G + 447)) rfl dX12_copies_29 ?_
        refine go_iload_n K dX12_copies_32 2 rfl rfl ?_
        refine go_aload_n K dX12_copies_33 0 rfl rfl ?_
        refine gf_X12 K 1 (by decide) kf_X12_13 (v := .ref (gB G + 448)) rfl dX12_copies_34 ?_
        refine go_iload_n K dX12_copies_37 2 rfl rfl ?_
        obtain ⟨g3, h⟩ := gd_e h
        refine go_mald K (Nat.le_of_ble_eq_true rfl) sh_448 g3 rfl dX12_copies_38 ?_
        obtain ⟨g4, h⟩ := gd_e h
        refine go_mast K (Nat.le_of_ble_eq_true rfl) sh_447 g4 rfl dX12_copies_39 ?_
        exact hj40 _ _ _ h
      replace h := ite_f h c2
      refine go_aload_n K dX12_copies_13 0 rfl rfl ?_
      refine gf_X12 K 1 (by decide) kf_X12_13 (v := .ref (gB G + 448)) rfl dX12_copies_14 ?_
      refine go_iload_n K dX12_copies_17 2 rfl rfl ?_
      refine go_aload_n K dX12_copies_18 0 rfl rfl ?_
      refine gf_X12 K 0 (by decide) kf_X12_7 (v := .ref (gB G + 447)) rfl dX12_copies_19 ?_
      refine go_iload_n K dX12_copies_22 2 rfl rfl ?_
      obtain ⟨g5, h⟩ := gd_e h
      refine go_mald K (Nat.le_of_ble_eq_true rfl) sh_447 g5 rfl dX12_copies_23 ?_
      obtain ⟨g6, h⟩ := gd_e h
      refine go_mast K (Nat.le_of_ble_eq_true rfl) sh_448 g6 rfl dX12_copies_24 ?_
      refine go_goto (tgt := 40) K dX12_copies_25 (by decide) ?_
      exact hj40 _ _ _ h
  rw [f_X12_copies] at h
  refine go_iconst (v := (0 : Int32)) K dX12_copies_0 (by decide) ?_
  refine go_istore_n K dX12_copies_1 rfl (by decide) (lv' := [(2, .int (0 : Int32)), (0, .ref (gB G + 446)), (1, .int v1)]) rfl ?_
  exact go_sub [1, 2, 0] rfl (hl2 FU _ _ _ h)
noncomputable def f_X12_isOne (v1 : Int32) (O : OM) : Option Int32 := (gd ((f_X12_in v1 (0 : Int32) ((O.1 447 0) - (1 : Int32))) = 0 ∨ (f_X12_in v1 (0 : Int32) ((O.1 447 0) - (1 : Int32))) = 1) (some (f_X12_in v1 (0 : Int32) ((O.1 447 0) - (1 : Int32)))))
theorem cf_X12_isOne : CF yX12_isOne cX12_isOne 2 (Option.some Jvm.ClassFile.FieldType.boolean) 1 := ⟨kc_X12_isOne, kj_X12, ⟨by decide +kernel, by decide +kernel, by decide +kernel⟩, by decide⟩
theorem cv_X12_isOne : CFv yX12_isOne := ⟨ki_X12_isOne, ks_X12_isOne⟩
set_option maxHeartbeats 4000000 in
set_option maxRecDepth 100000 in
theorem c_X12_isOne (l : Launch) (G : GT) (v1 : Int32) (C : CM) (O : OM) (res : Int32) (h : f_X12_isOne v1 O = some res) : MI l G yX12_isOne cX12_isOne 2 (Option.some Jvm.ClassFile.FieldType.boolean) (2) [.ref (gB G + 446), .int v1] (C, O) res (C, O) := by
  unfold MI
  refine met_in RX12 (by decide +kernel) rfl [(0, .ref (gB G + 446)), (1, .int v1)] rfl (Nat.le_of_ble_eq_true rfl) ?_
  intro pM eM sM mM aM bM meM cM K hr
  rw [f_X12_isOne] at h
  refine go_iload_n K dX12_isOne_0 1 rfl rfl ?_
  refine go_iconst (v := (0 : Int32)) K dX12_isOne_1 (by decide) ?_
  refine go_aload_n K dX12_isOne_2 0 rfl rfl ?_
  refine gf_X12 K 0 (by decide) kf_X12_7 (v := .ref (gB G + 447)) rfl dX12_isOne_3 ?_
  refine go_iconst (v := (0 : Int32)) K dX12_isOne_6 (by decide) ?_
  refine go_mald K (Nat.le_of_ble_eq_true rfl) sh_447 (in_k (k := 0) (by decide) (by decide)) rfl dX12_isOne_7 ?_
  refine go_iconst (v := (1 : Int32)) K dX12_isOne_8 (by decide) ?_
  refine go_isub K dX12_isOne_9 ?_
  refine go_cSI K (c_X12_in l G _ _ _ _ _ _ rfl) cf_X12_in kt_X12_in km_X12_107 (by decide) rfl rfl (Nat.le_of_ble_eq_true rfl) dX12_isOne_10 ?_
  obtain ⟨g1, h⟩ := gd_e h
  exact go_zret K hr (narrow_z g1) (Option.some.inj h) rfl dX12_isOne_13
noncomputable def f_X12_areTwo (v1 : Int32) (v2 : Int32) (O : OM) : Option Int32 := (bnd (f_X12_isOne v1 O) (fun r1 => (if r1 = 0 then (some (0 : Int32)) else (bnd (f_X12_isOne v2 O) (fun r3 => (if r3 = 0 then (some (0 : Int32)) else (if v1 = v2 then (some (0 : Int32)) else (some (1 : Int32)))))))))
theorem cf_X12_areTwo : CF yX12_areTwo cX12_areTwo 3 (Option.some Jvm.ClassFile.FieldType.boolean) 2 := ⟨kc_X12_areTwo, kj_X12, ⟨by decide +kernel, by decide +kernel, by decide +kernel⟩, by decide⟩
theorem cv_X12_areTwo : CFv yX12_areTwo := ⟨ki_X12_areTwo, ks_X12_areTwo⟩
set_option maxHeartbeats 4000000 in
set_option maxRecDepth 100000 in
theorem c_X12_areTwo (l : Launch) (G : GT) (v1 : Int32) (v2 : Int32) (C : CM) (O : OM) (res : Int32) (h : f_X12_areTwo v1 v2 O = some res) : MI l G yX12_areTwo cX12_areTwo 3 (Option.some Jvm.ClassFile.FieldType.boolean) (3) [.ref (gB G + 446), .int v1, .int v2] (C, O) res (C, O) := by
  unfold MI
  refine met_in RX12 (by decide +kernel) rfl [(0, .ref (gB G + 446)), (1, .int v1), (2, .int v2)] rfl (Nat.le_of_ble_eq_true rfl) ?_
  intro pM eM sM mM aM bM meM cM K hr
  rw [f_X12_areTwo] at h
  refine go_aload_n K dX12_areTwo_0 0 rfl rfl ?_
  refine go_iload_n K dX12_areTwo_1 1 rfl rfl ?_
  obtain ⟨r1, e1, h⟩ := bnd_e h
  refine go_cVI K (c_X12_isOne l G _ _ _ _ e1) cf_X12_isOne cv_X12_isOne km_X12_111 rv_X12 (by decide) rfl rfl (Nat.le_of_ble_eq_true rfl) dX12_areTwo_2 ?_
  refine go_if_eq (tgt := 25) K dX12_areTwo_5 (by decide) (fun c2 => ?_) (fun c2 => ?_)
  · replace h := ite_t h c2
    refine go_iconst (v := (0 : Int32)) K dX12_areTwo_25 (by decide) ?_
    exact go_zret K hr (by decide) (Option.some.inj h) rfl dX12_areTwo_26
  replace h := ite_f h c2
  refine go_aload_n K dX12_areTwo_8 0 rfl rfl ?_
  refine go_iload_n K dX12_areTwo_9 2 rfl rfl ?_
  obtain ⟨r3, e3, h⟩ := bnd_e h
  refine go_cVI K (c_X12_isOne l G _ _ _ _ e3) cf_X12_isOne cv_X12_isOne km_X12_111 rv_X12 (by decide) rfl rfl (Nat.le_of_ble_eq_true rfl) dX12_areTwo_10 ?_
  refine go_if_eq (tgt := 25) K dX12_areTwo_13 (by decide) (fun c4 => ?_) (fun c4 => ?_)
  · replace h := ite_t h c4
    refine go_iconst (v := (0 : Int32)) K dX12_areTwo_25 (by decide) ?_
    exact go_zret K hr (by decide) (Option.some.inj h) rfl dX12_areTwo_26
  replace h := ite_f h c4
  refine go_iload_n K dX12_areTwo_16 1 rfl rfl ?_
  refine go_iload_n K dX12_areTwo_17 2 rfl rfl ?_
  refine go_icmp_eq (tgt := 25) K dX12_areTwo_18 (by decide) (fun c5 => ?_) (fun c5 => ?_)
  · replace h := ite_t h c5
    refine go_iconst (v := (0 : Int32)) K dX12_areTwo_25 (by decide) ?_
    exact go_zret K hr (by decide) (Option.some.inj h) rfl dX12_areTwo_26
  replace h := ite_f h c5
  refine go_iconst (v := (1 : Int32)) K dX12_areTwo_21 (by decide) ?_
  refine go_goto (tgt := 26) K dX12_areTwo_22 (by decide) ?_
  exact go_zret K hr (by decide) (Option.some.inj h) rfl dX12_areTwo_26
noncomputable def X12_tells_l12 : Nat → Int32 → Int32 → Int32 → OM → Option OM
  | 0, _, _, _, _ => none
  | n + 1, v1, v2, v3, O => (if (O.1 447 3) ≤ v3 then (some O) else (gd (inb (((210 : Int32) + ((164 : Int32) * v3)) + v1) 5130) (X12_tells_l12 n v1 v2 (v3 + (1 : Int32)) (oup O 447 (((210 : Int32) + ((164 : Int32) * v3)) + v1).toNatClampNeg v2))))
noncomputable def f_X12_tells (v1 : Int32) (v2 : Int32) (O : OM) : Option OM := (gd (inb ((40 : Int32) + v1) 5130) (X12_tells_l12 FU v1 v2 (0 : Int32) (oup O 447 ((40 : Int32) + v1).toNatClampNeg v2)))
theorem cf_X12_tells : CF yX12_tells cX12_tells 4 (Option.none : Option Jvm.ClassFile.FieldType) 2 := ⟨kc_X12_tells, kj_X12, ⟨by decide +kernel, by decide +kernel, by decide +kernel⟩, by decide⟩
theorem cv_X12_tells : CFv yX12_tells := ⟨ki_X12_tells, ks_X12_tells⟩
set_option maxHeartbeats 4000000 in
set_option maxRecDepth 100000 in
theorem c_X12_tells (l : Launch) (G : GT) (v1 : Int32) (v2 : Int32) (C : CM) (O : OM) (O' : OM) (h : f_X12_tells v1 v2 O = some O') : MV l G yX12_tells cX12_tells 4 (Option.none : Option Jvm.ClassFile.FieldType) (1) [.ref (gB G + 446), .int v1, .int v2] (C, O) (C, O') := by
  unfold MV
  refine met_in RX12 (by decide +kernel) rfl [(0, .ref (gB G + 446)), (1, .int v1), (2, .int v2)] rfl (Nat.le_of_ble_eq_true rfl) ?_
  intro pM eM sM mM aM bM meM cM K hr
  have hl12 : ∀ (n12 : Nat) (v1 : Int32) (v2 : Int32) (v3 : Int32) (O : OM), X12_tells_l12 n12 v1 v2 v3 O = some O' → GO pM l eM (1) sM mM aM bM meM cM (MQ bM (va_Qv (fun (u : CM × OM) => u = (C, O')) (wB G) (Fr G)) aM sM 0 0 (Fr G)) G 4 (C, O) 12 [(0, .ref (gB G + 446)), (1, .int v1), (2, .int v2), (3, .int v3)] [] := by
    intro n12
    induction n12 with
    | zero =>
      intro v1 v2 v3 O h
      rw [X12_tells_l12] at h
      cases h
    | succ n12 ih12 =>
      intro v1 v2 v3 O h
      rw [X12_tells_l12] at h
      refine go_iload_n K dX12_tells_12 3 rfl rfl ?_
      refine go_aload_n K dX12_tells_13 0 rfl rfl ?_
      refine gf_X12 K 0 (by decide) kf_X12_7 (v := .ref (gB G + 447)) rfl dX12_tells_14 ?_
      refine go_iconst (v := (3 : Int32)) K dX12_tells_17 (by decide) ?_
      refine go_mald K (Nat.le_of_ble_eq_true rfl) sh_447 (in_k (k := 3) (by decide) (by decide)) rfl dX12_tells_18 ?_
      refine go_icmp_ge (tgt := 45) K dX12_tells_19 (by decide) (fun c2 => ?_) (fun c2 => ?_)
      · replace h := ite_t h c2
        exact go_vret K hr (congrArg (fun z => (C, z)) (Option.some.inj h)) dX12_tells_45
      replace h := ite_f h c2
      refine go_aload_n K dX12_tells_22 0 rfl rfl ?_
      refine gf_X12 K 0 (by decide) kf_X12_7 (v := .ref (gB G + 447)) rfl dX12_tells_23 ?_
      refine go_sipush (v := (210 : Int32)) K dX12_tells_26 (by decide) ?_
      refine go_sipush (v := (164 : Int32)) K dX12_tells_29 (by decide) ?_
      refine go_iload_n K dX12_tells_32 3 rfl rfl ?_
      refine go_imul K dX12_tells_33 ?_
      refine go_iadd K dX12_tells_34 ?_
      refine go_iload_n K dX12_tells_35 1 rfl rfl ?_
      refine go_iadd K dX12_tells_36 ?_
      refine go_iload_n K dX12_tells_37 2 rfl rfl ?_
      obtain ⟨g3, h⟩ := gd_e h
      refine go_mast K (Nat.le_of_ble_eq_true rfl) sh_447 g3 rfl dX12_tells_38 ?_
      refine go_iinc K dX12_tells_39 3 rfl (v := (v3 + (1 : Int32))) rfl (by decide) (lv' := [(3, .int (v3 + (1 : Int32))), (0, .ref (gB G + 446)), (1, .int v1), (2, .int v2)]) rfl ?_
      refine go_goto (tgt := 12) K dX12_tells_42 (by decide) ?_
      exact go_sub [1, 2, 3, 0] rfl (ih12 _ _ _ _ h)
  rw [f_X12_tells] at h
  refine go_aload_n K dX12_tells_0 0 rfl rfl ?_
  refine gf_X12 K 0 (by decide) kf_X12_7 (v := .ref (gB G + 447)) rfl dX12_tells_1 ?_
  refine go_bipush (v := (40 : Int32)) K dX12_tells_4 (by decide) ?_
  refine go_iload_n K dX12_tells_6 1 rfl rfl ?_
  refine go_iadd K dX12_tells_7 ?_
  refine go_iload_n K dX12_tells_8 2 rfl rfl ?_
  obtain ⟨g1, h⟩ := gd_e h
  refine go_mast K (Nat.le_of_ble_eq_true rfl) sh_447 g1 rfl dX12_tells_9 ?_
  refine go_iconst (v := (0 : Int32)) K dX12_tells_10 (by decide) ?_
  refine go_istore_n K dX12_tells_11 rfl (by decide) (lv' := [(3, .int (0 : Int32)), (0, .ref (gB G + 446)), (1, .int v1), (2, .int v2)]) rfl ?_
  exact go_sub [1, 2, 3, 0] rfl (hl12 FU _ _ _ _ h)
noncomputable def f_X12_person (v1 : Int32) (v2 : Int32) (v3 : Int32) (O : OM) : Option (Int32 × OM) := (if (f_X12_in v1 (0 : Int32) (99 : Int32)) = 0 then (some ((-1 : Int32), O)) else (if (f_X12_in v2 (0 : Int32) (99 : Int32)) = 0 then (some ((-1 : Int32), O)) else (if (f_X12_in v3 (0 : Int32) (7 : Int32)) = 0 then (some ((-1 : Int32), O)) else (if (O.1 447 0) = (7 : Int32) then (some ((-1 : Int32), O)) else (gd (inb ((10 : Int32) + (O.1 447 0)) 5130) (gd (inb ((17 : Int32) + (O.1 447 0)) 5130) (bnd (f_X12_tells ((0 : Int32) + (O.1 447 0)) v2 (oup (oup O 447 ((10 : Int32) + (O.1 447 0)).toNatClampNeg v1) 447 ((17 : Int32) + (O.1 447 0)).toNatClampNeg v2)) (fun O7 => (bnd (f_X12_tells ((7 : Int32) + (O.1 447 0)) v3 O7) (fun O8 => (some ((O.1 447 0), (oup O8 447 0 ((O8.1 447 0) + (1 : Int32)))))))))))))))
theorem cf_X12_person : CF yX12_person cX12_person 5 (Option.some Jvm.ClassFile.FieldType.int) 3 := ⟨kc_X12_person, kj_X12, ⟨by decide +kernel, by decide +kernel, by decide +kernel⟩, by decide⟩
theorem cv_X12_person : CFv yX12_person := ⟨ki_X12_person, ks_X12_person⟩
set_option maxHeartbeats 4000000 in
set_option maxRecDepth 100000 in
theorem c_X12_person (l : Launch) (G : GT) (v1 : Int32) (v2 : Int32) (v3 : Int32) (C : CM) (O : OM) (res : Int32) (O' : OM) (h : f_X12_person v1 v2 v3 O = some (res, O')) : MI l G yX12_person cX12_person 5 (Option.some Jvm.ClassFile.FieldType.int) (2) [.ref (gB G + 446), .int v1, .int v2, .int v3] (C, O) res (C, O') := by
  unfold MI
  refine met_in RX12 (by decide +kernel) rfl [(0, .ref (gB G + 446)), (1, .int v1), (2, .int v2), (3, .int v3)] rfl (Nat.le_of_ble_eq_true rfl) ?_
  intro pM eM sM mM aM bM meM cM K hr
  rw [f_X12_person] at h
  refine go_aload_n K dX12_person_0 0 rfl rfl ?_
  refine gf_X12 K 0 (by decide) kf_X12_7 (v := .ref (gB G + 447)) rfl dX12_person_1 ?_
  refine go_iconst (v := (0 : Int32)) K dX12_person_4 (by decide) ?_
  refine go_mald K (Nat.le_of_ble_eq_true rfl) sh_447 (in_k (k := 0) (by decide) (by decide)) rfl dX12_person_5 ?_
  refine go_istore K dX12_person_6 (by decide) (lv' := [(4, .int (O.1 447 0)), (0, .ref (gB G + 446)), (1, .int v1), (2, .int v2), (3, .int v3)]) rfl ?_
  refine go_iload_n K dX12_person_8 2 rfl rfl ?_
  refine go_iconst (v := (0 : Int32)) K dX12_person_9 (by decide) ?_
  refine go_bipush (v := (99 : Int32)) K dX12_person_10 (by decide) ?_
  refine go_cSI K (c_X12_in l G _ _ _ _ _ _ rfl) cf_X12_in kt_X12_in km_X12_107 (by decide) rfl rfl (Nat.le_of_ble_eq_true rfl) dX12_person_12 ?_
  refine go_if_eq (tgt := 45) K dX12_person_15 (by decide) (fun c1 => ?_) (fun c1 => ?_)
  · replace h := ite_t h c1
    refine go_iconst (v := (-1 : Int32)) K dX12_person_45 (by decide) ?_
    exact go_iret K hr (Prod.mk.inj (Option.some.inj h)).1 (congrArg (fun z => (C, z)) (Prod.mk.inj (Option.some.inj h)).2) dX12_person_46
  replace h := ite_f h c1
  refine go_iload_n K dX12_person_18 3 rfl rfl ?_
  refine go_iconst (v := (0 : Int32)) K dX12_person_19 (by decide) ?_
  refine go_bipush (v := (99 : Int32)) K dX12_person_20 (by decide) ?_
  refine go_cSI K (c_X12_in l G _ _ _ _ _ _ rfl) cf_X12_in kt_X12_in km_X12_107 (by decide) rfl rfl (Nat.le_of_ble_eq_true rfl) dX12_person_22 ?_
  refine go_if_eq (tgt := 45) K dX12_person_25 (by decide) (fun c2 => ?_) (fun c2 => ?_)
  · replace h := ite_t h c2
    refine go_iconst (v := (-1 : Int32)) K dX12_person_45 (by decide) ?_
    exact go_iret K hr (Prod.mk.inj (Option.some.inj h)).1 (congrArg (fun z => (C, z)) (Prod.mk.inj (Option.some.inj h)).2) dX12_person_46
  replace h := ite_f h c2
  refine go_iload_n K dX12_person_28 4 rfl rfl ?_
  refine go_iconst (v := (0 : Int32)) K dX12_person_29 (by decide) ?_
  refine go_bipush (v := (7 : Int32)) K dX12_person_30 (by decide) ?_
  refine go_cSI K (c_X12_in l G _ _ _ _ _ _ rfl) cf_X12_in kt_X12_in km_X12_107 (by decide) rfl rfl (Nat.le_of_ble_eq_true rfl) dX12_person_32 ?_
  refine go_if_eq (tgt := 45) K dX12_person_35 (by decide) (fun c3 => ?_) (fun c3 => ?_)
  · replace h := ite_t h c3
    refine go_iconst (v := (-1 : Int32)) K dX12_person_45 (by decide) ?_
    exact go_iret K hr (Prod.mk.inj (Option.some.inj h)).1 (congrArg (fun z => (C, z)) (Prod.mk.inj (Option.some.inj h)).2) dX12_person_46
  replace h := ite_f h c3
  refine go_iload K dX12_person_38 0 rfl ?_
  refine go_bipush (v := (7 : Int32)) K dX12_person_40 (by decide) ?_
  refine go_icmp_ne (tgt := 47) K dX12_person_42 (by decide) (fun c4 => ?_) (fun c4 => ?_)
  rotate_left
  · replace h := ite_t h c4
    refine go_iconst (v := (-1 : Int32)) K dX12_person_45 (by decide) ?_
    exact go_iret K hr (Prod.mk.inj (Option.some.inj h)).1 (congrArg (fun z => (C, z)) (Prod.mk.inj (Option.some.inj h)).2) dX12_person_46
  replace h := ite_f h c4
  refine go_aload_n K dX12_person_47 1 rfl rfl ?_
  refine gf_X12 K 0 (by decide) kf_X12_7 (v := .ref (gB G + 447)) rfl dX12_person_48 ?_
  refine go_bipush (v := (10 : Int32)) K dX12_person_51 (by decide) ?_
  refine go_iload K dX12_person_53 0 rfl ?_
  refine go_iadd K dX12_person_55 ?_
  refine go_iload_n K dX12_person_56 2 rfl rfl ?_
  obtain ⟨g5, h⟩ := gd_e h
  refine go_mast K (Nat.le_of_ble_eq_true rfl) sh_447 g5 rfl dX12_person_57 ?_
  refine go_aload_n K dX12_person_58 1 rfl rfl ?_
  refine gf_X12 K 0 (by decide) kf_X12_7 (v := .ref (gB G + 447)) rfl dX12_person_59 ?_
  refine go_bipush (v := (17 : Int32)) K dX12_person_62 (by decide) ?_
  refine go_iload K dX12_person_64 0 rfl ?_
  refine go_iadd K dX12_person_66 ?_
  refine go_iload_n K dX12_person_67 3 rfl rfl ?_
  obtain ⟨g6, h⟩ := gd_e h
  refine go_mast K (Nat.le_of_ble_eq_true rfl) sh_447 g6 rfl dX12_person_68 ?_
  refine go_aload_n K dX12_person_69 1 rfl rfl ?_
  refine go_iconst (v := (0 : Int32)) K dX12_person_70 (by decide) ?_
  refine go_iload K dX12_person_71 0 rfl ?_
  refine go_iadd K dX12_person_73 ?_
  refine go_iload_n K dX12_person_74 3 rfl rfl ?_
  obtain ⟨O7, e7, h⟩ := bnd_e h
  refine go_cVV K (c_X12_tells l G _ _ _ _ _ e7) cf_X12_tells cv_X12_tells km_X12_115 rv_X12 (by decide) rfl rfl (Nat.le_of_ble_eq_true rfl) dX12_person_75 ?_
  refine go_aload_n K dX12_person_78 1 rfl rfl ?_
  refine go_bipush (v := (7 : Int32)) K dX12_person_79 (by decide) ?_
  refine go_iload K dX12_person_81 0 rfl ?_
  refine go_iadd K dX12_person_83 ?_
  refine go_iload_n K dX12_person_84 4 rfl rfl ?_
  obtain ⟨O8, e8, h⟩ := bnd_e h
  refine go_cVV K (c_X12_tells l G _ _ _ _ _ e8) cf_X12_tells cv_X12_tells km_X12_115 rv_X12 (by decide) rfl rfl (Nat.le_of_ble_eq_true rfl) dX12_person_85 ?_
  refine go_aload_n K dX12_person_88 1 rfl rfl ?_
  refine gf_X12 K 0 (by decide) kf_X12_7 (v := .ref (gB G + 447)) rfl dX12_person_89 ?_
  refine go_iconst (v := (0 : Int32)) K dX12_person_92 (by decide) ?_
  refine go_dup2 K dX12_person_93 rfl rfl ?_
  refine go_mald K (Nat.le_of_ble_eq_true rfl) sh_447 (in_k (k := 0) (by decide) (by decide)) rfl dX12_person_94 ?_
  refine go_iconst (v := (1 : Int32)) K dX12_person_95 (by decide) ?_
  refine go_iadd K dX12_person_96 ?_
  refine go_mast K (Nat.le_of_ble_eq_true rfl) sh_447 (in_k (k := 0) (by decide) (by decide)) rfl dX12_person_97 ?_
  refine go_iload K dX12_person_98 0 rfl ?_
  exact go_iret K hr (Prod.mk.inj (Option.some.inj h)).1 (congrArg (fun z => (C, z)) (Prod.mk.inj (Option.some.inj h)).2) dX12_person_100
noncomputable def X12_keepsStep_j97 (O : OM) : Option OM := (some (oup O 447 3 ((O.1 447 3) + (1 : Int32))))
noncomputable def X12_keepsStep_l54 (k97 : OM → Option OM) : Nat → Int32 → OM → Option OM
  | 0, _, _ => none
  | n + 1, v1, O => (if (164 : Int32) ≤ v1 then (k97 O) else (gd (inb ((40 : Int32) + v1) 5130) (gd (inb (((210 : Int32) + ((164 : Int32) * (O.1 447 3))) + v1) 5130) (X12_keepsStep_l54 k97 n (v1 + (1 : Int32)) (oup O 447 (((210 : Int32) + ((164 : Int32) * (O.1 447 3))) + v1).toNatClampNeg (O.1 447 ((40 : Int32) + v1).toNatClampNeg))))))
noncomputable def X12_keepsStep_j52 (O : OM) : Option OM := (X12_keepsStep_l54 (fun O => (X12_keepsStep_j97 O)) FU (0 : Int32) O)
noncomputable def X12_keepsStep_j44 (O : OM) : Option OM := (X12_keepsStep_j52 (oup O 447 3 (29 : Int32)))
noncomputable def X12_keepsStep_l15 (k44 : OM → Option OM) : Nat → Int32 → OM → Option OM
  | 0, _, _ => none
  | n + 1, v1, O => (if (4966 : Int32) ≤ v1 then (k44 O) else (gd (inb (v1 + (164 : Int32)) 5130) (gd (inb v1 5130) (X12_keepsStep_l15 k44 n (v1 + (1 : Int32)) (oup O 447 v1.toNatClampNeg (O.1 447 (v1 + (164 : Int32)).toNatClampNeg))))))
noncomputable def f_X12_keepsStep (O : OM) : Option OM := (if (O.1 447 3) = (30 : Int32) then (X12_keepsStep_l15 (fun O => (X12_keepsStep_j44 O)) FU (210 : Int32) O) else (X12_keepsStep_j52 O))
theorem cf_X12_keepsStep : CF yX12_keepsStep cX12_keepsStep 2 (Option.none : Option Jvm.ClassFile.FieldType) 0 := ⟨kc_X12_keepsStep, kj_X12, ⟨by decide +kernel, by decide +kernel, by decide +kernel⟩, by decide⟩
theorem cv_X12_keepsStep : CFv yX12_keepsStep := ⟨ki_X12_keepsStep, ks_X12_keepsStep⟩
set_option maxHeartbeats 4000000 in
set_option maxRecDepth 100000 in
theorem c_X12_keepsStep (l : Launch) (G : GT) (C : CM) (O : OM) (O' : OM) (h : f_X12_keepsStep O = some O') : MV l G yX12_keepsStep cX12_keepsStep 2 (Option.none : Option Jvm.ClassFile.FieldType) (1) [.ref (gB G + 446)] (C, O) (C, O') := by
  unfold MV
  refine met_in RX12 (by decide +kernel) rfl [(0, .ref (gB G + 446))] rfl (Nat.le_of_ble_eq_true rfl) ?_
  intro pM eM sM mM aM bM meM cM K hr
  have hj97 : ∀ (O : OM), X12_keepsStep_j97 O = some O' → GO pM l eM (1) sM mM aM bM meM cM (MQ bM (va_Qv (fun (u : CM × OM) => u = (C, O')) (wB G) (Fr G)) aM sM 0 0 (Fr G)) G 2 (C, O) 97 [(0, .ref (gB G + 446))] [] := by
    intro O h
    rw [X12_keepsStep_j97] at h
    refine go_aload_n K dX12_keepsStep_97 0 rfl rfl ?_
    refine gf_X12 K 0 (by decide) kf_X12_7 (v := .ref (gB G + 447)) rfl dX12_keepsStep_98 ?_
    refine go_iconst (v := (3 : Int32)) K dX12_keepsStep_101 (by decide) ?_
    refine go_dup2 K dX12_keepsStep_102 rfl rfl ?_
    refine go_mald K (Nat.le_of_ble_eq_true rfl) sh_447 (in_k (k := 3) (by decide) (by decide)) rfl dX12_keepsStep_103 ?_
    refine go_iconst (v := (1 : Int32)) K dX12_keepsStep_104 (by decide) ?_
    refine go_iadd K dX12_keepsStep_105 ?_
    refine go_mast K (Nat.le_of_ble_eq_true rfl) sh_447 (in_k (k := 3) (by decide) (by decide)) rfl dX12_keepsStep_106 ?_
    exact go_vret K hr (congrArg (fun z => (C, z)) (Option.some.inj h)) dX12_keepsStep_107
  have hl54 : ∀ (n54 : Nat) (v1 : Int32) (O : OM), X12_keepsStep_l54 (fun O => (X12_keepsStep_j97 O)) n54 v1 O = some O' → GO pM l eM (1) sM mM aM bM meM cM (MQ bM (va_Qv (fun (u : CM × OM) => u = (C, O')) (wB G) (Fr G)) aM sM 0 0 (Fr G)) G 2 (C, O) 54 [(0, .ref (gB G + 446)), (1, .int v1)] [] := by
    intro n54
    induction n54 with
    | zero =>
      intro v1 O h
      rw [X12_keepsStep_l54] at h
      cases h
    | succ n54 ih54 =>
      intro v1 O h
      rw [X12_keepsStep_l54] at h
      refine go_iload_n K dX12_keepsStep_54 1 rfl rfl ?_
      refine go_sipush (v := (164 : Int32)) K dX12_keepsStep_55 (by decide) ?_
      refine go_icmp_ge (tgt := 97) K dX12_keepsStep_58 (by decide) (fun c2 => ?_) (fun c2 => ?_)
      · replace h := ite_t h c2
        exact go_sub [0] rfl (hj97 _ h)
      replace h := ite_f h c2
      refine go_aload_n K dX12_keepsStep_61 0 rfl rfl ?_
      refine gf_X12 K 0 (by decide) kf_X12_7 (v := .ref (gB G + 447)) rfl dX12_keepsStep_62 ?_
      refine go_sipush (v := (210 : Int32)) K dX12_keepsStep_65 (by decide) ?_
      refine go_sipush (v := (164 : Int32)) K dX12_keepsStep_68 (by decide) ?_
      refine go_aload_n K dX12_keepsStep_71 0 rfl rfl ?_
      refine gf_X12 K 0 (by decide) kf_X12_7 (v := .ref (gB G + 447)) rfl dX12_keepsStep_72 ?_
      refine go_iconst (v := (3 : Int32)) K dX12_keepsStep_75 (by decide) ?_
      refine go_mald K (Nat.le_of_ble_eq_true rfl) sh_447 (in_k (k := 3) (by decide) (by decide)) rfl dX12_keepsStep_76 ?_
      refine go_imul K dX12_keepsStep_77 ?_
      refine go_iadd K dX12_keepsStep_78 ?_
      refine go_iload_n K dX12_keepsStep_79 1 rfl rfl ?_
      refine go_iadd K dX12_keepsStep_80 ?_
      refine go_aload_n K dX12_keepsStep_81 0 rfl rfl ?_
      refine gf_X12 K 0 (by decide) kf_X12_7 (v := .ref (gB G + 447)) rfl dX12_keepsStep_82 ?_
      refine go_bipush (v := (40 : Int32)) K dX12_keepsStep_85 (by decide) ?_
      refine go_iload_n K dX12_keepsStep_87 1 rfl rfl ?_
      refine go_iadd K dX12_keepsStep_88 ?_
      obtain ⟨g3, h⟩ := gd_e h
      refine go_mald K (Nat.le_of_ble_eq_true rfl) sh_447 g3 rfl dX12_keepsStep_89 ?_
      obtain ⟨g4, h⟩ := gd_e h
      refine go_mast K (Nat.le_of_ble_eq_true rfl) sh_447 g4 rfl dX12_keepsStep_90 ?_
      refine go_iinc K dX12_keepsStep_91 1 rfl (v := (v1 + (1 : Int32))) rfl (by decide) (lv' := [(1, .int (v1 + (1 : Int32))), (0, .ref (gB G + 446))]) rfl ?_
      refine go_goto (tgt := 54) K dX12_keepsStep_94 (by decide) ?_
      exact go_sub [1, 0] rfl (ih54 _ _ h)
  have hj52 : ∀ (O : OM), X12_keepsStep_j52 O = some O' → GO pM l eM (1) sM mM aM bM meM cM (MQ bM (va_Qv (fun (u : CM × OM) => u = (C, O')) (wB G) (Fr G)) aM sM 0 0 (Fr G)) G 2 (C, O) 52 [(0, .ref (gB G + 446))] [] := by
    intro O h
    rw [X12_keepsStep_j52] at h
    refine go_iconst (v := (0 : Int32)) K dX12_keepsStep_52 (by decide) ?_
    refine go_istore_n K dX12_keepsStep_53 rfl (by decide) (lv' := [(1, .int (0 : Int32)), (0, .ref (gB G + 446))]) rfl ?_
    exact go_sub [1, 0] rfl (hl54 FU _ _ h)
  have hj44 : ∀ (O : OM), X12_keepsStep_j44 O = some O' → GO pM l eM (1) sM mM aM bM meM cM (MQ bM (va_Qv (fun (u : CM × OM) => u = (C, O')) (wB G) (Fr G)) aM sM 0 0 (Fr G)) G 2 (C, O) 44 [(0, .ref (gB G + 446))] [] := by
    intro O h
    rw [X12_keepsStep_j44] at h
    refine go_aload_n K dX12_keepsStep_44 0 rfl rfl ?_
    refine gf_X12 K 0 (by decide) kf_X12_7 (v := .ref (gB G + 447)) rfl dX12_keepsStep_45 ?_
    refine go_iconst (v := (3 : Int32)) K dX12_keepsStep_48 (by decide) ?_
    refine go_bipush (v := (29 : Int32)) K dX12_keepsStep_49 (by decide) ?_
    refine go_mast K (Nat.le_of_ble_eq_true rfl) sh_447 (in_k (k := 3) (by decide) (by decide)) rfl dX12_keepsStep_51 ?_
    exact hj52 _ h
  have hl15 : ∀ (n15 : Nat) (v1 : Int32) (O : OM), X12_keepsStep_l15 (fun O => (X12_keepsStep_j44 O)) n15 v1 O = some O' → GO pM l eM (1) sM mM aM bM meM cM (MQ bM (va_Qv (fun (u : CM × OM) => u = (C, O')) (wB G) (Fr G)) aM sM 0 0 (Fr G)) G 2 (C, O) 15 [(0, .ref (gB G + 446)), (1, .int v1)] [] := by
    intro n15
    induction n15 with
    | zero =>
      intro v1 O h
      rw [X12_keepsStep_l15] at h
      cases h
    | succ n15 ih15 =>
      intro v1 O h
      rw [X12_keepsStep_l15] at h
      refine go_iload_n K dX12_keepsStep_15 1 rfl rfl ?_
      refine go_sipush (v := (4966 : Int32)) K dX12_keepsStep_16 (by decide) ?_
      refine go_icmp_ge (tgt := 44) K dX12_keepsStep_19 (by decide) (fun c5 => ?_) (fun c5 => ?_)
      · replace h := ite_t h c5
        exact go_sub [0] rfl (hj44 _ h)
      replace h := ite_f h c5
      refine go_aload_n K dX12_keepsStep_22 0 rfl rfl ?_
      refine gf_X12 K 0 (by decide) kf_X12_7 (v := .ref (gB G + 447)) rfl dX12_keepsStep_23 ?_
      refine go_iload_n K dX12_keepsStep_26 1 rfl rfl ?_
      refine go_aload_n K dX12_keepsStep_27 0 rfl rfl ?_
      refine gf_X12 K 0 (by decide) kf_X12_7 (v := .ref (gB G + 447)) rfl dX12_keepsStep_28 ?_
      refine go_iload_n K dX12_keepsStep_31 1 rfl rfl ?_
      refine go_sipush (v := (164 : Int32)) K dX12_keepsStep_32 (by decide) ?_
      refine go_iadd K dX12_keepsStep_35 ?_
      obtain ⟨g6, h⟩ := gd_e h
      refine go_mald K (Nat.le_of_ble_eq_true rfl) sh_447 g6 rfl dX12_keepsStep_36 ?_
      obtain ⟨g7, h⟩ := gd_e h
      refine go_mast K (Nat.le_of_ble_eq_true rfl) sh_447 g7 rfl dX12_keepsStep_37 ?_
      refine go_iinc K dX12_keepsStep_38 1 rfl (v := (v1 + (1 : Int32))) rfl (by decide) (lv' := [(1, .int (v1 + (1 : Int32))), (0, .ref (gB G + 446))]) rfl ?_
      refine go_goto (tgt := 15) K dX12_keepsStep_41 (by decide) ?_
      exact go_sub [1, 0] rfl (ih15 _ _ h)
  rw [f_X12_keepsStep] at h
  refine go_aload_n K dX12_keepsStep_0 0 rfl rfl ?_
  refine gf_X12 K 0 (by decide) kf_X12_7 (v := .ref (gB G + 447)) rfl dX12_keepsStep_1 ?_
  refine go_iconst (v := (3 : Int32)) K dX12_keepsStep_4 (by decide) ?_
  refine go_mald K (Nat.le_of_ble_eq_true rfl) sh_447 (in_k (k := 3) (by decide) (by decide)) rfl dX12_keepsStep_5 ?_
  refine go_bipush (v := (30 : Int32)) K dX12_keepsStep_6 (by decide) ?_
  refine go_icmp_ne (tgt := 52) K dX12_keepsStep_8 (by decide) (fun c1 => ?_) (fun c1 => ?_)
  · replace h := ite_f h c1
    exact hj52 _ h
  replace h := ite_t h c1
  refine go_sipush (v := (210 : Int32)) K dX12_keepsStep_11 (by decide) ?_
  refine go_istore_n K dX12_keepsStep_14 rfl (by decide) (lv' := [(1, .int (210 : Int32)), (0, .ref (gB G + 446))]) rfl ?_
  exact go_sub [1, 0] rfl (hl15 FU _ _ h)
noncomputable def X12_undo_j66 (O : OM) : Option (Int32 × OM) := (some ((O.1 447 3), O))
noncomputable def X12_undo_l23 (k66 : OM → Option (Int32 × OM)) : Nat → Int32 → OM → Option (Int32 × OM)
  | 0, _, _ => none
  | n + 1, v1, O => (if (164 : Int32) ≤ v1 then (k66 O) else (gd (inb (((210 : Int32) + ((164 : Int32) * (O.1 447 3))) + v1) 5130) (gd (inb ((40 : Int32) + v1) 5130) (X12_undo_l23 k66 n (v1 + (1 : Int32)) (oup O 447 ((40 : Int32) + v1).toNatClampNeg (O.1 447 (((210 : Int32) + ((164 : Int32) * (O.1 447 3))) + v1).toNatClampNeg))))))
noncomputable def f_X12_undo (O : OM) : Option (Int32 × OM) := (if (O.1 447 3) = 0 then (some ((-1 : Int32), O)) else (X12_undo_l23 (fun O => (X12_undo_j66 O)) FU (0 : Int32) (oup O 447 3 ((O.1 447 3) - (1 : Int32)))))
theorem cf_X12_undo : CF yX12_undo cX12_undo 2 (Option.some Jvm.ClassFile.FieldType.int) 0 := ⟨kc_X12_undo, kj_X12, ⟨by decide +kernel, by decide +kernel, by decide +kernel⟩, by decide⟩
theorem cv_X12_undo : CFv yX12_undo := ⟨ki_X12_undo, ks_X12_undo⟩
set_option maxHeartbeats 4000000 in
set_option maxRecDepth 100000 in
theorem c_X12_undo (l : Launch) (G : GT) (C : CM) (O : OM) (res : Int32) (O' : OM) (h : f_X12_undo O = some (res, O')) : MI l G yX12_undo cX12_undo 2 (Option.some Jvm.ClassFile.FieldType.int) (1) [.ref (gB G + 446)] (C, O) res (C, O') := by
  unfold MI
  refine met_in RX12 (by decide +kernel) rfl [(0, .ref (gB G + 446))] rfl (Nat.le_of_ble_eq_true rfl) ?_
  intro pM eM sM mM aM bM meM cM K hr
  have hj66 : ∀ (O : OM), X12_undo_j66 O = some (res, O') → GO pM l eM (1) sM mM aM bM meM cM (MQ bM (va_Qi (fun (r' : Int32) (u : CM × OM) => r' = res ∧ u = (C, O')) (wB G) (Fr G)) aM sM 0 0 (Fr G)) G 2 (C, O) 66 [(0, .ref (gB G + 446))] [] := by
    intro O h
    rw [X12_undo_j66] at h
    refine go_aload_n K dX12_undo_66 0 rfl rfl ?_
    refine gf_X12 K 0 (by decide) kf_X12_7 (v := .ref (gB G + 447)) rfl dX12_undo_67 ?_
    refine go_iconst (v := (3 : Int32)) K dX12_undo_70 (by decide) ?_
    refine go_mald K (Nat.le_of_ble_eq_true rfl) sh_447 (in_k (k := 3) (by decide) (by decide)) rfl dX12_undo_71 ?_
    exact go_iret K hr (Prod.mk.inj (Option.some.inj h)).1 (congrArg (fun z => (C, z)) (Prod.mk.inj (Option.some.inj h)).2) dX12_undo_72
  have hl23 : ∀ (n23 : Nat) (v1 : Int32) (O : OM), X12_undo_l23 (fun O => (X12_undo_j66 O)) n23 v1 O = some (res, O') → GO pM l eM (1) sM mM aM bM meM cM (MQ bM (va_Qi (fun (r' : Int32) (u : CM × OM) => r' = res ∧ u = (C, O')) (wB G) (Fr G)) aM sM 0 0 (Fr G)) G 2 (C, O) 23 [(0, .ref (gB G + 446)), (1, .int v1)] [] := by
    intro n23
    induction n23 with
    | zero =>
      intro v1 O h
      rw [X12_undo_l23] at h
      cases h
    | succ n23 ih23 =>
      intro v1 O h
      rw [X12_undo_l23] at h
      refine go_iload_n K dX12_undo_23 1 rfl rfl ?_
      refine go_sipush (v := (164 : Int32)) K dX12_undo_24 (by decide) ?_
      refine go_icmp_ge (tgt := 66) K dX12_undo_27 (by decide) (fun c2 => ?_) (fun c2 => ?_)
      · replace h := ite_t h c2
        exact go_sub [0] rfl (hj66 _ h)
      replace h := ite_f h c2
      refine go_aload_n K dX12_undo_30 0 rfl rfl ?_
      refine gf_X12 K 0 (by decide) kf_X12_7 (v := .ref (gB G + 447)) rfl dX12_undo_31 ?_
      refine go_bipush (v := (40 : Int32)) K dX12_undo_34 (by decide) ?_
      refine go_iload_n K dX12_undo_36 1 rfl rfl ?_
      refine go_iadd K dX12_undo_37 ?_
      refine go_aload_n K dX12_undo_38 0 rfl rfl ?_
      refine gf_X12 K 0 (by decide) kf_X12_7 (v := .ref (gB G + 447)) rfl dX12_undo_39 ?_
      refine go_sipush (v := (210 : Int32)) K dX12_undo_42 (by decide) ?_
      refine go_sipush (v := (164 : Int32)) K dX12_undo_45 (by decide) ?_
      refine go_aload_n K dX12_undo_48 0 rfl rfl ?_
      refine gf_X12 K 0 (by decide) kf_X12_7 (v := .ref (gB G + 447)) rfl dX12_undo_49 ?_
      refine go_iconst (v := (3 : Int32)) K dX12_undo_52 (by decide) ?_
      refine go_mald K (Nat.le_of_ble_eq_true rfl) sh_447 (in_k (k := 3) (by decide) (by decide)) rfl dX12_undo_53 ?_
      refine go_imul K dX12_undo_54 ?_
      refine go_iadd K dX12_undo_55 ?_
      refine go_iload_n K dX12_undo_56 1 rfl rfl ?_
      refine go_iadd K dX12_undo_57 ?_
      obtain ⟨g3, h⟩ := gd_e h
      refine go_mald K (Nat.le_of_ble_eq_true rfl) sh_447 g3 rfl dX12_undo_58 ?_
      obtain ⟨g4, h⟩ := gd_e h
      refine go_mast K (Nat.le_of_ble_eq_true rfl) sh_447 g4 rfl dX12_undo_59 ?_
      refine go_iinc K dX12_undo_60 1 rfl (v := (v1 + (1 : Int32))) rfl (by decide) (lv' := [(1, .int (v1 + (1 : Int32))), (0, .ref (gB G + 446))]) rfl ?_
      refine go_goto (tgt := 23) K dX12_undo_63 (by decide) ?_
      exact go_sub [1, 0] rfl (ih23 _ _ h)
  rw [f_X12_undo] at h
  refine go_aload_n K dX12_undo_0 0 rfl rfl ?_
  refine gf_X12 K 0 (by decide) kf_X12_7 (v := .ref (gB G + 447)) rfl dX12_undo_1 ?_
  refine go_iconst (v := (3 : Int32)) K dX12_undo_4 (by decide) ?_
  refine go_mald K (Nat.le_of_ble_eq_true rfl) sh_447 (in_k (k := 3) (by decide) (by decide)) rfl dX12_undo_5 ?_
  refine go_if_ne (tgt := 11) K dX12_undo_6 (by decide) (fun c1 => ?_) (fun c1 => ?_)
  rotate_left
  · replace h := ite_t h c1
    refine go_iconst (v := (-1 : Int32)) K dX12_undo_9 (by decide) ?_
    exact go_iret K hr (Prod.mk.inj (Option.some.inj h)).1 (congrArg (fun z => (C, z)) (Prod.mk.inj (Option.some.inj h)).2) dX12_undo_10
  replace h := ite_f h c1
  refine go_aload_n K dX12_undo_11 0 rfl rfl ?_
  refine gf_X12 K 0 (by decide) kf_X12_7 (v := .ref (gB G + 447)) rfl dX12_undo_12 ?_
  refine go_iconst (v := (3 : Int32)) K dX12_undo_15 (by decide) ?_
  refine go_dup2 K dX12_undo_16 rfl rfl ?_
  refine go_mald K (Nat.le_of_ble_eq_true rfl) sh_447 (in_k (k := 3) (by decide) (by decide)) rfl dX12_undo_17 ?_
  refine go_iconst (v := (1 : Int32)) K dX12_undo_18 (by decide) ?_
  refine go_isub K dX12_undo_19 ?_
  refine go_mast K (Nat.le_of_ble_eq_true rfl) sh_447 (in_k (k := 3) (by decide) (by decide)) rfl dX12_undo_20 ?_
  refine go_iconst (v := (0 : Int32)) K dX12_undo_21 (by decide) ?_
  refine go_istore_n K dX12_undo_22 rfl (by decide) (lv' := [(1, .int (0 : Int32)), (0, .ref (gB G + 446))]) rfl ?_
  exact go_sub [1, 0] rfl (hl23 FU _ _ h)
