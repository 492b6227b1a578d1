noncomputable def X12_explainedWith_j56 (rc : Int32 → Int32 → Int32 → Int32 → OM → Option Int32) (v1 : Int32) (v2 : Int32) (v4 : Int32) (t0 : Int32) (t1 : Int32) (O : OM) : Option Int32 := (rc v1 v2 (t1 + t0) (v4 + (1 : Int32)) O)
noncomputable def X12_explainedWith_j55 (rc : Int32 → Int32 → Int32 → Int32 → OM → Option Int32) (v1 : Int32) (v2 : Int32) (v4 : Int32) (t0 : Int32) (O : OM) : Option Int32 := (X12_explainedWith_j56 rc v1 v2 v4 (0 : Int32) t0 O)
noncomputable def X12_explainedWith_j42 (rc : Int32 → Int32 → Int32 → Int32 → OM → Option Int32) (v1 : Int32) (v2 : Int32) (v4 : Int32) (t0 : Int32) (O : OM) : Option Int32 := (bnd (f_X12_explains v4 O) (fun r5 => (if r5 = 0 then (X12_explainedWith_j55 rc v1 v2 v4 t0 O) else (X12_explainedWith_j56 rc v1 v2 v4 (1 : Int32) t0 O))))
noncomputable def X12_explainedWith_l19 : Nat → Int32 → Int32 → Int32 → Int32 → OM → Option Int32
  | 0, _, _, _, _, _ => none
  | n + 1, v1, v2, v3, v4, O => (if ((1 : Int32) <<< (v2 &&& 31)) ≤ v4 then (some v3) else (if v1 = (-1 : Int32) then (X12_explainedWith_j42 (fun v1 v2 v3 v4 O => X12_explainedWith_l19 n v1 v2 v3 v4 O) v1 v2 v4 v3 O) else (if (f_X12_has v4 v1) = 0 then (X12_explainedWith_j55 (fun v1 v2 v3 v4 O => X12_explainedWith_l19 n v1 v2 v3 v4 O) v1 v2 v4 v3 O) else (X12_explainedWith_j42 (fun v1 v2 v3 v4 O => X12_explainedWith_l19 n v1 v2 v3 v4 O) v1 v2 v4 v3 O))))
noncomputable def f_X12_explainedWith (v1 : Int32) (O : OM) : Option Int32 := (bnd (f_X12_few O) (fun r1 => (bnd (f_X12_few O) (fun r2 => (X12_explainedWith_l19 FU v1 ((r1 * (r2 - (1 : Int32))) / (2 : Int32)) (0 : Int32) (0 : Int32) O)))))
theorem cf_X12_explainedWith : CF yX12_explainedWith cX12_explainedWith 5 (Option.some Jvm.ClassFile.FieldType.int) 1 := ⟨kc_X12_explainedWith, kj_X12, ⟨by decide +kernel, by decide +kernel, by decide +kernel⟩, by decide⟩
theorem cv_X12_explainedWith : CFv yX12_explainedWith := ⟨ki_X12_explainedWith, ks_X12_explainedWith⟩
set_option maxHeartbeats 4000000 in
set_option maxRecDepth 100000 in
theorem c_X12_explainedWith (l : Launch) (G : GT) (v1 : Int32) (C : CM) (O : OM) (res : Int32) (h : f_X12_explainedWith v1 O = some res) : MI l G yX12_explainedWith cX12_explainedWith 5 (Option.some Jvm.ClassFile.FieldType.int) (3) [.ref (gB G + 446), .int v1] (C, O) res (C, O) := by
  unfold MI
  refine met_in RX12 (by decide +kernel) rfl [(0, .ref (gB G + 446)), (1, .int v1)] rfl (Nat.le_of_ble_eq_true rfl) ?_
  intro pM eM sM mM aM bM meM cM K hr
  have hl19 : ∀ (n19 : Nat) (v1 : Int32) (v2 : Int32) (v3 : Int32) (v4 : Int32), X12_explainedWith_l19 n19 v1 v2 v3 v4 O = some res → GO pM l eM (3) sM mM aM bM meM cM (MQ bM (va_Qi (fun (r' : Int32) (u : CM × OM) => r' = res ∧ u = (C, O)) (wB G) (Fr G)) aM sM 0 0 (Fr G)) G 5 (C, O) 19 [(0, .ref (gB G + 446)), (1, .int v1), (2, .int v2), (3, .int v3), (4, .int v4)] [] := by
    intro n19
    induction n19 with
    | zero =>
      intro v1 v2 v3 v4 h
      rw [X12_explainedWith_l19] at h
      cases h
    | succ n19 ih19 =>
      have hj56 : ∀ (v1 : Int32) (v2 : Int32) (v4 : Int32) (t0 : Int32) (t1 : Int32), X12_explainedWith_j56 (fun v1 v2 v3 v4 O => X12_explainedWith_l19 n19 v1 v2 v3 v4 O) v1 v2 v4 t0 t1 O = some res → GO pM l eM (3) sM mM aM bM meM cM (MQ bM (va_Qi (fun (r' : Int32) (u : CM × OM) => r' = res ∧ u = (C, O)) (wB G) (Fr G)) aM sM 0 0 (Fr G)) G 5 (C, O) 56 [(0, .ref (gB G + 446)), (1, .int v1), (2, .int v2), (4, .int v4)] [.int t0, .int t1] := by
        intro v1 v2 v4 t0 t1 h
        rw [X12_explainedWith_j56] at h
        refine go_iadd K dX12_explainedWith_56 ?_
        refine go_istore_n K dX12_explainedWith_57 rfl (by decide) (lv' := [(3, .int (t1 + t0)), (0, .ref (gB G + 446)), (1, .int v1), (2, .int v2), (4, .int v4)]) rfl ?_
        refine go_iinc K dX12_explainedWith_58 4 rfl (v := (v4 + (1 : Int32))) rfl (by decide) (lv' := [(4, .int (v4 + (1 : Int32))), (3, .int (t1 + t0)), (0, .ref (gB G + 446)), (1, .int v1), (2, .int v2)]) rfl ?_
        refine go_goto (tgt := 19) K dX12_explainedWith_61 (by decide) ?_
        exact go_sub [2, 3, 4, 1, 0] rfl (ih19 _ _ _ _ h)
      have hj55 : ∀ (v1 : Int32) (v2 : Int32) (v4 : Int32) (t0 : Int32), X12_explainedWith_j55 (fun v1 v2 v3 v4 O => X12_explainedWith_l19 n19 v1 v2 v3 v4 O) v1 v2 v4 t0 O = some res → GO pM l eM (3) sM mM aM bM meM cM (MQ bM (va_Qi (fun (r' : Int32) (u : CM × OM) => r' = res ∧ u = (C, O)) (wB G) (Fr G)) aM sM 0 0 (Fr G)) G 5 (C, O) 55 [(0, .ref (gB G + 446)), (1, .int v1), (2, .int v2), (4, .int v4)] [.int t0] := by
        intro v1 v2 v4 t0 h
        rw [X12_explainedWith_j55] at h
        refine go_iconst (v := (0 : Int32)) K dX12_explainedWith_55 (by decide) ?_
        exact hj56 _ _ _ _ _ h
      have hj42 : ∀ (v1 : Int32) (v2 : Int32) (v4 : Int32) (t0 : Int32), X12_explainedWith_j42 (fun v1 v2 v3 v4 O => X12_explainedWith_l19 n19 v1 v2 v3 v4 O) v1 v2 v4 t0 O = some res → GO pM l eM (3) sM mM aM bM meM cM (MQ bM (va_Qi (fun (r' : Int32) (u : CM × OM) => r' = res ∧ u = (C, O)) (wB G) (Fr G)) aM sM 0 0 (Fr G)) G 5 (C, O) 42 [(0, .ref (gB G + 446)), (1, .int v1), (2, .int v2), (4, .int v4)] [.int t0] := by
        intro v1 v2 v4 t0 h
        rw [X12_explainedWith_j42] at h
        refine go_aload_n K dX12_explainedWith_42 0 rfl rfl ?_
        refine go_iload K dX12_explainedWith_43 3 rfl ?_
        obtain ⟨r5, e5, h⟩ := bnd_e h
        refine go_cVI K (c_X12_explains l G _ _ _ _ e5) cf_X12_explains cv_X12_explains km_X12_488 rv_X12 (by decide) rfl rfl (Nat.le_of_ble_eq_true rfl) dX12_explainedWith_45 ?_
        refine go_if_eq (tgt := 55) K dX12_explainedWith_48 (by decide) (fun c6 => ?_) (fun c6 => ?_)
        · replace h := ite_t h c6
          exact hj55 _ _ _ _ h
        replace h := ite_f h c6
        refine go_iconst (v := (1 : Int32)) K dX12_explainedWith_51 (by decide) ?_
        refine go_goto (tgt := 56) K dX12_explainedWith_52 (by decide) ?_
        exact hj56 _ _ _ _ _ h
      intro v1 v2 v3 v4 h
      rw [X12_explainedWith_l19] at h
      refine go_iload K dX12_explainedWith_19 4 rfl ?_
      refine go_iconst (v := (1 : Int32)) K dX12_explainedWith_21 (by decide) ?_
      refine go_iload_n K dX12_explainedWith_22 2 rfl rfl ?_
      refine go_ishl K dX12_explainedWith_23 ?_
      refine go_icmp_ge (tgt := 64) K dX12_explainedWith_24 (by decide) (fun c3 => ?_) (fun c3 => ?_)
      · replace h := ite_t h c3
        refine go_iload_n K dX12_explainedWith_64 3 rfl rfl ?_
        exact go_iret K hr (Option.some.inj h) rfl dX12_explainedWith_65
      replace h := ite_f h c3
      refine go_iload_n K dX12_explainedWith_27 3 rfl rfl ?_
      refine go_iload_n K dX12_explainedWith_28 1 rfl rfl ?_
      refine go_iconst (v := (-1 : Int32)) K dX12_explainedWith_29 (by decide) ?_
      refine go_icmp_eq (tgt := 42) K dX12_explainedWith_30 (by decide) (fun c4 => ?_) (fun c4 => ?_)
      · replace h := ite_t h c4
        exact go_sub [0, 1, 2, 4] rfl (hj42 _ _ _ _ h)
      replace h := ite_f h c4
      refine go_iload K dX12_explainedWith_33 4 rfl ?_
      refine go_iload_n K dX12_explainedWith_35 1 rfl rfl ?_
      refine go_cSI K (c_X12_has l G _ _ _ _ _ rfl) cf_X12_has kt_X12_has km_X12_469 (by decide) rfl rfl (Nat.le_of_ble_eq_true rfl) dX12_explainedWith_36 ?_
      refine go_if_eq (tgt := 55) K dX12_explainedWith_39 (by decide) (fun c7 => ?_) (fun c7 => ?_)
      · replace h := ite_t h c7
        exact go_sub [0, 1, 2, 4] rfl (hj55 _ _ _ _ h)
      replace h := ite_f h c7
      exact go_sub [0, 1, 2, 4] rfl (hj42 _ _ _ _ h)
  rw [f_X12_explainedWith] at h
  refine go_aload_n K dX12_explainedWith_0 0 rfl rfl ?_
  obtain ⟨r1, e1, h⟩ := bnd_e h
  refine go_cVI K (c_X12_few l G _ _ _ e1) cf_X12_few cv_X12_few km_X12_482 rv_X12 (by decide) rfl rfl (Nat.le_of_ble_eq_true rfl) dX12_explainedWith_1 ?_
  refine go_aload_n K dX12_explainedWith_4 0 rfl rfl ?_
  obtain ⟨r2, e2, h⟩ := bnd_e h
  refine go_cVI K (c_X12_few l G _ _ _ e2) cf_X12_few cv_X12_few km_X12_482 rv_X12 (by decide) rfl rfl (Nat.le_of_ble_eq_true rfl) dX12_explainedWith_5 ?_
  refine go_iconst (v := (1 : Int32)) K dX12_explainedWith_8 (by decide) ?_
  refine go_isub K dX12_explainedWith_9 ?_
  refine go_imul K dX12_explainedWith_10 ?_
  refine go_iconst (v := (2 : Int32)) K dX12_explainedWith_11 (by decide) ?_
  refine go_idiv K dX12_explainedWith_12 (by decide) ?_
  refine go_istore_n K dX12_explainedWith_13 rfl (by decide) (lv' := [(2, .int ((r1 * (r2 - (1 : Int32))) / (2 : Int32))), (0, .ref (gB G + 446)), (1, .int v1)]) rfl ?_
  refine go_iconst (v := (0 : Int32)) K dX12_explainedWith_14 (by decide) ?_
  refine go_istore_n K dX12_explainedWith_15 rfl (by decide) (lv' := [(3, .int (0 : Int32)), (2, .int ((r1 * (r2 - (1 : Int32))) / (2 : Int32))), (0, .ref (gB G + 446)), (1, .int v1)]) rfl ?_
  refine go_iconst (v := (0 : Int32)) K dX12_explainedWith_16 (by decide) ?_
  refine go_istore K dX12_explainedWith_17 (by decide) (lv' := [(4, .int (0 : Int32)), (3, .int (0 : Int32)), (2, .int ((r1 * (r2 - (1 : Int32))) / (2 : Int32))), (0, .ref (gB G + 446)), (1, .int v1)]) rfl ?_
  exact go_sub [3, 4, 2, 1, 0] rfl (hl19 FU _ _ _ _ h)
noncomputable def f_X12_explained (O : OM) : Option Int32 := (bnd (f_X12_explainedWith (-1 : Int32) O) (fun r1 => (some r1)))
theorem cf_X12_explained : CF yX12_explained cX12_explained 1 (Option.some Jvm.ClassFile.FieldType.int) 0 := ⟨kc_X12_explained, kj_X12, ⟨by decide +kernel, by decide +kernel, by decide +kernel⟩, by decide⟩
theorem cv_X12_explained : CFv yX12_explained := ⟨ki_X12_explained, ks_X12_explained⟩
set_option maxHeartbeats 4000000 in
set_option maxRecDepth 100000 in
theorem c_X12_explained (l : Launch) (G : GT) (C : CM) (O : OM) (res : Int32) (h : f_X12_explained O = some res) : MI l G yX12_explained cX12_explained 1 (Option.some Jvm.ClassFile.FieldType.int) (4) [.ref (gB G + 446)] (C, O) res (C, O) := by
  unfold MI
  refine met_in RX12 (by decide +kernel) rfl [(0, .ref (gB G + 446))] rfl (Nat.le_of_ble_eq_true rfl) ?_
  intro pM eM sM mM aM bM meM cM K hr
  rw [f_X12_explained] at h
  refine go_aload_n K dX12_explained_0 0 rfl rfl ?_
  refine go_iconst (v := (-1 : Int32)) K dX12_explained_1 (by decide) ?_
  obtain ⟨r1, e1, h⟩ := bnd_e h
  refine go_cVI K (c_X12_explainedWith l G _ _ _ _ e1) cf_X12_explainedWith cv_X12_explainedWith km_X12_491 rv_X12 (by decide) rfl rfl (Nat.le_of_ble_eq_true rfl) dX12_explained_2 ?_
  exact go_iret K hr (Option.some.inj h) rfl dX12_explained_5
noncomputable def f_X12_sure (v1 : Int32) (v2 : Int32) (O : OM) : Option Int32 := (bnd (f_X12_few O) (fun r1 => (if (f_X12_in v1 (0 : Int32) (r1 - (1 : Int32))) = 0 then (some (-1 : Int32)) else (bnd (f_X12_few O) (fun r3 => (if (f_X12_in v2 (0 : Int32) (r3 - (1 : Int32))) = 0 then (some (-1 : Int32)) else (if v1 = v2 then (some (-1 : Int32)) else (bnd (f_X12_explainedWith (-1 : Int32) O) (fun r6 => (bnd (f_X12_explainedWith (f_X12_twoOf v1 v2) O) (fun r7 => (if r6 = 0 then (some (-1 : Int32)) else (if r7 = r6 then (some (1 : Int32)) else (if r7 = 0 then (some (0 : Int32)) else (some (-1 : Int32))))))))))))))))
theorem cf_X12_sure : CF yX12_sure cX12_sure 5 (Option.some Jvm.ClassFile.FieldType.int) 2 := ⟨kc_X12_sure, kj_X12, ⟨by decide +kernel, by decide +kernel, by decide +kernel⟩, by decide⟩
theorem cv_X12_sure : CFv yX12_sure := ⟨ki_X12_sure, ks_X12_sure⟩
set_option maxHeartbeats 4000000 in
set_option maxRecDepth 100000 in
theorem c_X12_sure (l : Launch) (G : GT) (v1 : Int32) (v2 : Int32) (C : CM) (O : OM) (res : Int32) (h : f_X12_sure v1 v2 O = some res) : MI l G yX12_sure cX12_sure 5 (Option.some Jvm.ClassFile.FieldType.int) (4) [.ref (gB G + 446), .int v1, .int v2] (C, O) res (C, O) := by
  unfold MI
  refine met_in RX12 (by decide +kernel) rfl [(0, .ref (gB G + 446)), (1, .int v1), (2, .int v2)] rfl (Nat.le_of_ble_eq_true rfl) ?_
  intro pM eM sM mM aM bM meM cM K hr
  rw [f_X12_sure] at h
  refine go_iload_n K dX12_sure_0 1 rfl rfl ?_
  refine go_iconst (v := (0 : Int32)) K dX12_sure_1 (by decide) ?_
  refine go_aload_n K dX12_sure_2 0 rfl rfl ?_
  obtain ⟨r1, e1, h⟩ := bnd_e h
  refine go_cVI K (c_X12_few l G _ _ _ e1) cf_X12_few cv_X12_few km_X12_482 rv_X12 (by decide) rfl rfl (Nat.le_of_ble_eq_true rfl) dX12_sure_3 ?_
  refine go_iconst (v := (1 : Int32)) K dX12_sure_6 (by decide) ?_
  refine go_isub K dX12_sure_7 ?_
  refine go_cSI K (c_X12_in l G _ _ _ _ _ _ rfl) cf_X12_in kt_X12_in km_X12_107 (by decide) rfl rfl (Nat.le_of_ble_eq_true rfl) dX12_sure_8 ?_
  refine go_if_eq (tgt := 33) K dX12_sure_11 (by decide) (fun c2 => ?_) (fun c2 => ?_)
  · replace h := ite_t h c2
    refine go_iconst (v := (-1 : Int32)) K dX12_sure_33 (by decide) ?_
    exact go_iret K hr (Option.some.inj h) rfl dX12_sure_34
  replace h := ite_f h c2
  refine go_iload_n K dX12_sure_14 2 rfl rfl ?_
  refine go_iconst (v := (0 : Int32)) K dX12_sure_15 (by decide) ?_
  refine go_aload_n K dX12_sure_16 0 rfl rfl ?_
  obtain ⟨r3, e3, h⟩ := bnd_e h
  refine go_cVI K (c_X12_few l G _ _ _ e3) cf_X12_few cv_X12_few km_X12_482 rv_X12 (by decide) rfl rfl (Nat.le_of_ble_eq_true rfl) dX12_sure_17 ?_
  refine go_iconst (v := (1 : Int32)) K dX12_sure_20 (by decide) ?_
  refine go_isub K dX12_sure_21 ?_
  refine go_cSI K (c_X12_in l G _ _ _ _ _ _ rfl) cf_X12_in kt_X12_in km_X12_107 (by decide) rfl rfl (Nat.le_of_ble_eq_true rfl) dX12_sure_22 ?_
  refine go_if_eq (tgt := 33) K dX12_sure_25 (by decide) (fun c4 => ?_) (fun c4 => ?_)
  · replace h := ite_t h c4
    refine go_iconst (v := (-1 : Int32)) K dX12_sure_33 (by decide) ?_
    exact go_iret K hr (Option.some.inj h) rfl dX12_sure_34
  replace h := ite_f h c4
  refine go_iload_n K dX12_sure_28 1 rfl rfl ?_
  refine go_iload_n K dX12_sure_29 2 rfl rfl ?_
  refine go_icmp_ne (tgt := 35) K dX12_sure_30 (by decide) (fun c5 => ?_) (fun c5 => ?_)
  rotate_left
  · replace h := ite_t h c5
    refine go_iconst (v := (-1 : Int32)) K dX12_sure_33 (by decide) ?_
    exact go_iret K hr (Option.some.inj h) rfl dX12_sure_34
  replace h := ite_f h c5
  refine go_aload_n K dX12_sure_35 0 rfl rfl ?_
  refine go_iconst (v := (-1 : Int32)) K dX12_sure_36 (by decide) ?_
  obtain ⟨r6, e6, h⟩ := bnd_e h
  refine go_cVI K (c_X12_explainedWith l G _ _ _ _ e6) cf_X12_explainedWith cv_X12_explainedWith km_X12_491 rv_X12 (by decide) rfl rfl (Nat.le_of_ble_eq_true rfl) dX12_sure_37 ?_
  refine go_istore_n K dX12_sure_40 rfl (by decide) (lv' := [(3, .int r6), (0, .ref (gB G + 446)), (1, .int v1), (2, .int v2)]) rfl ?_
  refine go_aload_n K dX12_sure_41 1 rfl rfl ?_
  refine go_iload_n K dX12_sure_42 2 rfl rfl ?_
  refine go_iload_n K dX12_sure_43 3 rfl rfl ?_
  refine go_cSI K (c_X12_twoOf l G _ _ _ _ _ rfl) cf_X12_twoOf kt_X12_twoOf km_X12_485 (by decide) rfl rfl (Nat.le_of_ble_eq_true rfl) dX12_sure_44 ?_
  obtain ⟨r7, e7, h⟩ := bnd_e h
  refine go_cVI K (c_X12_explainedWith l G _ _ _ _ e7) cf_X12_explainedWith cv_X12_explainedWith km_X12_491 rv_X12 (by decide) rfl rfl (Nat.le_of_ble_eq_true rfl) dX12_sure_47 ?_
  refine go_istore K dX12_sure_50 (by decide) (lv' := [(4, .int r7), (3, .int r6), (0, .ref (gB G + 446)), (1, .int v1), (2, .int v2)]) rfl ?_
  refine go_iload_n K dX12_sure_52 1 rfl rfl ?_
  refine go_if_ne (tgt := 60) K dX12_sure_53 (by decide) (fun c8 => ?_) (fun c8 => ?_)
  rotate_left
  · replace h := ite_t h c8
    refine go_iconst (v := (-1 : Int32)) K dX12_sure_56 (by decide) ?_
    refine go_goto (tgt := 80) K dX12_sure_57 (by decide) ?_
    exact go_iret K hr (Option.some.inj h) rfl dX12_sure_80
  replace h := ite_f h c8
  refine go_iload K dX12_sure_60 0 rfl ?_
  refine go_iload_n K dX12_sure_62 1 rfl rfl ?_
  refine go_icmp_ne (tgt := 70) K dX12_sure_63 (by decide) (fun c9 => ?_) (fun c9 => ?_)
  rotate_left
  · replace h := ite_t h c9
    refine go_iconst (v := (1 : Int32)) K dX12_sure_66 (by decide) ?_
    refine go_goto (tgt := 80) K dX12_sure_67 (by decide) ?_
    exact go_iret K hr (Option.some.inj h) rfl dX12_sure_80
  replace h := ite_f h c9
  refine go_iload K dX12_sure_70 0 rfl ?_
  refine go_if_ne (tgt := 79) K dX12_sure_72 (by decide) (fun c10 => ?_) (fun c10 => ?_)
  · replace h := ite_f h c10
    refine go_iconst (v := (-1 : Int32)) K dX12_sure_79 (by decide) ?_
    exact go_iret K hr (Option.some.inj h) rfl dX12_sure_80
  replace h := ite_t h c10
  refine go_iconst (v := (0 : Int32)) K dX12_sure_75 (by decide) ?_
  refine go_goto (tgt := 80) K dX12_sure_76 (by decide) ?_
  exact go_iret K hr (Option.some.inj h) rfl dX12_sure_80
noncomputable def X12_corner_j93 (rc : Int32 → Int32 → Int32 → Int32 → OM → Option Int32) (v1 : Int32) (v2 : Int32) (v3 : Int32) (v4 : Int32) (O : OM) : Option Int32 := (rc v1 v2 v3 (v4 + (1 : Int32)) O)
noncomputable def X12_corner_j87 (rc : Int32 → Int32 → Int32 → Int32 → Int32 → OM → Option Int32) (k93 : Int32 → Int32 → Int32 → Int32 → OM → Option Int32) (v1 : Int32) (v2 : Int32) (v3 : Int32) (v4 : Int32) (v5 : Int32) (O : OM) : Option Int32 := (rc v1 v2 v3 v4 (v5 + (1 : Int32)) O)
noncomputable def X12_corner_j67 (rc : Int32 → Int32 → Int32 → Int32 → Int32 → OM → Option Int32) (k93 : Int32 → Int32 → Int32 → Int32 → OM → Option Int32) (v1 : Int32) (v2 : Int32) (v3 : Int32) (v4 : Int32) (v5 : Int32) (t0 : Int32) (O : OM) : Option Int32 := (if v3 ≤ t0 then (X12_corner_j87 rc k93 v1 v2 v3 v4 v5 O) else (X12_corner_j87 rc k93 v1 (((10 : Int32) * v4) + v5) t0 v4 v5 O))
noncomputable def X12_corner_l28 (k93 : Int32 → Int32 → Int32 → Int32 → OM → Option Int32) : Nat → Int32 → Int32 → Int32 → Int32 → Int32 → OM → Option Int32
  | 0, _, _, _, _, _, _ => none
  | n + 1, v1, v2, v3, v4, v5, O => (bnd (f_X12_few O) (fun r4 => (if r4 ≤ v5 then (k93 v1 v2 v3 v4 O) else (bnd (f_X12_explainedWith (f_X12_twoOf v4 v5) O) (fun r6 => (if 0 ≤ (((2 : Int32) * r6) - v1) then (X12_corner_j67 (fun v1 v2 v3 v4 v5 O => X12_corner_l28 k93 n v1 v2 v3 v4 v5 O) k93 v1 v2 v3 v4 v5 (((2 : Int32) * r6) - v1) O) else (X12_corner_j67 (fun v1 v2 v3 v4 v5 O => X12_corner_l28 k93 n v1 v2 v3 v4 v5 O) k93 v1 v2 v3 v4 v5 (-(((2 : Int32) * r6) - v1)) O)))))))
noncomputable def X12_corner_l13 : Nat → Int32 → Int32 → Int32 → Int32 → OM → Option Int32
  | 0, _, _, _, _, _ => none
  | n + 1, v1, v2, v3, v4, O => (bnd (f_X12_few O) (fun r2 => (if r2 ≤ v4 then (some v2) else (X12_corner_l28 (fun v1 v2 v3 v4 O => (X12_corner_j93 (fun v1 v2 v3 v4 O => X12_corner_l13 n v1 v2 v3 v4 O) v1 v2 v3 v4 O)) FU v1 v2 v3 v4 (v4 + (1 : Int32)) O))))
noncomputable def f_X12_corner (O : OM) : Option Int32 := (bnd (f_X12_explainedWith (-1 : Int32) O) (fun r1 => (X12_corner_l13 FU r1 (-1 : Int32) r1 (0 : Int32) O)))
theorem cf_X12_corner : CF yX12_corner cX12_corner 7 (Option.some Jvm.ClassFile.FieldType.int) 0 := ⟨kc_X12_corner, kj_X12, ⟨by decide +kernel, by decide +kernel, by decide +kernel⟩, by decide⟩
theorem cv_X12_corner : CFv yX12_corner := ⟨ki_X12_corner, ks_X12_corner⟩
set_option maxHeartbeats 4000000 in
set_option maxRecDepth 100000 in
theorem c_X12_corner (l : Launch) (G : GT) (C : CM) (O : OM) (res : Int32) (h : f_X12_corner O = some res) : MI l G yX12_corner cX12_corner 7 (Option.some Jvm.ClassFile.FieldType.int) (4) [.ref (gB G + 446)] (C, O) res (C, O) := by
  unfold MI
  refine met_in RX12 (by decide +kernel) rfl [(0, .ref (gB G + 446))] rfl (Nat.le_of_ble_eq_true rfl) ?_
  intro pM eM sM mM aM bM meM cM K hr
  have hl13 : ∀ (n13 : Nat) (v1 : Int32) (v2 : Int32) (v3 : Int32) (v4 : Int32), X12_corner_l13 n13 v1 v2 v3 v4 O = some res → GO pM l eM (4) sM mM aM bM meM cM (MQ bM (va_Qi (fun (r' : Int32) (u : CM × OM) => r' = res ∧ u = (C, O)) (wB G) (Fr G)) aM sM 0 0 (Fr G)) G 7 (C, O) 13 [(0, .ref (gB G + 446)), (1, .int v1), (2, .int v2), (3, .int v3), (4, .int v4)] [] := by
    intro n13
    induction n13 with
    | zero =>
      intro v1 v2 v3 v4 h
      rw [X12_corner_l13] at h
      cases h
    | succ n13 ih13 =>
      have hj93 : ∀ (v1 : Int32) (v2 : Int32) (v3 : Int32) (v4 : Int32), X12_corner_j93 (fun v1 v2 v3 v4 O => X12_corner_l13 n13 v1 v2 v3 v4 O) v1 v2 v3 v4 O = some res → GO pM l eM (4) sM mM aM bM meM cM (MQ bM (va_Qi (fun (r' : Int32) (u : CM × OM) => r' = res ∧ u = (C, O)) (wB G) (Fr G)) aM sM 0 0 (Fr G)) G 7 (C, O) 93 [(0, .ref (gB G + 446)), (1, .int v1), (2, .int v2), (3, .int v3), (4, .int v4)] [] := by
        intro v1 v2 v3 v4 h
        rw [X12_corner_j93] at h
        refine go_iinc K dX12_corner_93 4 rfl (v := (v4 + (1 : Int32))) rfl (by decide) (lv' := [(4, .int (v4 + (1 : Int32))), (0, .ref (gB G + 446)), (1, .int v1), (2, .int v2), (3, .int v3)]) rfl ?_
        refine go_goto (tgt := 13) K dX12_corner_96 (by decide) ?_
        exact go_sub [1, 2, 3, 4, 0] rfl (ih13 _ _ _ _ h)
      have hl28 : ∀ (n28 : Nat) (v1 : Int32) (v2 : Int32) (v3 : Int32) (v4 : Int32) (v5 : Int32), X12_corner_l28 (fun v1 v2 v3 v4 O => (X12_corner_j93 (fun v1 v2 v3 v4 O => X12_corner_l13 n13 v1 v2 v3 v4 O) v1 v2 v3 v4 O)) n28 v1 v2 v3 v4 v5 O = some res → GO pM l eM (4) sM mM aM bM meM cM (MQ bM (va_Qi (fun (r' : Int32) (u : CM × OM) => r' = res ∧ u = (C, O)) (wB G) (Fr G)) aM sM 0 0 (Fr G)) G 7 (C, O) 28 [(0, .ref (gB G + 446)), (1, .int v1), (2, .int v2), (3, .int v3), (4, .int v4), (5, .int v5)] [] := by
        intro n28
        induction n28 with
        | zero =>
          intro v1 v2 v3 v4 v5 h
          rw [X12_corner_l28] at h
          cases h
        | succ n28 ih28 =>
          have hj87 : ∀ (v1 : Int32) (v2 : Int32) (v3 : Int32) (v4 : Int32) (v5 : Int32), X12_corner_j87 (fun v1 v2 v3 v4 v5 O => X12_corner_l28 (fun v1 v2 v3 v4 O => (X12_corner_j93 (fun v1 v2 v3 v4 O => X12_corner_l13 n13 v1 v2 v3 v4 O) v1 v2 v3 v4 O)) n28 v1 v2 v3 v4 v5 O) (fun v1 v2 v3 v4 O => (X12_corner_j93 (fun v1 v2 v3 v4 O => X12_corner_l13 n13 v1 v2 v3 v4 O) v1 v2 v3 v4 O)) v1 v2 v3 v4 v5 O = some res → GO pM l eM (4) sM mM aM bM meM cM (MQ bM (va_Qi (fun (r' : Int32) (u : CM × OM) => r' = res ∧ u = (C, O)) (wB G) (Fr G)) aM sM 0 0 (Fr G)) G 7 (C, O) 87 [(0, .ref (gB G + 446)), (1, .int v1), (2, .int v2), (3, .int v3), (4, .int v4), (5, .int v5)] [] := by
            intro v1 v2 v3 v4 v5 h
            rw [X12_corner_j87] at h
            refine go_iinc K dX12_corner_87 5 rfl (v := (v5 + (1 : Int32))) rfl (by decide) (lv' := [(5, .int (v5 + (1 : Int32))), (0, .ref (gB G + 446)), (1, .int v1), (2, .int v2), (3, .int v3), (4, .int v4)]) rfl ?_
            refine go_goto (tgt := 28) K dX12_corner_90 (by decide) ?_
            exact go_sub [1, 2, 3, 4, 5, 0] rfl (ih28 _ _ _ _ _ h)
          have hj67 : ∀ (v1 : Int32) (v2 : Int32) (v3 : Int32) (v4 : Int32) (v5 : Int32) (t0 : Int32), X12_corner_j67 (fun v1 v2 v3 v4 v5 O => X12_corner_l28 (fun v1 v2 v3 v4 O => (X12_corner_j93 (fun v1 v2 v3 v4 O => X12_corner_l13 n13 v1 v2 v3 v4 O) v1 v2 v3 v4 O)) n28 v1 v2 v3 v4 v5 O) (fun v1 v2 v3 v4 O => (X12_corner_j93 (fun v1 v2 v3 v4 O => X12_corner_l13 n13 v1 v2 v3 v4 O) v1 v2 v3 v4 O)) v1 v2 v3 v4 v5 t0 O = some res → GO pM l eM (4) sM mM aM bM meM cM (MQ bM (va_Qi (fun (r' : Int32) (u : CM × OM) => r' = res ∧ u = (C, O)) (wB G) (Fr G)) aM sM 0 0 (Fr G)) G 7 (C, O) 67 [(0, .ref (gB G + 446)), (1, .int v1), (2, .int v2), (3, .int v3), (4, .int v4), (5, .int v5)] [.int t0] := by
            intro v1 v2 v3 v4 v5 t0 h
            rw [X12_corner_j67] at h
            refine go_istore K dX12_corner_67 (by decide) (lv' := [(6, .int t0), (0, .ref (gB G + 446)), (1, .int v1), (2, .int v2), (3, .int v3), (4, .int v4), (5, .int v5)]) rfl ?_
            refine go_iload K dX12_corner_69 0 rfl ?_
            refine go_iload_n K dX12_corner_71 4 rfl rfl ?_
            refine go_icmp_ge (tgt := 87) K dX12_corner_72 (by decide) (fun c8 => ?_) (fun c8 => ?_)
            · replace h := ite_t h c8
              exact go_sub [1, 2, 3, 4, 5, 6] rfl (hj87 _ _ _ _ _ h)
            replace h := ite_f h c8
            refine go_iload K dX12_corner_75 0 rfl ?_
            refine go_istore_n K dX12_corner_77 rfl (by decide) (lv' := [(3, .int t0), (6, .int t0), (0, .ref (gB G + 446)), (1, .int v1), (2, .int v2), (4, .int v4), (5, .int v5)]) rfl ?_
            refine go_bipush (v := (10 : Int32)) K dX12_corner_78 (by decide) ?_
            refine go_iload K dX12_corner_80 5 rfl ?_
            refine go_imul K dX12_corner_82 ?_
            refine go_iload K dX12_corner_83 6 rfl ?_
            refine go_iadd K dX12_corner_85 ?_
            refine go_istore_n K dX12_corner_86 rfl (by decide) (lv' := [(2, .int (((10 : Int32) * v4) + v5)), (3, .int t0), (6, .int t0), (0, .ref (gB G + 446)), (1, .int v1), (4, .int v4), (5, .int v5)]) rfl ?_
            exact go_sub [3, 4, 0, 1, 5, 6] rfl (hj87 _ _ _ _ _ h)
          intro v1 v2 v3 v4 v5 h
          rw [X12_corner_l28] at h
          refine go_iload K dX12_corner_28 5 rfl ?_
          refine go_aload_n K dX12_corner_30 0 rfl rfl ?_
          obtain ⟨r4, e4, h⟩ := bnd_e h
          refine go_cVI K (c_X12_few l G _ _ _ e4) cf_X12_few cv_X12_few km_X12_482 rv_X12 (by decide) rfl rfl (Nat.le_of_ble_eq_true rfl) dX12_corner_31 ?_
          refine go_icmp_ge (tgt := 93) K dX12_corner_34 (by decide) (fun c5 => ?_) (fun c5 => ?_)
          · replace h := ite_t h c5
            exact go_sub [0, 1, 2, 3, 4] rfl (hj93 _ _ _ _ h)
          replace h := ite_f h c5
          refine go_iconst (v := (2 : Int32)) K dX12_corner_37 (by decide) ?_
          refine go_aload_n K dX12_corner_38 0 rfl rfl ?_
          refine go_iload K dX12_corner_39 4 rfl ?_
          refine go_iload K dX12_corner_41 5 rfl ?_
          refine go_cSI K (c_X12_twoOf l G _ _ _ _ _ rfl) cf_X12_twoOf kt_X12_twoOf km_X12_485 (by decide) rfl rfl (Nat.le_of_ble_eq_true rfl) dX12_corner_43 ?_
          obtain ⟨r6, e6, h⟩ := bnd_e h
          refine go_cVI K (c_X12_explainedWith l G _ _ _ _ e6) cf_X12_explainedWith cv_X12_explainedWith km_X12_491 rv_X12 (by decide) rfl rfl (Nat.le_of_ble_eq_true rfl) dX12_corner_46 ?_
          refine go_imul K dX12_corner_49 ?_
          refine go_iload_n K dX12_corner_50 1 rfl rfl ?_
          refine go_isub K dX12_corner_51 ?_
          refine go_istore K dX12_corner_52 (by decide) (lv' := [(6, .int (((2 : Int32) * r6) - v1)), (0, .ref (gB G + 446)), (1, .int v1), (2, .int v2), (3, .int v3), (4, .int v4), (5, .int v5)]) rfl ?_
          refine go_iload K dX12_corner_54 0 rfl ?_
          refine go_if_ge (tgt := 65) K dX12_corner_56 (by decide) (fun c7 => ?_) (fun c7 => ?_)
          · replace h := ite_t h c7
            refine go_iload K dX12_corner_65 0 rfl ?_
            exact go_sub [1, 2, 3, 4, 5, 6] rfl (hj67 _ _ _ _ _ _ h)
          replace h := ite_f h c7
          refine go_iload K dX12_corner_59 0 rfl ?_
          refine go_ineg K dX12_corner_61 ?_
          refine go_goto (tgt := 67) K dX12_corner_62 (by decide) ?_
          exact go_sub [1, 2, 3, 4, 5, 6] rfl (hj67 _ _ _ _ _ _ h)
      intro v1 v2 v3 v4 h
      rw [X12_corner_l13] at h
      refine go_iload K dX12_corner_13 4 rfl ?_
      refine go_aload_n K dX12_corner_15 0 rfl rfl ?_
      obtain ⟨r2, e2, h⟩ := bnd_e h
      refine go_cVI K (c_X12_few l G _ _ _ e2) cf_X12_few cv_X12_few km_X12_482 rv_X12 (by decide) rfl rfl (Nat.le_of_ble_eq_true rfl) dX12_corner_16 ?_
      refine go_icmp_ge (tgt := 99) K dX12_corner_19 (by decide) (fun c3 => ?_) (fun c3 => ?_)
      · replace h := ite_t h c3
        refine go_iload_n K dX12_corner_99 2 rfl rfl ?_
        exact go_iret K hr (Option.some.inj h) rfl dX12_corner_100
      replace h := ite_f h c3
      refine go_iload K dX12_corner_22 4 rfl ?_
      refine go_iconst (v := (1 : Int32)) K dX12_corner_24 (by decide) ?_
      refine go_iadd K dX12_corner_25 ?_
      refine go_istore K dX12_corner_26 (by decide) (lv' := [(5, .int (v4 + (1 : Int32))), (0, .ref (gB G + 446)), (1, .int v1), (2, .int v2), (3, .int v3), (4, .int v4)]) rfl ?_
      exact go_sub [1, 2, 3, 4, 5, 0] rfl (hl28 FU _ _ _ _ _ h)
  rw [f_X12_corner] at h
  refine go_aload_n K dX12_corner_0 0 rfl rfl ?_
  refine go_iconst (v := (-1 : Int32)) K dX12_corner_1 (by decide) ?_
  obtain ⟨r1, e1, h⟩ := bnd_e h
  refine go_cVI K (c_X12_explainedWith l G _ _ _ _ e1) cf_X12_explainedWith cv_X12_explainedWith km_X12_491 rv_X12 (by decide) rfl rfl (Nat.le_of_ble_eq_true rfl) dX12_corner_2 ?_
  refine go_istore_n K dX12_corner_5 rfl (by decide) (lv' := [(1, .int r1), (0, .ref (gB G + 446))]) rfl ?_
  refine go_iconst (v := (-1 : Int32)) K dX12_corner_6 (by decide) ?_
  refine go_istore_n K dX12_corner_7 rfl (by decide) (lv' := [(2, .int (-1 : Int32)), (1, .int r1), (0, .ref (gB G + 446))]) rfl ?_
  refine go_iload_n K dX12_corner_8 1 rfl rfl ?_
  refine go_istore_n K dX12_corner_9 rfl (by decide) (lv' := [(3, .int r1), (2, .int (-1 : Int32)), (1, .int r1), (0, .ref (gB G + 446))]) rfl ?_
  refine go_iconst (v := (0 : Int32)) K dX12_corner_10 (by decide) ?_
  refine go_istore K dX12_corner_11 (by decide) (lv' := [(4, .int (0 : Int32)), (3, .int r1), (2, .int (-1 : Int32)), (1, .int r1), (0, .ref (gB G + 446))]) rfl ?_
  exact go_sub [4, 3, 2, 1, 0] rfl (hl13 FU _ _ _ _ h)
noncomputable def f_X12_image (O : OM) : Option (Int32 × OM) := (bnd (f_X12_copies (1 : Int32) O) (fun O1 => (some ((O1.1 447 110), O1))))
theorem cf_X12_image : CF yX12_image cX12_image 1 (Option.some Jvm.ClassFile.FieldType.int) 0 := ⟨kc_X12_image, kj_X12, ⟨by decide +kernel, by decide +kernel, by decide +kernel⟩, by decide⟩
theorem cv_X12_image : CFv yX12_image := ⟨ki_X12_image, ks_X12_image⟩
set_option maxHeartbeats 4000000 in
set_option maxRecDepth 100000 in
theorem c_X12_image (l : Launch) (G : GT) (C : CM) (O : OM) (res : Int32) (O' : OM) (h : f_X12_image O = some (res, O')) : MI l G yX12_image cX12_image 1 (Option.some Jvm.ClassFile.FieldType.int) (2) [.ref (gB G + 446)] (C, O) res (C, O') := by
  unfold MI
  refine met_in RX12 (by decide +kernel) rfl [(0, .ref (gB G + 446))] rfl (Nat.le_of_ble_eq_true rfl) ?_
  intro pM eM sM mM aM bM meM cM K hr
  rw [f_X12_image] at h
  refine go_aload_n K dX12_image_0 0 rfl rfl ?_
  refine go_iconst (v := (1 : Int32)) K dX12_image_1 (by decide) ?_
  obtain ⟨O1, e1, h⟩ := bnd_e h
  refine go_cVV K (c_X12_copies l G _ _ _ _ e1) cf_X12_copies cv_X12_copies km_X12_103 rv_X12 (by decide) rfl rfl (Nat.le_of_ble_eq_true rfl) dX12_image_2 ?_
  refine go_aload_n K dX12_image_5 0 rfl rfl ?_
  refine gf_X12 K 0 (by decide) kf_X12_7 (v := .ref (gB G + 447)) rfl dX12_image_6 ?_
  refine go_bipush (v := (110 : Int32)) K dX12_image_9 (by decide) ?_
  refine go_mald K (Nat.le_of_ble_eq_true rfl) sh_447 (in_k (k := 110) (by decide) (by decide)) rfl dX12_image_11 ?_
  exact go_iret K hr (Prod.mk.inj (Option.some.inj h)).1 (congrArg (fun z => (C, z)) (Prod.mk.inj (Option.some.inj h)).2) dX12_image_12
noncomputable def f_X12_back (O : OM) : Option (Int32 × OM) := (bnd (f_X12_copies (0 : Int32) O) (fun O1 => (some ((O1.1 447 110), O1))))
theorem cf_X12_back : CF yX12_back cX12_back 1 (Option.some Jvm.ClassFile.FieldType.int) 0 := ⟨kc_X12_back, kj_X12, ⟨by decide +kernel, by decide +kernel, by decide +kernel⟩, by decide⟩
theorem cv_X12_back : CFv yX12_back := ⟨ki_X12_back, ks_X12_back⟩
set_option maxHeartbeats 4000000 in
set_option maxRecDepth 100000 in
theorem c_X12_back (l : Launch) (G : GT) (C : CM) (O : OM) (res : Int32) (O' : OM) (h : f_X12_back O = some (res, O')) : MI l G yX12_back cX12_back 1 (Option.some Jvm.ClassFile.FieldType.int) (2) [.ref (gB G + 446)] (C, O) res (C, O') := by
  unfold MI
  refine met_in RX12 (by decide +kernel) rfl [(0, .ref (gB G + 446))] rfl (Nat.le_of_ble_eq_true rfl) ?_
  intro pM eM sM mM aM bM meM cM K hr
  rw [f_X12_back] at h
  refine go_aload_n K dX12_back_0 0 rfl rfl ?_
  refine go_iconst (v := (0 : Int32)) K dX12_back_1 (by decide) ?_
  obtain ⟨O1, e1, h⟩ := bnd_e h
  refine go_cVV K (c_X12_copies l G _ _ _ _ e1) cf_X12_copies cv_X12_copies km_X12_103 rv_X12 (by decide) rfl rfl (Nat.le_of_ble_eq_true rfl) dX12_back_2 ?_
  refine go_aload_n K dX12_back_5 0 rfl rfl ?_
  refine gf_X12 K 0 (by decide) kf_X12_7 (v := .ref (gB G + 447)) rfl dX12_back_6 ?_
  refine go_bipush (v := (110 : Int32)) K dX12_back_9 (by decide) ?_
  refine go_mald K (Nat.le_of_ble_eq_true rfl) sh_447 (in_k (k := 110) (by decide) (by decide)) rfl dX12_back_11 ?_
  exact go_iret K hr (Prod.mk.inj (Option.some.inj h)).1 (congrArg (fun z => (C, z)) (Prod.mk.inj (Option.some.inj h)).2) dX12_back_12
noncomputable def f_X12_about (v1 : Int32) (O : OM) : Option Int32 := (if v1 = (0 : Int32) then (some (O.1 447 0)) else (if v1 = (1 : Int32) then (some (O.1 447 110)) else (if v1 = (2 : Int32) then (some (O.1 447 111)) else (if v1 = (3 : Int32) then (some (O.1 447 112)) else (if v1 = (4 : Int32) then (some (O.1 447 1)) else (if v1 = (5 : Int32) then (some (O.1 447 2)) else (if v1 = (6 : Int32) then (some (O.1 447 3)) else (if v1 = (7 : Int32) then (some (O.1 446 3)) else (some (-2 : Int32))))))))))
theorem cf_X12_about : CF yX12_about cX12_about 2 (Option.some Jvm.ClassFile.FieldType.int) 1 := ⟨kc_X12_about, kj_X12, ⟨by decide +kernel, by decide +kernel, by decide +kernel⟩, by decide⟩
theorem cv_X12_about : CFv yX12_about := ⟨ki_X12_about, ks_X12_about⟩
set_option maxHeartbeats 4000000 in
set_option maxRecDepth 100000 in
theorem c_X12_about (l : Launch) (G : GT) (v1 : Int32) (C : CM) (O : OM) (res : Int32) (h : f_X12_about v1 O = some res) : MI l G yX12_about cX12_about 2 (Option.some Jvm.ClassFile.FieldType.int) (1) [.ref (gB G + 446), .int v1] (C, O) res (C, O) := by
  unfold MI
  refine met_in RX12 (by decide +kernel) rfl [(0, .ref (gB G + 446)), (1, .int v1)] rfl (Nat.le_of_ble_eq_true rfl) ?_
  intro pM eM sM mM aM bM meM cM K hr
  rw [f_X12_about] at h
  refine go_iload_n K dX12_about_0 1 rfl rfl ?_
  by_cases c1 : v1 = (0 : Int32)
  · refine go_tableIn K dX12_about_1 (by rw [c1]; decide) (by rw [c1]; decide) (off := 47) (by rw [c1]; decide) (tgt := 48) (by decide) ?_
    replace h := ite_t h c1
    refine go_aload_n K dX12_about_48 0 rfl rfl ?_
    refine gf_X12 K 0 (by decide) kf_X12_7 (v := .ref (gB G + 447)) rfl dX12_about_49 ?_
    refine go_iconst (v := (0 : Int32)) K dX12_about_52 (by decide) ?_
    refine go_mald K (Nat.le_of_ble_eq_true rfl) sh_447 (in_k (k := 0) (by decide) (by decide)) rfl dX12_about_53 ?_
    exact go_iret K hr (Option.some.inj h) rfl dX12_about_54
  replace h := ite_f h c1
  by_cases c2 : v1 = (1 : Int32)
  · refine go_tableIn K dX12_about_1 (by rw [c2]; decide) (by rw [c2]; decide) (off := 54) (by rw [c2]; decide) (tgt := 55) (by decide) ?_
    replace h := ite_t h c2
    refine go_aload_n K dX12_about_55 0 rfl rfl ?_
    refine gf_X12 K 0 (by decide) kf_X12_7 (v := .ref (gB G + 447)) rfl dX12_about_56 ?_
    refine go_bipush (v := (110 : Int32)) K dX12_about_59 (by decide) ?_
    refine go_mald K (Nat.le_of_ble_eq_true rfl) sh_447 (in_k (k := 110) (by decide) (by decide)) rfl dX12_about_61 ?_
    exact go_iret K hr (Option.some.inj h) rfl dX12_about_62
  replace h := ite_f h c2
  by_cases c3 : v1 = (2 : Int32)
  · refine go_tableIn K dX12_about_1 (by rw [c3]; decide) (by rw [c3]; decide) (off := 62) (by rw [c3]; decide) (tgt := 63) (by decide) ?_
    replace h := ite_t h c3
    refine go_aload_n K dX12_about_63 0 rfl rfl ?_
    refine gf_X12 K 0 (by decide) kf_X12_7 (v := .ref (gB G + 447)) rfl dX12_about_64 ?_
    refine go_bipush (v := (111 : Int32)) K dX12_about_67 (by decide) ?_
    refine go_mald K (Nat.le_of_ble_eq_true rfl) sh_447 (in_k (k := 111) (by decide) (by decide)) rfl dX12_about_69 ?_
    exact go_iret K hr (Option.some.inj h) rfl dX12_about_70
  replace h := ite_f h c3
  by_cases c4 : v1 = (3 : Int32)
  · refine go_tableIn K dX12_about_1 (by rw [c4]; decide) (by rw [c4]; decide) (off := 70) (by rw [c4]; decide) (tgt := 71) (by decide) ?_
    replace h := ite_t h c4
    refine go_aload_n K dX12_about_71 0 rfl rfl ?_
    refine gf_X12 K 0 (by decide) kf_X12_7 (v := .ref (gB G + 447)) rfl dX12_about_72 ?_
    refine go_bipush (v := (112 : Int32)) K dX12_about_75 (by decide) ?_
    refine go_mald K (Nat.le_of_ble_eq_true rfl) sh_447 (in_k (k := 112) (by decide) (by decide)) rfl dX12_about_77 ?_
    exact go_iret K hr (Option.some.inj h) rfl dX12_about_78
  replace h := ite_f h c4
  by_cases c5 : v1 = (4 : Int32)
  · refine go_tableIn K dX12_about_1 (by rw [c5]; decide) (by rw [c5]; decide) (off := 78) (by rw [c5]; decide) (tgt := 79) (by decide) ?_
    replace h := ite_t h c5
    refine go_aload_n K dX12_about_79 0 rfl rfl ?_
    refine gf_X12 K 0 (by decide) kf_X12_7 (v := .ref (gB G + 447)) rfl dX12_about_80 ?_
    refine go_iconst (v := (1 : Int32)) K dX12_about_83 (by decide) ?_
    refine go_mald K (Nat.le_of_ble_eq_true rfl) sh_447 (in_k (k := 1) (by decide) (by decide)) rfl dX12_about_84 ?_
    exact go_iret K hr (Option.some.inj h) rfl dX12_about_85
  replace h := ite_f h c5
  by_cases c6 : v1 = (5 : Int32)
  · refine go_tableIn K dX12_about_1 (by rw [c6]; decide) (by rw [c6]; decide) (off := 85) (by rw [c6]; decide) (tgt := 86) (by decide) ?_
    replace h := ite_t h c6
    refine go_aload_n K dX12_about_86 0 rfl rfl ?_
    refine gf_X12 K 0 (by decide) kf_X12_7 (v := .ref (gB G + 447)) rfl dX12_about_87 ?_
    refine go_iconst (v := (2 : Int32)) K dX12_about_90 (by decide) ?_
    refine go_mald K (Nat.le_of_ble_eq_true rfl) sh_447 (in_k (k := 2) (by decide) (by decide)) rfl dX12_about_91 ?_
    exact go_iret K hr (Option.some.inj h) rfl dX12_about_92
  replace h := ite_f h c6
  by_cases c7 : v1 = (6 : Int32)
  · refine go_tableIn K dX12_about_1 (by rw [c7]; decide) (by rw [c7]; decide) (off := 92) (by rw [c7]; decide) (tgt := 93) (by decide) ?_
    replace h := ite_t h c7
    refine go_aload_n K dX12_about_93 0 rfl rfl ?_
    refine gf_X12 K 0 (by decide) kf_X12_7 (v := .ref (gB G + 447)) rfl dX12_about_94 ?_
    refine go_iconst (v := (3 : Int32)) K dX12_about_97 (by decide) ?_
    refine go_mald K (Nat.le_of_ble_eq_true rfl) sh_447 (in_k (k := 3) (by decide) (by decide)) rfl dX12_about_98 ?_
    exact go_iret K hr (Option.some.inj h) rfl dX12_about_99
  replace h := ite_f h c7
  by_cases c8 : v1 = (7 : Int32)
  · refine go_tableIn K dX12_about_1 (by rw [c8]; decide) (by rw [c8]; decide) (off := 99) (by rw [c8]; decide) (tgt := 100) (by decide) ?_
    replace h := ite_t h c8
    refine go_aload_n K dX12_about_100 0 rfl rfl ?_
    refine gf_X12 K 3 (by decide) kf_X12_119 (v := .int (O.1 446 3)) rfl dX12_about_101 ?_
    exact go_iret K hr (Option.some.inj h) rfl dX12_about_104
  replace h := ite_f h c8
  have c1 := sw_ne c1 (k := 0) (by decide)
  have c2 := sw_ne c2 (k := 1) (by decide)
  have c3 := sw_ne c3 (k := 2) (by decide)
  have c4 := sw_ne c4 (k := 3) (by decide)
  have c5 := sw_ne c5 (k := 4) (by decide)
  have c6 := sw_ne c6 (k := 5) (by decide)
  have c7 := sw_ne c7 (k := 6) (by decide)
  have c8 := sw_ne c8 (k := 7) (by decide)
  refine go_tableOut (tgt := 105) K dX12_about_1 (show (v1).toInt < 0 ∨ 7 < (v1).toInt from by omega) (by decide) ?_
  refine go_bipush (v := (-2 : Int32)) K dX12_about_105 (by decide) ?_
  exact go_iret K hr (Option.some.inj h) rfl dX12_about_107
