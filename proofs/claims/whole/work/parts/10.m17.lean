noncomputable def X12_walk_j18 (v1 : Int32) (v2 : Int32) (O : OM) : Option (Int32 × OM) := (gd (inb ((54 : Int32) + v1) 5130) (if (O.1 447 ((54 : Int32) + v1).toNatClampNeg) ≤ 0 then (bnd (f_X12_keepsStep O) (fun O6 => (bnd (f_X12_laysNow O6) (fun O7 => (bnd (f_X12_walks v1 v2 O7) (fun O8 => (bnd (f_X12_keepsNow O8) (fun O9 => (gd (inb ((7 : Int32) + v1) 164) (some ((O9.1 470 ((7 : Int32) + v1).toNatClampNeg), O9))))))))))) else (some ((-1 : Int32), O))))
noncomputable def f_X12_walk (v1 : Int32) (v2 : Int32) (O : OM) : Option (Int32 × OM) := (bnd (f_X12_isOne v1 O) (fun r1 => (if r1 = 0 then (some ((-1 : Int32), O)) else (if v2 = (1 : Int32) then (X12_walk_j18 v1 v2 O) else (if v2 = (-1 : Int32) then (X12_walk_j18 v1 v2 O) else (some ((-1 : Int32), O)))))))
theorem cf_X12_walk : CF yX12_walk cX12_walk 3 (Option.some Jvm.ClassFile.FieldType.int) 2 := ⟨kc_X12_walk, kj_X12, ⟨by decide +kernel, by decide +kernel, by decide +kernel⟩, by decide⟩
theorem cv_X12_walk : CFv yX12_walk := ⟨ki_X12_walk, ks_X12_walk⟩
set_option maxHeartbeats 4000000 in
set_option maxRecDepth 100000 in
theorem c_X12_walk (l : Launch) (G : GT) (v1 : Int32) (v2 : Int32) (C : CM) (O : OM) (res : Int32) (O' : OM) (h : f_X12_walk v1 v2 O = some (res, O')) : MI l G yX12_walk cX12_walk 3 (Option.some Jvm.ClassFile.FieldType.int) (3) [.ref (gB G + 446), .int v1, .int v2] (C, O) res (C, O') := by
  unfold MI
  refine met_in RX12 (by decide +kernel) rfl [(0, .ref (gB G + 446)), (1, .int v1), (2, .int v2)] rfl (Nat.le_of_ble_eq_true rfl) ?_
  intro pM eM sM mM aM bM meM cM K hr
  have hj18 : ∀ (v1 : Int32) (v2 : Int32) (O : OM), X12_walk_j18 v1 v2 O = some (res, O') → GO pM l eM (3) sM mM aM bM meM cM (MQ bM (va_Qi (fun (r' : Int32) (u : CM × OM) => r' = res ∧ u = (C, O')) (wB G) (Fr G)) aM sM 0 0 (Fr G)) G 3 (C, O) 18 [(0, .ref (gB G + 446)), (1, .int v1), (2, .int v2)] [] := by
    intro v1 v2 O h
    rw [X12_walk_j18] at h
    refine go_aload_n K dX12_walk_18 0 rfl rfl ?_
    refine gf_X12 K 0 (by decide) kf_X12_7 (v := .ref (gB G + 447)) rfl dX12_walk_19 ?_
    refine go_bipush (v := (54 : Int32)) K dX12_walk_22 (by decide) ?_
    refine go_iload_n K dX12_walk_24 1 rfl rfl ?_
    refine go_iadd K dX12_walk_25 ?_
    obtain ⟨g4, h⟩ := gd_e h
    refine go_mald K (Nat.le_of_ble_eq_true rfl) sh_447 g4 rfl dX12_walk_26 ?_
    refine go_if_le (tgt := 32) K dX12_walk_27 (by decide) (fun c5 => ?_) (fun c5 => ?_)
    rotate_left
    · replace h := ite_f h c5
      refine go_iconst (v := (-1 : Int32)) K dX12_walk_30 (by decide) ?_
      exact go_iret K hr (Prod.mk.inj (Option.some.inj h)).1 (congrArg (fun z => (C, z)) (Prod.mk.inj (Option.some.inj h)).2) dX12_walk_31
    replace h := ite_t h c5
    refine go_aload_n K dX12_walk_32 0 rfl rfl ?_
    obtain ⟨O6, e6, h⟩ := bnd_e h
    refine go_cVV K (c_X12_keepsStep l G _ _ _ e6) cf_X12_keepsStep cv_X12_keepsStep km_X12_415 rv_X12 (by decide) rfl rfl (Nat.le_of_ble_eq_true rfl) dX12_walk_33 ?_
    refine go_aload_n K dX12_walk_36 0 rfl rfl ?_
    obtain ⟨O7, e7, h⟩ := bnd_e h
    refine go_cVV K (c_X12_laysNow l G _ _ _ e7) cf_X12_laysNow cv_X12_laysNow km_X12_399 rv_X12 (by decide) rfl rfl (Nat.le_of_ble_eq_true rfl) dX12_walk_37 ?_
    refine go_aload_n K dX12_walk_40 0 rfl rfl ?_
    refine go_iload_n K dX12_walk_41 1 rfl rfl ?_
    refine go_iload_n K dX12_walk_42 2 rfl rfl ?_
    obtain ⟨O8, e8, h⟩ := bnd_e h
    refine go_cVV K (c_X12_walks l G _ _ _ _ _ e8) cf_X12_walks cv_X12_walks km_X12_424 rv_X12 (by decide) rfl rfl (Nat.le_of_ble_eq_true rfl) dX12_walk_43 ?_
    refine go_aload_n K dX12_walk_46 0 rfl rfl ?_
    obtain ⟨O9, e9, h⟩ := bnd_e h
    refine go_cVV K (c_X12_keepsNow l G _ _ _ e9) cf_X12_keepsNow cv_X12_keepsNow km_X12_421 rv_X12 (by decide) rfl rfl (Nat.le_of_ble_eq_true rfl) dX12_walk_47 ?_
    refine go_aload_n K dX12_walk_50 0 rfl rfl ?_
    refine gf_X12 K 40 (by decide) kf_X12_87 (v := .ref (gB G + 470)) rfl dX12_walk_51 ?_
    refine go_bipush (v := (7 : Int32)) K dX12_walk_54 (by decide) ?_
    refine go_iload_n K dX12_walk_56 1 rfl rfl ?_
    refine go_iadd K dX12_walk_57 ?_
    obtain ⟨g10, h⟩ := gd_e h
    refine go_mald K (Nat.le_of_ble_eq_true rfl) sh_470 g10 rfl dX12_walk_58 ?_
    exact go_iret K hr (Prod.mk.inj (Option.some.inj h)).1 (congrArg (fun z => (C, z)) (Prod.mk.inj (Option.some.inj h)).2) dX12_walk_59
  rw [f_X12_walk] at h
  refine go_aload_n K dX12_walk_0 0 rfl rfl ?_
  refine go_iload_n K dX12_walk_1 1 rfl rfl ?_
  obtain ⟨r1, e1, h⟩ := bnd_e h
  refine go_cVI K (c_X12_isOne l G _ _ _ _ e1) cf_X12_isOne cv_X12_isOne km_X12_111 rv_X12 (by decide) rfl rfl (Nat.le_of_ble_eq_true rfl) dX12_walk_2 ?_
  refine go_if_eq (tgt := 30) K dX12_walk_5 (by decide) (fun c2 => ?_) (fun c2 => ?_)
  · replace h := ite_t h c2
    refine go_iconst (v := (-1 : Int32)) K dX12_walk_30 (by decide) ?_
    exact go_iret K hr (Prod.mk.inj (Option.some.inj h)).1 (congrArg (fun z => (C, z)) (Prod.mk.inj (Option.some.inj h)).2) dX12_walk_31
  replace h := ite_f h c2
  refine go_iload_n K dX12_walk_8 2 rfl rfl ?_
  refine go_iconst (v := (1 : Int32)) K dX12_walk_9 (by decide) ?_
  refine go_icmp_eq (tgt := 18) K dX12_walk_10 (by decide) (fun c3 => ?_) (fun c3 => ?_)
  · replace h := ite_t h c3
    exact hj18 _ _ _ h
  replace h := ite_f h c3
  refine go_iload_n K dX12_walk_13 2 rfl rfl ?_
  refine go_iconst (v := (-1 : Int32)) K dX12_walk_14 (by decide) ?_
  refine go_icmp_ne (tgt := 30) K dX12_walk_15 (by decide) (fun c11 => ?_) (fun c11 => ?_)
  rotate_left
  · replace h := ite_t h c11
    exact hj18 _ _ _ h
  replace h := ite_f h c11
  refine go_iconst (v := (-1 : Int32)) K dX12_walk_30 (by decide) ?_
  exact go_iret K hr (Prod.mk.inj (Option.some.inj h)).1 (congrArg (fun z => (C, z)) (Prod.mk.inj (Option.some.inj h)).2) dX12_walk_31
noncomputable def f_X12_feast (O : OM) : Option (Int32 × OM) := (bnd (f_X12_keepsStep O) (fun O1 => (bnd (f_X12_laysNow O1) (fun O2 => (bnd2 (f_X12_feasts O2) (fun r3 O3 => (bnd (f_X12_keepsNow O3) (fun O4 => (some (r3, O4))))))))))
theorem cf_X12_feast : CF yX12_feast cX12_feast 2 (Option.some Jvm.ClassFile.FieldType.int) 0 := ⟨kc_X12_feast, kj_X12, ⟨by decide +kernel, by decide +kernel, by decide +kernel⟩, by decide⟩
theorem cv_X12_feast : CFv yX12_feast := ⟨ki_X12_feast, ks_X12_feast⟩
set_option maxHeartbeats 4000000 in
set_option maxRecDepth 100000 in
theorem c_X12_feast (l : Launch) (G : GT) (C : CM) (O : OM) (res : Int32) (O' : OM) (h : f_X12_feast O = some (res, O')) : MI l G yX12_feast cX12_feast 2 (Option.some Jvm.ClassFile.FieldType.int) (3) [.ref (gB G + 446)] (C, O) res (C, O') := by
  unfold MI
  refine met_in RX12 (by decide +kernel) rfl [(0, .ref (gB G + 446))] rfl (Nat.le_of_ble_eq_true rfl) ?_
  intro pM eM sM mM aM bM meM cM K hr
  rw [f_X12_feast] at h
  refine go_aload_n K dX12_feast_0 0 rfl rfl ?_
  obtain ⟨O1, e1, h⟩ := bnd_e h
  refine go_cVV K (c_X12_keepsStep l G _ _ _ e1) cf_X12_keepsStep cv_X12_keepsStep km_X12_415 rv_X12 (by decide) rfl rfl (Nat.le_of_ble_eq_true rfl) dX12_feast_1 ?_
  refine go_aload_n K dX12_feast_4 0 rfl rfl ?_
  obtain ⟨O2, e2, h⟩ := bnd_e h
  refine go_cVV K (c_X12_laysNow l G _ _ _ e2) cf_X12_laysNow cv_X12_laysNow km_X12_399 rv_X12 (by decide) rfl rfl (Nat.le_of_ble_eq_true rfl) dX12_feast_5 ?_
  refine go_aload_n K dX12_feast_8 0 rfl rfl ?_
  obtain ⟨r3, O3, e3, h⟩ := bnd2_e h
  refine go_cVI K (c_X12_feasts l G _ _ _ _ e3) cf_X12_feasts cv_X12_feasts km_X12_427 rv_X12 (by decide) rfl rfl (Nat.le_of_ble_eq_true rfl) dX12_feast_9 ?_
  refine go_istore_n K dX12_feast_12 rfl (by decide) (lv' := [(1, .int r3), (0, .ref (gB G + 446))]) rfl ?_
  refine go_aload_n K dX12_feast_13 1 rfl rfl ?_
  obtain ⟨O4, e4, h⟩ := bnd_e h
  refine go_cVV K (c_X12_keepsNow l G _ _ _ e4) cf_X12_keepsNow cv_X12_keepsNow km_X12_421 rv_X12 (by decide) rfl rfl (Nat.le_of_ble_eq_true rfl) dX12_feast_14 ?_
  refine go_iload_n K dX12_feast_17 0 rfl rfl ?_
  exact go_iret K hr (Prod.mk.inj (Option.some.inj h)).1 (congrArg (fun z => (C, z)) (Prod.mk.inj (Option.some.inj h)).2) dX12_feast_18
noncomputable def X12_clear_j123 (v1 : Int32) (v2 : Int32) (v3 : Int32) (t0 : Int32) (O : OM) : Option (Int32 × OM) := (if t0 = 0 then (some ((-1 : Int32), O)) else (bnd (f_X12_keepsStep O) (fun O17 => (gd (inb (f_X12_debtAt v1 v2) 164) (gd (inb (f_X12_debtAt v1 v2) 164) (gd (inb (f_X12_debtAt v2 v3) 164) (gd (inb (f_X12_debtAt v2 v3) 164) (gd (inb (f_X12_debtAt v3 v1) 164) (gd (inb (f_X12_debtAt v3 v1) 164) (bnd (f_X12_keepsNow (oup (oup (oup O17 470 (f_X12_debtAt v1 v2).toNatClampNeg ((O17.1 470 (f_X12_debtAt v1 v2).toNatClampNeg) - t0)) 470 (f_X12_debtAt v2 v3).toNatClampNeg (((oup O17 470 (f_X12_debtAt v1 v2).toNatClampNeg ((O17.1 470 (f_X12_debtAt v1 v2).toNatClampNeg) - t0)).1 470 (f_X12_debtAt v2 v3).toNatClampNeg) - t0)) 470 (f_X12_debtAt v3 v1).toNatClampNeg (((oup (oup O17 470 (f_X12_debtAt v1 v2).toNatClampNeg ((O17.1 470 (f_X12_debtAt v1 v2).toNatClampNeg) - t0)) 470 (f_X12_debtAt v2 v3).toNatClampNeg (((oup O17 470 (f_X12_debtAt v1 v2).toNatClampNeg ((O17.1 470 (f_X12_debtAt v1 v2).toNatClampNeg) - t0)).1 470 (f_X12_debtAt v2 v3).toNatClampNeg) - t0)).1 470 (f_X12_debtAt v3 v1).toNatClampNeg) - t0))) (fun O24 => (some (t0, O24)))))))))))))
noncomputable def X12_clear_j91 (v1 : Int32) (v2 : Int32) (v3 : Int32) (t0 : Int32) (O : OM) : Option (Int32 × OM) := (gd (inb (f_X12_debtAt v3 v1) 164) (if t0 ≤ (O.1 470 (f_X12_debtAt v3 v1).toNatClampNeg) then (X12_clear_j123 v1 v2 v3 t0 O) else (gd (inb (f_X12_debtAt v3 v1) 164) (X12_clear_j123 v1 v2 v3 (O.1 470 (f_X12_debtAt v3 v1).toNatClampNeg) O))))
noncomputable def f_X12_clear (v1 : Int32) (v2 : Int32) (v3 : Int32) (O : OM) : Option (Int32 × OM) := (bnd (f_X12_areTwo v1 v2 O) (fun r1 => (if r1 = 0 then (some ((-1 : Int32), O)) else (bnd (f_X12_areTwo v2 v3 O) (fun r3 => (if r3 = 0 then (some ((-1 : Int32), O)) else (if v1 = v3 then (some ((-1 : Int32), O)) else (bnd (f_X12_laysNow O) (fun O6 => (bnd (f_X12_doMeet v1 v2 O6) (fun r7 => (if r7 = 0 then (some ((-1 : Int32), O6)) else (bnd (f_X12_doMeet v2 v3 O6) (fun r9 => (if r9 = 0 then (some ((-1 : Int32), O6)) else (gd (inb (f_X12_debtAt v1 v2) 164) (gd (inb (f_X12_debtAt v2 v3) 164) (if (O6.1 470 (f_X12_debtAt v1 v2).toNatClampNeg) ≤ (O6.1 470 (f_X12_debtAt v2 v3).toNatClampNeg) then (X12_clear_j91 v1 v2 v3 (O6.1 470 (f_X12_debtAt v1 v2).toNatClampNeg) O6) else (gd (inb (f_X12_debtAt v2 v3) 164) (X12_clear_j91 v1 v2 v3 (O6.1 470 (f_X12_debtAt v2 v3).toNatClampNeg) O6))))))))))))))))))))
theorem cf_X12_clear : CF yX12_clear cX12_clear 5 (Option.some Jvm.ClassFile.FieldType.int) 3 := ⟨kc_X12_clear, kj_X12, ⟨by decide +kernel, by decide +kernel, by decide +kernel⟩, by decide⟩
theorem cv_X12_clear : CFv yX12_clear := ⟨ki_X12_clear, ks_X12_clear⟩
set_option maxHeartbeats 4000000 in
set_option maxRecDepth 100000 in
theorem c_X12_clear (l : Launch) (G : GT) (v1 : Int32) (v2 : Int32) (v3 : Int32) (C : CM) (O : OM) (res : Int32) (O' : OM) (h : f_X12_clear v1 v2 v3 O = some (res, O')) : MI l G yX12_clear cX12_clear 5 (Option.some Jvm.ClassFile.FieldType.int) (4) [.ref (gB G + 446), .int v1, .int v2, .int v3] (C, O) res (C, O') := by
  unfold MI
  refine met_in RX12 (by decide +kernel) rfl [(0, .ref (gB G + 446)), (1, .int v1), (2, .int v2), (3, .int v3)] rfl (Nat.le_of_ble_eq_true rfl) ?_
  intro pM eM sM mM aM bM meM cM K hr
  have hj123 : ∀ (v1 : Int32) (v2 : Int32) (v3 : Int32) (t0 : Int32) (O : OM), X12_clear_j123 v1 v2 v3 t0 O = some (res, O') → GO pM l eM (4) sM mM aM bM meM cM (MQ bM (va_Qi (fun (r' : Int32) (u : CM × OM) => r' = res ∧ u = (C, O')) (wB G) (Fr G)) aM sM 0 0 (Fr G)) G 5 (C, O) 123 [(0, .ref (gB G + 446)), (1, .int v1), (2, .int v2), (3, .int v3)] [.int t0] := by
    intro v1 v2 v3 t0 O h
    rw [X12_clear_j123] at h
    refine go_istore K dX12_clear_123 (by decide) (lv' := [(4, .int t0), (0, .ref (gB G + 446)), (1, .int v1), (2, .int v2), (3, .int v3)]) rfl ?_
    refine go_iload K dX12_clear_125 0 rfl ?_
    refine go_if_ne (tgt := 132) K dX12_clear_127 (by decide) (fun c16 => ?_) (fun c16 => ?_)
    rotate_left
    · replace h := ite_t h c16
      refine go_iconst (v := (-1 : Int32)) K dX12_clear_130 (by decide) ?_
      exact go_iret K hr (Prod.mk.inj (Option.some.inj h)).1 (congrArg (fun z => (C, z)) (Prod.mk.inj (Option.some.inj h)).2) dX12_clear_131
    replace h := ite_f h c16
    refine go_aload_n K dX12_clear_132 1 rfl rfl ?_
    obtain ⟨O17, e17, h⟩ := bnd_e h
    refine go_cVV K (c_X12_keepsStep l G _ _ _ e17) cf_X12_keepsStep cv_X12_keepsStep km_X12_415 rv_X12 (by decide) rfl rfl (Nat.le_of_ble_eq_true rfl) dX12_clear_133 ?_
    refine go_aload_n K dX12_clear_136 1 rfl rfl ?_
    refine gf_X12 K 40 (by decide) kf_X12_87 (v := .ref (gB G + 470)) rfl dX12_clear_137 ?_
    refine go_iload_n K dX12_clear_140 2 rfl rfl ?_
    refine go_iload_n K dX12_clear_141 3 rfl rfl ?_
    refine go_cSI K (c_X12_debtAt l G _ _ _ _ _ rfl) cf_X12_debtAt kt_X12_debtAt km_X12_335 (by decide) rfl rfl (Nat.le_of_ble_eq_true rfl) dX12_clear_142 ?_
    refine go_dup2 K dX12_clear_145 rfl rfl ?_
    obtain ⟨g18, h⟩ := gd_e h
    refine go_mald K (Nat.le_of_ble_eq_true rfl) sh_470 g18 rfl dX12_clear_146 ?_
    refine go_iload K dX12_clear_147 0 rfl ?_
    refine go_isub K dX12_clear_149 ?_
    obtain ⟨g19, h⟩ := gd_e h
    refine go_mast K (Nat.le_of_ble_eq_true rfl) sh_470 g19 rfl dX12_clear_150 ?_
    refine go_aload_n K dX12_clear_151 1 rfl rfl ?_
    refine gf_X12 K 40 (by decide) kf_X12_87 (v := .ref (gB G + 470)) rfl dX12_clear_152 ?_
    refine go_iload_n K dX12_clear_155 3 rfl rfl ?_
    refine go_iload_n K dX12_clear_156 4 rfl rfl ?_
    refine go_cSI K (c_X12_debtAt l G _ _ _ _ _ rfl) cf_X12_debtAt kt_X12_debtAt km_X12_335 (by decide) rfl rfl (Nat.le_of_ble_eq_true rfl) dX12_clear_157 ?_
    refine go_dup2 K dX12_clear_160 rfl rfl ?_
    obtain ⟨g20, h⟩ := gd_e h
    refine go_mald K (Nat.le_of_ble_eq_true rfl) sh_470 g20 rfl dX12_clear_161 ?_
    refine go_iload K dX12_clear_162 0 rfl ?_
    refine go_isub K dX12_clear_164 ?_
    obtain ⟨g21, h⟩ := gd_e h
    refine go_mast K (Nat.le_of_ble_eq_true rfl) sh_470 g21 rfl dX12_clear_165 ?_
    refine go_aload_n K dX12_clear_166 1 rfl rfl ?_
    refine gf_X12 K 40 (by decide) kf_X12_87 (v := .ref (gB G + 470)) rfl dX12_clear_167 ?_
    refine go_iload_n K dX12_clear_170 4 rfl rfl ?_
    refine go_iload_n K dX12_clear_171 2 rfl rfl ?_
    refine go_cSI K (c_X12_debtAt l G _ _ _ _ _ rfl) cf_X12_debtAt kt_X12_debtAt km_X12_335 (by decide) rfl rfl (Nat.le_of_ble_eq_true rfl) dX12_clear_172 ?_
    refine go_dup2 K dX12_clear_175 rfl rfl ?_
    obtain ⟨g22, h⟩ := gd_e h
    refine go_mald K (Nat.le_of_ble_eq_true rfl) sh_470 g22 rfl dX12_clear_176 ?_
    refine go_iload K dX12_clear_177 0 rfl ?_
    refine go_isub K dX12_clear_179 ?_
    obtain ⟨g23, h⟩ := gd_e h
    refine go_mast K (Nat.le_of_ble_eq_true rfl) sh_470 g23 rfl dX12_clear_180 ?_
    refine go_aload_n K dX12_clear_181 1 rfl rfl ?_
    obtain ⟨O24, e24, h⟩ := bnd_e h
    refine go_cVV K (c_X12_keepsNow l G _ _ _ e24) cf_X12_keepsNow cv_X12_keepsNow km_X12_421 rv_X12 (by decide) rfl rfl (Nat.le_of_ble_eq_true rfl) dX12_clear_182 ?_
    refine go_iload K dX12_clear_185 0 rfl ?_
    exact go_iret K hr (Prod.mk.inj (Option.some.inj h)).1 (congrArg (fun z => (C, z)) (Prod.mk.inj (Option.some.inj h)).2) dX12_clear_187
  have hj91 : ∀ (v1 : Int32) (v2 : Int32) (v3 : Int32) (t0 : Int32) (O : OM), X12_clear_j91 v1 v2 v3 t0 O = some (res, O') → GO pM l eM (4) sM mM aM bM meM cM (MQ bM (va_Qi (fun (r' : Int32) (u : CM × OM) => r' = res ∧ u = (C, O')) (wB G) (Fr G)) aM sM 0 0 (Fr G)) G 5 (C, O) 91 [(0, .ref (gB G + 446)), (1, .int v1), (2, .int v2), (3, .int v3)] [.int t0] := by
    intro v1 v2 v3 t0 O h
    rw [X12_clear_j91] at h
    refine go_istore K dX12_clear_91 (by decide) (lv' := [(4, .int t0), (0, .ref (gB G + 446)), (1, .int v1), (2, .int v2), (3, .int v3)]) rfl ?_
    refine go_aload_n K dX12_clear_93 1 rfl rfl ?_
    refine gf_X12 K 40 (by decide) kf_X12_87 (v := .ref (gB G + 470)) rfl dX12_clear_94 ?_
    refine go_iload_n K dX12_clear_97 4 rfl rfl ?_
    refine go_iload_n K dX12_clear_98 2 rfl rfl ?_
    refine go_cSI K (c_X12_debtAt l G _ _ _ _ _ rfl) cf_X12_debtAt kt_X12_debtAt km_X12_335 (by decide) rfl rfl (Nat.le_of_ble_eq_true rfl) dX12_clear_99 ?_
    obtain ⟨g14, h⟩ := gd_e h
    refine go_mald K (Nat.le_of_ble_eq_true rfl) sh_470 g14 rfl dX12_clear_102 ?_
    refine go_iload K dX12_clear_103 0 rfl ?_
    refine go_icmp_ge (tgt := 121) K dX12_clear_105 (by decide) (fun c15 => ?_) (fun c15 => ?_)
    · replace h := ite_t h c15
      refine go_iload K dX12_clear_121 0 rfl ?_
      exact go_sub [1, 2, 3, 4] rfl (hj123 _ _ _ _ _ h)
    replace h := ite_f h c15
    refine go_aload_n K dX12_clear_108 1 rfl rfl ?_
    refine gf_X12 K 40 (by decide) kf_X12_87 (v := .ref (gB G + 470)) rfl dX12_clear_109 ?_
    refine go_iload_n K dX12_clear_112 4 rfl rfl ?_
    refine go_iload_n K dX12_clear_113 2 rfl rfl ?_
    refine go_cSI K (c_X12_debtAt l G _ _ _ _ _ rfl) cf_X12_debtAt kt_X12_debtAt km_X12_335 (by decide) rfl rfl (Nat.le_of_ble_eq_true rfl) dX12_clear_114 ?_
    obtain ⟨g25, h⟩ := gd_e h
    refine go_mald K (Nat.le_of_ble_eq_true rfl) sh_470 g25 rfl dX12_clear_117 ?_
    refine go_goto (tgt := 123) K dX12_clear_118 (by decide) ?_
    exact go_sub [1, 2, 3, 4] rfl (hj123 _ _ _ _ _ h)
  rw [f_X12_clear] at h
  refine go_aload_n K dX12_clear_0 0 rfl rfl ?_
  refine go_iload_n K dX12_clear_1 1 rfl rfl ?_
  refine go_iload_n K dX12_clear_2 2 rfl rfl ?_
  obtain ⟨r1, e1, h⟩ := bnd_e h
  refine go_cVI K (c_X12_areTwo l G _ _ _ _ _ e1) cf_X12_areTwo cv_X12_areTwo km_X12_409 rv_X12 (by decide) rfl rfl (Nat.le_of_ble_eq_true rfl) dX12_clear_3 ?_
  refine go_if_eq (tgt := 23) K dX12_clear_6 (by decide) (fun c2 => ?_) (fun c2 => ?_)
  · replace h := ite_t h c2
    refine go_iconst (v := (-1 : Int32)) K dX12_clear_23 (by decide) ?_
    exact go_iret K hr (Prod.mk.inj (Option.some.inj h)).1 (congrArg (fun z => (C, z)) (Prod.mk.inj (Option.some.inj h)).2) dX12_clear_24
  replace h := ite_f h c2
  refine go_aload_n K dX12_clear_9 0 rfl rfl ?_
  refine go_iload_n K dX12_clear_10 2 rfl rfl ?_
  refine go_iload_n K dX12_clear_11 3 rfl rfl ?_
  obtain ⟨r3, e3, h⟩ := bnd_e h
  refine go_cVI K (c_X12_areTwo l G _ _ _ _ _ e3) cf_X12_areTwo cv_X12_areTwo km_X12_409 rv_X12 (by decide) rfl rfl (Nat.le_of_ble_eq_true rfl) dX12_clear_12 ?_
  refine go_if_eq (tgt := 23) K dX12_clear_15 (by decide) (fun c4 => ?_) (fun c4 => ?_)
  · replace h := ite_t h c4
    refine go_iconst (v := (-1 : Int32)) K dX12_clear_23 (by decide) ?_
    exact go_iret K hr (Prod.mk.inj (Option.some.inj h)).1 (congrArg (fun z => (C, z)) (Prod.mk.inj (Option.some.inj h)).2) dX12_clear_24
  replace h := ite_f h c4
  refine go_iload_n K dX12_clear_18 1 rfl rfl ?_
  refine go_iload_n K dX12_clear_19 3 rfl rfl ?_
  refine go_icmp_ne (tgt := 25) K dX12_clear_20 (by decide) (fun c5 => ?_) (fun c5 => ?_)
  rotate_left
  · replace h := ite_t h c5
    refine go_iconst (v := (-1 : Int32)) K dX12_clear_23 (by decide) ?_
    exact go_iret K hr (Prod.mk.inj (Option.some.inj h)).1 (congrArg (fun z => (C, z)) (Prod.mk.inj (Option.some.inj h)).2) dX12_clear_24
  replace h := ite_f h c5
  refine go_aload_n K dX12_clear_25 0 rfl rfl ?_
  obtain ⟨O6, e6, h⟩ := bnd_e h
  refine go_cVV K (c_X12_laysNow l G _ _ _ e6) cf_X12_laysNow cv_X12_laysNow km_X12_399 rv_X12 (by decide) rfl rfl (Nat.le_of_ble_eq_true rfl) dX12_clear_26 ?_
  refine go_aload_n K dX12_clear_29 0 rfl rfl ?_
  refine go_iload_n K dX12_clear_30 1 rfl rfl ?_
  refine go_iload_n K dX12_clear_31 2 rfl rfl ?_
  obtain ⟨r7, e7, h⟩ := bnd_e h
  refine go_cVI K (c_X12_doMeet l G _ _ _ _ _ e7) cf_X12_doMeet cv_X12_doMeet km_X12_372 rv_X12 (by decide) rfl rfl (Nat.le_of_ble_eq_true rfl) dX12_clear_32 ?_
  refine go_if_eq (tgt := 47) K dX12_clear_35 (by decide) (fun c8 => ?_) (fun c8 => ?_)
  · replace h := ite_t h c8
    refine go_iconst (v := (-1 : Int32)) K dX12_clear_47 (by decide) ?_
    exact go_iret K hr (Prod.mk.inj (Option.some.inj h)).1 (congrArg (fun z => (C, z)) (Prod.mk.inj (Option.some.inj h)).2) dX12_clear_48
  replace h := ite_f h c8
  refine go_aload_n K dX12_clear_38 0 rfl rfl ?_
  refine go_iload_n K dX12_clear_39 2 rfl rfl ?_
  refine go_iload_n K dX12_clear_40 3 rfl rfl ?_
  obtain ⟨r9, e9, h⟩ := bnd_e h
  refine go_cVI K (c_X12_doMeet l G _ _ _ _ _ e9) cf_X12_doMeet cv_X12_doMeet km_X12_372 rv_X12 (by decide) rfl rfl (Nat.le_of_ble_eq_true rfl) dX12_clear_41 ?_
  refine go_if_ne (tgt := 49) K dX12_clear_44 (by decide) (fun c10 => ?_) (fun c10 => ?_)
  rotate_left
  · replace h := ite_t h c10
    refine go_iconst (v := (-1 : Int32)) K dX12_clear_47 (by decide) ?_
    exact go_iret K hr (Prod.mk.inj (Option.some.inj h)).1 (congrArg (fun z => (C, z)) (Prod.mk.inj (Option.some.inj h)).2) dX12_clear_48
  replace h := ite_f h c10
  refine go_aload_n K dX12_clear_49 0 rfl rfl ?_
  refine gf_X12 K 40 (by decide) kf_X12_87 (v := .ref (gB G + 470)) rfl dX12_clear_50 ?_
  refine go_iload_n K dX12_clear_53 1 rfl rfl ?_
  refine go_iload_n K dX12_clear_54 2 rfl rfl ?_
  refine go_cSI K (c_X12_debtAt l G _ _ _ _ _ rfl) cf_X12_debtAt kt_X12_debtAt km_X12_335 (by decide) rfl rfl (Nat.le_of_ble_eq_true rfl) dX12_clear_55 ?_
  obtain ⟨g11, h⟩ := gd_e h
  refine go_mald K (Nat.le_of_ble_eq_true rfl) sh_470 g11 rfl dX12_clear_58 ?_
  refine go_istore K dX12_clear_59 (by decide) (lv' := [(4, .int (O6.1 470 (f_X12_debtAt v1 v2).toNatClampNeg)), (0, .ref (gB G + 446)), (1, .int v1), (2, .int v2), (3, .int v3)]) rfl ?_
  refine go_aload_n K dX12_clear_61 1 rfl rfl ?_
  refine gf_X12 K 40 (by decide) kf_X12_87 (v := .ref (gB G + 470)) rfl dX12_clear_62 ?_
  refine go_iload_n K dX12_clear_65 3 rfl rfl ?_
  refine go_iload_n K dX12_clear_66 4 rfl rfl ?_
  refine go_cSI K (c_X12_debtAt l G _ _ _ _ _ rfl) cf_X12_debtAt kt_X12_debtAt km_X12_335 (by decide) rfl rfl (Nat.le_of_ble_eq_true rfl) dX12_clear_67 ?_
  obtain ⟨g12, h⟩ := gd_e h
  refine go_mald K (Nat.le_of_ble_eq_true rfl) sh_470 g12 rfl dX12_clear_70 ?_
  refine go_iload K dX12_clear_71 0 rfl ?_
  refine go_icmp_ge (tgt := 89) K dX12_clear_73 (by decide) (fun c13 => ?_) (fun c13 => ?_)
  · replace h := ite_t h c13
    refine go_iload K dX12_clear_89 0 rfl ?_
    exact go_sub [1, 2, 3, 4] rfl (hj91 _ _ _ _ _ h)
  replace h := ite_f h c13
  refine go_aload_n K dX12_clear_76 1 rfl rfl ?_
  refine gf_X12 K 40 (by decide) kf_X12_87 (v := .ref (gB G + 470)) rfl dX12_clear_77 ?_
  refine go_iload_n K dX12_clear_80 3 rfl rfl ?_
  refine go_iload_n K dX12_clear_81 4 rfl rfl ?_
  refine go_cSI K (c_X12_debtAt l G _ _ _ _ _ rfl) cf_X12_debtAt kt_X12_debtAt km_X12_335 (by decide) rfl rfl (Nat.le_of_ble_eq_true rfl) dX12_clear_82 ?_
  obtain ⟨g26, h⟩ := gd_e h
  refine go_mald K (Nat.le_of_ble_eq_true rfl) sh_470 g26 rfl dX12_clear_85 ?_
  refine go_goto (tgt := 91) K dX12_clear_86 (by decide) ?_
  exact go_sub [1, 2, 3, 4] rfl (hj91 _ _ _ _ _ h)
noncomputable def X12_hour_l41 : Nat → Int32 → Int32 → Int32 → OM → Option (Int32 × OM)
  | 0, _, _, _, _ => none
  | n + 1, v1, v2, v3, O => (if v1 ≤ v3 then (some (v2, O)) else (bnd (f_X12_keepsStep O) (fun O4 => (bnd (f_X12_laysNow O4) (fun O5 => (bnd2 (f_X12_hourPasses O5) (fun r6 O6 => (bnd (f_X12_keepsNow O6) (fun O7 => (X12_hour_l41 n v1 (v2 + r6) (v3 + (1 : Int32)) O7))))))))))
noncomputable def f_X12_hour (v1 : Int32) (O : OM) : Option (Int32 × OM) := (if (f_X12_in v1 (1 : Int32) (60 : Int32)) = 0 then (some ((-1 : Int32), O)) else (if ((((O.1 447 110) * (10 : Int32)) + (O.1 447 111)) + v1) ≤ (99999 : Int32) then (X12_hour_l41 FU v1 (0 : Int32) (0 : Int32) O) else (some ((-1 : Int32), O))))
theorem cf_X12_hour : CF yX12_hour cX12_hour 4 (Option.some Jvm.ClassFile.FieldType.int) 1 := ⟨kc_X12_hour, kj_X12, ⟨by decide +kernel, by decide +kernel, by decide +kernel⟩, by decide⟩
theorem cv_X12_hour : CFv yX12_hour := ⟨ki_X12_hour, ks_X12_hour⟩
set_option maxHeartbeats 4000000 in
set_option maxRecDepth 100000 in
theorem c_X12_hour (l : Launch) (G : GT) (v1 : Int32) (C : CM) (O : OM) (res : Int32) (O' : OM) (h : f_X12_hour v1 O = some (res, O')) : MI l G yX12_hour cX12_hour 4 (Option.some Jvm.ClassFile.FieldType.int) (8) [.ref (gB G + 446), .int v1] (C, O) res (C, O') := by
  unfold MI
  refine met_in RX12 (by decide +kernel) rfl [(0, .ref (gB G + 446)), (1, .int v1)] rfl (Nat.le_of_ble_eq_true rfl) ?_
  intro pM eM sM mM aM bM meM cM K hr
  have hl41 : ∀ (n41 : Nat) (v1 : Int32) (v2 : Int32) (v3 : Int32) (O : OM), X12_hour_l41 n41 v1 v2 v3 O = some (res, O') → GO pM l eM (8) sM mM aM bM meM cM (MQ bM (va_Qi (fun (r' : Int32) (u : CM × OM) => r' = res ∧ u = (C, O')) (wB G) (Fr G)) aM sM 0 0 (Fr G)) G 4 (C, O) 41 [(0, .ref (gB G + 446)), (1, .int v1), (2, .int v2), (3, .int v3)] [] := by
    intro n41
    induction n41 with
    | zero =>
      intro v1 v2 v3 O h
      rw [X12_hour_l41] at h
      cases h
    | succ n41 ih41 =>
      intro v1 v2 v3 O h
      rw [X12_hour_l41] at h
      refine go_iload_n K dX12_hour_41 3 rfl rfl ?_
      refine go_iload_n K dX12_hour_42 1 rfl rfl ?_
      refine go_icmp_ge (tgt := 71) K dX12_hour_43 (by decide) (fun c3 => ?_) (fun c3 => ?_)
      · replace h := ite_t h c3
        refine go_iload_n K dX12_hour_71 2 rfl rfl ?_
        exact go_iret K hr (Prod.mk.inj (Option.some.inj h)).1 (congrArg (fun z => (C, z)) (Prod.mk.inj (Option.some.inj h)).2) dX12_hour_72
      replace h := ite_f h c3
      refine go_aload_n K dX12_hour_46 0 rfl rfl ?_
      obtain ⟨O4, e4, h⟩ := bnd_e h
      refine go_cVV K (c_X12_keepsStep l G _ _ _ e4) cf_X12_keepsStep cv_X12_keepsStep km_X12_415 rv_X12 (by decide) rfl rfl (Nat.le_of_ble_eq_true rfl) dX12_hour_47 ?_
      refine go_aload_n K dX12_hour_50 0 rfl rfl ?_
      obtain ⟨O5, e5, h⟩ := bnd_e h
      refine go_cVV K (c_X12_laysNow l G _ _ _ e5) cf_X12_laysNow cv_X12_laysNow km_X12_399 rv_X12 (by decide) rfl rfl (Nat.le_of_ble_eq_true rfl) dX12_hour_51 ?_
      refine go_iload_n K dX12_hour_54 2 rfl rfl ?_
      refine go_aload_n K dX12_hour_55 0 rfl rfl ?_
      obtain ⟨r6, O6, e6, h⟩ := bnd2_e h
      refine go_cVI K (c_X12_hourPasses l G _ _ _ _ e6) cf_X12_hourPasses cv_X12_hourPasses km_X12_406 rv_X12 (by decide) rfl rfl (Nat.le_of_ble_eq_true rfl) dX12_hour_56 ?_
      refine go_iadd K dX12_hour_59 ?_
      refine go_istore_n K dX12_hour_60 rfl (by decide) (lv' := [(2, .int (v2 + r6)), (0, .ref (gB G + 446)), (1, .int v1), (3, .int v3)]) rfl ?_
      refine go_aload_n K dX12_hour_61 1 rfl rfl ?_
      obtain ⟨O7, e7, h⟩ := bnd_e h
      refine go_cVV K (c_X12_keepsNow l G _ _ _ e7) cf_X12_keepsNow cv_X12_keepsNow km_X12_421 rv_X12 (by decide) rfl rfl (Nat.le_of_ble_eq_true rfl) dX12_hour_62 ?_
      refine go_iinc K dX12_hour_65 3 rfl (v := (v3 + (1 : Int32))) rfl (by decide) (lv' := [(3, .int (v3 + (1 : Int32))), (2, .int (v2 + r6)), (0, .ref (gB G + 446)), (1, .int v1)]) rfl ?_
      refine go_goto (tgt := 41) K dX12_hour_68 (by decide) ?_
      exact go_sub [2, 3, 1, 0] rfl (ih41 _ _ _ _ h)
  rw [f_X12_hour] at h
  refine go_iload_n K dX12_hour_0 1 rfl rfl ?_
  refine go_iconst (v := (1 : Int32)) K dX12_hour_1 (by decide) ?_
  refine go_bipush (v := (60 : Int32)) K dX12_hour_2 (by decide) ?_
  refine go_cSI K (c_X12_in l G _ _ _ _ _ _ rfl) cf_X12_in kt_X12_in km_X12_107 (by decide) rfl rfl (Nat.le_of_ble_eq_true rfl) dX12_hour_4 ?_
  refine go_if_eq (tgt := 35) K dX12_hour_7 (by decide) (fun c1 => ?_) (fun c1 => ?_)
  · replace h := ite_t h c1
    refine go_iconst (v := (-1 : Int32)) K dX12_hour_35 (by decide) ?_
    exact go_iret K hr (Prod.mk.inj (Option.some.inj h)).1 (congrArg (fun z => (C, z)) (Prod.mk.inj (Option.some.inj h)).2) dX12_hour_36
  replace h := ite_f h c1
  refine go_aload_n K dX12_hour_10 0 rfl rfl ?_
  refine gf_X12 K 0 (by decide) kf_X12_7 (v := .ref (gB G + 447)) rfl dX12_hour_11 ?_
  refine go_bipush (v := (110 : Int32)) K dX12_hour_14 (by decide) ?_
  refine go_mald K (Nat.le_of_ble_eq_true rfl) sh_447 (in_k (k := 110) (by decide) (by decide)) rfl dX12_hour_16 ?_
  refine go_bipush (v := (10 : Int32)) K dX12_hour_17 (by decide) ?_
  refine go_imul K dX12_hour_19 ?_
  refine go_aload_n K dX12_hour_20 0 rfl rfl ?_
  refine gf_X12 K 0 (by decide) kf_X12_7 (v := .ref (gB G + 447)) rfl dX12_hour_21 ?_
  refine go_bipush (v := (111 : Int32)) K dX12_hour_24 (by decide) ?_
  refine go_mald K (Nat.le_of_ble_eq_true rfl) sh_447 (in_k (k := 111) (by decide) (by decide)) rfl dX12_hour_26 ?_
  refine go_iadd K dX12_hour_27 ?_
  refine go_iload_n K dX12_hour_28 1 rfl rfl ?_
  refine go_iadd K dX12_hour_29 ?_
  refine go_ldc K kk_X12_214 dX12_hour_30 ?_
  refine go_icmp_le (tgt := 37) K dX12_hour_32 (by decide) (fun c2 => ?_) (fun c2 => ?_)
  rotate_left
  · replace h := ite_f h c2
    refine go_iconst (v := (-1 : Int32)) K dX12_hour_35 (by decide) ?_
    exact go_iret K hr (Prod.mk.inj (Option.some.inj h)).1 (congrArg (fun z => (C, z)) (Prod.mk.inj (Option.some.inj h)).2) dX12_hour_36
  replace h := ite_t h c2
  refine go_iconst (v := (0 : Int32)) K dX12_hour_37 (by decide) ?_
  refine go_istore_n K dX12_hour_38 rfl (by decide) (lv' := [(2, .int (0 : Int32)), (0, .ref (gB G + 446)), (1, .int v1)]) rfl ?_
  refine go_iconst (v := (0 : Int32)) K dX12_hour_39 (by decide) ?_
  refine go_istore_n K dX12_hour_40 rfl (by decide) (lv' := [(3, .int (0 : Int32)), (2, .int (0 : Int32)), (0, .ref (gB G + 446)), (1, .int v1)]) rfl ?_
  exact go_sub [2, 3, 1, 0] rfl (hl41 FU _ _ _ _ h)
noncomputable def f_X12_draw (v1 : Int32) (O : OM) : Option (Int32 × OM) := (gd (¬ v1 = 0) (some ((irm (O.1 470 72) v1), (oup O 470 72 (irm (((O.1 470 72) * (299 : Int32)) + (199 : Int32)) (30323 : Int32))))))
theorem cf_X12_draw : CF yX12_draw cX12_draw 3 (Option.some Jvm.ClassFile.FieldType.int) 1 := ⟨kc_X12_draw, kj_X12, ⟨by decide +kernel, by decide +kernel, by decide +kernel⟩, by decide⟩
theorem cv_X12_draw : CFv yX12_draw := ⟨ki_X12_draw, ks_X12_draw⟩
set_option maxHeartbeats 4000000 in
set_option maxRecDepth 100000 in
theorem c_X12_draw (l : Launch) (G : GT) (v1 : Int32) (C : CM) (O : OM) (res : Int32) (O' : OM) (h : f_X12_draw v1 O = some (res, O')) : MI l G yX12_draw cX12_draw 3 (Option.some Jvm.ClassFile.FieldType.int) (1) [.ref (gB G + 446), .int v1] (C, O) res (C, O') := by
  unfold MI
  refine met_in RX12 (by decide +kernel) rfl [(0, .ref (gB G + 446)), (1, .int v1)] rfl (Nat.le_of_ble_eq_true rfl) ?_
  intro pM eM sM mM aM bM meM cM K hr
  rw [f_X12_draw] at h
  refine go_aload_n K dX12_draw_0 0 rfl rfl ?_
  refine gf_X12 K 40 (by decide) kf_X12_87 (v := .ref (gB G + 470)) rfl dX12_draw_1 ?_
  refine go_bipush (v := (72 : Int32)) K dX12_draw_4 (by decide) ?_
  refine go_mald K (Nat.le_of_ble_eq_true rfl) sh_470 (in_k (k := 72) (by decide) (by decide)) rfl dX12_draw_6 ?_
  refine go_iload_n K dX12_draw_7 1 rfl rfl ?_
  obtain ⟨g1, h⟩ := gd_e h
  refine go_irem K dX12_draw_8 g1 ?_
  refine go_fold (y := (irm (O.1 470 72) v1)) rfl ?_
  refine go_istore_n K dX12_draw_9 rfl (by decide) (lv' := [(2, .int (irm (O.1 470 72) v1)), (0, .ref (gB G + 446)), (1, .int v1)]) rfl ?_
  refine go_aload_n K dX12_draw_10 1 rfl rfl ?_
  refine gf_X12 K 40 (by decide) kf_X12_87 (v := .ref (gB G + 470)) rfl dX12_draw_11 ?_
  refine go_bipush (v := (72 : Int32)) K dX12_draw_14 (by decide) ?_
  refine go_aload_n K dX12_draw_16 1 rfl rfl ?_
  refine gf_X12 K 40 (by decide) kf_X12_87 (v := .ref (gB G + 470)) rfl dX12_draw_17 ?_
  refine go_bipush (v := (72 : Int32)) K dX12_draw_20 (by decide) ?_
  refine go_mald K (Nat.le_of_ble_eq_true rfl) sh_470 (in_k (k := 72) (by decide) (by decide)) rfl dX12_draw_22 ?_
  refine go_sipush (v := (299 : Int32)) K dX12_draw_23 (by decide) ?_
  refine go_imul K dX12_draw_26 ?_
  refine go_sipush (v := (199 : Int32)) K dX12_draw_27 (by decide) ?_
  refine go_iadd K dX12_draw_30 ?_
  refine go_sipush (v := (30323 : Int32)) K dX12_draw_31 (by decide) ?_
  refine go_irem K dX12_draw_34 (by decide) ?_
  refine go_fold (y := (irm (((O.1 470 72) * (299 : Int32)) + (199 : Int32)) (30323 : Int32))) rfl ?_
  refine go_mast K (Nat.le_of_ble_eq_true rfl) sh_470 (in_k (k := 72) (by decide) (by decide)) rfl dX12_draw_35 ?_
  refine go_iload_n K dX12_draw_36 0 rfl rfl ?_
  exact go_iret K hr (Prod.mk.inj (Option.some.inj h)).1 (congrArg (fun z => (C, z)) (Prod.mk.inj (Option.some.inj h)).2) dX12_draw_37
noncomputable def X12_happens_j86 (O : OM) : Option OM := (some O)
noncomputable def X12_happens_j71 (v2 : Int32) (t0 : Int32) (O : OM) : Option OM := (bnd (f_X12_isOut v2 O) (fun r14 => (if r14 = 0 then (X12_happens_j86 O) else (bnd (f_X12_walks v2 t0 O) (fun O16 => (X12_happens_j86 O16))))))
noncomputable def X12_happens_j49 (O : OM) : Option OM := (some O)
noncomputable def f_X12_happens (O : OM) : Option OM := (bnd2 (f_X12_draw (7 : Int32) O) (fun r1 O1 => (bnd2 (f_X12_draw (O1.1 447 0) O1) (fun r2 O2 => (if (3 : Int32) ≤ r1 then (if r1 = (3 : Int32) then (bnd2 (f_X12_draw (2 : Int32) O2) (fun r12 O12 => (if r12 = (1 : Int32) then (X12_happens_j71 r2 (1 : Int32) O12) else (X12_happens_j71 r2 (-1 : Int32) O12)))) else (if r1 = (4 : Int32) then (bnd2 (f_X12_draw (9 : Int32) O2) (fun r9 O9 => (if r9 = 0 then (bnd2 (f_X12_feasts O9) (fun r11 O11 => (some O11))) else (some O9)))) else (bnd (f_X12_canPass O2) (fun r6 => (if r6 = 0 then (some O2) else (bnd2 (f_X12_hourPasses O2) (fun r8 O8 => (some O8)))))))) else (bnd2 (f_X12_draw (O2.1 447 0) O2) (fun r17 O17 => (bnd2 (f_X12_canBow r2 r17 O17) (fun r18 O18 => (if r18 = 0 then (X12_happens_j49 O18) else (bnd (f_X12_bows r2 r17 O18) (fun O20 => (X12_happens_j49 O20)))))))))))))
theorem cf_X12_happens : CF yX12_happens cX12_happens 4 (Option.none : Option Jvm.ClassFile.FieldType) 0 := ⟨kc_X12_happens, kj_X12, ⟨by decide +kernel, by decide +kernel, by decide +kernel⟩, by decide⟩
theorem cv_X12_happens : CFv yX12_happens := ⟨ki_X12_happens, ks_X12_happens⟩
set_option maxHeartbeats 4000000 in
set_option maxRecDepth 100000 in
theorem c_X12_happens (l : Launch) (G : GT) (C : CM) (O : OM) (O' : OM) (h : f_X12_happens O = some O') : MV l G yX12_happens cX12_happens 4 (Option.none : Option Jvm.ClassFile.FieldType) (8) [.ref (gB G + 446)] (C, O) (C, O') := by
  unfold MV
  refine met_in RX12 (by decide +kernel) rfl [(0, .ref (gB G + 446))] rfl (Nat.le_of_ble_eq_true rfl) ?_
  intro pM eM sM mM aM bM meM cM K hr
  have hj86 : ∀ (O : OM), X12_happens_j86 O = some O' → GO pM l eM (8) sM mM aM bM meM cM (MQ bM (va_Qv (fun (u : CM × OM) => u = (C, O')) (wB G) (Fr G)) aM sM 0 0 (Fr G)) G 4 (C, O) 86 [] [] := by
    intro O h
    rw [X12_happens_j86] at h
    refine go_goto (tgt := 123) K dX12_happens_86 (by decide) ?_
    exact go_vret K hr (congrArg (fun z => (C, z)) (Option.some.inj h)) dX12_happens_123
  have hj71 : ∀ (v2 : Int32) (t0 : Int32) (O : OM), X12_happens_j71 v2 t0 O = some O' → GO pM l eM (8) sM mM aM bM meM cM (MQ bM (va_Qv (fun (u : CM × OM) => u = (C, O')) (wB G) (Fr G)) aM sM 0 0 (Fr G)) G 4 (C, O) 71 [(0, .ref (gB G + 446)), (2, .int v2)] [.int t0] := by
    intro v2 t0 O h
    rw [X12_happens_j71] at h
    refine go_istore_n K dX12_happens_71 rfl (by decide) (lv' := [(3, .int t0), (0, .ref (gB G + 446)), (2, .int v2)]) rfl ?_
    refine go_aload_n K dX12_happens_72 1 rfl rfl ?_
    refine go_iload_n K dX12_happens_73 2 rfl rfl ?_
    obtain ⟨r14, e14, h⟩ := bnd_e h
    refine go_cVI K (c_X12_isOut l G _ _ _ _ e14) cf_X12_isOut cv_X12_isOut km_X12_369 rv_X12 (by decide) rfl rfl (Nat.le_of_ble_eq_true rfl) dX12_happens_74 ?_
    refine go_if_eq (tgt := 86) K dX12_happens_77 (by decide) (fun c15 => ?_) (fun c15 => ?_)
    · replace h := ite_t h c15
      exact go_sub [] rfl (hj86 _ h)
    replace h := ite_f h c15
    refine go_aload_n K dX12_happens_80 1 rfl rfl ?_
    refine go_iload_n K dX12_happens_81 2 rfl rfl ?_
    refine go_iload_n K dX12_happens_82 0 rfl rfl ?_
    obtain ⟨O16, e16, h⟩ := bnd_e h
    refine go_cVV K (c_X12_walks l G _ _ _ _ _ e16) cf_X12_walks cv_X12_walks km_X12_424 rv_X12 (by decide) rfl rfl (Nat.le_of_ble_eq_true rfl) dX12_happens_83 ?_
    exact go_sub [] rfl (hj86 _ h)
  have hj49 : ∀ (O : OM), X12_happens_j49 O = some O' → GO pM l eM (8) sM mM aM bM meM cM (MQ bM (va_Qv (fun (u : CM × OM) => u = (C, O')) (wB G) (Fr G)) aM sM 0 0 (Fr G)) G 4 (C, O) 49 [] [] := by
    intro O h
    rw [X12_happens_j49] at h
    refine go_goto (tgt := 123) K dX12_happens_49 (by decide) ?_
    exact go_vret K hr (congrArg (fun z => (C, z)) (Option.some.inj h)) dX12_happens_123
  rw [f_X12_happens] at h
  refine go_aload_n K dX12_happens_0 0 rfl rfl ?_
  refine go_bipush (v := (7 : Int32)) K dX12_happens_1 (by decide) ?_
  obtain ⟨r1, O1, e1, h⟩ := bnd2_e h
  refine go_cVI K (c_X12_draw l G _ _ _ _ _ e1) cf_X12_draw cv_X12_draw km_X12_430 rv_X12 (by decide) rfl rfl (Nat.le_of_ble_eq_true rfl) dX12_happens_3 ?_
  refine go_istore_n K dX12_happens_6 rfl (by decide) (lv' := [(1, .int r1), (0, .ref (gB G + 446))]) rfl ?_
  refine go_aload_n K dX12_happens_7 1 rfl rfl ?_
  refine go_aload_n K dX12_happens_8 1 rfl rfl ?_
  refine gf_X12 K 0 (by decide) kf_X12_7 (v := .ref (gB G + 447)) rfl dX12_happens_9 ?_
  refine go_iconst (v := (0 : Int32)) K dX12_happens_12 (by decide) ?_
  refine go_mald K (Nat.le_of_ble_eq_true rfl) sh_447 (in_k (k := 0) (by decide) (by decide)) rfl dX12_happens_13 ?_
  obtain ⟨r2, O2, e2, h⟩ := bnd2_e h
  refine go_cVI K (c_X12_draw l G _ _ _ _ _ e2) cf_X12_draw cv_X12_draw km_X12_430 rv_X12 (by decide) rfl rfl (Nat.le_of_ble_eq_true rfl) dX12_happens_14 ?_
  refine go_istore_n K dX12_happens_17 rfl (by decide) (lv' := [(2, .int r2), (1, .int r1), (0, .ref (gB G + 446))]) rfl ?_
  refine go_iload_n K dX12_happens_18 1 rfl rfl ?_
  refine go_iconst (v := (3 : Int32)) K dX12_happens_19 (by decide) ?_
  refine go_icmp_ge (tgt := 52) K dX12_happens_20 (by decide) (fun c3 => ?_) (fun c3 => ?_)
  rotate_left
  · replace h := ite_f h c3
    refine go_aload_n K dX12_happens_23 2 rfl rfl ?_
    refine go_aload_n K dX12_happens_24 2 rfl rfl ?_
    refine gf_X12 K 0 (by decide) kf_X12_7 (v := .ref (gB G + 447)) rfl dX12_happens_25 ?_
    refine go_iconst (v := (0 : Int32)) K dX12_happens_28 (by decide) ?_
    refine go_mald K (Nat.le_of_ble_eq_true rfl) sh_447 (in_k (k := 0) (by decide) (by decide)) rfl dX12_happens_29 ?_
    obtain ⟨r17, O17, e17, h⟩ := bnd2_e h
    refine go_cVI K (c_X12_draw l G _ _ _ _ _ e17) cf_X12_draw cv_X12_draw km_X12_430 rv_X12 (by decide) rfl rfl (Nat.le_of_ble_eq_true rfl) dX12_happens_30 ?_
    refine go_istore_n K dX12_happens_33 rfl (by decide) (lv' := [(3, .int r17), (2, .int r2), (1, .int r1), (0, .ref (gB G + 446))]) rfl ?_
    refine go_aload_n K dX12_happens_34 3 rfl rfl ?_
    refine go_iload_n K dX12_happens_35 1 rfl rfl ?_
    refine go_iload_n K dX12_happens_36 0 rfl rfl ?_
    obtain ⟨r18, O18, e18, h⟩ := bnd2_e h
    refine go_cVI K (c_X12_canBow l G _ _ _ _ _ _ e18) cf_X12_canBow cv_X12_canBow km_X12_412 rv_X12 (by decide) rfl rfl (Nat.le_of_ble_eq_true rfl) dX12_happens_37 ?_
    refine go_if_eq (tgt := 49) K dX12_happens_40 (by decide) (fun c19 => ?_) (fun c19 => ?_)
    · replace h := ite_t h c19
      exact go_sub [] rfl (hj49 _ h)
    replace h := ite_f h c19
    refine go_aload_n K dX12_happens_43 3 rfl rfl ?_
    refine go_iload_n K dX12_happens_44 1 rfl rfl ?_
    refine go_iload_n K dX12_happens_45 0 rfl rfl ?_
    obtain ⟨O20, e20, h⟩ := bnd_e h
    refine go_cVV K (c_X12_bows l G _ _ _ _ _ e20) cf_X12_bows cv_X12_bows km_X12_418 rv_X12 (by decide) rfl rfl (Nat.le_of_ble_eq_true rfl) dX12_happens_46 ?_
    exact go_sub [] rfl (hj49 _ h)
  replace h := ite_t h c3
  refine go_iload_n K dX12_happens_52 1 rfl rfl ?_
  refine go_iconst (v := (3 : Int32)) K dX12_happens_53 (by decide) ?_
  refine go_icmp_ne (tgt := 89) K dX12_happens_54 (by decide) (fun c4 => ?_) (fun c4 => ?_)
  rotate_left
  · replace h := ite_t h c4
    refine go_aload_n K dX12_happens_57 2 rfl rfl ?_
    refine go_iconst (v := (2 : Int32)) K dX12_happens_58 (by decide) ?_
    obtain ⟨r12, O12, e12, h⟩ := bnd2_e h
    refine go_cVI K (c_X12_draw l G _ _ _ _ _ e12) cf_X12_draw cv_X12_draw km_X12_430 rv_X12 (by decide) rfl rfl (Nat.le_of_ble_eq_true rfl) dX12_happens_59 ?_
    refine go_iconst (v := (1 : Int32)) K dX12_happens_62 (by decide) ?_
    refine go_icmp_ne (tgt := 70) K dX12_happens_63 (by decide) (fun c13 => ?_) (fun c13 => ?_)
    · replace h := ite_f h c13
      refine go_iconst (v := (-1 : Int32)) K dX12_happens_70 (by decide) ?_
      exact go_sub [2, 0] rfl (hj71 _ _ _ h)
    replace h := ite_t h c13
    refine go_iconst (v := (1 : Int32)) K dX12_happens_66 (by decide) ?_
    refine go_goto (tgt := 71) K dX12_happens_67 (by decide) ?_
    exact go_sub [2, 0] rfl (hj71 _ _ _ h)
  replace h := ite_f h c4
  refine go_iload_n K dX12_happens_89 1 rfl rfl ?_
  refine go_iconst (v := (4 : Int32)) K dX12_happens_90 (by decide) ?_
  refine go_icmp_ne (tgt := 111) K dX12_happens_91 (by decide) (fun c5 => ?_) (fun c5 => ?_)
  · replace h := ite_f h c5
    refine go_aload_n K dX12_happens_111 2 rfl rfl ?_
    obtain ⟨r6, e6, h⟩ := bnd_e h
    refine go_cVI K (c_X12_canPass l G _ _ _ e6) cf_X12_canPass cv_X12_canPass km_X12_402 rv_X12 (by decide) rfl rfl (Nat.le_of_ble_eq_true rfl) dX12_happens_112 ?_
    refine go_if_eq (tgt := 123) K dX12_happens_115 (by decide) (fun c7 => ?_) (fun c7 => ?_)
    · replace h := ite_t h c7
      exact go_vret K hr (congrArg (fun z => (C, z)) (Option.some.inj h)) dX12_happens_123
    replace h := ite_f h c7
    refine go_aload_n K dX12_happens_118 2 rfl rfl ?_
    obtain ⟨r8, O8, e8, h⟩ := bnd2_e h
    refine go_cVI K (c_X12_hourPasses l G _ _ _ _ e8) cf_X12_hourPasses cv_X12_hourPasses km_X12_406 rv_X12 (by decide) rfl rfl (Nat.le_of_ble_eq_true rfl) dX12_happens_119 ?_
    refine go_istore_n K dX12_happens_122 rfl (by decide) (lv' := [(3, .int r8), (2, .int r2), (1, .int r1), (0, .ref (gB G + 446))]) rfl ?_
    exact go_vret K hr (congrArg (fun z => (C, z)) (Option.some.inj h)) dX12_happens_123
  replace h := ite_t h c5
  refine go_aload_n K dX12_happens_94 2 rfl rfl ?_
  refine go_bipush (v := (9 : Int32)) K dX12_happens_95 (by decide) ?_
  obtain ⟨r9, O9, e9, h⟩ := bnd2_e h
  refine go_cVI K (c_X12_draw l G _ _ _ _ _ e9) cf_X12_draw cv_X12_draw km_X12_430 rv_X12 (by decide) rfl rfl (Nat.le_of_ble_eq_true rfl) dX12_happens_97 ?_
  refine go_if_ne (tgt := 123) K dX12_happens_100 (by decide) (fun c10 => ?_) (fun c10 => ?_)
  · replace h := ite_f h c10
    exact go_vret K hr (congrArg (fun z => (C, z)) (Option.some.inj h)) dX12_happens_123
  replace h := ite_t h c10
  refine go_aload_n K dX12_happens_103 2 rfl rfl ?_
  obtain ⟨r11, O11, e11, h⟩ := bnd2_e h
  refine go_cVI K (c_X12_feasts l G _ _ _ _ e11) cf_X12_feasts cv_X12_feasts km_X12_427 rv_X12 (by decide) rfl rfl (Nat.le_of_ble_eq_true rfl) dX12_happens_104 ?_
  refine go_istore_n K dX12_happens_107 rfl (by decide) (lv' := [(3, .int r11), (2, .int r2), (1, .int r1), (0, .ref (gB G + 446))]) rfl ?_
  refine go_goto (tgt := 123) K dX12_happens_108 (by decide) ?_
  exact go_vret K hr (congrArg (fun z => (C, z)) (Option.some.inj h)) dX12_happens_123
noncomputable def X12_weeks_j70 (O : OM) : Option (Int32 × OM) := (bnd (f_X12_keepsNow O) (fun O8 => (some ((O8.1 470 70), O8))))
noncomputable def X12_weeks_l55 (k70 : OM → Option (Int32 × OM)) : Nat → Int32 → Int32 → OM → Option (Int32 × OM)
  | 0, _, _, _ => none
  | n + 1, v2, v3, O => (if v2 ≤ v3 then (k70 O) else (bnd (f_X12_happens O) (fun O7 => (X12_weeks_l55 k70 n v2 (v3 + (1 : Int32)) O7))))
noncomputable def f_X12_weeks (v1 : Int32) (v2 : Int32) (O : OM) : Option (Int32 × OM) := (if (f_X12_in v1 (0 : Int32) (9999 : Int32)) = 0 then (some ((-1 : Int32), O)) else (if (f_X12_in v2 (1 : Int32) (30 : Int32)) = 0 then (some ((-1 : Int32), O)) else (if (O.1 447 0) = 0 then (some ((-1 : Int32), O)) else (bnd (f_X12_keepsStep O) (fun O4 => (bnd (f_X12_laysNow O4) (fun O5 => (X12_weeks_l55 (fun O => (X12_weeks_j70 O)) FU v2 (0 : Int32) (oup O5 470 72 ((v1 * (2 : Int32)) + (97 : Int32)))))))))))
theorem cf_X12_weeks : CF yX12_weeks cX12_weeks 4 (Option.some Jvm.ClassFile.FieldType.int) 2 := ⟨kc_X12_weeks, kj_X12, ⟨by decide +kernel, by decide +kernel, by decide +kernel⟩, by decide⟩
theorem cv_X12_weeks : CFv yX12_weeks := ⟨ki_X12_weeks, ks_X12_weeks⟩
set_option maxHeartbeats 4000000 in
set_option maxRecDepth 100000 in
theorem c_X12_weeks (l : Launch) (G : GT) (v1 : Int32) (v2 : Int32) (C : CM) (O : OM) (res : Int32) (O' : OM) (h : f_X12_weeks v1 v2 O = some (res, O')) : MI l G yX12_weeks cX12_weeks 4 (Option.some Jvm.ClassFile.FieldType.int) (9) [.ref (gB G + 446), .int v1, .int v2] (C, O) res (C, O') := by
  unfold MI
  refine met_in RX12 (by decide +kernel) rfl [(0, .ref (gB G + 446)), (1, .int v1), (2, .int v2)] rfl (Nat.le_of_ble_eq_true rfl) ?_
  intro pM eM sM mM aM bM meM cM K hr
  have hj70 : ∀ (O : OM), X12_weeks_j70 O = some (res, O') → GO pM l eM (9) sM mM aM bM meM cM (MQ bM (va_Qi (fun (r' : Int32) (u : CM × OM) => r' = res ∧ u = (C, O')) (wB G) (Fr G)) aM sM 0 0 (Fr G)) G 4 (C, O) 70 [(0, .ref (gB G + 446))] [] := by
    intro O h
    rw [X12_weeks_j70] at h
    refine go_aload_n K dX12_weeks_70 0 rfl rfl ?_
    obtain ⟨O8, e8, h⟩ := bnd_e h
    refine go_cVV K (c_X12_keepsNow l G _ _ _ e8) cf_X12_keepsNow cv_X12_keepsNow km_X12_421 rv_X12 (by decide) rfl rfl (Nat.le_of_ble_eq_true rfl) dX12_weeks_71 ?_
    refine go_aload_n K dX12_weeks_74 0 rfl rfl ?_
    refine gf_X12 K 40 (by decide) kf_X12_87 (v := .ref (gB G + 470)) rfl dX12_weeks_75 ?_
    refine go_bipush (v := (70 : Int32)) K dX12_weeks_78 (by decide) ?_
    refine go_mald K (Nat.le_of_ble_eq_true rfl) sh_470 (in_k (k := 70) (by decide) (by decide)) rfl dX12_weeks_80 ?_
    exact go_iret K hr (Prod.mk.inj (Option.some.inj h)).1 (congrArg (fun z => (C, z)) (Prod.mk.inj (Option.some.inj h)).2) dX12_weeks_81
  have hl55 : ∀ (n55 : Nat) (v2 : Int32) (v3 : Int32) (O : OM), X12_weeks_l55 (fun O => (X12_weeks_j70 O)) n55 v2 v3 O = some (res, O') → GO pM l eM (9) sM mM aM bM meM cM (MQ bM (va_Qi (fun (r' : Int32) (u : CM × OM) => r' = res ∧ u = (C, O')) (wB G) (Fr G)) aM sM 0 0 (Fr G)) G 4 (C, O) 55 [(0, .ref (gB G + 446)), (2, .int v2), (3, .int v3)] [] := by
    intro n55
    induction n55 with
    | zero =>
      intro v2 v3 O h
      rw [X12_weeks_l55] at h
      cases h
    | succ n55 ih55 =>
      intro v2 v3 O h
      rw [X12_weeks_l55] at h
      refine go_iload_n K dX12_weeks_55 2 rfl rfl ?_
      refine go_iload_n K dX12_weeks_56 1 rfl rfl ?_
      refine go_icmp_ge (tgt := 70) K dX12_weeks_57 (by decide) (fun c6 => ?_) (fun c6 => ?_)
      · replace h := ite_t h c6
        exact go_sub [0] rfl (hj70 _ h)
      replace h := ite_f h c6
      refine go_aload_n K dX12_weeks_60 0 rfl rfl ?_
      obtain ⟨O7, e7, h⟩ := bnd_e h
      refine go_cVV K (c_X12_happens l G _ _ _ e7) cf_X12_happens cv_X12_happens km_X12_433 rv_X12 (by decide) rfl rfl (Nat.le_of_ble_eq_true rfl) dX12_weeks_61 ?_
      refine go_iinc K dX12_weeks_64 2 rfl (v := (v3 + (1 : Int32))) rfl (by decide) (lv' := [(3, .int (v3 + (1 : Int32))), (0, .ref (gB G + 446)), (2, .int v2)]) rfl ?_
      refine go_goto (tgt := 55) K dX12_weeks_67 (by decide) ?_
      exact go_sub [1, 2, 0] rfl (ih55 _ _ _ h)
  rw [f_X12_weeks] at h
  refine go_iload_n K dX12_weeks_0 1 rfl rfl ?_
  refine go_iconst (v := (0 : Int32)) K dX12_weeks_1 (by decide) ?_
  refine go_sipush (v := (9999 : Int32)) K dX12_weeks_2 (by decide) ?_
  refine go_cSI K (c_X12_in l G _ _ _ _ _ _ rfl) cf_X12_in kt_X12_in km_X12_107 (by decide) rfl rfl (Nat.le_of_ble_eq_true rfl) dX12_weeks_5 ?_
  refine go_if_eq (tgt := 30) K dX12_weeks_8 (by decide) (fun c1 => ?_) (fun c1 => ?_)
  · replace h := ite_t h c1
    refine go_iconst (v := (-1 : Int32)) K dX12_weeks_30 (by decide) ?_
    exact go_iret K hr (Prod.mk.inj (Option.some.inj h)).1 (congrArg (fun z => (C, z)) (Prod.mk.inj (Option.some.inj h)).2) dX12_weeks_31
  replace h := ite_f h c1
  refine go_iload_n K dX12_weeks_11 2 rfl rfl ?_
  refine go_iconst (v := (1 : Int32)) K dX12_weeks_12 (by decide) ?_
  refine go_bipush (v := (30 : Int32)) K dX12_weeks_13 (by decide) ?_
  refine go_cSI K (c_X12_in l G _ _ _ _ _ _ rfl) cf_X12_in kt_X12_in km_X12_107 (by decide) rfl rfl (Nat.le_of_ble_eq_true rfl) dX12_weeks_15 ?_
  refine go_if_eq (tgt := 30) K dX12_weeks_18 (by decide) (fun c2 => ?_) (fun c2 => ?_)
  · replace h := ite_t h c2
    refine go_iconst (v := (-1 : Int32)) K dX12_weeks_30 (by decide) ?_
    exact go_iret K hr (Prod.mk.inj (Option.some.inj h)).1 (congrArg (fun z => (C, z)) (Prod.mk.inj (Option.some.inj h)).2) dX12_weeks_31
  replace h := ite_f h c2
  refine go_aload_n K dX12_weeks_21 0 rfl rfl ?_
  refine gf_X12 K 0 (by decide) kf_X12_7 (v := .ref (gB G + 447)) rfl dX12_weeks_22 ?_
  refine go_iconst (v := (0 : Int32)) K dX12_weeks_25 (by decide) ?_
  refine go_mald K (Nat.le_of_ble_eq_true rfl) sh_447 (in_k (k := 0) (by decide) (by decide)) rfl dX12_weeks_26 ?_
  refine go_if_ne (tgt := 32) K dX12_weeks_27 (by decide) (fun c3 => ?_) (fun c3 => ?_)
  rotate_left
  · replace h := ite_t h c3
    refine go_iconst (v := (-1 : Int32)) K dX12_weeks_30 (by decide) ?_
    exact go_iret K hr (Prod.mk.inj (Option.some.inj h)).1 (congrArg (fun z => (C, z)) (Prod.mk.inj (Option.some.inj h)).2) dX12_weeks_31
  replace h := ite_f h c3
  refine go_aload_n K dX12_weeks_32 0 rfl rfl ?_
  obtain ⟨O4, e4, h⟩ := bnd_e h
  refine go_cVV K (c_X12_keepsStep l G _ _ _ e4) cf_X12_keepsStep cv_X12_keepsStep km_X12_415 rv_X12 (by decide) rfl rfl (Nat.le_of_ble_eq_true rfl) dX12_weeks_33 ?_
  refine go_aload_n K dX12_weeks_36 0 rfl rfl ?_
  obtain ⟨O5, e5, h⟩ := bnd_e h
  refine go_cVV K (c_X12_laysNow l G _ _ _ e5) cf_X12_laysNow cv_X12_laysNow km_X12_399 rv_X12 (by decide) rfl rfl (Nat.le_of_ble_eq_true rfl) dX12_weeks_37 ?_
  refine go_aload_n K dX12_weeks_40 0 rfl rfl ?_
  refine gf_X12 K 40 (by decide) kf_X12_87 (v := .ref (gB G + 470)) rfl dX12_weeks_41 ?_
  refine go_bipush (v := (72 : Int32)) K dX12_weeks_44 (by decide) ?_
  refine go_iload_n K dX12_weeks_46 1 rfl rfl ?_
  refine go_iconst (v := (2 : Int32)) K dX12_weeks_47 (by decide) ?_
  refine go_imul K dX12_weeks_48 ?_
  refine go_bipush (v := (97 : Int32)) K dX12_weeks_49 (by decide) ?_
  refine go_iadd K dX12_weeks_51 ?_
  refine go_mast K (Nat.le_of_ble_eq_true rfl) sh_470 (in_k (k := 72) (by decide) (by decide)) rfl dX12_weeks_52 ?_
  refine go_iconst (v := (0 : Int32)) K dX12_weeks_53 (by decide) ?_
  refine go_istore_n K dX12_weeks_54 rfl (by decide) (lv' := [(3, .int (0 : Int32)), (0, .ref (gB G + 446)), (1, .int v1), (2, .int v2)]) rfl ?_
  exact go_sub [1, 3, 0] rfl (hl55 FU _ _ _ h)
noncomputable def X12_hours_l2 : Nat → Int32 → Int32 → OM → Option (Int32 × OM)
  | 0, _, _, _ => none
  | n + 1, v1, v2, O => (if v1 ≤ v2 then (some ((1 : Int32), O)) else (bnd2 (f_X12_hour (1 : Int32) O) (fun r2 O2 => (if r2 = (-1 : Int32) then (some ((0 : Int32), O2)) else (X12_hours_l2 n v1 (v2 + (1 : Int32)) O2)))))
noncomputable def f_X12_hours (v1 : Int32) (O : OM) : Option (Int32 × OM) := (X12_hours_l2 FU v1 (0 : Int32) O)
theorem cf_X12_hours : CF yX12_hours cX12_hours 3 (Option.some Jvm.ClassFile.FieldType.boolean) 1 := ⟨kc_X12_hours, kj_X12, ⟨by decide +kernel, by decide +kernel, by decide +kernel⟩, by decide⟩
theorem cv_X12_hours : CFv yX12_hours := ⟨ki_X12_hours, ks_X12_hours⟩
set_option maxHeartbeats 4000000 in
set_option maxRecDepth 100000 in
theorem c_X12_hours (l : Launch) (G : GT) (v1 : Int32) (C : CM) (O : OM) (res : Int32) (O' : OM) (h : f_X12_hours v1 O = some (res, O')) : MI l G yX12_hours cX12_hours 3 (Option.some Jvm.ClassFile.FieldType.boolean) (9) [.ref (gB G + 446), .int v1] (C, O) res (C, O') := by
  unfold MI
  refine met_in RX12 (by decide +kernel) rfl [(0, .ref (gB G + 446)), (1, .int v1)] rfl (Nat.le_of_ble_eq_true rfl) ?_
  intro pM eM sM mM aM bM meM cM K hr
  have hl2 : ∀ (n2 : Nat) (v1 : Int32) (v2 : Int32) (O : OM), X12_hours_l2 n2 v1 v2 O = some (res, O') → GO pM l eM (9) sM mM aM bM meM cM (MQ bM (va_Qi (fun (r' : Int32) (u : CM × OM) => r' = res ∧ u = (C, O')) (wB G) (Fr G)) aM sM 0 0 (Fr G)) G 3 (C, O) 2 [(0, .ref (gB G + 446)), (1, .int v1), (2, .int v2)] [] := by
    intro n2
    induction n2 with
    | zero =>
      intro v1 v2 O h
      rw [X12_hours_l2] at h
      cases h
    | succ n2 ih2 =>
      intro v1 v2 O h
      rw [X12_hours_l2] at h
      refine go_iload_n K dX12_hours_2 2 rfl rfl ?_
      refine go_iload_n K dX12_hours_3 1 rfl rfl ?_
      refine go_icmp_ge (tgt := 24) K dX12_hours_4 (by decide) (fun c1 => ?_) (fun c1 => ?_)
      · replace h := ite_t h c1
        refine go_iconst (v := (1 : Int32)) K dX12_hours_24 (by decide) ?_
        exact go_zret K hr (by decide) (Prod.mk.inj (Option.some.inj h)).1 (congrArg (fun z => (C, z)) (Prod.mk.inj (Option.some.inj h)).2) dX12_hours_25
      replace h := ite_f h c1
      refine go_aload_n K dX12_hours_7 0 rfl rfl ?_
      refine go_iconst (v := (1 : Int32)) K dX12_hours_8 (by decide) ?_
      obtain ⟨r2, O2, e2, h⟩ := bnd2_e h
      refine go_cVI K (c_X12_hour l G _ _ _ _ _ e2) cf_X12_hour cv_X12_hour km_X12_436 rv_X12 (by decide) rfl rfl (Nat.le_of_ble_eq_true rfl) dX12_hours_9 ?_
      refine go_iconst (v := (-1 : Int32)) K dX12_hours_12 (by decide) ?_
      refine go_icmp_ne (tgt := 18) K dX12_hours_13 (by decide) (fun c3 => ?_) (fun c3 => ?_)
      rotate_left
      · replace h := ite_t h c3
        refine go_iconst (v := (0 : Int32)) K dX12_hours_16 (by decide) ?_
        exact go_zret K hr (by decide) (Prod.mk.inj (Option.some.inj h)).1 (congrArg (fun z => (C, z)) (Prod.mk.inj (Option.some.inj h)).2) dX12_hours_17
      replace h := ite_f h c3
      refine go_iinc K dX12_hours_18 2 rfl (v := (v2 + (1 : Int32))) rfl (by decide) (lv' := [(2, .int (v2 + (1 : Int32))), (0, .ref (gB G + 446)), (1, .int v1)]) rfl ?_
      refine go_goto (tgt := 2) K dX12_hours_21 (by decide) ?_
      exact go_sub [1, 2, 0] rfl (ih2 _ _ _ h)
  rw [f_X12_hours] at h
  refine go_iconst (v := (0 : Int32)) K dX12_hours_0 (by decide) ?_
  refine go_istore_n K dX12_hours_1 rfl (by decide) (lv' := [(2, .int (0 : Int32)), (0, .ref (gB G + 446)), (1, .int v1)]) rfl ?_
  exact go_sub [1, 2, 0] rfl (hl2 FU _ _ _ h)
noncomputable def X12_played_j272 (rc : Int32 → Int32 → OM → Option (Int32 × OM)) (v1 : Int32) (v2 : Int32) (v7 : Int32) (O : OM) : Option (Int32 × OM) := (if v7 = 0 then (some (v2, O)) else (rc v1 (v2 + (1 : Int32)) O))
noncomputable def X12_played_j135 (rc : Int32 → Int32 → OM → Option (Int32 × OM)) (v1 : Int32) (v2 : Int32) (t0 : Int32) (O : OM) : Option (Int32 × OM) := (X12_played_j272 rc v1 v2 t0 O)
noncomputable def X12_played_j157 (rc : Int32 → Int32 → OM → Option (Int32 × OM)) (v1 : Int32) (v2 : Int32) (t0 : Int32) (O : OM) : Option (Int32 × OM) := (X12_played_j272 rc v1 v2 t0 O)
noncomputable def X12_played_j193 (rc : Int32 → Int32 → OM → Option (Int32 × OM)) (v1 : Int32) (v2 : Int32) (t0 : Int32) (O : OM) : Option (Int32 × OM) := (X12_played_j272 rc v1 v2 t0 O)
noncomputable def X12_played_j214 (rc : Int32 → Int32 → OM → Option (Int32 × OM)) (v1 : Int32) (v2 : Int32) (t0 : Int32) (O : OM) : Option (Int32 × OM) := (X12_played_j272 rc v1 v2 t0 O)
noncomputable def X12_played_j238 (rc : Int32 → Int32 → OM → Option (Int32 × OM)) (v1 : Int32) (v2 : Int32) (t0 : Int32) (O : OM) : Option (Int32 × OM) := (X12_played_j272 rc v1 v2 t0 O)
noncomputable def X12_played_j256 (rc : Int32 → Int32 → OM → Option (Int32 × OM)) (v1 : Int32) (v2 : Int32) (t0 : Int32) (O : OM) : Option (Int32 × OM) := (X12_played_j272 rc v1 v2 t0 O)
noncomputable def X12_played_l21 : Nat → Int32 → Int32 → OM → Option (Int32 × OM)
  | 0, _, _, _ => none
  | n + 1, v1, v2, O => (gd (inb v1 4) (if (O.1 450 v1.toNatClampNeg) ≤ v2 then (some ((-1 : Int32), O)) else (gd (inb (((24 : Int32) * v1) + v2) 96) (gd (inb (((24 : Int32) * v1) + v2) 96) (gd (inb (((24 : Int32) * v1) + v2) 96) (gd (inb (((24 : Int32) * v1) + v2) 96) (if (O.1 451 (((24 : Int32) * v1) + v2).toNatClampNeg) = (4 : Int32) then (bnd2 (f_X12_person (O.1 453 (((24 : Int32) * v1) + v2).toNatClampNeg) (O.1 454 (((24 : Int32) * v1) + v2).toNatClampNeg) (O.1 455 (((24 : Int32) * v1) + v2).toNatClampNeg) O) (fun r9 O9 => (if r9 = (-1 : Int32) then (X12_played_j135 (fun v1 v2 O => X12_played_l21 n v1 v2 O) v1 v2 (0 : Int32) O9) else (X12_played_j135 (fun v1 v2 O => X12_played_l21 n v1 v2 O) v1 v2 (1 : Int32) O9)))) else (if (O.1 451 (((24 : Int32) * v1) + v2).toNatClampNeg) = (5 : Int32) then (bnd2 (f_X12_bow (O.1 453 (((24 : Int32) * v1) + v2).toNatClampNeg) (O.1 454 (((24 : Int32) * v1) + v2).toNatClampNeg) O) (fun r13 O13 => (if r13 = (-1 : Int32) then (X12_played_j157 (fun v1 v2 O => X12_played_l21 n v1 v2 O) v1 v2 (0 : Int32) O13) else (X12_played_j157 (fun v1 v2 O => X12_played_l21 n v1 v2 O) v1 v2 (1 : Int32) O13)))) else (if (O.1 451 (((24 : Int32) * v1) + v2).toNatClampNeg) = (6 : Int32) then (bnd2 (f_X12_owe (O.1 453 (((24 : Int32) * v1) + v2).toNatClampNeg) (O.1 454 (((24 : Int32) * v1) + v2).toNatClampNeg) (O.1 455 (((24 : Int32) * v1) + v2).toNatClampNeg) O) (fun r16 O16 => (X12_played_j272 (fun v1 v2 O => X12_played_l21 n v1 v2 O) v1 v2 r16 O16))) else (if (O.1 451 (((24 : Int32) * v1) + v2).toNatClampNeg) = (7 : Int32) then (bnd2 (f_X12_walk (O.1 453 (((24 : Int32) * v1) + v2).toNatClampNeg) (1 : Int32) O) (fun r18 O18 => (if r18 = (-1 : Int32) then (X12_played_j193 (fun v1 v2 O => X12_played_l21 n v1 v2 O) v1 v2 (0 : Int32) O18) else (X12_played_j193 (fun v1 v2 O => X12_played_l21 n v1 v2 O) v1 v2 (1 : Int32) O18)))) else (if (O.1 451 (((24 : Int32) * v1) + v2).toNatClampNeg) = (8 : Int32) then (bnd2 (f_X12_walk (O.1 453 (((24 : Int32) * v1) + v2).toNatClampNeg) (-1 : Int32) O) (fun r21 O21 => (if r21 = (-1 : Int32) then (X12_played_j214 (fun v1 v2 O => X12_played_l21 n v1 v2 O) v1 v2 (0 : Int32) O21) else (X12_played_j214 (fun v1 v2 O => X12_played_l21 n v1 v2 O) v1 v2 (1 : Int32) O21)))) else (if (O.1 451 (((24 : Int32) * v1) + v2).toNatClampNeg) = (9 : Int32) then (bnd2 (f_X12_clear (O.1 453 (((24 : Int32) * v1) + v2).toNatClampNeg) (O.1 454 (((24 : Int32) * v1) + v2).toNatClampNeg) (O.1 455 (((24 : Int32) * v1) + v2).toNatClampNeg) O) (fun r24 O24 => (if r24 = (-1 : Int32) then (X12_played_j238 (fun v1 v2 O => X12_played_l21 n v1 v2 O) v1 v2 (0 : Int32) O24) else (X12_played_j238 (fun v1 v2 O => X12_played_l21 n v1 v2 O) v1 v2 (1 : Int32) O24)))) else (if (O.1 451 (((24 : Int32) * v1) + v2).toNatClampNeg) = (10 : Int32) then (bnd2 (f_X12_feast O) (fun r27 O27 => (if r27 = (-1 : Int32) then (X12_played_j256 (fun v1 v2 O => X12_played_l21 n v1 v2 O) v1 v2 (0 : Int32) O27) else (X12_played_j256 (fun v1 v2 O => X12_played_l21 n v1 v2 O) v1 v2 (1 : Int32) O27)))) else (if (O.1 451 (((24 : Int32) * v1) + v2).toNatClampNeg) = (11 : Int32) then (bnd2 (f_X12_hours (O.1 453 (((24 : Int32) * v1) + v2).toNatClampNeg) O) (fun r30 O30 => (X12_played_j272 (fun v1 v2 O => X12_played_l21 n v1 v2 O) v1 v2 r30 O30))) else (X12_played_j272 (fun v1 v2 O => X12_played_l21 n v1 v2 O) v1 v2 (1 : Int32) O)))))))))))))))
noncomputable def f_X12_played (v1 : Int32) (O : OM) : Option (Int32 × OM) := (if (f_X12_in v1 (0 : Int32) ((O.1 447 1) - (1 : Int32))) = 0 then (some ((-2 : Int32), O)) else (X12_played_l21 FU v1 (0 : Int32) O))
theorem cf_X12_played : CF yX12_played cX12_played 8 (Option.some Jvm.ClassFile.FieldType.int) 1 := ⟨kc_X12_played, kj_X12, ⟨by decide +kernel, by decide +kernel, by decide +kernel⟩, by decide⟩
theorem cv_X12_played : CFv yX12_played := ⟨ki_X12_played, ks_X12_played⟩
set_option maxHeartbeats 4000000 in
set_option maxRecDepth 100000 in
theorem c_X12_played (l : Launch) (G : GT) (v1 : Int32) (C : CM) (O : OM) (res : Int32) (O' : OM) (h : f_X12_played v1 O = some (res, O')) : MI l G yX12_played cX12_played 8 (Option.some Jvm.ClassFile.FieldType.int) (10) [.ref (gB G + 446), .int v1] (C, O) res (C, O') := by
  unfold MI
  refine met_in RX12 (by decide +kernel) rfl [(0, .ref (gB G + 446)), (1, .int v1)] rfl (Nat.le_of_ble_eq_true rfl) ?_
  intro pM eM sM mM aM bM meM cM K hr
  have hl21 : ∀ (n21 : Nat) (v1 : Int32) (v2 : Int32) (O : OM), X12_played_l21 n21 v1 v2 O = some (res, O') → GO pM l eM (10) sM mM aM bM meM cM (MQ bM (va_Qi (fun (r' : Int32) (u : CM × OM) => r' = res ∧ u = (C, O')) (wB G) (Fr G)) aM sM 0 0 (Fr G)) G 8 (C, O) 21 [(0, .ref (gB G + 446)), (1, .int v1), (2, .int v2)] [] := by
    intro n21
    induction n21 with
    | zero =>
      intro v1 v2 O h
      rw [X12_played_l21] at h
      cases h
    | succ n21 ih21 =>
      have hj272 : ∀ (v1 : Int32) (v2 : Int32) (v7 : Int32) (O : OM), X12_played_j272 (fun v1 v2 O => X12_played_l21 n21 v1 v2 O) v1 v2 v7 O = some (res, O') → GO pM l eM (10) sM mM aM bM meM cM (MQ bM (va_Qi (fun (r' : Int32) (u : CM × OM) => r' = res ∧ u = (C, O')) (wB G) (Fr G)) aM sM 0 0 (Fr G)) G 8 (C, O) 272 [(0, .ref (gB G + 446)), (1, .int v1), (2, .int v2), (7, .int v7)] [] := by
        intro v1 v2 v7 O h
        rw [X12_played_j272] at h
        refine go_iload K dX12_played_272 3 rfl ?_
        refine go_if_ne (tgt := 279) K dX12_played_274 (by decide) (fun c11 => ?_) (fun c11 => ?_)
        rotate_left
        · replace h := ite_t h c11
          refine go_iload_n K dX12_played_277 2 rfl rfl ?_
          exact go_iret K hr (Prod.mk.inj (Option.some.inj h)).1 (congrArg (fun z => (C, z)) (Prod.mk.inj (Option.some.inj h)).2) dX12_played_278
        replace h := ite_f h c11
        refine go_iinc K dX12_played_279 2 rfl (v := (v2 + (1 : Int32))) rfl (by decide) (lv' := [(2, .int (v2 + (1 : Int32))), (0, .ref (gB G + 446)), (1, .int v1), (7, .int v7)]) rfl ?_
        refine go_goto (tgt := 21) K dX12_played_282 (by decide) ?_
        exact go_sub [1, 2, 0] rfl (ih21 _ _ _ h)
      have hj135 : ∀ (v1 : Int32) (v2 : Int32) (t0 : Int32) (O : OM), X12_played_j135 (fun v1 v2 O => X12_played_l21 n21 v1 v2 O) v1 v2 t0 O = some (res, O') → GO pM l eM (10) sM mM aM bM meM cM (MQ bM (va_Qi (fun (r' : Int32) (u : CM × OM) => r' = res ∧ u = (C, O')) (wB G) (Fr G)) aM sM 0 0 (Fr G)) G 8 (C, O) 135 [(0, .ref (gB G + 446)), (1, .int v1), (2, .int v2)] [.int t0] := by
        intro v1 v2 t0 O h
        rw [X12_played_j135] at h
        refine go_istore K dX12_played_135 (by decide) (lv' := [(7, .int t0), (0, .ref (gB G + 446)), (1, .int v1), (2, .int v2)]) rfl ?_
        refine go_goto (tgt := 272) K dX12_played_137 (by decide) ?_
        exact go_sub [1, 2, 3, 0] rfl (hj272 _ _ _ _ h)
      have hj157 : ∀ (v1 : Int32) (v2 : Int32) (t0 : Int32) (O : OM), X12_played_j157 (fun v1 v2 O => X12_played_l21 n21 v1 v2 O) v1 v2 t0 O = some (res, O') → GO pM l eM (10) sM mM aM bM meM cM (MQ bM (va_Qi (fun (r' : Int32) (u : CM × OM) => r' = res ∧ u = (C, O')) (wB G) (Fr G)) aM sM 0 0 (Fr G)) G 8 (C, O) 157 [(0, .ref (gB G + 446)), (1, .int v1), (2, .int v2)] [.int t0] := by
        intro v1 v2 t0 O h
        rw [X12_played_j157] at h
        refine go_istore K dX12_played_157 (by decide) (lv' := [(7, .int t0), (0, .ref (gB G + 446)), (1, .int v1), (2, .int v2)]) rfl ?_
        refine go_goto (tgt := 272) K dX12_played_159 (by decide) ?_
        exact go_sub [1, 2, 3, 0] rfl (hj272 _ _ _ _ h)
      have hj193 : ∀ (v1 : Int32) (v2 : Int32) (t0 : Int32) (O : OM), X12_played_j193 (fun v1 v2 O => X12_played_l21 n21 v1 v2 O) v1 v2 t0 O = some (res, O') → GO pM l eM (10) sM mM aM bM meM cM (MQ bM (va_Qi (fun (r' : Int32) (u : CM × OM) => r' = res ∧ u = (C, O')) (wB G) (Fr G)) aM sM 0 0 (Fr G)) G 8 (C, O) 193 [(0, .ref (gB G + 446)), (1, .int v1), (2, .int v2)] [.int t0] := by
        intro v1 v2 t0 O h
        rw [X12_played_j193] at h
        refine go_istore K dX12_played_193 (by decide) (lv' := [(7, .int t0), (0, .ref (gB G + 446)), (1, .int v1), (2, .int v2)]) rfl ?_
        refine go_goto (tgt := 272) K dX12_played_195 (by decide) ?_
        exact go_sub [1, 2, 3, 0] rfl (hj272 _ _ _ _ h)
      have hj214 : ∀ (v1 : Int32) (v2 : Int32) (t0 : Int32) (O : OM), X12_played_j214 (fun v1 v2 O => X12_played_l21 n21 v1 v2 O) v1 v2 t0 O = some (res, O') → GO pM l eM (10) sM mM aM bM meM cM (MQ bM (va_Qi (fun (r' : Int32) (u : CM × OM) => r' = res ∧ u = (C, O')) (wB G) (Fr G)) aM sM 0 0 (Fr G)) G 8 (C, O) 214 [(0, .ref (gB G + 446)), (1, .int v1), (2, .int v2)] [.int t0] := by
        intro v1 v2 t0 O h
        rw [X12_played_j214] at h
        refine go_istore K dX12_played_214 (by decide) (lv' := [(7, .int t0), (0, .ref (gB G + 446)), (1, .int v1), (2, .int v2)]) rfl ?_
        refine go_goto (tgt := 272) K dX12_played_216 (by decide) ?_
        exact go_sub [1, 2, 3, 0] rfl (hj272 _ _ _ _ h)
      have hj238 : ∀ (v1 : Int32) (v2 : Int32) (t0 : Int32) (O : OM), X12_played_j238 (fun v1 v2 O => X12_played_l21 n21 v1 v2 O) v1 v2 t0 O = some (res, O') → GO pM l eM (10) sM mM aM bM meM cM (MQ bM (va_Qi (fun (r' : Int32) (u : CM × OM) => r' = res ∧ u = (C, O')) (wB G) (Fr G)) aM sM 0 0 (Fr G)) G 8 (C, O) 238 [(0, .ref (gB G + 446)), (1, .int v1), (2, .int v2)] [.int t0] := by
        intro v1 v2 t0 O h
        rw [X12_played_j238] at h
        refine go_istore K dX12_played_238 (by decide) (lv' := [(7, .int t0), (0, .ref (gB G + 446)), (1, .int v1), (2, .int v2)]) rfl ?_
        refine go_goto (tgt := 272) K dX12_played_240 (by decide) ?_
        exact go_sub [1, 2, 3, 0] rfl (hj272 _ _ _ _ h)
      have hj256 : ∀ (v1 : Int32) (v2 : Int32) (t0 : Int32) (O : OM), X12_played_j256 (fun v1 v2 O => X12_played_l21 n21 v1 v2 O) v1 v2 t0 O = some (res, O') → GO pM l eM (10) sM mM aM bM meM cM (MQ bM (va_Qi (fun (r' : Int32) (u : CM × OM) => r' = res ∧ u = (C, O')) (wB G) (Fr G)) aM sM 0 0 (Fr G)) G 8 (C, O) 256 [(0, .ref (gB G + 446)), (1, .int v1), (2, .int v2)] [.int t0] := by
        intro v1 v2 t0 O h
        rw [X12_played_j256] at h
        refine go_istore K dX12_played_256 (by decide) (lv' := [(7, .int t0), (0, .ref (gB G + 446)), (1, .int v1), (2, .int v2)]) rfl ?_
        refine go_goto (tgt := 272) K dX12_played_258 (by decide) ?_
        exact go_sub [1, 2, 3, 0] rfl (hj272 _ _ _ _ h)
      intro v1 v2 O h
      rw [X12_played_l21] at h
      refine go_iload_n K dX12_played_21 2 rfl rfl ?_
      refine go_aload_n K dX12_played_22 0 rfl rfl ?_
      refine gf_X12 K 6 (by decide) kf_X12_27 (v := .ref (gB G + 450)) rfl dX12_played_23 ?_
      refine go_iload_n K dX12_played_26 1 rfl rfl ?_
      obtain ⟨g2, h⟩ := gd_e h
      refine go_mald K (Nat.le_of_ble_eq_true rfl) sh_450 g2 rfl dX12_played_27 ?_
      refine go_icmp_ge (tgt := 285) K dX12_played_28 (by decide) (fun c3 => ?_) (fun c3 => ?_)
      · replace h := ite_t h c3
        refine go_iconst (v := (-1 : Int32)) K dX12_played_285 (by decide) ?_
        exact go_iret K hr (Prod.mk.inj (Option.some.inj h)).1 (congrArg (fun z => (C, z)) (Prod.mk.inj (Option.some.inj h)).2) dX12_played_286
      replace h := ite_f h c3
      refine go_bipush (v := (24 : Int32)) K dX12_played_31 (by decide) ?_
      refine go_iload_n K dX12_played_33 1 rfl rfl ?_
      refine go_imul K dX12_played_34 ?_
      refine go_iload_n K dX12_played_35 2 rfl rfl ?_
      refine go_iadd K dX12_played_36 ?_
      refine go_istore_n K dX12_played_37 rfl (by decide) (lv' := [(3, .int (((24 : Int32) * v1) + v2)), (0, .ref (gB G + 446)), (1, .int v1), (2, .int v2)]) rfl ?_
      refine go_aload_n K dX12_played_38 1 rfl rfl ?_
      refine gf_X12 K 9 (by decide) kf_X12_36 (v := .ref (gB G + 453)) rfl dX12_played_39 ?_
      refine go_iload_n K dX12_played_42 0 rfl rfl ?_
      obtain ⟨g4, h⟩ := gd_e h
      refine go_mald K (Nat.le_of_ble_eq_true rfl) sh_453 g4 rfl dX12_played_43 ?_
      refine go_istore K dX12_played_44 (by decide) (lv' := [(4, .int (O.1 453 (((24 : Int32) * v1) + v2).toNatClampNeg)), (3, .int (((24 : Int32) * v1) + v2)), (0, .ref (gB G + 446)), (1, .int v1), (2, .int v2)]) rfl ?_
      refine go_aload_n K dX12_played_46 2 rfl rfl ?_
      refine gf_X12 K 10 (by decide) kf_X12_39 (v := .ref (gB G + 454)) rfl dX12_played_47 ?_
      refine go_iload_n K dX12_played_50 1 rfl rfl ?_
      obtain ⟨g5, h⟩ := gd_e h
      refine go_mald K (Nat.le_of_ble_eq_true rfl) sh_454 g5 rfl dX12_played_51 ?_
      refine go_istore K dX12_played_52 (by decide) (lv' := [(5, .int (O.1 454 (((24 : Int32) * v1) + v2).toNatClampNeg)), (4, .int (O.1 453 (((24 : Int32) * v1) + v2).toNatClampNeg)), (3, .int (((24 : Int32) * v1) + v2)), (0, .ref (gB G + 446)), (1, .int v1), (2, .int v2)]) rfl ?_
      refine go_aload_n K dX12_played_54 3 rfl rfl ?_
      refine gf_X12 K 11 (by decide) kf_X12_42 (v := .ref (gB G + 455)) rfl dX12_played_55 ?_
      refine go_iload_n K dX12_played_58 2 rfl rfl ?_
      obtain ⟨g6, h⟩ := gd_e h
      refine go_mald K (Nat.le_of_ble_eq_true rfl) sh_455 g6 rfl dX12_played_59 ?_
      refine go_istore K dX12_played_60 (by decide) (lv' := [(6, .int (O.1 455 (((24 : Int32) * v1) + v2).toNatClampNeg)), (5, .int (O.1 454 (((24 : Int32) * v1) + v2).toNatClampNeg)), (4, .int (O.1 453 (((24 : Int32) * v1) + v2).toNatClampNeg)), (3, .int (((24 : Int32) * v1) + v2)), (0, .ref (gB G + 446)), (1, .int v1), (2, .int v2)]) rfl ?_
      refine go_iconst (v := (1 : Int32)) K dX12_played_62 (by decide) ?_
      refine go_istore K dX12_played_63 (by decide) (lv' := [(7, .int (1 : Int32)), (6, .int (O.1 455 (((24 : Int32) * v1) + v2).toNatClampNeg)), (5, .int (O.1 454 (((24 : Int32) * v1) + v2).toNatClampNeg)), (4, .int (O.1 453 (((24 : Int32) * v1) + v2).toNatClampNeg)), (3, .int (((24 : Int32) * v1) + v2)), (0, .ref (gB G + 446)), (1, .int v1), (2, .int v2)]) rfl ?_
      refine go_aload_n K dX12_played_65 5 rfl rfl ?_
      refine gf_X12 K 7 (by decide) kf_X12_30 (v := .ref (gB G + 451)) rfl dX12_played_66 ?_
      refine go_iload_n K dX12_played_69 4 rfl rfl ?_
      obtain ⟨g7, h⟩ := gd_e h
      refine go_mald K (Nat.le_of_ble_eq_true rfl) sh_451 g7 rfl dX12_played_70 ?_
      by_cases c8 : (O.1 451 (((24 : Int32) * v1) + v2).toNatClampNeg) = (4 : Int32)
      · refine go_tableIn K dX12_played_71 (by rw [c8]; decide) (by rw [c8]; decide) (off := 45) (by rw [c8]; decide) (tgt := 116) (by decide) ?_
        replace h := ite_t h c8
        refine go_aload_n K dX12_played_116 5 rfl rfl ?_
        refine go_iload K dX12_played_117 3 rfl ?_
        refine go_iload K dX12_played_119 2 rfl ?_
        refine go_iload K dX12_played_121 1 rfl ?_
        obtain ⟨r9, O9, e9, h⟩ := bnd2_e h
        refine go_cVI K (c_X12_person l G _ _ _ _ _ _ _ e9) cf_X12_person cv_X12_person km_X12_439 rv_X12 (by decide) rfl rfl (Nat.le_of_ble_eq_true rfl) dX12_played_123 ?_
        refine go_iconst (v := (-1 : Int32)) K dX12_played_126 (by decide) ?_
        refine go_icmp_eq (tgt := 134) K dX12_played_127 (by decide) (fun c10 => ?_) (fun c10 => ?_)
        · replace h := ite_t h c10
          refine go_iconst (v := (0 : Int32)) K dX12_played_134 (by decide) ?_
          exact go_sub [5, 6, 7] rfl (hj135 _ _ _ _ h)
        replace h := ite_f h c10
        refine go_iconst (v := (1 : Int32)) K dX12_played_130 (by decide) ?_
        refine go_goto (tgt := 135) K dX12_played_131 (by decide) ?_
        exact go_sub [5, 6, 7] rfl (hj135 _ _ _ _ h)
      replace h := ite_f h c8
      by_cases c12 : (O.1 451 (((24 : Int32) * v1) + v2).toNatClampNeg) = (5 : Int32)
      · refine go_tableIn K dX12_played_71 (by rw [c12]; decide) (by rw [c12]; decide) (off := 69) (by rw [c12]; decide) (tgt := 140) (by decide) ?_
        replace h := ite_t h c12
        refine go_aload_n K dX12_played_140 5 rfl rfl ?_
        refine go_iload K dX12_played_141 3 rfl ?_
        refine go_iload K dX12_played_143 2 rfl ?_
        obtain ⟨r13, O13, e13, h⟩ := bnd2_e h
        refine go_cVI K (c_X12_bow l G _ _ _ _ _ _ e13) cf_X12_bow cv_X12_bow km_X12_442 rv_X12 (by decide) rfl rfl (Nat.le_of_ble_eq_true rfl) dX12_played_145 ?_
        refine go_iconst (v := (-1 : Int32)) K dX12_played_148 (by decide) ?_
        refine go_icmp_eq (tgt := 156) K dX12_played_149 (by decide) (fun c14 => ?_) (fun c14 => ?_)
        · replace h := ite_t h c14
          refine go_iconst (v := (0 : Int32)) K dX12_played_156 (by decide) ?_
          exact go_sub [5, 6, 7] rfl (hj157 _ _ _ _ h)
        replace h := ite_f h c14
        refine go_iconst (v := (1 : Int32)) K dX12_played_152 (by decide) ?_
        refine go_goto (tgt := 157) K dX12_played_153 (by decide) ?_
        exact go_sub [5, 6, 7] rfl (hj157 _ _ _ _ h)
      replace h := ite_f h c12
      by_cases c15 : (O.1 451 (((24 : Int32) * v1) + v2).toNatClampNeg) = (6 : Int32)
      · refine go_tableIn K dX12_played_71 (by rw [c15]; decide) (by rw [c15]; decide) (off := 91) (by rw [c15]; decide) (tgt := 162) (by decide) ?_
        replace h := ite_t h c15
        refine go_aload_n K dX12_played_162 5 rfl rfl ?_
        refine go_iload K dX12_played_163 3 rfl ?_
        refine go_iload K dX12_played_165 2 rfl ?_
        refine go_iload K dX12_played_167 1 rfl ?_
        obtain ⟨r16, O16, e16, h⟩ := bnd2_e h
        refine go_cVI K (c_X12_owe l G _ _ _ _ _ _ _ e16) cf_X12_owe cv_X12_owe km_X12_445 rv_X12 (by decide) rfl rfl (Nat.le_of_ble_eq_true rfl) dX12_played_169 ?_
        refine go_istore K dX12_played_172 (by decide) (lv' := [(7, .int r16), (6, .int (O.1 455 (((24 : Int32) * v1) + v2).toNatClampNeg)), (5, .int (O.1 454 (((24 : Int32) * v1) + v2).toNatClampNeg)), (4, .int (O.1 453 (((24 : Int32) * v1) + v2).toNatClampNeg)), (3, .int (((24 : Int32) * v1) + v2)), (0, .ref (gB G + 446)), (1, .int v1), (2, .int v2)]) rfl ?_
        refine go_goto (tgt := 272) K dX12_played_174 (by decide) ?_
        exact go_sub [5, 6, 7, 0] rfl (hj272 _ _ _ _ h)
      replace h := ite_f h c15
      by_cases c17 : (O.1 451 (((24 : Int32) * v1) + v2).toNatClampNeg) = (7 : Int32)
      · refine go_tableIn K dX12_played_71 (by rw [c17]; decide) (by rw [c17]; decide) (off := 106) (by rw [c17]; decide) (tgt := 177) (by decide) ?_
        replace h := ite_t h c17
        refine go_aload_n K dX12_played_177 5 rfl rfl ?_
        refine go_iload K dX12_played_178 3 rfl ?_
        refine go_iconst (v := (1 : Int32)) K dX12_played_180 (by decide) ?_
        obtain ⟨r18, O18, e18, h⟩ := bnd2_e h
        refine go_cVI K (c_X12_walk l G _ _ _ _ _ _ e18) cf_X12_walk cv_X12_walk km_X12_448 rv_X12 (by decide) rfl rfl (Nat.le_of_ble_eq_true rfl) dX12_played_181 ?_
        refine go_iconst (v := (-1 : Int32)) K dX12_played_184 (by decide) ?_
        refine go_icmp_eq (tgt := 192) K dX12_played_185 (by decide) (fun c19 => ?_) (fun c19 => ?_)
        · replace h := ite_t h c19
          refine go_iconst (v := (0 : Int32)) K dX12_played_192 (by decide) ?_
          exact go_sub [5, 6, 7] rfl (hj193 _ _ _ _ h)
        replace h := ite_f h c19
        refine go_iconst (v := (1 : Int32)) K dX12_played_188 (by decide) ?_
        refine go_goto (tgt := 193) K dX12_played_189 (by decide) ?_
        exact go_sub [5, 6, 7] rfl (hj193 _ _ _ _ h)
      replace h := ite_f h c17
      by_cases c20 : (O.1 451 (((24 : Int32) * v1) + v2).toNatClampNeg) = (8 : Int32)
      · refine go_tableIn K dX12_played_71 (by rw [c20]; decide) (by rw [c20]; decide) (off := 127) (by rw [c20]; decide) (tgt := 198) (by decide) ?_
        replace h := ite_t h c20
        refine go_aload_n K dX12_played_198 5 rfl rfl ?_
        refine go_iload K dX12_played_199 3 rfl ?_
        refine go_iconst (v := (-1 : Int32)) K dX12_played_201 (by decide) ?_
        obtain ⟨r21, O21, e21, h⟩ := bnd2_e h
        refine go_cVI K (c_X12_walk l G _ _ _ _ _ _ e21) cf_X12_walk cv_X12_walk km_X12_448 rv_X12 (by decide) rfl rfl (Nat.le_of_ble_eq_true rfl) dX12_played_202 ?_
        refine go_iconst (v := (-1 : Int32)) K dX12_played_205 (by decide) ?_
        refine go_icmp_eq (tgt := 213) K dX12_played_206 (by decide) (fun c22 => ?_) (fun c22 => ?_)
        · replace h := ite_t h c22
          refine go_iconst (v := (0 : Int32)) K dX12_played_213 (by decide) ?_
          exact go_sub [5, 6, 7] rfl (hj214 _ _ _ _ h)
        replace h := ite_f h c22
        refine go_iconst (v := (1 : Int32)) K dX12_played_209 (by decide) ?_
        refine go_goto (tgt := 214) K dX12_played_210 (by decide) ?_
        exact go_sub [5, 6, 7] rfl (hj214 _ _ _ _ h)
      replace h := ite_f h c20
      by_cases c23 : (O.1 451 (((24 : Int32) * v1) + v2).toNatClampNeg) = (9 : Int32)
      · refine go_tableIn K dX12_played_71 (by rw [c23]; decide) (by rw [c23]; decide) (off := 148) (by rw [c23]; decide) (tgt := 219) (by decide) ?_
        replace h := ite_t h c23
        refine go_aload_n K dX12_played_219 5 rfl rfl ?_
        refine go_iload K dX12_played_220 3 rfl ?_
        refine go_iload K dX12_played_222 2 rfl ?_
        refine go_iload K dX12_played_224 1 rfl ?_
        obtain ⟨r24, O24, e24, h⟩ := bnd2_e h
        refine go_cVI K (c_X12_clear l G _ _ _ _ _ _ _ e24) cf_X12_clear cv_X12_clear km_X12_451 rv_X12 (by decide) rfl rfl (Nat.le_of_ble_eq_true rfl) dX12_played_226 ?_
        refine go_iconst (v := (-1 : Int32)) K dX12_played_229 (by decide) ?_
        refine go_icmp_eq (tgt := 237) K dX12_played_230 (by decide) (fun c25 => ?_) (fun c25 => ?_)
        · replace h := ite_t h c25
          refine go_iconst (v := (0 : Int32)) K dX12_played_237 (by decide) ?_
          exact go_sub [5, 6, 7] rfl (hj238 _ _ _ _ h)
        replace h := ite_f h c25
        refine go_iconst (v := (1 : Int32)) K dX12_played_233 (by decide) ?_
        refine go_goto (tgt := 238) K dX12_played_234 (by decide) ?_
        exact go_sub [5, 6, 7] rfl (hj238 _ _ _ _ h)
      replace h := ite_f h c23
      by_cases c26 : (O.1 451 (((24 : Int32) * v1) + v2).toNatClampNeg) = (10 : Int32)
      · refine go_tableIn K dX12_played_71 (by rw [c26]; decide) (by rw [c26]; decide) (off := 172) (by rw [c26]; decide) (tgt := 243) (by decide) ?_
        replace h := ite_t h c26
        refine go_aload_n K dX12_played_243 5 rfl rfl ?_
        obtain ⟨r27, O27, e27, h⟩ := bnd2_e h
        refine go_cVI K (c_X12_feast l G _ _ _ _ e27) cf_X12_feast cv_X12_feast km_X12_454 rv_X12 (by decide) rfl rfl (Nat.le_of_ble_eq_true rfl) dX12_played_244 ?_
        refine go_iconst (v := (-1 : Int32)) K dX12_played_247 (by decide) ?_
        refine go_icmp_eq (tgt := 255) K dX12_played_248 (by decide) (fun c28 => ?_) (fun c28 => ?_)
        · replace h := ite_t h c28
          refine go_iconst (v := (0 : Int32)) K dX12_played_255 (by decide) ?_
          exact go_sub [5, 6, 7] rfl (hj256 _ _ _ _ h)
        replace h := ite_f h c28
        refine go_iconst (v := (1 : Int32)) K dX12_played_251 (by decide) ?_
        refine go_goto (tgt := 256) K dX12_played_252 (by decide) ?_
        exact go_sub [5, 6, 7] rfl (hj256 _ _ _ _ h)
      replace h := ite_f h c26
      by_cases c29 : (O.1 451 (((24 : Int32) * v1) + v2).toNatClampNeg) = (11 : Int32)
      · refine go_tableIn K dX12_played_71 (by rw [c29]; decide) (by rw [c29]; decide) (off := 190) (by rw [c29]; decide) (tgt := 261) (by decide) ?_
        replace h := ite_t h c29
        refine go_aload_n K dX12_played_261 5 rfl rfl ?_
        refine go_iload K dX12_played_262 3 rfl ?_
        obtain ⟨r30, O30, e30, h⟩ := bnd2_e h
        refine go_cVI K (c_X12_hours l G _ _ _ _ _ e30) cf_X12_hours cv_X12_hours km_X12_457 rv_X12 (by decide) rfl rfl (Nat.le_of_ble_eq_true rfl) dX12_played_264 ?_
        refine go_istore K dX12_played_267 (by decide) (lv' := [(7, .int r30), (6, .int (O.1 455 (((24 : Int32) * v1) + v2).toNatClampNeg)), (5, .int (O.1 454 (((24 : Int32) * v1) + v2).toNatClampNeg)), (4, .int (O.1 453 (((24 : Int32) * v1) + v2).toNatClampNeg)), (3, .int (((24 : Int32) * v1) + v2)), (0, .ref (gB G + 446)), (1, .int v1), (2, .int v2)]) rfl ?_
        refine go_goto (tgt := 272) K dX12_played_269 (by decide) ?_
        exact go_sub [5, 6, 7, 0] rfl (hj272 _ _ _ _ h)
      replace h := ite_f h c29
      have c8 := sw_ne c8 (k := 4) (by decide)
      have c12 := sw_ne c12 (k := 5) (by decide)
      have c15 := sw_ne c15 (k := 6) (by decide)
      have c17 := sw_ne c17 (k := 7) (by decide)
      have c20 := sw_ne c20 (k := 8) (by decide)
      have c23 := sw_ne c23 (k := 9) (by decide)
      have c26 := sw_ne c26 (k := 10) (by decide)
      have c29 := sw_ne c29 (k := 11) (by decide)
      refine go_tableOut (tgt := 272) K dX12_played_71 (show ((O.1 451 (((24 : Int32) * v1) + v2).toNatClampNeg)).toInt < 4 ∨ 11 < ((O.1 451 (((24 : Int32) * v1) + v2).toNatClampNeg)).toInt from by omega) (by decide) ?_
      exact go_sub [5, 6, 7, 0] rfl (hj272 _ _ _ _ h)
  rw [f_X12_played] at h
  refine go_iload_n K dX12_played_0 1 rfl rfl ?_
  refine go_iconst (v := (0 : Int32)) K dX12_played_1 (by decide) ?_
  refine go_aload_n K dX12_played_2 0 rfl rfl ?_
  refine gf_X12 K 0 (by decide) kf_X12_7 (v := .ref (gB G + 447)) rfl dX12_played_3 ?_
  refine go_iconst (v := (1 : Int32)) K dX12_played_6 (by decide) ?_
  refine go_mald K (Nat.le_of_ble_eq_true rfl) sh_447 (in_k (k := 1) (by decide) (by decide)) rfl dX12_played_7 ?_
  refine go_iconst (v := (1 : Int32)) K dX12_played_8 (by decide) ?_
  refine go_isub K dX12_played_9 ?_
  refine go_cSI K (c_X12_in l G _ _ _ _ _ _ rfl) cf_X12_in kt_X12_in km_X12_107 (by decide) rfl rfl (Nat.le_of_ble_eq_true rfl) dX12_played_10 ?_
  refine go_if_ne (tgt := 19) K dX12_played_13 (by decide) (fun c1 => ?_) (fun c1 => ?_)
  rotate_left
  · replace h := ite_t h c1
    refine go_bipush (v := (-2 : Int32)) K dX12_played_16 (by decide) ?_
    exact go_iret K hr (Prod.mk.inj (Option.some.inj h)).1 (congrArg (fun z => (C, z)) (Prod.mk.inj (Option.some.inj h)).2) dX12_played_18
  replace h := ite_f h c1
  refine go_iconst (v := (0 : Int32)) K dX12_played_19 (by decide) ?_
  refine go_istore_n K dX12_played_20 rfl (by decide) (lv' := [(2, .int (0 : Int32)), (0, .ref (gB G + 446)), (1, .int v1)]) rfl ?_
  exact go_sub [1, 2, 0] rfl (hl21 FU _ _ _ h)
