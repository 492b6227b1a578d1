noncomputable def f_X8_rewind (C : CM) : Option CM := (bnd (f_X8_next (up2 C 404 5 (0 : Int32))) (fun C1 => (some C1)))
theorem cf_X8_rewind : CF yX8_rewind cX8_rewind 1 (Option.none : Option Jvm.ClassFile.FieldType) 0 := ⟨kc_X8_rewind, kj_X8, ⟨by decide +kernel, by decide +kernel, by decide +kernel⟩, by decide⟩
theorem cv_X8_rewind : CFv yX8_rewind := ⟨ki_X8_rewind, ks_X8_rewind⟩
set_option maxHeartbeats 4000000 in
set_option maxRecDepth 100000 in
theorem c_X8_rewind (l : Launch) (G : GT) (C : CM) (O : OM) (C' : CM) (h : f_X8_rewind C = some C') : MV l G yX8_rewind cX8_rewind 1 (Option.none : Option Jvm.ClassFile.FieldType) (9) [.ref (gB G + 404)] (C, O) (C', O) := by
  unfold MV
  refine met_in RX8 (by decide +kernel) rfl [(0, .ref (gB G + 404))] rfl (Nat.le_of_ble_eq_true rfl) ?_
  intro pM eM sM mM aM bM meM cM K hr
  rw [f_X8_rewind] at h
  refine go_aload_n K dX8_rewind_0 0 rfl rfl ?_
  refine go_iconst (v := (0 : Int32)) K dX8_rewind_1 (by decide) ?_
  refine pf_X8 K 5 (by decide) kf_X8_23 rfl rfl rfl dX8_rewind_2 ?_
  refine go_aload_n K dX8_rewind_5 0 rfl rfl ?_
  obtain ⟨C1, e1, h⟩ := bnd_e h
  refine go_cVV K (c_X8_next l G _ _ _ e1) cf_X8_next cv_X8_next km_X8_26 rv_X8 (by decide) rfl rfl (Nat.le_of_ble_eq_true rfl) dX8_rewind_6 ?_
  exact go_vret K hr (congrArg (fun z => (z, O)) (Option.some.inj h)) dX8_rewind_9
noncomputable def f_X1_rule (q t : Nat) (C : CM) : Option CM := (some (up2 C (laI q) 5 (nI t)))
theorem cf_X1_rule : CF yX1_rule cX1_rule 2 (Option.none : Option Jvm.ClassFile.FieldType) 1 := ⟨kc_X1_rule, kj_X1, ⟨by decide +kernel, by decide +kernel, by decide +kernel⟩, by decide⟩
theorem cv_X1_rule : CFv yX1_rule := ⟨ki_X1_rule, ks_X1_rule⟩
set_option maxHeartbeats 4000000 in
set_option maxRecDepth 100000 in
theorem c_X1_rule (l : Launch) (G : GT) {t : Nat} {q : Nat} (hq : q < 2) (ht : ScAt t) (C : CM) (O : OM) (C' : CM) (h : f_X1_rule q t C = some C') : MV l G yX1_rule cX1_rule 2 (Option.none : Option Jvm.ClassFile.FieldType) (1) [.ref (gB G + laI q), .ref (gB G + t)] (C, O) (C', O) := by
  unfold MV
  refine met_in RX1 (by decide +kernel) rfl [(0, .ref (gB G + laI q)), (1, .ref (gB G + t))] rfl (Nat.le_of_ble_eq_true rfl) ?_
  intro pM eM sM mM aM bM meM cM K hr
  rw [f_X1_rule] at h
  refine go_aload_n K dX1_rule_0 0 rfl rfl ?_
  refine go_aload_n K dX1_rule_1 1 rfl rfl ?_
  refine pf_script K hq (ht) kf_X1_26 dX1_rule_2 ?_
  exact go_vret K hr (congrArg (fun z => (z, O)) (Option.some.inj h)) dX1_rule_5
noncomputable def f_X1_has (q : Nat) (v1 : Int32) (C : CM) : Option Int32 := (gd (isSc ((C (laI q) 5).toNatClampNeg)) (gd (isSc ((C (laI q) 5).toNatClampNeg)) (bnd (f_X6_has ((C (laI q) 5).toNatClampNeg) v1 C) (fun r3 => (if r3 = 0 then (some (0 : Int32)) else (some (1 : Int32)))))))
theorem cf_X1_has : CF yX1_has cX1_has 2 (Option.some Jvm.ClassFile.FieldType.boolean) 1 := ⟨kc_X1_has, kj_X1, ⟨by decide +kernel, by decide +kernel, by decide +kernel⟩, by decide⟩
theorem cv_X1_has : CFv yX1_has := ⟨ki_X1_has, ks_X1_has⟩
set_option maxHeartbeats 4000000 in
set_option maxRecDepth 100000 in
theorem c_X1_has (l : Launch) (G : GT) {q : Nat} (hq : q < 2) (v1 : Int32) (C : CM) (O : OM) (res : Int32) (h : f_X1_has q v1 C = some res) : MI l G yX1_has cX1_has 2 (Option.some Jvm.ClassFile.FieldType.boolean) (3) [.ref (gB G + laI q), .int v1] (C, O) res (C, O) := by
  unfold MI
  refine met_in RX1 (by decide +kernel) rfl [(0, .ref (gB G + laI q)), (1, .int v1)] rfl (Nat.le_of_ble_eq_true rfl) ?_
  intro pM eM sM mM aM bM meM cM K hr
  rw [f_X1_has] at h
  refine go_aload_n K dX1_has_0 0 rfl rfl ?_
  obtain ⟨g1, h⟩ := gd_e h
  refine gf_X1 K hq 5 (by decide) kf_X1_26 (v := .ref (gB G + ((C (laI q) 5).toNatClampNeg))) rfl dX1_has_1 ?_
  refine go_ifnull K dX1_has_4 ?_
  refine go_aload_n K dX1_has_7 0 rfl rfl ?_
  obtain ⟨g2, h⟩ := gd_e h
  refine gf_X1 K hq 5 (by decide) kf_X1_26 (v := .ref (gB G + ((C (laI q) 5).toNatClampNeg))) rfl dX1_has_8 ?_
  refine go_iload_n K dX1_has_11 1 rfl rfl ?_
  obtain ⟨r3, e3, h⟩ := bnd_e h
  refine go_cVI K (c_X6_has l G (isSc_at g2) _ _ _ _ e3) cf_X6_has cv_X6_has km_X1_52 (rv_X6 (isSc_at g2)) (by decide) rfl rfl (Nat.le_of_ble_eq_true rfl) dX1_has_12 ?_
  refine go_if_eq (tgt := 22) K dX1_has_15 (by decide) (fun c4 => ?_) (fun c4 => ?_)
  · replace h := ite_t h c4
    refine go_iconst (v := (0 : Int32)) K dX1_has_22 (by decide) ?_
    exact go_zret K hr (by decide) (Option.some.inj h) rfl dX1_has_23
  replace h := ite_f h c4
  refine go_iconst (v := (1 : Int32)) K dX1_has_18 (by decide) ?_
  refine go_goto (tgt := 23) K dX1_has_19 (by decide) ?_
  exact go_zret K hr (by decide) (Option.some.inj h) rfl dX1_has_23
noncomputable def f_X1_name (q : Nat) (v1 : Int32) (v2 : Int32) (v3 : Int32) (C : CM) : Option CM := (bnd (f_X7_leftOf (stI q) v1 (up2 C (laI q + 1) 0 (C (stI q) 2))) (fun r1 => (bnd (f_X3_ageOf v1 (up2 (up2 (up2 (up2 C (laI q + 1) 0 (C (stI q) 2)) (laI q + 1) 1 r1) (laI q + 1) 2 ((up2 (up2 C (laI q + 1) 0 (C (stI q) 2)) (laI q + 1) 1 r1) (stI q) 1)) (laI q + 1) 3 v1)) (fun r2 => (bnd (f_X3_ageOf v2 (up2 (up2 (up2 (up2 (up2 (up2 C (laI q + 1) 0 (C (stI q) 2)) (laI q + 1) 1 r1) (laI q + 1) 2 ((up2 (up2 C (laI q + 1) 0 (C (stI q) 2)) (laI q + 1) 1 r1) (stI q) 1)) (laI q + 1) 3 v1) (laI q + 1) 4 r2) (laI q + 1) 5 v2)) (fun r3 => (bnd (f_X7_owed (stI q) v1 v2 (up2 (up2 (up2 (up2 (up2 (up2 (up2 C (laI q + 1) 0 (C (stI q) 2)) (laI q + 1) 1 r1) (laI q + 1) 2 ((up2 (up2 C (laI q + 1) 0 (C (stI q) 2)) (laI q + 1) 1 r1) (stI q) 1)) (laI q + 1) 3 v1) (laI q + 1) 4 r2) (laI q + 1) 5 v2) (laI q + 1) 6 r3)) (fun r4 => (bnd (f_X7_owed (stI q) v2 v1 (up2 (up2 (up2 (up2 (up2 (up2 (up2 (up2 C (laI q + 1) 0 (C (stI q) 2)) (laI q + 1) 1 r1) (laI q + 1) 2 ((up2 (up2 C (laI q + 1) 0 (C (stI q) 2)) (laI q + 1) 1 r1) (stI q) 1)) (laI q + 1) 3 v1) (laI q + 1) 4 r2) (laI q + 1) 5 v2) (laI q + 1) 6 r3) (laI q + 1) 7 r4)) (fun r5 => (some (up2 (up2 (up2 (up2 (up2 (up2 (up2 (up2 (up2 (up2 C (laI q + 1) 0 (C (stI q) 2)) (laI q + 1) 1 r1) (laI q + 1) 2 ((up2 (up2 C (laI q + 1) 0 (C (stI q) 2)) (laI q + 1) 1 r1) (stI q) 1)) (laI q + 1) 3 v1) (laI q + 1) 4 r2) (laI q + 1) 5 v2) (laI q + 1) 6 r3) (laI q + 1) 7 r4) (laI q + 1) 8 r5) (laI q + 1) 9 v3))))))))))))
theorem cf_X1_name : CF yX1_name cX1_name 4 (Option.none : Option Jvm.ClassFile.FieldType) 3 := ⟨kc_X1_name, kj_X1, ⟨by decide +kernel, by decide +kernel, by decide +kernel⟩, by decide⟩
theorem cv_X1_name : CFv yX1_name := ⟨ki_X1_name, ks_X1_name⟩
set_option maxHeartbeats 4000000 in
set_option maxRecDepth 100000 in
theorem c_X1_name (l : Launch) (G : GT) {q : Nat} (hq : q < 2) (v1 : Int32) (v2 : Int32) (v3 : Int32) (C : CM) (O : OM) (C' : CM) (h : f_X1_name q v1 v2 v3 C = some C') : MV l G yX1_name cX1_name 4 (Option.none : Option Jvm.ClassFile.FieldType) (3) [.ref (gB G + laI q), .int v1, .int v2, .int v3] (C, O) (C', O) := by
  unfold MV
  refine met_in RX1 (by decide +kernel) rfl [(0, .ref (gB G + laI q)), (1, .int v1), (2, .int v2), (3, .int v3)] rfl (Nat.le_of_ble_eq_true rfl) ?_
  intro pM eM sM mM aM bM meM cM K hr
  rw [f_X1_name] at h
  refine go_aload_n K dX1_name_0 0 rfl rfl ?_
  refine gf_X1 K hq 2 (by decide) kf_X1_9 (v := .ref (gB G + (laI q + 1))) rfl dX1_name_1 ?_
  refine go_iconst (v := (0 : Int32)) K dX1_name_4 (by decide) ?_
  refine go_aload_n K dX1_name_5 0 rfl rfl ?_
  refine gf_X1 K hq 1 (by decide) kf_X1_22 (v := .ref (gB G + (stI q))) rfl dX1_name_6 ?_
  refine gf_X7 K (st_q hq) 2 (by decide) kf_X1_55 (v := .int (C (stI q) 2)) rfl dX1_name_9 ?_
  refine go_cast K (la_lt hq 1 (by decide)) (la_nm hq) (in_k (k := 0) (by decide) (by decide)) rfl dX1_name_12 ?_
  refine go_aload_n K dX1_name_13 0 rfl rfl ?_
  refine gf_X1 K hq 2 (by decide) kf_X1_9 (v := .ref (gB G + (laI q + 1))) rfl dX1_name_14 ?_
  refine go_iconst (v := (1 : Int32)) K dX1_name_17 (by decide) ?_
  refine go_aload_n K dX1_name_18 0 rfl rfl ?_
  refine gf_X1 K hq 1 (by decide) kf_X1_22 (v := .ref (gB G + (stI q))) rfl dX1_name_19 ?_
  refine go_iload_n K dX1_name_22 1 rfl rfl ?_
  obtain ⟨r1, e1, h⟩ := bnd_e h
  refine go_cVI K (c_X7_leftOf l G (st_q hq) _ _ _ _ e1) cf_X7_leftOf cv_X7_leftOf km_X1_59 (rv_X7 (st_q hq)) (by decide) rfl rfl (Nat.le_of_ble_eq_true rfl) dX1_name_23 ?_
  refine go_cast K (la_lt hq 1 (by decide)) (la_nm hq) (in_k (k := 1) (by decide) (by decide)) rfl dX1_name_26 ?_
  refine go_aload_n K dX1_name_27 0 rfl rfl ?_
  refine gf_X1 K hq 2 (by decide) kf_X1_9 (v := .ref (gB G + (laI q + 1))) rfl dX1_name_28 ?_
  refine go_iconst (v := (2 : Int32)) K dX1_name_31 (by decide) ?_
  refine go_aload_n K dX1_name_32 0 rfl rfl ?_
  refine gf_X1 K hq 1 (by decide) kf_X1_22 (v := .ref (gB G + (stI q))) rfl dX1_name_33 ?_
  refine gf_X7 K (st_q hq) 1 (by decide) kf_X1_62 (v := .int ((up2 (up2 C (laI q + 1) 0 (C (stI q) 2)) (laI q + 1) 1 r1) (stI q) 1)) rfl dX1_name_36 ?_
  refine go_cast K (la_lt hq 1 (by decide)) (la_nm hq) (in_k (k := 2) (by decide) (by decide)) rfl dX1_name_39 ?_
  refine go_aload_n K dX1_name_40 0 rfl rfl ?_
  refine gf_X1 K hq 2 (by decide) kf_X1_9 (v := .ref (gB G + (laI q + 1))) rfl dX1_name_41 ?_
  refine go_iconst (v := (3 : Int32)) K dX1_name_44 (by decide) ?_
  refine go_iload_n K dX1_name_45 1 rfl rfl ?_
  refine go_cast K (la_lt hq 1 (by decide)) (la_nm hq) (in_k (k := 3) (by decide) (by decide)) rfl dX1_name_46 ?_
  refine go_aload_n K dX1_name_47 0 rfl rfl ?_
  refine gf_X1 K hq 2 (by decide) kf_X1_9 (v := .ref (gB G + (laI q + 1))) rfl dX1_name_48 ?_
  refine go_iconst (v := (4 : Int32)) K dX1_name_51 (by decide) ?_
  refine go_aload_n K dX1_name_52 0 rfl rfl ?_
  refine gf_X1 K hq 0 (by decide) kf_X1_18 (v := .ref (gB G + 1)) rfl dX1_name_53 ?_
  refine go_iload_n K dX1_name_56 1 rfl rfl ?_
  obtain ⟨r2, e2, h⟩ := bnd_e h
  refine go_cVI K (c_X3_ageOf l G _ _ _ _ e2) cf_X3_ageOf cv_X3_ageOf km_X1_65 rv_X3 (by decide) rfl rfl (Nat.le_of_ble_eq_true rfl) dX1_name_57 ?_
  refine go_cast K (la_lt hq 1 (by decide)) (la_nm hq) (in_k (k := 4) (by decide) (by decide)) rfl dX1_name_60 ?_
  refine go_aload_n K dX1_name_61 0 rfl rfl ?_
  refine gf_X1 K hq 2 (by decide) kf_X1_9 (v := .ref (gB G + (laI q + 1))) rfl dX1_name_62 ?_
  refine go_iconst (v := (5 : Int32)) K dX1_name_65 (by decide) ?_
  refine go_iload_n K dX1_name_66 2 rfl rfl ?_
  refine go_cast K (la_lt hq 1 (by decide)) (la_nm hq) (in_k (k := 5) (by decide) (by decide)) rfl dX1_name_67 ?_
  refine go_aload_n K dX1_name_68 0 rfl rfl ?_
  refine gf_X1 K hq 2 (by decide) kf_X1_9 (v := .ref (gB G + (laI q + 1))) rfl dX1_name_69 ?_
  refine go_bipush (v := (6 : Int32)) K dX1_name_72 (by decide) ?_
  refine go_aload_n K dX1_name_74 0 rfl rfl ?_
  refine gf_X1 K hq 0 (by decide) kf_X1_18 (v := .ref (gB G + 1)) rfl dX1_name_75 ?_
  refine go_iload_n K dX1_name_78 2 rfl rfl ?_
  obtain ⟨r3, e3, h⟩ := bnd_e h
  refine go_cVI K (c_X3_ageOf l G _ _ _ _ e3) cf_X3_ageOf cv_X3_ageOf km_X1_65 rv_X3 (by decide) rfl rfl (Nat.le_of_ble_eq_true rfl) dX1_name_79 ?_
  refine go_cast K (la_lt hq 1 (by decide)) (la_nm hq) (in_k (k := 6) (by decide) (by decide)) rfl dX1_name_82 ?_
  refine go_aload_n K dX1_name_83 0 rfl rfl ?_
  refine gf_X1 K hq 2 (by decide) kf_X1_9 (v := .ref (gB G + (laI q + 1))) rfl dX1_name_84 ?_
  refine go_bipush (v := (7 : Int32)) K dX1_name_87 (by decide) ?_
  refine go_aload_n K dX1_name_89 0 rfl rfl ?_
  refine gf_X1 K hq 1 (by decide) kf_X1_22 (v := .ref (gB G + (stI q))) rfl dX1_name_90 ?_
  refine go_iload_n K dX1_name_93 1 rfl rfl ?_
  refine go_iload_n K dX1_name_94 2 rfl rfl ?_
  obtain ⟨r4, e4, h⟩ := bnd_e h
  refine go_cVI K (c_X7_owed l G (st_q hq) _ _ _ _ _ e4) cf_X7_owed cv_X7_owed km_X1_30 (rv_X7 (st_q hq)) (by decide) rfl rfl (Nat.le_of_ble_eq_true rfl) dX1_name_95 ?_
  refine go_cast K (la_lt hq 1 (by decide)) (la_nm hq) (in_k (k := 7) (by decide) (by decide)) rfl dX1_name_98 ?_
  refine go_aload_n K dX1_name_99 0 rfl rfl ?_
  refine gf_X1 K hq 2 (by decide) kf_X1_9 (v := .ref (gB G + (laI q + 1))) rfl dX1_name_100 ?_
  refine go_bipush (v := (8 : Int32)) K dX1_name_103 (by decide) ?_
  refine go_aload_n K dX1_name_105 0 rfl rfl ?_
  refine gf_X1 K hq 1 (by decide) kf_X1_22 (v := .ref (gB G + (stI q))) rfl dX1_name_106 ?_
  refine go_iload_n K dX1_name_109 2 rfl rfl ?_
  refine go_iload_n K dX1_name_110 1 rfl rfl ?_
  obtain ⟨r5, e5, h⟩ := bnd_e h
  refine go_cVI K (c_X7_owed l G (st_q hq) _ _ _ _ _ e5) cf_X7_owed cv_X7_owed km_X1_30 (rv_X7 (st_q hq)) (by decide) rfl rfl (Nat.le_of_ble_eq_true rfl) dX1_name_111 ?_
  refine go_cast K (la_lt hq 1 (by decide)) (la_nm hq) (in_k (k := 8) (by decide) (by decide)) rfl dX1_name_114 ?_
  refine go_aload_n K dX1_name_115 0 rfl rfl ?_
  refine gf_X1 K hq 2 (by decide) kf_X1_9 (v := .ref (gB G + (laI q + 1))) rfl dX1_name_116 ?_
  refine go_bipush (v := (9 : Int32)) K dX1_name_119 (by decide) ?_
  refine go_iload_n K dX1_name_121 3 rfl rfl ?_
  refine go_cast K (la_lt hq 1 (by decide)) (la_nm hq) (in_k (k := 9) (by decide) (by decide)) rfl dX1_name_122 ?_
  exact go_vret K hr (congrArg (fun z => (z, O)) (Option.some.inj h)) dX1_name_123
noncomputable def X1_joined_j227 (v3 : Int64) : Option Int32 := (some ((f_J9_max_f86c9 (-1000000 : Int64) (f_J9_min_f86c9 (1000000 : Int64) v3)).toInt32))
noncomputable def X1_joined_j147 (t0 : Int64) : Option Int32 := (X1_joined_j227 t0)
noncomputable def f_X1_joined (v0 : Int32) (v1 : Int32) (v2 : Int32) : Option Int32 := (if v0 = (4 : Int32) then (if v2 < v1 then (some (0 : Int32)) else (some (1 : Int32))) else (if v0 = (5 : Int32) then (if v1 < v2 then (some (0 : Int32)) else (some (1 : Int32))) else (if v0 = (35 : Int32) then (if v1 = v2 then (some (0 : Int32)) else (some (1 : Int32))) else (if v0 = (42 : Int32) then (X1_joined_j227 (v1.toInt64 * v2.toInt64)) else (if v0 = (43 : Int32) then (X1_joined_j227 (v1.toInt64 + v2.toInt64)) else (if v0 = (45 : Int32) then (X1_joined_j227 (v1.toInt64 - v2.toInt64)) else (if v0 = (47 : Int32) then (if v2 = 0 then (X1_joined_j147 (0 : Int64)) else (gd (¬ v2 = 0) (X1_joined_j147 ((v1 / v2).toInt64)))) else (if v0 = (60 : Int32) then (if v2 ≤ v1 then (some (0 : Int32)) else (some (1 : Int32))) else (if v0 = (61 : Int32) then (if v1 = v2 then (some (1 : Int32)) else (some (0 : Int32))) else (if v0 = (62 : Int32) then (if v1 ≤ v2 then (some (0 : Int32)) else (some (1 : Int32))) else (if v0 = (152 : Int32) then (some (v1 &&& v2)) else (if v0 = (153 : Int32) then (some (v1 ||| v2)) else (some (0 : Int32))))))))))))))
theorem cf_X1_joined : CF yX1_joined cX1_joined 5 (Option.some Jvm.ClassFile.FieldType.int) 3 := ⟨kc_X1_joined, kj_X1, ⟨by decide +kernel, by decide +kernel, by decide +kernel⟩, by decide⟩
set_option maxHeartbeats 4000000 in
set_option maxRecDepth 100000 in
theorem c_X1_joined (l : Launch) (G : GT) (v0 : Int32) (v1 : Int32) (v2 : Int32) (C : CM) (O : OM) (res : Int32) (h : f_X1_joined v0 v1 v2 = some res) : MI l G yX1_joined cX1_joined 5 (Option.some Jvm.ClassFile.FieldType.int) (2) [.int v0, .int v1, .int v2] (C, O) res (C, O) := by
  unfold MI
  refine met_in RX1 (by decide +kernel) rfl [(0, .int v0), (1, .int v1), (2, .int v2)] rfl (Nat.le_of_ble_eq_true rfl) ?_
  intro pM eM sM mM aM bM meM cM K hr
  have hj227 : ∀ (v3 : Int64), X1_joined_j227 v3 = some res → GO pM l eM (2) sM mM aM bM meM cM (MQ bM (va_Qi (fun (r' : Int32) (u : CM × OM) => r' = res ∧ u = (C, O)) (wB G) (Fr G)) aM sM 0 0 (Fr G)) G 5 (C, O) 227 [(3, .long v3)] [] := by
    intro v3 h
    rw [X1_joined_j227] at h
    refine go_ldc2 K kk_X1_97 dX1_joined_227 ?_
    refine go_ldc2 K kk_X1_99 dX1_joined_230 ?_
    refine go_lload_n K dX1_joined_233 0 rfl rfl ?_
    refine go_cSJ K (c_J9_min_f86c9 l G _ _ _ _ rfl) cf_J9_min_f86c9 kt_J9_min_f86c9 km_X1_101 (by decide) rfl rfl (Nat.le_of_ble_eq_true rfl) dX1_joined_234 ?_
    refine go_cSJ K (c_J9_max_f86c9 l G _ _ _ _ rfl) cf_J9_max_f86c9 kt_J9_max_f86c9 km_X1_107 (by decide) rfl rfl (Nat.le_of_ble_eq_true rfl) dX1_joined_237 ?_
    refine go_l2i K dX1_joined_240 ?_
    exact go_iret K hr (Option.some.inj h) rfl dX1_joined_241
  have hj147 : ∀ (t0 : Int64), X1_joined_j147 t0 = some res → GO pM l eM (2) sM mM aM bM meM cM (MQ bM (va_Qi (fun (r' : Int32) (u : CM × OM) => r' = res ∧ u = (C, O)) (wB G) (Fr G)) aM sM 0 0 (Fr G)) G 5 (C, O) 147 [] [.long t0] := by
    intro t0 h
    rw [X1_joined_j147] at h
    refine go_lstore_n K dX1_joined_147 rfl (by decide) (lv' := [(3, .long t0)]) rfl ?_
    refine go_goto (tgt := 227) K dX1_joined_148 (by decide) ?_
    exact hj227 _ h
  rw [f_X1_joined] at h
  refine go_iload_n K dX1_joined_0 0 rfl rfl ?_
  by_cases c1 : v0 = (4 : Int32)
  · refine go_lookup K dX1_joined_1 (by decide) (off := 194) (by rw [c1]; decide) (tgt := 195) (by decide) ?_
    replace h := ite_t h c1
    refine go_iload_n K dX1_joined_195 1 rfl rfl ?_
    refine go_iload_n K dX1_joined_196 2 rfl rfl ?_
    refine go_icmp_gt (tgt := 204) K dX1_joined_197 (by decide) (fun c2 => ?_) (fun c2 => ?_)
    · replace h := ite_t h c2
      refine go_iconst (v := (0 : Int32)) K dX1_joined_204 (by decide) ?_
      exact go_iret K hr (Option.some.inj h) rfl dX1_joined_205
    replace h := ite_f h c2
    refine go_iconst (v := (1 : Int32)) K dX1_joined_200 (by decide) ?_
    refine go_goto (tgt := 205) K dX1_joined_201 (by decide) ?_
    exact go_iret K hr (Option.some.inj h) rfl dX1_joined_205
  replace h := ite_f h c1
  by_cases c3 : v0 = (5 : Int32)
  · refine go_lookup K dX1_joined_1 (by decide) (off := 205) (by rw [c3]; decide) (tgt := 206) (by decide) ?_
    replace h := ite_t h c3
    refine go_iload_n K dX1_joined_206 1 rfl rfl ?_
    refine go_iload_n K dX1_joined_207 2 rfl rfl ?_
    refine go_icmp_lt (tgt := 215) K dX1_joined_208 (by decide) (fun c4 => ?_) (fun c4 => ?_)
    · replace h := ite_t h c4
      refine go_iconst (v := (0 : Int32)) K dX1_joined_215 (by decide) ?_
      exact go_iret K hr (Option.some.inj h) rfl dX1_joined_216
    replace h := ite_f h c4
    refine go_iconst (v := (1 : Int32)) K dX1_joined_211 (by decide) ?_
    refine go_goto (tgt := 216) K dX1_joined_212 (by decide) ?_
    exact go_iret K hr (Option.some.inj h) rfl dX1_joined_216
  replace h := ite_f h c3
  by_cases c5 : v0 = (35 : Int32)
  · refine go_lookup K dX1_joined_1 (by decide) (off := 183) (by rw [c5]; decide) (tgt := 184) (by decide) ?_
    replace h := ite_t h c5
    refine go_iload_n K dX1_joined_184 1 rfl rfl ?_
    refine go_iload_n K dX1_joined_185 2 rfl rfl ?_
    refine go_icmp_eq (tgt := 193) K dX1_joined_186 (by decide) (fun c6 => ?_) (fun c6 => ?_)
    · replace h := ite_t h c6
      refine go_iconst (v := (0 : Int32)) K dX1_joined_193 (by decide) ?_
      exact go_iret K hr (Option.some.inj h) rfl dX1_joined_194
    replace h := ite_f h c6
    refine go_iconst (v := (1 : Int32)) K dX1_joined_189 (by decide) ?_
    refine go_goto (tgt := 194) K dX1_joined_190 (by decide) ?_
    exact go_iret K hr (Option.some.inj h) rfl dX1_joined_194
  replace h := ite_f h c5
  by_cases c7 : v0 = (42 : Int32)
  · refine go_lookup K dX1_joined_1 (by decide) (off := 125) (by rw [c7]; decide) (tgt := 126) (by decide) ?_
    replace h := ite_t h c7
    refine go_iload_n K dX1_joined_126 1 rfl rfl ?_
    refine go_i2l K dX1_joined_127 ?_
    refine go_iload_n K dX1_joined_128 2 rfl rfl ?_
    refine go_i2l K dX1_joined_129 ?_
    refine go_lmul K dX1_joined_130 ?_
    refine go_lstore_n K dX1_joined_131 rfl (by decide) (lv' := [(3, .long (v1.toInt64 * v2.toInt64)), (0, .int v0), (1, .int v1), (2, .int v2)]) rfl ?_
    refine go_goto (tgt := 227) K dX1_joined_132 (by decide) ?_
    exact go_sub [0] rfl (hj227 _ h)
  replace h := ite_f h c7
  by_cases c8 : v0 = (43 : Int32)
  · refine go_lookup K dX1_joined_1 (by decide) (off := 107) (by rw [c8]; decide) (tgt := 108) (by decide) ?_
    replace h := ite_t h c8
    refine go_iload_n K dX1_joined_108 1 rfl rfl ?_
    refine go_i2l K dX1_joined_109 ?_
    refine go_iload_n K dX1_joined_110 2 rfl rfl ?_
    refine go_i2l K dX1_joined_111 ?_
    refine go_ladd K dX1_joined_112 ?_
    refine go_lstore_n K dX1_joined_113 rfl (by decide) (lv' := [(3, .long (v1.toInt64 + v2.toInt64)), (0, .int v0), (1, .int v1), (2, .int v2)]) rfl ?_
    refine go_goto (tgt := 227) K dX1_joined_114 (by decide) ?_
    exact go_sub [0] rfl (hj227 _ h)
  replace h := ite_f h c8
  by_cases c9 : v0 = (45 : Int32)
  · refine go_lookup K dX1_joined_1 (by decide) (off := 116) (by rw [c9]; decide) (tgt := 117) (by decide) ?_
    replace h := ite_t h c9
    refine go_iload_n K dX1_joined_117 1 rfl rfl ?_
    refine go_i2l K dX1_joined_118 ?_
    refine go_iload_n K dX1_joined_119 2 rfl rfl ?_
    refine go_i2l K dX1_joined_120 ?_
    refine go_lsub K dX1_joined_121 ?_
    refine go_lstore_n K dX1_joined_122 rfl (by decide) (lv' := [(3, .long (v1.toInt64 - v2.toInt64)), (0, .int v0), (1, .int v1), (2, .int v2)]) rfl ?_
    refine go_goto (tgt := 227) K dX1_joined_123 (by decide) ?_
    exact go_sub [0] rfl (hj227 _ h)
  replace h := ite_f h c9
  by_cases c10 : v0 = (47 : Int32)
  · refine go_lookup K dX1_joined_1 (by decide) (off := 134) (by rw [c10]; decide) (tgt := 135) (by decide) ?_
    replace h := ite_t h c10
    refine go_iload_n K dX1_joined_135 2 rfl rfl ?_
    refine go_if_ne (tgt := 143) K dX1_joined_136 (by decide) (fun c11 => ?_) (fun c11 => ?_)
    rotate_left
    · replace h := ite_t h c11
      refine go_lconst (v := (0 : Int64)) K dX1_joined_139 (by decide) ?_
      refine go_goto (tgt := 147) K dX1_joined_140 (by decide) ?_
      exact go_sub [] rfl (hj147 _ h)
    replace h := ite_f h c11
    refine go_iload_n K dX1_joined_143 1 rfl rfl ?_
    refine go_iload_n K dX1_joined_144 2 rfl rfl ?_
    obtain ⟨g12, h⟩ := gd_e h
    refine go_idiv K dX1_joined_145 g12 ?_
    refine go_i2l K dX1_joined_146 ?_
    exact go_sub [] rfl (hj147 _ h)
  replace h := ite_f h c10
  by_cases c13 : v0 = (60 : Int32)
  · refine go_lookup K dX1_joined_1 (by decide) (off := 150) (by rw [c13]; decide) (tgt := 151) (by decide) ?_
    replace h := ite_t h c13
    refine go_iload_n K dX1_joined_151 1 rfl rfl ?_
    refine go_iload_n K dX1_joined_152 2 rfl rfl ?_
    refine go_icmp_ge (tgt := 160) K dX1_joined_153 (by decide) (fun c14 => ?_) (fun c14 => ?_)
    · replace h := ite_t h c14
      refine go_iconst (v := (0 : Int32)) K dX1_joined_160 (by decide) ?_
      exact go_iret K hr (Option.some.inj h) rfl dX1_joined_161
    replace h := ite_f h c14
    refine go_iconst (v := (1 : Int32)) K dX1_joined_156 (by decide) ?_
    refine go_goto (tgt := 161) K dX1_joined_157 (by decide) ?_
    exact go_iret K hr (Option.some.inj h) rfl dX1_joined_161
  replace h := ite_f h c13
  by_cases c15 : v0 = (61 : Int32)
  · refine go_lookup K dX1_joined_1 (by decide) (off := 172) (by rw [c15]; decide) (tgt := 173) (by decide) ?_
    replace h := ite_t h c15
    refine go_iload_n K dX1_joined_173 1 rfl rfl ?_
    refine go_iload_n K dX1_joined_174 2 rfl rfl ?_
    refine go_icmp_ne (tgt := 182) K dX1_joined_175 (by decide) (fun c16 => ?_) (fun c16 => ?_)
    · replace h := ite_f h c16
      refine go_iconst (v := (0 : Int32)) K dX1_joined_182 (by decide) ?_
      exact go_iret K hr (Option.some.inj h) rfl dX1_joined_183
    replace h := ite_t h c16
    refine go_iconst (v := (1 : Int32)) K dX1_joined_178 (by decide) ?_
    refine go_goto (tgt := 183) K dX1_joined_179 (by decide) ?_
    exact go_iret K hr (Option.some.inj h) rfl dX1_joined_183
  replace h := ite_f h c15
  by_cases c17 : v0 = (62 : Int32)
  · refine go_lookup K dX1_joined_1 (by decide) (off := 161) (by rw [c17]; decide) (tgt := 162) (by decide) ?_
    replace h := ite_t h c17
    refine go_iload_n K dX1_joined_162 1 rfl rfl ?_
    refine go_iload_n K dX1_joined_163 2 rfl rfl ?_
    refine go_icmp_le (tgt := 171) K dX1_joined_164 (by decide) (fun c18 => ?_) (fun c18 => ?_)
    · replace h := ite_t h c18
      refine go_iconst (v := (0 : Int32)) K dX1_joined_171 (by decide) ?_
      exact go_iret K hr (Option.some.inj h) rfl dX1_joined_172
    replace h := ite_f h c18
    refine go_iconst (v := (1 : Int32)) K dX1_joined_167 (by decide) ?_
    refine go_goto (tgt := 172) K dX1_joined_168 (by decide) ?_
    exact go_iret K hr (Option.some.inj h) rfl dX1_joined_172
  replace h := ite_f h c17
  by_cases c19 : v0 = (152 : Int32)
  · refine go_lookup K dX1_joined_1 (by decide) (off := 216) (by rw [c19]; decide) (tgt := 217) (by decide) ?_
    replace h := ite_t h c19
    refine go_iload_n K dX1_joined_217 1 rfl rfl ?_
    refine go_iload_n K dX1_joined_218 2 rfl rfl ?_
    refine go_iand K dX1_joined_219 ?_
    exact go_iret K hr (Option.some.inj h) rfl dX1_joined_220
  replace h := ite_f h c19
  by_cases c20 : v0 = (153 : Int32)
  · refine go_lookup K dX1_joined_1 (by decide) (off := 220) (by rw [c20]; decide) (tgt := 221) (by decide) ?_
    replace h := ite_t h c20
    refine go_iload_n K dX1_joined_221 1 rfl rfl ?_
    refine go_iload_n K dX1_joined_222 2 rfl rfl ?_
    refine go_ior K dX1_joined_223 ?_
    exact go_iret K hr (Option.some.inj h) rfl dX1_joined_224
  replace h := ite_f h c20
  have c1 := sw_ne c1 (k := 4) (by decide)
  have c3 := sw_ne c3 (k := 5) (by decide)
  have c5 := sw_ne c5 (k := 35) (by decide)
  have c7 := sw_ne c7 (k := 42) (by decide)
  have c8 := sw_ne c8 (k := 43) (by decide)
  have c9 := sw_ne c9 (k := 45) (by decide)
  have c10 := sw_ne c10 (k := 47) (by decide)
  have c13 := sw_ne c13 (k := 60) (by decide)
  have c15 := sw_ne c15 (k := 61) (by decide)
  have c17 := sw_ne c17 (k := 62) (by decide)
  have c19 := sw_ne c19 (k := 152) (by decide)
  have c20 := sw_ne c20 (k := 153) (by decide)
  refine go_lookup K dX1_joined_1 (by decide) (off := 224) (show Op.lookupswitch.offset [(4, 194), (5, 205), (35, 183), (42, 125), (43, 107), (45, 116), (47, 134), (60, 150), (61, 172), (62, 161), (152, 216), (153, 220)] (224) (v0).toInt = 224 from by simp only [Op.lookupswitch.offset_cons, Op.lookupswitch.offset_nil]; rw [if_neg (fun q => c1 q.symm), if_neg (fun q => c3 q.symm), if_neg (fun q => c5 q.symm), if_neg (fun q => c7 q.symm), if_neg (fun q => c8 q.symm), if_neg (fun q => c9 q.symm), if_neg (fun q => c10 q.symm), if_neg (fun q => c13 q.symm), if_neg (fun q => c15 q.symm), if_neg (fun q => c17 q.symm), if_neg (fun q => c19 q.symm), if_neg (fun q => c20 q.symm)]) (tgt := 225) (by decide) ?_
  refine go_iconst (v := (0 : Int32)) K dX1_joined_225 (by decide) ?_
  exact go_iret K hr (Option.some.inj h) rfl dX1_joined_226
noncomputable def f_X1_pop (q : Nat) (C : CM) : Option (Int32 × CM) := (if (C (laI q) 4) ≤ 0 then (some ((0 : Int32), C)) else (if (C (laI q) 4) ≤ (64 : Int32) then (gd (inb ((up2 C (laI q) 4 ((C (laI q) 4) - (1 : Int32))) (laI q) 4) 64) (some (((up2 C (laI q) 4 ((C (laI q) 4) - (1 : Int32))) (laI q + 2) ((up2 C (laI q) 4 ((C (laI q) 4) - (1 : Int32))) (laI q) 4).toNatClampNeg), (up2 C (laI q) 4 ((C (laI q) 4) - (1 : Int32)))))) else (some ((0 : Int32), C))))
theorem cf_X1_pop : CF yX1_pop cX1_pop 1 (Option.some Jvm.ClassFile.FieldType.int) 0 := ⟨kc_X1_pop, kj_X1, ⟨by decide +kernel, by decide +kernel, by decide +kernel⟩, by decide⟩
theorem cv_X1_pop : CFv yX1_pop := ⟨ki_X1_pop, ks_X1_pop⟩
set_option maxHeartbeats 4000000 in
set_option maxRecDepth 100000 in
theorem c_X1_pop (l : Launch) (G : GT) {q : Nat} (hq : q < 2) (C : CM) (O : OM) (res : Int32) (C' : CM) (h : f_X1_pop q C = some (res, C')) : MI l G yX1_pop cX1_pop 1 (Option.some Jvm.ClassFile.FieldType.int) (1) [.ref (gB G + laI q)] (C, O) res (C', O) := by
  unfold MI
  refine met_in RX1 (by decide +kernel) rfl [(0, .ref (gB G + laI q))] rfl (Nat.le_of_ble_eq_true rfl) ?_
  intro pM eM sM mM aM bM meM cM K hr
  rw [f_X1_pop] at h
  refine go_aload_n K dX1_pop_0 0 rfl rfl ?_
  refine gf_X1 K hq 4 (by decide) kf_X1_70 (v := .int (C (laI q) 4)) rfl dX1_pop_1 ?_
  refine go_if_le (tgt := 16) K dX1_pop_4 (by decide) (fun c1 => ?_) (fun c1 => ?_)
  · replace h := ite_t h c1
    refine go_iconst (v := (0 : Int32)) K dX1_pop_16 (by decide) ?_
    exact go_iret K hr (Prod.mk.inj (Option.some.inj h)).1 (congrArg (fun z => (z, O)) (Prod.mk.inj (Option.some.inj h)).2) dX1_pop_17
  replace h := ite_f h c1
  refine go_aload_n K dX1_pop_7 0 rfl rfl ?_
  refine gf_X1 K hq 4 (by decide) kf_X1_70 (v := .int (C (laI q) 4)) rfl dX1_pop_8 ?_
  refine go_bipush (v := (64 : Int32)) K dX1_pop_11 (by decide) ?_
  refine go_icmp_le (tgt := 18) K dX1_pop_13 (by decide) (fun c2 => ?_) (fun c2 => ?_)
  rotate_left
  · replace h := ite_f h c2
    refine go_iconst (v := (0 : Int32)) K dX1_pop_16 (by decide) ?_
    exact go_iret K hr (Prod.mk.inj (Option.some.inj h)).1 (congrArg (fun z => (z, O)) (Prod.mk.inj (Option.some.inj h)).2) dX1_pop_17
  replace h := ite_t h c2
  refine go_aload_n K dX1_pop_18 0 rfl rfl ?_
  refine go_dup K dX1_pop_19 rfl ?_
  refine gf_X1 K hq 4 (by decide) kf_X1_70 (v := .int (C (laI q) 4)) rfl dX1_pop_20 ?_
  refine go_iconst (v := (1 : Int32)) K dX1_pop_23 (by decide) ?_
  refine go_isub K dX1_pop_24 ?_
  refine pf_X1 K hq 4 (by decide) kf_X1_70 rfl rfl rfl dX1_pop_25 ?_
  refine go_aload_n K dX1_pop_28 0 rfl rfl ?_
  refine gf_X1 K hq 3 (by decide) kf_X1_15 (v := .ref (gB G + (laI q + 2))) rfl dX1_pop_29 ?_
  refine go_aload_n K dX1_pop_32 0 rfl rfl ?_
  refine gf_X1 K hq 4 (by decide) kf_X1_70 (v := .int ((up2 C (laI q) 4 ((C (laI q) 4) - (1 : Int32))) (laI q) 4)) rfl dX1_pop_33 ?_
  obtain ⟨g3, h⟩ := gd_e h
  refine go_cald K (la_lt hq 2 (by decide)) (la_sk hq) g3 rfl dX1_pop_36 ?_
  exact go_iret K hr (Prod.mk.inj (Option.some.inj h)).1 (congrArg (fun z => (z, O)) (Prod.mk.inj (Option.some.inj h)).2) dX1_pop_37
noncomputable def f_X1_push (q : Nat) (v1 : Int32) (C : CM) : Option CM := (if (C (laI q) 4) < (0 : Int32) then (some C) else (if (64 : Int32) ≤ (C (laI q) 4) then (some C) else (gd (inb (C (laI q) 4) 64) (some (up2 (up2 C (laI q + 2) (C (laI q) 4).toNatClampNeg v1) (laI q) 4 (((up2 C (laI q + 2) (C (laI q) 4).toNatClampNeg v1) (laI q) 4) + (1 : Int32)))))))
theorem cf_X1_push : CF yX1_push cX1_push 2 (Option.none : Option Jvm.ClassFile.FieldType) 1 := ⟨kc_X1_push, kj_X1, ⟨by decide +kernel, by decide +kernel, by decide +kernel⟩, by decide⟩
theorem cv_X1_push : CFv yX1_push := ⟨ki_X1_push, ks_X1_push⟩
set_option maxHeartbeats 4000000 in
set_option maxRecDepth 100000 in
theorem c_X1_push (l : Launch) (G : GT) {q : Nat} (hq : q < 2) (v1 : Int32) (C : CM) (O : OM) (C' : CM) (h : f_X1_push q v1 C = some C') : MV l G yX1_push cX1_push 2 (Option.none : Option Jvm.ClassFile.FieldType) (1) [.ref (gB G + laI q), .int v1] (C, O) (C', O) := by
  unfold MV
  refine met_in RX1 (by decide +kernel) rfl [(0, .ref (gB G + laI q)), (1, .int v1)] rfl (Nat.le_of_ble_eq_true rfl) ?_
  intro pM eM sM mM aM bM meM cM K hr
  rw [f_X1_push] at h
  refine go_iconst (v := (0 : Int32)) K dX1_push_0 (by decide) ?_
  refine go_aload_n K dX1_push_1 0 rfl rfl ?_
  refine gf_X1 K hq 4 (by decide) kf_X1_70 (v := .int (C (laI q) 4)) rfl dX1_push_2 ?_
  refine go_icmp_gt (tgt := 37) K dX1_push_5 (by decide) (fun c1 => ?_) (fun c1 => ?_)
  · replace h := ite_t h c1
    exact go_vret K hr (congrArg (fun z => (z, O)) (Option.some.inj h)) dX1_push_37
  replace h := ite_f h c1
  refine go_aload_n K dX1_push_8 0 rfl rfl ?_
  refine gf_X1 K hq 4 (by decide) kf_X1_70 (v := .int (C (laI q) 4)) rfl dX1_push_9 ?_
  refine go_bipush (v := (64 : Int32)) K dX1_push_12 (by decide) ?_
  refine go_icmp_ge (tgt := 37) K dX1_push_14 (by decide) (fun c2 => ?_) (fun c2 => ?_)
  · replace h := ite_t h c2
    exact go_vret K hr (congrArg (fun z => (z, O)) (Option.some.inj h)) dX1_push_37
  replace h := ite_f h c2
  refine go_aload_n K dX1_push_17 0 rfl rfl ?_
  refine gf_X1 K hq 3 (by decide) kf_X1_15 (v := .ref (gB G + (laI q + 2))) rfl dX1_push_18 ?_
  refine go_aload_n K dX1_push_21 0 rfl rfl ?_
  refine gf_X1 K hq 4 (by decide) kf_X1_70 (v := .int (C (laI q) 4)) rfl dX1_push_22 ?_
  refine go_iload_n K dX1_push_25 1 rfl rfl ?_
  obtain ⟨g3, h⟩ := gd_e h
  refine go_cast K (la_lt hq 2 (by decide)) (la_sk hq) g3 rfl dX1_push_26 ?_
  refine go_aload_n K dX1_push_27 0 rfl rfl ?_
  refine go_dup K dX1_push_28 rfl ?_
  refine gf_X1 K hq 4 (by decide) kf_X1_70 (v := .int ((up2 C (laI q + 2) (C (laI q) 4).toNatClampNeg v1) (laI q) 4)) rfl dX1_push_29 ?_
  refine go_iconst (v := (1 : Int32)) K dX1_push_32 (by decide) ?_
  refine go_iadd K dX1_push_33 ?_
  refine pf_X1 K hq 4 (by decide) kf_X1_70 rfl rfl rfl dX1_push_34 ?_
  exact go_vret K hr (congrArg (fun z => (z, O)) (Option.some.inj h)) dX1_push_37
noncomputable def X1_run_j254 (q : Nat) (C : CM) : Option (Int32 × CM) := (bnd2 (f_X1_pop q C) (fun r33 C33 => (some (r33, C33))))
noncomputable def X1_run_j248 (q : Nat) (rc : Nat → Int32 → Int32 → Int32 → CM → Option (Int32 × CM)) (k254 : CM → Option (Int32 × CM)) (u2 : Nat) (v3 : Int32) (v4 : Int32) (v5 : Int32) (C : CM) : Option (Int32 × CM) := (rc u2 v3 v4 (v5 + (-1 : Int32)) C)
noncomputable def X1_run_j140 (q : Nat) (rc : Nat → Int32 → Int32 → Int32 → CM → Option (Int32 × CM)) (k254 : CM → Option (Int32 × CM)) (u2 : Nat) (v4 : Int32) (v5 : Int32) (v7 : Int32) (C : CM) : Option (Int32 × CM) := (X1_run_j248 q rc k254 u2 v7 v4 v5 C)
noncomputable def X1_run_j146 (q : Nat) (rc : Nat → Int32 → Int32 → Int32 → CM → Option (Int32 × CM)) (k254 : CM → Option (Int32 × CM)) (u2 : Nat) (v3 : Int32) (v4 : Int32) (v5 : Int32) (v6 : Int32) (C : CM) : Option (Int32 × CM) := (if v6 = (155 : Int32) then (bnd2 (f_X1_pop q C) (fun r24 C24 => (bnd2 (f_X1_pop q C24) (fun r25 C25 => (bnd (f_X7_owed (stI q) r25 r24 C25) (fun r26 => (bnd (f_X1_push q r26 C25) (fun C27 => (X1_run_j248 q rc k254 u2 v3 v4 v5 C27))))))))) else (if v6 = (3 : Int32) then (bnd2 (f_X1_pop q C) (fun r22 C22 => (bnd (f_X1_push q (-r22) C22) (fun C23 => (X1_run_j248 q rc k254 u2 v3 v4 v5 C23))))) else (if v6 = (154 : Int32) then (bnd2 (f_X1_pop q C) (fun r20 C20 => (bnd (f_X1_push q ((1 : Int32) - r20) C20) (fun C21 => (X1_run_j248 q rc k254 u2 v3 v4 v5 C21))))) else (if v6 = (157 : Int32) then (X1_run_j248 q rc k254 u2 v3 v4 v5 C) else (bnd2 (f_X1_pop q C) (fun r16 C16 => (bnd2 (f_X1_pop q C16) (fun r17 C17 => (bnd (f_X1_joined v6 r17 r16) (fun r18 => (bnd (f_X1_push q r18 C17) (fun C19 => (X1_run_j248 q rc k254 u2 v3 v4 v5 C19)))))))))))))
noncomputable def X1_run_l34 (q : Nat) (k254 : CM → Option (Int32 × CM)) : Nat → Nat → Int32 → Int32 → Int32 → CM → Option (Int32 × CM)
  | 0, _, _, _, _, _ => none
  | n + 1, u2, v3, v4, v5, C => (if v5 ≤ 0 then (k254 C) else (if v4 ≤ v3 then (k254 C) else (bnd (f_X6_step u2 v3 C) (fun r6 => (bnd (f_X6_step u2 v3 C) (fun r7 => (if (irm r6 (256 : Int32)) = (2 : Int32) then (bnd (f_X1_push q (r7 / (256 : Int32)) C) (fun C32 => (X1_run_j248 q (fun u2 v3 v4 v5 C => X1_run_l34 q k254 n u2 v3 v4 v5 C) k254 u2 (v3 + (1 : Int32)) v4 v5 C32))) else (if (f_X11_within (irm r6 (256 : Int32)) (139 : Int32) (148 : Int32)) = 0 then (if (irm r6 (256 : Int32)) = (158 : Int32) then (X1_run_j140 q (fun u2 v3 v4 v5 C => X1_run_l34 q k254 n u2 v3 v4 v5 C) k254 u2 v4 v5 (r7 / (256 : Int32)) C) else (if (irm r6 (256 : Int32)) = (157 : Int32) then (bnd2 (f_X1_pop q C) (fun r28 C28 => (if r28 = 0 then (X1_run_j140 q (fun u2 v3 v4 v5 C => X1_run_l34 q k254 n u2 v3 v4 v5 C) k254 u2 v4 v5 (r7 / (256 : Int32)) C28) else (X1_run_j146 q (fun u2 v3 v4 v5 C => X1_run_l34 q k254 n u2 v3 v4 v5 C) k254 u2 (v3 + (1 : Int32)) v4 v5 (irm r6 (256 : Int32)) C28)))) else (X1_run_j146 q (fun u2 v3 v4 v5 C => X1_run_l34 q k254 n u2 v3 v4 v5 C) k254 u2 (v3 + (1 : Int32)) v4 v5 (irm r6 (256 : Int32)) C))) else (gd (inb ((irm r6 (256 : Int32)) - (139 : Int32)) 10) (bnd (f_X1_push q (C (laI q + 1) ((irm r6 (256 : Int32)) - (139 : Int32)).toNatClampNeg) C) (fun C31 => (X1_run_j248 q (fun u2 v3 v4 v5 C => X1_run_l34 q k254 n u2 v3 v4 v5 C) k254 u2 (v3 + (1 : Int32)) v4 v5 C31))))))))))))
noncomputable def f_X1_run (q : Nat) (v1 : Int32) (C : CM) : Option (Int32 × CM) := (gd (isSc ((C (laI q) 5).toNatClampNeg)) (bnd (f_X6_start ((C (laI q) 5).toNatClampNeg) v1 (up2 C (laI q) 4 (0 : Int32))) (fun r2 => (bnd (f_X6_stop ((C (laI q) 5).toNatClampNeg) v1 (up2 C (laI q) 4 (0 : Int32))) (fun r3 => (X1_run_l34 q (fun C => (X1_run_j254 q C)) FU ((C (laI q) 5).toNatClampNeg) r2 r3 (300 : Int32) (up2 C (laI q) 4 (0 : Int32))))))))
theorem cf_X1_run : CF yX1_run cX1_run 9 (Option.some Jvm.ClassFile.FieldType.int) 1 := ⟨kc_X1_run, kj_X1, ⟨by decide +kernel, by decide +kernel, by decide +kernel⟩, by decide⟩
theorem cv_X1_run : CFv yX1_run := ⟨ki_X1_run, ks_X1_run⟩
set_option maxHeartbeats 4000000 in
set_option maxRecDepth 100000 in
theorem c_X1_run (l : Launch) (G : GT) {q : Nat} (hq : q < 2) (v1 : Int32) (C : CM) (O : OM) (res : Int32) (C' : CM) (h : f_X1_run q v1 C = some (res, C')) : MI l G yX1_run cX1_run 9 (Option.some Jvm.ClassFile.FieldType.int) (3) [.ref (gB G + laI q), .int v1] (C, O) res (C', O) := by
  unfold MI
  refine met_in RX1 (by decide +kernel) rfl [(0, .ref (gB G + laI q)), (1, .int v1)] rfl (Nat.le_of_ble_eq_true rfl) ?_
  intro pM eM sM mM aM bM meM cM K hr
  have hj254 : ∀ (C : CM), X1_run_j254 q C = some (res, C') → GO pM l eM (3) sM mM aM bM meM cM (MQ bM (va_Qi (fun (r' : Int32) (u : CM × OM) => r' = res ∧ u = (C', O)) (wB G) (Fr G)) aM sM 0 0 (Fr G)) G 9 (C, O) 254 [(0, .ref (gB G + laI q))] [] := by
    intro C h
    rw [X1_run_j254] at h
    refine go_aload_n K dX1_run_254 0 rfl rfl ?_
    obtain ⟨r33, C33, e33, h⟩ := bnd2_e h
    refine go_cVI K (c_X1_pop l G hq _ _ _ _ e33) cf_X1_pop cv_X1_pop km_X1_90 (rv_X1 hq) (by decide) rfl rfl (Nat.le_of_ble_eq_true rfl) dX1_run_255 ?_
    exact go_iret K hr (Prod.mk.inj (Option.some.inj h)).1 (congrArg (fun z => (z, O)) (Prod.mk.inj (Option.some.inj h)).2) dX1_run_258
  have hl34 : ∀ (n34 : Nat) (u2 : Nat) (hu2 : ScAt u2) (v3 : Int32) (v4 : Int32) (v5 : Int32) (C : CM), X1_run_l34 q (fun C => (X1_run_j254 q C)) n34 u2 v3 v4 v5 C = some (res, C') → GO pM l eM (3) sM mM aM bM meM cM (MQ bM (va_Qi (fun (r' : Int32) (u : CM × OM) => r' = res ∧ u = (C', O)) (wB G) (Fr G)) aM sM 0 0 (Fr G)) G 9 (C, O) 34 [(0, .ref (gB G + laI q)), (2, .ref (gB G + u2)), (3, .int v3), (4, .int v4), (5, .int v5)] [] := by
    intro n34
    induction n34 with
    | zero =>
      intro u2 hu2 v3 v4 v5 C h
      rw [X1_run_l34] at h
      cases h
    | succ n34 ih34 =>
      have hj248 : ∀ (u2 : Nat) (hu2 : ScAt u2) (v3 : Int32) (v4 : Int32) (v5 : Int32) (C : CM), X1_run_j248 q (fun u2 v3 v4 v5 C => X1_run_l34 q (fun C => (X1_run_j254 q C)) n34 u2 v3 v4 v5 C) (fun C => (X1_run_j254 q C)) u2 v3 v4 v5 C = some (res, C') → GO pM l eM (3) sM mM aM bM meM cM (MQ bM (va_Qi (fun (r' : Int32) (u : CM × OM) => r' = res ∧ u = (C', O)) (wB G) (Fr G)) aM sM 0 0 (Fr G)) G 9 (C, O) 248 [(0, .ref (gB G + laI q)), (2, .ref (gB G + u2)), (3, .int v3), (4, .int v4), (5, .int v5)] [] := by
        intro u2 hu2 v3 v4 v5 C h
        rw [X1_run_j248] at h
        refine go_iinc K dX1_run_248 4 rfl (v := (v5 + (-1 : Int32))) rfl (by decide) (lv' := [(5, .int (v5 + (-1 : Int32))), (0, .ref (gB G + laI q)), (2, .ref (gB G + u2)), (3, .int v3), (4, .int v4)]) rfl ?_
        refine go_goto (tgt := 34) K dX1_run_251 (by decide) ?_
        exact go_sub [1, 2, 3, 4, 0] rfl (ih34 _ hu2 _ _ _ _ h)
      have hj140 : ∀ (u2 : Nat) (hu2 : ScAt u2) (v4 : Int32) (v5 : Int32) (v7 : Int32) (C : CM), X1_run_j140 q (fun u2 v3 v4 v5 C => X1_run_l34 q (fun C => (X1_run_j254 q C)) n34 u2 v3 v4 v5 C) (fun C => (X1_run_j254 q C)) u2 v4 v5 v7 C = some (res, C') → GO pM l eM (3) sM mM aM bM meM cM (MQ bM (va_Qi (fun (r' : Int32) (u : CM × OM) => r' = res ∧ u = (C', O)) (wB G) (Fr G)) aM sM 0 0 (Fr G)) G 9 (C, O) 140 [(0, .ref (gB G + laI q)), (2, .ref (gB G + u2)), (4, .int v4), (5, .int v5), (7, .int v7)] [] := by
        intro u2 hu2 v4 v5 v7 C h
        rw [X1_run_j140] at h
        refine go_iload K dX1_run_140 4 rfl ?_
        refine go_istore_n K dX1_run_142 rfl (by decide) (lv' := [(3, .int v7), (0, .ref (gB G + laI q)), (2, .ref (gB G + u2)), (4, .int v4), (5, .int v5), (7, .int v7)]) rfl ?_
        refine go_goto (tgt := 248) K dX1_run_143 (by decide) ?_
        exact go_sub [1, 2, 0, 3, 4] rfl (hj248 _ hu2 _ _ _ _ h)
      have hj146 : ∀ (u2 : Nat) (hu2 : ScAt u2) (v3 : Int32) (v4 : Int32) (v5 : Int32) (v6 : Int32) (C : CM), X1_run_j146 q (fun u2 v3 v4 v5 C => X1_run_l34 q (fun C => (X1_run_j254 q C)) n34 u2 v3 v4 v5 C) (fun C => (X1_run_j254 q C)) u2 v3 v4 v5 v6 C = some (res, C') → GO pM l eM (3) sM mM aM bM meM cM (MQ bM (va_Qi (fun (r' : Int32) (u : CM × OM) => r' = res ∧ u = (C', O)) (wB G) (Fr G)) aM sM 0 0 (Fr G)) G 9 (C, O) 146 [(0, .ref (gB G + laI q)), (2, .ref (gB G + u2)), (3, .int v3), (4, .int v4), (5, .int v5), (6, .int v6)] [] := by
        intro u2 hu2 v3 v4 v5 v6 C h
        rw [X1_run_j146] at h
        refine go_iload K dX1_run_146 5 rfl ?_
        refine go_sipush (v := (155 : Int32)) K dX1_run_148 (by decide) ?_
        refine go_icmp_ne (tgt := 180) K dX1_run_151 (by decide) (fun c12 => ?_) (fun c12 => ?_)
        rotate_left
        · replace h := ite_t h c12
          refine go_aload_n K dX1_run_154 0 rfl rfl ?_
          obtain ⟨r24, C24, e24, h⟩ := bnd2_e h
          refine go_cVI K (c_X1_pop l G hq _ _ _ _ e24) cf_X1_pop cv_X1_pop km_X1_90 (rv_X1 hq) (by decide) rfl rfl (Nat.le_of_ble_eq_true rfl) dX1_run_155 ?_
          refine go_istore K dX1_run_158 (by decide) (lv' := [(8, .int r24), (0, .ref (gB G + laI q)), (2, .ref (gB G + u2)), (3, .int v3), (4, .int v4), (5, .int v5), (6, .int v6)]) rfl ?_
          refine go_aload_n K dX1_run_160 1 rfl rfl ?_
          refine go_aload_n K dX1_run_161 1 rfl rfl ?_
          refine gf_X1 K hq 1 (by decide) kf_X1_22 (v := .ref (gB G + (stI q))) rfl dX1_run_162 ?_
          refine go_aload_n K dX1_run_165 1 rfl rfl ?_
          obtain ⟨r25, C25, e25, h⟩ := bnd2_e h
          refine go_cVI K (c_X1_pop l G hq _ _ _ _ e25) cf_X1_pop cv_X1_pop km_X1_90 (rv_X1 hq) (by decide) rfl rfl (Nat.le_of_ble_eq_true rfl) dX1_run_166 ?_
          refine go_iload K dX1_run_169 0 rfl ?_
          obtain ⟨r26, e26, h⟩ := bnd_e h
          refine go_cVI K (c_X7_owed l G (st_q hq) _ _ _ _ _ e26) cf_X7_owed cv_X7_owed km_X1_30 (rv_X7 (st_q hq)) (by decide) rfl rfl (Nat.le_of_ble_eq_true rfl) dX1_run_171 ?_
          obtain ⟨C27, e27, h⟩ := bnd_e h
          refine go_cVV K (c_X1_push l G hq _ _ _ _ e27) cf_X1_push cv_X1_push km_X1_82 (rv_X1 hq) (by decide) rfl rfl (Nat.le_of_ble_eq_true rfl) dX1_run_174 ?_
          refine go_goto (tgt := 248) K dX1_run_177 (by decide) ?_
          exact go_sub [1, 2, 3, 4, 5] rfl (hj248 _ hu2 _ _ _ _ h)
        replace h := ite_f h c12
        refine go_iload K dX1_run_180 5 rfl ?_
        refine go_iconst (v := (3 : Int32)) K dX1_run_182 (by decide) ?_
        refine go_icmp_ne (tgt := 198) K dX1_run_183 (by decide) (fun c13 => ?_) (fun c13 => ?_)
        rotate_left
        · replace h := ite_t h c13
          refine go_aload_n K dX1_run_186 0 rfl rfl ?_
          refine go_aload_n K dX1_run_187 0 rfl rfl ?_
          obtain ⟨r22, C22, e22, h⟩ := bnd2_e h
          refine go_cVI K (c_X1_pop l G hq _ _ _ _ e22) cf_X1_pop cv_X1_pop km_X1_90 (rv_X1 hq) (by decide) rfl rfl (Nat.le_of_ble_eq_true rfl) dX1_run_188 ?_
          refine go_ineg K dX1_run_191 ?_
          obtain ⟨C23, e23, h⟩ := bnd_e h
          refine go_cVV K (c_X1_push l G hq _ _ _ _ e23) cf_X1_push cv_X1_push km_X1_82 (rv_X1 hq) (by decide) rfl rfl (Nat.le_of_ble_eq_true rfl) dX1_run_192 ?_
          refine go_goto (tgt := 248) K dX1_run_195 (by decide) ?_
          exact go_sub [0, 1, 2, 3, 4] rfl (hj248 _ hu2 _ _ _ _ h)
        replace h := ite_f h c13
        refine go_iload K dX1_run_198 5 rfl ?_
        refine go_sipush (v := (154 : Int32)) K dX1_run_200 (by decide) ?_
        refine go_icmp_ne (tgt := 219) K dX1_run_203 (by decide) (fun c14 => ?_) (fun c14 => ?_)
        rotate_left
        · replace h := ite_t h c14
          refine go_aload_n K dX1_run_206 0 rfl rfl ?_
          refine go_iconst (v := (1 : Int32)) K dX1_run_207 (by decide) ?_
          refine go_aload_n K dX1_run_208 0 rfl rfl ?_
          obtain ⟨r20, C20, e20, h⟩ := bnd2_e h
          refine go_cVI K (c_X1_pop l G hq _ _ _ _ e20) cf_X1_pop cv_X1_pop km_X1_90 (rv_X1 hq) (by decide) rfl rfl (Nat.le_of_ble_eq_true rfl) dX1_run_209 ?_
          refine go_isub K dX1_run_212 ?_
          obtain ⟨C21, e21, h⟩ := bnd_e h
          refine go_cVV K (c_X1_push l G hq _ _ _ _ e21) cf_X1_push cv_X1_push km_X1_82 (rv_X1 hq) (by decide) rfl rfl (Nat.le_of_ble_eq_true rfl) dX1_run_213 ?_
          refine go_goto (tgt := 248) K dX1_run_216 (by decide) ?_
          exact go_sub [0, 1, 2, 3, 4] rfl (hj248 _ hu2 _ _ _ _ h)
        replace h := ite_f h c14
        refine go_iload K dX1_run_219 5 rfl ?_
        refine go_sipush (v := (157 : Int32)) K dX1_run_221 (by decide) ?_
        refine go_icmp_eq (tgt := 248) K dX1_run_224 (by decide) (fun c15 => ?_) (fun c15 => ?_)
        · replace h := ite_t h c15
          exact go_sub [0, 1, 2, 3, 4] rfl (hj248 _ hu2 _ _ _ _ h)
        replace h := ite_f h c15
        refine go_aload_n K dX1_run_227 0 rfl rfl ?_
        obtain ⟨r16, C16, e16, h⟩ := bnd2_e h
        refine go_cVI K (c_X1_pop l G hq _ _ _ _ e16) cf_X1_pop cv_X1_pop km_X1_90 (rv_X1 hq) (by decide) rfl rfl (Nat.le_of_ble_eq_true rfl) dX1_run_228 ?_
        refine go_istore K dX1_run_231 (by decide) (lv' := [(8, .int r16), (0, .ref (gB G + laI q)), (2, .ref (gB G + u2)), (3, .int v3), (4, .int v4), (5, .int v5), (6, .int v6)]) rfl ?_
        refine go_aload_n K dX1_run_233 1 rfl rfl ?_
        refine go_iload K dX1_run_234 6 rfl ?_
        refine go_aload_n K dX1_run_236 1 rfl rfl ?_
        obtain ⟨r17, C17, e17, h⟩ := bnd2_e h
        refine go_cVI K (c_X1_pop l G hq _ _ _ _ e17) cf_X1_pop cv_X1_pop km_X1_90 (rv_X1 hq) (by decide) rfl rfl (Nat.le_of_ble_eq_true rfl) dX1_run_237 ?_
        refine go_iload K dX1_run_240 0 rfl ?_
        obtain ⟨r18, e18, h⟩ := bnd_e h
        refine go_cSI K (c_X1_joined l G _ _ _ _ _ _ e18) cf_X1_joined kt_X1_joined km_X1_94 (by decide) rfl rfl (Nat.le_of_ble_eq_true rfl) dX1_run_242 ?_
        obtain ⟨C19, e19, h⟩ := bnd_e h
        refine go_cVV K (c_X1_push l G hq _ _ _ _ e19) cf_X1_push cv_X1_push km_X1_82 (rv_X1 hq) (by decide) rfl rfl (Nat.le_of_ble_eq_true rfl) dX1_run_245 ?_
        exact go_sub [1, 2, 3, 4, 5] rfl (hj248 _ hu2 _ _ _ _ h)
      intro u2 hu2 v3 v4 v5 C h
      rw [X1_run_l34] at h
      refine go_iload K dX1_run_34 4 rfl ?_
      refine go_if_le (tgt := 254) K dX1_run_36 (by decide) (fun c4 => ?_) (fun c4 => ?_)
      · replace h := ite_t h c4
        exact go_sub [0] rfl (hj254 _ h)
      replace h := ite_f h c4
      refine go_iload_n K dX1_run_39 2 rfl rfl ?_
      refine go_iload K dX1_run_40 3 rfl ?_
      refine go_icmp_ge (tgt := 254) K dX1_run_42 (by decide) (fun c5 => ?_) (fun c5 => ?_)
      · replace h := ite_t h c5
        exact go_sub [0] rfl (hj254 _ h)
      replace h := ite_f h c5
      refine go_aload_n K dX1_run_45 1 rfl rfl ?_
      refine go_iload_n K dX1_run_46 2 rfl rfl ?_
      obtain ⟨r6, e6, h⟩ := bnd_e h
      refine go_cVI K (c_X6_step l G hu2 _ _ _ _ e6) cf_X6_step cv_X6_step km_X1_79 (rv_X6 hu2) (by decide) rfl rfl (Nat.le_of_ble_eq_true rfl) dX1_run_47 ?_
      refine go_sipush (v := (256 : Int32)) K dX1_run_50 (by decide) ?_
      refine go_irem K dX1_run_53 (by decide) ?_
      refine go_fold (y := (irm r6 (256 : Int32))) rfl ?_
      refine go_istore K dX1_run_54 (by decide) (lv' := [(6, .int (irm r6 (256 : Int32))), (0, .ref (gB G + laI q)), (2, .ref (gB G + u2)), (3, .int v3), (4, .int v4), (5, .int v5)]) rfl ?_
      refine go_aload_n K dX1_run_56 2 rfl rfl ?_
      refine go_iload_n K dX1_run_57 3 rfl rfl ?_
      obtain ⟨r7, e7, h⟩ := bnd_e h
      refine go_cVI K (c_X6_step l G hu2 _ _ _ _ e7) cf_X6_step cv_X6_step km_X1_79 (rv_X6 hu2) (by decide) rfl rfl (Nat.le_of_ble_eq_true rfl) dX1_run_58 ?_
      refine go_sipush (v := (256 : Int32)) K dX1_run_61 (by decide) ?_
      refine go_idiv K dX1_run_64 (by decide) ?_
      refine go_istore K dX1_run_65 (by decide) (lv' := [(7, .int (r7 / (256 : Int32))), (6, .int (irm r6 (256 : Int32))), (0, .ref (gB G + laI q)), (2, .ref (gB G + u2)), (3, .int v3), (4, .int v4), (5, .int v5)]) rfl ?_
      refine go_iinc K dX1_run_67 4 rfl (v := (v3 + (1 : Int32))) rfl (by decide) (lv' := [(3, .int (v3 + (1 : Int32))), (7, .int (r7 / (256 : Int32))), (6, .int (irm r6 (256 : Int32))), (0, .ref (gB G + laI q)), (2, .ref (gB G + u2)), (4, .int v4), (5, .int v5)]) rfl ?_
      refine go_iload K dX1_run_70 2 rfl ?_
      refine go_iconst (v := (2 : Int32)) K dX1_run_72 (by decide) ?_
      refine go_icmp_ne (tgt := 85) K dX1_run_73 (by decide) (fun c8 => ?_) (fun c8 => ?_)
      rotate_left
      · replace h := ite_t h c8
        refine go_aload_n K dX1_run_76 3 rfl rfl ?_
        refine go_iload K dX1_run_77 1 rfl ?_
        obtain ⟨C32, e32, h⟩ := bnd_e h
        refine go_cVV K (c_X1_push l G hq _ _ _ _ e32) cf_X1_push cv_X1_push km_X1_82 (rv_X1 hq) (by decide) rfl rfl (Nat.le_of_ble_eq_true rfl) dX1_run_79 ?_
        refine go_goto (tgt := 248) K dX1_run_82 (by decide) ?_
        exact go_sub [3, 4, 0, 5, 6] rfl (hj248 _ hu2 _ _ _ _ h)
      replace h := ite_f h c8
      refine go_iload K dX1_run_85 2 rfl ?_
      refine go_sipush (v := (139 : Int32)) K dX1_run_87 (by decide) ?_
      refine go_sipush (v := (148 : Int32)) K dX1_run_90 (by decide) ?_
      refine go_cNI K (c_X11_within l G _ _ _ _ _ _ rfl) cf_X11_within kt_X11_within (List.mem_of_getElem? (i := 13) rfl) (by decide) rfl rfl (Nat.le_of_ble_eq_true rfl) dX1_run_93 ?_
      refine go_if_eq (tgt := 117) K dX1_run_96 (by decide) (fun c9 => ?_) (fun c9 => ?_)
      rotate_left
      · replace h := ite_f h c9
        refine go_aload_n K dX1_run_99 3 rfl rfl ?_
        refine go_aload_n K dX1_run_100 3 rfl rfl ?_
        refine gf_X1 K hq 2 (by decide) kf_X1_9 (v := .ref (gB G + (laI q + 1))) rfl dX1_run_101 ?_
        refine go_iload K dX1_run_104 2 rfl ?_
        refine go_sipush (v := (139 : Int32)) K dX1_run_106 (by decide) ?_
        refine go_isub K dX1_run_109 ?_
        obtain ⟨g30, h⟩ := gd_e h
        refine go_cald K (la_lt hq 1 (by decide)) (la_nm hq) g30 rfl dX1_run_110 ?_
        obtain ⟨C31, e31, h⟩ := bnd_e h
        refine go_cVV K (c_X1_push l G hq _ _ _ _ e31) cf_X1_push cv_X1_push km_X1_82 (rv_X1 hq) (by decide) rfl rfl (Nat.le_of_ble_eq_true rfl) dX1_run_111 ?_
        refine go_goto (tgt := 248) K dX1_run_114 (by decide) ?_
        exact go_sub [3, 4, 0, 5, 6] rfl (hj248 _ hu2 _ _ _ _ h)
      replace h := ite_t h c9
      refine go_iload K dX1_run_117 2 rfl ?_
      refine go_sipush (v := (158 : Int32)) K dX1_run_119 (by decide) ?_
      refine go_icmp_eq (tgt := 140) K dX1_run_122 (by decide) (fun c10 => ?_) (fun c10 => ?_)
      · replace h := ite_t h c10
        exact go_sub [3, 4, 5, 6, 1] rfl (hj140 _ hu2 _ _ _ _ h)
      replace h := ite_f h c10
      refine go_iload K dX1_run_125 2 rfl ?_
      refine go_sipush (v := (157 : Int32)) K dX1_run_127 (by decide) ?_
      refine go_icmp_ne (tgt := 146) K dX1_run_130 (by decide) (fun c11 => ?_) (fun c11 => ?_)
      · replace h := ite_f h c11
        exact go_sub [3, 4, 0, 5, 6, 2] rfl (hj146 _ hu2 _ _ _ _ _ h)
      replace h := ite_t h c11
      refine go_aload_n K dX1_run_133 3 rfl rfl ?_
      obtain ⟨r28, C28, e28, h⟩ := bnd2_e h
      refine go_cVI K (c_X1_pop l G hq _ _ _ _ e28) cf_X1_pop cv_X1_pop km_X1_90 (rv_X1 hq) (by decide) rfl rfl (Nat.le_of_ble_eq_true rfl) dX1_run_134 ?_
      refine go_if_ne (tgt := 146) K dX1_run_137 (by decide) (fun c29 => ?_) (fun c29 => ?_)
      · replace h := ite_f h c29
        exact go_sub [3, 4, 0, 5, 6, 2] rfl (hj146 _ hu2 _ _ _ _ _ h)
      replace h := ite_t h c29
      exact go_sub [3, 4, 5, 6, 1] rfl (hj140 _ hu2 _ _ _ _ h)
  rw [f_X1_run] at h
  refine go_aload_n K dX1_run_0 0 rfl rfl ?_
  obtain ⟨g1, h⟩ := gd_e h
  refine gf_X1 K hq 5 (by decide) kf_X1_26 (v := .ref (gB G + ((C (laI q) 5).toNatClampNeg))) rfl dX1_run_1 ?_
  refine go_astore_n K dX1_run_4 rfl (by decide) (lv' := [(2, .ref (gB G + ((C (laI q) 5).toNatClampNeg))), (0, .ref (gB G + laI q)), (1, .int v1)]) rfl ?_
  refine go_aload_n K dX1_run_5 0 rfl rfl ?_
  refine go_ifnonnull (tgt := 11) K dX1_run_6 (by decide) ?_
  refine go_aload_n K dX1_run_11 1 rfl rfl ?_
  refine go_iconst (v := (0 : Int32)) K dX1_run_12 (by decide) ?_
  refine pf_X1 K hq 4 (by decide) kf_X1_70 rfl rfl rfl dX1_run_13 ?_
  refine go_aload_n K dX1_run_16 0 rfl rfl ?_
  refine go_iload_n K dX1_run_17 2 rfl rfl ?_
  obtain ⟨r2, e2, h⟩ := bnd_e h
  refine go_cVI K (c_X6_start l G (isSc_at g1) _ _ _ _ e2) cf_X6_start cv_X6_start km_X1_73 (rv_X6 (isSc_at g1)) (by decide) rfl rfl (Nat.le_of_ble_eq_true rfl) dX1_run_18 ?_
  refine go_istore_n K dX1_run_21 rfl (by decide) (lv' := [(3, .int r2), (2, .ref (gB G + ((C (laI q) 5).toNatClampNeg))), (0, .ref (gB G + laI q)), (1, .int v1)]) rfl ?_
  refine go_aload_n K dX1_run_22 1 rfl rfl ?_
  refine go_iload_n K dX1_run_23 3 rfl rfl ?_
  obtain ⟨r3, e3, h⟩ := bnd_e h
  refine go_cVI K (c_X6_stop l G (isSc_at g1) _ _ _ _ e3) cf_X6_stop cv_X6_stop km_X1_76 (rv_X6 (isSc_at g1)) (by decide) rfl rfl (Nat.le_of_ble_eq_true rfl) dX1_run_24 ?_
  refine go_istore K dX1_run_27 (by decide) (lv' := [(4, .int r3), (3, .int r2), (2, .ref (gB G + ((C (laI q) 5).toNatClampNeg))), (0, .ref (gB G + laI q)), (1, .int v1)]) rfl ?_
  refine go_sipush (v := (300 : Int32)) K dX1_run_29 (by decide) ?_
  refine go_istore K dX1_run_32 (by decide) (lv' := [(5, .int (300 : Int32)), (4, .int r3), (3, .int r2), (2, .ref (gB G + ((C (laI q) 5).toNatClampNeg))), (0, .ref (gB G + laI q)), (1, .int v1)]) rfl ?_
  exact go_sub [4, 3, 2, 1, 0] rfl (hl34 FU _ (isSc_at g1) _ _ _ _ h)
noncomputable def X1_sizeOf_j35 (q : Nat) (v3 : Int32) (C : CM) : Option (Int32 × CM) := (some ((f_X11_clamped v3 (1 : Int32) (99 : Int32)), C))
noncomputable def f_X1_sizeOf (q : Nat) (v1 : Int32) (v2 : Int32) (C : CM) : Option (Int32 × CM) := (bnd (f_X7_owed (stI q) v1 v2 C) (fun r1 => (bnd (f_X1_has q (128 : Int32) C) (fun r2 => (if r2 = 0 then (X1_sizeOf_j35 q r1 C) else (bnd (f_X1_name q v1 v2 (0 : Int32) C) (fun C4 => (bnd2 (f_X1_run q (128 : Int32) C4) (fun r5 C5 => (X1_sizeOf_j35 q r5 C5))))))))))
theorem cf_X1_sizeOf : CF yX1_sizeOf cX1_sizeOf 4 (Option.some Jvm.ClassFile.FieldType.int) 2 := ⟨kc_X1_sizeOf, kj_X1, ⟨by decide +kernel, by decide +kernel, by decide +kernel⟩, by decide⟩
theorem cv_X1_sizeOf : CFv yX1_sizeOf := ⟨ki_X1_sizeOf, ks_X1_sizeOf⟩
set_option maxHeartbeats 4000000 in
set_option maxRecDepth 100000 in
theorem c_X1_sizeOf (l : Launch) (G : GT) {q : Nat} (hq : q < 2) (v1 : Int32) (v2 : Int32) (C : CM) (O : OM) (res : Int32) (C' : CM) (h : f_X1_sizeOf q v1 v2 C = some (res, C')) : MI l G yX1_sizeOf cX1_sizeOf 4 (Option.some Jvm.ClassFile.FieldType.int) (4) [.ref (gB G + laI q), .int v1, .int v2] (C, O) res (C', O) := by
  unfold MI
  refine met_in RX1 (by decide +kernel) rfl [(0, .ref (gB G + laI q)), (1, .int v1), (2, .int v2)] rfl (Nat.le_of_ble_eq_true rfl) ?_
  intro pM eM sM mM aM bM meM cM K hr
  have hj35 : ∀ (v3 : Int32) (C : CM), X1_sizeOf_j35 q v3 C = some (res, C') → GO pM l eM (4) sM mM aM bM meM cM (MQ bM (va_Qi (fun (r' : Int32) (u : CM × OM) => r' = res ∧ u = (C', O)) (wB G) (Fr G)) aM sM 0 0 (Fr G)) G 4 (C, O) 35 [(3, .int v3)] [] := by
    intro v3 C h
    rw [X1_sizeOf_j35] at h
    refine go_iload_n K dX1_sizeOf_35 0 rfl rfl ?_
    refine go_iconst (v := (1 : Int32)) K dX1_sizeOf_36 (by decide) ?_
    refine go_bipush (v := (99 : Int32)) K dX1_sizeOf_37 (by decide) ?_
    refine go_cNI K (c_X11_clamped l G _ _ _ _ _ _ rfl) cf_X11_clamped kt_X11_clamped (List.mem_of_getElem? (i := 14) rfl) (by decide) rfl rfl (Nat.le_of_ble_eq_true rfl) dX1_sizeOf_39 ?_
    exact go_iret K hr (Prod.mk.inj (Option.some.inj h)).1 (congrArg (fun z => (z, O)) (Prod.mk.inj (Option.some.inj h)).2) dX1_sizeOf_42
  rw [f_X1_sizeOf] at h
  refine go_aload_n K dX1_sizeOf_0 0 rfl rfl ?_
  refine gf_X1 K hq 1 (by decide) kf_X1_22 (v := .ref (gB G + (stI q))) rfl dX1_sizeOf_1 ?_
  refine go_iload_n K dX1_sizeOf_4 1 rfl rfl ?_
  refine go_iload_n K dX1_sizeOf_5 2 rfl rfl ?_
  obtain ⟨r1, e1, h⟩ := bnd_e h
  refine go_cVI K (c_X7_owed l G (st_q hq) _ _ _ _ _ e1) cf_X7_owed cv_X7_owed km_X1_30 (rv_X7 (st_q hq)) (by decide) rfl rfl (Nat.le_of_ble_eq_true rfl) dX1_sizeOf_6 ?_
  refine go_istore_n K dX1_sizeOf_9 rfl (by decide) (lv' := [(3, .int r1), (0, .ref (gB G + laI q)), (1, .int v1), (2, .int v2)]) rfl ?_
  refine go_aload_n K dX1_sizeOf_10 1 rfl rfl ?_
  refine go_sipush (v := (128 : Int32)) K dX1_sizeOf_11 (by decide) ?_
  obtain ⟨r2, e2, h⟩ := bnd_e h
  refine go_cVI K (c_X1_has l G hq _ _ _ _ e2) cf_X1_has cv_X1_has km_X1_36 (rv_X1 hq) (by decide) rfl rfl (Nat.le_of_ble_eq_true rfl) dX1_sizeOf_14 ?_
  refine go_if_eq (tgt := 35) K dX1_sizeOf_17 (by decide) (fun c3 => ?_) (fun c3 => ?_)
  · replace h := ite_t h c3
    exact go_sub [0] rfl (hj35 _ _ h)
  replace h := ite_f h c3
  refine go_aload_n K dX1_sizeOf_20 1 rfl rfl ?_
  refine go_iload_n K dX1_sizeOf_21 2 rfl rfl ?_
  refine go_iload_n K dX1_sizeOf_22 3 rfl rfl ?_
  refine go_iconst (v := (0 : Int32)) K dX1_sizeOf_23 (by decide) ?_
  obtain ⟨C4, e4, h⟩ := bnd_e h
  refine go_cVV K (c_X1_name l G hq _ _ _ _ _ _ e4) cf_X1_name cv_X1_name km_X1_40 (rv_X1 hq) (by decide) rfl rfl (Nat.le_of_ble_eq_true rfl) dX1_sizeOf_24 ?_
  refine go_aload_n K dX1_sizeOf_27 1 rfl rfl ?_
  refine go_sipush (v := (128 : Int32)) K dX1_sizeOf_28 (by decide) ?_
  obtain ⟨r5, C5, e5, h⟩ := bnd2_e h
  refine go_cVI K (c_X1_run l G hq _ _ _ _ _ e5) cf_X1_run cv_X1_run km_X1_44 (rv_X1 hq) (by decide) rfl rfl (Nat.le_of_ble_eq_true rfl) dX1_sizeOf_31 ?_
  refine go_istore_n K dX1_sizeOf_34 rfl (by decide) (lv' := [(3, .int r5), (0, .ref (gB G + laI q)), (1, .int v1), (2, .int v2)]) rfl ?_
  exact go_sub [0] rfl (hj35 _ _ h)
noncomputable def X1_moreOf_j36 (q : Nat) (v4 : Int32) (C : CM) : Option (Int32 × CM) := (some ((f_X11_clamped v4 (0 : Int32) (9999 : Int32)), C))
noncomputable def f_X1_moreOf (q : Nat) (v1 : Int32) (v2 : Int32) (v3 : Int32) (C : CM) : Option (Int32 × CM) := (bnd (f_X1_has q (129 : Int32) C) (fun r1 => (if r1 = 0 then (X1_moreOf_j36 q ((v3 + (v3 / (10 : Int32))) + (1 : Int32)) C) else (bnd (f_X1_name q v1 v2 v3 C) (fun C3 => (bnd2 (f_X1_run q (129 : Int32) C3) (fun r4 C4 => (X1_moreOf_j36 q r4 C4))))))))
theorem cf_X1_moreOf : CF yX1_moreOf cX1_moreOf 5 (Option.some Jvm.ClassFile.FieldType.int) 3 := ⟨kc_X1_moreOf, kj_X1, ⟨by decide +kernel, by decide +kernel, by decide +kernel⟩, by decide⟩
theorem cv_X1_moreOf : CFv yX1_moreOf := ⟨ki_X1_moreOf, ks_X1_moreOf⟩
set_option maxHeartbeats 4000000 in
set_option maxRecDepth 100000 in
theorem c_X1_moreOf (l : Launch) (G : GT) {q : Nat} (hq : q < 2) (v1 : Int32) (v2 : Int32) (v3 : Int32) (C : CM) (O : OM) (res : Int32) (C' : CM) (h : f_X1_moreOf q v1 v2 v3 C = some (res, C')) : MI l G yX1_moreOf cX1_moreOf 5 (Option.some Jvm.ClassFile.FieldType.int) (4) [.ref (gB G + laI q), .int v1, .int v2, .int v3] (C, O) res (C', O) := by
  unfold MI
  refine met_in RX1 (by decide +kernel) rfl [(0, .ref (gB G + laI q)), (1, .int v1), (2, .int v2), (3, .int v3)] rfl (Nat.le_of_ble_eq_true rfl) ?_
  intro pM eM sM mM aM bM meM cM K hr
  have hj36 : ∀ (v4 : Int32) (C : CM), X1_moreOf_j36 q v4 C = some (res, C') → GO pM l eM (4) sM mM aM bM meM cM (MQ bM (va_Qi (fun (r' : Int32) (u : CM × OM) => r' = res ∧ u = (C', O)) (wB G) (Fr G)) aM sM 0 0 (Fr G)) G 5 (C, O) 36 [(4, .int v4)] [] := by
    intro v4 C h
    rw [X1_moreOf_j36] at h
    refine go_iload K dX1_moreOf_36 0 rfl ?_
    refine go_iconst (v := (0 : Int32)) K dX1_moreOf_38 (by decide) ?_
    refine go_sipush (v := (9999 : Int32)) K dX1_moreOf_39 (by decide) ?_
    refine go_cNI K (c_X11_clamped l G _ _ _ _ _ _ rfl) cf_X11_clamped kt_X11_clamped (List.mem_of_getElem? (i := 14) rfl) (by decide) rfl rfl (Nat.le_of_ble_eq_true rfl) dX1_moreOf_42 ?_
    exact go_iret K hr (Prod.mk.inj (Option.some.inj h)).1 (congrArg (fun z => (z, O)) (Prod.mk.inj (Option.some.inj h)).2) dX1_moreOf_45
  rw [f_X1_moreOf] at h
  refine go_iload_n K dX1_moreOf_0 3 rfl rfl ?_
  refine go_iload_n K dX1_moreOf_1 3 rfl rfl ?_
  refine go_bipush (v := (10 : Int32)) K dX1_moreOf_2 (by decide) ?_
  refine go_idiv K dX1_moreOf_4 (by decide) ?_
  refine go_iadd K dX1_moreOf_5 ?_
  refine go_iconst (v := (1 : Int32)) K dX1_moreOf_6 (by decide) ?_
  refine go_iadd K dX1_moreOf_7 ?_
  refine go_istore K dX1_moreOf_8 (by decide) (lv' := [(4, .int ((v3 + (v3 / (10 : Int32))) + (1 : Int32))), (0, .ref (gB G + laI q)), (1, .int v1), (2, .int v2), (3, .int v3)]) rfl ?_
  refine go_aload_n K dX1_moreOf_10 1 rfl rfl ?_
  refine go_sipush (v := (129 : Int32)) K dX1_moreOf_11 (by decide) ?_
  obtain ⟨r1, e1, h⟩ := bnd_e h
  refine go_cVI K (c_X1_has l G hq _ _ _ _ e1) cf_X1_has cv_X1_has km_X1_36 (rv_X1 hq) (by decide) rfl rfl (Nat.le_of_ble_eq_true rfl) dX1_moreOf_14 ?_
  refine go_if_eq (tgt := 36) K dX1_moreOf_17 (by decide) (fun c2 => ?_) (fun c2 => ?_)
  · replace h := ite_t h c2
    exact go_sub [0] rfl (hj36 _ _ h)
  replace h := ite_f h c2
  refine go_aload_n K dX1_moreOf_20 1 rfl rfl ?_
  refine go_iload_n K dX1_moreOf_21 2 rfl rfl ?_
  refine go_iload_n K dX1_moreOf_22 3 rfl rfl ?_
  refine go_iload_n K dX1_moreOf_23 4 rfl rfl ?_
  obtain ⟨C3, e3, h⟩ := bnd_e h
  refine go_cVV K (c_X1_name l G hq _ _ _ _ _ _ e3) cf_X1_name cv_X1_name km_X1_40 (rv_X1 hq) (by decide) rfl rfl (Nat.le_of_ble_eq_true rfl) dX1_moreOf_24 ?_
  refine go_aload_n K dX1_moreOf_27 1 rfl rfl ?_
  refine go_sipush (v := (129 : Int32)) K dX1_moreOf_28 (by decide) ?_
  obtain ⟨r4, C4, e4, h⟩ := bnd2_e h
  refine go_cVI K (c_X1_run l G hq _ _ _ _ _ e4) cf_X1_run cv_X1_run km_X1_44 (rv_X1 hq) (by decide) rfl rfl (Nat.le_of_ble_eq_true rfl) dX1_moreOf_31 ?_
  refine go_istore K dX1_moreOf_34 (by decide) (lv' := [(4, .int r4), (0, .ref (gB G + laI q)), (1, .int v1), (2, .int v2), (3, .int v3)]) rfl ?_
  exact go_sub [0] rfl (hj36 _ _ h)
noncomputable def X1_lateOf_j37 (q : Nat) (v3 : Int32) (C : CM) : Option (Int32 × CM) := (some ((f_X11_clamped v3 (0 : Int32) (9999 : Int32)), C))
noncomputable def f_X1_lateOf (q : Nat) (v1 : Int32) (v2 : Int32) (C : CM) : Option (Int32 × CM) := (bnd (f_X7_owed (stI q) v1 v2 C) (fun r1 => (bnd (f_X1_has q (130 : Int32) C) (fun r2 => (if r2 = 0 then (X1_lateOf_j37 q ((2 : Int32) * r1) C) else (bnd (f_X1_name q v1 v2 (0 : Int32) C) (fun C4 => (bnd2 (f_X1_run q (130 : Int32) C4) (fun r5 C5 => (X1_lateOf_j37 q r5 C5))))))))))
theorem cf_X1_lateOf : CF yX1_lateOf cX1_lateOf 4 (Option.some Jvm.ClassFile.FieldType.int) 2 := ⟨kc_X1_lateOf, kj_X1, ⟨by decide +kernel, by decide +kernel, by decide +kernel⟩, by decide⟩
theorem cv_X1_lateOf : CFv yX1_lateOf := ⟨ki_X1_lateOf, ks_X1_lateOf⟩
set_option maxHeartbeats 4000000 in
set_option maxRecDepth 100000 in
theorem c_X1_lateOf (l : Launch) (G : GT) {q : Nat} (hq : q < 2) (v1 : Int32) (v2 : Int32) (C : CM) (O : OM) (res : Int32) (C' : CM) (h : f_X1_lateOf q v1 v2 C = some (res, C')) : MI l G yX1_lateOf cX1_lateOf 4 (Option.some Jvm.ClassFile.FieldType.int) (4) [.ref (gB G + laI q), .int v1, .int v2] (C, O) res (C', O) := by
  unfold MI
  refine met_in RX1 (by decide +kernel) rfl [(0, .ref (gB G + laI q)), (1, .int v1), (2, .int v2)] rfl (Nat.le_of_ble_eq_true rfl) ?_
  intro pM eM sM mM aM bM meM cM K hr
  have hj37 : ∀ (v3 : Int32) (C : CM), X1_lateOf_j37 q v3 C = some (res, C') → GO pM l eM (4) sM mM aM bM meM cM (MQ bM (va_Qi (fun (r' : Int32) (u : CM × OM) => r' = res ∧ u = (C', O)) (wB G) (Fr G)) aM sM 0 0 (Fr G)) G 4 (C, O) 37 [(3, .int v3)] [] := by
    intro v3 C h
    rw [X1_lateOf_j37] at h
    refine go_iload_n K dX1_lateOf_37 0 rfl rfl ?_
    refine go_iconst (v := (0 : Int32)) K dX1_lateOf_38 (by decide) ?_
    refine go_sipush (v := (9999 : Int32)) K dX1_lateOf_39 (by decide) ?_
    refine go_cNI K (c_X11_clamped l G _ _ _ _ _ _ rfl) cf_X11_clamped kt_X11_clamped (List.mem_of_getElem? (i := 14) rfl) (by decide) rfl rfl (Nat.le_of_ble_eq_true rfl) dX1_lateOf_42 ?_
    exact go_iret K hr (Prod.mk.inj (Option.some.inj h)).1 (congrArg (fun z => (z, O)) (Prod.mk.inj (Option.some.inj h)).2) dX1_lateOf_45
  rw [f_X1_lateOf] at h
  refine go_iconst (v := (2 : Int32)) K dX1_lateOf_0 (by decide) ?_
  refine go_aload_n K dX1_lateOf_1 0 rfl rfl ?_
  refine gf_X1 K hq 1 (by decide) kf_X1_22 (v := .ref (gB G + (stI q))) rfl dX1_lateOf_2 ?_
  refine go_iload_n K dX1_lateOf_5 1 rfl rfl ?_
  refine go_iload_n K dX1_lateOf_6 2 rfl rfl ?_
  obtain ⟨r1, e1, h⟩ := bnd_e h
  refine go_cVI K (c_X7_owed l G (st_q hq) _ _ _ _ _ e1) cf_X7_owed cv_X7_owed km_X1_30 (rv_X7 (st_q hq)) (by decide) rfl rfl (Nat.le_of_ble_eq_true rfl) dX1_lateOf_7 ?_
  refine go_imul K dX1_lateOf_10 ?_
  refine go_istore_n K dX1_lateOf_11 rfl (by decide) (lv' := [(3, .int ((2 : Int32) * r1)), (0, .ref (gB G + laI q)), (1, .int v1), (2, .int v2)]) rfl ?_
  refine go_aload_n K dX1_lateOf_12 1 rfl rfl ?_
  refine go_sipush (v := (130 : Int32)) K dX1_lateOf_13 (by decide) ?_
  obtain ⟨r2, e2, h⟩ := bnd_e h
  refine go_cVI K (c_X1_has l G hq _ _ _ _ e2) cf_X1_has cv_X1_has km_X1_36 (rv_X1 hq) (by decide) rfl rfl (Nat.le_of_ble_eq_true rfl) dX1_lateOf_16 ?_
  refine go_if_eq (tgt := 37) K dX1_lateOf_19 (by decide) (fun c3 => ?_) (fun c3 => ?_)
  · replace h := ite_t h c3
    exact go_sub [0] rfl (hj37 _ _ h)
  replace h := ite_f h c3
  refine go_aload_n K dX1_lateOf_22 1 rfl rfl ?_
  refine go_iload_n K dX1_lateOf_23 2 rfl rfl ?_
  refine go_iload_n K dX1_lateOf_24 3 rfl rfl ?_
  refine go_iconst (v := (0 : Int32)) K dX1_lateOf_25 (by decide) ?_
  obtain ⟨C4, e4, h⟩ := bnd_e h
  refine go_cVV K (c_X1_name l G hq _ _ _ _ _ _ e4) cf_X1_name cv_X1_name km_X1_40 (rv_X1 hq) (by decide) rfl rfl (Nat.le_of_ble_eq_true rfl) dX1_lateOf_26 ?_
  refine go_aload_n K dX1_lateOf_29 1 rfl rfl ?_
  refine go_sipush (v := (130 : Int32)) K dX1_lateOf_30 (by decide) ?_
  obtain ⟨r5, C5, e5, h⟩ := bnd2_e h
  refine go_cVI K (c_X1_run l G hq _ _ _ _ _ e5) cf_X1_run cv_X1_run km_X1_44 (rv_X1 hq) (by decide) rfl rfl (Nat.le_of_ble_eq_true rfl) dX1_lateOf_33 ?_
  refine go_istore_n K dX1_lateOf_36 rfl (by decide) (lv' := [(3, .int r5), (0, .ref (gB G + laI q)), (1, .int v1), (2, .int v2)]) rfl ?_
  exact go_sub [0] rfl (hj37 _ _ h)
noncomputable def X1_ruinOf_j29 (q : Nat) (v2 : Int32) (C : CM) : Option (Int32 × CM) := (some ((f_X11_clamped v2 (0 : Int32) (9999 : Int32)), C))
noncomputable def f_X1_ruinOf (q : Nat) (v1 : Int32) (C : CM) : Option (Int32 × CM) := (bnd (f_X1_has q (131 : Int32) C) (fun r1 => (if r1 = 0 then (X1_ruinOf_j29 q (300 : Int32) C) else (bnd (f_X1_name q v1 (-1 : Int32) (0 : Int32) C) (fun C3 => (bnd2 (f_X1_run q (131 : Int32) C3) (fun r4 C4 => (X1_ruinOf_j29 q r4 C4))))))))
theorem cf_X1_ruinOf : CF yX1_ruinOf cX1_ruinOf 3 (Option.some Jvm.ClassFile.FieldType.int) 1 := ⟨kc_X1_ruinOf, kj_X1, ⟨by decide +kernel, by decide +kernel, by decide +kernel⟩, by decide⟩
theorem cv_X1_ruinOf : CFv yX1_ruinOf := ⟨ki_X1_ruinOf, ks_X1_ruinOf⟩
set_option maxHeartbeats 4000000 in
set_option maxRecDepth 100000 in
theorem c_X1_ruinOf (l : Launch) (G : GT) {q : Nat} (hq : q < 2) (v1 : Int32) (C : CM) (O : OM) (res : Int32) (C' : CM) (h : f_X1_ruinOf q v1 C = some (res, C')) : MI l G yX1_ruinOf cX1_ruinOf 3 (Option.some Jvm.ClassFile.FieldType.int) (4) [.ref (gB G + laI q), .int v1] (C, O) res (C', O) := by
  unfold MI
  refine met_in RX1 (by decide +kernel) rfl [(0, .ref (gB G + laI q)), (1, .int v1)] rfl (Nat.le_of_ble_eq_true rfl) ?_
  intro pM eM sM mM aM bM meM cM K hr
  have hj29 : ∀ (v2 : Int32) (C : CM), X1_ruinOf_j29 q v2 C = some (res, C') → GO pM l eM (4) sM mM aM bM meM cM (MQ bM (va_Qi (fun (r' : Int32) (u : CM × OM) => r' = res ∧ u = (C', O)) (wB G) (Fr G)) aM sM 0 0 (Fr G)) G 3 (C, O) 29 [(2, .int v2)] [] := by
    intro v2 C h
    rw [X1_ruinOf_j29] at h
    refine go_iload_n K dX1_ruinOf_29 0 rfl rfl ?_
    refine go_iconst (v := (0 : Int32)) K dX1_ruinOf_30 (by decide) ?_
    refine go_sipush (v := (9999 : Int32)) K dX1_ruinOf_31 (by decide) ?_
    refine go_cNI K (c_X11_clamped l G _ _ _ _ _ _ rfl) cf_X11_clamped kt_X11_clamped (List.mem_of_getElem? (i := 14) rfl) (by decide) rfl rfl (Nat.le_of_ble_eq_true rfl) dX1_ruinOf_34 ?_
    exact go_iret K hr (Prod.mk.inj (Option.some.inj h)).1 (congrArg (fun z => (z, O)) (Prod.mk.inj (Option.some.inj h)).2) dX1_ruinOf_37
  rw [f_X1_ruinOf] at h
  refine go_sipush (v := (300 : Int32)) K dX1_ruinOf_0 (by decide) ?_
  refine go_istore_n K dX1_ruinOf_3 rfl (by decide) (lv' := [(2, .int (300 : Int32)), (0, .ref (gB G + laI q)), (1, .int v1)]) rfl ?_
  refine go_aload_n K dX1_ruinOf_4 1 rfl rfl ?_
  refine go_sipush (v := (131 : Int32)) K dX1_ruinOf_5 (by decide) ?_
  obtain ⟨r1, e1, h⟩ := bnd_e h
  refine go_cVI K (c_X1_has l G hq _ _ _ _ e1) cf_X1_has cv_X1_has km_X1_36 (rv_X1 hq) (by decide) rfl rfl (Nat.le_of_ble_eq_true rfl) dX1_ruinOf_8 ?_
  refine go_if_eq (tgt := 29) K dX1_ruinOf_11 (by decide) (fun c2 => ?_) (fun c2 => ?_)
  · replace h := ite_t h c2
    exact go_sub [0] rfl (hj29 _ _ h)
  replace h := ite_f h c2
  refine go_aload_n K dX1_ruinOf_14 1 rfl rfl ?_
  refine go_iload_n K dX1_ruinOf_15 2 rfl rfl ?_
  refine go_iconst (v := (-1 : Int32)) K dX1_ruinOf_16 (by decide) ?_
  refine go_iconst (v := (0 : Int32)) K dX1_ruinOf_17 (by decide) ?_
  obtain ⟨C3, e3, h⟩ := bnd_e h
  refine go_cVV K (c_X1_name l G hq _ _ _ _ _ _ e3) cf_X1_name cv_X1_name km_X1_40 (rv_X1 hq) (by decide) rfl rfl (Nat.le_of_ble_eq_true rfl) dX1_ruinOf_18 ?_
  refine go_aload_n K dX1_ruinOf_21 1 rfl rfl ?_
  refine go_sipush (v := (131 : Int32)) K dX1_ruinOf_22 (by decide) ?_
  obtain ⟨r4, C4, e4, h⟩ := bnd2_e h
  refine go_cVI K (c_X1_run l G hq _ _ _ _ _ e4) cf_X1_run cv_X1_run km_X1_44 (rv_X1 hq) (by decide) rfl rfl (Nat.le_of_ble_eq_true rfl) dX1_ruinOf_25 ?_
  refine go_istore_n K dX1_ruinOf_28 rfl (by decide) (lv' := [(2, .int r4), (0, .ref (gB G + laI q)), (1, .int v1)]) rfl ?_
  exact go_sub [0] rfl (hj29 _ _ h)
noncomputable def f_X9_canBow (q : Nat) (v1 : Int32) (v2 : Int32) (C : CM) : Option (Int32 × CM) := (bnd (f_X7_meet (stI q) v1 v2 C) (fun r1 => (if r1 = 0 then (some ((0 : Int32), C)) else (bnd (f_X7_leftOf (stI q) v1 C) (fun r3 => (bnd2 (f_X1_sizeOf q v1 v2 C) (fun r4 C4 => (if r3 < r4 then (some ((0 : Int32), C4)) else (some ((1 : Int32), C4))))))))))
theorem cf_X9_canBow : CF yX9_canBow cX9_canBow 3 (Option.some Jvm.ClassFile.FieldType.boolean) 2 := ⟨kc_X9_canBow, kj_X9, ⟨by decide +kernel, by decide +kernel, by decide +kernel⟩, by decide⟩
theorem cv_X9_canBow : CFv yX9_canBow := ⟨ki_X9_canBow, ks_X9_canBow⟩
set_option maxHeartbeats 4000000 in
set_option maxRecDepth 100000 in
theorem c_X9_canBow (l : Launch) (G : GT) {q : Nat} (hq : q < 2) (v1 : Int32) (v2 : Int32) (C : CM) (O : OM) (res : Int32) (C' : CM) (h : f_X9_canBow q v1 v2 C = some (res, C')) : MI l G yX9_canBow cX9_canBow 3 (Option.some Jvm.ClassFile.FieldType.boolean) (5) [.ref (gB G + twI q), .int v1, .int v2] (C, O) res (C', O) := by
  unfold MI
  refine met_in RX9 (by decide +kernel) rfl [(0, .ref (gB G + twI q)), (1, .int v1), (2, .int v2)] rfl (Nat.le_of_ble_eq_true rfl) ?_
  intro pM eM sM mM aM bM meM cM K hr
  rw [f_X9_canBow] at h
  refine go_aload_n K dX9_canBow_0 0 rfl rfl ?_
  refine gf_X9 K hq 0 (by decide) kf_X9_15 (v := .ref (gB G + (stI q))) rfl dX9_canBow_1 ?_
  refine go_iload_n K dX9_canBow_4 1 rfl rfl ?_
  refine go_iload_n K dX9_canBow_5 2 rfl rfl ?_
  obtain ⟨r1, e1, h⟩ := bnd_e h
  refine go_cVI K (c_X7_meet l G (st_q hq) _ _ _ _ _ e1) cf_X7_meet cv_X7_meet km_X9_28 (rv_X7 (st_q hq)) (by decide) rfl rfl (Nat.le_of_ble_eq_true rfl) dX9_canBow_6 ?_
  refine go_if_eq (tgt := 36) K dX9_canBow_9 (by decide) (fun c2 => ?_) (fun c2 => ?_)
  · replace h := ite_t h c2
    refine go_iconst (v := (0 : Int32)) K dX9_canBow_36 (by decide) ?_
    exact go_zret K hr (by decide) (Prod.mk.inj (Option.some.inj h)).1 (congrArg (fun z => (z, O)) (Prod.mk.inj (Option.some.inj h)).2) dX9_canBow_37
  replace h := ite_f h c2
  refine go_aload_n K dX9_canBow_12 0 rfl rfl ?_
  refine gf_X9 K hq 0 (by decide) kf_X9_15 (v := .ref (gB G + (stI q))) rfl dX9_canBow_13 ?_
  refine go_iload_n K dX9_canBow_16 1 rfl rfl ?_
  obtain ⟨r3, e3, h⟩ := bnd_e h
  refine go_cVI K (c_X7_leftOf l G (st_q hq) _ _ _ _ e3) cf_X7_leftOf cv_X7_leftOf km_X9_34 (rv_X7 (st_q hq)) (by decide) rfl rfl (Nat.le_of_ble_eq_true rfl) dX9_canBow_17 ?_
  refine go_aload_n K dX9_canBow_20 0 rfl rfl ?_
  refine gf_X9 K hq 1 (by decide) kf_X9_24 (v := .ref (gB G + laI q)) rfl dX9_canBow_21 ?_
  refine go_iload_n K dX9_canBow_24 1 rfl rfl ?_
  refine go_iload_n K dX9_canBow_25 2 rfl rfl ?_
  obtain ⟨r4, C4, e4, h⟩ := bnd2_e h
  refine go_cVI K (c_X1_sizeOf l G hq _ _ _ _ _ _ e4) cf_X1_sizeOf cv_X1_sizeOf km_X9_38 (rv_X1 hq) (by decide) rfl rfl (Nat.le_of_ble_eq_true rfl) dX9_canBow_26 ?_
  refine go_icmp_lt (tgt := 36) K dX9_canBow_29 (by decide) (fun c5 => ?_) (fun c5 => ?_)
  · replace h := ite_t h c5
    refine go_iconst (v := (0 : Int32)) K dX9_canBow_36 (by decide) ?_
    exact go_zret K hr (by decide) (Prod.mk.inj (Option.some.inj h)).1 (congrArg (fun z => (z, O)) (Prod.mk.inj (Option.some.inj h)).2) dX9_canBow_37
  replace h := ite_f h c5
  refine go_iconst (v := (1 : Int32)) K dX9_canBow_32 (by decide) ?_
  refine go_goto (tgt := 37) K dX9_canBow_33 (by decide) ?_
  exact go_zret K hr (by decide) (Prod.mk.inj (Option.some.inj h)).1 (congrArg (fun z => (z, O)) (Prod.mk.inj (Option.some.inj h)).2) dX9_canBow_37
