noncomputable def f_X12_of (v1 : Int32) (v2 : Int32) (O : OM) : Option (Int32 × OM) := (bnd (f_X12_isOne v1 O) (fun r1 => (if r1 = 0 then (some ((-1 : Int32), O)) else (bnd (f_X12_laysNow O) (fun O3 => (if v2 = (0 : Int32) then (gd (inb ((10 : Int32) + v1) 5130) (some ((O3.1 447 ((10 : Int32) + v1).toNatClampNeg), O3))) else (if v2 = (1 : Int32) then (gd (inb ((17 : Int32) + v1) 5130) (some ((O3.1 447 ((17 : Int32) + v1).toNatClampNeg), O3))) else (if v2 = (2 : Int32) then (gd (inb ((7 : Int32) + v1) 164) (some ((O3.1 470 ((7 : Int32) + v1).toNatClampNeg), O3))) else (if v2 = (3 : Int32) then (gd (inb ((0 : Int32) + v1) 164) (some ((O3.1 470 ((0 : Int32) + v1).toNatClampNeg), O3))) else (if v2 = (4 : Int32) then (gd (inb ((14 : Int32) + v1) 164) (some ((O3.1 470 ((14 : Int32) + v1).toNatClampNeg), O3))) else (if v2 = (5 : Int32) then (bnd (f_X12_allOwedBy v1 O3) (fun r15 => (some (r15, O3)))) else (if v2 = (6 : Int32) then (bnd (f_X12_allOwedTo v1 O3) (fun r17 => (some (r17, O3)))) else (if v2 = (7 : Int32) then (bnd2 (f_X12_ruinOf v1 O3) (fun r19 O19 => (some (r19, O19)))) else (some ((-1 : Int32), O3)))))))))))))))
theorem cf_X12_of : CF yX12_of cX12_of 3 (Option.some Jvm.ClassFile.FieldType.int) 2 := ⟨kc_X12_of, kj_X12, ⟨by decide +kernel, by decide +kernel, by decide +kernel⟩, by decide⟩
theorem cv_X12_of : CFv yX12_of := ⟨ki_X12_of, ks_X12_of⟩
set_option maxHeartbeats 4000000 in
set_option maxRecDepth 100000 in
theorem c_X12_of (l : Launch) (G : GT) (v1 : Int32) (v2 : Int32) (C : CM) (O : OM) (res : Int32) (O' : OM) (h : f_X12_of v1 v2 O = some (res, O')) : MI l G yX12_of cX12_of 3 (Option.some Jvm.ClassFile.FieldType.int) (6) [.ref (gB G + 446), .int v1, .int v2] (C, O) res (C, O') := by
  unfold MI
  refine met_in RX12 (by decide +kernel) rfl [(0, .ref (gB G + 446)), (1, .int v1), (2, .int v2)] rfl (Nat.le_of_ble_eq_true rfl) ?_
  intro pM eM sM mM aM bM meM cM K hr
  rw [f_X12_of] at h
  refine go_aload_n K dX12_of_0 0 rfl rfl ?_
  refine go_iload_n K dX12_of_1 1 rfl rfl ?_
  obtain ⟨r1, e1, h⟩ := bnd_e h
  refine go_cVI K (c_X12_isOne l G _ _ _ _ e1) cf_X12_isOne cv_X12_isOne km_X12_111 rv_X12 (by decide) rfl rfl (Nat.le_of_ble_eq_true rfl) dX12_of_2 ?_
  refine go_if_ne (tgt := 10) K dX12_of_5 (by decide) (fun c2 => ?_) (fun c2 => ?_)
  rotate_left
  · replace h := ite_t h c2
    refine go_iconst (v := (-1 : Int32)) K dX12_of_8 (by decide) ?_
    exact go_iret K hr (Prod.mk.inj (Option.some.inj h)).1 (congrArg (fun z => (C, z)) (Prod.mk.inj (Option.some.inj h)).2) dX12_of_9
  replace h := ite_f h c2
  refine go_aload_n K dX12_of_10 0 rfl rfl ?_
  obtain ⟨O3, e3, h⟩ := bnd_e h
  refine go_cVV K (c_X12_laysNow l G _ _ _ e3) cf_X12_laysNow cv_X12_laysNow km_X12_399 rv_X12 (by decide) rfl rfl (Nat.le_of_ble_eq_true rfl) dX12_of_11 ?_
  refine go_iload_n K dX12_of_14 2 rfl rfl ?_
  by_cases c4 : v2 = (0 : Int32)
  · refine go_tableIn K dX12_of_15 (by rw [c4]; decide) (by rw [c4]; decide) (off := 45) (by rw [c4]; decide) (tgt := 60) (by decide) ?_
    replace h := ite_t h c4
    refine go_aload_n K dX12_of_60 0 rfl rfl ?_
    refine gf_X12 K 0 (by decide) kf_X12_7 (v := .ref (gB G + 447)) rfl dX12_of_61 ?_
    refine go_bipush (v := (10 : Int32)) K dX12_of_64 (by decide) ?_
    refine go_iload_n K dX12_of_66 1 rfl rfl ?_
    refine go_iadd K dX12_of_67 ?_
    obtain ⟨g5, h⟩ := gd_e h
    refine go_mald K (Nat.le_of_ble_eq_true rfl) sh_447 g5 rfl dX12_of_68 ?_
    exact go_iret K hr (Prod.mk.inj (Option.some.inj h)).1 (congrArg (fun z => (C, z)) (Prod.mk.inj (Option.some.inj h)).2) dX12_of_69
  replace h := ite_f h c4
  by_cases c6 : v2 = (1 : Int32)
  · refine go_tableIn K dX12_of_15 (by rw [c6]; decide) (by rw [c6]; decide) (off := 55) (by rw [c6]; decide) (tgt := 70) (by decide) ?_
    replace h := ite_t h c6
    refine go_aload_n K dX12_of_70 0 rfl rfl ?_
    refine gf_X12 K 0 (by decide) kf_X12_7 (v := .ref (gB G + 447)) rfl dX12_of_71 ?_
    refine go_bipush (v := (17 : Int32)) K dX12_of_74 (by decide) ?_
    refine go_iload_n K dX12_of_76 1 rfl rfl ?_
    refine go_iadd K dX12_of_77 ?_
    obtain ⟨g7, h⟩ := gd_e h
    refine go_mald K (Nat.le_of_ble_eq_true rfl) sh_447 g7 rfl dX12_of_78 ?_
    exact go_iret K hr (Prod.mk.inj (Option.some.inj h)).1 (congrArg (fun z => (C, z)) (Prod.mk.inj (Option.some.inj h)).2) dX12_of_79
  replace h := ite_f h c6
  by_cases c8 : v2 = (2 : Int32)
  · refine go_tableIn K dX12_of_15 (by rw [c8]; decide) (by rw [c8]; decide) (off := 65) (by rw [c8]; decide) (tgt := 80) (by decide) ?_
    replace h := ite_t h c8
    refine go_aload_n K dX12_of_80 0 rfl rfl ?_
    refine gf_X12 K 40 (by decide) kf_X12_87 (v := .ref (gB G + 470)) rfl dX12_of_81 ?_
    refine go_bipush (v := (7 : Int32)) K dX12_of_84 (by decide) ?_
    refine go_iload_n K dX12_of_86 1 rfl rfl ?_
    refine go_iadd K dX12_of_87 ?_
    obtain ⟨g9, h⟩ := gd_e h
    refine go_mald K (Nat.le_of_ble_eq_true rfl) sh_470 g9 rfl dX12_of_88 ?_
    exact go_iret K hr (Prod.mk.inj (Option.some.inj h)).1 (congrArg (fun z => (C, z)) (Prod.mk.inj (Option.some.inj h)).2) dX12_of_89
  replace h := ite_f h c8
  by_cases c10 : v2 = (3 : Int32)
  · refine go_tableIn K dX12_of_15 (by rw [c10]; decide) (by rw [c10]; decide) (off := 75) (by rw [c10]; decide) (tgt := 90) (by decide) ?_
    replace h := ite_t h c10
    refine go_aload_n K dX12_of_90 0 rfl rfl ?_
    refine gf_X12 K 40 (by decide) kf_X12_87 (v := .ref (gB G + 470)) rfl dX12_of_91 ?_
    refine go_iconst (v := (0 : Int32)) K dX12_of_94 (by decide) ?_
    refine go_iload_n K dX12_of_95 1 rfl rfl ?_
    refine go_iadd K dX12_of_96 ?_
    obtain ⟨g11, h⟩ := gd_e h
    refine go_mald K (Nat.le_of_ble_eq_true rfl) sh_470 g11 rfl dX12_of_97 ?_
    exact go_iret K hr (Prod.mk.inj (Option.some.inj h)).1 (congrArg (fun z => (C, z)) (Prod.mk.inj (Option.some.inj h)).2) dX12_of_98
  replace h := ite_f h c10
  by_cases c12 : v2 = (4 : Int32)
  · refine go_tableIn K dX12_of_15 (by rw [c12]; decide) (by rw [c12]; decide) (off := 84) (by rw [c12]; decide) (tgt := 99) (by decide) ?_
    replace h := ite_t h c12
    refine go_aload_n K dX12_of_99 0 rfl rfl ?_
    refine gf_X12 K 40 (by decide) kf_X12_87 (v := .ref (gB G + 470)) rfl dX12_of_100 ?_
    refine go_bipush (v := (14 : Int32)) K dX12_of_103 (by decide) ?_
    refine go_iload_n K dX12_of_105 1 rfl rfl ?_
    refine go_iadd K dX12_of_106 ?_
    obtain ⟨g13, h⟩ := gd_e h
    refine go_mald K (Nat.le_of_ble_eq_true rfl) sh_470 g13 rfl dX12_of_107 ?_
    exact go_iret K hr (Prod.mk.inj (Option.some.inj h)).1 (congrArg (fun z => (C, z)) (Prod.mk.inj (Option.some.inj h)).2) dX12_of_108
  replace h := ite_f h c12
  by_cases c14 : v2 = (5 : Int32)
  · refine go_tableIn K dX12_of_15 (by rw [c14]; decide) (by rw [c14]; decide) (off := 94) (by rw [c14]; decide) (tgt := 109) (by decide) ?_
    replace h := ite_t h c14
    refine go_aload_n K dX12_of_109 0 rfl rfl ?_
    refine go_iload_n K dX12_of_110 1 rfl rfl ?_
    obtain ⟨r15, e15, h⟩ := bnd_e h
    refine go_cVI K (c_X12_allOwedBy l G _ _ _ _ e15) cf_X12_allOwedBy cv_X12_allOwedBy km_X12_384 rv_X12 (by decide) rfl rfl (Nat.le_of_ble_eq_true rfl) dX12_of_111 ?_
    exact go_iret K hr (Prod.mk.inj (Option.some.inj h)).1 (congrArg (fun z => (C, z)) (Prod.mk.inj (Option.some.inj h)).2) dX12_of_114
  replace h := ite_f h c14
  by_cases c16 : v2 = (6 : Int32)
  · refine go_tableIn K dX12_of_15 (by rw [c16]; decide) (by rw [c16]; decide) (off := 100) (by rw [c16]; decide) (tgt := 115) (by decide) ?_
    replace h := ite_t h c16
    refine go_aload_n K dX12_of_115 0 rfl rfl ?_
    refine go_iload_n K dX12_of_116 1 rfl rfl ?_
    obtain ⟨r17, e17, h⟩ := bnd_e h
    refine go_cVI K (c_X12_allOwedTo l G _ _ _ _ e17) cf_X12_allOwedTo cv_X12_allOwedTo km_X12_460 rv_X12 (by decide) rfl rfl (Nat.le_of_ble_eq_true rfl) dX12_of_117 ?_
    exact go_iret K hr (Prod.mk.inj (Option.some.inj h)).1 (congrArg (fun z => (C, z)) (Prod.mk.inj (Option.some.inj h)).2) dX12_of_120
  replace h := ite_f h c16
  by_cases c18 : v2 = (7 : Int32)
  · refine go_tableIn K dX12_of_15 (by rw [c18]; decide) (by rw [c18]; decide) (off := 106) (by rw [c18]; decide) (tgt := 121) (by decide) ?_
    replace h := ite_t h c18
    refine go_aload_n K dX12_of_121 0 rfl rfl ?_
    refine go_iload_n K dX12_of_122 1 rfl rfl ?_
    obtain ⟨r19, O19, e19, h⟩ := bnd2_e h
    refine go_cVI K (c_X12_ruinOf l G _ _ _ _ _ e19) cf_X12_ruinOf cv_X12_ruinOf km_X12_387 rv_X12 (by decide) rfl rfl (Nat.le_of_ble_eq_true rfl) dX12_of_123 ?_
    exact go_iret K hr (Prod.mk.inj (Option.some.inj h)).1 (congrArg (fun z => (C, z)) (Prod.mk.inj (Option.some.inj h)).2) dX12_of_126
  replace h := ite_f h c18
  have c4 := sw_ne c4 (k := 0) (by decide)
  have c6 := sw_ne c6 (k := 1) (by decide)
  have c8 := sw_ne c8 (k := 2) (by decide)
  have c10 := sw_ne c10 (k := 3) (by decide)
  have c12 := sw_ne c12 (k := 4) (by decide)
  have c14 := sw_ne c14 (k := 5) (by decide)
  have c16 := sw_ne c16 (k := 6) (by decide)
  have c18 := sw_ne c18 (k := 7) (by decide)
  refine go_tableOut (tgt := 127) K dX12_of_15 (show (v2).toInt < 0 ∨ 7 < (v2).toInt from by omega) (by decide) ?_
  refine go_iconst (v := (-1 : Int32)) K dX12_of_127 (by decide) ?_
  exact go_iret K hr (Prod.mk.inj (Option.some.inj h)).1 (congrArg (fun z => (C, z)) (Prod.mk.inj (Option.some.inj h)).2) dX12_of_128
noncomputable def f_X12_two (v1 : Int32) (v2 : Int32) (v3 : Int32) (O : OM) : Option (Int32 × OM) := (bnd (f_X12_areTwo v1 v2 O) (fun r1 => (if r1 = 0 then (some ((-1 : Int32), O)) else (bnd (f_X12_laysNow O) (fun O3 => (if v3 = (0 : Int32) then (gd (inb (f_X12_debtAt v1 v2) 164) (some ((O3.1 470 (f_X12_debtAt v1 v2).toNatClampNeg), O3))) else (if v3 = (1 : Int32) then (bnd2 (f_X12_sizeOf v1 v2 O3) (fun r7 O7 => (some (r7, O7)))) else (if v3 = (2 : Int32) then (gd (inb (f_X12_debtAt v1 v2) 164) (if (O3.1 470 (f_X12_debtAt v1 v2).toNatClampNeg) = 0 then (some ((0 : Int32), O3)) else (bnd2 (f_X12_lateOf v1 v2 O3) (fun r11 O11 => (some (r11, O11)))))) else (if v3 = (3 : Int32) then (bnd (f_X12_doMeet v1 v2 O3) (fun r13 => (if r13 = 0 then (some ((0 : Int32), O3)) else (some ((1 : Int32), O3))))) else (some ((-1 : Int32), O3)))))))))))
theorem cf_X12_two : CF yX12_two cX12_two 4 (Option.some Jvm.ClassFile.FieldType.int) 3 := ⟨kc_X12_two, kj_X12, ⟨by decide +kernel, by decide +kernel, by decide +kernel⟩, by decide⟩
theorem cv_X12_two : CFv yX12_two := ⟨ki_X12_two, ks_X12_two⟩
set_option maxHeartbeats 4000000 in
set_option maxRecDepth 100000 in
theorem c_X12_two (l : Launch) (G : GT) (v1 : Int32) (v2 : Int32) (v3 : Int32) (C : CM) (O : OM) (res : Int32) (O' : OM) (h : f_X12_two v1 v2 v3 O = some (res, O')) : MI l G yX12_two cX12_two 4 (Option.some Jvm.ClassFile.FieldType.int) (6) [.ref (gB G + 446), .int v1, .int v2, .int v3] (C, O) res (C, O') := by
  unfold MI
  refine met_in RX12 (by decide +kernel) rfl [(0, .ref (gB G + 446)), (1, .int v1), (2, .int v2), (3, .int v3)] rfl (Nat.le_of_ble_eq_true rfl) ?_
  intro pM eM sM mM aM bM meM cM K hr
  rw [f_X12_two] at h
  refine go_aload_n K dX12_two_0 0 rfl rfl ?_
  refine go_iload_n K dX12_two_1 1 rfl rfl ?_
  refine go_iload_n K dX12_two_2 2 rfl rfl ?_
  obtain ⟨r1, e1, h⟩ := bnd_e h
  refine go_cVI K (c_X12_areTwo l G _ _ _ _ _ e1) cf_X12_areTwo cv_X12_areTwo km_X12_409 rv_X12 (by decide) rfl rfl (Nat.le_of_ble_eq_true rfl) dX12_two_3 ?_
  refine go_if_ne (tgt := 11) K dX12_two_6 (by decide) (fun c2 => ?_) (fun c2 => ?_)
  rotate_left
  · replace h := ite_t h c2
    refine go_iconst (v := (-1 : Int32)) K dX12_two_9 (by decide) ?_
    exact go_iret K hr (Prod.mk.inj (Option.some.inj h)).1 (congrArg (fun z => (C, z)) (Prod.mk.inj (Option.some.inj h)).2) dX12_two_10
  replace h := ite_f h c2
  refine go_aload_n K dX12_two_11 0 rfl rfl ?_
  obtain ⟨O3, e3, h⟩ := bnd_e h
  refine go_cVV K (c_X12_laysNow l G _ _ _ e3) cf_X12_laysNow cv_X12_laysNow km_X12_399 rv_X12 (by decide) rfl rfl (Nat.le_of_ble_eq_true rfl) dX12_two_12 ?_
  refine go_iload_n K dX12_two_15 3 rfl rfl ?_
  by_cases c4 : v3 = (0 : Int32)
  · refine go_tableIn K dX12_two_16 (by rw [c4]; decide) (by rw [c4]; decide) (off := 32) (by rw [c4]; decide) (tgt := 48) (by decide) ?_
    replace h := ite_t h c4
    refine go_aload_n K dX12_two_48 0 rfl rfl ?_
    refine gf_X12 K 40 (by decide) kf_X12_87 (v := .ref (gB G + 470)) rfl dX12_two_49 ?_
    refine go_iload_n K dX12_two_52 1 rfl rfl ?_
    refine go_iload_n K dX12_two_53 2 rfl rfl ?_
    refine go_cSI K (c_X12_debtAt l G _ _ _ _ _ rfl) cf_X12_debtAt kt_X12_debtAt km_X12_335 (by decide) rfl rfl (Nat.le_of_ble_eq_true rfl) dX12_two_54 ?_
    obtain ⟨g5, h⟩ := gd_e h
    refine go_mald K (Nat.le_of_ble_eq_true rfl) sh_470 g5 rfl dX12_two_57 ?_
    exact go_iret K hr (Prod.mk.inj (Option.some.inj h)).1 (congrArg (fun z => (C, z)) (Prod.mk.inj (Option.some.inj h)).2) dX12_two_58
  replace h := ite_f h c4
  by_cases c6 : v3 = (1 : Int32)
  · refine go_tableIn K dX12_two_16 (by rw [c6]; decide) (by rw [c6]; decide) (off := 43) (by rw [c6]; decide) (tgt := 59) (by decide) ?_
    replace h := ite_t h c6
    refine go_aload_n K dX12_two_59 0 rfl rfl ?_
    refine go_iload_n K dX12_two_60 1 rfl rfl ?_
    refine go_iload_n K dX12_two_61 2 rfl rfl ?_
    obtain ⟨r7, O7, e7, h⟩ := bnd2_e h
    refine go_cVI K (c_X12_sizeOf l G _ _ _ _ _ _ e7) cf_X12_sizeOf cv_X12_sizeOf km_X12_375 rv_X12 (by decide) rfl rfl (Nat.le_of_ble_eq_true rfl) dX12_two_62 ?_
    exact go_iret K hr (Prod.mk.inj (Option.some.inj h)).1 (congrArg (fun z => (C, z)) (Prod.mk.inj (Option.some.inj h)).2) dX12_two_65
  replace h := ite_f h c6
  by_cases c8 : v3 = (2 : Int32)
  · refine go_tableIn K dX12_two_16 (by rw [c8]; decide) (by rw [c8]; decide) (off := 50) (by rw [c8]; decide) (tgt := 66) (by decide) ?_
    replace h := ite_t h c8
    refine go_aload_n K dX12_two_66 0 rfl rfl ?_
    refine gf_X12 K 40 (by decide) kf_X12_87 (v := .ref (gB G + 470)) rfl dX12_two_67 ?_
    refine go_iload_n K dX12_two_70 1 rfl rfl ?_
    refine go_iload_n K dX12_two_71 2 rfl rfl ?_
    refine go_cSI K (c_X12_debtAt l G _ _ _ _ _ rfl) cf_X12_debtAt kt_X12_debtAt km_X12_335 (by decide) rfl rfl (Nat.le_of_ble_eq_true rfl) dX12_two_72 ?_
    obtain ⟨g9, h⟩ := gd_e h
    refine go_mald K (Nat.le_of_ble_eq_true rfl) sh_470 g9 rfl dX12_two_75 ?_
    refine go_if_ne (tgt := 83) K dX12_two_76 (by decide) (fun c10 => ?_) (fun c10 => ?_)
    rotate_left
    · replace h := ite_t h c10
      refine go_iconst (v := (0 : Int32)) K dX12_two_79 (by decide) ?_
      refine go_goto (tgt := 89) K dX12_two_80 (by decide) ?_
      exact go_iret K hr (Prod.mk.inj (Option.some.inj h)).1 (congrArg (fun z => (C, z)) (Prod.mk.inj (Option.some.inj h)).2) dX12_two_89
    replace h := ite_f h c10
    refine go_aload_n K dX12_two_83 0 rfl rfl ?_
    refine go_iload_n K dX12_two_84 1 rfl rfl ?_
    refine go_iload_n K dX12_two_85 2 rfl rfl ?_
    obtain ⟨r11, O11, e11, h⟩ := bnd2_e h
    refine go_cVI K (c_X12_lateOf l G _ _ _ _ _ _ e11) cf_X12_lateOf cv_X12_lateOf km_X12_381 rv_X12 (by decide) rfl rfl (Nat.le_of_ble_eq_true rfl) dX12_two_86 ?_
    exact go_iret K hr (Prod.mk.inj (Option.some.inj h)).1 (congrArg (fun z => (C, z)) (Prod.mk.inj (Option.some.inj h)).2) dX12_two_89
  replace h := ite_f h c8
  by_cases c12 : v3 = (3 : Int32)
  · refine go_tableIn K dX12_two_16 (by rw [c12]; decide) (by rw [c12]; decide) (off := 74) (by rw [c12]; decide) (tgt := 90) (by decide) ?_
    replace h := ite_t h c12
    refine go_aload_n K dX12_two_90 0 rfl rfl ?_
    refine go_iload_n K dX12_two_91 1 rfl rfl ?_
    refine go_iload_n K dX12_two_92 2 rfl rfl ?_
    obtain ⟨r13, e13, h⟩ := bnd_e h
    refine go_cVI K (c_X12_doMeet l G _ _ _ _ _ e13) cf_X12_doMeet cv_X12_doMeet km_X12_372 rv_X12 (by decide) rfl rfl (Nat.le_of_ble_eq_true rfl) dX12_two_93 ?_
    refine go_if_eq (tgt := 103) K dX12_two_96 (by decide) (fun c14 => ?_) (fun c14 => ?_)
    · replace h := ite_t h c14
      refine go_iconst (v := (0 : Int32)) K dX12_two_103 (by decide) ?_
      exact go_iret K hr (Prod.mk.inj (Option.some.inj h)).1 (congrArg (fun z => (C, z)) (Prod.mk.inj (Option.some.inj h)).2) dX12_two_104
    replace h := ite_f h c14
    refine go_iconst (v := (1 : Int32)) K dX12_two_99 (by decide) ?_
    refine go_goto (tgt := 104) K dX12_two_100 (by decide) ?_
    exact go_iret K hr (Prod.mk.inj (Option.some.inj h)).1 (congrArg (fun z => (C, z)) (Prod.mk.inj (Option.some.inj h)).2) dX12_two_104
  replace h := ite_f h c12
  have c4 := sw_ne c4 (k := 0) (by decide)
  have c6 := sw_ne c6 (k := 1) (by decide)
  have c8 := sw_ne c8 (k := 2) (by decide)
  have c12 := sw_ne c12 (k := 3) (by decide)
  refine go_tableOut (tgt := 105) K dX12_two_16 (show (v3).toInt < 0 ∨ 3 < (v3).toInt from by omega) (by decide) ?_
  refine go_iconst (v := (-1 : Int32)) K dX12_two_105 (by decide) ?_
  exact go_iret K hr (Prod.mk.inj (Option.some.inj h)).1 (congrArg (fun z => (C, z)) (Prod.mk.inj (Option.some.inj h)).2) dX12_two_106
noncomputable def f_X12_more (v1 : Int32) (v2 : Int32) (v3 : Int32) (O : OM) : Option (Int32 × OM) := (bnd (f_X12_areTwo v1 v2 O) (fun r1 => (if r1 = 0 then (some ((-1 : Int32), O)) else (if (f_X12_in v3 (0 : Int32) (9999 : Int32)) = 0 then (some ((-1 : Int32), O)) else (bnd (f_X12_laysNow O) (fun O4 => (bnd2 (f_X12_moreOf v1 v2 v3 O4) (fun r5 O5 => (some (r5, O5))))))))))
theorem cf_X12_more : CF yX12_more cX12_more 4 (Option.some Jvm.ClassFile.FieldType.int) 3 := ⟨kc_X12_more, kj_X12, ⟨by decide +kernel, by decide +kernel, by decide +kernel⟩, by decide⟩
theorem cv_X12_more : CFv yX12_more := ⟨ki_X12_more, ks_X12_more⟩
set_option maxHeartbeats 4000000 in
set_option maxRecDepth 100000 in
theorem c_X12_more (l : Launch) (G : GT) (v1 : Int32) (v2 : Int32) (v3 : Int32) (C : CM) (O : OM) (res : Int32) (O' : OM) (h : f_X12_more v1 v2 v3 O = some (res, O')) : MI l G yX12_more cX12_more 4 (Option.some Jvm.ClassFile.FieldType.int) (6) [.ref (gB G + 446), .int v1, .int v2, .int v3] (C, O) res (C, O') := by
  unfold MI
  refine met_in RX12 (by decide +kernel) rfl [(0, .ref (gB G + 446)), (1, .int v1), (2, .int v2), (3, .int v3)] rfl (Nat.le_of_ble_eq_true rfl) ?_
  intro pM eM sM mM aM bM meM cM K hr
  rw [f_X12_more] at h
  refine go_aload_n K dX12_more_0 0 rfl rfl ?_
  refine go_iload_n K dX12_more_1 1 rfl rfl ?_
  refine go_iload_n K dX12_more_2 2 rfl rfl ?_
  obtain ⟨r1, e1, h⟩ := bnd_e h
  refine go_cVI K (c_X12_areTwo l G _ _ _ _ _ e1) cf_X12_areTwo cv_X12_areTwo km_X12_409 rv_X12 (by decide) rfl rfl (Nat.le_of_ble_eq_true rfl) dX12_more_3 ?_
  refine go_if_eq (tgt := 20) K dX12_more_6 (by decide) (fun c2 => ?_) (fun c2 => ?_)
  · replace h := ite_t h c2
    refine go_iconst (v := (-1 : Int32)) K dX12_more_20 (by decide) ?_
    exact go_iret K hr (Prod.mk.inj (Option.some.inj h)).1 (congrArg (fun z => (C, z)) (Prod.mk.inj (Option.some.inj h)).2) dX12_more_21
  replace h := ite_f h c2
  refine go_iload_n K dX12_more_9 3 rfl rfl ?_
  refine go_iconst (v := (0 : Int32)) K dX12_more_10 (by decide) ?_
  refine go_sipush (v := (9999 : Int32)) K dX12_more_11 (by decide) ?_
  refine go_cSI K (c_X12_in l G _ _ _ _ _ _ rfl) cf_X12_in kt_X12_in km_X12_107 (by decide) rfl rfl (Nat.le_of_ble_eq_true rfl) dX12_more_14 ?_
  refine go_if_ne (tgt := 22) K dX12_more_17 (by decide) (fun c3 => ?_) (fun c3 => ?_)
  rotate_left
  · replace h := ite_t h c3
    refine go_iconst (v := (-1 : Int32)) K dX12_more_20 (by decide) ?_
    exact go_iret K hr (Prod.mk.inj (Option.some.inj h)).1 (congrArg (fun z => (C, z)) (Prod.mk.inj (Option.some.inj h)).2) dX12_more_21
  replace h := ite_f h c3
  refine go_aload_n K dX12_more_22 0 rfl rfl ?_
  obtain ⟨O4, e4, h⟩ := bnd_e h
  refine go_cVV K (c_X12_laysNow l G _ _ _ e4) cf_X12_laysNow cv_X12_laysNow km_X12_399 rv_X12 (by decide) rfl rfl (Nat.le_of_ble_eq_true rfl) dX12_more_23 ?_
  refine go_aload_n K dX12_more_26 0 rfl rfl ?_
  refine go_iload_n K dX12_more_27 1 rfl rfl ?_
  refine go_iload_n K dX12_more_28 2 rfl rfl ?_
  refine go_iload_n K dX12_more_29 3 rfl rfl ?_
  obtain ⟨r5, O5, e5, h⟩ := bnd2_e h
  refine go_cVI K (c_X12_moreOf l G _ _ _ _ _ _ _ e5) cf_X12_moreOf cv_X12_moreOf km_X12_378 rv_X12 (by decide) rfl rfl (Nat.le_of_ble_eq_true rfl) dX12_more_30 ?_
  exact go_iret K hr (Prod.mk.inj (Option.some.inj h)).1 (congrArg (fun z => (C, z)) (Prod.mk.inj (Option.some.inj h)).2) dX12_more_33
noncomputable def f_X12_book (v1 : Int32) (v2 : Int32) (O : OM) : Option Int32 := (if v1 = (-1 : Int32) then (some (O.1 447 113)) else (if (f_X12_in v1 (0 : Int32) ((O.1 447 113) - (1 : Int32))) = 0 then (some (-2 : Int32)) else (if (f_X12_in v2 (0 : Int32) (2 : Int32)) = 0 then (some (-2 : Int32)) else (gd (inb (((114 : Int32) + ((3 : Int32) * v1)) + v2) 5130) (some (O.1 447 (((114 : Int32) + ((3 : Int32) * v1)) + v2).toNatClampNeg))))))
theorem cf_X12_book : CF yX12_book cX12_book 3 (Option.some Jvm.ClassFile.FieldType.int) 2 := ⟨kc_X12_book, kj_X12, ⟨by decide +kernel, by decide +kernel, by decide +kernel⟩, by decide⟩
theorem cv_X12_book : CFv yX12_book := ⟨ki_X12_book, ks_X12_book⟩
set_option maxHeartbeats 4000000 in
set_option maxRecDepth 100000 in
theorem c_X12_book (l : Launch) (G : GT) (v1 : Int32) (v2 : Int32) (C : CM) (O : OM) (res : Int32) (h : f_X12_book v1 v2 O = some res) : MI l G yX12_book cX12_book 3 (Option.some Jvm.ClassFile.FieldType.int) (2) [.ref (gB G + 446), .int v1, .int v2] (C, O) res (C, O) := by
  unfold MI
  refine met_in RX12 (by decide +kernel) rfl [(0, .ref (gB G + 446)), (1, .int v1), (2, .int v2)] rfl (Nat.le_of_ble_eq_true rfl) ?_
  intro pM eM sM mM aM bM meM cM K hr
  rw [f_X12_book] at h
  refine go_iload_n K dX12_book_0 1 rfl rfl ?_
  refine go_iconst (v := (-1 : Int32)) K dX12_book_1 (by decide) ?_
  refine go_icmp_ne (tgt := 13) K dX12_book_2 (by decide) (fun c1 => ?_) (fun c1 => ?_)
  rotate_left
  · replace h := ite_t h c1
    refine go_aload_n K dX12_book_5 0 rfl rfl ?_
    refine gf_X12 K 0 (by decide) kf_X12_7 (v := .ref (gB G + 447)) rfl dX12_book_6 ?_
    refine go_bipush (v := (113 : Int32)) K dX12_book_9 (by decide) ?_
    refine go_mald K (Nat.le_of_ble_eq_true rfl) sh_447 (in_k (k := 113) (by decide) (by decide)) rfl dX12_book_11 ?_
    exact go_iret K hr (Option.some.inj h) rfl dX12_book_12
  replace h := ite_f h c1
  refine go_iload_n K dX12_book_13 1 rfl rfl ?_
  refine go_iconst (v := (0 : Int32)) K dX12_book_14 (by decide) ?_
  refine go_aload_n K dX12_book_15 0 rfl rfl ?_
  refine gf_X12 K 0 (by decide) kf_X12_7 (v := .ref (gB G + 447)) rfl dX12_book_16 ?_
  refine go_bipush (v := (113 : Int32)) K dX12_book_19 (by decide) ?_
  refine go_mald K (Nat.le_of_ble_eq_true rfl) sh_447 (in_k (k := 113) (by decide) (by decide)) rfl dX12_book_21 ?_
  refine go_iconst (v := (1 : Int32)) K dX12_book_22 (by decide) ?_
  refine go_isub K dX12_book_23 ?_
  refine go_cSI K (c_X12_in l G _ _ _ _ _ _ rfl) cf_X12_in kt_X12_in km_X12_107 (by decide) rfl rfl (Nat.le_of_ble_eq_true rfl) dX12_book_24 ?_
  refine go_if_eq (tgt := 55) K dX12_book_27 (by decide) (fun c2 => ?_) (fun c2 => ?_)
  · replace h := ite_t h c2
    refine go_bipush (v := (-2 : Int32)) K dX12_book_55 (by decide) ?_
    exact go_iret K hr (Option.some.inj h) rfl dX12_book_57
  replace h := ite_f h c2
  refine go_iload_n K dX12_book_30 2 rfl rfl ?_
  refine go_iconst (v := (0 : Int32)) K dX12_book_31 (by decide) ?_
  refine go_iconst (v := (2 : Int32)) K dX12_book_32 (by decide) ?_
  refine go_cSI K (c_X12_in l G _ _ _ _ _ _ rfl) cf_X12_in kt_X12_in km_X12_107 (by decide) rfl rfl (Nat.le_of_ble_eq_true rfl) dX12_book_33 ?_
  refine go_if_eq (tgt := 55) K dX12_book_36 (by decide) (fun c3 => ?_) (fun c3 => ?_)
  · replace h := ite_t h c3
    refine go_bipush (v := (-2 : Int32)) K dX12_book_55 (by decide) ?_
    exact go_iret K hr (Option.some.inj h) rfl dX12_book_57
  replace h := ite_f h c3
  refine go_aload_n K dX12_book_39 0 rfl rfl ?_
  refine gf_X12 K 0 (by decide) kf_X12_7 (v := .ref (gB G + 447)) rfl dX12_book_40 ?_
  refine go_bipush (v := (114 : Int32)) K dX12_book_43 (by decide) ?_
  refine go_iconst (v := (3 : Int32)) K dX12_book_45 (by decide) ?_
  refine go_iload_n K dX12_book_46 1 rfl rfl ?_
  refine go_imul K dX12_book_47 ?_
  refine go_iadd K dX12_book_48 ?_
  refine go_iload_n K dX12_book_49 2 rfl rfl ?_
  refine go_iadd K dX12_book_50 ?_
  obtain ⟨g4, h⟩ := gd_e h
  refine go_mald K (Nat.le_of_ble_eq_true rfl) sh_447 g4 rfl dX12_book_51 ?_
  refine go_goto (tgt := 57) K dX12_book_52 (by decide) ?_
  exact go_iret K hr (Option.some.inj h) rfl dX12_book_57
noncomputable def X12_foretold_j35 (v1 : Int32) (v2 : Int32) (v3 : Int32) (O : OM) : Option (Int32 × OM) := (bnd2 (f_X12_passesThrough v1 O) (fun r5 O5 => (if v3 = (-1 : Int32) then (bnd (f_X12_allOwedBy v2 O5) (fun r8 => (some (r8, O5)))) else (gd (inb (f_X12_debtAt v2 v3) 164) (some ((O5.1 470 (f_X12_debtAt v2 v3).toNatClampNeg), O5))))))
noncomputable def f_X12_foretold (v1 : Int32) (v2 : Int32) (v3 : Int32) (O : OM) : Option (Int32 × OM) := (if (f_X12_in v1 (1 : Int32) (60 : Int32)) = 0 then (some ((-2 : Int32), O)) else (bnd (f_X12_isOne v2 O) (fun r2 => (if r2 = 0 then (some ((-2 : Int32), O)) else (if v3 = (-1 : Int32) then (X12_foretold_j35 v1 v2 v3 O) else (bnd (f_X12_areTwo v2 v3 O) (fun r9 => (if r9 = 0 then (some ((-2 : Int32), O)) else (X12_foretold_j35 v1 v2 v3 O)))))))))
theorem cf_X12_foretold : CF yX12_foretold cX12_foretold 5 (Option.some Jvm.ClassFile.FieldType.int) 3 := ⟨kc_X12_foretold, kj_X12, ⟨by decide +kernel, by decide +kernel, by decide +kernel⟩, by decide⟩
theorem cv_X12_foretold : CFv yX12_foretold := ⟨ki_X12_foretold, ks_X12_foretold⟩
set_option maxHeartbeats 4000000 in
set_option maxRecDepth 100000 in
theorem c_X12_foretold (l : Launch) (G : GT) (v1 : Int32) (v2 : Int32) (v3 : Int32) (C : CM) (O : OM) (res : Int32) (O' : OM) (h : f_X12_foretold v1 v2 v3 O = some (res, O')) : MI l G yX12_foretold cX12_foretold 5 (Option.some Jvm.ClassFile.FieldType.int) (9) [.ref (gB G + 446), .int v1, .int v2, .int v3] (C, O) res (C, O') := by
  unfold MI
  refine met_in RX12 (by decide +kernel) rfl [(0, .ref (gB G + 446)), (1, .int v1), (2, .int v2), (3, .int v3)] rfl (Nat.le_of_ble_eq_true rfl) ?_
  intro pM eM sM mM aM bM meM cM K hr
  have hj35 : ∀ (v1 : Int32) (v2 : Int32) (v3 : Int32) (O : OM), X12_foretold_j35 v1 v2 v3 O = some (res, O') → GO pM l eM (9) sM mM aM bM meM cM (MQ bM (va_Qi (fun (r' : Int32) (u : CM × OM) => r' = res ∧ u = (C, O')) (wB G) (Fr G)) aM sM 0 0 (Fr G)) G 5 (C, O) 35 [(0, .ref (gB G + 446)), (1, .int v1), (2, .int v2), (3, .int v3)] [] := by
    intro v1 v2 v3 O h
    rw [X12_foretold_j35] at h
    refine go_aload_n K dX12_foretold_35 0 rfl rfl ?_
    refine go_iload_n K dX12_foretold_36 1 rfl rfl ?_
    obtain ⟨r5, O5, e5, h⟩ := bnd2_e h
    refine go_cVI K (c_X12_passesThrough l G _ _ _ _ _ e5) cf_X12_passesThrough cv_X12_passesThrough km_X12_463 rv_X12 (by decide) rfl rfl (Nat.le_of_ble_eq_true rfl) dX12_foretold_37 ?_
    refine go_istore K dX12_foretold_40 (by decide) (lv' := [(4, .int r5), (0, .ref (gB G + 446)), (1, .int v1), (2, .int v2), (3, .int v3)]) rfl ?_
    refine go_iload_n K dX12_foretold_42 4 rfl rfl ?_
    refine go_iconst (v := (-1 : Int32)) K dX12_foretold_43 (by decide) ?_
    refine go_icmp_ne (tgt := 55) K dX12_foretold_44 (by decide) (fun c6 => ?_) (fun c6 => ?_)
    rotate_left
    · replace h := ite_t h c6
      refine go_aload_n K dX12_foretold_47 1 rfl rfl ?_
      refine go_iload_n K dX12_foretold_48 3 rfl rfl ?_
      obtain ⟨r8, e8, h⟩ := bnd_e h
      refine go_cVI K (c_X12_allOwedBy l G _ _ _ _ e8) cf_X12_allOwedBy cv_X12_allOwedBy km_X12_384 rv_X12 (by decide) rfl rfl (Nat.le_of_ble_eq_true rfl) dX12_foretold_49 ?_
      refine go_goto (tgt := 65) K dX12_foretold_52 (by decide) ?_
      exact go_iret K hr (Prod.mk.inj (Option.some.inj h)).1 (congrArg (fun z => (C, z)) (Prod.mk.inj (Option.some.inj h)).2) dX12_foretold_65
    replace h := ite_f h c6
    refine go_aload_n K dX12_foretold_55 1 rfl rfl ?_
    refine gf_X12 K 40 (by decide) kf_X12_87 (v := .ref (gB G + 470)) rfl dX12_foretold_56 ?_
    refine go_iload_n K dX12_foretold_59 3 rfl rfl ?_
    refine go_iload_n K dX12_foretold_60 4 rfl rfl ?_
    refine go_cSI K (c_X12_debtAt l G _ _ _ _ _ rfl) cf_X12_debtAt kt_X12_debtAt km_X12_335 (by decide) rfl rfl (Nat.le_of_ble_eq_true rfl) dX12_foretold_61 ?_
    obtain ⟨g7, h⟩ := gd_e h
    refine go_mald K (Nat.le_of_ble_eq_true rfl) sh_470 g7 rfl dX12_foretold_64 ?_
    exact go_iret K hr (Prod.mk.inj (Option.some.inj h)).1 (congrArg (fun z => (C, z)) (Prod.mk.inj (Option.some.inj h)).2) dX12_foretold_65
  rw [f_X12_foretold] at h
  refine go_iload_n K dX12_foretold_0 1 rfl rfl ?_
  refine go_iconst (v := (1 : Int32)) K dX12_foretold_1 (by decide) ?_
  refine go_bipush (v := (60 : Int32)) K dX12_foretold_2 (by decide) ?_
  refine go_cSI K (c_X12_in l G _ _ _ _ _ _ rfl) cf_X12_in kt_X12_in km_X12_107 (by decide) rfl rfl (Nat.le_of_ble_eq_true rfl) dX12_foretold_4 ?_
  refine go_if_eq (tgt := 32) K dX12_foretold_7 (by decide) (fun c1 => ?_) (fun c1 => ?_)
  · replace h := ite_t h c1
    refine go_bipush (v := (-2 : Int32)) K dX12_foretold_32 (by decide) ?_
    exact go_iret K hr (Prod.mk.inj (Option.some.inj h)).1 (congrArg (fun z => (C, z)) (Prod.mk.inj (Option.some.inj h)).2) dX12_foretold_34
  replace h := ite_f h c1
  refine go_aload_n K dX12_foretold_10 0 rfl rfl ?_
  refine go_iload_n K dX12_foretold_11 2 rfl rfl ?_
  obtain ⟨r2, e2, h⟩ := bnd_e h
  refine go_cVI K (c_X12_isOne l G _ _ _ _ e2) cf_X12_isOne cv_X12_isOne km_X12_111 rv_X12 (by decide) rfl rfl (Nat.le_of_ble_eq_true rfl) dX12_foretold_12 ?_
  refine go_if_eq (tgt := 32) K dX12_foretold_15 (by decide) (fun c3 => ?_) (fun c3 => ?_)
  · replace h := ite_t h c3
    refine go_bipush (v := (-2 : Int32)) K dX12_foretold_32 (by decide) ?_
    exact go_iret K hr (Prod.mk.inj (Option.some.inj h)).1 (congrArg (fun z => (C, z)) (Prod.mk.inj (Option.some.inj h)).2) dX12_foretold_34
  replace h := ite_f h c3
  refine go_iload_n K dX12_foretold_18 3 rfl rfl ?_
  refine go_iconst (v := (-1 : Int32)) K dX12_foretold_19 (by decide) ?_
  refine go_icmp_eq (tgt := 35) K dX12_foretold_20 (by decide) (fun c4 => ?_) (fun c4 => ?_)
  · replace h := ite_t h c4
    exact hj35 _ _ _ _ h
  replace h := ite_f h c4
  refine go_aload_n K dX12_foretold_23 0 rfl rfl ?_
  refine go_iload_n K dX12_foretold_24 2 rfl rfl ?_
  refine go_iload_n K dX12_foretold_25 3 rfl rfl ?_
  obtain ⟨r9, e9, h⟩ := bnd_e h
  refine go_cVI K (c_X12_areTwo l G _ _ _ _ _ e9) cf_X12_areTwo cv_X12_areTwo km_X12_409 rv_X12 (by decide) rfl rfl (Nat.le_of_ble_eq_true rfl) dX12_foretold_26 ?_
  refine go_if_ne (tgt := 35) K dX12_foretold_29 (by decide) (fun c10 => ?_) (fun c10 => ?_)
  · replace h := ite_f h c10
    exact hj35 _ _ _ _ h
  replace h := ite_t h c10
  refine go_bipush (v := (-2 : Int32)) K dX12_foretold_32 (by decide) ?_
  exact go_iret K hr (Prod.mk.inj (Option.some.inj h)).1 (congrArg (fun z => (C, z)) (Prod.mk.inj (Option.some.inj h)).2) dX12_foretold_34
noncomputable def f_X12_indoors (v1 : Int32) (v2 : Int32) (O : OM) : Option (Int32 × OM) := (if (f_X12_in v1 (1 : Int32) (60 : Int32)) = 0 then (some ((-2 : Int32), O)) else (bnd (f_X12_isOne v2 O) (fun r2 => (if r2 = 0 then (some ((-2 : Int32), O)) else (bnd2 (f_X12_passesThrough v1 O) (fun r4 O4 => (gd (inb ((14 : Int32) + v2) 164) (some ((O4.1 470 ((14 : Int32) + v2).toNatClampNeg), O4)))))))))
theorem cf_X12_indoors : CF yX12_indoors cX12_indoors 4 (Option.some Jvm.ClassFile.FieldType.int) 2 := ⟨kc_X12_indoors, kj_X12, ⟨by decide +kernel, by decide +kernel, by decide +kernel⟩, by decide⟩
theorem cv_X12_indoors : CFv yX12_indoors := ⟨ki_X12_indoors, ks_X12_indoors⟩
set_option maxHeartbeats 4000000 in
set_option maxRecDepth 100000 in
theorem c_X12_indoors (l : Launch) (G : GT) (v1 : Int32) (v2 : Int32) (C : CM) (O : OM) (res : Int32) (O' : OM) (h : f_X12_indoors v1 v2 O = some (res, O')) : MI l G yX12_indoors cX12_indoors 4 (Option.some Jvm.ClassFile.FieldType.int) (9) [.ref (gB G + 446), .int v1, .int v2] (C, O) res (C, O') := by
  unfold MI
  refine met_in RX12 (by decide +kernel) rfl [(0, .ref (gB G + 446)), (1, .int v1), (2, .int v2)] rfl (Nat.le_of_ble_eq_true rfl) ?_
  intro pM eM sM mM aM bM meM cM K hr
  rw [f_X12_indoors] at h
  refine go_iload_n K dX12_indoors_0 1 rfl rfl ?_
  refine go_iconst (v := (1 : Int32)) K dX12_indoors_1 (by decide) ?_
  refine go_bipush (v := (60 : Int32)) K dX12_indoors_2 (by decide) ?_
  refine go_cSI K (c_X12_in l G _ _ _ _ _ _ rfl) cf_X12_in kt_X12_in km_X12_107 (by decide) rfl rfl (Nat.le_of_ble_eq_true rfl) dX12_indoors_4 ?_
  refine go_if_eq (tgt := 18) K dX12_indoors_7 (by decide) (fun c1 => ?_) (fun c1 => ?_)
  · replace h := ite_t h c1
    refine go_bipush (v := (-2 : Int32)) K dX12_indoors_18 (by decide) ?_
    exact go_iret K hr (Prod.mk.inj (Option.some.inj h)).1 (congrArg (fun z => (C, z)) (Prod.mk.inj (Option.some.inj h)).2) dX12_indoors_20
  replace h := ite_f h c1
  refine go_aload_n K dX12_indoors_10 0 rfl rfl ?_
  refine go_iload_n K dX12_indoors_11 2 rfl rfl ?_
  obtain ⟨r2, e2, h⟩ := bnd_e h
  refine go_cVI K (c_X12_isOne l G _ _ _ _ e2) cf_X12_isOne cv_X12_isOne km_X12_111 rv_X12 (by decide) rfl rfl (Nat.le_of_ble_eq_true rfl) dX12_indoors_12 ?_
  refine go_if_ne (tgt := 21) K dX12_indoors_15 (by decide) (fun c3 => ?_) (fun c3 => ?_)
  rotate_left
  · replace h := ite_t h c3
    refine go_bipush (v := (-2 : Int32)) K dX12_indoors_18 (by decide) ?_
    exact go_iret K hr (Prod.mk.inj (Option.some.inj h)).1 (congrArg (fun z => (C, z)) (Prod.mk.inj (Option.some.inj h)).2) dX12_indoors_20
  replace h := ite_f h c3
  refine go_aload_n K dX12_indoors_21 0 rfl rfl ?_
  refine go_iload_n K dX12_indoors_22 1 rfl rfl ?_
  obtain ⟨r4, O4, e4, h⟩ := bnd2_e h
  refine go_cVI K (c_X12_passesThrough l G _ _ _ _ _ e4) cf_X12_passesThrough cv_X12_passesThrough km_X12_463 rv_X12 (by decide) rfl rfl (Nat.le_of_ble_eq_true rfl) dX12_indoors_23 ?_
  refine go_istore_n K dX12_indoors_26 rfl (by decide) (lv' := [(3, .int r4), (0, .ref (gB G + 446)), (1, .int v1), (2, .int v2)]) rfl ?_
  refine go_aload_n K dX12_indoors_27 1 rfl rfl ?_
  refine gf_X12 K 40 (by decide) kf_X12_87 (v := .ref (gB G + 470)) rfl dX12_indoors_28 ?_
  refine go_bipush (v := (14 : Int32)) K dX12_indoors_31 (by decide) ?_
  refine go_iload_n K dX12_indoors_33 3 rfl rfl ?_
  refine go_iadd K dX12_indoors_34 ?_
  obtain ⟨g5, h⟩ := gd_e h
  refine go_mald K (Nat.le_of_ble_eq_true rfl) sh_470 g5 rfl dX12_indoors_35 ?_
  exact go_iret K hr (Prod.mk.inj (Option.some.inj h)).1 (congrArg (fun z => (C, z)) (Prod.mk.inj (Option.some.inj h)).2) dX12_indoors_36
noncomputable def f_X12_first (v1 : Int32) (O : OM) : Option (Int32 × OM) := (if (f_X12_in v1 (1 : Int32) (60 : Int32)) = 0 then (some ((-1 : Int32), O)) else (bnd2 (f_X12_passesThrough v1 O) (fun r2 O2 => (some ((O2.1 446 43), O2)))))
theorem cf_X12_first : CF yX12_first cX12_first 3 (Option.some Jvm.ClassFile.FieldType.int) 1 := ⟨kc_X12_first, kj_X12, ⟨by decide +kernel, by decide +kernel, by decide +kernel⟩, by decide⟩
theorem cv_X12_first : CFv yX12_first := ⟨ki_X12_first, ks_X12_first⟩
set_option maxHeartbeats 4000000 in
set_option maxRecDepth 100000 in
theorem c_X12_first (l : Launch) (G : GT) (v1 : Int32) (C : CM) (O : OM) (res : Int32) (O' : OM) (h : f_X12_first v1 O = some (res, O')) : MI l G yX12_first cX12_first 3 (Option.some Jvm.ClassFile.FieldType.int) (9) [.ref (gB G + 446), .int v1] (C, O) res (C, O') := by
  unfold MI
  refine met_in RX12 (by decide +kernel) rfl [(0, .ref (gB G + 446)), (1, .int v1)] rfl (Nat.le_of_ble_eq_true rfl) ?_
  intro pM eM sM mM aM bM meM cM K hr
  rw [f_X12_first] at h
  refine go_iload_n K dX12_first_0 1 rfl rfl ?_
  refine go_iconst (v := (1 : Int32)) K dX12_first_1 (by decide) ?_
  refine go_bipush (v := (60 : Int32)) K dX12_first_2 (by decide) ?_
  refine go_cSI K (c_X12_in l G _ _ _ _ _ _ rfl) cf_X12_in kt_X12_in km_X12_107 (by decide) rfl rfl (Nat.le_of_ble_eq_true rfl) dX12_first_4 ?_
  refine go_if_ne (tgt := 12) K dX12_first_7 (by decide) (fun c1 => ?_) (fun c1 => ?_)
  rotate_left
  · replace h := ite_t h c1
    refine go_iconst (v := (-1 : Int32)) K dX12_first_10 (by decide) ?_
    exact go_iret K hr (Prod.mk.inj (Option.some.inj h)).1 (congrArg (fun z => (C, z)) (Prod.mk.inj (Option.some.inj h)).2) dX12_first_11
  replace h := ite_f h c1
  refine go_aload_n K dX12_first_12 0 rfl rfl ?_
  refine go_iload_n K dX12_first_13 1 rfl rfl ?_
  obtain ⟨r2, O2, e2, h⟩ := bnd2_e h
  refine go_cVI K (c_X12_passesThrough l G _ _ _ _ _ e2) cf_X12_passesThrough cv_X12_passesThrough km_X12_463 rv_X12 (by decide) rfl rfl (Nat.le_of_ble_eq_true rfl) dX12_first_14 ?_
  refine go_istore_n K dX12_first_17 rfl (by decide) (lv' := [(2, .int r2), (0, .ref (gB G + 446)), (1, .int v1)]) rfl ?_
  refine go_aload_n K dX12_first_18 1 rfl rfl ?_
  refine gf_X12 K 43 (by decide) kf_X12_393 (v := .int (O2.1 446 43)) rfl dX12_first_19 ?_
  exact go_iret K hr (Prod.mk.inj (Option.some.inj h)).1 (congrArg (fun z => (C, z)) (Prod.mk.inj (Option.some.inj h)).2) dX12_first_22
noncomputable def X12_whose_j78 (v2 : Int32) (v3 : Int32) (O : OM) : Option (Int32 × OM) := (some (v3, (oup O 447 2 v2)))
noncomputable def X12_whose_j72 (rc : Int32 → Int32 → Int32 → Int32 → Int32 → OM → Option (Int32 × OM)) (k78 : Int32 → Int32 → OM → Option (Int32 × OM)) (v1 : Int32) (v2 : Int32) (v3 : Int32) (v4 : Int32) (v5 : Int32) (O : OM) : Option (Int32 × OM) := (rc v1 v2 v3 v4 (v5 + (1 : Int32)) O)
noncomputable def X12_whose_j65 (rc : Int32 → Int32 → Int32 → Int32 → Int32 → OM → Option (Int32 × OM)) (k78 : Int32 → Int32 → OM → Option (Int32 × OM)) (v1 : Int32) (v2 : Int32) (v5 : Int32) (v6 : Int32) (O : OM) : Option (Int32 × OM) := (X12_whose_j72 rc k78 v1 v2 v5 v6 v5 O)
noncomputable def X12_whose_l27 (k78 : Int32 → Int32 → OM → Option (Int32 × OM)) : Nat → Int32 → Int32 → Int32 → Int32 → Int32 → OM → Option (Int32 × OM)
  | 0, _, _, _, _, _, _ => none
  | n + 1, v1, v2, v3, v4, v5, O => (if (O.1 447 1) ≤ v5 then (k78 v2 v3 O) else (bnd2 (f_X12_passesThrough v1 (oup O 447 2 v5)) (fun r3 O3 => (if v3 = (-1 : Int32) then (X12_whose_j65 (fun v1 v2 v3 v4 v5 O => X12_whose_l27 k78 n v1 v2 v3 v4 v5 O) k78 v1 v2 v5 r3 O3) else (if v4 ≤ r3 then (X12_whose_j72 (fun v1 v2 v3 v4 v5 O => X12_whose_l27 k78 n v1 v2 v3 v4 v5 O) k78 v1 v2 v3 v4 v5 O3) else (X12_whose_j65 (fun v1 v2 v3 v4 v5 O => X12_whose_l27 k78 n v1 v2 v3 v4 v5 O) k78 v1 v2 v5 r3 O3))))))
noncomputable def f_X12_whose (v1 : Int32) (O : OM) : Option (Int32 × OM) := (if (f_X12_in v1 (1 : Int32) (60 : Int32)) = 0 then (some ((-1 : Int32), O)) else (X12_whose_l27 (fun v2 v3 O => (X12_whose_j78 v2 v3 O)) FU v1 (O.1 447 2) (-1 : Int32) (0 : Int32) (0 : Int32) O))
theorem cf_X12_whose : CF yX12_whose cX12_whose 7 (Option.some Jvm.ClassFile.FieldType.int) 1 := ⟨kc_X12_whose, kj_X12, ⟨by decide +kernel, by decide +kernel, by decide +kernel⟩, by decide⟩
theorem cv_X12_whose : CFv yX12_whose := ⟨ki_X12_whose, ks_X12_whose⟩
set_option maxHeartbeats 4000000 in
set_option maxRecDepth 100000 in
theorem c_X12_whose (l : Launch) (G : GT) (v1 : Int32) (C : CM) (O : OM) (res : Int32) (O' : OM) (h : f_X12_whose v1 O = some (res, O')) : MI l G yX12_whose cX12_whose 7 (Option.some Jvm.ClassFile.FieldType.int) (9) [.ref (gB G + 446), .int v1] (C, O) res (C, O') := by
  unfold MI
  refine met_in RX12 (by decide +kernel) rfl [(0, .ref (gB G + 446)), (1, .int v1)] rfl (Nat.le_of_ble_eq_true rfl) ?_
  intro pM eM sM mM aM bM meM cM K hr
  have hj78 : ∀ (v2 : Int32) (v3 : Int32) (O : OM), X12_whose_j78 v2 v3 O = some (res, O') → GO pM l eM (9) sM mM aM bM meM cM (MQ bM (va_Qi (fun (r' : Int32) (u : CM × OM) => r' = res ∧ u = (C, O')) (wB G) (Fr G)) aM sM 0 0 (Fr G)) G 7 (C, O) 78 [(0, .ref (gB G + 446)), (2, .int v2), (3, .int v3)] [] := by
    intro v2 v3 O h
    rw [X12_whose_j78] at h
    refine go_aload_n K dX12_whose_78 0 rfl rfl ?_
    refine gf_X12 K 0 (by decide) kf_X12_7 (v := .ref (gB G + 447)) rfl dX12_whose_79 ?_
    refine go_iconst (v := (2 : Int32)) K dX12_whose_82 (by decide) ?_
    refine go_iload_n K dX12_whose_83 1 rfl rfl ?_
    refine go_mast K (Nat.le_of_ble_eq_true rfl) sh_447 (in_k (k := 2) (by decide) (by decide)) rfl dX12_whose_84 ?_
    refine go_iload_n K dX12_whose_85 2 rfl rfl ?_
    exact go_iret K hr (Prod.mk.inj (Option.some.inj h)).1 (congrArg (fun z => (C, z)) (Prod.mk.inj (Option.some.inj h)).2) dX12_whose_86
  have hl27 : ∀ (n27 : Nat) (v1 : Int32) (v2 : Int32) (v3 : Int32) (v4 : Int32) (v5 : Int32) (O : OM), X12_whose_l27 (fun v2 v3 O => (X12_whose_j78 v2 v3 O)) n27 v1 v2 v3 v4 v5 O = some (res, O') → GO pM l eM (9) sM mM aM bM meM cM (MQ bM (va_Qi (fun (r' : Int32) (u : CM × OM) => r' = res ∧ u = (C, O')) (wB G) (Fr G)) aM sM 0 0 (Fr G)) G 7 (C, O) 27 [(0, .ref (gB G + 446)), (1, .int v1), (2, .int v2), (3, .int v3), (4, .int v4), (5, .int v5)] [] := by
    intro n27
    induction n27 with
    | zero =>
      intro v1 v2 v3 v4 v5 O h
      rw [X12_whose_l27] at h
      cases h
    | succ n27 ih27 =>
      have hj72 : ∀ (v1 : Int32) (v2 : Int32) (v3 : Int32) (v4 : Int32) (v5 : Int32) (O : OM), X12_whose_j72 (fun v1 v2 v3 v4 v5 O => X12_whose_l27 (fun v2 v3 O => (X12_whose_j78 v2 v3 O)) n27 v1 v2 v3 v4 v5 O) (fun v2 v3 O => (X12_whose_j78 v2 v3 O)) v1 v2 v3 v4 v5 O = some (res, O') → GO pM l eM (9) sM mM aM bM meM cM (MQ bM (va_Qi (fun (r' : Int32) (u : CM × OM) => r' = res ∧ u = (C, O')) (wB G) (Fr G)) aM sM 0 0 (Fr G)) G 7 (C, O) 72 [(0, .ref (gB G + 446)), (1, .int v1), (2, .int v2), (3, .int v3), (4, .int v4), (5, .int v5)] [] := by
        intro v1 v2 v3 v4 v5 O h
        rw [X12_whose_j72] at h
        refine go_iinc K dX12_whose_72 5 rfl (v := (v5 + (1 : Int32))) rfl (by decide) (lv' := [(5, .int (v5 + (1 : Int32))), (0, .ref (gB G + 446)), (1, .int v1), (2, .int v2), (3, .int v3), (4, .int v4)]) rfl ?_
        refine go_goto (tgt := 27) K dX12_whose_75 (by decide) ?_
        exact go_sub [1, 2, 3, 4, 5, 0] rfl (ih27 _ _ _ _ _ _ h)
      have hj65 : ∀ (v1 : Int32) (v2 : Int32) (v5 : Int32) (v6 : Int32) (O : OM), X12_whose_j65 (fun v1 v2 v3 v4 v5 O => X12_whose_l27 (fun v2 v3 O => (X12_whose_j78 v2 v3 O)) n27 v1 v2 v3 v4 v5 O) (fun v2 v3 O => (X12_whose_j78 v2 v3 O)) v1 v2 v5 v6 O = some (res, O') → GO pM l eM (9) sM mM aM bM meM cM (MQ bM (va_Qi (fun (r' : Int32) (u : CM × OM) => r' = res ∧ u = (C, O')) (wB G) (Fr G)) aM sM 0 0 (Fr G)) G 7 (C, O) 65 [(0, .ref (gB G + 446)), (1, .int v1), (2, .int v2), (5, .int v5), (6, .int v6)] [] := by
        intro v1 v2 v5 v6 O h
        rw [X12_whose_j65] at h
        refine go_iload K dX12_whose_65 3 rfl ?_
        refine go_istore_n K dX12_whose_67 rfl (by decide) (lv' := [(3, .int v5), (0, .ref (gB G + 446)), (1, .int v1), (2, .int v2), (5, .int v5), (6, .int v6)]) rfl ?_
        refine go_iload K dX12_whose_68 5 rfl ?_
        refine go_istore K dX12_whose_70 (by decide) (lv' := [(4, .int v6), (3, .int v5), (0, .ref (gB G + 446)), (1, .int v1), (2, .int v2), (5, .int v5), (6, .int v6)]) rfl ?_
        exact go_sub [2, 3, 4, 1, 0, 5] rfl (hj72 _ _ _ _ _ _ h)
      intro v1 v2 v3 v4 v5 O h
      rw [X12_whose_l27] at h
      refine go_iload K dX12_whose_27 5 rfl ?_
      refine go_aload_n K dX12_whose_29 0 rfl rfl ?_
      refine gf_X12 K 0 (by decide) kf_X12_7 (v := .ref (gB G + 447)) rfl dX12_whose_30 ?_
      refine go_iconst (v := (1 : Int32)) K dX12_whose_33 (by decide) ?_
      refine go_mald K (Nat.le_of_ble_eq_true rfl) sh_447 (in_k (k := 1) (by decide) (by decide)) rfl dX12_whose_34 ?_
      refine go_icmp_ge (tgt := 78) K dX12_whose_35 (by decide) (fun c2 => ?_) (fun c2 => ?_)
      · replace h := ite_t h c2
        exact go_sub [0, 2, 3] rfl (hj78 _ _ _ h)
      replace h := ite_f h c2
      refine go_aload_n K dX12_whose_38 0 rfl rfl ?_
      refine gf_X12 K 0 (by decide) kf_X12_7 (v := .ref (gB G + 447)) rfl dX12_whose_39 ?_
      refine go_iconst (v := (2 : Int32)) K dX12_whose_42 (by decide) ?_
      refine go_iload K dX12_whose_43 5 rfl ?_
      refine go_mast K (Nat.le_of_ble_eq_true rfl) sh_447 (in_k (k := 2) (by decide) (by decide)) rfl dX12_whose_45 ?_
      refine go_aload_n K dX12_whose_46 0 rfl rfl ?_
      refine go_iload_n K dX12_whose_47 1 rfl rfl ?_
      obtain ⟨r3, O3, e3, h⟩ := bnd2_e h
      refine go_cVI K (c_X12_passesThrough l G _ _ _ _ _ e3) cf_X12_passesThrough cv_X12_passesThrough km_X12_463 rv_X12 (by decide) rfl rfl (Nat.le_of_ble_eq_true rfl) dX12_whose_48 ?_
      refine go_istore K dX12_whose_51 (by decide) (lv' := [(6, .int r3), (0, .ref (gB G + 446)), (1, .int v1), (2, .int v2), (3, .int v3), (4, .int v4), (5, .int v5)]) rfl ?_
      refine go_iload_n K dX12_whose_53 4 rfl rfl ?_
      refine go_iconst (v := (-1 : Int32)) K dX12_whose_54 (by decide) ?_
      refine go_icmp_eq (tgt := 65) K dX12_whose_55 (by decide) (fun c4 => ?_) (fun c4 => ?_)
      · replace h := ite_t h c4
        exact go_sub [1, 2, 3, 6, 0] rfl (hj65 _ _ _ _ _ h)
      replace h := ite_f h c4
      refine go_iload K dX12_whose_58 0 rfl ?_
      refine go_iload K dX12_whose_60 5 rfl ?_
      refine go_icmp_ge (tgt := 72) K dX12_whose_62 (by decide) (fun c5 => ?_) (fun c5 => ?_)
      · replace h := ite_t h c5
        exact go_sub [1, 2, 3, 4, 5, 6] rfl (hj72 _ _ _ _ _ _ h)
      replace h := ite_f h c5
      exact go_sub [1, 2, 3, 6, 0] rfl (hj65 _ _ _ _ _ h)
  rw [f_X12_whose] at h
  refine go_iload_n K dX12_whose_0 1 rfl rfl ?_
  refine go_iconst (v := (1 : Int32)) K dX12_whose_1 (by decide) ?_
  refine go_bipush (v := (60 : Int32)) K dX12_whose_2 (by decide) ?_
  refine go_cSI K (c_X12_in l G _ _ _ _ _ _ rfl) cf_X12_in kt_X12_in km_X12_107 (by decide) rfl rfl (Nat.le_of_ble_eq_true rfl) dX12_whose_4 ?_
  refine go_if_ne (tgt := 12) K dX12_whose_7 (by decide) (fun c1 => ?_) (fun c1 => ?_)
  rotate_left
  · replace h := ite_t h c1
    refine go_iconst (v := (-1 : Int32)) K dX12_whose_10 (by decide) ?_
    exact go_iret K hr (Prod.mk.inj (Option.some.inj h)).1 (congrArg (fun z => (C, z)) (Prod.mk.inj (Option.some.inj h)).2) dX12_whose_11
  replace h := ite_f h c1
  refine go_aload_n K dX12_whose_12 0 rfl rfl ?_
  refine gf_X12 K 0 (by decide) kf_X12_7 (v := .ref (gB G + 447)) rfl dX12_whose_13 ?_
  refine go_iconst (v := (2 : Int32)) K dX12_whose_16 (by decide) ?_
  refine go_mald K (Nat.le_of_ble_eq_true rfl) sh_447 (in_k (k := 2) (by decide) (by decide)) rfl dX12_whose_17 ?_
  refine go_istore_n K dX12_whose_18 rfl (by decide) (lv' := [(2, .int (O.1 447 2)), (0, .ref (gB G + 446)), (1, .int v1)]) rfl ?_
  refine go_iconst (v := (-1 : Int32)) K dX12_whose_19 (by decide) ?_
  refine go_istore_n K dX12_whose_20 rfl (by decide) (lv' := [(3, .int (-1 : Int32)), (2, .int (O.1 447 2)), (0, .ref (gB G + 446)), (1, .int v1)]) rfl ?_
  refine go_iconst (v := (0 : Int32)) K dX12_whose_21 (by decide) ?_
  refine go_istore K dX12_whose_22 (by decide) (lv' := [(4, .int (0 : Int32)), (3, .int (-1 : Int32)), (2, .int (O.1 447 2)), (0, .ref (gB G + 446)), (1, .int v1)]) rfl ?_
  refine go_iconst (v := (0 : Int32)) K dX12_whose_24 (by decide) ?_
  refine go_istore K dX12_whose_25 (by decide) (lv' := [(5, .int (0 : Int32)), (4, .int (0 : Int32)), (3, .int (-1 : Int32)), (2, .int (O.1 447 2)), (0, .ref (gB G + 446)), (1, .int v1)]) rfl ?_
  exact go_sub [4, 5, 3, 2, 1, 0] rfl (hl27 FU _ _ _ _ _ _ h)
noncomputable def X12_placesOf_j90 (v2 : Int32) (v3 : Int32) (v4 : Int32) (O : OM) : Option Int32 := (if v2 = 0 then (some (v4 &&& ((255 : Int32) - v3))) else (some v3))
noncomputable def X12_placesOf_j84 (rc : Int32 → Int32 → Int32 → Int32 → Int32 → OM → Option Int32) (k90 : Int32 → Int32 → Int32 → OM → Option Int32) (v1 : Int32) (v2 : Int32) (v3 : Int32) (v4 : Int32) (v5 : Int32) (O : OM) : Option Int32 := (rc v1 v2 v3 v4 (v5 + (1 : Int32)) O)
noncomputable def X12_placesOf_j82 (rc : Int32 → Int32 → Int32 → Int32 → Int32 → OM → Option Int32) (k90 : Int32 → Int32 → Int32 → OM → Option Int32) (v1 : Int32) (v2 : Int32) (v4 : Int32) (v5 : Int32) (t0 : Int32) (t1 : Int32) (O : OM) : Option Int32 := (X12_placesOf_j84 rc k90 v1 v2 (t1 ||| t0) v4 v5 O)
noncomputable def X12_placesOf_l8 (k90 : Int32 → Int32 → Int32 → OM → Option Int32) : Nat → Int32 → Int32 → Int32 → Int32 → Int32 → OM → Option Int32
  | 0, _, _, _, _, _, _ => none
  | n + 1, v1, v2, v3, v4, v5, O => (if (O.1 447 0) ≤ v5 then (k90 v2 v3 v4 O) else (if v5 = v1 then (X12_placesOf_j84 (fun v1 v2 v3 v4 v5 O => X12_placesOf_l8 k90 n v1 v2 v3 v4 v5 O) k90 v1 v2 v3 v4 v5 O) else (bnd (f_X12_isOut v5 O) (fun r3 => (if r3 = 0 then (X12_placesOf_j84 (fun v1 v2 v3 v4 v5 O => X12_placesOf_l8 k90 n v1 v2 v3 v4 v5 O) k90 v1 v2 v3 v4 v5 O) else (gd (inb ((7 : Int32) + v5) 164) (gd (inb (f_X12_debtAt v1 v5) 164) (if (O.1 470 (f_X12_debtAt v1 v5).toNatClampNeg) ≤ 0 then (X12_placesOf_j82 (fun v1 v2 v3 v4 v5 O => X12_placesOf_l8 k90 n v1 v2 v3 v4 v5 O) k90 v1 v2 (v4 ||| ((1 : Int32) <<< ((O.1 470 ((7 : Int32) + v5).toNatClampNeg) &&& 31))) v5 (0 : Int32) v3 O) else (gd (inb ((7 : Int32) + v5) 164) (X12_placesOf_j82 (fun v1 v2 v3 v4 v5 O => X12_placesOf_l8 k90 n v1 v2 v3 v4 v5 O) k90 v1 v2 (v4 ||| ((1 : Int32) <<< ((O.1 470 ((7 : Int32) + v5).toNatClampNeg) &&& 31))) v5 ((1 : Int32) <<< ((O.1 470 ((7 : Int32) + v5).toNatClampNeg) &&& 31)) v3 O))))))))))
noncomputable def f_X12_placesOf (v1 : Int32) (v2 : Int32) (O : OM) : Option Int32 := (X12_placesOf_l8 (fun v2 v3 v4 O => (X12_placesOf_j90 v2 v3 v4 O)) FU v1 v2 (0 : Int32) (0 : Int32) (0 : Int32) O)
theorem cf_X12_placesOf : CF yX12_placesOf cX12_placesOf 6 (Option.some Jvm.ClassFile.FieldType.int) 2 := ⟨kc_X12_placesOf, kj_X12, ⟨by decide +kernel, by decide +kernel, by decide +kernel⟩, by decide⟩
theorem cv_X12_placesOf : CFv yX12_placesOf := ⟨ki_X12_placesOf, ks_X12_placesOf⟩
set_option maxHeartbeats 4000000 in
set_option maxRecDepth 100000 in
theorem c_X12_placesOf (l : Launch) (G : GT) (v1 : Int32) (v2 : Int32) (C : CM) (O : OM) (res : Int32) (h : f_X12_placesOf v1 v2 O = some res) : MI l G yX12_placesOf cX12_placesOf 6 (Option.some Jvm.ClassFile.FieldType.int) (2) [.ref (gB G + 446), .int v1, .int v2] (C, O) res (C, O) := by
  unfold MI
  refine met_in RX12 (by decide +kernel) rfl [(0, .ref (gB G + 446)), (1, .int v1), (2, .int v2)] rfl (Nat.le_of_ble_eq_true rfl) ?_
  intro pM eM sM mM aM bM meM cM K hr
  have hj90 : ∀ (v2 : Int32) (v3 : Int32) (v4 : Int32), X12_placesOf_j90 v2 v3 v4 O = some res → GO pM l eM (2) sM mM aM bM meM cM (MQ bM (va_Qi (fun (r' : Int32) (u : CM × OM) => r' = res ∧ u = (C, O)) (wB G) (Fr G)) aM sM 0 0 (Fr G)) G 6 (C, O) 90 [(2, .int v2), (3, .int v3), (4, .int v4)] [] := by
    intro v2 v3 v4 h
    rw [X12_placesOf_j90] at h
    refine go_iload_n K dX12_placesOf_90 0 rfl rfl ?_
    refine go_if_eq (tgt := 98) K dX12_placesOf_91 (by decide) (fun c9 => ?_) (fun c9 => ?_)
    rotate_left
    · replace h := ite_f h c9
      refine go_iload_n K dX12_placesOf_94 1 rfl rfl ?_
      refine go_goto (tgt := 106) K dX12_placesOf_95 (by decide) ?_
      exact go_iret K hr (Option.some.inj h) rfl dX12_placesOf_106
    replace h := ite_t h c9
    refine go_iload K dX12_placesOf_98 2 rfl ?_
    refine go_sipush (v := (255 : Int32)) K dX12_placesOf_100 (by decide) ?_
    refine go_iload_n K dX12_placesOf_103 1 rfl rfl ?_
    refine go_isub K dX12_placesOf_104 ?_
    refine go_iand K dX12_placesOf_105 ?_
    exact go_iret K hr (Option.some.inj h) rfl dX12_placesOf_106
  have hl8 : ∀ (n8 : Nat) (v1 : Int32) (v2 : Int32) (v3 : Int32) (v4 : Int32) (v5 : Int32), X12_placesOf_l8 (fun v2 v3 v4 O => (X12_placesOf_j90 v2 v3 v4 O)) n8 v1 v2 v3 v4 v5 O = some res → GO pM l eM (2) sM mM aM bM meM cM (MQ bM (va_Qi (fun (r' : Int32) (u : CM × OM) => r' = res ∧ u = (C, O)) (wB G) (Fr G)) aM sM 0 0 (Fr G)) G 6 (C, O) 8 [(0, .ref (gB G + 446)), (1, .int v1), (2, .int v2), (3, .int v3), (4, .int v4), (5, .int v5)] [] := by
    intro n8
    induction n8 with
    | zero =>
      intro v1 v2 v3 v4 v5 h
      rw [X12_placesOf_l8] at h
      cases h
    | succ n8 ih8 =>
      have hj84 : ∀ (v1 : Int32) (v2 : Int32) (v3 : Int32) (v4 : Int32) (v5 : Int32), X12_placesOf_j84 (fun v1 v2 v3 v4 v5 O => X12_placesOf_l8 (fun v2 v3 v4 O => (X12_placesOf_j90 v2 v3 v4 O)) n8 v1 v2 v3 v4 v5 O) (fun v2 v3 v4 O => (X12_placesOf_j90 v2 v3 v4 O)) v1 v2 v3 v4 v5 O = some res → GO pM l eM (2) sM mM aM bM meM cM (MQ bM (va_Qi (fun (r' : Int32) (u : CM × OM) => r' = res ∧ u = (C, O)) (wB G) (Fr G)) aM sM 0 0 (Fr G)) G 6 (C, O) 84 [(0, .ref (gB G + 446)), (1, .int v1), (2, .int v2), (3, .int v3), (4, .int v4), (5, .int v5)] [] := by
        intro v1 v2 v3 v4 v5 h
        rw [X12_placesOf_j84] at h
        refine go_iinc K dX12_placesOf_84 5 rfl (v := (v5 + (1 : Int32))) rfl (by decide) (lv' := [(5, .int (v5 + (1 : Int32))), (0, .ref (gB G + 446)), (1, .int v1), (2, .int v2), (3, .int v3), (4, .int v4)]) rfl ?_
        refine go_goto (tgt := 8) K dX12_placesOf_87 (by decide) ?_
        exact go_sub [1, 2, 3, 4, 5, 0] rfl (ih8 _ _ _ _ _ h)
      have hj82 : ∀ (v1 : Int32) (v2 : Int32) (v4 : Int32) (v5 : Int32) (t0 : Int32) (t1 : Int32), X12_placesOf_j82 (fun v1 v2 v3 v4 v5 O => X12_placesOf_l8 (fun v2 v3 v4 O => (X12_placesOf_j90 v2 v3 v4 O)) n8 v1 v2 v3 v4 v5 O) (fun v2 v3 v4 O => (X12_placesOf_j90 v2 v3 v4 O)) v1 v2 v4 v5 t0 t1 O = some res → GO pM l eM (2) sM mM aM bM meM cM (MQ bM (va_Qi (fun (r' : Int32) (u : CM × OM) => r' = res ∧ u = (C, O)) (wB G) (Fr G)) aM sM 0 0 (Fr G)) G 6 (C, O) 82 [(0, .ref (gB G + 446)), (1, .int v1), (2, .int v2), (4, .int v4), (5, .int v5)] [.int t0, .int t1] := by
        intro v1 v2 v4 v5 t0 t1 h
        rw [X12_placesOf_j82] at h
        refine go_ior K dX12_placesOf_82 ?_
        refine go_istore_n K dX12_placesOf_83 rfl (by decide) (lv' := [(3, .int (t1 ||| t0)), (0, .ref (gB G + 446)), (1, .int v1), (2, .int v2), (4, .int v4), (5, .int v5)]) rfl ?_
        exact go_sub [1, 2, 3, 0, 4, 5] rfl (hj84 _ _ _ _ _ h)
      intro v1 v2 v3 v4 v5 h
      rw [X12_placesOf_l8] at h
      refine go_iload K dX12_placesOf_8 5 rfl ?_
      refine go_aload_n K dX12_placesOf_10 0 rfl rfl ?_
      refine gf_X12 K 0 (by decide) kf_X12_7 (v := .ref (gB G + 447)) rfl dX12_placesOf_11 ?_
      refine go_iconst (v := (0 : Int32)) K dX12_placesOf_14 (by decide) ?_
      refine go_mald K (Nat.le_of_ble_eq_true rfl) sh_447 (in_k (k := 0) (by decide) (by decide)) rfl dX12_placesOf_15 ?_
      refine go_icmp_ge (tgt := 90) K dX12_placesOf_16 (by decide) (fun c1 => ?_) (fun c1 => ?_)
      · replace h := ite_t h c1
        exact go_sub [2, 3, 4] rfl (hj90 _ _ _ h)
      replace h := ite_f h c1
      refine go_iload K dX12_placesOf_19 5 rfl ?_
      refine go_iload_n K dX12_placesOf_21 1 rfl rfl ?_
      refine go_icmp_eq (tgt := 84) K dX12_placesOf_22 (by decide) (fun c2 => ?_) (fun c2 => ?_)
      · replace h := ite_t h c2
        exact hj84 _ _ _ _ _ h
      replace h := ite_f h c2
      refine go_aload_n K dX12_placesOf_25 0 rfl rfl ?_
      refine go_iload K dX12_placesOf_26 5 rfl ?_
      obtain ⟨r3, e3, h⟩ := bnd_e h
      refine go_cVI K (c_X12_isOut l G _ _ _ _ e3) cf_X12_isOut cv_X12_isOut km_X12_369 rv_X12 (by decide) rfl rfl (Nat.le_of_ble_eq_true rfl) dX12_placesOf_28 ?_
      refine go_if_eq (tgt := 84) K dX12_placesOf_31 (by decide) (fun c4 => ?_) (fun c4 => ?_)
      · replace h := ite_t h c4
        exact hj84 _ _ _ _ _ h
      replace h := ite_f h c4
      refine go_iload K dX12_placesOf_34 4 rfl ?_
      refine go_iconst (v := (1 : Int32)) K dX12_placesOf_36 (by decide) ?_
      refine go_aload_n K dX12_placesOf_37 0 rfl rfl ?_
      refine gf_X12 K 40 (by decide) kf_X12_87 (v := .ref (gB G + 470)) rfl dX12_placesOf_38 ?_
      refine go_bipush (v := (7 : Int32)) K dX12_placesOf_41 (by decide) ?_
      refine go_iload K dX12_placesOf_43 5 rfl ?_
      refine go_iadd K dX12_placesOf_45 ?_
      obtain ⟨g5, h⟩ := gd_e h
      refine go_mald K (Nat.le_of_ble_eq_true rfl) sh_470 g5 rfl dX12_placesOf_46 ?_
      refine go_ishl K dX12_placesOf_47 ?_
      refine go_ior K dX12_placesOf_48 ?_
      refine go_istore K dX12_placesOf_49 (by decide) (lv' := [(4, .int (v4 ||| ((1 : Int32) <<< ((O.1 470 ((7 : Int32) + v5).toNatClampNeg) &&& 31)))), (0, .ref (gB G + 446)), (1, .int v1), (2, .int v2), (3, .int v3), (5, .int v5)]) rfl ?_
      refine go_iload_n K dX12_placesOf_51 4 rfl rfl ?_
      refine go_aload_n K dX12_placesOf_52 1 rfl rfl ?_
      refine gf_X12 K 40 (by decide) kf_X12_87 (v := .ref (gB G + 470)) rfl dX12_placesOf_53 ?_
      refine go_iload_n K dX12_placesOf_56 2 rfl rfl ?_
      refine go_iload K dX12_placesOf_57 5 rfl ?_
      refine go_cSI K (c_X12_debtAt l G _ _ _ _ _ rfl) cf_X12_debtAt kt_X12_debtAt km_X12_335 (by decide) rfl rfl (Nat.le_of_ble_eq_true rfl) dX12_placesOf_59 ?_
      obtain ⟨g6, h⟩ := gd_e h
      refine go_mald K (Nat.le_of_ble_eq_true rfl) sh_470 g6 rfl dX12_placesOf_62 ?_
      refine go_if_le (tgt := 81) K dX12_placesOf_63 (by decide) (fun c7 => ?_) (fun c7 => ?_)
      · replace h := ite_t h c7
        refine go_iconst (v := (0 : Int32)) K dX12_placesOf_81 (by decide) ?_
        exact go_sub [1, 2, 3, 0, 5] rfl (hj82 _ _ _ _ _ _ h)
      replace h := ite_f h c7
      refine go_iconst (v := (1 : Int32)) K dX12_placesOf_66 (by decide) ?_
      refine go_aload_n K dX12_placesOf_67 1 rfl rfl ?_
      refine gf_X12 K 40 (by decide) kf_X12_87 (v := .ref (gB G + 470)) rfl dX12_placesOf_68 ?_
      refine go_bipush (v := (7 : Int32)) K dX12_placesOf_71 (by decide) ?_
      refine go_iload K dX12_placesOf_73 5 rfl ?_
      refine go_iadd K dX12_placesOf_75 ?_
      obtain ⟨g8, h⟩ := gd_e h
      refine go_mald K (Nat.le_of_ble_eq_true rfl) sh_470 g8 rfl dX12_placesOf_76 ?_
      refine go_ishl K dX12_placesOf_77 ?_
      refine go_goto (tgt := 82) K dX12_placesOf_78 (by decide) ?_
      exact go_sub [1, 2, 3, 0, 5] rfl (hj82 _ _ _ _ _ _ h)
  rw [f_X12_placesOf] at h
  refine go_iconst (v := (0 : Int32)) K dX12_placesOf_0 (by decide) ?_
  refine go_istore_n K dX12_placesOf_1 rfl (by decide) (lv' := [(3, .int (0 : Int32)), (0, .ref (gB G + 446)), (1, .int v1), (2, .int v2)]) rfl ?_
  refine go_iconst (v := (0 : Int32)) K dX12_placesOf_2 (by decide) ?_
  refine go_istore K dX12_placesOf_3 (by decide) (lv' := [(4, .int (0 : Int32)), (3, .int (0 : Int32)), (0, .ref (gB G + 446)), (1, .int v1), (2, .int v2)]) rfl ?_
  refine go_iconst (v := (0 : Int32)) K dX12_placesOf_5 (by decide) ?_
  refine go_istore K dX12_placesOf_6 (by decide) (lv' := [(5, .int (0 : Int32)), (4, .int (0 : Int32)), (3, .int (0 : Int32)), (0, .ref (gB G + 446)), (1, .int v1), (2, .int v2)]) rfl ?_
  exact go_sub [3, 4, 5, 2, 1, 0] rfl (hl8 FU _ _ _ _ _ h)
noncomputable def f_X12_stepTo (v0 : Int32) (v1 : Int32) : Int32 := (((256 : Int32) * (irm (((v0 / (256 : Int32)) + v1) + (8 : Int32)) (8 : Int32))) + ((irm v0 (256 : Int32)) ||| ((1 : Int32) <<< ((irm (((v0 / (256 : Int32)) + v1) + (8 : Int32)) (8 : Int32)) &&& 31))))
theorem cf_X12_stepTo : CF yX12_stepTo cX12_stepTo 3 (Option.some Jvm.ClassFile.FieldType.int) 2 := ⟨kc_X12_stepTo, kj_X12, ⟨by decide +kernel, by decide +kernel, by decide +kernel⟩, by decide⟩
set_option maxHeartbeats 4000000 in
set_option maxRecDepth 100000 in
theorem c_X12_stepTo (l : Launch) (G : GT) (v0 : Int32) (v1 : Int32) (C : CM) (O : OM) (res : Int32) (h : f_X12_stepTo v0 v1 = res) : MI l G yX12_stepTo cX12_stepTo 3 (Option.some Jvm.ClassFile.FieldType.int) (1) [.int v0, .int v1] (C, O) res (C, O) := by
  unfold MI
  refine met_in RX12 (by decide +kernel) rfl [(0, .int v0), (1, .int v1)] rfl (Nat.le_of_ble_eq_true rfl) ?_
  intro pM eM sM mM aM bM meM cM K hr
  rw [f_X12_stepTo] at h
  refine go_iload_n K dX12_stepTo_0 0 rfl rfl ?_
  refine go_sipush (v := (256 : Int32)) K dX12_stepTo_1 (by decide) ?_
  refine go_idiv K dX12_stepTo_4 (by decide) ?_
  refine go_iload_n K dX12_stepTo_5 1 rfl rfl ?_
  refine go_iadd K dX12_stepTo_6 ?_
  refine go_bipush (v := (8 : Int32)) K dX12_stepTo_7 (by decide) ?_
  refine go_iadd K dX12_stepTo_9 ?_
  refine go_bipush (v := (8 : Int32)) K dX12_stepTo_10 (by decide) ?_
  refine go_irem K dX12_stepTo_12 (by decide) ?_
  refine go_fold (y := (irm (((v0 / (256 : Int32)) + v1) + (8 : Int32)) (8 : Int32))) rfl ?_
  refine go_istore_n K dX12_stepTo_13 rfl (by decide) (lv' := [(2, .int (irm (((v0 / (256 : Int32)) + v1) + (8 : Int32)) (8 : Int32))), (0, .int v0), (1, .int v1)]) rfl ?_
  refine go_sipush (v := (256 : Int32)) K dX12_stepTo_14 (by decide) ?_
  refine go_iload_n K dX12_stepTo_17 0 rfl rfl ?_
  refine go_imul K dX12_stepTo_18 ?_
  refine go_iload_n K dX12_stepTo_19 1 rfl rfl ?_
  refine go_sipush (v := (256 : Int32)) K dX12_stepTo_20 (by decide) ?_
  refine go_irem K dX12_stepTo_23 (by decide) ?_
  refine go_fold (y := (irm v0 (256 : Int32))) rfl ?_
  refine go_iconst (v := (1 : Int32)) K dX12_stepTo_24 (by decide) ?_
  refine go_iload_n K dX12_stepTo_25 0 rfl rfl ?_
  refine go_ishl K dX12_stepTo_26 ?_
  refine go_ior K dX12_stepTo_27 ?_
  refine go_iadd K dX12_stepTo_28 ?_
  exact go_iret K hr h rfl dX12_stepTo_29
noncomputable def X12_laysYet_j137 (rc : Int32 → Int32 → OM → Option OM) (v2 : Int32) (v3 : Int32) (O : OM) : Option OM := (rc v2 v3 O)
noncomputable def X12_laysYet_j131 (rc : Int32 → Int32 → Int32 → OM → Option OM) (k137 : Int32 → Int32 → OM → Option OM) (v2 : Int32) (v3 : Int32) (v4 : Int32) (O : OM) : Option OM := (rc v2 v3 (v4 + (1 : Int32)) O)
noncomputable def X12_laysYet_j125 (rc : Int32 → Int32 → Int32 → Int32 → OM → Option OM) (k131 : Int32 → Int32 → Int32 → OM → Option OM) (v2 : Int32) (v3 : Int32) (v4 : Int32) (v5 : Int32) (O : OM) : Option OM := (rc v2 v3 v4 (v5 + (2 : Int32)) O)
noncomputable def X12_laysYet_l60 (k131 : Int32 → Int32 → Int32 → OM → Option OM) : Nat → Int32 → Int32 → Int32 → Int32 → OM → Option OM
  | 0, _, _, _, _, _ => none
  | n + 1, v2, v3, v4, v5, O => (if (2 : Int32) ≤ v5 then (k131 v2 v3 v4 O) else (if (f_X12_has v2 ((f_X12_stepTo v4 v5) / (256 : Int32))) = 0 then (gd (inb (f_X12_stepTo v4 v5) 2048) (gd (inb v4 2048) (if (O.1 473 v4.toNatClampNeg) ≤ ((O.1 473 (f_X12_stepTo v4 v5).toNatClampNeg) + (1 : Int32)) then (X12_laysYet_j125 (fun v2 v3 v4 v5 O => X12_laysYet_l60 k131 n v2 v3 v4 v5 O) k131 v2 v3 v4 v5 O) else (gd (inb (f_X12_stepTo v4 v5) 2048) (gd (inb v4 2048) (X12_laysYet_j125 (fun v2 v3 v4 v5 O => X12_laysYet_l60 k131 n v2 v3 v4 v5 O) k131 v2 (1 : Int32) v4 v5 (oup O 473 v4.toNatClampNeg ((O.1 473 (f_X12_stepTo v4 v5).toNatClampNeg) + (1 : Int32))))))))) else (X12_laysYet_j125 (fun v2 v3 v4 v5 O => X12_laysYet_l60 k131 n v2 v3 v4 v5 O) k131 v2 v3 v4 v5 O)))
noncomputable def X12_laysYet_l49 (k137 : Int32 → Int32 → OM → Option OM) : Nat → Int32 → Int32 → Int32 → OM → Option OM
  | 0, _, _, _, _ => none
  | n + 1, v2, v3, v4, O => (if (2048 : Int32) ≤ v4 then (k137 v2 v3 O) else (X12_laysYet_l60 (fun v2 v3 v4 O => (X12_laysYet_j131 (fun v2 v3 v4 O => X12_laysYet_l49 k137 n v2 v3 v4 O) k137 v2 v3 v4 O)) FU v2 v3 v4 (-1 : Int32) O))
noncomputable def X12_laysYet_l40 : Nat → Int32 → Int32 → OM → Option OM
  | 0, _, _, _ => none
  | n + 1, v2, v3, O => (if v3 = 0 then (some O) else (X12_laysYet_l49 (fun v2 v3 O => (X12_laysYet_j137 (fun v2 v3 O => X12_laysYet_l40 n v2 v3 O) v2 v3 O)) FU v2 (0 : Int32) (0 : Int32) O))
noncomputable def X12_laysYet_j38 (v2 : Int32) (O : OM) : Option OM := (X12_laysYet_l40 FU v2 (1 : Int32) O)
noncomputable def X12_laysYet_j31 (rc : Int32 → Int32 → Int32 → OM → Option OM) (k38 : Int32 → OM → Option OM) (v1 : Int32) (v2 : Int32) (v3 : Int32) (t0 : Int32) (t1 : Int32) (O : OM) : Option OM := (gd (inb t1 2048) (rc v1 v2 (v3 + (1 : Int32)) (oup O 473 t1.toNatClampNeg t0)))
noncomputable def X12_laysYet_l2 (k38 : Int32 → OM → Option OM) : Nat → Int32 → Int32 → Int32 → OM → Option OM
  | 0, _, _, _, _ => none
  | n + 1, v1, v2, v3, O => (if (2048 : Int32) ≤ v3 then (k38 v2 O) else (if ((irm v3 (256 : Int32)) &&& v1) = v1 then (X12_laysYet_j31 (fun v1 v2 v3 O => X12_laysYet_l2 k38 n v1 v2 v3 O) k38 v1 v2 v3 (0 : Int32) v3 O) else (X12_laysYet_j31 (fun v1 v2 v3 O => X12_laysYet_l2 k38 n v1 v2 v3 O) k38 v1 v2 v3 (99 : Int32) v3 O)))
noncomputable def f_X12_laysYet (v1 : Int32) (v2 : Int32) (O : OM) : Option OM := (X12_laysYet_l2 (fun v2 O => (X12_laysYet_j38 v2 O)) FU v1 v2 (0 : Int32) O)
theorem cf_X12_laysYet : CF yX12_laysYet cX12_laysYet 7 (Option.none : Option Jvm.ClassFile.FieldType) 2 := ⟨kc_X12_laysYet, kj_X12, ⟨by decide +kernel, by decide +kernel, by decide +kernel⟩, by decide⟩
theorem cv_X12_laysYet : CFv yX12_laysYet := ⟨ki_X12_laysYet, ks_X12_laysYet⟩
set_option maxHeartbeats 4000000 in
set_option maxRecDepth 100000 in
theorem c_X12_laysYet (l : Launch) (G : GT) (v1 : Int32) (v2 : Int32) (C : CM) (O : OM) (O' : OM) (h : f_X12_laysYet v1 v2 O = some O') : MV l G yX12_laysYet cX12_laysYet 7 (Option.none : Option Jvm.ClassFile.FieldType) (2) [.ref (gB G + 446), .int v1, .int v2] (C, O) (C, O') := by
  unfold MV
  refine met_in RX12 (by decide +kernel) rfl [(0, .ref (gB G + 446)), (1, .int v1), (2, .int v2)] rfl (Nat.le_of_ble_eq_true rfl) ?_
  intro pM eM sM mM aM bM meM cM K hr
  have hl40 : ∀ (n40 : Nat) (v2 : Int32) (v3 : Int32) (O : OM), X12_laysYet_l40 n40 v2 v3 O = some O' → GO pM l eM (2) sM mM aM bM meM cM (MQ bM (va_Qv (fun (u : CM × OM) => u = (C, O')) (wB G) (Fr G)) aM sM 0 0 (Fr G)) G 7 (C, O) 40 [(0, .ref (gB G + 446)), (2, .int v2), (3, .int v3)] [] := by
    intro n40
    induction n40 with
    | zero =>
      intro v2 v3 O h
      rw [X12_laysYet_l40] at h
      cases h
    | succ n40 ih40 =>
      have hj137 : ∀ (v2 : Int32) (v3 : Int32) (O : OM), X12_laysYet_j137 (fun v2 v3 O => X12_laysYet_l40 n40 v2 v3 O) v2 v3 O = some O' → GO pM l eM (2) sM mM aM bM meM cM (MQ bM (va_Qv (fun (u : CM × OM) => u = (C, O')) (wB G) (Fr G)) aM sM 0 0 (Fr G)) G 7 (C, O) 137 [(0, .ref (gB G + 446)), (2, .int v2), (3, .int v3)] [] := by
        intro v2 v3 O h
        rw [X12_laysYet_j137] at h
        refine go_goto (tgt := 40) K dX12_laysYet_137 (by decide) ?_
        exact ih40 _ _ _ h
      have hl49 : ∀ (n49 : Nat) (v2 : Int32) (v3 : Int32) (v4 : Int32) (O : OM), X12_laysYet_l49 (fun v2 v3 O => (X12_laysYet_j137 (fun v2 v3 O => X12_laysYet_l40 n40 v2 v3 O) v2 v3 O)) n49 v2 v3 v4 O = some O' → GO pM l eM (2) sM mM aM bM meM cM (MQ bM (va_Qv (fun (u : CM × OM) => u = (C, O')) (wB G) (Fr G)) aM sM 0 0 (Fr G)) G 7 (C, O) 49 [(0, .ref (gB G + 446)), (2, .int v2), (3, .int v3), (4, .int v4)] [] := by
        intro n49
        induction n49 with
        | zero =>
          intro v2 v3 v4 O h
          rw [X12_laysYet_l49] at h
          cases h
        | succ n49 ih49 =>
          have hj131 : ∀ (v2 : Int32) (v3 : Int32) (v4 : Int32) (O : OM), X12_laysYet_j131 (fun v2 v3 v4 O => X12_laysYet_l49 (fun v2 v3 O => (X12_laysYet_j137 (fun v2 v3 O => X12_laysYet_l40 n40 v2 v3 O) v2 v3 O)) n49 v2 v3 v4 O) (fun v2 v3 O => (X12_laysYet_j137 (fun v2 v3 O => X12_laysYet_l40 n40 v2 v3 O) v2 v3 O)) v2 v3 v4 O = some O' → GO pM l eM (2) sM mM aM bM meM cM (MQ bM (va_Qv (fun (u : CM × OM) => u = (C, O')) (wB G) (Fr G)) aM sM 0 0 (Fr G)) G 7 (C, O) 131 [(0, .ref (gB G + 446)), (2, .int v2), (3, .int v3), (4, .int v4)] [] := by
            intro v2 v3 v4 O h
            rw [X12_laysYet_j131] at h
            refine go_iinc K dX12_laysYet_131 3 rfl (v := (v4 + (1 : Int32))) rfl (by decide) (lv' := [(4, .int (v4 + (1 : Int32))), (0, .ref (gB G + 446)), (2, .int v2), (3, .int v3)]) rfl ?_
            refine go_goto (tgt := 49) K dX12_laysYet_134 (by decide) ?_
            exact go_sub [1, 2, 3, 0] rfl (ih49 _ _ _ _ h)
          have hl60 : ∀ (n60 : Nat) (v2 : Int32) (v3 : Int32) (v4 : Int32) (v5 : Int32) (O : OM), X12_laysYet_l60 (fun v2 v3 v4 O => (X12_laysYet_j131 (fun v2 v3 v4 O => X12_laysYet_l49 (fun v2 v3 O => (X12_laysYet_j137 (fun v2 v3 O => X12_laysYet_l40 n40 v2 v3 O) v2 v3 O)) n49 v2 v3 v4 O) (fun v2 v3 O => (X12_laysYet_j137 (fun v2 v3 O => X12_laysYet_l40 n40 v2 v3 O) v2 v3 O)) v2 v3 v4 O)) n60 v2 v3 v4 v5 O = some O' → GO pM l eM (2) sM mM aM bM meM cM (MQ bM (va_Qv (fun (u : CM × OM) => u = (C, O')) (wB G) (Fr G)) aM sM 0 0 (Fr G)) G 7 (C, O) 60 [(0, .ref (gB G + 446)), (2, .int v2), (3, .int v3), (4, .int v4), (5, .int v5)] [] := by
            intro n60
            induction n60 with
            | zero =>
              intro v2 v3 v4 v5 O h
              rw [X12_laysYet_l60] at h
              cases h
            | succ n60 ih60 =>
              have hj125 : ∀ (v2 : Int32) (v3 : Int32) (v4 : Int32) (v5 : Int32) (O : OM), X12_laysYet_j125 (fun v2 v3 v4 v5 O => X12_laysYet_l60 (fun v2 v3 v4 O => (X12_laysYet_j131 (fun v2 v3 v4 O => X12_laysYet_l49 (fun v2 v3 O => (X12_laysYet_j137 (fun v2 v3 O => X12_laysYet_l40 n40 v2 v3 O) v2 v3 O)) n49 v2 v3 v4 O) (fun v2 v3 O => (X12_laysYet_j137 (fun v2 v3 O => X12_laysYet_l40 n40 v2 v3 O) v2 v3 O)) v2 v3 v4 O)) n60 v2 v3 v4 v5 O) (fun v2 v3 v4 O => (X12_laysYet_j131 (fun v2 v3 v4 O => X12_laysYet_l49 (fun v2 v3 O => (X12_laysYet_j137 (fun v2 v3 O => X12_laysYet_l40 n40 v2 v3 O) v2 v3 O)) n49 v2 v3 v4 O) (fun v2 v3 O => (X12_laysYet_j137 (fun v2 v3 O => X12_laysYet_l40 n40 v2 v3 O) v2 v3 O)) v2 v3 v4 O)) v2 v3 v4 v5 O = some O' → GO pM l eM (2) sM mM aM bM meM cM (MQ bM (va_Qv (fun (u : CM × OM) => u = (C, O')) (wB G) (Fr G)) aM sM 0 0 (Fr G)) G 7 (C, O) 125 [(0, .ref (gB G + 446)), (2, .int v2), (3, .int v3), (4, .int v4), (5, .int v5)] [] := by
                intro v2 v3 v4 v5 O h
                rw [X12_laysYet_j125] at h
                refine go_iinc K dX12_laysYet_125 4 rfl (v := (v5 + (2 : Int32))) rfl (by decide) (lv' := [(5, .int (v5 + (2 : Int32))), (0, .ref (gB G + 446)), (2, .int v2), (3, .int v3), (4, .int v4)]) rfl ?_
                refine go_goto (tgt := 60) K dX12_laysYet_128 (by decide) ?_
                exact go_sub [1, 2, 3, 4, 0] rfl (ih60 _ _ _ _ _ h)
              intro v2 v3 v4 v5 O h
              rw [X12_laysYet_l60] at h
              refine go_iload K dX12_laysYet_60 4 rfl ?_
              refine go_iconst (v := (2 : Int32)) K dX12_laysYet_62 (by decide) ?_
              refine go_icmp_ge (tgt := 131) K dX12_laysYet_63 (by decide) (fun c6 => ?_) (fun c6 => ?_)
              · replace h := ite_t h c6
                exact go_sub [0, 1, 2, 3] rfl (hj131 _ _ _ _ h)
              replace h := ite_f h c6
              refine go_iload K dX12_laysYet_66 3 rfl ?_
              refine go_iload K dX12_laysYet_68 4 rfl ?_
              refine go_cSI K (c_X12_stepTo l G _ _ _ _ _ rfl) cf_X12_stepTo kt_X12_stepTo km_X12_466 (by decide) rfl rfl (Nat.le_of_ble_eq_true rfl) dX12_laysYet_70 ?_
              refine go_istore K dX12_laysYet_73 (by decide) (lv' := [(6, .int (f_X12_stepTo v4 v5)), (0, .ref (gB G + 446)), (2, .int v2), (3, .int v3), (4, .int v4), (5, .int v5)]) rfl ?_
              refine go_iload_n K dX12_laysYet_75 2 rfl rfl ?_
              refine go_iload K dX12_laysYet_76 0 rfl ?_
              refine go_sipush (v := (256 : Int32)) K dX12_laysYet_78 (by decide) ?_
              refine go_idiv K dX12_laysYet_81 (by decide) ?_
              refine go_cSI K (c_X12_has l G _ _ _ _ _ rfl) cf_X12_has kt_X12_has km_X12_469 (by decide) rfl rfl (Nat.le_of_ble_eq_true rfl) dX12_laysYet_82 ?_
              refine go_if_ne (tgt := 125) K dX12_laysYet_85 (by decide) (fun c7 => ?_) (fun c7 => ?_)
              · replace h := ite_f h c7
                exact go_sub [1, 2, 3, 4, 5] rfl (hj125 _ _ _ _ _ h)
              replace h := ite_t h c7
              refine go_aload_n K dX12_laysYet_88 1 rfl rfl ?_
              refine gf_X12 K 44 (by decide) kf_X12_97 (v := .ref (gB G + 473)) rfl dX12_laysYet_89 ?_
              refine go_iload K dX12_laysYet_92 0 rfl ?_
              obtain ⟨g8, h⟩ := gd_e h
              refine go_mald K (Nat.le_of_ble_eq_true rfl) sh_473 g8 rfl dX12_laysYet_94 ?_
              refine go_iconst (v := (1 : Int32)) K dX12_laysYet_95 (by decide) ?_
              refine go_iadd K dX12_laysYet_96 ?_
              refine go_aload_n K dX12_laysYet_97 1 rfl rfl ?_
              refine gf_X12 K 44 (by decide) kf_X12_97 (v := .ref (gB G + 473)) rfl dX12_laysYet_98 ?_
              refine go_iload K dX12_laysYet_101 4 rfl ?_
              obtain ⟨g9, h⟩ := gd_e h
              refine go_mald K (Nat.le_of_ble_eq_true rfl) sh_473 g9 rfl dX12_laysYet_103 ?_
              refine go_icmp_ge (tgt := 125) K dX12_laysYet_104 (by decide) (fun c10 => ?_) (fun c10 => ?_)
              · replace h := ite_t h c10
                exact go_sub [1, 2, 3, 4, 5] rfl (hj125 _ _ _ _ _ h)
              replace h := ite_f h c10
              refine go_aload_n K dX12_laysYet_107 1 rfl rfl ?_
              refine gf_X12 K 44 (by decide) kf_X12_97 (v := .ref (gB G + 473)) rfl dX12_laysYet_108 ?_
              refine go_iload K dX12_laysYet_111 4 rfl ?_
              refine go_aload_n K dX12_laysYet_113 1 rfl rfl ?_
              refine gf_X12 K 44 (by decide) kf_X12_97 (v := .ref (gB G + 473)) rfl dX12_laysYet_114 ?_
              refine go_iload K dX12_laysYet_117 0 rfl ?_
              obtain ⟨g11, h⟩ := gd_e h
              refine go_mald K (Nat.le_of_ble_eq_true rfl) sh_473 g11 rfl dX12_laysYet_119 ?_
              refine go_iconst (v := (1 : Int32)) K dX12_laysYet_120 (by decide) ?_
              refine go_iadd K dX12_laysYet_121 ?_
              obtain ⟨g12, h⟩ := gd_e h
              refine go_mast K (Nat.le_of_ble_eq_true rfl) sh_473 g12 rfl dX12_laysYet_122 ?_
              refine go_iconst (v := (1 : Int32)) K dX12_laysYet_123 (by decide) ?_
              refine go_istore_n K dX12_laysYet_124 rfl (by decide) (lv' := [(3, .int (1 : Int32)), (6, .int (f_X12_stepTo v4 v5)), (0, .ref (gB G + 446)), (2, .int v2), (4, .int v4), (5, .int v5)]) rfl ?_
              exact go_sub [2, 3, 0, 4, 5] rfl (hj125 _ _ _ _ _ h)
          intro v2 v3 v4 O h
          rw [X12_laysYet_l49] at h
          refine go_iload K dX12_laysYet_49 3 rfl ?_
          refine go_sipush (v := (2048 : Int32)) K dX12_laysYet_51 (by decide) ?_
          refine go_icmp_ge (tgt := 137) K dX12_laysYet_54 (by decide) (fun c5 => ?_) (fun c5 => ?_)
          · replace h := ite_t h c5
            exact go_sub [0, 1, 2] rfl (hj137 _ _ _ h)
          replace h := ite_f h c5
          refine go_iconst (v := (-1 : Int32)) K dX12_laysYet_57 (by decide) ?_
          refine go_istore K dX12_laysYet_58 (by decide) (lv' := [(5, .int (-1 : Int32)), (0, .ref (gB G + 446)), (2, .int v2), (3, .int v3), (4, .int v4)]) rfl ?_
          exact go_sub [1, 2, 3, 4, 0] rfl (hl60 FU _ _ _ _ _ h)
      intro v2 v3 O h
      rw [X12_laysYet_l40] at h
      refine go_iload_n K dX12_laysYet_40 2 rfl rfl ?_
      refine go_if_eq (tgt := 140) K dX12_laysYet_41 (by decide) (fun c4 => ?_) (fun c4 => ?_)
      · replace h := ite_t h c4
        exact go_vret K hr (congrArg (fun z => (C, z)) (Option.some.inj h)) dX12_laysYet_140
      replace h := ite_f h c4
      refine go_iconst (v := (0 : Int32)) K dX12_laysYet_44 (by decide) ?_
      refine go_istore_n K dX12_laysYet_45 rfl (by decide) (lv' := [(3, .int (0 : Int32)), (0, .ref (gB G + 446)), (2, .int v2)]) rfl ?_
      refine go_iconst (v := (0 : Int32)) K dX12_laysYet_46 (by decide) ?_
      refine go_istore K dX12_laysYet_47 (by decide) (lv' := [(4, .int (0 : Int32)), (3, .int (0 : Int32)), (0, .ref (gB G + 446)), (2, .int v2)]) rfl ?_
      exact go_sub [2, 3, 1, 0] rfl (hl49 FU _ _ _ _ h)
  have hj38 : ∀ (v2 : Int32) (O : OM), X12_laysYet_j38 v2 O = some O' → GO pM l eM (2) sM mM aM bM meM cM (MQ bM (va_Qv (fun (u : CM × OM) => u = (C, O')) (wB G) (Fr G)) aM sM 0 0 (Fr G)) G 7 (C, O) 38 [(0, .ref (gB G + 446)), (2, .int v2)] [] := by
    intro v2 O h
    rw [X12_laysYet_j38] at h
    refine go_iconst (v := (1 : Int32)) K dX12_laysYet_38 (by decide) ?_
    refine go_istore_n K dX12_laysYet_39 rfl (by decide) (lv' := [(3, .int (1 : Int32)), (0, .ref (gB G + 446)), (2, .int v2)]) rfl ?_
    exact go_sub [1, 2, 0] rfl (hl40 FU _ _ _ h)
  have hl2 : ∀ (n2 : Nat) (v1 : Int32) (v2 : Int32) (v3 : Int32) (O : OM), X12_laysYet_l2 (fun v2 O => (X12_laysYet_j38 v2 O)) n2 v1 v2 v3 O = some O' → GO pM l eM (2) sM mM aM bM meM cM (MQ bM (va_Qv (fun (u : CM × OM) => u = (C, O')) (wB G) (Fr G)) aM sM 0 0 (Fr G)) G 7 (C, O) 2 [(0, .ref (gB G + 446)), (1, .int v1), (2, .int v2), (3, .int v3)] [] := by
    intro n2
    induction n2 with
    | zero =>
      intro v1 v2 v3 O h
      rw [X12_laysYet_l2] at h
      cases h
    | succ n2 ih2 =>
      have hj31 : ∀ (v1 : Int32) (v2 : Int32) (v3 : Int32) (t0 : Int32) (t1 : Int32) (O : OM), X12_laysYet_j31 (fun v1 v2 v3 O => X12_laysYet_l2 (fun v2 O => (X12_laysYet_j38 v2 O)) n2 v1 v2 v3 O) (fun v2 O => (X12_laysYet_j38 v2 O)) v1 v2 v3 t0 t1 O = some O' → GO pM l eM (2) sM mM aM bM meM cM (MQ bM (va_Qv (fun (u : CM × OM) => u = (C, O')) (wB G) (Fr G)) aM sM 0 0 (Fr G)) G 7 (C, O) 31 [(0, .ref (gB G + 446)), (1, .int v1), (2, .int v2), (3, .int v3)] [.int t0, .int t1, .ref (gB G + 473)] := by
        intro v1 v2 v3 t0 t1 O h
        rw [X12_laysYet_j31] at h
        obtain ⟨g3, h⟩ := gd_e h
        refine go_mast K (Nat.le_of_ble_eq_true rfl) sh_473 g3 rfl dX12_laysYet_31 ?_
        refine go_iinc K dX12_laysYet_32 3 rfl (v := (v3 + (1 : Int32))) rfl (by decide) (lv' := [(3, .int (v3 + (1 : Int32))), (0, .ref (gB G + 446)), (1, .int v1), (2, .int v2)]) rfl ?_
        refine go_goto (tgt := 2) K dX12_laysYet_35 (by decide) ?_
        exact go_sub [1, 2, 3, 0] rfl (ih2 _ _ _ _ h)
      intro v1 v2 v3 O h
      rw [X12_laysYet_l2] at h
      refine go_iload_n K dX12_laysYet_2 3 rfl rfl ?_
      refine go_sipush (v := (2048 : Int32)) K dX12_laysYet_3 (by decide) ?_
      refine go_icmp_ge (tgt := 38) K dX12_laysYet_6 (by decide) (fun c1 => ?_) (fun c1 => ?_)
      · replace h := ite_t h c1
        exact go_sub [0, 2] rfl (hj38 _ _ h)
      replace h := ite_f h c1
      refine go_aload_n K dX12_laysYet_9 0 rfl rfl ?_
      refine gf_X12 K 44 (by decide) kf_X12_97 (v := .ref (gB G + 473)) rfl dX12_laysYet_10 ?_
      refine go_iload_n K dX12_laysYet_13 3 rfl rfl ?_
      refine go_iload_n K dX12_laysYet_14 3 rfl rfl ?_
      refine go_sipush (v := (256 : Int32)) K dX12_laysYet_15 (by decide) ?_
      refine go_irem K dX12_laysYet_18 (by decide) ?_
      refine go_fold (y := (irm v3 (256 : Int32))) rfl ?_
      refine go_iload_n K dX12_laysYet_19 1 rfl rfl ?_
      refine go_iand K dX12_laysYet_20 ?_
      refine go_iload_n K dX12_laysYet_21 1 rfl rfl ?_
      refine go_icmp_ne (tgt := 29) K dX12_laysYet_22 (by decide) (fun c2 => ?_) (fun c2 => ?_)
      · replace h := ite_f h c2
        refine go_bipush (v := (99 : Int32)) K dX12_laysYet_29 (by decide) ?_
        exact hj31 _ _ _ _ _ _ h
      replace h := ite_t h c2
      refine go_iconst (v := (0 : Int32)) K dX12_laysYet_25 (by decide) ?_
      refine go_goto (tgt := 31) K dX12_laysYet_26 (by decide) ?_
      exact hj31 _ _ _ _ _ _ h
  rw [f_X12_laysYet] at h
  refine go_iconst (v := (0 : Int32)) K dX12_laysYet_0 (by decide) ?_
  refine go_istore_n K dX12_laysYet_1 rfl (by decide) (lv' := [(3, .int (0 : Int32)), (0, .ref (gB G + 446)), (1, .int v1), (2, .int v2)]) rfl ?_
  exact go_sub [1, 2, 3, 0] rfl (hl2 FU _ _ _ _ h)
noncomputable def X12_route_j173 (rc : Int32 → Int32 → Int32 → Int32 → Int32 → OM → Option (Int32 × OM)) (v2 : Int32) (v3 : Int32) (v4 : Int32) (v6 : Int32) (t0 : Int32) (O : OM) : Option (Int32 × OM) := (rc v2 v3 (f_X12_stepTo v4 t0) t0 (v6 + (1 : Int32)) O)
noncomputable def X12_route_j172 (rc : Int32 → Int32 → Int32 → Int32 → Int32 → OM → Option (Int32 × OM)) (v2 : Int32) (v3 : Int32) (v4 : Int32) (v6 : Int32) (O : OM) : Option (Int32 × OM) := (X12_route_j173 rc v2 v3 v4 v6 (-1 : Int32) O)
noncomputable def X12_route_l122 : Nat → Int32 → Int32 → Int32 → Int32 → Int32 → OM → Option (Int32 × OM)
  | 0, _, _, _, _, _, _ => none
  | n + 1, v2, v3, v4, v5, v6, O => (if v2 < v6 then (some (v5, O)) else (if (f_X12_has v3 ((f_X12_stepTo v4 (1 : Int32)) / (256 : Int32))) = 0 then (gd (inb (f_X12_stepTo v4 (1 : Int32)) 2048) (gd (inb v4 2048) (if (O.1 473 (f_X12_stepTo v4 (1 : Int32)).toNatClampNeg) = ((O.1 473 v4.toNatClampNeg) - (1 : Int32)) then (X12_route_j173 (fun v2 v3 v4 v5 v6 O => X12_route_l122 n v2 v3 v4 v5 v6 O) v2 v3 v4 v6 (1 : Int32) O) else (X12_route_j172 (fun v2 v3 v4 v5 v6 O => X12_route_l122 n v2 v3 v4 v5 v6 O) v2 v3 v4 v6 O)))) else (X12_route_j172 (fun v2 v3 v4 v5 v6 O => X12_route_l122 n v2 v3 v4 v5 v6 O) v2 v3 v4 v6 O)))
noncomputable def f_X12_route (v1 : Int32) (v2 : Int32) (O : OM) : Option (Int32 × OM) := (bnd (f_X12_isOne v1 O) (fun r1 => (if r1 = 0 then (some ((-2 : Int32), O)) else (if v2 < (-1 : Int32) then (some ((-2 : Int32), O)) else (gd (inb ((54 : Int32) + v1) 5130) (if (O.1 447 ((54 : Int32) + v1).toNatClampNeg) ≤ 0 then (bnd (f_X12_laysNow O) (fun O6 => (bnd (f_X12_placesOf v1 (0 : Int32) O6) (fun r7 => (bnd (f_X12_placesOf v1 (1 : Int32) O6) (fun r8 => (bnd (f_X12_laysYet r8 r7 O6) (fun O9 => (gd (inb ((7 : Int32) + v1) 164) (gd (inb ((7 : Int32) + v1) 164) (gd (inb (((256 : Int32) * (O9.1 470 ((7 : Int32) + v1).toNatClampNeg)) + ((1 : Int32) <<< ((O9.1 470 ((7 : Int32) + v1).toNatClampNeg) &&& 31))) 2048) (if (O9.1 473 (((256 : Int32) * (O9.1 470 ((7 : Int32) + v1).toNatClampNeg)) + ((1 : Int32) <<< ((O9.1 470 ((7 : Int32) + v1).toNatClampNeg) &&& 31))).toNatClampNeg) = (99 : Int32) then (some ((-2 : Int32), O9)) else (gd (inb (((256 : Int32) * (O9.1 470 ((7 : Int32) + v1).toNatClampNeg)) + ((1 : Int32) <<< ((O9.1 470 ((7 : Int32) + v1).toNatClampNeg) &&& 31))) 2048) (if v2 < (O9.1 473 (((256 : Int32) * (O9.1 470 ((7 : Int32) + v1).toNatClampNeg)) + ((1 : Int32) <<< ((O9.1 470 ((7 : Int32) + v1).toNatClampNeg) &&& 31))).toNatClampNeg) then (if v2 = (-1 : Int32) then (gd (inb (((256 : Int32) * (O9.1 470 ((7 : Int32) + v1).toNatClampNeg)) + ((1 : Int32) <<< ((O9.1 470 ((7 : Int32) + v1).toNatClampNeg) &&& 31))) 2048) (some ((O9.1 473 (((256 : Int32) * (O9.1 470 ((7 : Int32) + v1).toNatClampNeg)) + ((1 : Int32) <<< ((O9.1 470 ((7 : Int32) + v1).toNatClampNeg) &&& 31))).toNatClampNeg), O9))) else (X12_route_l122 FU v2 r7 (((256 : Int32) * (O9.1 470 ((7 : Int32) + v1).toNatClampNeg)) + ((1 : Int32) <<< ((O9.1 470 ((7 : Int32) + v1).toNatClampNeg) &&& 31))) (1 : Int32) (0 : Int32) O9)) else (some ((-2 : Int32), O9)))))))))))))))) else (some ((-2 : Int32), O))))))))
theorem cf_X12_route : CF yX12_route cX12_route 8 (Option.some Jvm.ClassFile.FieldType.int) 2 := ⟨kc_X12_route, kj_X12, ⟨by decide +kernel, by decide +kernel, by decide +kernel⟩, by decide⟩
theorem cv_X12_route : CFv yX12_route := ⟨ki_X12_route, ks_X12_route⟩
set_option maxHeartbeats 4000000 in
set_option maxRecDepth 100000 in
theorem c_X12_route (l : Launch) (G : GT) (v1 : Int32) (v2 : Int32) (C : CM) (O : OM) (res : Int32) (O' : OM) (h : f_X12_route v1 v2 O = some (res, O')) : MI l G yX12_route cX12_route 8 (Option.some Jvm.ClassFile.FieldType.int) (3) [.ref (gB G + 446), .int v1, .int v2] (C, O) res (C, O') := by
  unfold MI
  refine met_in RX12 (by decide +kernel) rfl [(0, .ref (gB G + 446)), (1, .int v1), (2, .int v2)] rfl (Nat.le_of_ble_eq_true rfl) ?_
  intro pM eM sM mM aM bM meM cM K hr
  have hl122 : ∀ (n122 : Nat) (v2 : Int32) (v3 : Int32) (v4 : Int32) (v5 : Int32) (v6 : Int32) (O : OM), X12_route_l122 n122 v2 v3 v4 v5 v6 O = some (res, O') → GO pM l eM (3) sM mM aM bM meM cM (MQ bM (va_Qi (fun (r' : Int32) (u : CM × OM) => r' = res ∧ u = (C, O')) (wB G) (Fr G)) aM sM 0 0 (Fr G)) G 8 (C, O) 122 [(0, .ref (gB G + 446)), (2, .int v2), (3, .int v3), (4, .int v4), (5, .int v5), (6, .int v6)] [] := by
    intro n122
    induction n122 with
    | zero =>
      intro v2 v3 v4 v5 v6 O h
      rw [X12_route_l122] at h
      cases h
    | succ n122 ih122 =>
      have hj173 : ∀ (v2 : Int32) (v3 : Int32) (v4 : Int32) (v6 : Int32) (t0 : Int32) (O : OM), X12_route_j173 (fun v2 v3 v4 v5 v6 O => X12_route_l122 n122 v2 v3 v4 v5 v6 O) v2 v3 v4 v6 t0 O = some (res, O') → GO pM l eM (3) sM mM aM bM meM cM (MQ bM (va_Qi (fun (r' : Int32) (u : CM × OM) => r' = res ∧ u = (C, O')) (wB G) (Fr G)) aM sM 0 0 (Fr G)) G 8 (C, O) 173 [(0, .ref (gB G + 446)), (2, .int v2), (3, .int v3), (4, .int v4), (6, .int v6)] [.int t0] := by
        intro v2 v3 v4 v6 t0 O h
        rw [X12_route_j173] at h
        refine go_istore K dX12_route_173 (by decide) (lv' := [(5, .int t0), (0, .ref (gB G + 446)), (2, .int v2), (3, .int v3), (4, .int v4), (6, .int v6)]) rfl ?_
        refine go_iload K dX12_route_175 4 rfl ?_
        refine go_iload K dX12_route_177 0 rfl ?_
        refine go_cSI K (c_X12_stepTo l G _ _ _ _ _ rfl) cf_X12_stepTo kt_X12_stepTo km_X12_466 (by decide) rfl rfl (Nat.le_of_ble_eq_true rfl) dX12_route_179 ?_
        refine go_istore K dX12_route_182 (by decide) (lv' := [(4, .int (f_X12_stepTo v4 t0)), (5, .int t0), (0, .ref (gB G + 446)), (2, .int v2), (3, .int v3), (6, .int v6)]) rfl ?_
        refine go_iinc K dX12_route_184 5 rfl (v := (v6 + (1 : Int32))) rfl (by decide) (lv' := [(6, .int (v6 + (1 : Int32))), (4, .int (f_X12_stepTo v4 t0)), (5, .int t0), (0, .ref (gB G + 446)), (2, .int v2), (3, .int v3)]) rfl ?_
        refine go_goto (tgt := 122) K dX12_route_187 (by decide) ?_
        exact go_sub [3, 4, 5, 1, 2, 0] rfl (ih122 _ _ _ _ _ _ h)
      have hj172 : ∀ (v2 : Int32) (v3 : Int32) (v4 : Int32) (v6 : Int32) (O : OM), X12_route_j172 (fun v2 v3 v4 v5 v6 O => X12_route_l122 n122 v2 v3 v4 v5 v6 O) v2 v3 v4 v6 O = some (res, O') → GO pM l eM (3) sM mM aM bM meM cM (MQ bM (va_Qi (fun (r' : Int32) (u : CM × OM) => r' = res ∧ u = (C, O')) (wB G) (Fr G)) aM sM 0 0 (Fr G)) G 8 (C, O) 172 [(0, .ref (gB G + 446)), (2, .int v2), (3, .int v3), (4, .int v4), (6, .int v6)] [] := by
        intro v2 v3 v4 v6 O h
        rw [X12_route_j172] at h
        refine go_iconst (v := (-1 : Int32)) K dX12_route_172 (by decide) ?_
        exact hj173 _ _ _ _ _ _ h
      intro v2 v3 v4 v5 v6 O h
      rw [X12_route_l122] at h
      refine go_iload K dX12_route_122 5 rfl ?_
      refine go_iload_n K dX12_route_124 1 rfl rfl ?_
      refine go_icmp_gt (tgt := 190) K dX12_route_125 (by decide) (fun c17 => ?_) (fun c17 => ?_)
      · replace h := ite_t h c17
        refine go_iload K dX12_route_190 4 rfl ?_
        exact go_iret K hr (Prod.mk.inj (Option.some.inj h)).1 (congrArg (fun z => (C, z)) (Prod.mk.inj (Option.some.inj h)).2) dX12_route_192
      replace h := ite_f h c17
      refine go_iload K dX12_route_128 3 rfl ?_
      refine go_iconst (v := (1 : Int32)) K dX12_route_130 (by decide) ?_
      refine go_cSI K (c_X12_stepTo l G _ _ _ _ _ rfl) cf_X12_stepTo kt_X12_stepTo km_X12_466 (by decide) rfl rfl (Nat.le_of_ble_eq_true rfl) dX12_route_131 ?_
      refine go_istore K dX12_route_134 (by decide) (lv' := [(7, .int (f_X12_stepTo v4 (1 : Int32))), (0, .ref (gB G + 446)), (2, .int v2), (3, .int v3), (4, .int v4), (5, .int v5), (6, .int v6)]) rfl ?_
      refine go_iload_n K dX12_route_136 3 rfl rfl ?_
      refine go_iload K dX12_route_137 0 rfl ?_
      refine go_sipush (v := (256 : Int32)) K dX12_route_139 (by decide) ?_
      refine go_idiv K dX12_route_142 (by decide) ?_
      refine go_cSI K (c_X12_has l G _ _ _ _ _ rfl) cf_X12_has kt_X12_has km_X12_469 (by decide) rfl rfl (Nat.le_of_ble_eq_true rfl) dX12_route_143 ?_
      refine go_if_ne (tgt := 172) K dX12_route_146 (by decide) (fun c18 => ?_) (fun c18 => ?_)
      · replace h := ite_f h c18
        exact go_sub [1, 2, 3, 4, 6] rfl (hj172 _ _ _ _ _ h)
      replace h := ite_t h c18
      refine go_aload_n K dX12_route_149 1 rfl rfl ?_
      refine gf_X12 K 44 (by decide) kf_X12_97 (v := .ref (gB G + 473)) rfl dX12_route_150 ?_
      refine go_iload K dX12_route_153 0 rfl ?_
      obtain ⟨g19, h⟩ := gd_e h
      refine go_mald K (Nat.le_of_ble_eq_true rfl) sh_473 g19 rfl dX12_route_155 ?_
      refine go_aload_n K dX12_route_156 1 rfl rfl ?_
      refine gf_X12 K 44 (by decide) kf_X12_97 (v := .ref (gB G + 473)) rfl dX12_route_157 ?_
      refine go_iload K dX12_route_160 4 rfl ?_
      obtain ⟨g20, h⟩ := gd_e h
      refine go_mald K (Nat.le_of_ble_eq_true rfl) sh_473 g20 rfl dX12_route_162 ?_
      refine go_iconst (v := (1 : Int32)) K dX12_route_163 (by decide) ?_
      refine go_isub K dX12_route_164 ?_
      refine go_icmp_ne (tgt := 172) K dX12_route_165 (by decide) (fun c21 => ?_) (fun c21 => ?_)
      · replace h := ite_f h c21
        exact go_sub [1, 2, 3, 4, 6] rfl (hj172 _ _ _ _ _ h)
      replace h := ite_t h c21
      refine go_iconst (v := (1 : Int32)) K dX12_route_168 (by decide) ?_
      refine go_goto (tgt := 173) K dX12_route_169 (by decide) ?_
      exact go_sub [1, 2, 3, 4, 6] rfl (hj173 _ _ _ _ _ _ h)
  rw [f_X12_route] at h
  refine go_aload_n K dX12_route_0 0 rfl rfl ?_
  refine go_iload_n K dX12_route_1 1 rfl rfl ?_
  obtain ⟨r1, e1, h⟩ := bnd_e h
  refine go_cVI K (c_X12_isOne l G _ _ _ _ e1) cf_X12_isOne cv_X12_isOne km_X12_111 rv_X12 (by decide) rfl rfl (Nat.le_of_ble_eq_true rfl) dX12_route_2 ?_
  refine go_if_eq (tgt := 25) K dX12_route_5 (by decide) (fun c2 => ?_) (fun c2 => ?_)
  · replace h := ite_t h c2
    refine go_bipush (v := (-2 : Int32)) K dX12_route_25 (by decide) ?_
    exact go_iret K hr (Prod.mk.inj (Option.some.inj h)).1 (congrArg (fun z => (C, z)) (Prod.mk.inj (Option.some.inj h)).2) dX12_route_27
  replace h := ite_f h c2
  refine go_iload_n K dX12_route_8 2 rfl rfl ?_
  refine go_iconst (v := (-1 : Int32)) K dX12_route_9 (by decide) ?_
  refine go_icmp_lt (tgt := 25) K dX12_route_10 (by decide) (fun c3 => ?_) (fun c3 => ?_)
  · replace h := ite_t h c3
    refine go_bipush (v := (-2 : Int32)) K dX12_route_25 (by decide) ?_
    exact go_iret K hr (Prod.mk.inj (Option.some.inj h)).1 (congrArg (fun z => (C, z)) (Prod.mk.inj (Option.some.inj h)).2) dX12_route_27
  replace h := ite_f h c3
  refine go_aload_n K dX12_route_13 0 rfl rfl ?_
  refine gf_X12 K 0 (by decide) kf_X12_7 (v := .ref (gB G + 447)) rfl dX12_route_14 ?_
  refine go_bipush (v := (54 : Int32)) K dX12_route_17 (by decide) ?_
  refine go_iload_n K dX12_route_19 1 rfl rfl ?_
  refine go_iadd K dX12_route_20 ?_
  obtain ⟨g4, h⟩ := gd_e h
  refine go_mald K (Nat.le_of_ble_eq_true rfl) sh_447 g4 rfl dX12_route_21 ?_
  refine go_if_le (tgt := 28) K dX12_route_22 (by decide) (fun c5 => ?_) (fun c5 => ?_)
  rotate_left
  · replace h := ite_f h c5
    refine go_bipush (v := (-2 : Int32)) K dX12_route_25 (by decide) ?_
    exact go_iret K hr (Prod.mk.inj (Option.some.inj h)).1 (congrArg (fun z => (C, z)) (Prod.mk.inj (Option.some.inj h)).2) dX12_route_27
  replace h := ite_t h c5
  refine go_aload_n K dX12_route_28 0 rfl rfl ?_
  obtain ⟨O6, e6, h⟩ := bnd_e h
  refine go_cVV K (c_X12_laysNow l G _ _ _ e6) cf_X12_laysNow cv_X12_laysNow km_X12_399 rv_X12 (by decide) rfl rfl (Nat.le_of_ble_eq_true rfl) dX12_route_29 ?_
  refine go_aload_n K dX12_route_32 0 rfl rfl ?_
  refine go_iload_n K dX12_route_33 1 rfl rfl ?_
  refine go_iconst (v := (0 : Int32)) K dX12_route_34 (by decide) ?_
  obtain ⟨r7, e7, h⟩ := bnd_e h
  refine go_cVI K (c_X12_placesOf l G _ _ _ _ _ e7) cf_X12_placesOf cv_X12_placesOf km_X12_472 rv_X12 (by decide) rfl rfl (Nat.le_of_ble_eq_true rfl) dX12_route_35 ?_
  refine go_istore_n K dX12_route_38 rfl (by decide) (lv' := [(3, .int r7), (0, .ref (gB G + 446)), (1, .int v1), (2, .int v2)]) rfl ?_
  refine go_aload_n K dX12_route_39 1 rfl rfl ?_
  refine go_aload_n K dX12_route_40 1 rfl rfl ?_
  refine go_iload_n K dX12_route_41 2 rfl rfl ?_
  refine go_iconst (v := (1 : Int32)) K dX12_route_42 (by decide) ?_
  obtain ⟨r8, e8, h⟩ := bnd_e h
  refine go_cVI K (c_X12_placesOf l G _ _ _ _ _ e8) cf_X12_placesOf cv_X12_placesOf km_X12_472 rv_X12 (by decide) rfl rfl (Nat.le_of_ble_eq_true rfl) dX12_route_43 ?_
  refine go_iload_n K dX12_route_46 0 rfl rfl ?_
  obtain ⟨O9, e9, h⟩ := bnd_e h
  refine go_cVV K (c_X12_laysYet l G _ _ _ _ _ e9) cf_X12_laysYet cv_X12_laysYet km_X12_476 rv_X12 (by decide) rfl rfl (Nat.le_of_ble_eq_true rfl) dX12_route_47 ?_
  refine go_sipush (v := (256 : Int32)) K dX12_route_50 (by decide) ?_
  refine go_aload_n K dX12_route_53 1 rfl rfl ?_
  refine gf_X12 K 40 (by decide) kf_X12_87 (v := .ref (gB G + 470)) rfl dX12_route_54 ?_
  refine go_bipush (v := (7 : Int32)) K dX12_route_57 (by decide) ?_
  refine go_iload_n K dX12_route_59 2 rfl rfl ?_
  refine go_iadd K dX12_route_60 ?_
  obtain ⟨g10, h⟩ := gd_e h
  refine go_mald K (Nat.le_of_ble_eq_true rfl) sh_470 g10 rfl dX12_route_61 ?_
  refine go_imul K dX12_route_62 ?_
  refine go_iconst (v := (1 : Int32)) K dX12_route_63 (by decide) ?_
  refine go_aload_n K dX12_route_64 1 rfl rfl ?_
  refine gf_X12 K 40 (by decide) kf_X12_87 (v := .ref (gB G + 470)) rfl dX12_route_65 ?_
  refine go_bipush (v := (7 : Int32)) K dX12_route_68 (by decide) ?_
  refine go_iload_n K dX12_route_70 2 rfl rfl ?_
  refine go_iadd K dX12_route_71 ?_
  obtain ⟨g11, h⟩ := gd_e h
  refine go_mald K (Nat.le_of_ble_eq_true rfl) sh_470 g11 rfl dX12_route_72 ?_
  refine go_ishl K dX12_route_73 ?_
  refine go_iadd K dX12_route_74 ?_
  refine go_istore K dX12_route_75 (by decide) (lv' := [(4, .int (((256 : Int32) * (O9.1 470 ((7 : Int32) + v1).toNatClampNeg)) + ((1 : Int32) <<< ((O9.1 470 ((7 : Int32) + v1).toNatClampNeg) &&& 31)))), (3, .int r7), (0, .ref (gB G + 446)), (1, .int v1), (2, .int v2)]) rfl ?_
  refine go_aload_n K dX12_route_77 2 rfl rfl ?_
  refine gf_X12 K 44 (by decide) kf_X12_97 (v := .ref (gB G + 473)) rfl dX12_route_78 ?_
  refine go_iload K dX12_route_81 0 rfl ?_
  obtain ⟨g12, h⟩ := gd_e h
  refine go_mald K (Nat.le_of_ble_eq_true rfl) sh_473 g12 rfl dX12_route_83 ?_
  refine go_bipush (v := (99 : Int32)) K dX12_route_84 (by decide) ?_
  refine go_icmp_eq (tgt := 100) K dX12_route_86 (by decide) (fun c13 => ?_) (fun c13 => ?_)
  · replace h := ite_t h c13
    refine go_bipush (v := (-2 : Int32)) K dX12_route_100 (by decide) ?_
    exact go_iret K hr (Prod.mk.inj (Option.some.inj h)).1 (congrArg (fun z => (C, z)) (Prod.mk.inj (Option.some.inj h)).2) dX12_route_102
  replace h := ite_f h c13
  refine go_iload_n K dX12_route_89 4 rfl rfl ?_
  refine go_aload_n K dX12_route_90 2 rfl rfl ?_
  refine gf_X12 K 44 (by decide) kf_X12_97 (v := .ref (gB G + 473)) rfl dX12_route_91 ?_
  refine go_iload K dX12_route_94 0 rfl ?_
  obtain ⟨g14, h⟩ := gd_e h
  refine go_mald K (Nat.le_of_ble_eq_true rfl) sh_473 g14 rfl dX12_route_96 ?_
  refine go_icmp_lt (tgt := 103) K dX12_route_97 (by decide) (fun c15 => ?_) (fun c15 => ?_)
  rotate_left
  · replace h := ite_f h c15
    refine go_bipush (v := (-2 : Int32)) K dX12_route_100 (by decide) ?_
    exact go_iret K hr (Prod.mk.inj (Option.some.inj h)).1 (congrArg (fun z => (C, z)) (Prod.mk.inj (Option.some.inj h)).2) dX12_route_102
  replace h := ite_t h c15
  refine go_iload_n K dX12_route_103 4 rfl rfl ?_
  refine go_iconst (v := (-1 : Int32)) K dX12_route_104 (by decide) ?_
  refine go_icmp_ne (tgt := 116) K dX12_route_105 (by decide) (fun c16 => ?_) (fun c16 => ?_)
  · replace h := ite_f h c16
    refine go_iconst (v := (1 : Int32)) K dX12_route_116 (by decide) ?_
    refine go_istore K dX12_route_117 (by decide) (lv' := [(5, .int (1 : Int32)), (4, .int (((256 : Int32) * (O9.1 470 ((7 : Int32) + v1).toNatClampNeg)) + ((1 : Int32) <<< ((O9.1 470 ((7 : Int32) + v1).toNatClampNeg) &&& 31)))), (3, .int r7), (0, .ref (gB G + 446)), (1, .int v1), (2, .int v2)]) rfl ?_
    refine go_iconst (v := (0 : Int32)) K dX12_route_119 (by decide) ?_
    refine go_istore K dX12_route_120 (by decide) (lv' := [(6, .int (0 : Int32)), (5, .int (1 : Int32)), (4, .int (((256 : Int32) * (O9.1 470 ((7 : Int32) + v1).toNatClampNeg)) + ((1 : Int32) <<< ((O9.1 470 ((7 : Int32) + v1).toNatClampNeg) &&& 31)))), (3, .int r7), (0, .ref (gB G + 446)), (1, .int v1), (2, .int v2)]) rfl ?_
    exact go_sub [4, 6, 3, 2, 1, 0] rfl (hl122 FU _ _ _ _ _ _ h)
  replace h := ite_t h c16
  refine go_aload_n K dX12_route_108 2 rfl rfl ?_
  refine gf_X12 K 44 (by decide) kf_X12_97 (v := .ref (gB G + 473)) rfl dX12_route_109 ?_
  refine go_iload K dX12_route_112 0 rfl ?_
  obtain ⟨g22, h⟩ := gd_e h
  refine go_mald K (Nat.le_of_ble_eq_true rfl) sh_473 g22 rfl dX12_route_114 ?_
  exact go_iret K hr (Prod.mk.inj (Option.some.inj h)).1 (congrArg (fun z => (C, z)) (Prod.mk.inj (Option.some.inj h)).2) dX12_route_115
