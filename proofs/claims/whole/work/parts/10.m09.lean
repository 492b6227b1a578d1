noncomputable def f_X11_undo (C : CM) : Option (Int32 × CM) := (bnd2 (f_X10_takeBack 5 C) (fun r1 C1 => (if r1 = 0 then (some ((-1 : Int32), C1)) else (some ((C1 5 4), C1)))))
theorem cf_X11_undo : CF yX11_undo cX11_undo 1 (Option.some Jvm.ClassFile.FieldType.int) 0 := ⟨kc_X11_undo, kj_X11, ⟨by decide +kernel, by decide +kernel, by decide +kernel⟩, by decide⟩
theorem cv_X11_undo : CFv yX11_undo := ⟨ki_X11_undo, ks_X11_undo⟩
set_option maxHeartbeats 4000000 in
set_option maxRecDepth 100000 in
theorem c_X11_undo (l : Launch) (G : GT) (C : CM) (O : OM) (res : Int32) (C' : CM) (h : f_X11_undo C = some (res, C')) : MI l G yX11_undo cX11_undo 1 (Option.some Jvm.ClassFile.FieldType.int) (5) [.ref (gB G + 0)] (C, O) res (C', O) := by
  unfold MI
  refine met_in RX11 (by decide +kernel) rfl [(0, .ref (gB G + 0))] rfl (Nat.le_of_ble_eq_true rfl) ?_
  intro pM eM sM mM aM bM meM cM K hr
  rw [f_X11_undo] at h
  refine go_aload_n K dX11_undo_0 0 rfl rfl ?_
  refine gf_X11 K 1 (by decide) kf_X11_19 (v := .ref (gB G + 5)) rfl dX11_undo_1 ?_
  refine go_aload_n K dX11_undo_4 0 rfl rfl ?_
  refine gf_X11 K 0 (by decide) kf_X11_10 (v := .ref (gB G + 1)) rfl dX11_undo_5 ?_
  obtain ⟨r1, C1, e1, h⟩ := bnd2_e h
  refine go_cVI K (c_X10_takeBack l G wh_5 _ _ _ _ e1) cf_X10_takeBack cv_X10_takeBack km_X11_234 (rv_X10 wh_5) (by decide) rfl rfl (Nat.le_of_ble_eq_true rfl) dX11_undo_8 ?_
  refine go_if_eq (tgt := 24) K dX11_undo_11 (by decide) (fun c2 => ?_) (fun c2 => ?_)
  · replace h := ite_t h c2
    refine go_iconst (v := (-1 : Int32)) K dX11_undo_24 (by decide) ?_
    exact go_iret K hr (Prod.mk.inj (Option.some.inj h)).1 (congrArg (fun z => (z, O)) (Prod.mk.inj (Option.some.inj h)).2) dX11_undo_25
  replace h := ite_f h c2
  refine go_aload_n K dX11_undo_14 0 rfl rfl ?_
  refine gf_X11 K 1 (by decide) kf_X11_19 (v := .ref (gB G + 5)) rfl dX11_undo_15 ?_
  refine gf_X10 K wh_5 4 (by decide) kf_X11_238 (v := .int (C1 5 4)) rfl dX11_undo_18 ?_
  refine go_goto (tgt := 25) K dX11_undo_21 (by decide) ?_
  exact go_iret K hr (Prod.mk.inj (Option.some.inj h)).1 (congrArg (fun z => (z, O)) (Prod.mk.inj (Option.some.inj h)).2) dX11_undo_25
noncomputable def f_X11_of (v1 : Int32) (v2 : Int32) (C : CM) : Option (Int32 × CM) := (if (f_X7_has 6 v1 C) = 0 then (some ((-1 : Int32), C)) else (if v2 = (0 : Int32) then (bnd (f_X3_ageOf v1 C) (fun r3 => (some (r3, C)))) else (if v2 = (1 : Int32) then (bnd (f_X3_backOf v1 C) (fun r5 => (some (r5, C)))) else (if v2 = (2 : Int32) then (bnd (f_X7_placeOf 6 v1 C) (fun r7 => (some (r7, C)))) else (if v2 = (3 : Int32) then (bnd (f_X7_leftOf 6 v1 C) (fun r9 => (some (r9, C)))) else (if v2 = (4 : Int32) then (bnd (f_X7_indoorsOf 6 v1 C) (fun r11 => (some (r11, C)))) else (if v2 = (5 : Int32) then (bnd (f_X7_owesTogether 6 v1 C) (fun r13 => (some (r13, C)))) else (if v2 = (6 : Int32) then (bnd (f_X7_owedTogether 6 v1 C) (fun r15 => (some (r15, C)))) else (if v2 = (7 : Int32) then (bnd2 (f_X1_ruinOf 0 v1 C) (fun r17 C17 => (some (r17, C17)))) else (some ((-1 : Int32), C)))))))))))
theorem cf_X11_of : CF yX11_of cX11_of 4 (Option.some Jvm.ClassFile.FieldType.int) 2 := ⟨kc_X11_of, kj_X11, ⟨by decide +kernel, by decide +kernel, by decide +kernel⟩, by decide⟩
theorem cv_X11_of : CFv yX11_of := ⟨ki_X11_of, ks_X11_of⟩
set_option maxHeartbeats 4000000 in
set_option maxRecDepth 100000 in
theorem c_X11_of (l : Launch) (G : GT) (v1 : Int32) (v2 : Int32) (C : CM) (O : OM) (res : Int32) (C' : CM) (h : f_X11_of v1 v2 C = some (res, C')) : MI l G yX11_of cX11_of 4 (Option.some Jvm.ClassFile.FieldType.int) (5) [.ref (gB G + 0), .int v1, .int v2] (C, O) res (C', O) := by
  unfold MI
  refine met_in RX11 (by decide +kernel) rfl [(0, .ref (gB G + 0)), (1, .int v1), (2, .int v2)] rfl (Nat.le_of_ble_eq_true rfl) ?_
  intro pM eM sM mM aM bM meM cM K hr
  rw [f_X11_of] at h
  refine go_aload_n K dX11_of_0 0 rfl rfl ?_
  refine gf_X11 K 1 (by decide) kf_X11_19 (v := .ref (gB G + 5)) rfl dX11_of_1 ?_
  refine gf_X10 K wh_5 0 (by decide) kf_X11_39 (v := .ref (gB G + 6)) rfl dX11_of_4 ?_
  refine go_astore_n K dX11_of_7 rfl (by decide) (lv' := [(3, .ref (gB G + 6)), (0, .ref (gB G + 0)), (1, .int v1), (2, .int v2)]) rfl ?_
  refine go_aload_n K dX11_of_8 0 rfl rfl ?_
  refine go_iload_n K dX11_of_9 2 rfl rfl ?_
  refine go_cVI K (c_X7_has l G st_6 _ _ _ _ rfl) cf_X7_has cv_X7_has km_X11_241 (rv_X7 st_6) (by decide) rfl rfl (Nat.le_of_ble_eq_true rfl) dX11_of_10 ?_
  refine go_if_ne (tgt := 18) K dX11_of_13 (by decide) (fun c1 => ?_) (fun c1 => ?_)
  rotate_left
  · replace h := ite_t h c1
    refine go_iconst (v := (-1 : Int32)) K dX11_of_16 (by decide) ?_
    exact go_iret K hr (Prod.mk.inj (Option.some.inj h)).1 (congrArg (fun z => (z, O)) (Prod.mk.inj (Option.some.inj h)).2) dX11_of_17
  replace h := ite_f h c1
  refine go_iload_n K dX11_of_18 3 rfl rfl ?_
  by_cases c2 : v2 = (0 : Int32)
  · refine go_tableIn K dX11_of_19 (by rw [c2]; decide) (by rw [c2]; decide) (off := 45) (by rw [c2]; decide) (tgt := 64) (by decide) ?_
    replace h := ite_t h c2
    refine go_aload_n K dX11_of_64 1 rfl rfl ?_
    refine gf_X11 K 0 (by decide) kf_X11_10 (v := .ref (gB G + 1)) rfl dX11_of_65 ?_
    refine go_iload_n K dX11_of_68 2 rfl rfl ?_
    obtain ⟨r3, e3, h⟩ := bnd_e h
    refine go_cVI K (c_X3_ageOf l G _ _ _ _ e3) cf_X3_ageOf cv_X3_ageOf km_X11_244 rv_X3 (by decide) rfl rfl (Nat.le_of_ble_eq_true rfl) dX11_of_69 ?_
    exact go_iret K hr (Prod.mk.inj (Option.some.inj h)).1 (congrArg (fun z => (z, O)) (Prod.mk.inj (Option.some.inj h)).2) dX11_of_72
  replace h := ite_f h c2
  by_cases c4 : v2 = (1 : Int32)
  · refine go_tableIn K dX11_of_19 (by rw [c4]; decide) (by rw [c4]; decide) (off := 54) (by rw [c4]; decide) (tgt := 73) (by decide) ?_
    replace h := ite_t h c4
    refine go_aload_n K dX11_of_73 1 rfl rfl ?_
    refine gf_X11 K 0 (by decide) kf_X11_10 (v := .ref (gB G + 1)) rfl dX11_of_74 ?_
    refine go_iload_n K dX11_of_77 2 rfl rfl ?_
    obtain ⟨r5, e5, h⟩ := bnd_e h
    refine go_cVI K (c_X3_backOf l G _ _ _ _ e5) cf_X3_backOf cv_X3_backOf km_X11_247 rv_X3 (by decide) rfl rfl (Nat.le_of_ble_eq_true rfl) dX11_of_78 ?_
    exact go_iret K hr (Prod.mk.inj (Option.some.inj h)).1 (congrArg (fun z => (z, O)) (Prod.mk.inj (Option.some.inj h)).2) dX11_of_81
  replace h := ite_f h c4
  by_cases c6 : v2 = (2 : Int32)
  · refine go_tableIn K dX11_of_19 (by rw [c6]; decide) (by rw [c6]; decide) (off := 63) (by rw [c6]; decide) (tgt := 82) (by decide) ?_
    replace h := ite_t h c6
    refine go_aload_n K dX11_of_82 0 rfl rfl ?_
    refine go_iload_n K dX11_of_83 2 rfl rfl ?_
    obtain ⟨r7, e7, h⟩ := bnd_e h
    refine go_cVI K (c_X7_placeOf l G st_6 _ _ _ _ e7) cf_X7_placeOf cv_X7_placeOf km_X11_142 (rv_X7 st_6) (by decide) rfl rfl (Nat.le_of_ble_eq_true rfl) dX11_of_84 ?_
    exact go_iret K hr (Prod.mk.inj (Option.some.inj h)).1 (congrArg (fun z => (z, O)) (Prod.mk.inj (Option.some.inj h)).2) dX11_of_87
  replace h := ite_f h c6
  by_cases c8 : v2 = (3 : Int32)
  · refine go_tableIn K dX11_of_19 (by rw [c8]; decide) (by rw [c8]; decide) (off := 69) (by rw [c8]; decide) (tgt := 88) (by decide) ?_
    replace h := ite_t h c8
    refine go_aload_n K dX11_of_88 0 rfl rfl ?_
    refine go_iload_n K dX11_of_89 2 rfl rfl ?_
    obtain ⟨r9, e9, h⟩ := bnd_e h
    refine go_cVI K (c_X7_leftOf l G st_6 _ _ _ _ e9) cf_X7_leftOf cv_X7_leftOf km_X11_120 (rv_X7 st_6) (by decide) rfl rfl (Nat.le_of_ble_eq_true rfl) dX11_of_90 ?_
    exact go_iret K hr (Prod.mk.inj (Option.some.inj h)).1 (congrArg (fun z => (z, O)) (Prod.mk.inj (Option.some.inj h)).2) dX11_of_93
  replace h := ite_f h c8
  by_cases c10 : v2 = (4 : Int32)
  · refine go_tableIn K dX11_of_19 (by rw [c10]; decide) (by rw [c10]; decide) (off := 75) (by rw [c10]; decide) (tgt := 94) (by decide) ?_
    replace h := ite_t h c10
    refine go_aload_n K dX11_of_94 0 rfl rfl ?_
    refine go_iload_n K dX11_of_95 2 rfl rfl ?_
    obtain ⟨r11, e11, h⟩ := bnd_e h
    refine go_cVI K (c_X7_indoorsOf l G st_6 _ _ _ _ e11) cf_X7_indoorsOf cv_X7_indoorsOf km_X11_250 (rv_X7 st_6) (by decide) rfl rfl (Nat.le_of_ble_eq_true rfl) dX11_of_96 ?_
    exact go_iret K hr (Prod.mk.inj (Option.some.inj h)).1 (congrArg (fun z => (z, O)) (Prod.mk.inj (Option.some.inj h)).2) dX11_of_99
  replace h := ite_f h c10
  by_cases c12 : v2 = (5 : Int32)
  · refine go_tableIn K dX11_of_19 (by rw [c12]; decide) (by rw [c12]; decide) (off := 81) (by rw [c12]; decide) (tgt := 100) (by decide) ?_
    replace h := ite_t h c12
    refine go_aload_n K dX11_of_100 0 rfl rfl ?_
    refine go_iload_n K dX11_of_101 2 rfl rfl ?_
    obtain ⟨r13, e13, h⟩ := bnd_e h
    refine go_cVI K (c_X7_owesTogether l G st_6 _ _ _ _ e13) cf_X7_owesTogether cv_X7_owesTogether km_X11_253 (rv_X7 st_6) (by decide) rfl rfl (Nat.le_of_ble_eq_true rfl) dX11_of_102 ?_
    exact go_iret K hr (Prod.mk.inj (Option.some.inj h)).1 (congrArg (fun z => (z, O)) (Prod.mk.inj (Option.some.inj h)).2) dX11_of_105
  replace h := ite_f h c12
  by_cases c14 : v2 = (6 : Int32)
  · refine go_tableIn K dX11_of_19 (by rw [c14]; decide) (by rw [c14]; decide) (off := 87) (by rw [c14]; decide) (tgt := 106) (by decide) ?_
    replace h := ite_t h c14
    refine go_aload_n K dX11_of_106 0 rfl rfl ?_
    refine go_iload_n K dX11_of_107 2 rfl rfl ?_
    obtain ⟨r15, e15, h⟩ := bnd_e h
    refine go_cVI K (c_X7_owedTogether l G st_6 _ _ _ _ e15) cf_X7_owedTogether cv_X7_owedTogether km_X11_256 (rv_X7 st_6) (by decide) rfl rfl (Nat.le_of_ble_eq_true rfl) dX11_of_108 ?_
    exact go_iret K hr (Prod.mk.inj (Option.some.inj h)).1 (congrArg (fun z => (z, O)) (Prod.mk.inj (Option.some.inj h)).2) dX11_of_111
  replace h := ite_f h c14
  by_cases c16 : v2 = (7 : Int32)
  · refine go_tableIn K dX11_of_19 (by rw [c16]; decide) (by rw [c16]; decide) (off := 93) (by rw [c16]; decide) (tgt := 112) (by decide) ?_
    replace h := ite_t h c16
    refine go_aload_n K dX11_of_112 1 rfl rfl ?_
    refine gf_X11 K 5 (by decide) kf_X11_46 (v := .ref (gB G + twI 0)) rfl dX11_of_113 ?_
    refine gf_X9 K q_0 1 (by decide) kf_X11_212 (v := .ref (gB G + laI 0)) rfl dX11_of_116 ?_
    refine go_iload_n K dX11_of_119 2 rfl rfl ?_
    obtain ⟨r17, C17, e17, h⟩ := bnd2_e h
    refine go_cVI K (c_X1_ruinOf l G q_0 _ _ _ _ _ e17) cf_X1_ruinOf cv_X1_ruinOf km_X11_259 (rv_X1 q_0) (by decide) rfl rfl (Nat.le_of_ble_eq_true rfl) dX11_of_120 ?_
    exact go_iret K hr (Prod.mk.inj (Option.some.inj h)).1 (congrArg (fun z => (z, O)) (Prod.mk.inj (Option.some.inj h)).2) dX11_of_123
  replace h := ite_f h c16
  have c2 := sw_ne c2 (k := 0) (by decide)
  have c4 := sw_ne c4 (k := 1) (by decide)
  have c6 := sw_ne c6 (k := 2) (by decide)
  have c8 := sw_ne c8 (k := 3) (by decide)
  have c10 := sw_ne c10 (k := 4) (by decide)
  have c12 := sw_ne c12 (k := 5) (by decide)
  have c14 := sw_ne c14 (k := 6) (by decide)
  have c16 := sw_ne c16 (k := 7) (by decide)
  refine go_tableOut (tgt := 124) K dX11_of_19 (show (v2).toInt < 0 ∨ 7 < (v2).toInt from by omega) (by decide) ?_
  refine go_iconst (v := (-1 : Int32)) K dX11_of_124 (by decide) ?_
  exact go_iret K hr (Prod.mk.inj (Option.some.inj h)).1 (congrArg (fun z => (z, O)) (Prod.mk.inj (Option.some.inj h)).2) dX11_of_125
noncomputable def f_X11_two (v1 : Int32) (v2 : Int32) (v3 : Int32) (C : CM) : Option (Int32 × CM) := (if (f_X7_areTwo 6 v1 v2 C) = 0 then (some ((-1 : Int32), C)) else (if v3 = (0 : Int32) then (bnd (f_X7_owed 6 v1 v2 C) (fun r3 => (some (r3, C)))) else (if v3 = (1 : Int32) then (bnd2 (f_X1_sizeOf 0 v1 v2 C) (fun r5 C5 => (some (r5, C5)))) else (if v3 = (2 : Int32) then (bnd (f_X7_owed 6 v1 v2 C) (fun r7 => (if r7 ≤ 0 then (some ((0 : Int32), C)) else (bnd2 (f_X1_lateOf 0 v1 v2 C) (fun r9 C9 => (some (r9, C9))))))) else (if v3 = (3 : Int32) then (bnd (f_X7_meet 6 v1 v2 C) (fun r11 => (if r11 = 0 then (some ((0 : Int32), C)) else (some ((1 : Int32), C))))) else (some ((-1 : Int32), C)))))))
theorem cf_X11_two : CF yX11_two cX11_two 5 (Option.some Jvm.ClassFile.FieldType.int) 3 := ⟨kc_X11_two, kj_X11, ⟨by decide +kernel, by decide +kernel, by decide +kernel⟩, by decide⟩
theorem cv_X11_two : CFv yX11_two := ⟨ki_X11_two, ks_X11_two⟩
set_option maxHeartbeats 4000000 in
set_option maxRecDepth 100000 in
theorem c_X11_two (l : Launch) (G : GT) (v1 : Int32) (v2 : Int32) (v3 : Int32) (C : CM) (O : OM) (res : Int32) (C' : CM) (h : f_X11_two v1 v2 v3 C = some (res, C')) : MI l G yX11_two cX11_two 5 (Option.some Jvm.ClassFile.FieldType.int) (5) [.ref (gB G + 0), .int v1, .int v2, .int v3] (C, O) res (C', O) := by
  unfold MI
  refine met_in RX11 (by decide +kernel) rfl [(0, .ref (gB G + 0)), (1, .int v1), (2, .int v2), (3, .int v3)] rfl (Nat.le_of_ble_eq_true rfl) ?_
  intro pM eM sM mM aM bM meM cM K hr
  rw [f_X11_two] at h
  refine go_aload_n K dX11_two_0 0 rfl rfl ?_
  refine gf_X11 K 1 (by decide) kf_X11_19 (v := .ref (gB G + 5)) rfl dX11_two_1 ?_
  refine gf_X10 K wh_5 0 (by decide) kf_X11_39 (v := .ref (gB G + 6)) rfl dX11_two_4 ?_
  refine go_astore K dX11_two_7 (by decide) (lv' := [(4, .ref (gB G + 6)), (0, .ref (gB G + 0)), (1, .int v1), (2, .int v2), (3, .int v3)]) rfl ?_
  refine go_aload K dX11_two_9 0 rfl ?_
  refine go_iload_n K dX11_two_11 2 rfl rfl ?_
  refine go_iload_n K dX11_two_12 3 rfl rfl ?_
  refine go_cVI K (c_X7_areTwo l G st_6 _ _ _ _ _ rfl) cf_X7_areTwo cv_X7_areTwo km_X11_124 (rv_X7 st_6) (by decide) rfl rfl (Nat.le_of_ble_eq_true rfl) dX11_two_13 ?_
  refine go_if_ne (tgt := 21) K dX11_two_16 (by decide) (fun c1 => ?_) (fun c1 => ?_)
  rotate_left
  · replace h := ite_t h c1
    refine go_iconst (v := (-1 : Int32)) K dX11_two_19 (by decide) ?_
    exact go_iret K hr (Prod.mk.inj (Option.some.inj h)).1 (congrArg (fun z => (z, O)) (Prod.mk.inj (Option.some.inj h)).2) dX11_two_20
  replace h := ite_f h c1
  refine go_iload_n K dX11_two_21 4 rfl rfl ?_
  by_cases c2 : v3 = (0 : Int32)
  · refine go_tableIn K dX11_two_22 (by rw [c2]; decide) (by rw [c2]; decide) (off := 30) (by rw [c2]; decide) (tgt := 52) (by decide) ?_
    replace h := ite_t h c2
    refine go_aload K dX11_two_52 0 rfl ?_
    refine go_iload_n K dX11_two_54 2 rfl rfl ?_
    refine go_iload_n K dX11_two_55 3 rfl rfl ?_
    obtain ⟨r3, e3, h⟩ := bnd_e h
    refine go_cVI K (c_X7_owed l G st_6 _ _ _ _ _ e3) cf_X7_owed cv_X7_owed km_X11_127 (rv_X7 st_6) (by decide) rfl rfl (Nat.le_of_ble_eq_true rfl) dX11_two_56 ?_
    exact go_iret K hr (Prod.mk.inj (Option.some.inj h)).1 (congrArg (fun z => (z, O)) (Prod.mk.inj (Option.some.inj h)).2) dX11_two_59
  replace h := ite_f h c2
  by_cases c4 : v3 = (1 : Int32)
  · refine go_tableIn K dX11_two_22 (by rw [c4]; decide) (by rw [c4]; decide) (off := 38) (by rw [c4]; decide) (tgt := 60) (by decide) ?_
    replace h := ite_t h c4
    refine go_aload_n K dX11_two_60 1 rfl rfl ?_
    refine gf_X11 K 5 (by decide) kf_X11_46 (v := .ref (gB G + twI 0)) rfl dX11_two_61 ?_
    refine gf_X9 K q_0 1 (by decide) kf_X11_212 (v := .ref (gB G + laI 0)) rfl dX11_two_64 ?_
    refine go_iload_n K dX11_two_67 2 rfl rfl ?_
    refine go_iload_n K dX11_two_68 3 rfl rfl ?_
    obtain ⟨r5, C5, e5, h⟩ := bnd2_e h
    refine go_cVI K (c_X1_sizeOf l G q_0 _ _ _ _ _ _ e5) cf_X1_sizeOf cv_X1_sizeOf km_X11_262 (rv_X1 q_0) (by decide) rfl rfl (Nat.le_of_ble_eq_true rfl) dX11_two_69 ?_
    exact go_iret K hr (Prod.mk.inj (Option.some.inj h)).1 (congrArg (fun z => (z, O)) (Prod.mk.inj (Option.some.inj h)).2) dX11_two_72
  replace h := ite_f h c4
  by_cases c6 : v3 = (2 : Int32)
  · refine go_tableIn K dX11_two_22 (by rw [c6]; decide) (by rw [c6]; decide) (off := 51) (by rw [c6]; decide) (tgt := 73) (by decide) ?_
    replace h := ite_t h c6
    refine go_aload K dX11_two_73 0 rfl ?_
    refine go_iload_n K dX11_two_75 2 rfl rfl ?_
    refine go_iload_n K dX11_two_76 3 rfl rfl ?_
    obtain ⟨r7, e7, h⟩ := bnd_e h
    refine go_cVI K (c_X7_owed l G st_6 _ _ _ _ _ e7) cf_X7_owed cv_X7_owed km_X11_127 (rv_X7 st_6) (by decide) rfl rfl (Nat.le_of_ble_eq_true rfl) dX11_two_77 ?_
    refine go_if_le (tgt := 98) K dX11_two_80 (by decide) (fun c8 => ?_) (fun c8 => ?_)
    · replace h := ite_t h c8
      refine go_iconst (v := (0 : Int32)) K dX11_two_98 (by decide) ?_
      exact go_iret K hr (Prod.mk.inj (Option.some.inj h)).1 (congrArg (fun z => (z, O)) (Prod.mk.inj (Option.some.inj h)).2) dX11_two_99
    replace h := ite_f h c8
    refine go_aload_n K dX11_two_83 1 rfl rfl ?_
    refine gf_X11 K 5 (by decide) kf_X11_46 (v := .ref (gB G + twI 0)) rfl dX11_two_84 ?_
    refine gf_X9 K q_0 1 (by decide) kf_X11_212 (v := .ref (gB G + laI 0)) rfl dX11_two_87 ?_
    refine go_iload_n K dX11_two_90 2 rfl rfl ?_
    refine go_iload_n K dX11_two_91 3 rfl rfl ?_
    obtain ⟨r9, C9, e9, h⟩ := bnd2_e h
    refine go_cVI K (c_X1_lateOf l G q_0 _ _ _ _ _ _ e9) cf_X1_lateOf cv_X1_lateOf km_X11_265 (rv_X1 q_0) (by decide) rfl rfl (Nat.le_of_ble_eq_true rfl) dX11_two_92 ?_
    refine go_goto (tgt := 99) K dX11_two_95 (by decide) ?_
    exact go_iret K hr (Prod.mk.inj (Option.some.inj h)).1 (congrArg (fun z => (z, O)) (Prod.mk.inj (Option.some.inj h)).2) dX11_two_99
  replace h := ite_f h c6
  by_cases c10 : v3 = (3 : Int32)
  · refine go_tableIn K dX11_two_22 (by rw [c10]; decide) (by rw [c10]; decide) (off := 78) (by rw [c10]; decide) (tgt := 100) (by decide) ?_
    replace h := ite_t h c10
    refine go_aload K dX11_two_100 0 rfl ?_
    refine go_iload_n K dX11_two_102 2 rfl rfl ?_
    refine go_iload_n K dX11_two_103 3 rfl rfl ?_
    obtain ⟨r11, e11, h⟩ := bnd_e h
    refine go_cVI K (c_X7_meet l G st_6 _ _ _ _ _ e11) cf_X7_meet cv_X7_meet km_X11_268 (rv_X7 st_6) (by decide) rfl rfl (Nat.le_of_ble_eq_true rfl) dX11_two_104 ?_
    refine go_if_eq (tgt := 114) K dX11_two_107 (by decide) (fun c12 => ?_) (fun c12 => ?_)
    · replace h := ite_t h c12
      refine go_iconst (v := (0 : Int32)) K dX11_two_114 (by decide) ?_
      exact go_iret K hr (Prod.mk.inj (Option.some.inj h)).1 (congrArg (fun z => (z, O)) (Prod.mk.inj (Option.some.inj h)).2) dX11_two_115
    replace h := ite_f h c12
    refine go_iconst (v := (1 : Int32)) K dX11_two_110 (by decide) ?_
    refine go_goto (tgt := 115) K dX11_two_111 (by decide) ?_
    exact go_iret K hr (Prod.mk.inj (Option.some.inj h)).1 (congrArg (fun z => (z, O)) (Prod.mk.inj (Option.some.inj h)).2) dX11_two_115
  replace h := ite_f h c10
  have c2 := sw_ne c2 (k := 0) (by decide)
  have c4 := sw_ne c4 (k := 1) (by decide)
  have c6 := sw_ne c6 (k := 2) (by decide)
  have c10 := sw_ne c10 (k := 3) (by decide)
  refine go_tableOut (tgt := 116) K dX11_two_22 (show (v3).toInt < 0 ∨ 3 < (v3).toInt from by omega) (by decide) ?_
  refine go_iconst (v := (-1 : Int32)) K dX11_two_116 (by decide) ?_
  exact go_iret K hr (Prod.mk.inj (Option.some.inj h)).1 (congrArg (fun z => (z, O)) (Prod.mk.inj (Option.some.inj h)).2) dX11_two_117
noncomputable def f_X11_more (v1 : Int32) (v2 : Int32) (v3 : Int32) (C : CM) : Option (Int32 × CM) := (if (f_X7_areTwo 6 v1 v2 C) = 0 then (some ((-1 : Int32), C)) else (if (f_X11_within v3 (0 : Int32) (9999 : Int32)) = 0 then (some ((-1 : Int32), C)) else (bnd2 (f_X1_moreOf 0 v1 v2 v3 C) (fun r3 C3 => (some (r3, C3))))))
theorem cf_X11_more : CF yX11_more cX11_more 4 (Option.some Jvm.ClassFile.FieldType.int) 3 := ⟨kc_X11_more, kj_X11, ⟨by decide +kernel, by decide +kernel, by decide +kernel⟩, by decide⟩
theorem cv_X11_more : CFv yX11_more := ⟨ki_X11_more, ks_X11_more⟩
set_option maxHeartbeats 4000000 in
set_option maxRecDepth 100000 in
theorem c_X11_more (l : Launch) (G : GT) (v1 : Int32) (v2 : Int32) (v3 : Int32) (C : CM) (O : OM) (res : Int32) (C' : CM) (h : f_X11_more v1 v2 v3 C = some (res, C')) : MI l G yX11_more cX11_more 4 (Option.some Jvm.ClassFile.FieldType.int) (5) [.ref (gB G + 0), .int v1, .int v2, .int v3] (C, O) res (C', O) := by
  unfold MI
  refine met_in RX11 (by decide +kernel) rfl [(0, .ref (gB G + 0)), (1, .int v1), (2, .int v2), (3, .int v3)] rfl (Nat.le_of_ble_eq_true rfl) ?_
  intro pM eM sM mM aM bM meM cM K hr
  rw [f_X11_more] at h
  refine go_aload_n K dX11_more_0 0 rfl rfl ?_
  refine gf_X11 K 1 (by decide) kf_X11_19 (v := .ref (gB G + 5)) rfl dX11_more_1 ?_
  refine gf_X10 K wh_5 0 (by decide) kf_X11_39 (v := .ref (gB G + 6)) rfl dX11_more_4 ?_
  refine go_iload_n K dX11_more_7 1 rfl rfl ?_
  refine go_iload_n K dX11_more_8 2 rfl rfl ?_
  refine go_cVI K (c_X7_areTwo l G st_6 _ _ _ _ _ rfl) cf_X7_areTwo cv_X7_areTwo km_X11_124 (rv_X7 st_6) (by decide) rfl rfl (Nat.le_of_ble_eq_true rfl) dX11_more_9 ?_
  refine go_if_eq (tgt := 26) K dX11_more_12 (by decide) (fun c1 => ?_) (fun c1 => ?_)
  · replace h := ite_t h c1
    refine go_iconst (v := (-1 : Int32)) K dX11_more_26 (by decide) ?_
    exact go_iret K hr (Prod.mk.inj (Option.some.inj h)).1 (congrArg (fun z => (z, O)) (Prod.mk.inj (Option.some.inj h)).2) dX11_more_27
  replace h := ite_f h c1
  refine go_iload_n K dX11_more_15 3 rfl rfl ?_
  refine go_iconst (v := (0 : Int32)) K dX11_more_16 (by decide) ?_
  refine go_sipush (v := (9999 : Int32)) K dX11_more_17 (by decide) ?_
  refine go_cSI K (c_X11_within l G _ _ _ _ _ _ rfl) cf_X11_within kt_X11_within km_X11_93 (by decide) rfl rfl (Nat.le_of_ble_eq_true rfl) dX11_more_20 ?_
  refine go_if_ne (tgt := 28) K dX11_more_23 (by decide) (fun c2 => ?_) (fun c2 => ?_)
  rotate_left
  · replace h := ite_t h c2
    refine go_iconst (v := (-1 : Int32)) K dX11_more_26 (by decide) ?_
    exact go_iret K hr (Prod.mk.inj (Option.some.inj h)).1 (congrArg (fun z => (z, O)) (Prod.mk.inj (Option.some.inj h)).2) dX11_more_27
  replace h := ite_f h c2
  refine go_aload_n K dX11_more_28 0 rfl rfl ?_
  refine gf_X11 K 5 (by decide) kf_X11_46 (v := .ref (gB G + twI 0)) rfl dX11_more_29 ?_
  refine gf_X9 K q_0 1 (by decide) kf_X11_212 (v := .ref (gB G + laI 0)) rfl dX11_more_32 ?_
  refine go_iload_n K dX11_more_35 1 rfl rfl ?_
  refine go_iload_n K dX11_more_36 2 rfl rfl ?_
  refine go_iload_n K dX11_more_37 3 rfl rfl ?_
  obtain ⟨r3, C3, e3, h⟩ := bnd2_e h
  refine go_cVI K (c_X1_moreOf l G q_0 _ _ _ _ _ _ _ e3) cf_X1_moreOf cv_X1_moreOf km_X11_271 (rv_X1 q_0) (by decide) rfl rfl (Nat.le_of_ble_eq_true rfl) dX11_more_38 ?_
  exact go_iret K hr (Prod.mk.inj (Option.some.inj h)).1 (congrArg (fun z => (z, O)) (Prod.mk.inj (Option.some.inj h)).2) dX11_more_41
noncomputable def f_X11_book (v1 : Int32) (v2 : Int32) (C : CM) : Option Int32 := (if v1 = (-1 : Int32) then (some (C 6 4)) else (if (f_X11_within v1 (0 : Int32) ((C 6 4) - (1 : Int32))) = 0 then (some (-2 : Int32)) else (if (f_X11_within v2 (0 : Int32) (2 : Int32)) = 0 then (some (-2 : Int32)) else (bnd (f_X7_booked 6 v1 v2 C) (fun r4 => (some r4))))))
theorem cf_X11_book : CF yX11_book cX11_book 3 (Option.some Jvm.ClassFile.FieldType.int) 2 := ⟨kc_X11_book, kj_X11, ⟨by decide +kernel, by decide +kernel, by decide +kernel⟩, by decide⟩
theorem cv_X11_book : CFv yX11_book := ⟨ki_X11_book, ks_X11_book⟩
set_option maxHeartbeats 4000000 in
set_option maxRecDepth 100000 in
theorem c_X11_book (l : Launch) (G : GT) (v1 : Int32) (v2 : Int32) (C : CM) (O : OM) (res : Int32) (h : f_X11_book v1 v2 C = some res) : MI l G yX11_book cX11_book 3 (Option.some Jvm.ClassFile.FieldType.int) (3) [.ref (gB G + 0), .int v1, .int v2] (C, O) res (C, O) := by
  unfold MI
  refine met_in RX11 (by decide +kernel) rfl [(0, .ref (gB G + 0)), (1, .int v1), (2, .int v2)] rfl (Nat.le_of_ble_eq_true rfl) ?_
  intro pM eM sM mM aM bM meM cM K hr
  rw [f_X11_book] at h
  refine go_iload_n K dX11_book_0 1 rfl rfl ?_
  refine go_iconst (v := (-1 : Int32)) K dX11_book_1 (by decide) ?_
  refine go_icmp_ne (tgt := 16) K dX11_book_2 (by decide) (fun c1 => ?_) (fun c1 => ?_)
  rotate_left
  · replace h := ite_t h c1
    refine go_aload_n K dX11_book_5 0 rfl rfl ?_
    refine gf_X11 K 1 (by decide) kf_X11_19 (v := .ref (gB G + 5)) rfl dX11_book_6 ?_
    refine gf_X10 K wh_5 0 (by decide) kf_X11_39 (v := .ref (gB G + 6)) rfl dX11_book_9 ?_
    refine gf_X7 K st_6 4 (by decide) kf_X11_274 (v := .int (C 6 4)) rfl dX11_book_12 ?_
    exact go_iret K hr (Option.some.inj h) rfl dX11_book_15
  replace h := ite_f h c1
  refine go_iload_n K dX11_book_16 1 rfl rfl ?_
  refine go_iconst (v := (0 : Int32)) K dX11_book_17 (by decide) ?_
  refine go_aload_n K dX11_book_18 0 rfl rfl ?_
  refine gf_X11 K 1 (by decide) kf_X11_19 (v := .ref (gB G + 5)) rfl dX11_book_19 ?_
  refine gf_X10 K wh_5 0 (by decide) kf_X11_39 (v := .ref (gB G + 6)) rfl dX11_book_22 ?_
  refine gf_X7 K st_6 4 (by decide) kf_X11_274 (v := .int (C 6 4)) rfl dX11_book_25 ?_
  refine go_iconst (v := (1 : Int32)) K dX11_book_28 (by decide) ?_
  refine go_isub K dX11_book_29 ?_
  refine go_cSI K (c_X11_within l G _ _ _ _ _ _ rfl) cf_X11_within kt_X11_within km_X11_93 (by decide) rfl rfl (Nat.le_of_ble_eq_true rfl) dX11_book_30 ?_
  refine go_if_eq (tgt := 45) K dX11_book_33 (by decide) (fun c2 => ?_) (fun c2 => ?_)
  · replace h := ite_t h c2
    refine go_bipush (v := (-2 : Int32)) K dX11_book_45 (by decide) ?_
    exact go_iret K hr (Option.some.inj h) rfl dX11_book_47
  replace h := ite_f h c2
  refine go_iload_n K dX11_book_36 2 rfl rfl ?_
  refine go_iconst (v := (0 : Int32)) K dX11_book_37 (by decide) ?_
  refine go_iconst (v := (2 : Int32)) K dX11_book_38 (by decide) ?_
  refine go_cSI K (c_X11_within l G _ _ _ _ _ _ rfl) cf_X11_within kt_X11_within km_X11_93 (by decide) rfl rfl (Nat.le_of_ble_eq_true rfl) dX11_book_39 ?_
  refine go_if_ne (tgt := 48) K dX11_book_42 (by decide) (fun c3 => ?_) (fun c3 => ?_)
  rotate_left
  · replace h := ite_t h c3
    refine go_bipush (v := (-2 : Int32)) K dX11_book_45 (by decide) ?_
    exact go_iret K hr (Option.some.inj h) rfl dX11_book_47
  replace h := ite_f h c3
  refine go_aload_n K dX11_book_48 0 rfl rfl ?_
  refine gf_X11 K 1 (by decide) kf_X11_19 (v := .ref (gB G + 5)) rfl dX11_book_49 ?_
  refine gf_X10 K wh_5 0 (by decide) kf_X11_39 (v := .ref (gB G + 6)) rfl dX11_book_52 ?_
  refine go_iload_n K dX11_book_55 1 rfl rfl ?_
  refine go_iload_n K dX11_book_56 2 rfl rfl ?_
  obtain ⟨r4, e4, h⟩ := bnd_e h
  refine go_cVI K (c_X7_booked l G st_6 _ _ _ _ _ e4) cf_X7_booked cv_X7_booked km_X11_277 (rv_X7 st_6) (by decide) rfl rfl (Nat.le_of_ble_eq_true rfl) dX11_book_57 ?_
  exact go_iret K hr (Option.some.inj h) rfl dX11_book_60
noncomputable def X11_foresee_l55 : Nat → Int32 → Int32 → Int32 → CM → Option (Int32 × CM)
  | 0, _, _, _, _ => none
  | n + 1, v4, v5, v6, C => (if v4 ≤ v6 then (some (v5, C)) else (bnd2 (f_X9_passHour 1 C) (fun r5 C5 => (X11_foresee_l55 n v4 (v5 + r5) (v6 + (1 : Int32)) C5))))
noncomputable def f_X11_foresee (v1 : Int32) (v2 : Int32) (C : CM) : Option (Int32 × CM) := (bnd (f_X7_copyFrom (stI 1) 6 C) (fun C1 => (bnd (f_X11_script v2) (fun r2 => (bnd (f_X1_rule 1 r2 (up2 C1 (stI 1) 4 (0 : Int32))) (fun C3 => (X11_foresee_l55 FU (f_J9_min_7cf53 v1 (f_X7_hoursToCome (stI 1) C3)) (0 : Int32) (0 : Int32) C3)))))))
theorem cf_X11_foresee : CF yX11_foresee cX11_foresee 7 (Option.some Jvm.ClassFile.FieldType.int) 2 := ⟨kc_X11_foresee, kj_X11, ⟨by decide +kernel, by decide +kernel, by decide +kernel⟩, by decide⟩
theorem cv_X11_foresee : CFv yX11_foresee := ⟨ki_X11_foresee, ks_X11_foresee⟩
set_option maxHeartbeats 4000000 in
set_option maxRecDepth 100000 in
theorem c_X11_foresee (l : Launch) (G : GT) (v1 : Int32) (v2 : Int32) (C : CM) (O : OM) (res : Int32) (C' : CM) (h : f_X11_foresee v1 v2 C = some (res, C')) : MI l G yX11_foresee cX11_foresee 7 (Option.some Jvm.ClassFile.FieldType.int) (6) [.ref (gB G + 0), .int v1, .int v2] (C, O) res (C', O) := by
  unfold MI
  refine met_in RX11 (by decide +kernel) rfl [(0, .ref (gB G + 0)), (1, .int v1), (2, .int v2)] rfl (Nat.le_of_ble_eq_true rfl) ?_
  intro pM eM sM mM aM bM meM cM K hr
  have hl55 : ∀ (n55 : Nat) (v4 : Int32) (v5 : Int32) (v6 : Int32) (C : CM), X11_foresee_l55 n55 v4 v5 v6 C = some (res, C') → GO pM l eM (6) sM mM aM bM meM cM (MQ bM (va_Qi (fun (r' : Int32) (u : CM × OM) => r' = res ∧ u = (C', O)) (wB G) (Fr G)) aM sM 0 0 (Fr G)) G 7 (C, O) 55 [(0, .ref (gB G + 0)), (4, .int v4), (5, .int v5), (6, .int v6)] [] := by
    intro n55
    induction n55 with
    | zero =>
      intro v4 v5 v6 C h
      rw [X11_foresee_l55] at h
      cases h
    | succ n55 ih55 =>
      intro v4 v5 v6 C h
      rw [X11_foresee_l55] at h
      refine go_iload K dX11_foresee_55 3 rfl ?_
      refine go_iload K dX11_foresee_57 1 rfl ?_
      refine go_icmp_ge (tgt := 80) K dX11_foresee_59 (by decide) (fun c4 => ?_) (fun c4 => ?_)
      · replace h := ite_t h c4
        refine go_iload K dX11_foresee_80 2 rfl ?_
        exact go_iret K hr (Prod.mk.inj (Option.some.inj h)).1 (congrArg (fun z => (z, O)) (Prod.mk.inj (Option.some.inj h)).2) dX11_foresee_82
      replace h := ite_f h c4
      refine go_iload K dX11_foresee_62 2 rfl ?_
      refine go_aload_n K dX11_foresee_64 0 rfl rfl ?_
      refine gf_X11 K 6 (by decide) kf_X11_53 (v := .ref (gB G + twI 1)) rfl dX11_foresee_65 ?_
      obtain ⟨r5, C5, e5, h⟩ := bnd2_e h
      refine go_cVI K (c_X9_passHour l G q_1 _ _ _ _ e5) cf_X9_passHour cv_X9_passHour km_X11_164 (rv_X9 q_1) (by decide) rfl rfl (Nat.le_of_ble_eq_true rfl) dX11_foresee_68 ?_
      refine go_iadd K dX11_foresee_71 ?_
      refine go_istore K dX11_foresee_72 (by decide) (lv' := [(5, .int (v5 + r5)), (0, .ref (gB G + 0)), (4, .int v4), (6, .int v6)]) rfl ?_
      refine go_iinc K dX11_foresee_74 3 rfl (v := (v6 + (1 : Int32))) rfl (by decide) (lv' := [(6, .int (v6 + (1 : Int32))), (5, .int (v5 + r5)), (0, .ref (gB G + 0)), (4, .int v4)]) rfl ?_
      refine go_goto (tgt := 55) K dX11_foresee_77 (by decide) ?_
      exact go_sub [2, 3, 1, 0] rfl (ih55 _ _ _ _ h)
  rw [f_X11_foresee] at h
  refine go_aload_n K dX11_foresee_0 0 rfl rfl ?_
  refine gf_X11 K 6 (by decide) kf_X11_53 (v := .ref (gB G + twI 1)) rfl dX11_foresee_1 ?_
  refine gf_X9 K q_1 0 (by decide) kf_X11_283 (v := .ref (gB G + (stI 1))) rfl dX11_foresee_4 ?_
  refine go_astore_n K dX11_foresee_7 rfl (by decide) (lv' := [(3, .ref (gB G + (stI 1))), (0, .ref (gB G + 0)), (1, .int v1), (2, .int v2)]) rfl ?_
  refine go_aload_n K dX11_foresee_8 0 rfl rfl ?_
  refine go_aload_n K dX11_foresee_9 1 rfl rfl ?_
  refine gf_X11 K 1 (by decide) kf_X11_19 (v := .ref (gB G + 5)) rfl dX11_foresee_10 ?_
  refine gf_X10 K wh_5 0 (by decide) kf_X11_39 (v := .ref (gB G + 6)) rfl dX11_foresee_13 ?_
  obtain ⟨C1, e1, h⟩ := bnd_e h
  refine go_cVV K (c_X7_copyFrom l G (st_q q_1) st_6 _ _ _ e1) cf_X7_copyFrom cv_X7_copyFrom km_X11_337 (rv_X7 (st_q q_1)) (by decide) rfl rfl (Nat.le_of_ble_eq_true rfl) dX11_foresee_16 ?_
  refine go_aload_n K dX11_foresee_19 0 rfl rfl ?_
  refine go_iconst (v := (0 : Int32)) K dX11_foresee_20 (by decide) ?_
  refine pf_X7 K (st_q q_1) 4 (by decide) kf_X11_274 rfl rfl rfl dX11_foresee_21 ?_
  refine go_aload_n K dX11_foresee_24 1 rfl rfl ?_
  refine gf_X11 K 6 (by decide) kf_X11_53 (v := .ref (gB G + twI 1)) rfl dX11_foresee_25 ?_
  refine gf_X9 K q_1 1 (by decide) kf_X11_212 (v := .ref (gB G + laI 1)) rfl dX11_foresee_28 ?_
  refine go_aload_n K dX11_foresee_31 1 rfl rfl ?_
  refine go_iload_n K dX11_foresee_32 3 rfl rfl ?_
  obtain ⟨r2, e2, h⟩ := bnd_e h
  refine go_cVR K (c_X11_script l G _ _ _ _ e2) cf_X11_script cv_X11_script km_X11_189 rv_X11 (by decide) rfl rfl (Nat.le_of_ble_eq_true rfl) dX11_foresee_33 ?_
  obtain ⟨C3, e3, h⟩ := bnd_e h
  refine go_cVV K (c_X1_rule l G q_1 (ty_X11_script e2) _ _ _ e3) cf_X1_rule cv_X1_rule km_X11_216 (rv_X1 q_1) (by decide) rfl rfl (Nat.le_of_ble_eq_true rfl) dX11_foresee_36 ?_
  refine go_iload_n K dX11_foresee_39 2 rfl rfl ?_
  refine go_aload_n K dX11_foresee_40 0 rfl rfl ?_
  refine go_cVI K (c_X7_hoursToCome l G (st_q q_1) _ _ _ rfl) cf_X7_hoursToCome cv_X7_hoursToCome km_X11_156 (rv_X7 (st_q q_1)) (by decide) rfl rfl (Nat.le_of_ble_eq_true rfl) dX11_foresee_41 ?_
  refine go_cSI K (c_J9_min_7cf53 l G _ _ _ _ rfl) cf_J9_min_7cf53 kt_J9_min_7cf53 km_X11_159 (by decide) rfl rfl (Nat.le_of_ble_eq_true rfl) dX11_foresee_44 ?_
  refine go_istore K dX11_foresee_47 (by decide) (lv' := [(4, .int (f_J9_min_7cf53 v1 (f_X7_hoursToCome (stI 1) C3))), (3, .ref (gB G + (stI 1))), (0, .ref (gB G + 0)), (1, .int v1), (2, .int v2)]) rfl ?_
  refine go_iconst (v := (0 : Int32)) K dX11_foresee_49 (by decide) ?_
  refine go_istore K dX11_foresee_50 (by decide) (lv' := [(5, .int (0 : Int32)), (4, .int (f_J9_min_7cf53 v1 (f_X7_hoursToCome (stI 1) C3))), (3, .ref (gB G + (stI 1))), (0, .ref (gB G + 0)), (1, .int v1), (2, .int v2)]) rfl ?_
  refine go_iconst (v := (0 : Int32)) K dX11_foresee_52 (by decide) ?_
  refine go_istore K dX11_foresee_53 (by decide) (lv' := [(6, .int (0 : Int32)), (5, .int (0 : Int32)), (4, .int (f_J9_min_7cf53 v1 (f_X7_hoursToCome (stI 1) C3))), (3, .ref (gB G + (stI 1))), (0, .ref (gB G + 0)), (1, .int v1), (2, .int v2)]) rfl ?_
  exact go_sub [4, 2, 1, 0] rfl (hl55 FU _ _ _ _ h)
noncomputable def X11_foretold_j30 (v1 : Int32) (v2 : Int32) (v3 : Int32) (t0 : Int32) (C : CM) : Option (Int32 × CM) := (if t0 = 0 then (some ((-2 : Int32), C)) else (if (f_X11_within v1 (1 : Int32) (60 : Int32)) = 0 then (some ((-2 : Int32), C)) else (bnd2 (f_X11_foresee v1 (C 5 3) C) (fun r4 C4 => (if v3 = (-1 : Int32) then (bnd (f_X7_owesTogether (stI 1) v2 C4) (fun r7 => (some (r7, C4)))) else (bnd (f_X7_owed (stI 1) v2 v3 C4) (fun r6 => (some (r6, C4)))))))))
noncomputable def f_X11_foretold (v1 : Int32) (v2 : Int32) (v3 : Int32) (C : CM) : Option (Int32 × CM) := (if v3 = (-1 : Int32) then (X11_foretold_j30 v1 v2 v3 (f_X7_has 6 v2 C) C) else (X11_foretold_j30 v1 v2 v3 (f_X7_areTwo 6 v2 v3 C) C))
theorem cf_X11_foretold : CF yX11_foretold cX11_foretold 7 (Option.some Jvm.ClassFile.FieldType.int) 3 := ⟨kc_X11_foretold, kj_X11, ⟨by decide +kernel, by decide +kernel, by decide +kernel⟩, by decide⟩
theorem cv_X11_foretold : CFv yX11_foretold := ⟨ki_X11_foretold, ks_X11_foretold⟩
set_option maxHeartbeats 4000000 in
set_option maxRecDepth 100000 in
theorem c_X11_foretold (l : Launch) (G : GT) (v1 : Int32) (v2 : Int32) (v3 : Int32) (C : CM) (O : OM) (res : Int32) (C' : CM) (h : f_X11_foretold v1 v2 v3 C = some (res, C')) : MI l G yX11_foretold cX11_foretold 7 (Option.some Jvm.ClassFile.FieldType.int) (7) [.ref (gB G + 0), .int v1, .int v2, .int v3] (C, O) res (C', O) := by
  unfold MI
  refine met_in RX11 (by decide +kernel) rfl [(0, .ref (gB G + 0)), (1, .int v1), (2, .int v2), (3, .int v3)] rfl (Nat.le_of_ble_eq_true rfl) ?_
  intro pM eM sM mM aM bM meM cM K hr
  have hj30 : ∀ (v1 : Int32) (v2 : Int32) (v3 : Int32) (t0 : Int32) (C : CM), X11_foretold_j30 v1 v2 v3 t0 C = some (res, C') → GO pM l eM (7) sM mM aM bM meM cM (MQ bM (va_Qi (fun (r' : Int32) (u : CM × OM) => r' = res ∧ u = (C', O)) (wB G) (Fr G)) aM sM 0 0 (Fr G)) G 7 (C, O) 30 [(0, .ref (gB G + 0)), (1, .int v1), (2, .int v2), (3, .int v3)] [.int t0] := by
    intro v1 v2 v3 t0 C h
    rw [X11_foretold_j30] at h
    refine go_istore K dX11_foretold_30 (by decide) (lv' := [(5, .int t0), (0, .ref (gB G + 0)), (1, .int v1), (2, .int v2), (3, .int v3)]) rfl ?_
    refine go_iload K dX11_foretold_32 0 rfl ?_
    refine go_if_eq (tgt := 47) K dX11_foretold_34 (by decide) (fun c2 => ?_) (fun c2 => ?_)
    · replace h := ite_t h c2
      refine go_bipush (v := (-2 : Int32)) K dX11_foretold_47 (by decide) ?_
      exact go_iret K hr (Prod.mk.inj (Option.some.inj h)).1 (congrArg (fun z => (z, O)) (Prod.mk.inj (Option.some.inj h)).2) dX11_foretold_49
    replace h := ite_f h c2
    refine go_iload_n K dX11_foretold_37 2 rfl rfl ?_
    refine go_iconst (v := (1 : Int32)) K dX11_foretold_38 (by decide) ?_
    refine go_bipush (v := (60 : Int32)) K dX11_foretold_39 (by decide) ?_
    refine go_cSI K (c_X11_within l G _ _ _ _ _ _ rfl) cf_X11_within kt_X11_within km_X11_93 (by decide) rfl rfl (Nat.le_of_ble_eq_true rfl) dX11_foretold_41 ?_
    refine go_if_ne (tgt := 50) K dX11_foretold_44 (by decide) (fun c3 => ?_) (fun c3 => ?_)
    rotate_left
    · replace h := ite_t h c3
      refine go_bipush (v := (-2 : Int32)) K dX11_foretold_47 (by decide) ?_
      exact go_iret K hr (Prod.mk.inj (Option.some.inj h)).1 (congrArg (fun z => (z, O)) (Prod.mk.inj (Option.some.inj h)).2) dX11_foretold_49
    replace h := ite_f h c3
    refine go_aload_n K dX11_foretold_50 1 rfl rfl ?_
    refine go_iload_n K dX11_foretold_51 2 rfl rfl ?_
    refine go_aload_n K dX11_foretold_52 1 rfl rfl ?_
    refine gf_X11 K 1 (by decide) kf_X11_19 (v := .ref (gB G + 5)) rfl dX11_foretold_53 ?_
    refine gf_X10 K wh_5 3 (by decide) kf_X11_209 (v := .int (C 5 3)) rfl dX11_foretold_56 ?_
    obtain ⟨r4, C4, e4, h⟩ := bnd2_e h
    refine go_cVI K (c_X11_foresee l G _ _ _ _ _ _ e4) cf_X11_foresee cv_X11_foresee km_X11_280 rv_X11 (by decide) rfl rfl (Nat.le_of_ble_eq_true rfl) dX11_foretold_59 ?_
    refine go_pop K dX11_foretold_62 rfl ?_
    refine go_aload_n K dX11_foretold_63 1 rfl rfl ?_
    refine gf_X11 K 6 (by decide) kf_X11_53 (v := .ref (gB G + twI 1)) rfl dX11_foretold_64 ?_
    refine gf_X9 K q_1 0 (by decide) kf_X11_283 (v := .ref (gB G + (stI 1))) rfl dX11_foretold_67 ?_
    refine go_astore K dX11_foretold_70 (by decide) (lv' := [(6, .ref (gB G + (stI 1))), (5, .int t0), (0, .ref (gB G + 0)), (1, .int v1), (2, .int v2), (3, .int v3)]) rfl ?_
    refine go_iload_n K dX11_foretold_72 5 rfl rfl ?_
    refine go_iconst (v := (-1 : Int32)) K dX11_foretold_73 (by decide) ?_
    refine go_icmp_ne (tgt := 86) K dX11_foretold_74 (by decide) (fun c5 => ?_) (fun c5 => ?_)
    · replace h := ite_f h c5
      refine go_aload K dX11_foretold_86 0 rfl ?_
      refine go_iload_n K dX11_foretold_88 4 rfl rfl ?_
      refine go_iload_n K dX11_foretold_89 5 rfl rfl ?_
      obtain ⟨r6, e6, h⟩ := bnd_e h
      refine go_cVI K (c_X7_owed l G (st_q q_1) _ _ _ _ _ e6) cf_X7_owed cv_X7_owed km_X11_127 (rv_X7 (st_q q_1)) (by decide) rfl rfl (Nat.le_of_ble_eq_true rfl) dX11_foretold_90 ?_
      exact go_iret K hr (Prod.mk.inj (Option.some.inj h)).1 (congrArg (fun z => (z, O)) (Prod.mk.inj (Option.some.inj h)).2) dX11_foretold_93
    replace h := ite_t h c5
    refine go_aload K dX11_foretold_77 0 rfl ?_
    refine go_iload_n K dX11_foretold_79 4 rfl rfl ?_
    obtain ⟨r7, e7, h⟩ := bnd_e h
    refine go_cVI K (c_X7_owesTogether l G (st_q q_1) _ _ _ _ e7) cf_X7_owesTogether cv_X7_owesTogether km_X11_253 (rv_X7 (st_q q_1)) (by decide) rfl rfl (Nat.le_of_ble_eq_true rfl) dX11_foretold_80 ?_
    refine go_goto (tgt := 93) K dX11_foretold_83 (by decide) ?_
    exact go_iret K hr (Prod.mk.inj (Option.some.inj h)).1 (congrArg (fun z => (z, O)) (Prod.mk.inj (Option.some.inj h)).2) dX11_foretold_93
  rw [f_X11_foretold] at h
  refine go_aload_n K dX11_foretold_0 0 rfl rfl ?_
  refine gf_X11 K 1 (by decide) kf_X11_19 (v := .ref (gB G + 5)) rfl dX11_foretold_1 ?_
  refine gf_X10 K wh_5 0 (by decide) kf_X11_39 (v := .ref (gB G + 6)) rfl dX11_foretold_4 ?_
  refine go_astore K dX11_foretold_7 (by decide) (lv' := [(4, .ref (gB G + 6)), (0, .ref (gB G + 0)), (1, .int v1), (2, .int v2), (3, .int v3)]) rfl ?_
  refine go_iload_n K dX11_foretold_9 4 rfl rfl ?_
  refine go_iconst (v := (-1 : Int32)) K dX11_foretold_10 (by decide) ?_
  refine go_icmp_ne (tgt := 23) K dX11_foretold_11 (by decide) (fun c1 => ?_) (fun c1 => ?_)
  · replace h := ite_f h c1
    refine go_aload K dX11_foretold_23 0 rfl ?_
    refine go_iload_n K dX11_foretold_25 3 rfl rfl ?_
    refine go_iload_n K dX11_foretold_26 4 rfl rfl ?_
    refine go_cVI K (c_X7_areTwo l G st_6 _ _ _ _ _ rfl) cf_X7_areTwo cv_X7_areTwo km_X11_124 (rv_X7 st_6) (by decide) rfl rfl (Nat.le_of_ble_eq_true rfl) dX11_foretold_27 ?_
    exact go_sub [1, 2, 3, 4] rfl (hj30 _ _ _ _ _ h)
  replace h := ite_t h c1
  refine go_aload K dX11_foretold_14 0 rfl ?_
  refine go_iload_n K dX11_foretold_16 3 rfl rfl ?_
  refine go_cVI K (c_X7_has l G st_6 _ _ _ _ rfl) cf_X7_has cv_X7_has km_X11_241 (rv_X7 st_6) (by decide) rfl rfl (Nat.le_of_ble_eq_true rfl) dX11_foretold_17 ?_
  refine go_goto (tgt := 30) K dX11_foretold_20 (by decide) ?_
  exact go_sub [1, 2, 3, 4] rfl (hj30 _ _ _ _ _ h)
noncomputable def f_X11_indoors (v1 : Int32) (v2 : Int32) (C : CM) : Option (Int32 × CM) := (if (f_X7_has 6 v2 C) = 0 then (some ((-2 : Int32), C)) else (if (f_X11_within v1 (1 : Int32) (60 : Int32)) = 0 then (some ((-2 : Int32), C)) else (bnd2 (f_X11_foresee v1 (C 5 3) C) (fun r3 C3 => (bnd (f_X7_indoorsOf (stI 1) v2 C3) (fun r4 => (some (r4, C3))))))))
theorem cf_X11_indoors : CF yX11_indoors cX11_indoors 3 (Option.some Jvm.ClassFile.FieldType.int) 2 := ⟨kc_X11_indoors, kj_X11, ⟨by decide +kernel, by decide +kernel, by decide +kernel⟩, by decide⟩
theorem cv_X11_indoors : CFv yX11_indoors := ⟨ki_X11_indoors, ks_X11_indoors⟩
set_option maxHeartbeats 4000000 in
set_option maxRecDepth 100000 in
theorem c_X11_indoors (l : Launch) (G : GT) (v1 : Int32) (v2 : Int32) (C : CM) (O : OM) (res : Int32) (C' : CM) (h : f_X11_indoors v1 v2 C = some (res, C')) : MI l G yX11_indoors cX11_indoors 3 (Option.some Jvm.ClassFile.FieldType.int) (7) [.ref (gB G + 0), .int v1, .int v2] (C, O) res (C', O) := by
  unfold MI
  refine met_in RX11 (by decide +kernel) rfl [(0, .ref (gB G + 0)), (1, .int v1), (2, .int v2)] rfl (Nat.le_of_ble_eq_true rfl) ?_
  intro pM eM sM mM aM bM meM cM K hr
  rw [f_X11_indoors] at h
  refine go_aload_n K dX11_indoors_0 0 rfl rfl ?_
  refine gf_X11 K 1 (by decide) kf_X11_19 (v := .ref (gB G + 5)) rfl dX11_indoors_1 ?_
  refine gf_X10 K wh_5 0 (by decide) kf_X11_39 (v := .ref (gB G + 6)) rfl dX11_indoors_4 ?_
  refine go_iload_n K dX11_indoors_7 2 rfl rfl ?_
  refine go_cVI K (c_X7_has l G st_6 _ _ _ _ rfl) cf_X7_has cv_X7_has km_X11_241 (rv_X7 st_6) (by decide) rfl rfl (Nat.le_of_ble_eq_true rfl) dX11_indoors_8 ?_
  refine go_if_eq (tgt := 24) K dX11_indoors_11 (by decide) (fun c1 => ?_) (fun c1 => ?_)
  · replace h := ite_t h c1
    refine go_bipush (v := (-2 : Int32)) K dX11_indoors_24 (by decide) ?_
    exact go_iret K hr (Prod.mk.inj (Option.some.inj h)).1 (congrArg (fun z => (z, O)) (Prod.mk.inj (Option.some.inj h)).2) dX11_indoors_26
  replace h := ite_f h c1
  refine go_iload_n K dX11_indoors_14 1 rfl rfl ?_
  refine go_iconst (v := (1 : Int32)) K dX11_indoors_15 (by decide) ?_
  refine go_bipush (v := (60 : Int32)) K dX11_indoors_16 (by decide) ?_
  refine go_cSI K (c_X11_within l G _ _ _ _ _ _ rfl) cf_X11_within kt_X11_within km_X11_93 (by decide) rfl rfl (Nat.le_of_ble_eq_true rfl) dX11_indoors_18 ?_
  refine go_if_ne (tgt := 27) K dX11_indoors_21 (by decide) (fun c2 => ?_) (fun c2 => ?_)
  rotate_left
  · replace h := ite_t h c2
    refine go_bipush (v := (-2 : Int32)) K dX11_indoors_24 (by decide) ?_
    exact go_iret K hr (Prod.mk.inj (Option.some.inj h)).1 (congrArg (fun z => (z, O)) (Prod.mk.inj (Option.some.inj h)).2) dX11_indoors_26
  replace h := ite_f h c2
  refine go_aload_n K dX11_indoors_27 0 rfl rfl ?_
  refine go_iload_n K dX11_indoors_28 1 rfl rfl ?_
  refine go_aload_n K dX11_indoors_29 0 rfl rfl ?_
  refine gf_X11 K 1 (by decide) kf_X11_19 (v := .ref (gB G + 5)) rfl dX11_indoors_30 ?_
  refine gf_X10 K wh_5 3 (by decide) kf_X11_209 (v := .int (C 5 3)) rfl dX11_indoors_33 ?_
  obtain ⟨r3, C3, e3, h⟩ := bnd2_e h
  refine go_cVI K (c_X11_foresee l G _ _ _ _ _ _ e3) cf_X11_foresee cv_X11_foresee km_X11_280 rv_X11 (by decide) rfl rfl (Nat.le_of_ble_eq_true rfl) dX11_indoors_36 ?_
  refine go_pop K dX11_indoors_39 rfl ?_
  refine go_aload_n K dX11_indoors_40 0 rfl rfl ?_
  refine gf_X11 K 6 (by decide) kf_X11_53 (v := .ref (gB G + twI 1)) rfl dX11_indoors_41 ?_
  refine gf_X9 K q_1 0 (by decide) kf_X11_283 (v := .ref (gB G + (stI 1))) rfl dX11_indoors_44 ?_
  refine go_iload_n K dX11_indoors_47 2 rfl rfl ?_
  obtain ⟨r4, e4, h⟩ := bnd_e h
  refine go_cVI K (c_X7_indoorsOf l G (st_q q_1) _ _ _ _ e4) cf_X7_indoorsOf cv_X7_indoorsOf km_X11_250 (rv_X7 (st_q q_1)) (by decide) rfl rfl (Nat.le_of_ble_eq_true rfl) dX11_indoors_48 ?_
  exact go_iret K hr (Prod.mk.inj (Option.some.inj h)).1 (congrArg (fun z => (z, O)) (Prod.mk.inj (Option.some.inj h)).2) dX11_indoors_51
noncomputable def f_X11_first (v1 : Int32) (C : CM) : Option (Int32 × CM) := (if (f_X11_within v1 (1 : Int32) (60 : Int32)) = 0 then (some ((-1 : Int32), C)) else (bnd2 (f_X11_foresee v1 (C 5 3) C) (fun r2 C2 => (if r2 = 0 then (some ((-1 : Int32), C2)) else (bnd (f_X7_booked (stI 1) (0 : Int32) (1 : Int32) C2) (fun r4 => (some (r4, C2))))))))
theorem cf_X11_first : CF yX11_first cX11_first 2 (Option.some Jvm.ClassFile.FieldType.int) 1 := ⟨kc_X11_first, kj_X11, ⟨by decide +kernel, by decide +kernel, by decide +kernel⟩, by decide⟩
theorem cv_X11_first : CFv yX11_first := ⟨ki_X11_first, ks_X11_first⟩
set_option maxHeartbeats 4000000 in
set_option maxRecDepth 100000 in
theorem c_X11_first (l : Launch) (G : GT) (v1 : Int32) (C : CM) (O : OM) (res : Int32) (C' : CM) (h : f_X11_first v1 C = some (res, C')) : MI l G yX11_first cX11_first 2 (Option.some Jvm.ClassFile.FieldType.int) (7) [.ref (gB G + 0), .int v1] (C, O) res (C', O) := by
  unfold MI
  refine met_in RX11 (by decide +kernel) rfl [(0, .ref (gB G + 0)), (1, .int v1)] rfl (Nat.le_of_ble_eq_true rfl) ?_
  intro pM eM sM mM aM bM meM cM K hr
  rw [f_X11_first] at h
  refine go_iload_n K dX11_first_0 1 rfl rfl ?_
  refine go_iconst (v := (1 : Int32)) K dX11_first_1 (by decide) ?_
  refine go_bipush (v := (60 : Int32)) K dX11_first_2 (by decide) ?_
  refine go_cSI K (c_X11_within l G _ _ _ _ _ _ rfl) cf_X11_within kt_X11_within km_X11_93 (by decide) rfl rfl (Nat.le_of_ble_eq_true rfl) dX11_first_4 ?_
  refine go_if_eq (tgt := 25) K dX11_first_7 (by decide) (fun c1 => ?_) (fun c1 => ?_)
  · replace h := ite_t h c1
    refine go_iconst (v := (-1 : Int32)) K dX11_first_25 (by decide) ?_
    exact go_iret K hr (Prod.mk.inj (Option.some.inj h)).1 (congrArg (fun z => (z, O)) (Prod.mk.inj (Option.some.inj h)).2) dX11_first_26
  replace h := ite_f h c1
  refine go_aload_n K dX11_first_10 0 rfl rfl ?_
  refine go_iload_n K dX11_first_11 1 rfl rfl ?_
  refine go_aload_n K dX11_first_12 0 rfl rfl ?_
  refine gf_X11 K 1 (by decide) kf_X11_19 (v := .ref (gB G + 5)) rfl dX11_first_13 ?_
  refine gf_X10 K wh_5 3 (by decide) kf_X11_209 (v := .int (C 5 3)) rfl dX11_first_16 ?_
  obtain ⟨r2, C2, e2, h⟩ := bnd2_e h
  refine go_cVI K (c_X11_foresee l G _ _ _ _ _ _ e2) cf_X11_foresee cv_X11_foresee km_X11_280 rv_X11 (by decide) rfl rfl (Nat.le_of_ble_eq_true rfl) dX11_first_19 ?_
  refine go_if_ne (tgt := 27) K dX11_first_22 (by decide) (fun c3 => ?_) (fun c3 => ?_)
  rotate_left
  · replace h := ite_t h c3
    refine go_iconst (v := (-1 : Int32)) K dX11_first_25 (by decide) ?_
    exact go_iret K hr (Prod.mk.inj (Option.some.inj h)).1 (congrArg (fun z => (z, O)) (Prod.mk.inj (Option.some.inj h)).2) dX11_first_26
  replace h := ite_f h c3
  refine go_aload_n K dX11_first_27 0 rfl rfl ?_
  refine gf_X11 K 6 (by decide) kf_X11_53 (v := .ref (gB G + twI 1)) rfl dX11_first_28 ?_
  refine gf_X9 K q_1 0 (by decide) kf_X11_283 (v := .ref (gB G + (stI 1))) rfl dX11_first_31 ?_
  refine go_iconst (v := (0 : Int32)) K dX11_first_34 (by decide) ?_
  refine go_iconst (v := (1 : Int32)) K dX11_first_35 (by decide) ?_
  obtain ⟨r4, e4, h⟩ := bnd_e h
  refine go_cVI K (c_X7_booked l G (st_q q_1) _ _ _ _ _ e4) cf_X7_booked cv_X7_booked km_X11_277 (rv_X7 (st_q q_1)) (by decide) rfl rfl (Nat.le_of_ble_eq_true rfl) dX11_first_36 ?_
  exact go_iret K hr (Prod.mk.inj (Option.some.inj h)).1 (congrArg (fun z => (z, O)) (Prod.mk.inj (Option.some.inj h)).2) dX11_first_39
noncomputable def X11_whose_j54 (rc : Int32 → Int32 → Int32 → Int32 → CM → Option (Int32 × CM)) (v1 : Int32) (v2 : Int32) (v3 : Int32) (v4 : Int32) (C : CM) : Option (Int32 × CM) := (rc v1 v2 v3 (v4 + (1 : Int32)) C)
noncomputable def X11_whose_l21 : Nat → Int32 → Int32 → Int32 → Int32 → CM → Option (Int32 × CM)
  | 0, _, _, _, _, _ => none
  | n + 1, v1, v2, v3, v4, C => (if (C 5 2) ≤ v4 then (some (v2, C)) else (bnd2 (f_X11_foresee v1 v4 C) (fun r3 C3 => (if v3 ≤ r3 then (X11_whose_j54 (fun v1 v2 v3 v4 C => X11_whose_l21 n v1 v2 v3 v4 C) v1 v2 v3 v4 C3) else (X11_whose_j54 (fun v1 v2 v3 v4 C => X11_whose_l21 n v1 v2 v3 v4 C) v1 v4 r3 v4 C3)))))
noncomputable def f_X11_whose (v1 : Int32) (C : CM) : Option (Int32 × CM) := (if (f_X11_within v1 (1 : Int32) (60 : Int32)) = 0 then (some ((-1 : Int32), C)) else (X11_whose_l21 FU v1 (-1 : Int32) (2147483647 : Int32) (0 : Int32) C))
theorem cf_X11_whose : CF yX11_whose cX11_whose 6 (Option.some Jvm.ClassFile.FieldType.int) 1 := ⟨kc_X11_whose, kj_X11, ⟨by decide +kernel, by decide +kernel, by decide +kernel⟩, by decide⟩
theorem cv_X11_whose : CFv yX11_whose := ⟨ki_X11_whose, ks_X11_whose⟩
set_option maxHeartbeats 4000000 in
set_option maxRecDepth 100000 in
theorem c_X11_whose (l : Launch) (G : GT) (v1 : Int32) (C : CM) (O : OM) (res : Int32) (C' : CM) (h : f_X11_whose v1 C = some (res, C')) : MI l G yX11_whose cX11_whose 6 (Option.some Jvm.ClassFile.FieldType.int) (7) [.ref (gB G + 0), .int v1] (C, O) res (C', O) := by
  unfold MI
  refine met_in RX11 (by decide +kernel) rfl [(0, .ref (gB G + 0)), (1, .int v1)] rfl (Nat.le_of_ble_eq_true rfl) ?_
  intro pM eM sM mM aM bM meM cM K hr
  have hl21 : ∀ (n21 : Nat) (v1 : Int32) (v2 : Int32) (v3 : Int32) (v4 : Int32) (C : CM), X11_whose_l21 n21 v1 v2 v3 v4 C = some (res, C') → GO pM l eM (7) sM mM aM bM meM cM (MQ bM (va_Qi (fun (r' : Int32) (u : CM × OM) => r' = res ∧ u = (C', O)) (wB G) (Fr G)) aM sM 0 0 (Fr G)) G 6 (C, O) 21 [(0, .ref (gB G + 0)), (1, .int v1), (2, .int v2), (3, .int v3), (4, .int v4)] [] := by
    intro n21
    induction n21 with
    | zero =>
      intro v1 v2 v3 v4 C h
      rw [X11_whose_l21] at h
      cases h
    | succ n21 ih21 =>
      have hj54 : ∀ (v1 : Int32) (v2 : Int32) (v3 : Int32) (v4 : Int32) (C : CM), X11_whose_j54 (fun v1 v2 v3 v4 C => X11_whose_l21 n21 v1 v2 v3 v4 C) v1 v2 v3 v4 C = some (res, C') → GO pM l eM (7) sM mM aM bM meM cM (MQ bM (va_Qi (fun (r' : Int32) (u : CM × OM) => r' = res ∧ u = (C', O)) (wB G) (Fr G)) aM sM 0 0 (Fr G)) G 6 (C, O) 54 [(0, .ref (gB G + 0)), (1, .int v1), (2, .int v2), (3, .int v3), (4, .int v4)] [] := by
        intro v1 v2 v3 v4 C h
        rw [X11_whose_j54] at h
        refine go_iinc K dX11_whose_54 4 rfl (v := (v4 + (1 : Int32))) rfl (by decide) (lv' := [(4, .int (v4 + (1 : Int32))), (0, .ref (gB G + 0)), (1, .int v1), (2, .int v2), (3, .int v3)]) rfl ?_
        refine go_goto (tgt := 21) K dX11_whose_57 (by decide) ?_
        exact go_sub [1, 2, 3, 4, 0] rfl (ih21 _ _ _ _ _ h)
      intro v1 v2 v3 v4 C h
      rw [X11_whose_l21] at h
      refine go_iload K dX11_whose_21 4 rfl ?_
      refine go_aload_n K dX11_whose_23 0 rfl rfl ?_
      refine gf_X11 K 1 (by decide) kf_X11_19 (v := .ref (gB G + 5)) rfl dX11_whose_24 ?_
      refine gf_X10 K wh_5 2 (by decide) kf_X11_183 (v := .int (C 5 2)) rfl dX11_whose_27 ?_
      refine go_icmp_ge (tgt := 60) K dX11_whose_30 (by decide) (fun c2 => ?_) (fun c2 => ?_)
      · replace h := ite_t h c2
        refine go_iload_n K dX11_whose_60 2 rfl rfl ?_
        exact go_iret K hr (Prod.mk.inj (Option.some.inj h)).1 (congrArg (fun z => (z, O)) (Prod.mk.inj (Option.some.inj h)).2) dX11_whose_61
      replace h := ite_f h c2
      refine go_aload_n K dX11_whose_33 0 rfl rfl ?_
      refine go_iload_n K dX11_whose_34 1 rfl rfl ?_
      refine go_iload K dX11_whose_35 4 rfl ?_
      obtain ⟨r3, C3, e3, h⟩ := bnd2_e h
      refine go_cVI K (c_X11_foresee l G _ _ _ _ _ _ e3) cf_X11_foresee cv_X11_foresee km_X11_280 rv_X11 (by decide) rfl rfl (Nat.le_of_ble_eq_true rfl) dX11_whose_37 ?_
      refine go_istore K dX11_whose_40 (by decide) (lv' := [(5, .int r3), (0, .ref (gB G + 0)), (1, .int v1), (2, .int v2), (3, .int v3), (4, .int v4)]) rfl ?_
      refine go_iload K dX11_whose_42 0 rfl ?_
      refine go_iload_n K dX11_whose_44 4 rfl rfl ?_
      refine go_icmp_ge (tgt := 54) K dX11_whose_45 (by decide) (fun c4 => ?_) (fun c4 => ?_)
      · replace h := ite_t h c4
        exact go_sub [1, 2, 3, 4, 5] rfl (hj54 _ _ _ _ _ h)
      replace h := ite_f h c4
      refine go_iload K dX11_whose_48 0 rfl ?_
      refine go_istore_n K dX11_whose_50 rfl (by decide) (lv' := [(3, .int r3), (5, .int r3), (0, .ref (gB G + 0)), (1, .int v1), (2, .int v2), (4, .int v4)]) rfl ?_
      refine go_iload K dX11_whose_51 5 rfl ?_
      refine go_istore_n K dX11_whose_53 rfl (by decide) (lv' := [(2, .int v4), (3, .int r3), (5, .int r3), (0, .ref (gB G + 0)), (1, .int v1), (4, .int v4)]) rfl ?_
      exact go_sub [3, 4, 0, 1, 5] rfl (hj54 _ _ _ _ _ h)
  rw [f_X11_whose] at h
  refine go_iload_n K dX11_whose_0 1 rfl rfl ?_
  refine go_iconst (v := (1 : Int32)) K dX11_whose_1 (by decide) ?_
  refine go_bipush (v := (60 : Int32)) K dX11_whose_2 (by decide) ?_
  refine go_cSI K (c_X11_within l G _ _ _ _ _ _ rfl) cf_X11_within kt_X11_within km_X11_93 (by decide) rfl rfl (Nat.le_of_ble_eq_true rfl) dX11_whose_4 ?_
  refine go_if_ne (tgt := 12) K dX11_whose_7 (by decide) (fun c1 => ?_) (fun c1 => ?_)
  rotate_left
  · replace h := ite_t h c1
    refine go_iconst (v := (-1 : Int32)) K dX11_whose_10 (by decide) ?_
    exact go_iret K hr (Prod.mk.inj (Option.some.inj h)).1 (congrArg (fun z => (z, O)) (Prod.mk.inj (Option.some.inj h)).2) dX11_whose_11
  replace h := ite_f h c1
  refine go_iconst (v := (-1 : Int32)) K dX11_whose_12 (by decide) ?_
  refine go_istore_n K dX11_whose_13 rfl (by decide) (lv' := [(2, .int (-1 : Int32)), (0, .ref (gB G + 0)), (1, .int v1)]) rfl ?_
  refine go_ldcw K kk_X11_284 dX11_whose_14 ?_
  refine go_istore_n K dX11_whose_17 rfl (by decide) (lv' := [(3, .int (2147483647 : Int32)), (2, .int (-1 : Int32)), (0, .ref (gB G + 0)), (1, .int v1)]) rfl ?_
  refine go_iconst (v := (0 : Int32)) K dX11_whose_18 (by decide) ?_
  refine go_istore K dX11_whose_19 (by decide) (lv' := [(4, .int (0 : Int32)), (3, .int (2147483647 : Int32)), (2, .int (-1 : Int32)), (0, .ref (gB G + 0)), (1, .int v1)]) rfl ?_
  exact go_sub [3, 4, 2, 1, 0] rfl (hl21 FU _ _ _ _ _ h)
noncomputable def f_X11_route (v1 : Int32) (v2 : Int32) (C : CM) : Option (Int32 × CM) := (bnd (f_X7_out 6 v1 C) (fun r1 => (if r1 = 0 then (some ((-2 : Int32), C)) else (bnd2 (f_X0_find 6 v1 C) (fun r3 C3 => (if r3 = 0 then (some ((-2 : Int32), C3)) else (if v2 = (-1 : Int32) then (some ((C3 413 0), C3)) else (if (f_X11_within v2 (0 : Int32) ((C3 413 0) - (1 : Int32))) = 0 then (some ((-2 : Int32), C3)) else (some ((f_X0_step v2 C3), C3))))))))))
theorem cf_X11_route : CF yX11_route cX11_route 3 (Option.some Jvm.ClassFile.FieldType.int) 2 := ⟨kc_X11_route, kj_X11, ⟨by decide +kernel, by decide +kernel, by decide +kernel⟩, by decide⟩
theorem cv_X11_route : CFv yX11_route := ⟨ki_X11_route, ks_X11_route⟩
set_option maxHeartbeats 4000000 in
set_option maxRecDepth 100000 in
theorem c_X11_route (l : Launch) (G : GT) (v1 : Int32) (v2 : Int32) (C : CM) (O : OM) (res : Int32) (C' : CM) (h : f_X11_route v1 v2 C = some (res, C')) : MI l G yX11_route cX11_route 3 (Option.some Jvm.ClassFile.FieldType.int) (5) [.ref (gB G + 0), .int v1, .int v2] (C, O) res (C', O) := by
  unfold MI
  refine met_in RX11 (by decide +kernel) rfl [(0, .ref (gB G + 0)), (1, .int v1), (2, .int v2)] rfl (Nat.le_of_ble_eq_true rfl) ?_
  intro pM eM sM mM aM bM meM cM K hr
  rw [f_X11_route] at h
  refine go_aload_n K dX11_route_0 0 rfl rfl ?_
  refine gf_X11 K 1 (by decide) kf_X11_19 (v := .ref (gB G + 5)) rfl dX11_route_1 ?_
  refine gf_X10 K wh_5 0 (by decide) kf_X11_39 (v := .ref (gB G + 6)) rfl dX11_route_4 ?_
  refine go_iload_n K dX11_route_7 1 rfl rfl ?_
  obtain ⟨r1, e1, h⟩ := bnd_e h
  refine go_cVI K (c_X7_out l G st_6 _ _ _ _ e1) cf_X7_out cv_X7_out km_X11_135 (rv_X7 st_6) (by decide) rfl rfl (Nat.le_of_ble_eq_true rfl) dX11_route_8 ?_
  refine go_if_eq (tgt := 32) K dX11_route_11 (by decide) (fun c2 => ?_) (fun c2 => ?_)
  · replace h := ite_t h c2
    refine go_bipush (v := (-2 : Int32)) K dX11_route_32 (by decide) ?_
    exact go_iret K hr (Prod.mk.inj (Option.some.inj h)).1 (congrArg (fun z => (z, O)) (Prod.mk.inj (Option.some.inj h)).2) dX11_route_34
  replace h := ite_f h c2
  refine go_aload_n K dX11_route_14 0 rfl rfl ?_
  refine gf_X11 K 9 (by decide) kf_X11_75 (v := .ref (gB G + 413)) rfl dX11_route_15 ?_
  refine go_aload_n K dX11_route_18 0 rfl rfl ?_
  refine gf_X11 K 1 (by decide) kf_X11_19 (v := .ref (gB G + 5)) rfl dX11_route_19 ?_
  refine gf_X10 K wh_5 0 (by decide) kf_X11_39 (v := .ref (gB G + 6)) rfl dX11_route_22 ?_
  refine go_iload_n K dX11_route_25 1 rfl rfl ?_
  obtain ⟨r3, C3, e3, h⟩ := bnd2_e h
  refine go_cVI K (c_X0_find l G st_6 _ _ _ _ _ e3) cf_X0_find cv_X0_find km_X11_285 rv_X0 (by decide) rfl rfl (Nat.le_of_ble_eq_true rfl) dX11_route_26 ?_
  refine go_if_ne (tgt := 35) K dX11_route_29 (by decide) (fun c4 => ?_) (fun c4 => ?_)
  rotate_left
  · replace h := ite_t h c4
    refine go_bipush (v := (-2 : Int32)) K dX11_route_32 (by decide) ?_
    exact go_iret K hr (Prod.mk.inj (Option.some.inj h)).1 (congrArg (fun z => (z, O)) (Prod.mk.inj (Option.some.inj h)).2) dX11_route_34
  replace h := ite_f h c4
  refine go_iload_n K dX11_route_35 2 rfl rfl ?_
  refine go_iconst (v := (-1 : Int32)) K dX11_route_36 (by decide) ?_
  refine go_icmp_ne (tgt := 48) K dX11_route_37 (by decide) (fun c5 => ?_) (fun c5 => ?_)
  rotate_left
  · replace h := ite_t h c5
    refine go_aload_n K dX11_route_40 0 rfl rfl ?_
    refine gf_X11 K 9 (by decide) kf_X11_75 (v := .ref (gB G + 413)) rfl dX11_route_41 ?_
    refine gf_X0 K 0 (by decide) kf_X11_289 (v := .int (C3 413 0)) rfl dX11_route_44 ?_
    exact go_iret K hr (Prod.mk.inj (Option.some.inj h)).1 (congrArg (fun z => (z, O)) (Prod.mk.inj (Option.some.inj h)).2) dX11_route_47
  replace h := ite_f h c5
  refine go_iload_n K dX11_route_48 2 rfl rfl ?_
  refine go_iconst (v := (0 : Int32)) K dX11_route_49 (by decide) ?_
  refine go_aload_n K dX11_route_50 0 rfl rfl ?_
  refine gf_X11 K 9 (by decide) kf_X11_75 (v := .ref (gB G + 413)) rfl dX11_route_51 ?_
  refine gf_X0 K 0 (by decide) kf_X11_289 (v := .int (C3 413 0)) rfl dX11_route_54 ?_
  refine go_iconst (v := (1 : Int32)) K dX11_route_57 (by decide) ?_
  refine go_isub K dX11_route_58 ?_
  refine go_cSI K (c_X11_within l G _ _ _ _ _ _ rfl) cf_X11_within kt_X11_within km_X11_93 (by decide) rfl rfl (Nat.le_of_ble_eq_true rfl) dX11_route_59 ?_
  refine go_if_eq (tgt := 76) K dX11_route_62 (by decide) (fun c6 => ?_) (fun c6 => ?_)
  · replace h := ite_t h c6
    refine go_bipush (v := (-2 : Int32)) K dX11_route_76 (by decide) ?_
    exact go_iret K hr (Prod.mk.inj (Option.some.inj h)).1 (congrArg (fun z => (z, O)) (Prod.mk.inj (Option.some.inj h)).2) dX11_route_78
  replace h := ite_f h c6
  refine go_aload_n K dX11_route_65 0 rfl rfl ?_
  refine gf_X11 K 9 (by decide) kf_X11_75 (v := .ref (gB G + 413)) rfl dX11_route_66 ?_
  refine go_iload_n K dX11_route_69 2 rfl rfl ?_
  refine go_cVI K (c_X0_step l G _ _ _ _ rfl) cf_X0_step cv_X0_step km_X11_290 rv_X0 (by decide) rfl rfl (Nat.le_of_ble_eq_true rfl) dX11_route_70 ?_
  refine go_goto (tgt := 78) K dX11_route_73 (by decide) ?_
  exact go_iret K hr (Prod.mk.inj (Option.some.inj h)).1 (congrArg (fun z => (z, O)) (Prod.mk.inj (Option.some.inj h)).2) dX11_route_78
noncomputable def f_X11_settled (v1 : Int32) (C : CM) : Option (Int32 × CM) := (bnd2 (f_X5_mostEvenSets 6 C) (fun r1 C1 => (if v1 = 0 then (some (((C1 6 0) - r1), C1)) else (some (r1, C1)))))
theorem cf_X11_settled : CF yX11_settled cX11_settled 3 (Option.some Jvm.ClassFile.FieldType.int) 1 := ⟨kc_X11_settled, kj_X11, ⟨by decide +kernel, by decide +kernel, by decide +kernel⟩, by decide⟩
theorem cv_X11_settled : CFv yX11_settled := ⟨ki_X11_settled, ks_X11_settled⟩
set_option maxHeartbeats 4000000 in
set_option maxRecDepth 100000 in
theorem c_X11_settled (l : Launch) (G : GT) (v1 : Int32) (C : CM) (O : OM) (res : Int32) (C' : CM) (h : f_X11_settled v1 C = some (res, C')) : MI l G yX11_settled cX11_settled 3 (Option.some Jvm.ClassFile.FieldType.int) (4) [.ref (gB G + 0), .int v1] (C, O) res (C', O) := by
  unfold MI
  refine met_in RX11 (by decide +kernel) rfl [(0, .ref (gB G + 0)), (1, .int v1)] rfl (Nat.le_of_ble_eq_true rfl) ?_
  intro pM eM sM mM aM bM meM cM K hr
  rw [f_X11_settled] at h
  refine go_aload_n K dX11_settled_0 0 rfl rfl ?_
  refine gf_X11 K 10 (by decide) kf_X11_82 (v := .ref (gB G + 414)) rfl dX11_settled_1 ?_
  refine go_aload_n K dX11_settled_4 0 rfl rfl ?_
  refine gf_X11 K 1 (by decide) kf_X11_19 (v := .ref (gB G + 5)) rfl dX11_settled_5 ?_
  refine gf_X10 K wh_5 0 (by decide) kf_X11_39 (v := .ref (gB G + 6)) rfl dX11_settled_8 ?_
  obtain ⟨r1, C1, e1, h⟩ := bnd2_e h
  refine go_cVI K (c_X5_mostEvenSets l G st_6 _ _ _ _ e1) cf_X5_mostEvenSets cv_X5_mostEvenSets km_X11_293 rv_X5 (by decide) rfl rfl (Nat.le_of_ble_eq_true rfl) dX11_settled_11 ?_
  refine go_istore_n K dX11_settled_14 rfl (by decide) (lv' := [(2, .int r1), (0, .ref (gB G + 0)), (1, .int v1)]) rfl ?_
  refine go_iload_n K dX11_settled_15 2 rfl rfl ?_
  refine go_if_eq (tgt := 23) K dX11_settled_16 (by decide) (fun c2 => ?_) (fun c2 => ?_)
  rotate_left
  · replace h := ite_f h c2
    refine go_iload_n K dX11_settled_19 0 rfl rfl ?_
    refine go_goto (tgt := 35) K dX11_settled_20 (by decide) ?_
    exact go_iret K hr (Prod.mk.inj (Option.some.inj h)).1 (congrArg (fun z => (z, O)) (Prod.mk.inj (Option.some.inj h)).2) dX11_settled_35
  replace h := ite_t h c2
  refine go_aload_n K dX11_settled_23 1 rfl rfl ?_
  refine gf_X11 K 1 (by decide) kf_X11_19 (v := .ref (gB G + 5)) rfl dX11_settled_24 ?_
  refine gf_X10 K wh_5 0 (by decide) kf_X11_39 (v := .ref (gB G + 6)) rfl dX11_settled_27 ?_
  refine gf_X7 K st_6 0 (by decide) kf_X11_97 (v := .int (C1 6 0)) rfl dX11_settled_30 ?_
  refine go_iload_n K dX11_settled_33 0 rfl rfl ?_
  refine go_isub K dX11_settled_34 ?_
  exact go_iret K hr (Prod.mk.inj (Option.some.inj h)).1 (congrArg (fun z => (z, O)) (Prod.mk.inj (Option.some.inj h)).2) dX11_settled_35
noncomputable def X11_lane_j153 (v6 : Int32) (v8 : Int32) (v9 : Int32) (v10 : Int32) : Option Int32 := (if v6 = (0 : Int32) then (some v8) else (if v6 = (1 : Int32) then (some v9) else (some v10)))
noncomputable def X11_lane_j147 (rc : Int32 → Int32 → Int32 → Int32 → Int32 → Int32 → Int32 → Int32 → Option Int32) (k153 : Int32 → Int32 → Int32 → Int32 → Option Int32) (v2 : Int32) (v3 : Int32) (v4 : Int32) (v6 : Int32) (v8 : Int32) (v9 : Int32) (v10 : Int32) (v11 : Int32) : Option Int32 := (rc v2 v3 v4 v6 v8 v9 v10 (v11 + (-1 : Int32)))
noncomputable def X11_lane_l94 (k153 : Int32 → Int32 → Int32 → Int32 → Option Int32) : Nat → Int32 → Int32 → Int32 → Int32 → Int32 → Int32 → Int32 → Int32 → Option Int32
  | 0, _, _, _, _, _, _, _, _ => none
  | n + 1, v2, v3, v4, v6, v8, v9, v10, v11 => (if v11 < 0 then (k153 v6 v8 v9 v10) else (if v10 < (v2 + (v11 * v3)) then (X11_lane_j147 (fun v2 v3 v4 v6 v8 v9 v10 v11 => X11_lane_l94 k153 n v2 v3 v4 v6 v8 v9 v10 v11) k153 v2 v3 v4 v6 v8 v10 v9 v11) else (X11_lane_j147 (fun v2 v3 v4 v6 v8 v9 v10 v11 => X11_lane_l94 k153 n v2 v3 v4 v6 v8 v9 v10 v11) k153 v2 v3 v4 v6 v11 (v2 + (v11 * v3)) (f_J9_max_7cf53 (0 : Int32) (v4 - (v11 * v3))) v11)))
noncomputable def X11_lane_j69 (v1 : Int32) (v2 : Int32) (v3 : Int32) (v4 : Int32) (v5 : Int32) (v6 : Int32) (t0 : Int32) : Option Int32 := (if t0 = 0 then (some (-1 : Int32)) else (X11_lane_l94 (fun v6 v8 v9 v10 => (X11_lane_j153 v6 v8 v9 v10)) FU v2 v3 v4 v6 v1 v5 v5 (v1 - (1 : Int32))))
noncomputable def X11_lane_j68 (v1 : Int32) (v2 : Int32) (v3 : Int32) (v4 : Int32) (v5 : Int32) (v6 : Int32) : Option Int32 := (X11_lane_j69 v1 v2 v3 v4 v5 v6 (0 : Int32))
noncomputable def f_X11_lane (v1 : Int32) (v2 : Int32) (v3 : Int32) (v4 : Int32) (v5 : Int32) (v6 : Int32) : Option Int32 := (if (f_X11_within v1 (1 : Int32) (20 : Int32)) = 0 then (X11_lane_j68 v1 v2 v3 v4 v5 v6) else (if (f_X11_within v2 (0 : Int32) (99 : Int32)) = 0 then (X11_lane_j68 v1 v2 v3 v4 v5 v6) else (if (f_X11_within v3 (0 : Int32) (99 : Int32)) = 0 then (X11_lane_j68 v1 v2 v3 v4 v5 v6) else (if (f_X11_within v4 (0 : Int32) (999 : Int32)) = 0 then (X11_lane_j68 v1 v2 v3 v4 v5 v6) else (if (f_X11_within v5 (0 : Int32) (9999 : Int32)) = 0 then (X11_lane_j68 v1 v2 v3 v4 v5 v6) else (if (f_X11_within v6 (0 : Int32) (2 : Int32)) = 0 then (X11_lane_j68 v1 v2 v3 v4 v5 v6) else (X11_lane_j69 v1 v2 v3 v4 v5 v6 (1 : Int32))))))))
theorem cf_X11_lane : CF yX11_lane cX11_lane 13 (Option.some Jvm.ClassFile.FieldType.int) 6 := ⟨kc_X11_lane, kj_X11, ⟨by decide +kernel, by decide +kernel, by decide +kernel⟩, by decide⟩
theorem cv_X11_lane : CFv yX11_lane := ⟨ki_X11_lane, ks_X11_lane⟩
set_option maxHeartbeats 4000000 in
set_option maxRecDepth 100000 in
theorem c_X11_lane (l : Launch) (G : GT) (v1 : Int32) (v2 : Int32) (v3 : Int32) (v4 : Int32) (v5 : Int32) (v6 : Int32) (C : CM) (O : OM) (res : Int32) (h : f_X11_lane v1 v2 v3 v4 v5 v6 = some res) : MI l G yX11_lane cX11_lane 13 (Option.some Jvm.ClassFile.FieldType.int) (2) [.ref (gB G + 0), .int v1, .int v2, .int v3, .int v4, .int v5, .int v6] (C, O) res (C, O) := by
  unfold MI
  refine met_in RX11 (by decide +kernel) rfl [(0, .ref (gB G + 0)), (1, .int v1), (2, .int v2), (3, .int v3), (4, .int v4), (5, .int v5), (6, .int v6)] rfl (Nat.le_of_ble_eq_true rfl) ?_
  intro pM eM sM mM aM bM meM cM K hr
  have hj153 : ∀ (v6 : Int32) (v8 : Int32) (v9 : Int32) (v10 : Int32), X11_lane_j153 v6 v8 v9 v10 = some res → GO pM l eM (2) sM mM aM bM meM cM (MQ bM (va_Qi (fun (r' : Int32) (u : CM × OM) => r' = res ∧ u = (C, O)) (wB G) (Fr G)) aM sM 0 0 (Fr G)) G 13 (C, O) 153 [(6, .int v6), (8, .int v8), (9, .int v9), (10, .int v10)] [] := by
    intro v6 v8 v9 v10 h
    rw [X11_lane_j153] at h
    refine go_iload K dX11_lane_153 0 rfl ?_
    by_cases c5 : v6 = (0 : Int32)
    · refine go_lookup K dX11_lane_155 (by decide) (off := 25) (by rw [c5]; decide) (tgt := 180) (by decide) ?_
      replace h := ite_t h c5
      refine go_iload K dX11_lane_180 1 rfl ?_
      exact go_iret K hr (Option.some.inj h) rfl dX11_lane_182
    replace h := ite_f h c5
    by_cases c6 : v6 = (1 : Int32)
    · refine go_lookup K dX11_lane_155 (by decide) (off := 28) (by rw [c6]; decide) (tgt := 183) (by decide) ?_
      replace h := ite_t h c6
      refine go_iload K dX11_lane_183 2 rfl ?_
      exact go_iret K hr (Option.some.inj h) rfl dX11_lane_185
    replace h := ite_f h c6
    have c5 := sw_ne c5 (k := 0) (by decide)
    have c6 := sw_ne c6 (k := 1) (by decide)
    refine go_lookup K dX11_lane_155 (by decide) (off := 31) (show Op.lookupswitch.offset [(0, 25), (1, 28)] (31) (v6).toInt = 31 from by simp only [Op.lookupswitch.offset_cons, Op.lookupswitch.offset_nil]; rw [if_neg (fun q => c5 q.symm), if_neg (fun q => c6 q.symm)]) (tgt := 186) (by decide) ?_
    refine go_iload K dX11_lane_186 3 rfl ?_
    exact go_iret K hr (Option.some.inj h) rfl dX11_lane_188
  have hl94 : ∀ (n94 : Nat) (v2 : Int32) (v3 : Int32) (v4 : Int32) (v6 : Int32) (v8 : Int32) (v9 : Int32) (v10 : Int32) (v11 : Int32), X11_lane_l94 (fun v6 v8 v9 v10 => (X11_lane_j153 v6 v8 v9 v10)) n94 v2 v3 v4 v6 v8 v9 v10 v11 = some res → GO pM l eM (2) sM mM aM bM meM cM (MQ bM (va_Qi (fun (r' : Int32) (u : CM × OM) => r' = res ∧ u = (C, O)) (wB G) (Fr G)) aM sM 0 0 (Fr G)) G 13 (C, O) 94 [(2, .int v2), (3, .int v3), (4, .int v4), (6, .int v6), (8, .int v8), (9, .int v9), (10, .int v10), (11, .int v11)] [] := by
    intro n94
    induction n94 with
    | zero =>
      intro v2 v3 v4 v6 v8 v9 v10 v11 h
      rw [X11_lane_l94] at h
      cases h
    | succ n94 ih94 =>
      have hj147 : ∀ (v2 : Int32) (v3 : Int32) (v4 : Int32) (v6 : Int32) (v8 : Int32) (v9 : Int32) (v10 : Int32) (v11 : Int32), X11_lane_j147 (fun v2 v3 v4 v6 v8 v9 v10 v11 => X11_lane_l94 (fun v6 v8 v9 v10 => (X11_lane_j153 v6 v8 v9 v10)) n94 v2 v3 v4 v6 v8 v9 v10 v11) (fun v6 v8 v9 v10 => (X11_lane_j153 v6 v8 v9 v10)) v2 v3 v4 v6 v8 v9 v10 v11 = some res → GO pM l eM (2) sM mM aM bM meM cM (MQ bM (va_Qi (fun (r' : Int32) (u : CM × OM) => r' = res ∧ u = (C, O)) (wB G) (Fr G)) aM sM 0 0 (Fr G)) G 13 (C, O) 147 [(2, .int v2), (3, .int v3), (4, .int v4), (6, .int v6), (8, .int v8), (9, .int v9), (10, .int v10), (11, .int v11)] [] := by
        intro v2 v3 v4 v6 v8 v9 v10 v11 h
        rw [X11_lane_j147] at h
        refine go_iinc K dX11_lane_147 7 rfl (v := (v11 + (-1 : Int32))) rfl (by decide) (lv' := [(11, .int (v11 + (-1 : Int32))), (2, .int v2), (3, .int v3), (4, .int v4), (6, .int v6), (8, .int v8), (9, .int v9), (10, .int v10)]) rfl ?_
        refine go_goto (tgt := 94) K dX11_lane_150 (by decide) ?_
        exact go_sub [1, 2, 3, 4, 5, 6, 7, 0] rfl (ih94 _ _ _ _ _ _ _ _ h)
      intro v2 v3 v4 v6 v8 v9 v10 v11 h
      rw [X11_lane_l94] at h
      refine go_iload K dX11_lane_94 7 rfl ?_
      refine go_if_lt (tgt := 153) K dX11_lane_96 (by decide) (fun c3 => ?_) (fun c3 => ?_)
      · replace h := ite_t h c3
        exact go_sub [3, 4, 5, 6] rfl (hj153 _ _ _ _ h)
      replace h := ite_f h c3
      refine go_iload K dX11_lane_99 6 rfl ?_
      refine go_istore K dX11_lane_101 (by decide) (lv' := [(12, .int v10), (2, .int v2), (3, .int v3), (4, .int v4), (6, .int v6), (8, .int v8), (9, .int v9), (10, .int v10), (11, .int v11)]) rfl ?_
      refine go_iload K dX11_lane_103 6 rfl ?_
      refine go_istore K dX11_lane_105 (by decide) (lv' := [(10, .int v9), (12, .int v10), (2, .int v2), (3, .int v3), (4, .int v4), (6, .int v6), (8, .int v8), (9, .int v9), (11, .int v11)]) rfl ?_
      refine go_iload K dX11_lane_107 1 rfl ?_
      refine go_istore K dX11_lane_109 (by decide) (lv' := [(9, .int v10), (10, .int v9), (12, .int v10), (2, .int v2), (3, .int v3), (4, .int v4), (6, .int v6), (8, .int v8), (11, .int v11)]) rfl ?_
      refine go_iload_n K dX11_lane_111 3 rfl rfl ?_
      refine go_iload K dX11_lane_112 8 rfl ?_
      refine go_iload_n K dX11_lane_114 4 rfl rfl ?_
      refine go_imul K dX11_lane_115 ?_
      refine go_iadd K dX11_lane_116 ?_
      refine go_iload K dX11_lane_117 0 rfl ?_
      refine go_icmp_gt (tgt := 147) K dX11_lane_119 (by decide) (fun c4 => ?_) (fun c4 => ?_)
      · replace h := ite_t h c4
        exact go_sub [3, 4, 5, 6, 7, 0, 1, 8] rfl (hj147 _ _ _ _ _ _ _ _ h)
      replace h := ite_f h c4
      refine go_iload K dX11_lane_122 8 rfl ?_
      refine go_istore K dX11_lane_124 (by decide) (lv' := [(8, .int v11), (9, .int v10), (10, .int v9), (12, .int v10), (2, .int v2), (3, .int v3), (4, .int v4), (6, .int v6), (11, .int v11)]) rfl ?_
      refine go_iload_n K dX11_lane_126 4 rfl rfl ?_
      refine go_iload K dX11_lane_127 8 rfl ?_
      refine go_iload_n K dX11_lane_129 5 rfl rfl ?_
      refine go_imul K dX11_lane_130 ?_
      refine go_iadd K dX11_lane_131 ?_
      refine go_istore K dX11_lane_132 (by decide) (lv' := [(9, .int (v2 + (v11 * v3))), (8, .int v11), (10, .int v9), (12, .int v10), (2, .int v2), (3, .int v3), (4, .int v4), (6, .int v6), (11, .int v11)]) rfl ?_
      refine go_iconst (v := (0 : Int32)) K dX11_lane_134 (by decide) ?_
      refine go_iload K dX11_lane_135 6 rfl ?_
      refine go_iload K dX11_lane_137 8 rfl ?_
      refine go_iload_n K dX11_lane_139 5 rfl rfl ?_
      refine go_imul K dX11_lane_140 ?_
      refine go_isub K dX11_lane_141 ?_
      refine go_cSI K (c_J9_max_7cf53 l G _ _ _ _ rfl) cf_J9_max_7cf53 kt_J9_max_7cf53 km_X11_297 (by decide) rfl rfl (Nat.le_of_ble_eq_true rfl) dX11_lane_142 ?_
      refine go_istore K dX11_lane_145 (by decide) (lv' := [(10, .int (f_J9_max_7cf53 (0 : Int32) (v4 - (v11 * v3)))), (9, .int (v2 + (v11 * v3))), (8, .int v11), (12, .int v10), (2, .int v2), (3, .int v3), (4, .int v4), (6, .int v6), (11, .int v11)]) rfl ?_
      exact go_sub [4, 5, 6, 7, 2, 1, 0, 8] rfl (hj147 _ _ _ _ _ _ _ _ h)
  have hj69 : ∀ (v1 : Int32) (v2 : Int32) (v3 : Int32) (v4 : Int32) (v5 : Int32) (v6 : Int32) (t0 : Int32), X11_lane_j69 v1 v2 v3 v4 v5 v6 t0 = some res → GO pM l eM (2) sM mM aM bM meM cM (MQ bM (va_Qi (fun (r' : Int32) (u : CM × OM) => r' = res ∧ u = (C, O)) (wB G) (Fr G)) aM sM 0 0 (Fr G)) G 13 (C, O) 69 [(1, .int v1), (2, .int v2), (3, .int v3), (4, .int v4), (5, .int v5), (6, .int v6)] [.int t0] := by
    intro v1 v2 v3 v4 v5 v6 t0 h
    rw [X11_lane_j69] at h
    refine go_istore K dX11_lane_69 (by decide) (lv' := [(7, .int t0), (1, .int v1), (2, .int v2), (3, .int v3), (4, .int v4), (5, .int v5), (6, .int v6)]) rfl ?_
    refine go_iload K dX11_lane_71 0 rfl ?_
    refine go_if_ne (tgt := 78) K dX11_lane_73 (by decide) (fun c2 => ?_) (fun c2 => ?_)
    rotate_left
    · replace h := ite_t h c2
      refine go_iconst (v := (-1 : Int32)) K dX11_lane_76 (by decide) ?_
      exact go_iret K hr (Option.some.inj h) rfl dX11_lane_77
    replace h := ite_f h c2
    refine go_iload_n K dX11_lane_78 1 rfl rfl ?_
    refine go_istore K dX11_lane_79 (by decide) (lv' := [(8, .int v1), (7, .int t0), (1, .int v1), (2, .int v2), (3, .int v3), (4, .int v4), (5, .int v5), (6, .int v6)]) rfl ?_
    refine go_iload K dX11_lane_81 6 rfl ?_
    refine go_istore K dX11_lane_83 (by decide) (lv' := [(9, .int v5), (8, .int v1), (7, .int t0), (1, .int v1), (2, .int v2), (3, .int v3), (4, .int v4), (5, .int v5), (6, .int v6)]) rfl ?_
    refine go_iload K dX11_lane_85 7 rfl ?_
    refine go_istore K dX11_lane_87 (by decide) (lv' := [(10, .int v5), (9, .int v5), (8, .int v1), (7, .int t0), (1, .int v1), (2, .int v2), (3, .int v3), (4, .int v4), (5, .int v5), (6, .int v6)]) rfl ?_
    refine go_iload_n K dX11_lane_89 4 rfl rfl ?_
    refine go_iconst (v := (1 : Int32)) K dX11_lane_90 (by decide) ?_
    refine go_isub K dX11_lane_91 ?_
    refine go_istore K dX11_lane_92 (by decide) (lv' := [(11, .int (v1 - (1 : Int32))), (10, .int v5), (9, .int v5), (8, .int v1), (7, .int t0), (1, .int v1), (2, .int v2), (3, .int v3), (4, .int v4), (5, .int v5), (6, .int v6)]) rfl ?_
    exact go_sub [6, 7, 8, 10, 3, 2, 1, 0] rfl (hl94 FU _ _ _ _ _ _ _ _ h)
  have hj68 : ∀ (v1 : Int32) (v2 : Int32) (v3 : Int32) (v4 : Int32) (v5 : Int32) (v6 : Int32), X11_lane_j68 v1 v2 v3 v4 v5 v6 = some res → GO pM l eM (2) sM mM aM bM meM cM (MQ bM (va_Qi (fun (r' : Int32) (u : CM × OM) => r' = res ∧ u = (C, O)) (wB G) (Fr G)) aM sM 0 0 (Fr G)) G 13 (C, O) 68 [(1, .int v1), (2, .int v2), (3, .int v3), (4, .int v4), (5, .int v5), (6, .int v6)] [] := by
    intro v1 v2 v3 v4 v5 v6 h
    rw [X11_lane_j68] at h
    refine go_iconst (v := (0 : Int32)) K dX11_lane_68 (by decide) ?_
    exact hj69 _ _ _ _ _ _ _ h
  rw [f_X11_lane] at h
  refine go_iload_n K dX11_lane_0 1 rfl rfl ?_
  refine go_iconst (v := (1 : Int32)) K dX11_lane_1 (by decide) ?_
  refine go_bipush (v := (20 : Int32)) K dX11_lane_2 (by decide) ?_
  refine go_cSI K (c_X11_within l G _ _ _ _ _ _ rfl) cf_X11_within kt_X11_within km_X11_93 (by decide) rfl rfl (Nat.le_of_ble_eq_true rfl) dX11_lane_4 ?_
  refine go_if_eq (tgt := 68) K dX11_lane_7 (by decide) (fun c1 => ?_) (fun c1 => ?_)
  · replace h := ite_t h c1
    exact go_sub [1, 2, 3, 4, 5, 6] rfl (hj68 _ _ _ _ _ _ h)
  replace h := ite_f h c1
  refine go_iload_n K dX11_lane_10 2 rfl rfl ?_
  refine go_iconst (v := (0 : Int32)) K dX11_lane_11 (by decide) ?_
  refine go_bipush (v := (99 : Int32)) K dX11_lane_12 (by decide) ?_
  refine go_cSI K (c_X11_within l G _ _ _ _ _ _ rfl) cf_X11_within kt_X11_within km_X11_93 (by decide) rfl rfl (Nat.le_of_ble_eq_true rfl) dX11_lane_14 ?_
  refine go_if_eq (tgt := 68) K dX11_lane_17 (by decide) (fun c7 => ?_) (fun c7 => ?_)
  · replace h := ite_t h c7
    exact go_sub [1, 2, 3, 4, 5, 6] rfl (hj68 _ _ _ _ _ _ h)
  replace h := ite_f h c7
  refine go_iload_n K dX11_lane_20 3 rfl rfl ?_
  refine go_iconst (v := (0 : Int32)) K dX11_lane_21 (by decide) ?_
  refine go_bipush (v := (99 : Int32)) K dX11_lane_22 (by decide) ?_
  refine go_cSI K (c_X11_within l G _ _ _ _ _ _ rfl) cf_X11_within kt_X11_within km_X11_93 (by decide) rfl rfl (Nat.le_of_ble_eq_true rfl) dX11_lane_24 ?_
  refine go_if_eq (tgt := 68) K dX11_lane_27 (by decide) (fun c8 => ?_) (fun c8 => ?_)
  · replace h := ite_t h c8
    exact go_sub [1, 2, 3, 4, 5, 6] rfl (hj68 _ _ _ _ _ _ h)
  replace h := ite_f h c8
  refine go_iload K dX11_lane_30 4 rfl ?_
  refine go_iconst (v := (0 : Int32)) K dX11_lane_32 (by decide) ?_
  refine go_sipush (v := (999 : Int32)) K dX11_lane_33 (by decide) ?_
  refine go_cSI K (c_X11_within l G _ _ _ _ _ _ rfl) cf_X11_within kt_X11_within km_X11_93 (by decide) rfl rfl (Nat.le_of_ble_eq_true rfl) dX11_lane_36 ?_
  refine go_if_eq (tgt := 68) K dX11_lane_39 (by decide) (fun c9 => ?_) (fun c9 => ?_)
  · replace h := ite_t h c9
    exact go_sub [1, 2, 3, 4, 5, 6] rfl (hj68 _ _ _ _ _ _ h)
  replace h := ite_f h c9
  refine go_iload K dX11_lane_42 5 rfl ?_
  refine go_iconst (v := (0 : Int32)) K dX11_lane_44 (by decide) ?_
  refine go_sipush (v := (9999 : Int32)) K dX11_lane_45 (by decide) ?_
  refine go_cSI K (c_X11_within l G _ _ _ _ _ _ rfl) cf_X11_within kt_X11_within km_X11_93 (by decide) rfl rfl (Nat.le_of_ble_eq_true rfl) dX11_lane_48 ?_
  refine go_if_eq (tgt := 68) K dX11_lane_51 (by decide) (fun c10 => ?_) (fun c10 => ?_)
  · replace h := ite_t h c10
    exact go_sub [1, 2, 3, 4, 5, 6] rfl (hj68 _ _ _ _ _ _ h)
  replace h := ite_f h c10
  refine go_iload K dX11_lane_54 6 rfl ?_
  refine go_iconst (v := (0 : Int32)) K dX11_lane_56 (by decide) ?_
  refine go_iconst (v := (2 : Int32)) K dX11_lane_57 (by decide) ?_
  refine go_cSI K (c_X11_within l G _ _ _ _ _ _ rfl) cf_X11_within kt_X11_within km_X11_93 (by decide) rfl rfl (Nat.le_of_ble_eq_true rfl) dX11_lane_58 ?_
  refine go_if_eq (tgt := 68) K dX11_lane_61 (by decide) (fun c11 => ?_) (fun c11 => ?_)
  · replace h := ite_t h c11
    exact go_sub [1, 2, 3, 4, 5, 6] rfl (hj68 _ _ _ _ _ _ h)
  replace h := ite_f h c11
  refine go_iconst (v := (1 : Int32)) K dX11_lane_64 (by decide) ?_
  refine go_goto (tgt := 69) K dX11_lane_65 (by decide) ?_
  exact go_sub [1, 2, 3, 4, 5, 6] rfl (hj69 _ _ _ _ _ _ _ h)
