noncomputable def f_X9_bows (q : Nat) (v1 : Int32) (v2 : Int32) (C : CM) : Option CM := (bnd2 (f_X1_sizeOf q v1 v2 C) (fun r1 C1 => (bnd (f_X7_owed (stI q) v1 v2 C1) (fun r2 => (bnd (f_X7_bends (stI q) v1 r1 C1) (fun C3 => (bnd (f_X7_setOwed (stI q) v1 v2 (r2 - r1) C3) (fun C4 => (if r1 ≤ r2 then (some C4) else (bnd2 (f_X1_moreOf q v2 v1 (r1 - r2) C4) (fun r6 C6 => (bnd (f_X7_owed (stI q) v2 v1 C6) (fun r7 => (bnd (f_X7_setOwed (stI q) v2 v1 (r7 + r6) C6) (fun C8 => (some C8))))))))))))))))
theorem cf_X9_bows : CF yX9_bows cX9_bows 6 (Option.none : Option Jvm.ClassFile.FieldType) 2 := ⟨kc_X9_bows, kj_X9, ⟨by decide +kernel, by decide +kernel, by decide +kernel⟩, by decide⟩
theorem cv_X9_bows : CFv yX9_bows := ⟨ki_X9_bows, ks_X9_bows⟩
set_option maxHeartbeats 4000000 in
set_option maxRecDepth 100000 in
theorem c_X9_bows (l : Launch) (G : GT) {q : Nat} (hq : q < 2) (v1 : Int32) (v2 : Int32) (C : CM) (O : OM) (C' : CM) (h : f_X9_bows q v1 v2 C = some C') : MV l G yX9_bows cX9_bows 6 (Option.none : Option Jvm.ClassFile.FieldType) (5) [.ref (gB G + twI q), .int v1, .int v2] (C, O) (C', O) := by
  unfold MV
  refine met_in RX9 (by decide +kernel) rfl [(0, .ref (gB G + twI q)), (1, .int v1), (2, .int v2)] rfl (Nat.le_of_ble_eq_true rfl) ?_
  intro pM eM sM mM aM bM meM cM K hr
  rw [f_X9_bows] at h
  refine go_aload_n K dX9_bows_0 0 rfl rfl ?_
  refine gf_X9 K hq 1 (by decide) kf_X9_24 (v := .ref (gB G + laI q)) rfl dX9_bows_1 ?_
  refine go_iload_n K dX9_bows_4 1 rfl rfl ?_
  refine go_iload_n K dX9_bows_5 2 rfl rfl ?_
  obtain ⟨r1, C1, e1, h⟩ := bnd2_e h
  refine go_cVI K (c_X1_sizeOf l G hq _ _ _ _ _ _ e1) cf_X1_sizeOf cv_X1_sizeOf km_X9_38 (rv_X1 hq) (by decide) rfl rfl (Nat.le_of_ble_eq_true rfl) dX9_bows_6 ?_
  refine go_istore_n K dX9_bows_9 rfl (by decide) (lv' := [(3, .int r1), (0, .ref (gB G + twI q)), (1, .int v1), (2, .int v2)]) rfl ?_
  refine go_aload_n K dX9_bows_10 1 rfl rfl ?_
  refine gf_X9 K hq 0 (by decide) kf_X9_15 (v := .ref (gB G + (stI q))) rfl dX9_bows_11 ?_
  refine go_iload_n K dX9_bows_14 2 rfl rfl ?_
  refine go_iload_n K dX9_bows_15 3 rfl rfl ?_
  obtain ⟨r2, e2, h⟩ := bnd_e h
  refine go_cVI K (c_X7_owed l G (st_q hq) _ _ _ _ _ e2) cf_X7_owed cv_X7_owed km_X9_42 (rv_X7 (st_q hq)) (by decide) rfl rfl (Nat.le_of_ble_eq_true rfl) dX9_bows_16 ?_
  refine go_istore K dX9_bows_19 (by decide) (lv' := [(4, .int r2), (3, .int r1), (0, .ref (gB G + twI q)), (1, .int v1), (2, .int v2)]) rfl ?_
  refine go_aload_n K dX9_bows_21 2 rfl rfl ?_
  refine gf_X9 K hq 0 (by decide) kf_X9_15 (v := .ref (gB G + (stI q))) rfl dX9_bows_22 ?_
  refine go_iload_n K dX9_bows_25 3 rfl rfl ?_
  refine go_iload_n K dX9_bows_26 1 rfl rfl ?_
  obtain ⟨C3, e3, h⟩ := bnd_e h
  refine go_cVV K (c_X7_bends l G (st_q hq) _ _ _ _ _ e3) cf_X7_bends cv_X7_bends km_X9_45 (rv_X7 (st_q hq)) (by decide) rfl rfl (Nat.le_of_ble_eq_true rfl) dX9_bows_27 ?_
  refine go_aload_n K dX9_bows_30 2 rfl rfl ?_
  refine gf_X9 K hq 0 (by decide) kf_X9_15 (v := .ref (gB G + (stI q))) rfl dX9_bows_31 ?_
  refine go_iload_n K dX9_bows_34 3 rfl rfl ?_
  refine go_iload_n K dX9_bows_35 4 rfl rfl ?_
  refine go_iload K dX9_bows_36 0 rfl ?_
  refine go_iload_n K dX9_bows_38 1 rfl rfl ?_
  refine go_isub K dX9_bows_39 ?_
  obtain ⟨C4, e4, h⟩ := bnd_e h
  refine go_cVV K (c_X7_setOwed l G (st_q hq) _ _ _ _ _ _ e4) cf_X7_setOwed cv_X7_setOwed km_X9_49 (rv_X7 (st_q hq)) (by decide) rfl rfl (Nat.le_of_ble_eq_true rfl) dX9_bows_40 ?_
  refine go_iload_n K dX9_bows_43 1 rfl rfl ?_
  refine go_iload K dX9_bows_44 0 rfl ?_
  refine go_icmp_le (tgt := 85) K dX9_bows_46 (by decide) (fun c5 => ?_) (fun c5 => ?_)
  · replace h := ite_t h c5
    exact go_vret K hr (congrArg (fun z => (z, O)) (Option.some.inj h)) dX9_bows_85
  replace h := ite_f h c5
  refine go_aload_n K dX9_bows_49 2 rfl rfl ?_
  refine gf_X9 K hq 1 (by decide) kf_X9_24 (v := .ref (gB G + laI q)) rfl dX9_bows_50 ?_
  refine go_iload_n K dX9_bows_53 4 rfl rfl ?_
  refine go_iload_n K dX9_bows_54 3 rfl rfl ?_
  refine go_iload_n K dX9_bows_55 1 rfl rfl ?_
  refine go_iload K dX9_bows_56 0 rfl ?_
  refine go_isub K dX9_bows_58 ?_
  obtain ⟨r6, C6, e6, h⟩ := bnd2_e h
  refine go_cVI K (c_X1_moreOf l G hq _ _ _ _ _ _ _ e6) cf_X1_moreOf cv_X1_moreOf km_X9_53 (rv_X1 hq) (by decide) rfl rfl (Nat.le_of_ble_eq_true rfl) dX9_bows_59 ?_
  refine go_istore K dX9_bows_62 (by decide) (lv' := [(5, .int r6), (4, .int r2), (3, .int r1), (0, .ref (gB G + twI q)), (1, .int v1), (2, .int v2)]) rfl ?_
  refine go_aload_n K dX9_bows_64 3 rfl rfl ?_
  refine gf_X9 K hq 0 (by decide) kf_X9_15 (v := .ref (gB G + (stI q))) rfl dX9_bows_65 ?_
  refine go_iload_n K dX9_bows_68 5 rfl rfl ?_
  refine go_iload_n K dX9_bows_69 4 rfl rfl ?_
  refine go_aload_n K dX9_bows_70 3 rfl rfl ?_
  refine gf_X9 K hq 0 (by decide) kf_X9_15 (v := .ref (gB G + (stI q))) rfl dX9_bows_71 ?_
  refine go_iload_n K dX9_bows_74 5 rfl rfl ?_
  refine go_iload_n K dX9_bows_75 4 rfl rfl ?_
  obtain ⟨r7, e7, h⟩ := bnd_e h
  refine go_cVI K (c_X7_owed l G (st_q hq) _ _ _ _ _ e7) cf_X7_owed cv_X7_owed km_X9_42 (rv_X7 (st_q hq)) (by decide) rfl rfl (Nat.le_of_ble_eq_true rfl) dX9_bows_76 ?_
  refine go_iload K dX9_bows_79 0 rfl ?_
  refine go_iadd K dX9_bows_81 ?_
  obtain ⟨C8, e8, h⟩ := bnd_e h
  refine go_cVV K (c_X7_setOwed l G (st_q hq) _ _ _ _ _ _ e8) cf_X7_setOwed cv_X7_setOwed km_X9_49 (rv_X7 (st_q hq)) (by decide) rfl rfl (Nat.le_of_ble_eq_true rfl) dX9_bows_82 ?_
  exact go_vret K hr (congrArg (fun z => (z, O)) (Option.some.inj h)) dX9_bows_85
noncomputable def X9_passHour_j177 (q : Nat) (rc : Int32 → Int32 → CM → Option (Int32 × CM)) (v1 : Int32) (v2 : Int32) (C : CM) : Option (Int32 × CM) := (rc v1 (v2 + (1 : Int32)) C)
noncomputable def X9_passHour_l120 (q : Nat) : Nat → Int32 → Int32 → CM → Option (Int32 × CM)
  | 0, _, _, _ => none
  | n + 1, v1, v2, C => (if (C (stI q) 0) ≤ v2 then (some (v1, C)) else (bnd (f_X3_backOf v2 C) (fun r9 => (bnd (f_X7_sleeps (stI q) v2 r9 C) (fun C10 => (bnd (f_X7_owesTogether (stI q) v2 C10) (fun r11 => (bnd2 (f_X1_ruinOf q v2 C10) (fun r12 C12 => (if r11 ≤ r12 then (X9_passHour_j177 q (fun v1 v2 C => X9_passHour_l120 q n v1 v2 C) v1 v2 C12) else (bnd (f_X7_ruins (stI q) v2 C12) (fun C14 => (X9_passHour_j177 q (fun v1 v2 C => X9_passHour_l120 q n v1 v2 C) (v1 + (1 : Int32)) v2 C14)))))))))))))
noncomputable def X9_passHour_j116 (q : Nat) (C : CM) : Option (Int32 × CM) := (X9_passHour_l120 q FU (0 : Int32) (0 : Int32) C)
noncomputable def X9_passHour_j110 (q : Nat) (rc : Int32 → CM → Option (Int32 × CM)) (k116 : CM → Option (Int32 × CM)) (v1 : Int32) (C : CM) : Option (Int32 × CM) := (rc (v1 + (1 : Int32)) C)
noncomputable def X9_passHour_j104 (q : Nat) (rc : Int32 → Int32 → CM → Option (Int32 × CM)) (k110 : Int32 → CM → Option (Int32 × CM)) (v1 : Int32) (v2 : Int32) (C : CM) : Option (Int32 × CM) := (rc v1 (v2 + (1 : Int32)) C)
noncomputable def X9_passHour_l63 (q : Nat) (k110 : Int32 → CM → Option (Int32 × CM)) : Nat → Int32 → Int32 → CM → Option (Int32 × CM)
  | 0, _, _, _ => none
  | n + 1, v1, v2, C => (if (C (stI q) 0) ≤ v2 then (k110 v1 C) else (bnd (f_X7_owed (stI q) v1 v2 C) (fun r4 => (if r4 ≤ 0 then (X9_passHour_j104 q (fun v1 v2 C => X9_passHour_l63 q k110 n v1 v2 C) k110 v1 v2 C) else (bnd2 (f_X1_lateOf q v1 v2 C) (fun r6 C6 => (bnd (f_X7_setOwed (stI q) v1 v2 r6 C6) (fun C7 => (X9_passHour_j104 q (fun v1 v2 C => X9_passHour_l63 q k110 n v1 v2 C) k110 v1 v2 C7)))))))))
noncomputable def X9_passHour_l50 (q : Nat) (k116 : CM → Option (Int32 × CM)) : Nat → Int32 → CM → Option (Int32 × CM)
  | 0, _, _ => none
  | n + 1, v1, C => (if (C (stI q) 0) ≤ v1 then (k116 C) else (X9_passHour_l63 q (fun v1 C => (X9_passHour_j110 q (fun v1 C => X9_passHour_l50 q k116 n v1 C) k116 v1 C)) FU v1 (0 : Int32) C))
noncomputable def f_X9_passHour (q : Nat) (C : CM) : Option (Int32 × CM) := (if (10 : Int32) ≤ ((up2 C (stI q) 2 ((C (stI q) 2) + (1 : Int32))) (stI q) 2) then (X9_passHour_l50 q (fun C => (X9_passHour_j116 q C)) FU (0 : Int32) (up2 (up2 (up2 C (stI q) 2 ((C (stI q) 2) + (1 : Int32))) (stI q) 2 (0 : Int32)) (stI q) 1 (((up2 (up2 C (stI q) 2 ((C (stI q) 2) + (1 : Int32))) (stI q) 2 (0 : Int32)) (stI q) 1) + (1 : Int32)))) else (some ((0 : Int32), (up2 C (stI q) 2 ((C (stI q) 2) + (1 : Int32))))))
theorem cf_X9_passHour : CF yX9_passHour cX9_passHour 3 (Option.some Jvm.ClassFile.FieldType.int) 0 := ⟨kc_X9_passHour, kj_X9, ⟨by decide +kernel, by decide +kernel, by decide +kernel⟩, by decide⟩
theorem cv_X9_passHour : CFv yX9_passHour := ⟨ki_X9_passHour, ks_X9_passHour⟩
set_option maxHeartbeats 4000000 in
set_option maxRecDepth 100000 in
theorem c_X9_passHour (l : Launch) (G : GT) {q : Nat} (hq : q < 2) (C : CM) (O : OM) (res : Int32) (C' : CM) (h : f_X9_passHour q C = some (res, C')) : MI l G yX9_passHour cX9_passHour 3 (Option.some Jvm.ClassFile.FieldType.int) (5) [.ref (gB G + twI q)] (C, O) res (C', O) := by
  unfold MI
  refine met_in RX9 (by decide +kernel) rfl [(0, .ref (gB G + twI q))] rfl (Nat.le_of_ble_eq_true rfl) ?_
  intro pM eM sM mM aM bM meM cM K hr
  have hl120 : ∀ (n120 : Nat) (v1 : Int32) (v2 : Int32) (C : CM), X9_passHour_l120 q n120 v1 v2 C = some (res, C') → GO pM l eM (5) sM mM aM bM meM cM (MQ bM (va_Qi (fun (r' : Int32) (u : CM × OM) => r' = res ∧ u = (C', O)) (wB G) (Fr G)) aM sM 0 0 (Fr G)) G 3 (C, O) 120 [(0, .ref (gB G + twI q)), (1, .int v1), (2, .int v2)] [] := by
    intro n120
    induction n120 with
    | zero =>
      intro v1 v2 C h
      rw [X9_passHour_l120] at h
      cases h
    | succ n120 ih120 =>
      have hj177 : ∀ (v1 : Int32) (v2 : Int32) (C : CM), X9_passHour_j177 q (fun v1 v2 C => X9_passHour_l120 q n120 v1 v2 C) v1 v2 C = some (res, C') → GO pM l eM (5) sM mM aM bM meM cM (MQ bM (va_Qi (fun (r' : Int32) (u : CM × OM) => r' = res ∧ u = (C', O)) (wB G) (Fr G)) aM sM 0 0 (Fr G)) G 3 (C, O) 177 [(0, .ref (gB G + twI q)), (1, .int v1), (2, .int v2)] [] := by
        intro v1 v2 C h
        rw [X9_passHour_j177] at h
        refine go_iinc K dX9_passHour_177 2 rfl (v := (v2 + (1 : Int32))) rfl (by decide) (lv' := [(2, .int (v2 + (1 : Int32))), (0, .ref (gB G + twI q)), (1, .int v1)]) rfl ?_
        refine go_goto (tgt := 120) K dX9_passHour_180 (by decide) ?_
        exact go_sub [1, 2, 0] rfl (ih120 _ _ _ h)
      intro v1 v2 C h
      rw [X9_passHour_l120] at h
      refine go_iload_n K dX9_passHour_120 2 rfl rfl ?_
      refine go_aload_n K dX9_passHour_121 0 rfl rfl ?_
      refine gf_X9 K hq 0 (by decide) kf_X9_15 (v := .ref (gB G + (stI q))) rfl dX9_passHour_122 ?_
      refine gf_X7 K (st_q hq) 0 (by decide) kf_X9_64 (v := .int (C (stI q) 0)) rfl dX9_passHour_125 ?_
      refine go_icmp_ge (tgt := 183) K dX9_passHour_128 (by decide) (fun c8 => ?_) (fun c8 => ?_)
      · replace h := ite_t h c8
        refine go_iload_n K dX9_passHour_183 1 rfl rfl ?_
        exact go_iret K hr (Prod.mk.inj (Option.some.inj h)).1 (congrArg (fun z => (z, O)) (Prod.mk.inj (Option.some.inj h)).2) dX9_passHour_184
      replace h := ite_f h c8
      refine go_aload_n K dX9_passHour_131 0 rfl rfl ?_
      refine gf_X9 K hq 0 (by decide) kf_X9_15 (v := .ref (gB G + (stI q))) rfl dX9_passHour_132 ?_
      refine go_iload_n K dX9_passHour_135 2 rfl rfl ?_
      refine go_aload_n K dX9_passHour_136 0 rfl rfl ?_
      refine gf_X9 K hq 2 (by decide) kf_X9_9 (v := .ref (gB G + 1)) rfl dX9_passHour_137 ?_
      refine go_iload_n K dX9_passHour_140 2 rfl rfl ?_
      obtain ⟨r9, e9, h⟩ := bnd_e h
      refine go_cVI K (c_X3_backOf l G _ _ _ _ e9) cf_X3_backOf cv_X3_backOf km_X9_70 rv_X3 (by decide) rfl rfl (Nat.le_of_ble_eq_true rfl) dX9_passHour_141 ?_
      obtain ⟨C10, e10, h⟩ := bnd_e h
      refine go_cVV K (c_X7_sleeps l G (st_q hq) _ _ _ _ _ e10) cf_X7_sleeps cv_X7_sleeps km_X9_75 (rv_X7 (st_q hq)) (by decide) rfl rfl (Nat.le_of_ble_eq_true rfl) dX9_passHour_144 ?_
      refine go_aload_n K dX9_passHour_147 0 rfl rfl ?_
      refine gf_X9 K hq 0 (by decide) kf_X9_15 (v := .ref (gB G + (stI q))) rfl dX9_passHour_148 ?_
      refine go_iload_n K dX9_passHour_151 2 rfl rfl ?_
      obtain ⟨r11, e11, h⟩ := bnd_e h
      refine go_cVI K (c_X7_owesTogether l G (st_q hq) _ _ _ _ e11) cf_X7_owesTogether cv_X7_owesTogether km_X9_78 (rv_X7 (st_q hq)) (by decide) rfl rfl (Nat.le_of_ble_eq_true rfl) dX9_passHour_152 ?_
      refine go_aload_n K dX9_passHour_155 0 rfl rfl ?_
      refine gf_X9 K hq 1 (by decide) kf_X9_24 (v := .ref (gB G + laI q)) rfl dX9_passHour_156 ?_
      refine go_iload_n K dX9_passHour_159 2 rfl rfl ?_
      obtain ⟨r12, C12, e12, h⟩ := bnd2_e h
      refine go_cVI K (c_X1_ruinOf l G hq _ _ _ _ _ e12) cf_X1_ruinOf cv_X1_ruinOf km_X9_81 (rv_X1 hq) (by decide) rfl rfl (Nat.le_of_ble_eq_true rfl) dX9_passHour_160 ?_
      refine go_icmp_le (tgt := 177) K dX9_passHour_163 (by decide) (fun c13 => ?_) (fun c13 => ?_)
      · replace h := ite_t h c13
        exact hj177 _ _ _ h
      replace h := ite_f h c13
      refine go_aload_n K dX9_passHour_166 0 rfl rfl ?_
      refine gf_X9 K hq 0 (by decide) kf_X9_15 (v := .ref (gB G + (stI q))) rfl dX9_passHour_167 ?_
      refine go_iload_n K dX9_passHour_170 2 rfl rfl ?_
      obtain ⟨C14, e14, h⟩ := bnd_e h
      refine go_cVV K (c_X7_ruins l G (st_q hq) _ _ _ _ e14) cf_X7_ruins cv_X7_ruins km_X9_84 (rv_X7 (st_q hq)) (by decide) rfl rfl (Nat.le_of_ble_eq_true rfl) dX9_passHour_171 ?_
      refine go_iinc K dX9_passHour_174 1 rfl (v := (v1 + (1 : Int32))) rfl (by decide) (lv' := [(1, .int (v1 + (1 : Int32))), (0, .ref (gB G + twI q)), (2, .int v2)]) rfl ?_
      exact go_sub [1, 0, 2] rfl (hj177 _ _ _ h)
  have hj116 : ∀ (C : CM), X9_passHour_j116 q C = some (res, C') → GO pM l eM (5) sM mM aM bM meM cM (MQ bM (va_Qi (fun (r' : Int32) (u : CM × OM) => r' = res ∧ u = (C', O)) (wB G) (Fr G)) aM sM 0 0 (Fr G)) G 3 (C, O) 116 [(0, .ref (gB G + twI q))] [] := by
    intro C h
    rw [X9_passHour_j116] at h
    refine go_iconst (v := (0 : Int32)) K dX9_passHour_116 (by decide) ?_
    refine go_istore_n K dX9_passHour_117 rfl (by decide) (lv' := [(1, .int (0 : Int32)), (0, .ref (gB G + twI q))]) rfl ?_
    refine go_iconst (v := (0 : Int32)) K dX9_passHour_118 (by decide) ?_
    refine go_istore_n K dX9_passHour_119 rfl (by decide) (lv' := [(2, .int (0 : Int32)), (1, .int (0 : Int32)), (0, .ref (gB G + twI q))]) rfl ?_
    exact go_sub [2, 1, 0] rfl (hl120 FU _ _ _ h)
  have hl50 : ∀ (n50 : Nat) (v1 : Int32) (C : CM), X9_passHour_l50 q (fun C => (X9_passHour_j116 q C)) n50 v1 C = some (res, C') → GO pM l eM (5) sM mM aM bM meM cM (MQ bM (va_Qi (fun (r' : Int32) (u : CM × OM) => r' = res ∧ u = (C', O)) (wB G) (Fr G)) aM sM 0 0 (Fr G)) G 3 (C, O) 50 [(0, .ref (gB G + twI q)), (1, .int v1)] [] := by
    intro n50
    induction n50 with
    | zero =>
      intro v1 C h
      rw [X9_passHour_l50] at h
      cases h
    | succ n50 ih50 =>
      have hj110 : ∀ (v1 : Int32) (C : CM), X9_passHour_j110 q (fun v1 C => X9_passHour_l50 q (fun C => (X9_passHour_j116 q C)) n50 v1 C) (fun C => (X9_passHour_j116 q C)) v1 C = some (res, C') → GO pM l eM (5) sM mM aM bM meM cM (MQ bM (va_Qi (fun (r' : Int32) (u : CM × OM) => r' = res ∧ u = (C', O)) (wB G) (Fr G)) aM sM 0 0 (Fr G)) G 3 (C, O) 110 [(0, .ref (gB G + twI q)), (1, .int v1)] [] := by
        intro v1 C h
        rw [X9_passHour_j110] at h
        refine go_iinc K dX9_passHour_110 1 rfl (v := (v1 + (1 : Int32))) rfl (by decide) (lv' := [(1, .int (v1 + (1 : Int32))), (0, .ref (gB G + twI q))]) rfl ?_
        refine go_goto (tgt := 50) K dX9_passHour_113 (by decide) ?_
        exact go_sub [1, 0] rfl (ih50 _ _ h)
      have hl63 : ∀ (n63 : Nat) (v1 : Int32) (v2 : Int32) (C : CM), X9_passHour_l63 q (fun v1 C => (X9_passHour_j110 q (fun v1 C => X9_passHour_l50 q (fun C => (X9_passHour_j116 q C)) n50 v1 C) (fun C => (X9_passHour_j116 q C)) v1 C)) n63 v1 v2 C = some (res, C') → GO pM l eM (5) sM mM aM bM meM cM (MQ bM (va_Qi (fun (r' : Int32) (u : CM × OM) => r' = res ∧ u = (C', O)) (wB G) (Fr G)) aM sM 0 0 (Fr G)) G 3 (C, O) 63 [(0, .ref (gB G + twI q)), (1, .int v1), (2, .int v2)] [] := by
        intro n63
        induction n63 with
        | zero =>
          intro v1 v2 C h
          rw [X9_passHour_l63] at h
          cases h
        | succ n63 ih63 =>
          have hj104 : ∀ (v1 : Int32) (v2 : Int32) (C : CM), X9_passHour_j104 q (fun v1 v2 C => X9_passHour_l63 q (fun v1 C => (X9_passHour_j110 q (fun v1 C => X9_passHour_l50 q (fun C => (X9_passHour_j116 q C)) n50 v1 C) (fun C => (X9_passHour_j116 q C)) v1 C)) n63 v1 v2 C) (fun v1 C => (X9_passHour_j110 q (fun v1 C => X9_passHour_l50 q (fun C => (X9_passHour_j116 q C)) n50 v1 C) (fun C => (X9_passHour_j116 q C)) v1 C)) v1 v2 C = some (res, C') → GO pM l eM (5) sM mM aM bM meM cM (MQ bM (va_Qi (fun (r' : Int32) (u : CM × OM) => r' = res ∧ u = (C', O)) (wB G) (Fr G)) aM sM 0 0 (Fr G)) G 3 (C, O) 104 [(0, .ref (gB G + twI q)), (1, .int v1), (2, .int v2)] [] := by
            intro v1 v2 C h
            rw [X9_passHour_j104] at h
            refine go_iinc K dX9_passHour_104 2 rfl (v := (v2 + (1 : Int32))) rfl (by decide) (lv' := [(2, .int (v2 + (1 : Int32))), (0, .ref (gB G + twI q)), (1, .int v1)]) rfl ?_
            refine go_goto (tgt := 63) K dX9_passHour_107 (by decide) ?_
            exact go_sub [1, 2, 0] rfl (ih63 _ _ _ h)
          intro v1 v2 C h
          rw [X9_passHour_l63] at h
          refine go_iload_n K dX9_passHour_63 2 rfl rfl ?_
          refine go_aload_n K dX9_passHour_64 0 rfl rfl ?_
          refine gf_X9 K hq 0 (by decide) kf_X9_15 (v := .ref (gB G + (stI q))) rfl dX9_passHour_65 ?_
          refine gf_X7 K (st_q hq) 0 (by decide) kf_X9_64 (v := .int (C (stI q) 0)) rfl dX9_passHour_68 ?_
          refine go_icmp_ge (tgt := 110) K dX9_passHour_71 (by decide) (fun c3 => ?_) (fun c3 => ?_)
          · replace h := ite_t h c3
            exact go_sub [0, 1] rfl (hj110 _ _ h)
          replace h := ite_f h c3
          refine go_aload_n K dX9_passHour_74 0 rfl rfl ?_
          refine gf_X9 K hq 0 (by decide) kf_X9_15 (v := .ref (gB G + (stI q))) rfl dX9_passHour_75 ?_
          refine go_iload_n K dX9_passHour_78 1 rfl rfl ?_
          refine go_iload_n K dX9_passHour_79 2 rfl rfl ?_
          obtain ⟨r4, e4, h⟩ := bnd_e h
          refine go_cVI K (c_X7_owed l G (st_q hq) _ _ _ _ _ e4) cf_X7_owed cv_X7_owed km_X9_42 (rv_X7 (st_q hq)) (by decide) rfl rfl (Nat.le_of_ble_eq_true rfl) dX9_passHour_80 ?_
          refine go_if_le (tgt := 104) K dX9_passHour_83 (by decide) (fun c5 => ?_) (fun c5 => ?_)
          · replace h := ite_t h c5
            exact hj104 _ _ _ h
          replace h := ite_f h c5
          refine go_aload_n K dX9_passHour_86 0 rfl rfl ?_
          refine gf_X9 K hq 0 (by decide) kf_X9_15 (v := .ref (gB G + (stI q))) rfl dX9_passHour_87 ?_
          refine go_iload_n K dX9_passHour_90 1 rfl rfl ?_
          refine go_iload_n K dX9_passHour_91 2 rfl rfl ?_
          refine go_aload_n K dX9_passHour_92 0 rfl rfl ?_
          refine gf_X9 K hq 1 (by decide) kf_X9_24 (v := .ref (gB G + laI q)) rfl dX9_passHour_93 ?_
          refine go_iload_n K dX9_passHour_96 1 rfl rfl ?_
          refine go_iload_n K dX9_passHour_97 2 rfl rfl ?_
          obtain ⟨r6, C6, e6, h⟩ := bnd2_e h
          refine go_cVI K (c_X1_lateOf l G hq _ _ _ _ _ _ e6) cf_X1_lateOf cv_X1_lateOf km_X9_67 (rv_X1 hq) (by decide) rfl rfl (Nat.le_of_ble_eq_true rfl) dX9_passHour_98 ?_
          obtain ⟨C7, e7, h⟩ := bnd_e h
          refine go_cVV K (c_X7_setOwed l G (st_q hq) _ _ _ _ _ _ e7) cf_X7_setOwed cv_X7_setOwed km_X9_49 (rv_X7 (st_q hq)) (by decide) rfl rfl (Nat.le_of_ble_eq_true rfl) dX9_passHour_101 ?_
          exact hj104 _ _ _ h
      intro v1 C h
      rw [X9_passHour_l50] at h
      refine go_iload_n K dX9_passHour_50 1 rfl rfl ?_
      refine go_aload_n K dX9_passHour_51 0 rfl rfl ?_
      refine gf_X9 K hq 0 (by decide) kf_X9_15 (v := .ref (gB G + (stI q))) rfl dX9_passHour_52 ?_
      refine gf_X7 K (st_q hq) 0 (by decide) kf_X9_64 (v := .int (C (stI q) 0)) rfl dX9_passHour_55 ?_
      refine go_icmp_ge (tgt := 116) K dX9_passHour_58 (by decide) (fun c2 => ?_) (fun c2 => ?_)
      · replace h := ite_t h c2
        exact go_sub [0] rfl (hj116 _ h)
      replace h := ite_f h c2
      refine go_iconst (v := (0 : Int32)) K dX9_passHour_61 (by decide) ?_
      refine go_istore_n K dX9_passHour_62 rfl (by decide) (lv' := [(2, .int (0 : Int32)), (0, .ref (gB G + twI q)), (1, .int v1)]) rfl ?_
      exact go_sub [1, 2, 0] rfl (hl63 FU _ _ _ h)
  rw [f_X9_passHour] at h
  refine go_aload_n K dX9_passHour_0 0 rfl rfl ?_
  refine gf_X9 K hq 0 (by decide) kf_X9_15 (v := .ref (gB G + (stI q))) rfl dX9_passHour_1 ?_
  refine go_dup K dX9_passHour_4 rfl ?_
  refine gf_X7 K (st_q hq) 2 (by decide) kf_X9_57 (v := .int (C (stI q) 2)) rfl dX9_passHour_5 ?_
  refine go_iconst (v := (1 : Int32)) K dX9_passHour_8 (by decide) ?_
  refine go_iadd K dX9_passHour_9 ?_
  refine pf_X7 K (st_q hq) 2 (by decide) kf_X9_57 rfl rfl rfl dX9_passHour_10 ?_
  refine go_aload_n K dX9_passHour_13 0 rfl rfl ?_
  refine gf_X9 K hq 0 (by decide) kf_X9_15 (v := .ref (gB G + (stI q))) rfl dX9_passHour_14 ?_
  refine gf_X7 K (st_q hq) 2 (by decide) kf_X9_57 (v := .int ((up2 C (stI q) 2 ((C (stI q) 2) + (1 : Int32))) (stI q) 2)) rfl dX9_passHour_17 ?_
  refine go_bipush (v := (10 : Int32)) K dX9_passHour_20 (by decide) ?_
  refine go_icmp_ge (tgt := 27) K dX9_passHour_22 (by decide) (fun c1 => ?_) (fun c1 => ?_)
  rotate_left
  · replace h := ite_f h c1
    refine go_iconst (v := (0 : Int32)) K dX9_passHour_25 (by decide) ?_
    exact go_iret K hr (Prod.mk.inj (Option.some.inj h)).1 (congrArg (fun z => (z, O)) (Prod.mk.inj (Option.some.inj h)).2) dX9_passHour_26
  replace h := ite_t h c1
  refine go_aload_n K dX9_passHour_27 0 rfl rfl ?_
  refine gf_X9 K hq 0 (by decide) kf_X9_15 (v := .ref (gB G + (stI q))) rfl dX9_passHour_28 ?_
  refine go_iconst (v := (0 : Int32)) K dX9_passHour_31 (by decide) ?_
  refine pf_X7 K (st_q hq) 2 (by decide) kf_X9_57 rfl rfl rfl dX9_passHour_32 ?_
  refine go_aload_n K dX9_passHour_35 0 rfl rfl ?_
  refine gf_X9 K hq 0 (by decide) kf_X9_15 (v := .ref (gB G + (stI q))) rfl dX9_passHour_36 ?_
  refine go_dup K dX9_passHour_39 rfl ?_
  refine gf_X7 K (st_q hq) 1 (by decide) kf_X9_61 (v := .int ((up2 (up2 C (stI q) 2 ((C (stI q) 2) + (1 : Int32))) (stI q) 2 (0 : Int32)) (stI q) 1)) rfl dX9_passHour_40 ?_
  refine go_iconst (v := (1 : Int32)) K dX9_passHour_43 (by decide) ?_
  refine go_iadd K dX9_passHour_44 ?_
  refine pf_X7 K (st_q hq) 1 (by decide) kf_X9_61 rfl rfl rfl dX9_passHour_45 ?_
  refine go_iconst (v := (0 : Int32)) K dX9_passHour_48 (by decide) ?_
  refine go_istore_n K dX9_passHour_49 rfl (by decide) (lv' := [(1, .int (0 : Int32)), (0, .ref (gB G + twI q))]) rfl ?_
  exact go_sub [1, 0] rfl (hl50 FU _ _ h)
noncomputable def X9_drawDeed_j106 (q : Nat) (C : CM) : Option CM := (some C)
noncomputable def X9_drawDeed_j85 (q : Nat) (v2 : Int32) (t0 : Int32) (C : CM) : Option CM := (bnd (f_X7_out (stI q) v2 C) (fun r13 => (if r13 = 0 then (X9_drawDeed_j106 q C) else (bnd (f_X7_walks (stI q) v2 t0 C) (fun C15 => (X9_drawDeed_j106 q C15))))))
noncomputable def X9_drawDeed_j60 (q : Nat) (C : CM) : Option CM := (some C)
noncomputable def f_X9_drawDeed (q : Nat) (C : CM) : Option CM := (bnd2 (f_X7_draw (stI q) (7 : Int32) C) (fun r1 C1 => (bnd2 (f_X7_draw (stI q) (C1 (stI q) 0) C1) (fun r2 C2 => (if (2 : Int32) < r1 then (if r1 = (3 : Int32) then (bnd2 (f_X7_draw (stI q) (2 : Int32) C2) (fun r11 C11 => (if r11 = (1 : Int32) then (X9_drawDeed_j85 q r2 (1 : Int32) C11) else (X9_drawDeed_j85 q r2 (-1 : Int32) C11)))) else (if r1 = (4 : Int32) then (bnd2 (f_X7_draw (stI q) (9 : Int32) C2) (fun r8 C8 => (if r8 = 0 then (bnd2 (f_X7_forgives (stI q) C8) (fun r10 C10 => (some C10))) else (some C8)))) else (if (f_X7_hoursToCome (stI q) C2) ≤ 0 then (some C2) else (bnd2 (f_X9_passHour q C2) (fun r7 C7 => (some C7)))))) else (bnd2 (f_X7_draw (stI q) (C2 (stI q) 0) C2) (fun r16 C16 => (bnd2 (f_X9_canBow q r2 r16 C16) (fun r17 C17 => (if r17 = 0 then (X9_drawDeed_j60 q C17) else (bnd (f_X9_bows q r2 r16 C17) (fun C19 => (X9_drawDeed_j60 q C19)))))))))))))
theorem cf_X9_drawDeed : CF yX9_drawDeed cX9_drawDeed 4 (Option.none : Option Jvm.ClassFile.FieldType) 0 := ⟨kc_X9_drawDeed, kj_X9, ⟨by decide +kernel, by decide +kernel, by decide +kernel⟩, by decide⟩
theorem cv_X9_drawDeed : CFv yX9_drawDeed := ⟨ki_X9_drawDeed, ks_X9_drawDeed⟩
set_option maxHeartbeats 4000000 in
set_option maxRecDepth 100000 in
theorem c_X9_drawDeed (l : Launch) (G : GT) {q : Nat} (hq : q < 2) (C : CM) (O : OM) (C' : CM) (h : f_X9_drawDeed q C = some C') : MV l G yX9_drawDeed cX9_drawDeed 4 (Option.none : Option Jvm.ClassFile.FieldType) (6) [.ref (gB G + twI q)] (C, O) (C', O) := by
  unfold MV
  refine met_in RX9 (by decide +kernel) rfl [(0, .ref (gB G + twI q))] rfl (Nat.le_of_ble_eq_true rfl) ?_
  intro pM eM sM mM aM bM meM cM K hr
  have hj106 : ∀ (C : CM), X9_drawDeed_j106 q C = some C' → GO pM l eM (6) sM mM aM bM meM cM (MQ bM (va_Qv (fun (u : CM × OM) => u = (C', O)) (wB G) (Fr G)) aM sM 0 0 (Fr G)) G 4 (C, O) 106 [] [] := by
    intro C h
    rw [X9_drawDeed_j106] at h
    refine go_goto (tgt := 152) K dX9_drawDeed_106 (by decide) ?_
    exact go_vret K hr (congrArg (fun z => (z, O)) (Option.some.inj h)) dX9_drawDeed_152
  have hj85 : ∀ (v2 : Int32) (t0 : Int32) (C : CM), X9_drawDeed_j85 q v2 t0 C = some C' → GO pM l eM (6) sM mM aM bM meM cM (MQ bM (va_Qv (fun (u : CM × OM) => u = (C', O)) (wB G) (Fr G)) aM sM 0 0 (Fr G)) G 4 (C, O) 85 [(0, .ref (gB G + twI q)), (2, .int v2)] [.int t0] := by
    intro v2 t0 C h
    rw [X9_drawDeed_j85] at h
    refine go_istore_n K dX9_drawDeed_85 rfl (by decide) (lv' := [(3, .int t0), (0, .ref (gB G + twI q)), (2, .int v2)]) rfl ?_
    refine go_aload_n K dX9_drawDeed_86 1 rfl rfl ?_
    refine gf_X9 K hq 0 (by decide) kf_X9_15 (v := .ref (gB G + (stI q))) rfl dX9_drawDeed_87 ?_
    refine go_iload_n K dX9_drawDeed_90 2 rfl rfl ?_
    obtain ⟨r13, e13, h⟩ := bnd_e h
    refine go_cVI K (c_X7_out l G (st_q hq) _ _ _ _ e13) cf_X7_out cv_X7_out km_X9_97 (rv_X7 (st_q hq)) (by decide) rfl rfl (Nat.le_of_ble_eq_true rfl) dX9_drawDeed_91 ?_
    refine go_if_eq (tgt := 106) K dX9_drawDeed_94 (by decide) (fun c14 => ?_) (fun c14 => ?_)
    · replace h := ite_t h c14
      exact go_sub [] rfl (hj106 _ h)
    replace h := ite_f h c14
    refine go_aload_n K dX9_drawDeed_97 1 rfl rfl ?_
    refine gf_X9 K hq 0 (by decide) kf_X9_15 (v := .ref (gB G + (stI q))) rfl dX9_drawDeed_98 ?_
    refine go_iload_n K dX9_drawDeed_101 2 rfl rfl ?_
    refine go_iload_n K dX9_drawDeed_102 0 rfl rfl ?_
    obtain ⟨C15, e15, h⟩ := bnd_e h
    refine go_cVV K (c_X7_walks l G (st_q hq) _ _ _ _ _ e15) cf_X7_walks cv_X7_walks km_X9_101 (rv_X7 (st_q hq)) (by decide) rfl rfl (Nat.le_of_ble_eq_true rfl) dX9_drawDeed_103 ?_
    exact go_sub [] rfl (hj106 _ h)
  have hj60 : ∀ (C : CM), X9_drawDeed_j60 q C = some C' → GO pM l eM (6) sM mM aM bM meM cM (MQ bM (va_Qv (fun (u : CM × OM) => u = (C', O)) (wB G) (Fr G)) aM sM 0 0 (Fr G)) G 4 (C, O) 60 [] [] := by
    intro C h
    rw [X9_drawDeed_j60] at h
    refine go_goto (tgt := 152) K dX9_drawDeed_60 (by decide) ?_
    exact go_vret K hr (congrArg (fun z => (z, O)) (Option.some.inj h)) dX9_drawDeed_152
  rw [f_X9_drawDeed] at h
  refine go_aload_n K dX9_drawDeed_0 0 rfl rfl ?_
  refine gf_X9 K hq 0 (by decide) kf_X9_15 (v := .ref (gB G + (stI q))) rfl dX9_drawDeed_1 ?_
  refine go_bipush (v := (7 : Int32)) K dX9_drawDeed_4 (by decide) ?_
  obtain ⟨r1, C1, e1, h⟩ := bnd2_e h
  refine go_cVI K (c_X7_draw l G (st_q hq) _ _ _ _ _ e1) cf_X7_draw cv_X7_draw km_X9_88 (rv_X7 (st_q hq)) (by decide) rfl rfl (Nat.le_of_ble_eq_true rfl) dX9_drawDeed_6 ?_
  refine go_istore_n K dX9_drawDeed_9 rfl (by decide) (lv' := [(1, .int r1), (0, .ref (gB G + twI q))]) rfl ?_
  refine go_aload_n K dX9_drawDeed_10 1 rfl rfl ?_
  refine gf_X9 K hq 0 (by decide) kf_X9_15 (v := .ref (gB G + (stI q))) rfl dX9_drawDeed_11 ?_
  refine go_aload_n K dX9_drawDeed_14 1 rfl rfl ?_
  refine gf_X9 K hq 0 (by decide) kf_X9_15 (v := .ref (gB G + (stI q))) rfl dX9_drawDeed_15 ?_
  refine gf_X7 K (st_q hq) 0 (by decide) kf_X9_64 (v := .int (C1 (stI q) 0)) rfl dX9_drawDeed_18 ?_
  obtain ⟨r2, C2, e2, h⟩ := bnd2_e h
  refine go_cVI K (c_X7_draw l G (st_q hq) _ _ _ _ _ e2) cf_X7_draw cv_X7_draw km_X9_88 (rv_X7 (st_q hq)) (by decide) rfl rfl (Nat.le_of_ble_eq_true rfl) dX9_drawDeed_21 ?_
  refine go_istore_n K dX9_drawDeed_24 rfl (by decide) (lv' := [(2, .int r2), (1, .int r1), (0, .ref (gB G + twI q))]) rfl ?_
  refine go_iload_n K dX9_drawDeed_25 1 rfl rfl ?_
  refine go_iconst (v := (2 : Int32)) K dX9_drawDeed_26 (by decide) ?_
  refine go_icmp_gt (tgt := 63) K dX9_drawDeed_27 (by decide) (fun c3 => ?_) (fun c3 => ?_)
  rotate_left
  · replace h := ite_f h c3
    refine go_aload_n K dX9_drawDeed_30 2 rfl rfl ?_
    refine gf_X9 K hq 0 (by decide) kf_X9_15 (v := .ref (gB G + (stI q))) rfl dX9_drawDeed_31 ?_
    refine go_aload_n K dX9_drawDeed_34 2 rfl rfl ?_
    refine gf_X9 K hq 0 (by decide) kf_X9_15 (v := .ref (gB G + (stI q))) rfl dX9_drawDeed_35 ?_
    refine gf_X7 K (st_q hq) 0 (by decide) kf_X9_64 (v := .int (C2 (stI q) 0)) rfl dX9_drawDeed_38 ?_
    obtain ⟨r16, C16, e16, h⟩ := bnd2_e h
    refine go_cVI K (c_X7_draw l G (st_q hq) _ _ _ _ _ e16) cf_X7_draw cv_X7_draw km_X9_88 (rv_X7 (st_q hq)) (by decide) rfl rfl (Nat.le_of_ble_eq_true rfl) dX9_drawDeed_41 ?_
    refine go_istore_n K dX9_drawDeed_44 rfl (by decide) (lv' := [(3, .int r16), (2, .int r2), (1, .int r1), (0, .ref (gB G + twI q))]) rfl ?_
    refine go_aload_n K dX9_drawDeed_45 3 rfl rfl ?_
    refine go_iload_n K dX9_drawDeed_46 1 rfl rfl ?_
    refine go_iload_n K dX9_drawDeed_47 0 rfl rfl ?_
    obtain ⟨r17, C17, e17, h⟩ := bnd2_e h
    refine go_cVI K (c_X9_canBow l G hq _ _ _ _ _ _ e17) cf_X9_canBow cv_X9_canBow km_X9_91 (rv_X9 hq) (by decide) rfl rfl (Nat.le_of_ble_eq_true rfl) dX9_drawDeed_48 ?_
    refine go_if_eq (tgt := 60) K dX9_drawDeed_51 (by decide) (fun c18 => ?_) (fun c18 => ?_)
    · replace h := ite_t h c18
      exact go_sub [] rfl (hj60 _ h)
    replace h := ite_f h c18
    refine go_aload_n K dX9_drawDeed_54 3 rfl rfl ?_
    refine go_iload_n K dX9_drawDeed_55 1 rfl rfl ?_
    refine go_iload_n K dX9_drawDeed_56 0 rfl rfl ?_
    obtain ⟨C19, e19, h⟩ := bnd_e h
    refine go_cVV K (c_X9_bows l G hq _ _ _ _ _ e19) cf_X9_bows cv_X9_bows km_X9_94 (rv_X9 hq) (by decide) rfl rfl (Nat.le_of_ble_eq_true rfl) dX9_drawDeed_57 ?_
    exact go_sub [] rfl (hj60 _ h)
  replace h := ite_t h c3
  refine go_iload_n K dX9_drawDeed_63 1 rfl rfl ?_
  refine go_iconst (v := (3 : Int32)) K dX9_drawDeed_64 (by decide) ?_
  refine go_icmp_ne (tgt := 109) K dX9_drawDeed_65 (by decide) (fun c4 => ?_) (fun c4 => ?_)
  rotate_left
  · replace h := ite_t h c4
    refine go_aload_n K dX9_drawDeed_68 2 rfl rfl ?_
    refine gf_X9 K hq 0 (by decide) kf_X9_15 (v := .ref (gB G + (stI q))) rfl dX9_drawDeed_69 ?_
    refine go_iconst (v := (2 : Int32)) K dX9_drawDeed_72 (by decide) ?_
    obtain ⟨r11, C11, e11, h⟩ := bnd2_e h
    refine go_cVI K (c_X7_draw l G (st_q hq) _ _ _ _ _ e11) cf_X7_draw cv_X7_draw km_X9_88 (rv_X7 (st_q hq)) (by decide) rfl rfl (Nat.le_of_ble_eq_true rfl) dX9_drawDeed_73 ?_
    refine go_iconst (v := (1 : Int32)) K dX9_drawDeed_76 (by decide) ?_
    refine go_icmp_ne (tgt := 84) K dX9_drawDeed_77 (by decide) (fun c12 => ?_) (fun c12 => ?_)
    · replace h := ite_f h c12
      refine go_iconst (v := (-1 : Int32)) K dX9_drawDeed_84 (by decide) ?_
      exact go_sub [2, 0] rfl (hj85 _ _ _ h)
    replace h := ite_t h c12
    refine go_iconst (v := (1 : Int32)) K dX9_drawDeed_80 (by decide) ?_
    refine go_goto (tgt := 85) K dX9_drawDeed_81 (by decide) ?_
    exact go_sub [2, 0] rfl (hj85 _ _ _ h)
  replace h := ite_f h c4
  refine go_iload_n K dX9_drawDeed_109 1 rfl rfl ?_
  refine go_iconst (v := (4 : Int32)) K dX9_drawDeed_110 (by decide) ?_
  refine go_icmp_ne (tgt := 137) K dX9_drawDeed_111 (by decide) (fun c5 => ?_) (fun c5 => ?_)
  · replace h := ite_f h c5
    refine go_aload_n K dX9_drawDeed_137 2 rfl rfl ?_
    refine gf_X9 K hq 0 (by decide) kf_X9_15 (v := .ref (gB G + (stI q))) rfl dX9_drawDeed_138 ?_
    refine go_cVI K (c_X7_hoursToCome l G (st_q hq) _ _ _ rfl) cf_X7_hoursToCome cv_X7_hoursToCome km_X9_108 (rv_X7 (st_q hq)) (by decide) rfl rfl (Nat.le_of_ble_eq_true rfl) dX9_drawDeed_141 ?_
    refine go_if_le (tgt := 152) K dX9_drawDeed_144 (by decide) (fun c6 => ?_) (fun c6 => ?_)
    · replace h := ite_t h c6
      exact go_vret K hr (congrArg (fun z => (z, O)) (Option.some.inj h)) dX9_drawDeed_152
    replace h := ite_f h c6
    refine go_aload_n K dX9_drawDeed_147 2 rfl rfl ?_
    obtain ⟨r7, C7, e7, h⟩ := bnd2_e h
    refine go_cVI K (c_X9_passHour l G hq _ _ _ _ e7) cf_X9_passHour cv_X9_passHour km_X9_111 (rv_X9 hq) (by decide) rfl rfl (Nat.le_of_ble_eq_true rfl) dX9_drawDeed_148 ?_
    refine go_pop K dX9_drawDeed_151 rfl ?_
    exact go_vret K hr (congrArg (fun z => (z, O)) (Option.some.inj h)) dX9_drawDeed_152
  replace h := ite_t h c5
  refine go_aload_n K dX9_drawDeed_114 2 rfl rfl ?_
  refine gf_X9 K hq 0 (by decide) kf_X9_15 (v := .ref (gB G + (stI q))) rfl dX9_drawDeed_115 ?_
  refine go_bipush (v := (9 : Int32)) K dX9_drawDeed_118 (by decide) ?_
  obtain ⟨r8, C8, e8, h⟩ := bnd2_e h
  refine go_cVI K (c_X7_draw l G (st_q hq) _ _ _ _ _ e8) cf_X7_draw cv_X7_draw km_X9_88 (rv_X7 (st_q hq)) (by decide) rfl rfl (Nat.le_of_ble_eq_true rfl) dX9_drawDeed_120 ?_
  refine go_if_ne (tgt := 152) K dX9_drawDeed_123 (by decide) (fun c9 => ?_) (fun c9 => ?_)
  · replace h := ite_f h c9
    exact go_vret K hr (congrArg (fun z => (z, O)) (Option.some.inj h)) dX9_drawDeed_152
  replace h := ite_t h c9
  refine go_aload_n K dX9_drawDeed_126 2 rfl rfl ?_
  refine gf_X9 K hq 0 (by decide) kf_X9_15 (v := .ref (gB G + (stI q))) rfl dX9_drawDeed_127 ?_
  obtain ⟨r10, C10, e10, h⟩ := bnd2_e h
  refine go_cVI K (c_X7_forgives l G (st_q hq) _ _ _ _ e10) cf_X7_forgives cv_X7_forgives km_X9_104 (rv_X7 (st_q hq)) (by decide) rfl rfl (Nat.le_of_ble_eq_true rfl) dX9_drawDeed_130 ?_
  refine go_pop K dX9_drawDeed_133 rfl ?_
  refine go_goto (tgt := 152) K dX9_drawDeed_134 (by decide) ?_
  exact go_vret K hr (congrArg (fun z => (z, O)) (Option.some.inj h)) dX9_drawDeed_152
noncomputable def X10_copyFrom_j102 (w x : Nat) (rc : Int32 → CM → Option CM) (v2 : Int32) (C : CM) : Option CM := (rc (v2 + (1 : Int32)) C)
noncomputable def X10_copyFrom_l63 (w x : Nat) : Nat → Int32 → CM → Option CM
  | 0, _, _ => none
  | n + 1, v2, C => (if (30 : Int32) ≤ v2 then (some C) else (gd (inb v2 30) (gd (inb v2 30) (bnd (f_X7_copyFrom ((w + 8) + 1 + 6 * v2.toNatClampNeg) ((x + 8) + 1 + 6 * v2.toNatClampNeg) C) (fun C5 => (X10_copyFrom_j102 w x (fun v2 C => X10_copyFrom_l63 w x n v2 C) v2 C5))))))
noncomputable def f_X10_copyFrom (w x : Nat) (C : CM) : Option CM := (bnd (f_X7_copyFrom (w + 1) (x + 1) C) (fun C1 => (X10_copyFrom_l63 w x FU (0 : Int32) (up2 (up2 (up2 (up2 (rowC C1 (w + 7) (va_cpy (C1 (x + 7)) (C1 (w + 7)) 0 0 5)) w 2 ((rowC C1 (w + 7) (va_cpy (C1 (x + 7)) (C1 (w + 7)) 0 0 5)) x 2)) w 3 ((up2 (rowC C1 (w + 7) (va_cpy (C1 (x + 7)) (C1 (w + 7)) 0 0 5)) w 2 ((rowC C1 (w + 7) (va_cpy (C1 (x + 7)) (C1 (w + 7)) 0 0 5)) x 2)) x 3)) w 4 ((up2 (up2 (rowC C1 (w + 7) (va_cpy (C1 (x + 7)) (C1 (w + 7)) 0 0 5)) w 2 ((rowC C1 (w + 7) (va_cpy (C1 (x + 7)) (C1 (w + 7)) 0 0 5)) x 2)) w 3 ((up2 (rowC C1 (w + 7) (va_cpy (C1 (x + 7)) (C1 (w + 7)) 0 0 5)) w 2 ((rowC C1 (w + 7) (va_cpy (C1 (x + 7)) (C1 (w + 7)) 0 0 5)) x 2)) x 3)) x 4)) w 6 ((up2 (up2 (up2 (rowC C1 (w + 7) (va_cpy (C1 (x + 7)) (C1 (w + 7)) 0 0 5)) w 2 ((rowC C1 (w + 7) (va_cpy (C1 (x + 7)) (C1 (w + 7)) 0 0 5)) x 2)) w 3 ((up2 (rowC C1 (w + 7) (va_cpy (C1 (x + 7)) (C1 (w + 7)) 0 0 5)) w 2 ((rowC C1 (w + 7) (va_cpy (C1 (x + 7)) (C1 (w + 7)) 0 0 5)) x 2)) x 3)) w 4 ((up2 (up2 (rowC C1 (w + 7) (va_cpy (C1 (x + 7)) (C1 (w + 7)) 0 0 5)) w 2 ((rowC C1 (w + 7) (va_cpy (C1 (x + 7)) (C1 (w + 7)) 0 0 5)) x 2)) w 3 ((up2 (rowC C1 (w + 7) (va_cpy (C1 (x + 7)) (C1 (w + 7)) 0 0 5)) w 2 ((rowC C1 (w + 7) (va_cpy (C1 (x + 7)) (C1 (w + 7)) 0 0 5)) x 2)) x 3)) x 4)) x 6)))))
theorem cf_X10_copyFrom : CF yX10_copyFrom cX10_copyFrom 5 (Option.none : Option Jvm.ClassFile.FieldType) 1 := ⟨kc_X10_copyFrom, kj_X10, ⟨by decide +kernel, by decide +kernel, by decide +kernel⟩, by decide⟩
theorem cv_X10_copyFrom : CFv yX10_copyFrom := ⟨ki_X10_copyFrom, ks_X10_copyFrom⟩
set_option maxHeartbeats 4000000 in
set_option maxRecDepth 100000 in
theorem c_X10_copyFrom (l : Launch) (G : GT) {x : Nat} {w : Nat} (hw : WhAt w) (hx : WhAt x) (C : CM) (O : OM) (C' : CM) (h : f_X10_copyFrom w x C = some C') : MV l G yX10_copyFrom cX10_copyFrom 5 (Option.none : Option Jvm.ClassFile.FieldType) (2) [.ref (gB G + w), .ref (gB G + x)] (C, O) (C', O) := by
  unfold MV
  refine met_in RX10 (by decide +kernel) rfl [(0, .ref (gB G + w)), (1, .ref (gB G + x))] rfl (Nat.le_of_ble_eq_true rfl) ?_
  intro pM eM sM mM aM bM meM cM K hr
  have hl63 : ∀ (n63 : Nat) (v2 : Int32) (C : CM), X10_copyFrom_l63 w x n63 v2 C = some C' → GO pM l eM (2) sM mM aM bM meM cM (MQ bM (va_Qv (fun (u : CM × OM) => u = (C', O)) (wB G) (Fr G)) aM sM 0 0 (Fr G)) G 5 (C, O) 63 [(0, .ref (gB G + w)), (1, .ref (gB G + x)), (2, .int v2)] [] := by
    intro n63
    induction n63 with
    | zero =>
      intro v2 C h
      rw [X10_copyFrom_l63] at h
      cases h
    | succ n63 ih63 =>
      have hj102 : ∀ (v2 : Int32) (C : CM), X10_copyFrom_j102 w x (fun v2 C => X10_copyFrom_l63 w x n63 v2 C) v2 C = some C' → GO pM l eM (2) sM mM aM bM meM cM (MQ bM (va_Qv (fun (u : CM × OM) => u = (C', O)) (wB G) (Fr G)) aM sM 0 0 (Fr G)) G 5 (C, O) 102 [(0, .ref (gB G + w)), (1, .ref (gB G + x)), (2, .int v2)] [] := by
        intro v2 C h
        rw [X10_copyFrom_j102] at h
        refine go_iinc K dX10_copyFrom_102 2 rfl (v := (v2 + (1 : Int32))) rfl (by decide) (lv' := [(2, .int (v2 + (1 : Int32))), (0, .ref (gB G + w)), (1, .ref (gB G + x))]) rfl ?_
        refine go_goto (tgt := 63) K dX10_copyFrom_105 (by decide) ?_
        exact go_sub [1, 2, 0] rfl (ih63 _ _ h)
      intro v2 C h
      rw [X10_copyFrom_l63] at h
      refine go_iload_n K dX10_copyFrom_63 2 rfl rfl ?_
      refine go_aload_n K dX10_copyFrom_64 0 rfl rfl ?_
      refine gf_X10 K hw 5 (by decide) kf_X10_26 (v := .ref (gB G + (w + 8))) rfl dX10_copyFrom_65 ?_
      refine go_stlen K (wh_lt hw 8 (by decide)) (wh_bf hw) (v := (30 : Int32)) rfl dX10_copyFrom_68 ?_
      refine go_icmp_ge (tgt := 108) K dX10_copyFrom_69 (by decide) (fun c2 => ?_) (fun c2 => ?_)
      · replace h := ite_t h c2
        exact go_vret K hr (congrArg (fun z => (z, O)) (Option.some.inj h)) dX10_copyFrom_108
      replace h := ite_f h c2
      refine go_aload_n K dX10_copyFrom_72 0 rfl rfl ?_
      refine gf_X10 K hw 5 (by decide) kf_X10_26 (v := .ref (gB G + (w + 8))) rfl dX10_copyFrom_73 ?_
      refine go_iload_n K dX10_copyFrom_76 2 rfl rfl ?_
      obtain ⟨g3, h⟩ := gd_e h
      refine go_stald K (wh_lt hw 8 (by decide)) (wh_bf hw) g3 rfl dX10_copyFrom_77 ?_
      refine go_astore_n K dX10_copyFrom_78 rfl (by decide) (lv' := [(3, .ref (gB G + ((w + 8) + 1 + 6 * v2.toNatClampNeg))), (0, .ref (gB G + w)), (1, .ref (gB G + x)), (2, .int v2)]) rfl ?_
      refine go_aload_n K dX10_copyFrom_79 2 rfl rfl ?_
      refine gf_X10 K hx 5 (by decide) kf_X10_26 (v := .ref (gB G + (x + 8))) rfl dX10_copyFrom_80 ?_
      refine go_iload_n K dX10_copyFrom_83 3 rfl rfl ?_
      obtain ⟨g4, h⟩ := gd_e h
      refine go_stald K (wh_lt hx 8 (by decide)) (wh_bf hx) g4 rfl dX10_copyFrom_84 ?_
      refine go_astore K dX10_copyFrom_85 (by decide) (lv' := [(4, .ref (gB G + ((x + 8) + 1 + 6 * v2.toNatClampNeg))), (3, .ref (gB G + ((w + 8) + 1 + 6 * v2.toNatClampNeg))), (0, .ref (gB G + w)), (1, .ref (gB G + x)), (2, .int v2)]) rfl ?_
      refine go_aload_n K dX10_copyFrom_87 1 rfl rfl ?_
      refine go_ifnull K dX10_copyFrom_88 ?_
      refine go_aload K dX10_copyFrom_91 0 rfl ?_
      refine go_ifnull K dX10_copyFrom_93 ?_
      refine go_aload_n K dX10_copyFrom_96 1 rfl rfl ?_
      refine go_aload K dX10_copyFrom_97 0 rfl ?_
      obtain ⟨C5, e5, h⟩ := bnd_e h
      refine go_cVV K (c_X7_copyFrom l G (st_bf hw g3) (st_bf hx g4) _ _ _ e5) cf_X7_copyFrom cv_X7_copyFrom km_X10_30 (rv_X7 (st_bf hw g3)) (by decide) rfl rfl (Nat.le_of_ble_eq_true rfl) dX10_copyFrom_99 ?_
      exact go_sub [2, 3, 4] rfl (hj102 _ _ h)
  rw [f_X10_copyFrom] at h
  refine go_aload_n K dX10_copyFrom_0 0 rfl rfl ?_
  refine gf_X10 K hw 0 (by decide) kf_X10_12 (v := .ref (gB G + (w + 1))) rfl dX10_copyFrom_1 ?_
  refine go_aload_n K dX10_copyFrom_4 1 rfl rfl ?_
  refine gf_X10 K hx 0 (by decide) kf_X10_12 (v := .ref (gB G + (x + 1))) rfl dX10_copyFrom_5 ?_
  obtain ⟨C1, e1, h⟩ := bnd_e h
  refine go_cVV K (c_X7_copyFrom l G (wh_st hw) (wh_st hx) _ _ _ e1) cf_X7_copyFrom cv_X7_copyFrom km_X10_30 (rv_X7 (wh_st hw)) (by decide) rfl rfl (Nat.le_of_ble_eq_true rfl) dX10_copyFrom_8 ?_
  refine go_aload_n K dX10_copyFrom_11 1 rfl rfl ?_
  refine gf_X10 K hx 1 (by decide) kf_X10_18 (v := .ref (gB G + (x + 7))) rfl dX10_copyFrom_12 ?_
  refine go_iconst (v := (0 : Int32)) K dX10_copyFrom_15 (by decide) ?_
  refine go_aload_n K dX10_copyFrom_16 0 rfl rfl ?_
  refine gf_X10 K hw 1 (by decide) kf_X10_18 (v := .ref (gB G + (w + 7))) rfl dX10_copyFrom_17 ?_
  refine go_iconst (v := (0 : Int32)) K dX10_copyFrom_20 (by decide) ?_
  refine go_aload_n K dX10_copyFrom_21 0 rfl rfl ?_
  refine gf_X10 K hw 1 (by decide) kf_X10_18 (v := .ref (gB G + (w + 7))) rfl dX10_copyFrom_22 ?_
  refine go_clen K (wh_lt hw 7 (by decide)) (wh_nk hw) (v := (5 : Int32)) rfl dX10_copyFrom_25 ?_
  refine go_copy K (wh_lt hx 7 (by decide)) (wh_nk hx) (wh_lt hw 7 (by decide)) (wh_nk hw) (sp := (0 : Int32)) (dp := (0 : Int32)) (n := (5 : Int32)) (by decide) (by decide) (by decide) (sp' := 0) (dp' := 0) (n' := 5) (by decide) (by decide) (by decide) (by decide) (by decide) km_X10_34 (Nat.succ_pos _) (Nat.le_of_ble_eq_true rfl) dX10_copyFrom_26 ?_
  refine go_aload_n K dX10_copyFrom_29 0 rfl rfl ?_
  refine go_aload_n K dX10_copyFrom_30 1 rfl rfl ?_
  refine gf_X10 K hx 2 (by decide) kf_X10_40 (v := .int ((rowC C1 (w + 7) (va_cpy (C1 (x + 7)) (C1 (w + 7)) 0 0 5)) x 2)) rfl dX10_copyFrom_31 ?_
  refine pf_X10 K hw 2 (by decide) kf_X10_40 rfl rfl rfl dX10_copyFrom_34 ?_
  refine go_aload_n K dX10_copyFrom_37 0 rfl rfl ?_
  refine go_aload_n K dX10_copyFrom_38 1 rfl rfl ?_
  refine gf_X10 K hx 3 (by decide) kf_X10_22 (v := .int ((up2 (rowC C1 (w + 7) (va_cpy (C1 (x + 7)) (C1 (w + 7)) 0 0 5)) w 2 ((rowC C1 (w + 7) (va_cpy (C1 (x + 7)) (C1 (w + 7)) 0 0 5)) x 2)) x 3)) rfl dX10_copyFrom_39 ?_
  refine pf_X10 K hw 3 (by decide) kf_X10_22 rfl rfl rfl dX10_copyFrom_42 ?_
  refine go_aload_n K dX10_copyFrom_45 0 rfl rfl ?_
  refine go_aload_n K dX10_copyFrom_46 1 rfl rfl ?_
  refine gf_X10 K hx 4 (by decide) kf_X10_43 (v := .int ((up2 (up2 (rowC C1 (w + 7) (va_cpy (C1 (x + 7)) (C1 (w + 7)) 0 0 5)) w 2 ((rowC C1 (w + 7) (va_cpy (C1 (x + 7)) (C1 (w + 7)) 0 0 5)) x 2)) w 3 ((up2 (rowC C1 (w + 7) (va_cpy (C1 (x + 7)) (C1 (w + 7)) 0 0 5)) w 2 ((rowC C1 (w + 7) (va_cpy (C1 (x + 7)) (C1 (w + 7)) 0 0 5)) x 2)) x 3)) x 4)) rfl dX10_copyFrom_47 ?_
  refine pf_X10 K hw 4 (by decide) kf_X10_43 rfl rfl rfl dX10_copyFrom_50 ?_
  refine go_aload_n K dX10_copyFrom_53 0 rfl rfl ?_
  refine go_aload_n K dX10_copyFrom_54 1 rfl rfl ?_
  refine gf_X10 K hx 6 (by decide) kf_X10_46 (v := .int ((up2 (up2 (up2 (rowC C1 (w + 7) (va_cpy (C1 (x + 7)) (C1 (w + 7)) 0 0 5)) w 2 ((rowC C1 (w + 7) (va_cpy (C1 (x + 7)) (C1 (w + 7)) 0 0 5)) x 2)) w 3 ((up2 (rowC C1 (w + 7) (va_cpy (C1 (x + 7)) (C1 (w + 7)) 0 0 5)) w 2 ((rowC C1 (w + 7) (va_cpy (C1 (x + 7)) (C1 (w + 7)) 0 0 5)) x 2)) x 3)) w 4 ((up2 (up2 (rowC C1 (w + 7) (va_cpy (C1 (x + 7)) (C1 (w + 7)) 0 0 5)) w 2 ((rowC C1 (w + 7) (va_cpy (C1 (x + 7)) (C1 (w + 7)) 0 0 5)) x 2)) w 3 ((up2 (rowC C1 (w + 7) (va_cpy (C1 (x + 7)) (C1 (w + 7)) 0 0 5)) w 2 ((rowC C1 (w + 7) (va_cpy (C1 (x + 7)) (C1 (w + 7)) 0 0 5)) x 2)) x 3)) x 4)) x 6)) rfl dX10_copyFrom_55 ?_
  refine pf_X10 K hw 6 (by decide) kf_X10_46 rfl rfl rfl dX10_copyFrom_58 ?_
  refine go_iconst (v := (0 : Int32)) K dX10_copyFrom_61 (by decide) ?_
  refine go_istore_n K dX10_copyFrom_62 rfl (by decide) (lv' := [(2, .int (0 : Int32)), (0, .ref (gB G + w)), (1, .ref (gB G + x))]) rfl ?_
  exact go_sub [1, 2, 0] rfl (hl63 FU _ _ h)
noncomputable def f_X10_step (w : Nat) (v1 : Int32) (C : CM) : Option Nat := (if (f_X11_within (irm ((C w 6) + v1) (30 : Int32)) (0 : Int32) (29 : Int32)) = 0 then none else (gd (inb (irm ((C w 6) + v1) (30 : Int32)) 30) (some ((w + 8) + 1 + 6 * (irm ((C w 6) + v1) (30 : Int32)).toNatClampNeg))))
theorem cf_X10_step : CF yX10_step cX10_step 3 (Option.some (Jvm.ClassFile.FieldType.object "BowsOwed$State")) 1 := ⟨kc_X10_step, kj_X10, ⟨by decide +kernel, by decide +kernel, by decide +kernel⟩, by decide⟩
theorem cv_X10_step : CFv yX10_step := ⟨ki_X10_step, ks_X10_step⟩
set_option maxHeartbeats 4000000 in
set_option maxRecDepth 100000 in
theorem c_X10_step (l : Launch) (G : GT) {w : Nat} (hw : WhAt w) (v1 : Int32) (C : CM) (O : OM) (res : Nat) (h : f_X10_step w v1 C = some res) : MR l G yX10_step cX10_step 3 (Option.some (Jvm.ClassFile.FieldType.object "BowsOwed$State")) (2) [.ref (gB G + w), .int v1] (C, O) res (C, O) := by
  unfold MR
  refine met_in RX10 (by decide +kernel) rfl [(0, .ref (gB G + w)), (1, .int v1)] rfl (Nat.le_of_ble_eq_true rfl) ?_
  intro pM eM sM mM aM bM meM cM K hr
  rw [f_X10_step] at h
  refine go_aload_n K dX10_step_0 0 rfl rfl ?_
  refine gf_X10 K hw 6 (by decide) kf_X10_46 (v := .int (C w 6)) rfl dX10_step_1 ?_
  refine go_iload_n K dX10_step_4 1 rfl rfl ?_
  refine go_iadd K dX10_step_5 ?_
  refine go_bipush (v := (30 : Int32)) K dX10_step_6 (by decide) ?_
  refine go_irem K dX10_step_8 (by decide) ?_
  refine go_fold (y := (irm ((C w 6) + v1) (30 : Int32))) rfl ?_
  refine go_istore_n K dX10_step_9 rfl (by decide) (lv' := [(2, .int (irm ((C w 6) + v1) (30 : Int32))), (0, .ref (gB G + w)), (1, .int v1)]) rfl ?_
  refine go_iload_n K dX10_step_10 0 rfl rfl ?_
  refine go_iconst (v := (0 : Int32)) K dX10_step_11 (by decide) ?_
  refine go_aload_n K dX10_step_12 1 rfl rfl ?_
  refine gf_X10 K hw 5 (by decide) kf_X10_26 (v := .ref (gB G + (w + 8))) rfl dX10_step_13 ?_
  refine go_stlen K (wh_lt hw 8 (by decide)) (wh_bf hw) (v := (30 : Int32)) rfl dX10_step_16 ?_
  refine go_iconst (v := (1 : Int32)) K dX10_step_17 (by decide) ?_
  refine go_isub K dX10_step_18 ?_
  refine go_fold (y := (29 : Int32)) (by decide) ?_
  refine go_cNI K (c_X11_within l G _ _ _ _ _ _ rfl) cf_X11_within kt_X11_within (List.mem_of_getElem? (i := 15) rfl) (by decide) rfl rfl (Nat.le_of_ble_eq_true rfl) dX10_step_19 ?_
  refine go_if_eq (tgt := 34) K dX10_step_22 (by decide) (fun c1 => ?_) (fun c1 => ?_)
  · replace h := ite_t h c1
    cases h
  replace h := ite_f h c1
  refine go_aload_n K dX10_step_25 1 rfl rfl ?_
  refine gf_X10 K hw 5 (by decide) kf_X10_26 (v := .ref (gB G + (w + 8))) rfl dX10_step_26 ?_
  refine go_iload_n K dX10_step_29 0 rfl rfl ?_
  obtain ⟨g2, h⟩ := gd_e h
  refine go_stald K (wh_lt hw 8 (by decide)) (wh_bf hw) g2 rfl dX10_step_30 ?_
  refine go_goto (tgt := 35) K dX10_step_31 (by decide) ?_
  exact go_aret K hr (Or.inl ⟨_, rfl⟩) (Option.some.inj h) rfl dX10_step_35
theorem ty_X10_step {w : Nat} (hw : WhAt w) {i : Int32} {C : CM} {r : Nat} (h : f_X10_step w i C = some r) : StAt r := by
  rw [f_X10_step] at h
  split at h
  · cases h
  · obtain ⟨g, h⟩ := gd_e h
    rw [← Option.some.inj h]
    exact st_bf hw g
noncomputable def X10_keepStep_j21 (w : Nat) (C : CM) : Option CM := (if (30 : Int32) ≤ (C w 4) then (some (up2 C w 6 (irm ((C w 6) + (1 : Int32)) (30 : Int32)))) else (some (up2 C w 4 ((C w 4) + (1 : Int32)))))
noncomputable def f_X10_keepStep (w : Nat) (C : CM) : Option CM := (bnd (f_X10_step w (C w 4) C) (fun r1 => (bnd (f_X7_copyFrom r1 (w + 1) C) (fun C2 => (X10_keepStep_j21 w C2)))))
theorem cf_X10_keepStep : CF yX10_keepStep cX10_keepStep 2 (Option.none : Option Jvm.ClassFile.FieldType) 0 := ⟨kc_X10_keepStep, kj_X10, ⟨by decide +kernel, by decide +kernel, by decide +kernel⟩, by decide⟩
theorem cv_X10_keepStep : CFv yX10_keepStep := ⟨ki_X10_keepStep, ks_X10_keepStep⟩
set_option maxHeartbeats 4000000 in
set_option maxRecDepth 100000 in
theorem c_X10_keepStep (l : Launch) (G : GT) {w : Nat} (hw : WhAt w) (C : CM) (O : OM) (C' : CM) (h : f_X10_keepStep w C = some C') : MV l G yX10_keepStep cX10_keepStep 2 (Option.none : Option Jvm.ClassFile.FieldType) (3) [.ref (gB G + w)] (C, O) (C', O) := by
  unfold MV
  refine met_in RX10 (by decide +kernel) rfl [(0, .ref (gB G + w))] rfl (Nat.le_of_ble_eq_true rfl) ?_
  intro pM eM sM mM aM bM meM cM K hr
  have hj21 : ∀ (C : CM), X10_keepStep_j21 w C = some C' → GO pM l eM (3) sM mM aM bM meM cM (MQ bM (va_Qv (fun (u : CM × OM) => u = (C', O)) (wB G) (Fr G)) aM sM 0 0 (Fr G)) G 2 (C, O) 21 [(0, .ref (gB G + w))] [] := by
    intro C h
    rw [X10_keepStep_j21] at h
    refine go_aload_n K dX10_keepStep_21 0 rfl rfl ?_
    refine gf_X10 K hw 4 (by decide) kf_X10_43 (v := .int (C w 4)) rfl dX10_keepStep_22 ?_
    refine go_bipush (v := (30 : Int32)) K dX10_keepStep_25 (by decide) ?_
    refine go_icmp_ge (tgt := 43) K dX10_keepStep_27 (by decide) (fun c3 => ?_) (fun c3 => ?_)
    rotate_left
    · replace h := ite_f h c3
      refine go_aload_n K dX10_keepStep_30 0 rfl rfl ?_
      refine go_dup K dX10_keepStep_31 rfl ?_
      refine gf_X10 K hw 4 (by decide) kf_X10_43 (v := .int (C w 4)) rfl dX10_keepStep_32 ?_
      refine go_iconst (v := (1 : Int32)) K dX10_keepStep_35 (by decide) ?_
      refine go_iadd K dX10_keepStep_36 ?_
      refine pf_X10 K hw 4 (by decide) kf_X10_43 rfl rfl rfl dX10_keepStep_37 ?_
      refine go_goto (tgt := 56) K dX10_keepStep_40 (by decide) ?_
      exact go_vret K hr (congrArg (fun z => (z, O)) (Option.some.inj h)) dX10_keepStep_56
    replace h := ite_t h c3
    refine go_aload_n K dX10_keepStep_43 0 rfl rfl ?_
    refine go_aload_n K dX10_keepStep_44 0 rfl rfl ?_
    refine gf_X10 K hw 6 (by decide) kf_X10_46 (v := .int (C w 6)) rfl dX10_keepStep_45 ?_
    refine go_iconst (v := (1 : Int32)) K dX10_keepStep_48 (by decide) ?_
    refine go_iadd K dX10_keepStep_49 ?_
    refine go_bipush (v := (30 : Int32)) K dX10_keepStep_50 (by decide) ?_
    refine go_irem K dX10_keepStep_52 (by decide) ?_
    refine go_fold (y := (irm ((C w 6) + (1 : Int32)) (30 : Int32))) rfl ?_
    refine pf_X10 K hw 6 (by decide) kf_X10_46 rfl rfl rfl dX10_keepStep_53 ?_
    exact go_vret K hr (congrArg (fun z => (z, O)) (Option.some.inj h)) dX10_keepStep_56
  rw [f_X10_keepStep] at h
  refine go_aload_n K dX10_keepStep_0 0 rfl rfl ?_
  refine go_aload_n K dX10_keepStep_1 0 rfl rfl ?_
  refine gf_X10 K hw 4 (by decide) kf_X10_43 (v := .int (C w 4)) rfl dX10_keepStep_2 ?_
  obtain ⟨r1, e1, h⟩ := bnd_e h
  refine go_cVR K (c_X10_step l G hw _ _ _ _ e1) cf_X10_step cv_X10_step km_X10_49 (rv_X10 hw) (by decide) rfl rfl (Nat.le_of_ble_eq_true rfl) dX10_keepStep_5 ?_
  refine go_astore_n K dX10_keepStep_8 rfl (by decide) (lv' := [(1, .ref (gB G + r1)), (0, .ref (gB G + w))]) rfl ?_
  refine go_aload_n K dX10_keepStep_9 0 rfl rfl ?_
  refine go_ifnull K dX10_keepStep_10 ?_
  refine go_aload_n K dX10_keepStep_13 0 rfl rfl ?_
  refine go_aload_n K dX10_keepStep_14 1 rfl rfl ?_
  refine gf_X10 K hw 0 (by decide) kf_X10_12 (v := .ref (gB G + (w + 1))) rfl dX10_keepStep_15 ?_
  obtain ⟨C2, e2, h⟩ := bnd_e h
  refine go_cVV K (c_X7_copyFrom l G (ty_X10_step hw e1) (wh_st hw) _ _ _ e2) cf_X7_copyFrom cv_X7_copyFrom km_X10_30 (rv_X7 (ty_X10_step hw e1)) (by decide) rfl rfl (Nat.le_of_ble_eq_true rfl) dX10_keepStep_18 ?_
  exact go_sub [1] rfl (hj21 _ h)
noncomputable def X10_takeBack_l57 (w : Nat) : Nat → Int32 → Int32 → CM → Option (Int32 × CM)
  | 0, _, _, _ => none
  | n + 1, v2, v4, C => (if v2 ≤ v4 then (some ((1 : Int32), C)) else (bnd (f_X7_enter (w + 1) C) (fun C5 => (X10_takeBack_l57 w n v2 (v4 + (1 : Int32)) C5))))
noncomputable def X10_takeBack_j48 (w : Nat) (v2 : Int32) (C : CM) : Option (Int32 × CM) := (X10_takeBack_l57 w FU v2 (C (w + 1) 0) C)
noncomputable def f_X10_takeBack (w : Nat) (C : CM) : Option (Int32 × CM) := (if (C w 4) = 0 then (some ((0 : Int32), C)) else (bnd (f_X10_step w ((up2 C w 4 ((C w 4) - (1 : Int32))) w 4) (up2 C w 4 ((C w 4) - (1 : Int32)))) (fun r2 => (bnd (f_X7_copyFrom (w + 1) r2 (up2 C w 4 ((C w 4) - (1 : Int32)))) (fun C3 => (X10_takeBack_j48 w ((up2 C w 4 ((C w 4) - (1 : Int32))) (w + 1) 0) C3))))))
theorem cf_X10_takeBack : CF yX10_takeBack cX10_takeBack 5 (Option.some Jvm.ClassFile.FieldType.boolean) 1 := ⟨kc_X10_takeBack, kj_X10, ⟨by decide +kernel, by decide +kernel, by decide +kernel⟩, by decide⟩
theorem cv_X10_takeBack : CFv yX10_takeBack := ⟨ki_X10_takeBack, ks_X10_takeBack⟩
set_option maxHeartbeats 4000000 in
set_option maxRecDepth 100000 in
theorem c_X10_takeBack (l : Launch) (G : GT) {w : Nat} (hw : WhAt w) (C : CM) (O : OM) (res : Int32) (C' : CM) (h : f_X10_takeBack w C = some (res, C')) : MI l G yX10_takeBack cX10_takeBack 5 (Option.some Jvm.ClassFile.FieldType.boolean) (4) [.ref (gB G + w), .ref (gB G + 1)] (C, O) res (C', O) := by
  unfold MI
  refine met_in RX10 (by decide +kernel) rfl [(0, .ref (gB G + w)), (1, .ref (gB G + 1))] rfl (Nat.le_of_ble_eq_true rfl) ?_
  intro pM eM sM mM aM bM meM cM K hr
  have hl57 : ∀ (n57 : Nat) (v2 : Int32) (v4 : Int32) (C : CM), X10_takeBack_l57 w n57 v2 v4 C = some (res, C') → GO pM l eM (4) sM mM aM bM meM cM (MQ bM (va_Qi (fun (r' : Int32) (u : CM × OM) => r' = res ∧ u = (C', O)) (wB G) (Fr G)) aM sM 0 0 (Fr G)) G 5 (C, O) 57 [(0, .ref (gB G + w)), (1, .ref (gB G + 1)), (2, .int v2), (4, .int v4)] [] := by
    intro n57
    induction n57 with
    | zero =>
      intro v2 v4 C h
      rw [X10_takeBack_l57] at h
      cases h
    | succ n57 ih57 =>
      intro v2 v4 C h
      rw [X10_takeBack_l57] at h
      refine go_iload K dX10_takeBack_57 3 rfl ?_
      refine go_iload_n K dX10_takeBack_59 2 rfl rfl ?_
      refine go_icmp_ge (tgt := 77) K dX10_takeBack_60 (by decide) (fun c4 => ?_) (fun c4 => ?_)
      · replace h := ite_t h c4
        refine go_iconst (v := (1 : Int32)) K dX10_takeBack_77 (by decide) ?_
        exact go_zret K hr (by decide) (Prod.mk.inj (Option.some.inj h)).1 (congrArg (fun z => (z, O)) (Prod.mk.inj (Option.some.inj h)).2) dX10_takeBack_78
      replace h := ite_f h c4
      refine go_aload_n K dX10_takeBack_63 0 rfl rfl ?_
      refine gf_X10 K hw 0 (by decide) kf_X10_12 (v := .ref (gB G + (w + 1))) rfl dX10_takeBack_64 ?_
      refine go_aload_n K dX10_takeBack_67 1 rfl rfl ?_
      obtain ⟨C5, e5, h⟩ := bnd_e h
      refine go_cVV K (c_X7_enter l G (wh_st hw) _ _ _ e5) cf_X7_enter cv_X7_enter km_X10_60 (rv_X7 (wh_st hw)) (by decide) rfl rfl (Nat.le_of_ble_eq_true rfl) dX10_takeBack_68 ?_
      refine go_iinc K dX10_takeBack_71 3 rfl (v := (v4 + (1 : Int32))) rfl (by decide) (lv' := [(4, .int (v4 + (1 : Int32))), (0, .ref (gB G + w)), (1, .ref (gB G + 1)), (2, .int v2)]) rfl ?_
      refine go_goto (tgt := 57) K dX10_takeBack_74 (by decide) ?_
      exact go_sub [1, 2, 3, 0] rfl (ih57 _ _ _ h)
  have hj48 : ∀ (v2 : Int32) (C : CM), X10_takeBack_j48 w v2 C = some (res, C') → GO pM l eM (4) sM mM aM bM meM cM (MQ bM (va_Qi (fun (r' : Int32) (u : CM × OM) => r' = res ∧ u = (C', O)) (wB G) (Fr G)) aM sM 0 0 (Fr G)) G 5 (C, O) 48 [(0, .ref (gB G + w)), (1, .ref (gB G + 1)), (2, .int v2)] [] := by
    intro v2 C h
    rw [X10_takeBack_j48] at h
    refine go_aload_n K dX10_takeBack_48 0 rfl rfl ?_
    refine gf_X10 K hw 0 (by decide) kf_X10_12 (v := .ref (gB G + (w + 1))) rfl dX10_takeBack_49 ?_
    refine gf_X7 K (wh_st hw) 0 (by decide) kf_X10_57 (v := .int (C (w + 1) 0)) rfl dX10_takeBack_52 ?_
    refine go_istore K dX10_takeBack_55 (by decide) (lv' := [(4, .int (C (w + 1) 0)), (0, .ref (gB G + w)), (1, .ref (gB G + 1)), (2, .int v2)]) rfl ?_
    exact go_sub [1, 2, 3, 0] rfl (hl57 FU _ _ _ h)
  rw [f_X10_takeBack] at h
  refine go_aload_n K dX10_takeBack_0 0 rfl rfl ?_
  refine gf_X10 K hw 4 (by decide) kf_X10_43 (v := .int (C w 4)) rfl dX10_takeBack_1 ?_
  refine go_if_ne (tgt := 9) K dX10_takeBack_4 (by decide) (fun c1 => ?_) (fun c1 => ?_)
  rotate_left
  · replace h := ite_t h c1
    refine go_iconst (v := (0 : Int32)) K dX10_takeBack_7 (by decide) ?_
    exact go_zret K hr (by decide) (Prod.mk.inj (Option.some.inj h)).1 (congrArg (fun z => (z, O)) (Prod.mk.inj (Option.some.inj h)).2) dX10_takeBack_8
  replace h := ite_f h c1
  refine go_aload_n K dX10_takeBack_9 0 rfl rfl ?_
  refine go_dup K dX10_takeBack_10 rfl ?_
  refine gf_X10 K hw 4 (by decide) kf_X10_43 (v := .int (C w 4)) rfl dX10_takeBack_11 ?_
  refine go_iconst (v := (1 : Int32)) K dX10_takeBack_14 (by decide) ?_
  refine go_isub K dX10_takeBack_15 ?_
  refine pf_X10 K hw 4 (by decide) kf_X10_43 rfl rfl rfl dX10_takeBack_16 ?_
  refine go_aload_n K dX10_takeBack_19 0 rfl rfl ?_
  refine gf_X10 K hw 0 (by decide) kf_X10_12 (v := .ref (gB G + (w + 1))) rfl dX10_takeBack_20 ?_
  refine gf_X7 K (wh_st hw) 0 (by decide) kf_X10_57 (v := .int ((up2 C w 4 ((C w 4) - (1 : Int32))) (w + 1) 0)) rfl dX10_takeBack_23 ?_
  refine go_istore_n K dX10_takeBack_26 rfl (by decide) (lv' := [(2, .int ((up2 C w 4 ((C w 4) - (1 : Int32))) (w + 1) 0)), (0, .ref (gB G + w)), (1, .ref (gB G + 1))]) rfl ?_
  refine go_aload_n K dX10_takeBack_27 1 rfl rfl ?_
  refine go_aload_n K dX10_takeBack_28 1 rfl rfl ?_
  refine gf_X10 K hw 4 (by decide) kf_X10_43 (v := .int ((up2 C w 4 ((C w 4) - (1 : Int32))) w 4)) rfl dX10_takeBack_29 ?_
  obtain ⟨r2, e2, h⟩ := bnd_e h
  refine go_cVR K (c_X10_step l G hw _ _ _ _ e2) cf_X10_step cv_X10_step km_X10_49 (rv_X10 hw) (by decide) rfl rfl (Nat.le_of_ble_eq_true rfl) dX10_takeBack_32 ?_
  refine go_astore_n K dX10_takeBack_35 rfl (by decide) (lv' := [(3, .ref (gB G + r2)), (2, .int ((up2 C w 4 ((C w 4) - (1 : Int32))) (w + 1) 0)), (0, .ref (gB G + w)), (1, .ref (gB G + 1))]) rfl ?_
  refine go_aload_n K dX10_takeBack_36 0 rfl rfl ?_
  refine go_ifnull K dX10_takeBack_37 ?_
  refine go_aload_n K dX10_takeBack_40 2 rfl rfl ?_
  refine gf_X10 K hw 0 (by decide) kf_X10_12 (v := .ref (gB G + (w + 1))) rfl dX10_takeBack_41 ?_
  refine go_aload_n K dX10_takeBack_44 0 rfl rfl ?_
  obtain ⟨C3, e3, h⟩ := bnd_e h
  refine go_cVV K (c_X7_copyFrom l G (wh_st hw) (ty_X10_step hw e2) _ _ _ e3) cf_X7_copyFrom cv_X7_copyFrom km_X10_30 (rv_X7 (wh_st hw)) (by decide) rfl rfl (Nat.le_of_ble_eq_true rfl) dX10_takeBack_45 ?_
  exact go_sub [2, 3, 1] rfl (hj48 _ _ h)
noncomputable def X0_look_j91 (t : Nat) (C : CM) : Option CM := (some (up2 C 413 5 ((C 413 5) &&& ((C 413 4) ^^^ (-1 : Int32)))))
noncomputable def X0_look_j85 (t : Nat) (rc : Int32 → Int32 → CM → Option CM) (k91 : CM → Option CM) (v2 : Int32) (v3 : Int32) (C : CM) : Option CM := (rc v2 (v3 + (1 : Int32)) C)
noncomputable def X0_look_l21 (t : Nat) (k91 : CM → Option CM) : Nat → Int32 → Int32 → CM → Option CM
  | 0, _, _, _ => none
  | n + 1, v2, v3, C => (if (C t 0) ≤ v3 then (k91 C) else (if v3 = v2 then (X0_look_j85 t (fun v2 v3 C => X0_look_l21 t k91 n v2 v3 C) k91 v2 v3 C) else (bnd (f_X7_out t v3 C) (fun r4 => (if r4 = 0 then (X0_look_j85 t (fun v2 v3 C => X0_look_l21 t k91 n v2 v3 C) k91 v2 v3 C) else (bnd (f_X7_placeOf t v3 C) (fun r6 => (bnd (f_X7_owed t v2 v3 C) (fun r7 => (if r7 ≤ 0 then (X0_look_j85 t (fun v2 v3 C => X0_look_l21 t k91 n v2 v3 C) k91 v2 v3 (up2 C 413 5 ((C 413 5) ||| ((1 : Int32) <<< (r6 &&& 31))))) else (X0_look_j85 t (fun v2 v3 C => X0_look_l21 t k91 n v2 v3 C) k91 v2 v3 (up2 C 413 4 ((C 413 4) ||| ((1 : Int32) <<< (r6 &&& 31)))))))))))))))
noncomputable def f_X0_look (t : Nat) (v2 : Int32) (C : CM) : Option CM := (bnd (f_X7_placeOf t v2 C) (fun r1 => (X0_look_l21 t (fun C => (X0_look_j91 t C)) FU v2 (0 : Int32) (up2 (up2 (up2 C 413 3 r1) 413 4 (0 : Int32)) 413 5 (0 : Int32)))))
theorem cf_X0_look : CF yX0_look cX0_look 5 (Option.none : Option Jvm.ClassFile.FieldType) 2 := ⟨kc_X0_look, kj_X0, ⟨by decide +kernel, by decide +kernel, by decide +kernel⟩, by decide⟩
theorem cv_X0_look : CFv yX0_look := ⟨ki_X0_look, ks_X0_look⟩
set_option maxHeartbeats 4000000 in
set_option maxRecDepth 100000 in
theorem c_X0_look (l : Launch) (G : GT) {t : Nat} (ht : StAt t) (v2 : Int32) (C : CM) (O : OM) (C' : CM) (h : f_X0_look t v2 C = some C') : MV l G yX0_look cX0_look 5 (Option.none : Option Jvm.ClassFile.FieldType) (3) [.ref (gB G + 413), .ref (gB G + t), .int v2] (C, O) (C', O) := by
  unfold MV
  refine met_in RX0 (by decide +kernel) rfl [(0, .ref (gB G + 413)), (1, .ref (gB G + t)), (2, .int v2)] rfl (Nat.le_of_ble_eq_true rfl) ?_
  intro pM eM sM mM aM bM meM cM K hr
  have hj91 : ∀ (C : CM), X0_look_j91 t C = some C' → GO pM l eM (3) sM mM aM bM meM cM (MQ bM (va_Qv (fun (u : CM × OM) => u = (C', O)) (wB G) (Fr G)) aM sM 0 0 (Fr G)) G 5 (C, O) 91 [(0, .ref (gB G + 413))] [] := by
    intro C h
    rw [X0_look_j91] at h
    refine go_aload_n K dX0_look_91 0 rfl rfl ?_
    refine go_dup K dX0_look_92 rfl ?_
    refine gf_X0 K 5 (by decide) kf_X0_38 (v := .int (C 413 5)) rfl dX0_look_93 ?_
    refine go_aload_n K dX0_look_96 0 rfl rfl ?_
    refine gf_X0 K 4 (by decide) kf_X0_35 (v := .int (C 413 4)) rfl dX0_look_97 ?_
    refine go_iconst (v := (-1 : Int32)) K dX0_look_100 (by decide) ?_
    refine go_ixor K dX0_look_101 ?_
    refine go_iand K dX0_look_102 ?_
    refine pf_X0 K 5 (by decide) kf_X0_38 rfl rfl rfl dX0_look_103 ?_
    exact go_vret K hr (congrArg (fun z => (z, O)) (Option.some.inj h)) dX0_look_106
  have hl21 : ∀ (n21 : Nat) (v2 : Int32) (v3 : Int32) (C : CM), X0_look_l21 t (fun C => (X0_look_j91 t C)) n21 v2 v3 C = some C' → GO pM l eM (3) sM mM aM bM meM cM (MQ bM (va_Qv (fun (u : CM × OM) => u = (C', O)) (wB G) (Fr G)) aM sM 0 0 (Fr G)) G 5 (C, O) 21 [(0, .ref (gB G + 413)), (1, .ref (gB G + t)), (2, .int v2), (3, .int v3)] [] := by
    intro n21
    induction n21 with
    | zero =>
      intro v2 v3 C h
      rw [X0_look_l21] at h
      cases h
    | succ n21 ih21 =>
      have hj85 : ∀ (v2 : Int32) (v3 : Int32) (C : CM), X0_look_j85 t (fun v2 v3 C => X0_look_l21 t (fun C => (X0_look_j91 t C)) n21 v2 v3 C) (fun C => (X0_look_j91 t C)) v2 v3 C = some C' → GO pM l eM (3) sM mM aM bM meM cM (MQ bM (va_Qv (fun (u : CM × OM) => u = (C', O)) (wB G) (Fr G)) aM sM 0 0 (Fr G)) G 5 (C, O) 85 [(0, .ref (gB G + 413)), (1, .ref (gB G + t)), (2, .int v2), (3, .int v3)] [] := by
        intro v2 v3 C h
        rw [X0_look_j85] at h
        refine go_iinc K dX0_look_85 3 rfl (v := (v3 + (1 : Int32))) rfl (by decide) (lv' := [(3, .int (v3 + (1 : Int32))), (0, .ref (gB G + 413)), (1, .ref (gB G + t)), (2, .int v2)]) rfl ?_
        refine go_goto (tgt := 21) K dX0_look_88 (by decide) ?_
        exact go_sub [1, 2, 3, 0] rfl (ih21 _ _ _ h)
      intro v2 v3 C h
      rw [X0_look_l21] at h
      refine go_iload_n K dX0_look_21 3 rfl rfl ?_
      refine go_aload_n K dX0_look_22 1 rfl rfl ?_
      refine gf_X7 K ht 0 (by decide) kf_X0_41 (v := .int (C t 0)) rfl dX0_look_23 ?_
      refine go_icmp_ge (tgt := 91) K dX0_look_26 (by decide) (fun c2 => ?_) (fun c2 => ?_)
      · replace h := ite_t h c2
        exact go_sub [0] rfl (hj91 _ h)
      replace h := ite_f h c2
      refine go_iload_n K dX0_look_29 3 rfl rfl ?_
      refine go_iload_n K dX0_look_30 2 rfl rfl ?_
      refine go_icmp_eq (tgt := 85) K dX0_look_31 (by decide) (fun c3 => ?_) (fun c3 => ?_)
      · replace h := ite_t h c3
        exact hj85 _ _ _ h
      replace h := ite_f h c3
      refine go_aload_n K dX0_look_34 1 rfl rfl ?_
      refine go_iload_n K dX0_look_35 3 rfl rfl ?_
      obtain ⟨r4, e4, h⟩ := bnd_e h
      refine go_cVI K (c_X7_out l G ht _ _ _ _ e4) cf_X7_out cv_X7_out km_X0_44 (rv_X7 ht) (by decide) rfl rfl (Nat.le_of_ble_eq_true rfl) dX0_look_36 ?_
      refine go_if_eq (tgt := 85) K dX0_look_39 (by decide) (fun c5 => ?_) (fun c5 => ?_)
      · replace h := ite_t h c5
        exact hj85 _ _ _ h
      replace h := ite_f h c5
      refine go_iconst (v := (1 : Int32)) K dX0_look_42 (by decide) ?_
      refine go_aload_n K dX0_look_43 1 rfl rfl ?_
      refine go_iload_n K dX0_look_44 3 rfl rfl ?_
      obtain ⟨r6, e6, h⟩ := bnd_e h
      refine go_cVI K (c_X7_placeOf l G ht _ _ _ _ e6) cf_X7_placeOf cv_X7_placeOf km_X0_26 (rv_X7 ht) (by decide) rfl rfl (Nat.le_of_ble_eq_true rfl) dX0_look_45 ?_
      refine go_ishl K dX0_look_48 ?_
      refine go_istore K dX0_look_49 (by decide) (lv' := [(4, .int ((1 : Int32) <<< (r6 &&& 31))), (0, .ref (gB G + 413)), (1, .ref (gB G + t)), (2, .int v2), (3, .int v3)]) rfl ?_
      refine go_aload_n K dX0_look_51 2 rfl rfl ?_
      refine go_iload_n K dX0_look_52 3 rfl rfl ?_
      refine go_iload_n K dX0_look_53 4 rfl rfl ?_
      obtain ⟨r7, e7, h⟩ := bnd_e h
      refine go_cVI K (c_X7_owed l G ht _ _ _ _ _ e7) cf_X7_owed cv_X7_owed km_X0_48 (rv_X7 ht) (by decide) rfl rfl (Nat.le_of_ble_eq_true rfl) dX0_look_54 ?_
      refine go_if_le (tgt := 74) K dX0_look_57 (by decide) (fun c8 => ?_) (fun c8 => ?_)
      · replace h := ite_t h c8
        refine go_aload_n K dX0_look_74 1 rfl rfl ?_
        refine go_dup K dX0_look_75 rfl ?_
        refine gf_X0 K 5 (by decide) kf_X0_38 (v := .int (C 413 5)) rfl dX0_look_76 ?_
        refine go_iload K dX0_look_79 0 rfl ?_
        refine go_ior K dX0_look_81 ?_
        refine pf_X0 K 5 (by decide) kf_X0_38 rfl rfl rfl dX0_look_82 ?_
        exact go_sub [1, 2, 3, 4] rfl (hj85 _ _ _ h)
      replace h := ite_f h c8
      refine go_aload_n K dX0_look_60 1 rfl rfl ?_
      refine go_dup K dX0_look_61 rfl ?_
      refine gf_X0 K 4 (by decide) kf_X0_35 (v := .int (C 413 4)) rfl dX0_look_62 ?_
      refine go_iload K dX0_look_65 0 rfl ?_
      refine go_ior K dX0_look_67 ?_
      refine pf_X0 K 4 (by decide) kf_X0_35 rfl rfl rfl dX0_look_68 ?_
      refine go_goto (tgt := 85) K dX0_look_71 (by decide) ?_
      exact go_sub [1, 2, 3, 4] rfl (hj85 _ _ _ h)
  rw [f_X0_look] at h
  refine go_aload_n K dX0_look_0 0 rfl rfl ?_
  refine go_aload_n K dX0_look_1 1 rfl rfl ?_
  refine go_iload_n K dX0_look_2 2 rfl rfl ?_
  obtain ⟨r1, e1, h⟩ := bnd_e h
  refine go_cVI K (c_X7_placeOf l G ht _ _ _ _ e1) cf_X7_placeOf cv_X7_placeOf km_X0_26 (rv_X7 ht) (by decide) rfl rfl (Nat.le_of_ble_eq_true rfl) dX0_look_3 ?_
  refine pf_X0 K 3 (by decide) kf_X0_32 rfl rfl rfl dX0_look_6 ?_
  refine go_aload_n K dX0_look_9 0 rfl rfl ?_
  refine go_iconst (v := (0 : Int32)) K dX0_look_10 (by decide) ?_
  refine pf_X0 K 4 (by decide) kf_X0_35 rfl rfl rfl dX0_look_11 ?_
  refine go_aload_n K dX0_look_14 0 rfl rfl ?_
  refine go_iconst (v := (0 : Int32)) K dX0_look_15 (by decide) ?_
  refine pf_X0 K 5 (by decide) kf_X0_38 rfl rfl rfl dX0_look_16 ?_
  refine go_iconst (v := (0 : Int32)) K dX0_look_19 (by decide) ?_
  refine go_istore_n K dX0_look_20 rfl (by decide) (lv' := [(3, .int (0 : Int32)), (0, .ref (gB G + 413)), (1, .ref (gB G + t)), (2, .int v2)]) rfl ?_
  exact go_sub [1, 2, 3, 0] rfl (hl21 FU _ _ _ h)
noncomputable def f_X0_step (v1 : Int32) (C : CM) : Int32 := (if (C 413 2) ≤ v1 then (-(C 413 1)) else (C 413 1))
theorem cf_X0_step : CF yX0_step cX0_step 2 (Option.some Jvm.ClassFile.FieldType.int) 1 := ⟨kc_X0_step, kj_X0, ⟨by decide +kernel, by decide +kernel, by decide +kernel⟩, by decide⟩
theorem cv_X0_step : CFv yX0_step := ⟨ki_X0_step, ks_X0_step⟩
set_option maxHeartbeats 4000000 in
set_option maxRecDepth 100000 in
theorem c_X0_step (l : Launch) (G : GT) (v1 : Int32) (C : CM) (O : OM) (res : Int32) (h : f_X0_step v1 C = res) : MI l G yX0_step cX0_step 2 (Option.some Jvm.ClassFile.FieldType.int) (1) [.ref (gB G + 413), .int v1] (C, O) res (C, O) := by
  unfold MI
  refine met_in RX0 (by decide +kernel) rfl [(0, .ref (gB G + 413)), (1, .int v1)] rfl (Nat.le_of_ble_eq_true rfl) ?_
  intro pM eM sM mM aM bM meM cM K hr
  rw [f_X0_step] at h
  refine go_iload_n K dX0_step_0 1 rfl rfl ?_
  refine go_aload_n K dX0_step_1 0 rfl rfl ?_
  refine gf_X0 K 2 (by decide) kf_X0_19 (v := .int (C 413 2)) rfl dX0_step_2 ?_
  refine go_icmp_ge (tgt := 15) K dX0_step_5 (by decide) (fun c1 => ?_) (fun c1 => ?_)
  · replace h := ite_t h c1
    refine go_aload_n K dX0_step_15 0 rfl rfl ?_
    refine gf_X0 K 1 (by decide) kf_X0_23 (v := .int (C 413 1)) rfl dX0_step_16 ?_
    refine go_ineg K dX0_step_19 ?_
    exact go_iret K hr h rfl dX0_step_20
  replace h := ite_f h c1
  refine go_aload_n K dX0_step_8 0 rfl rfl ?_
  refine gf_X0 K 1 (by decide) kf_X0_23 (v := .int (C 413 1)) rfl dX0_step_9 ?_
  refine go_goto (tgt := 20) K dX0_step_12 (by decide) ?_
  exact go_iret K hr h rfl dX0_step_20
noncomputable def X0_reaches_j81 (v5 : Int32) (C : CM) : Option (Int32 × CM) := (if ((C 413 4) &&& (v5 ^^^ (-1 : Int32))) = 0 then (some ((1 : Int32), C)) else (some ((0 : Int32), C)))
noncomputable def X0_reaches_l30 (k81 : Int32 → CM → Option (Int32 × CM)) : Nat → Int32 → Int32 → Int32 → Int32 → CM → Option (Int32 × CM)
  | 0, _, _, _, _, _ => none
  | n + 1, v1, v4, v5, v6, C => (if v1 ≤ v6 then (k81 v5 C) else (bnd (f_J9_floorMod_7cf53 (v4 + (f_X0_step v6 C)) (8 : Int32)) (fun r2 => (if ((C 413 5) &&& ((1 : Int32) <<< (r2 &&& 31))) = 0 then (X0_reaches_l30 k81 n v1 r2 (v5 ||| ((1 : Int32) <<< (r2 &&& 31))) (v6 + (1 : Int32)) C) else (some ((0 : Int32), C))))))
noncomputable def f_X0_reaches (v1 : Int32) (v2 : Int32) (v3 : Int32) (C : CM) : Option (Int32 × CM) := (X0_reaches_l30 (fun v5 C => (X0_reaches_j81 v5 C)) FU v1 ((up2 (up2 (up2 C 413 0 v1) 413 1 v2) 413 2 v3) 413 3) ((1 : Int32) <<< (((up2 (up2 (up2 C 413 0 v1) 413 1 v2) 413 2 v3) 413 3) &&& 31)) (0 : Int32) (up2 (up2 (up2 C 413 0 v1) 413 1 v2) 413 2 v3))
theorem cf_X0_reaches : CF yX0_reaches cX0_reaches 7 (Option.some Jvm.ClassFile.FieldType.boolean) 3 := ⟨kc_X0_reaches, kj_X0, ⟨by decide +kernel, by decide +kernel, by decide +kernel⟩, by decide⟩
theorem cv_X0_reaches : CFv yX0_reaches := ⟨ki_X0_reaches, ks_X0_reaches⟩
set_option maxHeartbeats 4000000 in
set_option maxRecDepth 100000 in
theorem c_X0_reaches (l : Launch) (G : GT) (v1 : Int32) (v2 : Int32) (v3 : Int32) (C : CM) (O : OM) (res : Int32) (C' : CM) (h : f_X0_reaches v1 v2 v3 C = some (res, C')) : MI l G yX0_reaches cX0_reaches 7 (Option.some Jvm.ClassFile.FieldType.boolean) (2) [.ref (gB G + 413), .int v1, .int v2, .int v3] (C, O) res (C', O) := by
  unfold MI
  refine met_in RX0 (by decide +kernel) rfl [(0, .ref (gB G + 413)), (1, .int v1), (2, .int v2), (3, .int v3)] rfl (Nat.le_of_ble_eq_true rfl) ?_
  intro pM eM sM mM aM bM meM cM K hr
  have hj81 : ∀ (v5 : Int32) (C : CM), X0_reaches_j81 v5 C = some (res, C') → GO pM l eM (2) sM mM aM bM meM cM (MQ bM (va_Qi (fun (r' : Int32) (u : CM × OM) => r' = res ∧ u = (C', O)) (wB G) (Fr G)) aM sM 0 0 (Fr G)) G 7 (C, O) 81 [(0, .ref (gB G + 413)), (5, .int v5)] [] := by
    intro v5 C h
    rw [X0_reaches_j81] at h
    refine go_aload_n K dX0_reaches_81 0 rfl rfl ?_
    refine gf_X0 K 4 (by decide) kf_X0_35 (v := .int (C 413 4)) rfl dX0_reaches_82 ?_
    refine go_iload K dX0_reaches_85 1 rfl ?_
    refine go_iconst (v := (-1 : Int32)) K dX0_reaches_87 (by decide) ?_
    refine go_ixor K dX0_reaches_88 ?_
    refine go_iand K dX0_reaches_89 ?_
    refine go_if_ne (tgt := 97) K dX0_reaches_90 (by decide) (fun c4 => ?_) (fun c4 => ?_)
    · replace h := ite_f h c4
      refine go_iconst (v := (0 : Int32)) K dX0_reaches_97 (by decide) ?_
      exact go_zret K hr (by decide) (Prod.mk.inj (Option.some.inj h)).1 (congrArg (fun z => (z, O)) (Prod.mk.inj (Option.some.inj h)).2) dX0_reaches_98
    replace h := ite_t h c4
    refine go_iconst (v := (1 : Int32)) K dX0_reaches_93 (by decide) ?_
    refine go_goto (tgt := 98) K dX0_reaches_94 (by decide) ?_
    exact go_zret K hr (by decide) (Prod.mk.inj (Option.some.inj h)).1 (congrArg (fun z => (z, O)) (Prod.mk.inj (Option.some.inj h)).2) dX0_reaches_98
  have hl30 : ∀ (n30 : Nat) (v1 : Int32) (v4 : Int32) (v5 : Int32) (v6 : Int32) (C : CM), X0_reaches_l30 (fun v5 C => (X0_reaches_j81 v5 C)) n30 v1 v4 v5 v6 C = some (res, C') → GO pM l eM (2) sM mM aM bM meM cM (MQ bM (va_Qi (fun (r' : Int32) (u : CM × OM) => r' = res ∧ u = (C', O)) (wB G) (Fr G)) aM sM 0 0 (Fr G)) G 7 (C, O) 30 [(0, .ref (gB G + 413)), (1, .int v1), (4, .int v4), (5, .int v5), (6, .int v6)] [] := by
    intro n30
    induction n30 with
    | zero =>
      intro v1 v4 v5 v6 C h
      rw [X0_reaches_l30] at h
      cases h
    | succ n30 ih30 =>
      intro v1 v4 v5 v6 C h
      rw [X0_reaches_l30] at h
      refine go_iload K dX0_reaches_30 4 rfl ?_
      refine go_iload_n K dX0_reaches_32 1 rfl rfl ?_
      refine go_icmp_ge (tgt := 81) K dX0_reaches_33 (by decide) (fun c1 => ?_) (fun c1 => ?_)
      · replace h := ite_t h c1
        exact go_sub [0, 3] rfl (hj81 _ _ h)
      replace h := ite_f h c1
      refine go_iload K dX0_reaches_36 2 rfl ?_
      refine go_aload_n K dX0_reaches_38 0 rfl rfl ?_
      refine go_iload K dX0_reaches_39 4 rfl ?_
      refine go_cVI K (c_X0_step l G _ _ _ _ rfl) cf_X0_step cv_X0_step km_X0_55 rv_X0 (by decide) rfl rfl (Nat.le_of_ble_eq_true rfl) dX0_reaches_41 ?_
      refine go_iadd K dX0_reaches_44 ?_
      refine go_bipush (v := (8 : Int32)) K dX0_reaches_45 (by decide) ?_
      obtain ⟨r2, e2, h⟩ := bnd_e h
      refine go_cSI K (c_J9_floorMod_7cf53 l G _ _ _ _ e2) cf_J9_floorMod_7cf53 kt_J9_floorMod_7cf53 km_X0_58 (by decide) rfl rfl (Nat.le_of_ble_eq_true rfl) dX0_reaches_47 ?_
      refine go_istore K dX0_reaches_50 (by decide) (lv' := [(4, .int r2), (0, .ref (gB G + 413)), (1, .int v1), (5, .int v5), (6, .int v6)]) rfl ?_
      refine go_iload K dX0_reaches_52 3 rfl ?_
      refine go_iconst (v := (1 : Int32)) K dX0_reaches_54 (by decide) ?_
      refine go_iload K dX0_reaches_55 0 rfl ?_
      refine go_ishl K dX0_reaches_57 ?_
      refine go_ior K dX0_reaches_58 ?_
      refine go_istore K dX0_reaches_59 (by decide) (lv' := [(5, .int (v5 ||| ((1 : Int32) <<< (r2 &&& 31)))), (4, .int r2), (0, .ref (gB G + 413)), (1, .int v1), (6, .int v6)]) rfl ?_
      refine go_aload_n K dX0_reaches_61 2 rfl rfl ?_
      refine gf_X0 K 5 (by decide) kf_X0_38 (v := .int (C 413 5)) rfl dX0_reaches_62 ?_
      refine go_iconst (v := (1 : Int32)) K dX0_reaches_65 (by decide) ?_
      refine go_iload K dX0_reaches_66 1 rfl ?_
      refine go_ishl K dX0_reaches_68 ?_
      refine go_iand K dX0_reaches_69 ?_
      refine go_if_eq (tgt := 75) K dX0_reaches_70 (by decide) (fun c3 => ?_) (fun c3 => ?_)
      rotate_left
      · replace h := ite_f h c3
        refine go_iconst (v := (0 : Int32)) K dX0_reaches_73 (by decide) ?_
        exact go_zret K hr (by decide) (Prod.mk.inj (Option.some.inj h)).1 (congrArg (fun z => (z, O)) (Prod.mk.inj (Option.some.inj h)).2) dX0_reaches_74
      replace h := ite_t h c3
      refine go_iinc K dX0_reaches_75 4 rfl (v := (v6 + (1 : Int32))) rfl (by decide) (lv' := [(6, .int (v6 + (1 : Int32))), (5, .int (v5 ||| ((1 : Int32) <<< (r2 &&& 31)))), (4, .int r2), (0, .ref (gB G + 413)), (1, .int v1)]) rfl ?_
      refine go_goto (tgt := 30) K dX0_reaches_78 (by decide) ?_
      exact go_sub [3, 4, 2, 1, 0] rfl (ih30 _ _ _ _ _ h)
  rw [f_X0_reaches] at h
  refine go_aload_n K dX0_reaches_0 0 rfl rfl ?_
  refine go_iload_n K dX0_reaches_1 1 rfl rfl ?_
  refine pf_X0 K 0 (by decide) kf_X0_52 rfl rfl rfl dX0_reaches_2 ?_
  refine go_aload_n K dX0_reaches_5 0 rfl rfl ?_
  refine go_iload_n K dX0_reaches_6 2 rfl rfl ?_
  refine pf_X0 K 1 (by decide) kf_X0_23 rfl rfl rfl dX0_reaches_7 ?_
  refine go_aload_n K dX0_reaches_10 0 rfl rfl ?_
  refine go_iload_n K dX0_reaches_11 3 rfl rfl ?_
  refine pf_X0 K 2 (by decide) kf_X0_19 rfl rfl rfl dX0_reaches_12 ?_
  refine go_aload_n K dX0_reaches_15 0 rfl rfl ?_
  refine gf_X0 K 3 (by decide) kf_X0_32 (v := .int ((up2 (up2 (up2 C 413 0 v1) 413 1 v2) 413 2 v3) 413 3)) rfl dX0_reaches_16 ?_
  refine go_istore K dX0_reaches_19 (by decide) (lv' := [(4, .int ((up2 (up2 (up2 C 413 0 v1) 413 1 v2) 413 2 v3) 413 3)), (0, .ref (gB G + 413)), (1, .int v1), (2, .int v2), (3, .int v3)]) rfl ?_
  refine go_iconst (v := (1 : Int32)) K dX0_reaches_21 (by decide) ?_
  refine go_iload K dX0_reaches_22 0 rfl ?_
  refine go_ishl K dX0_reaches_24 ?_
  refine go_istore K dX0_reaches_25 (by decide) (lv' := [(5, .int ((1 : Int32) <<< (((up2 (up2 (up2 C 413 0 v1) 413 1 v2) 413 2 v3) 413 3) &&& 31))), (4, .int ((up2 (up2 (up2 C 413 0 v1) 413 1 v2) 413 2 v3) 413 3)), (0, .ref (gB G + 413)), (1, .int v1), (2, .int v2), (3, .int v3)]) rfl ?_
  refine go_iconst (v := (0 : Int32)) K dX0_reaches_27 (by decide) ?_
  refine go_istore K dX0_reaches_28 (by decide) (lv' := [(6, .int (0 : Int32)), (5, .int ((1 : Int32) <<< (((up2 (up2 (up2 C 413 0 v1) 413 1 v2) 413 2 v3) 413 3) &&& 31))), (4, .int ((up2 (up2 (up2 C 413 0 v1) 413 1 v2) 413 2 v3) 413 3)), (0, .ref (gB G + 413)), (1, .int v1), (2, .int v2), (3, .int v3)]) rfl ?_
  exact go_sub [3, 4, 2, 1, 0] rfl (hl30 FU _ _ _ _ _ h)
