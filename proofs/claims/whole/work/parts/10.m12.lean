noncomputable def f_X12_isSign (v1 : Int32) (O : OM) : Int32 := (if (O.1 446 17) = (3 : Int32) then (if (O.1 446 18) = v1 then (1 : Int32) else (0 : Int32)) else (0 : Int32))
theorem cf_X12_isSign : CF yX12_isSign cX12_isSign 2 (Option.some Jvm.ClassFile.FieldType.boolean) 1 := ⟨kc_X12_isSign, kj_X12, ⟨by decide +kernel, by decide +kernel, by decide +kernel⟩, by decide⟩
theorem cv_X12_isSign : CFv yX12_isSign := ⟨ki_X12_isSign, ks_X12_isSign⟩
set_option maxHeartbeats 4000000 in
set_option maxRecDepth 100000 in
theorem c_X12_isSign (l : Launch) (G : GT) (v1 : Int32) (C : CM) (O : OM) (res : Int32) (h : f_X12_isSign v1 O = res) : MI l G yX12_isSign cX12_isSign 2 (Option.some Jvm.ClassFile.FieldType.boolean) (1) [.ref (gB G + 446), .int v1] (C, O) res (C, O) := by
  unfold MI
  refine met_in RX12 (by decide +kernel) rfl [(0, .ref (gB G + 446)), (1, .int v1)] rfl (Nat.le_of_ble_eq_true rfl) ?_
  intro pM eM sM mM aM bM meM cM K hr
  rw [f_X12_isSign] at h
  refine go_aload_n K dX12_isSign_0 0 rfl rfl ?_
  refine gf_X12 K 17 (by decide) kf_X12_199 (v := .int (O.1 446 17)) rfl dX12_isSign_1 ?_
  refine go_iconst (v := (3 : Int32)) K dX12_isSign_4 (by decide) ?_
  refine go_icmp_ne (tgt := 20) K dX12_isSign_5 (by decide) (fun c1 => ?_) (fun c1 => ?_)
  · replace h := ite_f h c1
    refine go_iconst (v := (0 : Int32)) K dX12_isSign_20 (by decide) ?_
    exact go_zret K hr (by decide) h rfl dX12_isSign_21
  replace h := ite_t h c1
  refine go_aload_n K dX12_isSign_8 0 rfl rfl ?_
  refine gf_X12 K 18 (by decide) kf_X12_211 (v := .int (O.1 446 18)) rfl dX12_isSign_9 ?_
  refine go_iload_n K dX12_isSign_12 1 rfl rfl ?_
  refine go_icmp_ne (tgt := 20) K dX12_isSign_13 (by decide) (fun c2 => ?_) (fun c2 => ?_)
  · replace h := ite_f h c2
    refine go_iconst (v := (0 : Int32)) K dX12_isSign_20 (by decide) ?_
    exact go_zret K hr (by decide) h rfl dX12_isSign_21
  replace h := ite_t h c2
  refine go_iconst (v := (1 : Int32)) K dX12_isSign_16 (by decide) ?_
  refine go_goto (tgt := 21) K dX12_isSign_17 (by decide) ?_
  exact go_zret K hr (by decide) h rfl dX12_isSign_21
noncomputable def f_X12_isWord (v1 : Int32) (O : OM) : Int32 := (if (O.1 446 17) = (1 : Int32) then (if (O.1 446 18) = v1 then (1 : Int32) else (0 : Int32)) else (0 : Int32))
theorem cf_X12_isWord : CF yX12_isWord cX12_isWord 2 (Option.some Jvm.ClassFile.FieldType.boolean) 1 := ⟨kc_X12_isWord, kj_X12, ⟨by decide +kernel, by decide +kernel, by decide +kernel⟩, by decide⟩
theorem cv_X12_isWord : CFv yX12_isWord := ⟨ki_X12_isWord, ks_X12_isWord⟩
set_option maxHeartbeats 4000000 in
set_option maxRecDepth 100000 in
theorem c_X12_isWord (l : Launch) (G : GT) (v1 : Int32) (C : CM) (O : OM) (res : Int32) (h : f_X12_isWord v1 O = res) : MI l G yX12_isWord cX12_isWord 2 (Option.some Jvm.ClassFile.FieldType.boolean) (1) [.ref (gB G + 446), .int v1] (C, O) res (C, O) := by
  unfold MI
  refine met_in RX12 (by decide +kernel) rfl [(0, .ref (gB G + 446)), (1, .int v1)] rfl (Nat.le_of_ble_eq_true rfl) ?_
  intro pM eM sM mM aM bM meM cM K hr
  rw [f_X12_isWord] at h
  refine go_aload_n K dX12_isWord_0 0 rfl rfl ?_
  refine gf_X12 K 17 (by decide) kf_X12_199 (v := .int (O.1 446 17)) rfl dX12_isWord_1 ?_
  refine go_iconst (v := (1 : Int32)) K dX12_isWord_4 (by decide) ?_
  refine go_icmp_ne (tgt := 20) K dX12_isWord_5 (by decide) (fun c1 => ?_) (fun c1 => ?_)
  · replace h := ite_f h c1
    refine go_iconst (v := (0 : Int32)) K dX12_isWord_20 (by decide) ?_
    exact go_zret K hr (by decide) h rfl dX12_isWord_21
  replace h := ite_t h c1
  refine go_aload_n K dX12_isWord_8 0 rfl rfl ?_
  refine gf_X12 K 18 (by decide) kf_X12_211 (v := .int (O.1 446 18)) rfl dX12_isWord_9 ?_
  refine go_iload_n K dX12_isWord_12 1 rfl rfl ?_
  refine go_icmp_ne (tgt := 20) K dX12_isWord_13 (by decide) (fun c2 => ?_) (fun c2 => ?_)
  · replace h := ite_f h c2
    refine go_iconst (v := (0 : Int32)) K dX12_isWord_20 (by decide) ?_
    exact go_zret K hr (by decide) h rfl dX12_isWord_21
  replace h := ite_t h c2
  refine go_iconst (v := (1 : Int32)) K dX12_isWord_16 (by decide) ?_
  refine go_goto (tgt := 21) K dX12_isWord_17 (by decide) ?_
  exact go_zret K hr (by decide) h rfl dX12_isWord_21
noncomputable def f_X12_errs (v1 : Int32) (O : OM) : Option OM := (if (O.1 446 19) = 0 then (some (oup (oup O 446 19 v1) 446 20 ((oup O 446 19 v1).1 446 16))) else (some O))
theorem cf_X12_errs : CF yX12_errs cX12_errs 2 (Option.none : Option Jvm.ClassFile.FieldType) 1 := ⟨kc_X12_errs, kj_X12, ⟨by decide +kernel, by decide +kernel, by decide +kernel⟩, by decide⟩
theorem cv_X12_errs : CFv yX12_errs := ⟨ki_X12_errs, ks_X12_errs⟩
set_option maxHeartbeats 4000000 in
set_option maxRecDepth 100000 in
theorem c_X12_errs (l : Launch) (G : GT) (v1 : Int32) (C : CM) (O : OM) (O' : OM) (h : f_X12_errs v1 O = some O') : MV l G yX12_errs cX12_errs 2 (Option.none : Option Jvm.ClassFile.FieldType) (1) [.ref (gB G + 446), .int v1] (C, O) (C, O') := by
  unfold MV
  refine met_in RX12 (by decide +kernel) rfl [(0, .ref (gB G + 446)), (1, .int v1)] rfl (Nat.le_of_ble_eq_true rfl) ?_
  intro pM eM sM mM aM bM meM cM K hr
  rw [f_X12_errs] at h
  refine go_aload_n K dX12_errs_0 0 rfl rfl ?_
  refine gf_X12 K 19 (by decide) kf_X12_215 (v := .int (O.1 446 19)) rfl dX12_errs_1 ?_
  refine go_if_ne (tgt := 20) K dX12_errs_4 (by decide) (fun c1 => ?_) (fun c1 => ?_)
  · replace h := ite_f h c1
    exact go_vret K hr (congrArg (fun z => (C, z)) (Option.some.inj h)) dX12_errs_20
  replace h := ite_t h c1
  refine go_aload_n K dX12_errs_7 0 rfl rfl ?_
  refine go_iload_n K dX12_errs_8 1 rfl rfl ?_
  refine pf_X12 K 19 (by decide) kf_X12_215 rfl rfl rfl dX12_errs_9 ?_
  refine go_aload_n K dX12_errs_12 0 rfl rfl ?_
  refine go_aload_n K dX12_errs_13 0 rfl rfl ?_
  refine gf_X12 K 16 (by decide) kf_X12_196 (v := .int ((oup O 446 19 v1).1 446 16)) rfl dX12_errs_14 ?_
  refine pf_X12 K 20 (by decide) kf_X12_218 rfl rfl rfl dX12_errs_17 ?_
  exact go_vret K hr (congrArg (fun z => (C, z)) (Option.some.inj h)) dX12_errs_20
noncomputable def f_X12_emits (v1 : Int32) (v2 : Int32) (O : OM) : Option OM := (gd (inb (O.1 446 37) 400) (gd (inb ((oup O 468 (O.1 446 37).toNatClampNeg v1).1 446 37) 400) (some (oup (oup (oup O 468 (O.1 446 37).toNatClampNeg v1) 469 ((oup O 468 (O.1 446 37).toNatClampNeg v1).1 446 37).toNatClampNeg v2) 446 37 (((oup (oup O 468 (O.1 446 37).toNatClampNeg v1) 469 ((oup O 468 (O.1 446 37).toNatClampNeg v1).1 446 37).toNatClampNeg v2).1 446 37) + (1 : Int32))))))
theorem cf_X12_emits : CF yX12_emits cX12_emits 3 (Option.none : Option Jvm.ClassFile.FieldType) 2 := ⟨kc_X12_emits, kj_X12, ⟨by decide +kernel, by decide +kernel, by decide +kernel⟩, by decide⟩
theorem cv_X12_emits : CFv yX12_emits := ⟨ki_X12_emits, ks_X12_emits⟩
set_option maxHeartbeats 4000000 in
set_option maxRecDepth 100000 in
theorem c_X12_emits (l : Launch) (G : GT) (v1 : Int32) (v2 : Int32) (C : CM) (O : OM) (O' : OM) (h : f_X12_emits v1 v2 O = some O') : MV l G yX12_emits cX12_emits 3 (Option.none : Option Jvm.ClassFile.FieldType) (1) [.ref (gB G + 446), .int v1, .int v2] (C, O) (C, O') := by
  unfold MV
  refine met_in RX12 (by decide +kernel) rfl [(0, .ref (gB G + 446)), (1, .int v1), (2, .int v2)] rfl (Nat.le_of_ble_eq_true rfl) ?_
  intro pM eM sM mM aM bM meM cM K hr
  rw [f_X12_emits] at h
  refine go_aload_n K dX12_emits_0 0 rfl rfl ?_
  refine gf_X12 K 38 (by decide) kf_X12_81 (v := .ref (gB G + 468)) rfl dX12_emits_1 ?_
  refine go_aload_n K dX12_emits_4 0 rfl rfl ?_
  refine gf_X12 K 37 (by decide) kf_X12_221 (v := .int (O.1 446 37)) rfl dX12_emits_5 ?_
  refine go_iload_n K dX12_emits_8 1 rfl rfl ?_
  obtain ⟨g1, h⟩ := gd_e h
  refine go_mast K (Nat.le_of_ble_eq_true rfl) sh_468 g1 rfl dX12_emits_9 ?_
  refine go_aload_n K dX12_emits_10 0 rfl rfl ?_
  refine gf_X12 K 39 (by decide) kf_X12_84 (v := .ref (gB G + 469)) rfl dX12_emits_11 ?_
  refine go_aload_n K dX12_emits_14 0 rfl rfl ?_
  refine gf_X12 K 37 (by decide) kf_X12_221 (v := .int ((oup O 468 (O.1 446 37).toNatClampNeg v1).1 446 37)) rfl dX12_emits_15 ?_
  refine go_iload_n K dX12_emits_18 2 rfl rfl ?_
  obtain ⟨g2, h⟩ := gd_e h
  refine go_mast K (Nat.le_of_ble_eq_true rfl) sh_469 g2 rfl dX12_emits_19 ?_
  refine go_aload_n K dX12_emits_20 0 rfl rfl ?_
  refine go_dup K dX12_emits_21 rfl ?_
  refine gf_X12 K 37 (by decide) kf_X12_221 (v := .int ((oup (oup O 468 (O.1 446 37).toNatClampNeg v1) 469 ((oup O 468 (O.1 446 37).toNatClampNeg v1).1 446 37).toNatClampNeg v2).1 446 37)) rfl dX12_emits_22 ?_
  refine go_iconst (v := (1 : Int32)) K dX12_emits_25 (by decide) ?_
  refine go_iadd K dX12_emits_26 ?_
  refine pf_X12 K 37 (by decide) kf_X12_221 rfl rfl rfl dX12_emits_27 ?_
  exact go_vret K hr (congrArg (fun z => (C, z)) (Option.some.inj h)) dX12_emits_30
noncomputable def f_X12_opensFrame (v1 : Int32) (O : OM) : Option OM := (gd (inb (O.1 446 22) 40) (some (oup (oup O 458 (O.1 446 22).toNatClampNeg v1) 446 22 (((oup O 458 (O.1 446 22).toNatClampNeg v1).1 446 22) + (1 : Int32)))))
theorem cf_X12_opensFrame : CF yX12_opensFrame cX12_opensFrame 2 (Option.none : Option Jvm.ClassFile.FieldType) 1 := ⟨kc_X12_opensFrame, kj_X12, ⟨by decide +kernel, by decide +kernel, by decide +kernel⟩, by decide⟩
theorem cv_X12_opensFrame : CFv yX12_opensFrame := ⟨ki_X12_opensFrame, ks_X12_opensFrame⟩
set_option maxHeartbeats 4000000 in
set_option maxRecDepth 100000 in
theorem c_X12_opensFrame (l : Launch) (G : GT) (v1 : Int32) (C : CM) (O : OM) (O' : OM) (h : f_X12_opensFrame v1 O = some O') : MV l G yX12_opensFrame cX12_opensFrame 2 (Option.none : Option Jvm.ClassFile.FieldType) (1) [.ref (gB G + 446), .int v1] (C, O) (C, O') := by
  unfold MV
  refine met_in RX12 (by decide +kernel) rfl [(0, .ref (gB G + 446)), (1, .int v1)] rfl (Nat.le_of_ble_eq_true rfl) ?_
  intro pM eM sM mM aM bM meM cM K hr
  rw [f_X12_opensFrame] at h
  refine go_aload_n K dX12_opensFrame_0 0 rfl rfl ?_
  refine gf_X12 K 23 (by decide) kf_X12_51 (v := .ref (gB G + 458)) rfl dX12_opensFrame_1 ?_
  refine go_aload_n K dX12_opensFrame_4 0 rfl rfl ?_
  refine gf_X12 K 22 (by decide) kf_X12_224 (v := .int (O.1 446 22)) rfl dX12_opensFrame_5 ?_
  refine go_iload_n K dX12_opensFrame_8 1 rfl rfl ?_
  obtain ⟨g1, h⟩ := gd_e h
  refine go_mast K (Nat.le_of_ble_eq_true rfl) sh_458 g1 rfl dX12_opensFrame_9 ?_
  refine go_aload_n K dX12_opensFrame_10 0 rfl rfl ?_
  refine go_dup K dX12_opensFrame_11 rfl ?_
  refine gf_X12 K 22 (by decide) kf_X12_224 (v := .int ((oup O 458 (O.1 446 22).toNatClampNeg v1).1 446 22)) rfl dX12_opensFrame_12 ?_
  refine go_iconst (v := (1 : Int32)) K dX12_opensFrame_15 (by decide) ?_
  refine go_iadd K dX12_opensFrame_16 ?_
  refine pf_X12 K 22 (by decide) kf_X12_224 rfl rfl rfl dX12_opensFrame_17 ?_
  exact go_vret K hr (congrArg (fun z => (C, z)) (Option.some.inj h)) dX12_opensFrame_20
noncomputable def f_X12_top (O : OM) : Option Int32 := (gd (inb ((O.1 446 22) - (1 : Int32)) 40) (some (O.1 458 ((O.1 446 22) - (1 : Int32)).toNatClampNeg)))
theorem cf_X12_top : CF yX12_top cX12_top 1 (Option.some Jvm.ClassFile.FieldType.int) 0 := ⟨kc_X12_top, kj_X12, ⟨by decide +kernel, by decide +kernel, by decide +kernel⟩, by decide⟩
theorem cv_X12_top : CFv yX12_top := ⟨ki_X12_top, ks_X12_top⟩
set_option maxHeartbeats 4000000 in
set_option maxRecDepth 100000 in
theorem c_X12_top (l : Launch) (G : GT) (C : CM) (O : OM) (res : Int32) (h : f_X12_top O = some res) : MI l G yX12_top cX12_top 1 (Option.some Jvm.ClassFile.FieldType.int) (1) [.ref (gB G + 446)] (C, O) res (C, O) := by
  unfold MI
  refine met_in RX12 (by decide +kernel) rfl [(0, .ref (gB G + 446))] rfl (Nat.le_of_ble_eq_true rfl) ?_
  intro pM eM sM mM aM bM meM cM K hr
  rw [f_X12_top] at h
  refine go_aload_n K dX12_top_0 0 rfl rfl ?_
  refine gf_X12 K 23 (by decide) kf_X12_51 (v := .ref (gB G + 458)) rfl dX12_top_1 ?_
  refine go_aload_n K dX12_top_4 0 rfl rfl ?_
  refine gf_X12 K 22 (by decide) kf_X12_224 (v := .int (O.1 446 22)) rfl dX12_top_5 ?_
  refine go_iconst (v := (1 : Int32)) K dX12_top_8 (by decide) ?_
  refine go_isub K dX12_top_9 ?_
  obtain ⟨g1, h⟩ := gd_e h
  refine go_mald K (Nat.le_of_ble_eq_true rfl) sh_458 g1 rfl dX12_top_10 ?_
  exact go_iret K hr (Option.some.inj h) rfl dX12_top_11
noncomputable def f_X12_opensSign (v1 : Int32) (O : OM) : Option (Int32 × OM) := (if (O.1 446 21) = (8 : Int32) then (bnd (f_X12_errs (3 : Int32) O) (fun O4 => (some ((0 : Int32), O4)))) else (bnd (f_X12_opensFrame v1 (oup O 446 21 ((O.1 446 21) + (1 : Int32)))) (fun O2 => (bnd (f_X12_next O2) (fun O3 => (some ((1 : Int32), O3)))))))
theorem cf_X12_opensSign : CF yX12_opensSign cX12_opensSign 2 (Option.some Jvm.ClassFile.FieldType.boolean) 1 := ⟨kc_X12_opensSign, kj_X12, ⟨by decide +kernel, by decide +kernel, by decide +kernel⟩, by decide⟩
theorem cv_X12_opensSign : CFv yX12_opensSign := ⟨ki_X12_opensSign, ks_X12_opensSign⟩
set_option maxHeartbeats 4000000 in
set_option maxRecDepth 100000 in
theorem c_X12_opensSign (l : Launch) (G : GT) (v1 : Int32) (C : CM) (O : OM) (res : Int32) (O' : OM) (h : f_X12_opensSign v1 O = some (res, O')) : MI l G yX12_opensSign cX12_opensSign 2 (Option.some Jvm.ClassFile.FieldType.boolean) (4) [.ref (gB G + 446), .int v1] (C, O) res (C, O') := by
  unfold MI
  refine met_in RX12 (by decide +kernel) rfl [(0, .ref (gB G + 446)), (1, .int v1)] rfl (Nat.le_of_ble_eq_true rfl) ?_
  intro pM eM sM mM aM bM meM cM K hr
  rw [f_X12_opensSign] at h
  refine go_aload_n K dX12_opensSign_0 0 rfl rfl ?_
  refine gf_X12 K 21 (by decide) kf_X12_227 (v := .int (O.1 446 21)) rfl dX12_opensSign_1 ?_
  refine go_bipush (v := (8 : Int32)) K dX12_opensSign_4 (by decide) ?_
  refine go_icmp_ne (tgt := 16) K dX12_opensSign_6 (by decide) (fun c1 => ?_) (fun c1 => ?_)
  rotate_left
  · replace h := ite_t h c1
    refine go_aload_n K dX12_opensSign_9 0 rfl rfl ?_
    refine go_iconst (v := (3 : Int32)) K dX12_opensSign_10 (by decide) ?_
    obtain ⟨O4, e4, h⟩ := bnd_e h
    refine go_cVV K (c_X12_errs l G _ _ _ _ e4) cf_X12_errs cv_X12_errs km_X12_230 rv_X12 (by decide) rfl rfl (Nat.le_of_ble_eq_true rfl) dX12_opensSign_11 ?_
    refine go_iconst (v := (0 : Int32)) K dX12_opensSign_14 (by decide) ?_
    exact go_zret K hr (by decide) (Prod.mk.inj (Option.some.inj h)).1 (congrArg (fun z => (C, z)) (Prod.mk.inj (Option.some.inj h)).2) dX12_opensSign_15
  replace h := ite_f h c1
  refine go_aload_n K dX12_opensSign_16 0 rfl rfl ?_
  refine go_dup K dX12_opensSign_17 rfl ?_
  refine gf_X12 K 21 (by decide) kf_X12_227 (v := .int (O.1 446 21)) rfl dX12_opensSign_18 ?_
  refine go_iconst (v := (1 : Int32)) K dX12_opensSign_21 (by decide) ?_
  refine go_iadd K dX12_opensSign_22 ?_
  refine pf_X12 K 21 (by decide) kf_X12_227 rfl rfl rfl dX12_opensSign_23 ?_
  refine go_aload_n K dX12_opensSign_26 0 rfl rfl ?_
  refine go_iload_n K dX12_opensSign_27 1 rfl rfl ?_
  obtain ⟨O2, e2, h⟩ := bnd_e h
  refine go_cVV K (c_X12_opensFrame l G _ _ _ _ e2) cf_X12_opensFrame cv_X12_opensFrame km_X12_233 rv_X12 (by decide) rfl rfl (Nat.le_of_ble_eq_true rfl) dX12_opensSign_28 ?_
  refine go_aload_n K dX12_opensSign_31 0 rfl rfl ?_
  obtain ⟨O3, e3, h⟩ := bnd_e h
  refine go_cVV K (c_X12_next l G _ _ _ e3) cf_X12_next cv_X12_next km_X12_236 rv_X12 (by decide) rfl rfl (Nat.le_of_ble_eq_true rfl) dX12_opensSign_32 ?_
  refine go_iconst (v := (1 : Int32)) K dX12_opensSign_35 (by decide) ?_
  exact go_zret K hr (by decide) (Prod.mk.inj (Option.some.inj h)).1 (congrArg (fun z => (C, z)) (Prod.mk.inj (Option.some.inj h)).2) dX12_opensSign_36
noncomputable def X12_rank_j34 : Int32 := (3 : Int32)
noncomputable def f_X12_rank (v0 : Int32) : Int32 := (if v0 = (407 : Int32) then (1 : Int32) else (if v0 = (406 : Int32) then (2 : Int32) else (if v0 = (43 : Int32) then (X12_rank_j34) else (if v0 = (45 : Int32) then (X12_rank_j34) else (4 : Int32)))))
theorem cf_X12_rank : CF yX12_rank cX12_rank 1 (Option.some Jvm.ClassFile.FieldType.int) 1 := ⟨kc_X12_rank, kj_X12, ⟨by decide +kernel, by decide +kernel, by decide +kernel⟩, by decide⟩
set_option maxHeartbeats 4000000 in
set_option maxRecDepth 100000 in
theorem c_X12_rank (l : Launch) (G : GT) (v0 : Int32) (C : CM) (O : OM) (res : Int32) (h : f_X12_rank v0 = res) : MI l G yX12_rank cX12_rank 1 (Option.some Jvm.ClassFile.FieldType.int) (1) [.int v0] (C, O) res (C, O) := by
  unfold MI
  refine met_in RX12 (by decide +kernel) rfl [(0, .int v0)] rfl (Nat.le_of_ble_eq_true rfl) ?_
  intro pM eM sM mM aM bM meM cM K hr
  have hj34 : X12_rank_j34 = res → GO pM l eM (1) sM mM aM bM meM cM (MQ bM (va_Qi (fun (r' : Int32) (u : CM × OM) => r' = res ∧ u = (C, O)) (wB G) (Fr G)) aM sM 0 0 (Fr G)) G 1 (C, O) 34 [] [] := by
    intro h
    rw [X12_rank_j34] at h
    refine go_iconst (v := (3 : Int32)) K dX12_rank_34 (by decide) ?_
    refine go_goto (tgt := 39) K dX12_rank_35 (by decide) ?_
    exact go_iret K hr h rfl dX12_rank_39
  rw [f_X12_rank] at h
  refine go_iload_n K dX12_rank_0 0 rfl rfl ?_
  refine go_sipush (v := (407 : Int32)) K dX12_rank_1 (by decide) ?_
  refine go_icmp_ne (tgt := 11) K dX12_rank_4 (by decide) (fun c1 => ?_) (fun c1 => ?_)
  rotate_left
  · replace h := ite_t h c1
    refine go_iconst (v := (1 : Int32)) K dX12_rank_7 (by decide) ?_
    refine go_goto (tgt := 39) K dX12_rank_8 (by decide) ?_
    exact go_iret K hr h rfl dX12_rank_39
  replace h := ite_f h c1
  refine go_iload_n K dX12_rank_11 0 rfl rfl ?_
  refine go_sipush (v := (406 : Int32)) K dX12_rank_12 (by decide) ?_
  refine go_icmp_ne (tgt := 22) K dX12_rank_15 (by decide) (fun c2 => ?_) (fun c2 => ?_)
  rotate_left
  · replace h := ite_t h c2
    refine go_iconst (v := (2 : Int32)) K dX12_rank_18 (by decide) ?_
    refine go_goto (tgt := 39) K dX12_rank_19 (by decide) ?_
    exact go_iret K hr h rfl dX12_rank_39
  replace h := ite_f h c2
  refine go_iload_n K dX12_rank_22 0 rfl rfl ?_
  refine go_bipush (v := (43 : Int32)) K dX12_rank_23 (by decide) ?_
  refine go_icmp_eq (tgt := 34) K dX12_rank_25 (by decide) (fun c3 => ?_) (fun c3 => ?_)
  · replace h := ite_t h c3
    exact go_sub [] rfl (hj34 h)
  replace h := ite_f h c3
  refine go_iload_n K dX12_rank_28 0 rfl rfl ?_
  refine go_bipush (v := (45 : Int32)) K dX12_rank_29 (by decide) ?_
  refine go_icmp_ne (tgt := 38) K dX12_rank_31 (by decide) (fun c4 => ?_) (fun c4 => ?_)
  rotate_left
  · replace h := ite_t h c4
    exact go_sub [] rfl (hj34 h)
  replace h := ite_f h c4
  refine go_iconst (v := (4 : Int32)) K dX12_rank_38 (by decide) ?_
  exact go_iret K hr h rfl dX12_rank_39
noncomputable def X12_works_l0 : Nat → Int32 → OM → Option OM
  | 0, _, _ => none
  | n + 1, v1, O => (if (O.1 446 25) ≤ 0 then (some O) else (gd (inb ((O.1 446 25) - (1 : Int32)) 80) (if (O.1 461 ((O.1 446 25) - (1 : Int32)).toNatClampNeg) = (O.1 446 22) then (gd (inb ((O.1 446 25) - (1 : Int32)) 80) (if (f_X12_rank (O.1 460 ((O.1 446 25) - (1 : Int32)).toNatClampNeg)) < v1 then (some O) else (gd (inb ((oup O 446 25 ((O.1 446 25) - (1 : Int32))).1 446 25) 80) (bnd (f_X12_emits ((oup O 446 25 ((O.1 446 25) - (1 : Int32))).1 460 ((oup O 446 25 ((O.1 446 25) - (1 : Int32))).1 446 25).toNatClampNeg) (0 : Int32) (oup O 446 25 ((O.1 446 25) - (1 : Int32)))) (fun O7 => (X12_works_l0 n v1 O7)))))) else (some O))))
noncomputable def f_X12_works (v1 : Int32) (O : OM) : Option OM := (X12_works_l0 FU v1 O)
theorem cf_X12_works : CF yX12_works cX12_works 2 (Option.none : Option Jvm.ClassFile.FieldType) 1 := ⟨kc_X12_works, kj_X12, ⟨by decide +kernel, by decide +kernel, by decide +kernel⟩, by decide⟩
theorem cv_X12_works : CFv yX12_works := ⟨ki_X12_works, ks_X12_works⟩
set_option maxHeartbeats 4000000 in
set_option maxRecDepth 100000 in
theorem c_X12_works (l : Launch) (G : GT) (v1 : Int32) (C : CM) (O : OM) (O' : OM) (h : f_X12_works v1 O = some O') : MV l G yX12_works cX12_works 2 (Option.none : Option Jvm.ClassFile.FieldType) (2) [.ref (gB G + 446), .int v1] (C, O) (C, O') := by
  unfold MV
  refine met_in RX12 (by decide +kernel) rfl [(0, .ref (gB G + 446)), (1, .int v1)] rfl (Nat.le_of_ble_eq_true rfl) ?_
  intro pM eM sM mM aM bM meM cM K hr
  have hl0 : ∀ (n0 : Nat) (v1 : Int32) (O : OM), X12_works_l0 n0 v1 O = some O' → GO pM l eM (2) sM mM aM bM meM cM (MQ bM (va_Qv (fun (u : CM × OM) => u = (C, O')) (wB G) (Fr G)) aM sM 0 0 (Fr G)) G 2 (C, O) 0 [(0, .ref (gB G + 446)), (1, .int v1)] [] := by
    intro n0
    induction n0 with
    | zero =>
      intro v1 O h
      rw [X12_works_l0] at h
      cases h
    | succ n0 ih0 =>
      intro v1 O h
      rw [X12_works_l0] at h
      refine go_aload_n K dX12_works_0 0 rfl rfl ?_
      refine gf_X12 K 25 (by decide) kf_X12_239 (v := .int (O.1 446 25)) rfl dX12_works_1 ?_
      refine go_if_le (tgt := 70) K dX12_works_4 (by decide) (fun c1 => ?_) (fun c1 => ?_)
      · replace h := ite_t h c1
        exact go_vret K hr (congrArg (fun z => (C, z)) (Option.some.inj h)) dX12_works_70
      replace h := ite_f h c1
      refine go_aload_n K dX12_works_7 0 rfl rfl ?_
      refine gf_X12 K 27 (by decide) kf_X12_60 (v := .ref (gB G + 461)) rfl dX12_works_8 ?_
      refine go_aload_n K dX12_works_11 0 rfl rfl ?_
      refine gf_X12 K 25 (by decide) kf_X12_239 (v := .int (O.1 446 25)) rfl dX12_works_12 ?_
      refine go_iconst (v := (1 : Int32)) K dX12_works_15 (by decide) ?_
      refine go_isub K dX12_works_16 ?_
      obtain ⟨g2, h⟩ := gd_e h
      refine go_mald K (Nat.le_of_ble_eq_true rfl) sh_461 g2 rfl dX12_works_17 ?_
      refine go_aload_n K dX12_works_18 0 rfl rfl ?_
      refine gf_X12 K 22 (by decide) kf_X12_224 (v := .int (O.1 446 22)) rfl dX12_works_19 ?_
      refine go_icmp_ne (tgt := 70) K dX12_works_22 (by decide) (fun c3 => ?_) (fun c3 => ?_)
      · replace h := ite_f h c3
        exact go_vret K hr (congrArg (fun z => (C, z)) (Option.some.inj h)) dX12_works_70
      replace h := ite_t h c3
      refine go_aload_n K dX12_works_25 0 rfl rfl ?_
      refine gf_X12 K 26 (by decide) kf_X12_57 (v := .ref (gB G + 460)) rfl dX12_works_26 ?_
      refine go_aload_n K dX12_works_29 0 rfl rfl ?_
      refine gf_X12 K 25 (by decide) kf_X12_239 (v := .int (O.1 446 25)) rfl dX12_works_30 ?_
      refine go_iconst (v := (1 : Int32)) K dX12_works_33 (by decide) ?_
      refine go_isub K dX12_works_34 ?_
      obtain ⟨g4, h⟩ := gd_e h
      refine go_mald K (Nat.le_of_ble_eq_true rfl) sh_460 g4 rfl dX12_works_35 ?_
      refine go_cSI K (c_X12_rank l G _ _ _ _ rfl) cf_X12_rank kt_X12_rank km_X12_242 (by decide) rfl rfl (Nat.le_of_ble_eq_true rfl) dX12_works_36 ?_
      refine go_iload_n K dX12_works_39 1 rfl rfl ?_
      refine go_icmp_lt (tgt := 70) K dX12_works_40 (by decide) (fun c5 => ?_) (fun c5 => ?_)
      · replace h := ite_t h c5
        exact go_vret K hr (congrArg (fun z => (C, z)) (Option.some.inj h)) dX12_works_70
      replace h := ite_f h c5
      refine go_aload_n K dX12_works_43 0 rfl rfl ?_
      refine go_dup K dX12_works_44 rfl ?_
      refine gf_X12 K 25 (by decide) kf_X12_239 (v := .int (O.1 446 25)) rfl dX12_works_45 ?_
      refine go_iconst (v := (1 : Int32)) K dX12_works_48 (by decide) ?_
      refine go_isub K dX12_works_49 ?_
      refine pf_X12 K 25 (by decide) kf_X12_239 rfl rfl rfl dX12_works_50 ?_
      refine go_aload_n K dX12_works_53 0 rfl rfl ?_
      refine go_aload_n K dX12_works_54 0 rfl rfl ?_
      refine gf_X12 K 26 (by decide) kf_X12_57 (v := .ref (gB G + 460)) rfl dX12_works_55 ?_
      refine go_aload_n K dX12_works_58 0 rfl rfl ?_
      refine gf_X12 K 25 (by decide) kf_X12_239 (v := .int ((oup O 446 25 ((O.1 446 25) - (1 : Int32))).1 446 25)) rfl dX12_works_59 ?_
      obtain ⟨g6, h⟩ := gd_e h
      refine go_mald K (Nat.le_of_ble_eq_true rfl) sh_460 g6 rfl dX12_works_62 ?_
      refine go_iconst (v := (0 : Int32)) K dX12_works_63 (by decide) ?_
      obtain ⟨O7, e7, h⟩ := bnd_e h
      refine go_cVV K (c_X12_emits l G _ _ _ _ _ e7) cf_X12_emits cv_X12_emits km_X12_246 rv_X12 (by decide) rfl rfl (Nat.le_of_ble_eq_true rfl) dX12_works_64 ?_
      refine go_goto (tgt := 0) K dX12_works_67 (by decide) ?_
      exact ih0 _ _ h
  rw [f_X12_works] at h
  exact hl0 FU _ _ h
noncomputable def f_X12_waitsFor (v1 : Int32) (O : OM) : Option OM := (bnd (f_X12_works (f_X12_rank v1) O) (fun O1 => (gd (inb (O1.1 446 25) 80) (gd (inb ((oup O1 460 (O1.1 446 25).toNatClampNeg v1).1 446 25) 80) (bnd (f_X12_next (oup (oup (oup O1 460 (O1.1 446 25).toNatClampNeg v1) 461 ((oup O1 460 (O1.1 446 25).toNatClampNeg v1).1 446 25).toNatClampNeg ((oup O1 460 (O1.1 446 25).toNatClampNeg v1).1 446 22)) 446 25 (((oup (oup O1 460 (O1.1 446 25).toNatClampNeg v1) 461 ((oup O1 460 (O1.1 446 25).toNatClampNeg v1).1 446 25).toNatClampNeg ((oup O1 460 (O1.1 446 25).toNatClampNeg v1).1 446 22)).1 446 25) + (1 : Int32)))) (fun O4 => (some O4)))))))
theorem cf_X12_waitsFor : CF yX12_waitsFor cX12_waitsFor 2 (Option.none : Option Jvm.ClassFile.FieldType) 1 := ⟨kc_X12_waitsFor, kj_X12, ⟨by decide +kernel, by decide +kernel, by decide +kernel⟩, by decide⟩
theorem cv_X12_waitsFor : CFv yX12_waitsFor := ⟨ki_X12_waitsFor, ks_X12_waitsFor⟩
set_option maxHeartbeats 4000000 in
set_option maxRecDepth 100000 in
theorem c_X12_waitsFor (l : Launch) (G : GT) (v1 : Int32) (C : CM) (O : OM) (O' : OM) (h : f_X12_waitsFor v1 O = some O') : MV l G yX12_waitsFor cX12_waitsFor 2 (Option.none : Option Jvm.ClassFile.FieldType) (4) [.ref (gB G + 446), .int v1] (C, O) (C, O') := by
  unfold MV
  refine met_in RX12 (by decide +kernel) rfl [(0, .ref (gB G + 446)), (1, .int v1)] rfl (Nat.le_of_ble_eq_true rfl) ?_
  intro pM eM sM mM aM bM meM cM K hr
  rw [f_X12_waitsFor] at h
  refine go_aload_n K dX12_waitsFor_0 0 rfl rfl ?_
  refine go_iload_n K dX12_waitsFor_1 1 rfl rfl ?_
  refine go_cSI K (c_X12_rank l G _ _ _ _ rfl) cf_X12_rank kt_X12_rank km_X12_242 (by decide) rfl rfl (Nat.le_of_ble_eq_true rfl) dX12_waitsFor_2 ?_
  obtain ⟨O1, e1, h⟩ := bnd_e h
  refine go_cVV K (c_X12_works l G _ _ _ _ e1) cf_X12_works cv_X12_works km_X12_249 rv_X12 (by decide) rfl rfl (Nat.le_of_ble_eq_true rfl) dX12_waitsFor_5 ?_
  refine go_aload_n K dX12_waitsFor_8 0 rfl rfl ?_
  refine gf_X12 K 26 (by decide) kf_X12_57 (v := .ref (gB G + 460)) rfl dX12_waitsFor_9 ?_
  refine go_aload_n K dX12_waitsFor_12 0 rfl rfl ?_
  refine gf_X12 K 25 (by decide) kf_X12_239 (v := .int (O1.1 446 25)) rfl dX12_waitsFor_13 ?_
  refine go_iload_n K dX12_waitsFor_16 1 rfl rfl ?_
  obtain ⟨g2, h⟩ := gd_e h
  refine go_mast K (Nat.le_of_ble_eq_true rfl) sh_460 g2 rfl dX12_waitsFor_17 ?_
  refine go_aload_n K dX12_waitsFor_18 0 rfl rfl ?_
  refine gf_X12 K 27 (by decide) kf_X12_60 (v := .ref (gB G + 461)) rfl dX12_waitsFor_19 ?_
  refine go_aload_n K dX12_waitsFor_22 0 rfl rfl ?_
  refine gf_X12 K 25 (by decide) kf_X12_239 (v := .int ((oup O1 460 (O1.1 446 25).toNatClampNeg v1).1 446 25)) rfl dX12_waitsFor_23 ?_
  refine go_aload_n K dX12_waitsFor_26 0 rfl rfl ?_
  refine gf_X12 K 22 (by decide) kf_X12_224 (v := .int ((oup O1 460 (O1.1 446 25).toNatClampNeg v1).1 446 22)) rfl dX12_waitsFor_27 ?_
  obtain ⟨g3, h⟩ := gd_e h
  refine go_mast K (Nat.le_of_ble_eq_true rfl) sh_461 g3 rfl dX12_waitsFor_30 ?_
  refine go_aload_n K dX12_waitsFor_31 0 rfl rfl ?_
  refine go_dup K dX12_waitsFor_32 rfl ?_
  refine gf_X12 K 25 (by decide) kf_X12_239 (v := .int ((oup (oup O1 460 (O1.1 446 25).toNatClampNeg v1) 461 ((oup O1 460 (O1.1 446 25).toNatClampNeg v1).1 446 25).toNatClampNeg ((oup O1 460 (O1.1 446 25).toNatClampNeg v1).1 446 22)).1 446 25)) rfl dX12_waitsFor_33 ?_
  refine go_iconst (v := (1 : Int32)) K dX12_waitsFor_36 (by decide) ?_
  refine go_iadd K dX12_waitsFor_37 ?_
  refine pf_X12 K 25 (by decide) kf_X12_239 rfl rfl rfl dX12_waitsFor_38 ?_
  refine go_aload_n K dX12_waitsFor_41 0 rfl rfl ?_
  obtain ⟨O4, e4, h⟩ := bnd_e h
  refine go_cVV K (c_X12_next l G _ _ _ e4) cf_X12_next cv_X12_next km_X12_236 rv_X12 (by decide) rfl rfl (Nat.le_of_ble_eq_true rfl) dX12_waitsFor_42 ?_
  exact go_vret K hr (congrArg (fun z => (C, z)) (Option.some.inj h)) dX12_waitsFor_45
noncomputable def f_X12_asks (O : OM) : Option OM := (if (f_X12_isWord (18 : Int32) O) = 0 then (bnd (f_X12_opensFrame (4 : Int32) O) (fun O2 => (some (oup O2 446 28 (1 : Int32))))) else (bnd2 (f_X12_opensSign (3 : Int32) O) (fun r3 O3 => (some O3))))
theorem cf_X12_asks : CF yX12_asks cX12_asks 2 (Option.none : Option Jvm.ClassFile.FieldType) 0 := ⟨kc_X12_asks, kj_X12, ⟨by decide +kernel, by decide +kernel, by decide +kernel⟩, by decide⟩
theorem cv_X12_asks : CFv yX12_asks := ⟨ki_X12_asks, ks_X12_asks⟩
set_option maxHeartbeats 4000000 in
set_option maxRecDepth 100000 in
theorem c_X12_asks (l : Launch) (G : GT) (C : CM) (O : OM) (O' : OM) (h : f_X12_asks O = some O') : MV l G yX12_asks cX12_asks 2 (Option.none : Option Jvm.ClassFile.FieldType) (5) [.ref (gB G + 446)] (C, O) (C, O') := by
  unfold MV
  refine met_in RX12 (by decide +kernel) rfl [(0, .ref (gB G + 446))] rfl (Nat.le_of_ble_eq_true rfl) ?_
  intro pM eM sM mM aM bM meM cM K hr
  rw [f_X12_asks] at h
  refine go_aload_n K dX12_asks_0 0 rfl rfl ?_
  refine go_bipush (v := (18 : Int32)) K dX12_asks_1 (by decide) ?_
  refine go_cVI K (c_X12_isWord l G _ _ _ _ rfl) cf_X12_isWord cv_X12_isWord km_X12_252 rv_X12 (by decide) rfl rfl (Nat.le_of_ble_eq_true rfl) dX12_asks_3 ?_
  refine go_if_eq (tgt := 18) K dX12_asks_6 (by decide) (fun c1 => ?_) (fun c1 => ?_)
  rotate_left
  · replace h := ite_f h c1
    refine go_aload_n K dX12_asks_9 0 rfl rfl ?_
    refine go_iconst (v := (3 : Int32)) K dX12_asks_10 (by decide) ?_
    obtain ⟨r3, O3, e3, h⟩ := bnd2_e h
    refine go_cVI K (c_X12_opensSign l G _ _ _ _ _ e3) cf_X12_opensSign cv_X12_opensSign km_X12_255 rv_X12 (by decide) rfl rfl (Nat.le_of_ble_eq_true rfl) dX12_asks_11 ?_
    refine go_istore_n K dX12_asks_14 rfl (by decide) (lv' := [(1, .int r3), (0, .ref (gB G + 446))]) rfl ?_
    refine go_goto (tgt := 28) K dX12_asks_15 (by decide) ?_
    exact go_vret K hr (congrArg (fun z => (C, z)) (Option.some.inj h)) dX12_asks_28
  replace h := ite_t h c1
  refine go_aload_n K dX12_asks_18 0 rfl rfl ?_
  refine go_iconst (v := (4 : Int32)) K dX12_asks_19 (by decide) ?_
  obtain ⟨O2, e2, h⟩ := bnd_e h
  refine go_cVV K (c_X12_opensFrame l G _ _ _ _ e2) cf_X12_opensFrame cv_X12_opensFrame km_X12_233 rv_X12 (by decide) rfl rfl (Nat.le_of_ble_eq_true rfl) dX12_asks_20 ?_
  refine go_aload_n K dX12_asks_23 0 rfl rfl ?_
  refine go_iconst (v := (1 : Int32)) K dX12_asks_24 (by decide) ?_
  refine pf_X12 K 28 (by decide) kf_X12_258 rfl rfl rfl dX12_asks_25 ?_
  exact go_vret K hr (congrArg (fun z => (C, z)) (Option.some.inj h)) dX12_asks_28
noncomputable def X12_mayName_j49 : Int32 := (1 : Int32)
noncomputable def X12_mayName_j75 : Int32 := (1 : Int32)
noncomputable def f_X12_mayName (v0 : Int32) (v1 : Int32) : Int32 := (if v0 = (4 : Int32) then (if v1 = 0 then (X12_mayName_j49) else (if v1 = (3 : Int32) then (X12_mayName_j49) else (0 : Int32))) else (if v0 = (5 : Int32) then (if v1 = (3 : Int32) then (0 : Int32) else (1 : Int32)) else (if v0 = (6 : Int32) then (if v1 = (3 : Int32) then (0 : Int32) else (1 : Int32)) else (if v0 = (7 : Int32) then (if v1 = 0 then (X12_mayName_j75) else (if v1 = (2 : Int32) then (X12_mayName_j75) else (0 : Int32))) else (if v0 = (8 : Int32) then (if v1 = 0 then (1 : Int32) else (0 : Int32)) else (if v0 = (9 : Int32) then (if v1 = (1 : Int32) then (1 : Int32) else (0 : Int32)) else (1 : Int32)))))))
theorem cf_X12_mayName : CF yX12_mayName cX12_mayName 2 (Option.some Jvm.ClassFile.FieldType.boolean) 2 := ⟨kc_X12_mayName, kj_X12, ⟨by decide +kernel, by decide +kernel, by decide +kernel⟩, by decide⟩
set_option maxHeartbeats 4000000 in
set_option maxRecDepth 100000 in
theorem c_X12_mayName (l : Launch) (G : GT) (v0 : Int32) (v1 : Int32) (C : CM) (O : OM) (res : Int32) (h : f_X12_mayName v0 v1 = res) : MI l G yX12_mayName cX12_mayName 2 (Option.some Jvm.ClassFile.FieldType.boolean) (1) [.int v0, .int v1] (C, O) res (C, O) := by
  unfold MI
  refine met_in RX12 (by decide +kernel) rfl [(0, .int v0), (1, .int v1)] rfl (Nat.le_of_ble_eq_true rfl) ?_
  intro pM eM sM mM aM bM meM cM K hr
  have hj49 : X12_mayName_j49 = res → GO pM l eM (1) sM mM aM bM meM cM (MQ bM (va_Qi (fun (r' : Int32) (u : CM × OM) => r' = res ∧ u = (C, O)) (wB G) (Fr G)) aM sM 0 0 (Fr G)) G 2 (C, O) 49 [] [] := by
    intro h
    rw [X12_mayName_j49] at h
    refine go_iconst (v := (1 : Int32)) K dX12_mayName_49 (by decide) ?_
    refine go_goto (tgt := 54) K dX12_mayName_50 (by decide) ?_
    exact go_zret K hr (by decide) h rfl dX12_mayName_54
  have hj75 : X12_mayName_j75 = res → GO pM l eM (1) sM mM aM bM meM cM (MQ bM (va_Qi (fun (r' : Int32) (u : CM × OM) => r' = res ∧ u = (C, O)) (wB G) (Fr G)) aM sM 0 0 (Fr G)) G 2 (C, O) 75 [] [] := by
    intro h
    rw [X12_mayName_j75] at h
    refine go_iconst (v := (1 : Int32)) K dX12_mayName_75 (by decide) ?_
    refine go_goto (tgt := 80) K dX12_mayName_76 (by decide) ?_
    exact go_zret K hr (by decide) h rfl dX12_mayName_80
  rw [f_X12_mayName] at h
  refine go_iload_n K dX12_mayName_0 0 rfl rfl ?_
  by_cases c1 : v0 = (4 : Int32)
  · refine go_tableIn K dX12_mayName_1 (by rw [c1]; decide) (by rw [c1]; decide) (off := 39) (by rw [c1]; decide) (tgt := 40) (by decide) ?_
    replace h := ite_t h c1
    refine go_iload_n K dX12_mayName_40 1 rfl rfl ?_
    refine go_if_eq (tgt := 49) K dX12_mayName_41 (by decide) (fun c2 => ?_) (fun c2 => ?_)
    · replace h := ite_t h c2
      exact go_sub [] rfl (hj49 h)
    replace h := ite_f h c2
    refine go_iload_n K dX12_mayName_44 1 rfl rfl ?_
    refine go_iconst (v := (3 : Int32)) K dX12_mayName_45 (by decide) ?_
    refine go_icmp_ne (tgt := 53) K dX12_mayName_46 (by decide) (fun c3 => ?_) (fun c3 => ?_)
    rotate_left
    · replace h := ite_t h c3
      exact go_sub [] rfl (hj49 h)
    replace h := ite_f h c3
    refine go_iconst (v := (0 : Int32)) K dX12_mayName_53 (by decide) ?_
    exact go_zret K hr (by decide) h rfl dX12_mayName_54
  replace h := ite_f h c1
  by_cases c4 : v0 = (5 : Int32)
  · refine go_tableIn K dX12_mayName_1 (by rw [c4]; decide) (by rw [c4]; decide) (off := 54) (by rw [c4]; decide) (tgt := 55) (by decide) ?_
    replace h := ite_t h c4
    refine go_iload_n K dX12_mayName_55 1 rfl rfl ?_
    refine go_iconst (v := (3 : Int32)) K dX12_mayName_56 (by decide) ?_
    refine go_icmp_eq (tgt := 64) K dX12_mayName_57 (by decide) (fun c5 => ?_) (fun c5 => ?_)
    · replace h := ite_t h c5
      refine go_iconst (v := (0 : Int32)) K dX12_mayName_64 (by decide) ?_
      exact go_zret K hr (by decide) h rfl dX12_mayName_65
    replace h := ite_f h c5
    refine go_iconst (v := (1 : Int32)) K dX12_mayName_60 (by decide) ?_
    refine go_goto (tgt := 65) K dX12_mayName_61 (by decide) ?_
    exact go_zret K hr (by decide) h rfl dX12_mayName_65
  replace h := ite_f h c4
  by_cases c6 : v0 = (6 : Int32)
  · refine go_tableIn K dX12_mayName_1 (by rw [c6]; decide) (by rw [c6]; decide) (off := 54) (by rw [c6]; decide) (tgt := 55) (by decide) ?_
    replace h := ite_t h c6
    refine go_iload_n K dX12_mayName_55 1 rfl rfl ?_
    refine go_iconst (v := (3 : Int32)) K dX12_mayName_56 (by decide) ?_
    refine go_icmp_eq (tgt := 64) K dX12_mayName_57 (by decide) (fun c7 => ?_) (fun c7 => ?_)
    · replace h := ite_t h c7
      refine go_iconst (v := (0 : Int32)) K dX12_mayName_64 (by decide) ?_
      exact go_zret K hr (by decide) h rfl dX12_mayName_65
    replace h := ite_f h c7
    refine go_iconst (v := (1 : Int32)) K dX12_mayName_60 (by decide) ?_
    refine go_goto (tgt := 65) K dX12_mayName_61 (by decide) ?_
    exact go_zret K hr (by decide) h rfl dX12_mayName_65
  replace h := ite_f h c6
  by_cases c8 : v0 = (7 : Int32)
  · refine go_tableIn K dX12_mayName_1 (by rw [c8]; decide) (by rw [c8]; decide) (off := 65) (by rw [c8]; decide) (tgt := 66) (by decide) ?_
    replace h := ite_t h c8
    refine go_iload_n K dX12_mayName_66 1 rfl rfl ?_
    refine go_if_eq (tgt := 75) K dX12_mayName_67 (by decide) (fun c9 => ?_) (fun c9 => ?_)
    · replace h := ite_t h c9
      exact go_sub [] rfl (hj75 h)
    replace h := ite_f h c9
    refine go_iload_n K dX12_mayName_70 1 rfl rfl ?_
    refine go_iconst (v := (2 : Int32)) K dX12_mayName_71 (by decide) ?_
    refine go_icmp_ne (tgt := 79) K dX12_mayName_72 (by decide) (fun c10 => ?_) (fun c10 => ?_)
    rotate_left
    · replace h := ite_t h c10
      exact go_sub [] rfl (hj75 h)
    replace h := ite_f h c10
    refine go_iconst (v := (0 : Int32)) K dX12_mayName_79 (by decide) ?_
    exact go_zret K hr (by decide) h rfl dX12_mayName_80
  replace h := ite_f h c8
  by_cases c11 : v0 = (8 : Int32)
  · refine go_tableIn K dX12_mayName_1 (by rw [c11]; decide) (by rw [c11]; decide) (off := 80) (by rw [c11]; decide) (tgt := 81) (by decide) ?_
    replace h := ite_t h c11
    refine go_iload_n K dX12_mayName_81 1 rfl rfl ?_
    refine go_if_ne (tgt := 89) K dX12_mayName_82 (by decide) (fun c12 => ?_) (fun c12 => ?_)
    · replace h := ite_f h c12
      refine go_iconst (v := (0 : Int32)) K dX12_mayName_89 (by decide) ?_
      exact go_zret K hr (by decide) h rfl dX12_mayName_90
    replace h := ite_t h c12
    refine go_iconst (v := (1 : Int32)) K dX12_mayName_85 (by decide) ?_
    refine go_goto (tgt := 90) K dX12_mayName_86 (by decide) ?_
    exact go_zret K hr (by decide) h rfl dX12_mayName_90
  replace h := ite_f h c11
  by_cases c13 : v0 = (9 : Int32)
  · refine go_tableIn K dX12_mayName_1 (by rw [c13]; decide) (by rw [c13]; decide) (off := 90) (by rw [c13]; decide) (tgt := 91) (by decide) ?_
    replace h := ite_t h c13
    refine go_iload_n K dX12_mayName_91 1 rfl rfl ?_
    refine go_iconst (v := (1 : Int32)) K dX12_mayName_92 (by decide) ?_
    refine go_icmp_ne (tgt := 100) K dX12_mayName_93 (by decide) (fun c14 => ?_) (fun c14 => ?_)
    · replace h := ite_f h c14
      refine go_iconst (v := (0 : Int32)) K dX12_mayName_100 (by decide) ?_
      exact go_zret K hr (by decide) h rfl dX12_mayName_101
    replace h := ite_t h c14
    refine go_iconst (v := (1 : Int32)) K dX12_mayName_96 (by decide) ?_
    refine go_goto (tgt := 101) K dX12_mayName_97 (by decide) ?_
    exact go_zret K hr (by decide) h rfl dX12_mayName_101
  replace h := ite_f h c13
  have c1 := sw_ne c1 (k := 4) (by decide)
  have c4 := sw_ne c4 (k := 5) (by decide)
  have c6 := sw_ne c6 (k := 6) (by decide)
  have c8 := sw_ne c8 (k := 7) (by decide)
  have c11 := sw_ne c11 (k := 8) (by decide)
  have c13 := sw_ne c13 (k := 9) (by decide)
  refine go_tableOut (tgt := 102) K dX12_mayName_1 (show (v0).toInt < 4 ∨ 9 < (v0).toInt from by omega) (by decide) ?_
  refine go_iconst (v := (1 : Int32)) K dX12_mayName_102 (by decide) ?_
  exact go_zret K hr (by decide) h rfl dX12_mayName_103
noncomputable def f_X12_nameNow (O : OM) : Int32 := (if (O.1 446 17) = (1 : Int32) then (if (O.1 446 18) = (11 : Int32) then (1 : Int32) else (if (O.1 446 18) = (12 : Int32) then (4 : Int32) else (if (O.1 446 18) = (24 : Int32) then (0 : Int32) else (if (O.1 446 18) = (25 : Int32) then (2 : Int32) else (if (O.1 446 18) = (26 : Int32) then (3 : Int32) else (if (O.1 446 18) < (27 : Int32) then (-1 : Int32) else (((O.1 446 18) - (27 : Int32)) + (5 : Int32)))))))) else (-1 : Int32))
theorem cf_X12_nameNow : CF yX12_nameNow cX12_nameNow 1 (Option.some Jvm.ClassFile.FieldType.int) 0 := ⟨kc_X12_nameNow, kj_X12, ⟨by decide +kernel, by decide +kernel, by decide +kernel⟩, by decide⟩
theorem cv_X12_nameNow : CFv yX12_nameNow := ⟨ki_X12_nameNow, ks_X12_nameNow⟩
set_option maxHeartbeats 4000000 in
set_option maxRecDepth 100000 in
theorem c_X12_nameNow (l : Launch) (G : GT) (C : CM) (O : OM) (res : Int32) (h : f_X12_nameNow O = res) : MI l G yX12_nameNow cX12_nameNow 1 (Option.some Jvm.ClassFile.FieldType.int) (1) [.ref (gB G + 446)] (C, O) res (C, O) := by
  unfold MI
  refine met_in RX12 (by decide +kernel) rfl [(0, .ref (gB G + 446))] rfl (Nat.le_of_ble_eq_true rfl) ?_
  intro pM eM sM mM aM bM meM cM K hr
  rw [f_X12_nameNow] at h
  refine go_aload_n K dX12_nameNow_0 0 rfl rfl ?_
  refine gf_X12 K 17 (by decide) kf_X12_199 (v := .int (O.1 446 17)) rfl dX12_nameNow_1 ?_
  refine go_iconst (v := (1 : Int32)) K dX12_nameNow_4 (by decide) ?_
  refine go_icmp_eq (tgt := 10) K dX12_nameNow_5 (by decide) (fun c1 => ?_) (fun c1 => ?_)
  rotate_left
  · replace h := ite_f h c1
    refine go_iconst (v := (-1 : Int32)) K dX12_nameNow_8 (by decide) ?_
    exact go_iret K hr h rfl dX12_nameNow_9
  replace h := ite_t h c1
  refine go_aload_n K dX12_nameNow_10 0 rfl rfl ?_
  refine gf_X12 K 18 (by decide) kf_X12_211 (v := .int (O.1 446 18)) rfl dX12_nameNow_11 ?_
  by_cases c2 : (O.1 446 18) = (11 : Int32)
  · refine go_lookup K dX12_nameNow_14 (by decide) (off := 52) (by rw [c2]; decide) (tgt := 66) (by decide) ?_
    replace h := ite_t h c2
    refine go_iconst (v := (1 : Int32)) K dX12_nameNow_66 (by decide) ?_
    exact go_iret K hr h rfl dX12_nameNow_67
  replace h := ite_f h c2
  by_cases c3 : (O.1 446 18) = (12 : Int32)
  · refine go_lookup K dX12_nameNow_14 (by decide) (off := 58) (by rw [c3]; decide) (tgt := 72) (by decide) ?_
    replace h := ite_t h c3
    refine go_iconst (v := (4 : Int32)) K dX12_nameNow_72 (by decide) ?_
    exact go_iret K hr h rfl dX12_nameNow_73
  replace h := ite_f h c3
  by_cases c4 : (O.1 446 18) = (24 : Int32)
  · refine go_lookup K dX12_nameNow_14 (by decide) (off := 50) (by rw [c4]; decide) (tgt := 64) (by decide) ?_
    replace h := ite_t h c4
    refine go_iconst (v := (0 : Int32)) K dX12_nameNow_64 (by decide) ?_
    exact go_iret K hr h rfl dX12_nameNow_65
  replace h := ite_f h c4
  by_cases c5 : (O.1 446 18) = (25 : Int32)
  · refine go_lookup K dX12_nameNow_14 (by decide) (off := 54) (by rw [c5]; decide) (tgt := 68) (by decide) ?_
    replace h := ite_t h c5
    refine go_iconst (v := (2 : Int32)) K dX12_nameNow_68 (by decide) ?_
    exact go_iret K hr h rfl dX12_nameNow_69
  replace h := ite_f h c5
  by_cases c6 : (O.1 446 18) = (26 : Int32)
  · refine go_lookup K dX12_nameNow_14 (by decide) (off := 56) (by rw [c6]; decide) (tgt := 70) (by decide) ?_
    replace h := ite_t h c6
    refine go_iconst (v := (3 : Int32)) K dX12_nameNow_70 (by decide) ?_
    exact go_iret K hr h rfl dX12_nameNow_71
  replace h := ite_f h c6
  have c2 := sw_ne c2 (k := 11) (by decide)
  have c3 := sw_ne c3 (k := 12) (by decide)
  have c4 := sw_ne c4 (k := 24) (by decide)
  have c5 := sw_ne c5 (k := 25) (by decide)
  have c6 := sw_ne c6 (k := 26) (by decide)
  refine go_lookup K dX12_nameNow_14 (by decide) (off := 60) (show Op.lookupswitch.offset [(11, 52), (12, 58), (24, 50), (25, 54), (26, 56)] (60) ((O.1 446 18)).toInt = 60 from by simp only [Op.lookupswitch.offset_cons, Op.lookupswitch.offset_nil]; rw [if_neg (fun q => c2 q.symm), if_neg (fun q => c3 q.symm), if_neg (fun q => c4 q.symm), if_neg (fun q => c5 q.symm), if_neg (fun q => c6 q.symm)]) (tgt := 74) (by decide) ?_
  refine go_aload_n K dX12_nameNow_74 0 rfl rfl ?_
  refine gf_X12 K 18 (by decide) kf_X12_211 (v := .int (O.1 446 18)) rfl dX12_nameNow_75 ?_
  refine go_bipush (v := (27 : Int32)) K dX12_nameNow_78 (by decide) ?_
  refine go_icmp_lt (tgt := 95) K dX12_nameNow_80 (by decide) (fun c7 => ?_) (fun c7 => ?_)
  · replace h := ite_t h c7
    refine go_iconst (v := (-1 : Int32)) K dX12_nameNow_95 (by decide) ?_
    exact go_iret K hr h rfl dX12_nameNow_96
  replace h := ite_f h c7
  refine go_aload_n K dX12_nameNow_83 0 rfl rfl ?_
  refine gf_X12 K 18 (by decide) kf_X12_211 (v := .int (O.1 446 18)) rfl dX12_nameNow_84 ?_
  refine go_bipush (v := (27 : Int32)) K dX12_nameNow_87 (by decide) ?_
  refine go_isub K dX12_nameNow_89 ?_
  refine go_iconst (v := (5 : Int32)) K dX12_nameNow_90 (by decide) ?_
  refine go_iadd K dX12_nameNow_91 ?_
  refine go_goto (tgt := 96) K dX12_nameNow_92 (by decide) ?_
  exact go_iret K hr h rfl dX12_nameNow_96
noncomputable def f_X12_bySecond (O : OM) : Option OM := (if (f_X12_isWord (14 : Int32) O) = 0 then (bnd (f_X12_errs (1 : Int32) O) (fun O4 => (some O4))) else (gd (inb ((O.1 446 22) - (1 : Int32)) 40) (bnd (f_X12_next (oup O 458 ((O.1 446 22) - (1 : Int32)).toNatClampNeg (11 : Int32))) (fun O3 => (some (oup O3 446 28 (1 : Int32)))))))
theorem cf_X12_bySecond : CF yX12_bySecond cX12_bySecond 1 (Option.none : Option Jvm.ClassFile.FieldType) 0 := ⟨kc_X12_bySecond, kj_X12, ⟨by decide +kernel, by decide +kernel, by decide +kernel⟩, by decide⟩
theorem cv_X12_bySecond : CFv yX12_bySecond := ⟨ki_X12_bySecond, ks_X12_bySecond⟩
set_option maxHeartbeats 4000000 in
set_option maxRecDepth 100000 in
theorem c_X12_bySecond (l : Launch) (G : GT) (C : CM) (O : OM) (O' : OM) (h : f_X12_bySecond O = some O') : MV l G yX12_bySecond cX12_bySecond 1 (Option.none : Option Jvm.ClassFile.FieldType) (4) [.ref (gB G + 446)] (C, O) (C, O') := by
  unfold MV
  refine met_in RX12 (by decide +kernel) rfl [(0, .ref (gB G + 446))] rfl (Nat.le_of_ble_eq_true rfl) ?_
  intro pM eM sM mM aM bM meM cM K hr
  rw [f_X12_bySecond] at h
  refine go_aload_n K dX12_bySecond_0 0 rfl rfl ?_
  refine go_bipush (v := (14 : Int32)) K dX12_bySecond_1 (by decide) ?_
  refine go_cVI K (c_X12_isWord l G _ _ _ _ rfl) cf_X12_isWord cv_X12_isWord km_X12_252 rv_X12 (by decide) rfl rfl (Nat.le_of_ble_eq_true rfl) dX12_bySecond_3 ?_
  refine go_if_ne (tgt := 15) K dX12_bySecond_6 (by decide) (fun c1 => ?_) (fun c1 => ?_)
  rotate_left
  · replace h := ite_t h c1
    refine go_aload_n K dX12_bySecond_9 0 rfl rfl ?_
    refine go_iconst (v := (1 : Int32)) K dX12_bySecond_10 (by decide) ?_
    obtain ⟨O4, e4, h⟩ := bnd_e h
    refine go_cVV K (c_X12_errs l G _ _ _ _ e4) cf_X12_errs cv_X12_errs km_X12_230 rv_X12 (by decide) rfl rfl (Nat.le_of_ble_eq_true rfl) dX12_bySecond_11 ?_
    exact go_vret K hr (congrArg (fun z => (C, z)) (Option.some.inj h)) dX12_bySecond_14
  replace h := ite_f h c1
  refine go_aload_n K dX12_bySecond_15 0 rfl rfl ?_
  refine gf_X12 K 23 (by decide) kf_X12_51 (v := .ref (gB G + 458)) rfl dX12_bySecond_16 ?_
  refine go_aload_n K dX12_bySecond_19 0 rfl rfl ?_
  refine gf_X12 K 22 (by decide) kf_X12_224 (v := .int (O.1 446 22)) rfl dX12_bySecond_20 ?_
  refine go_iconst (v := (1 : Int32)) K dX12_bySecond_23 (by decide) ?_
  refine go_isub K dX12_bySecond_24 ?_
  refine go_bipush (v := (11 : Int32)) K dX12_bySecond_25 (by decide) ?_
  obtain ⟨g2, h⟩ := gd_e h
  refine go_mast K (Nat.le_of_ble_eq_true rfl) sh_458 g2 rfl dX12_bySecond_27 ?_
  refine go_aload_n K dX12_bySecond_28 0 rfl rfl ?_
  obtain ⟨O3, e3, h⟩ := bnd_e h
  refine go_cVV K (c_X12_next l G _ _ _ e3) cf_X12_next cv_X12_next km_X12_236 rv_X12 (by decide) rfl rfl (Nat.le_of_ble_eq_true rfl) dX12_bySecond_29 ?_
  refine go_aload_n K dX12_bySecond_32 0 rfl rfl ?_
  refine go_iconst (v := (1 : Int32)) K dX12_bySecond_33 (by decide) ?_
  refine pf_X12 K 28 (by decide) kf_X12_258 rfl rfl rfl dX12_bySecond_34 ?_
  exact go_vret K hr (congrArg (fun z => (C, z)) (Option.some.inj h)) dX12_bySecond_37
noncomputable def X12_oneIsOver_j64 (O : OM) : Option OM := (bnd (f_X12_top (oup O 446 28 (2 : Int32))) (fun r8 => (if r8 = (10 : Int32) then (bnd (f_X12_bySecond (oup O 446 28 (2 : Int32))) (fun O10 => (some O10))) else (some (oup O 446 28 (2 : Int32))))))
noncomputable def X12_oneIsOver_j37 (rc : OM → Option OM) (k64 : OM → Option OM) (t0 : Int32) (O : OM) : Option OM := (bnd (f_X12_emits t0 (0 : Int32) O) (fun O5 => (rc (oup (oup O5 446 22 ((O5.1 446 22) - (1 : Int32))) 446 21 (((oup O5 446 22 ((O5.1 446 22) - (1 : Int32))).1 446 21) - (1 : Int32))))))
noncomputable def X12_oneIsOver_j18 (rc : OM → Option OM) (k64 : OM → Option OM) (O : OM) : Option OM := (bnd (f_X12_top O) (fun r3 => (if r3 = (7 : Int32) then (X12_oneIsOver_j37 rc k64 (402 : Int32) O) else (X12_oneIsOver_j37 rc k64 (403 : Int32) O))))
noncomputable def X12_oneIsOver_l0 (k64 : OM → Option OM) : Nat → OM → Option OM
  | 0, _ => none
  | n + 1, O => (bnd (f_X12_top O) (fun r1 => (if r1 = (7 : Int32) then (X12_oneIsOver_j18 (fun O => X12_oneIsOver_l0 k64 n O) k64 O) else (bnd (f_X12_top O) (fun r6 => (if r6 = (11 : Int32) then (X12_oneIsOver_j18 (fun O => X12_oneIsOver_l0 k64 n O) k64 O) else (k64 O)))))))
noncomputable def f_X12_oneIsOver (O : OM) : Option OM := (X12_oneIsOver_l0 (fun O => (X12_oneIsOver_j64 O)) FU O)
theorem cf_X12_oneIsOver : CF yX12_oneIsOver cX12_oneIsOver 1 (Option.none : Option Jvm.ClassFile.FieldType) 0 := ⟨kc_X12_oneIsOver, kj_X12, ⟨by decide +kernel, by decide +kernel, by decide +kernel⟩, by decide⟩
theorem cv_X12_oneIsOver : CFv yX12_oneIsOver := ⟨ki_X12_oneIsOver, ks_X12_oneIsOver⟩
set_option maxHeartbeats 4000000 in
set_option maxRecDepth 100000 in
theorem c_X12_oneIsOver (l : Launch) (G : GT) (C : CM) (O : OM) (O' : OM) (h : f_X12_oneIsOver O = some O') : MV l G yX12_oneIsOver cX12_oneIsOver 1 (Option.none : Option Jvm.ClassFile.FieldType) (5) [.ref (gB G + 446)] (C, O) (C, O') := by
  unfold MV
  refine met_in RX12 (by decide +kernel) rfl [(0, .ref (gB G + 446))] rfl (Nat.le_of_ble_eq_true rfl) ?_
  intro pM eM sM mM aM bM meM cM K hr
  have hj64 : ∀ (O : OM), X12_oneIsOver_j64 O = some O' → GO pM l eM (5) sM mM aM bM meM cM (MQ bM (va_Qv (fun (u : CM × OM) => u = (C, O')) (wB G) (Fr G)) aM sM 0 0 (Fr G)) G 1 (C, O) 64 [(0, .ref (gB G + 446))] [] := by
    intro O h
    rw [X12_oneIsOver_j64] at h
    refine go_aload_n K dX12_oneIsOver_64 0 rfl rfl ?_
    refine go_iconst (v := (2 : Int32)) K dX12_oneIsOver_65 (by decide) ?_
    refine pf_X12 K 28 (by decide) kf_X12_258 rfl rfl rfl dX12_oneIsOver_66 ?_
    refine go_aload_n K dX12_oneIsOver_69 0 rfl rfl ?_
    obtain ⟨r8, e8, h⟩ := bnd_e h
    refine go_cVI K (c_X12_top l G _ _ _ e8) cf_X12_top cv_X12_top km_X12_278 rv_X12 (by decide) rfl rfl (Nat.le_of_ble_eq_true rfl) dX12_oneIsOver_70 ?_
    refine go_bipush (v := (10 : Int32)) K dX12_oneIsOver_73 (by decide) ?_
    refine go_icmp_ne (tgt := 82) K dX12_oneIsOver_75 (by decide) (fun c9 => ?_) (fun c9 => ?_)
    · replace h := ite_f h c9
      exact go_vret K hr (congrArg (fun z => (C, z)) (Option.some.inj h)) dX12_oneIsOver_82
    replace h := ite_t h c9
    refine go_aload_n K dX12_oneIsOver_78 0 rfl rfl ?_
    obtain ⟨O10, e10, h⟩ := bnd_e h
    refine go_cVV K (c_X12_bySecond l G _ _ _ e10) cf_X12_bySecond cv_X12_bySecond km_X12_281 rv_X12 (by decide) rfl rfl (Nat.le_of_ble_eq_true rfl) dX12_oneIsOver_79 ?_
    exact go_vret K hr (congrArg (fun z => (C, z)) (Option.some.inj h)) dX12_oneIsOver_82
  have hl0 : ∀ (n0 : Nat) (O : OM), X12_oneIsOver_l0 (fun O => (X12_oneIsOver_j64 O)) n0 O = some O' → GO pM l eM (5) sM mM aM bM meM cM (MQ bM (va_Qv (fun (u : CM × OM) => u = (C, O')) (wB G) (Fr G)) aM sM 0 0 (Fr G)) G 1 (C, O) 0 [(0, .ref (gB G + 446))] [] := by
    intro n0
    induction n0 with
    | zero =>
      intro O h
      rw [X12_oneIsOver_l0] at h
      cases h
    | succ n0 ih0 =>
      have hj37 : ∀ (t0 : Int32) (O : OM), X12_oneIsOver_j37 (fun O => X12_oneIsOver_l0 (fun O => (X12_oneIsOver_j64 O)) n0 O) (fun O => (X12_oneIsOver_j64 O)) t0 O = some O' → GO pM l eM (5) sM mM aM bM meM cM (MQ bM (va_Qv (fun (u : CM × OM) => u = (C, O')) (wB G) (Fr G)) aM sM 0 0 (Fr G)) G 1 (C, O) 37 [(0, .ref (gB G + 446))] [.int t0, .ref (gB G + 446)] := by
        intro t0 O h
        rw [X12_oneIsOver_j37] at h
        refine go_iconst (v := (0 : Int32)) K dX12_oneIsOver_37 (by decide) ?_
        obtain ⟨O5, e5, h⟩ := bnd_e h
        refine go_cVV K (c_X12_emits l G _ _ _ _ _ e5) cf_X12_emits cv_X12_emits km_X12_246 rv_X12 (by decide) rfl rfl (Nat.le_of_ble_eq_true rfl) dX12_oneIsOver_38 ?_
        refine go_aload_n K dX12_oneIsOver_41 0 rfl rfl ?_
        refine go_dup K dX12_oneIsOver_42 rfl ?_
        refine gf_X12 K 22 (by decide) kf_X12_224 (v := .int (O5.1 446 22)) rfl dX12_oneIsOver_43 ?_
        refine go_iconst (v := (1 : Int32)) K dX12_oneIsOver_46 (by decide) ?_
        refine go_isub K dX12_oneIsOver_47 ?_
        refine pf_X12 K 22 (by decide) kf_X12_224 rfl rfl rfl dX12_oneIsOver_48 ?_
        refine go_aload_n K dX12_oneIsOver_51 0 rfl rfl ?_
        refine go_dup K dX12_oneIsOver_52 rfl ?_
        refine gf_X12 K 21 (by decide) kf_X12_227 (v := .int ((oup O5 446 22 ((O5.1 446 22) - (1 : Int32))).1 446 21)) rfl dX12_oneIsOver_53 ?_
        refine go_iconst (v := (1 : Int32)) K dX12_oneIsOver_56 (by decide) ?_
        refine go_isub K dX12_oneIsOver_57 ?_
        refine pf_X12 K 21 (by decide) kf_X12_227 rfl rfl rfl dX12_oneIsOver_58 ?_
        refine go_goto (tgt := 0) K dX12_oneIsOver_61 (by decide) ?_
        exact ih0 _ h
      have hj18 : ∀ (O : OM), X12_oneIsOver_j18 (fun O => X12_oneIsOver_l0 (fun O => (X12_oneIsOver_j64 O)) n0 O) (fun O => (X12_oneIsOver_j64 O)) O = some O' → GO pM l eM (5) sM mM aM bM meM cM (MQ bM (va_Qv (fun (u : CM × OM) => u = (C, O')) (wB G) (Fr G)) aM sM 0 0 (Fr G)) G 1 (C, O) 18 [(0, .ref (gB G + 446))] [] := by
        intro O h
        rw [X12_oneIsOver_j18] at h
        refine go_aload_n K dX12_oneIsOver_18 0 rfl rfl ?_
        refine go_aload_n K dX12_oneIsOver_19 0 rfl rfl ?_
        obtain ⟨r3, e3, h⟩ := bnd_e h
        refine go_cVI K (c_X12_top l G _ _ _ e3) cf_X12_top cv_X12_top km_X12_278 rv_X12 (by decide) rfl rfl (Nat.le_of_ble_eq_true rfl) dX12_oneIsOver_20 ?_
        refine go_bipush (v := (7 : Int32)) K dX12_oneIsOver_23 (by decide) ?_
        refine go_icmp_ne (tgt := 34) K dX12_oneIsOver_25 (by decide) (fun c4 => ?_) (fun c4 => ?_)
        · replace h := ite_f h c4
          refine go_sipush (v := (403 : Int32)) K dX12_oneIsOver_34 (by decide) ?_
          exact hj37 _ _ h
        replace h := ite_t h c4
        refine go_sipush (v := (402 : Int32)) K dX12_oneIsOver_28 (by decide) ?_
        refine go_goto (tgt := 37) K dX12_oneIsOver_31 (by decide) ?_
        exact hj37 _ _ h
      intro O h
      rw [X12_oneIsOver_l0] at h
      refine go_aload_n K dX12_oneIsOver_0 0 rfl rfl ?_
      obtain ⟨r1, e1, h⟩ := bnd_e h
      refine go_cVI K (c_X12_top l G _ _ _ e1) cf_X12_top cv_X12_top km_X12_278 rv_X12 (by decide) rfl rfl (Nat.le_of_ble_eq_true rfl) dX12_oneIsOver_1 ?_
      refine go_bipush (v := (7 : Int32)) K dX12_oneIsOver_4 (by decide) ?_
      refine go_icmp_eq (tgt := 18) K dX12_oneIsOver_6 (by decide) (fun c2 => ?_) (fun c2 => ?_)
      · replace h := ite_t h c2
        exact hj18 _ h
      replace h := ite_f h c2
      refine go_aload_n K dX12_oneIsOver_9 0 rfl rfl ?_
      obtain ⟨r6, e6, h⟩ := bnd_e h
      refine go_cVI K (c_X12_top l G _ _ _ e6) cf_X12_top cv_X12_top km_X12_278 rv_X12 (by decide) rfl rfl (Nat.le_of_ble_eq_true rfl) dX12_oneIsOver_10 ?_
      refine go_bipush (v := (11 : Int32)) K dX12_oneIsOver_13 (by decide) ?_
      refine go_icmp_ne (tgt := 64) K dX12_oneIsOver_15 (by decide) (fun c7 => ?_) (fun c7 => ?_)
      · replace h := ite_f h c7
        exact hj64 _ h
      replace h := ite_t h c7
      exact hj18 _ h
  rw [f_X12_oneIsOver] at h
  exact hl0 FU _ h
noncomputable def X12_begins_j175 (t0 : Int32) (O : OM) : Option OM := (bnd2 (f_X12_opensSign t0 O) (fun r7 O7 => (some O7)))
noncomputable def X12_begins_j144 (O : OM) : Option OM := (if (f_X12_isSign (40 : Int32) O) = 0 then (if (f_X12_isSign (45 : Int32) O) = 0 then (X12_begins_j175 (10 : Int32) O) else (X12_begins_j175 (7 : Int32) O)) else (X12_begins_j175 (6 : Int32) O))
noncomputable def f_X12_begins (O : OM) : Option OM := (if (O.1 446 17) = (2 : Int32) then (if (O.1 446 18) ≤ (9999 : Int32) then (bnd (f_X12_emits (400 : Int32) (O.1 446 18) O) (fun O19 => (bnd (f_X12_next O19) (fun O20 => (bnd (f_X12_oneIsOver O20) (fun O21 => (some O21))))))) else (bnd (f_X12_errs (2 : Int32) O) (fun O22 => (some O22)))) else (if (f_X12_nameNow O) = (-1 : Int32) then (if (f_X12_isWord (20 : Int32) O) = 0 then (if (f_X12_isSign (40 : Int32) O) = 0 then (if (f_X12_isSign (45 : Int32) O) = 0 then (if (f_X12_isWord (19 : Int32) O) = 0 then (bnd (f_X12_errs (1 : Int32) O) (fun O10 => (some O10))) else (X12_begins_j144 O)) else (X12_begins_j144 O)) else (X12_begins_j144 O)) else (bnd2 (f_X12_opensSign (2 : Int32) O) (fun r11 O11 => (if r11 = 0 then (some O11) else (some (oup O11 446 28 (0 : Int32))))))) else (if (f_X12_mayName (f_X12_nameNow O) (O.1 446 31)) = 0 then (bnd (f_X12_errs (5 : Int32) O) (fun O17 => (some O17))) else (bnd (f_X12_emits (401 : Int32) (f_X12_nameNow O) O) (fun O14 => (bnd (f_X12_next O14) (fun O15 => (bnd (f_X12_oneIsOver O15) (fun O16 => (some O16))))))))))
theorem cf_X12_begins : CF yX12_begins cX12_begins 3 (Option.none : Option Jvm.ClassFile.FieldType) 0 := ⟨kc_X12_begins, kj_X12, ⟨by decide +kernel, by decide +kernel, by decide +kernel⟩, by decide⟩
theorem cv_X12_begins : CFv yX12_begins := ⟨ki_X12_begins, ks_X12_begins⟩
set_option maxHeartbeats 4000000 in
set_option maxRecDepth 100000 in
theorem c_X12_begins (l : Launch) (G : GT) (C : CM) (O : OM) (O' : OM) (h : f_X12_begins O = some O') : MV l G yX12_begins cX12_begins 3 (Option.none : Option Jvm.ClassFile.FieldType) (6) [.ref (gB G + 446)] (C, O) (C, O') := by
  unfold MV
  refine met_in RX12 (by decide +kernel) rfl [(0, .ref (gB G + 446))] rfl (Nat.le_of_ble_eq_true rfl) ?_
  intro pM eM sM mM aM bM meM cM K hr
  have hj175 : ∀ (t0 : Int32) (O : OM), X12_begins_j175 t0 O = some O' → GO pM l eM (6) sM mM aM bM meM cM (MQ bM (va_Qv (fun (u : CM × OM) => u = (C, O')) (wB G) (Fr G)) aM sM 0 0 (Fr G)) G 3 (C, O) 175 [] [.int t0, .ref (gB G + 446)] := by
    intro t0 O h
    rw [X12_begins_j175] at h
    obtain ⟨r7, O7, e7, h⟩ := bnd2_e h
    refine go_cVI K (c_X12_opensSign l G _ _ _ _ _ e7) cf_X12_opensSign cv_X12_opensSign km_X12_255 rv_X12 (by decide) rfl rfl (Nat.le_of_ble_eq_true rfl) dX12_begins_175 ?_
    refine go_istore_n K dX12_begins_178 rfl (by decide) (lv' := [(2, .int r7)]) rfl ?_
    refine go_goto (tgt := 187) K dX12_begins_179 (by decide) ?_
    exact go_vret K hr (congrArg (fun z => (C, z)) (Option.some.inj h)) dX12_begins_187
  have hj144 : ∀ (O : OM), X12_begins_j144 O = some O' → GO pM l eM (6) sM mM aM bM meM cM (MQ bM (va_Qv (fun (u : CM × OM) => u = (C, O')) (wB G) (Fr G)) aM sM 0 0 (Fr G)) G 3 (C, O) 144 [(0, .ref (gB G + 446))] [] := by
    intro O h
    rw [X12_begins_j144] at h
    refine go_aload_n K dX12_begins_144 0 rfl rfl ?_
    refine go_aload_n K dX12_begins_145 0 rfl rfl ?_
    refine go_bipush (v := (40 : Int32)) K dX12_begins_146 (by decide) ?_
    refine go_cVI K (c_X12_isSign l G _ _ _ _ rfl) cf_X12_isSign cv_X12_isSign km_X12_275 rv_X12 (by decide) rfl rfl (Nat.le_of_ble_eq_true rfl) dX12_begins_148 ?_
    refine go_if_eq (tgt := 159) K dX12_begins_151 (by decide) (fun c5 => ?_) (fun c5 => ?_)
    rotate_left
    · replace h := ite_f h c5
      refine go_bipush (v := (6 : Int32)) K dX12_begins_154 (by decide) ?_
      refine go_goto (tgt := 175) K dX12_begins_156 (by decide) ?_
      exact go_sub [] rfl (hj175 _ _ h)
    replace h := ite_t h c5
    refine go_aload_n K dX12_begins_159 0 rfl rfl ?_
    refine go_bipush (v := (45 : Int32)) K dX12_begins_160 (by decide) ?_
    refine go_cVI K (c_X12_isSign l G _ _ _ _ rfl) cf_X12_isSign cv_X12_isSign km_X12_275 rv_X12 (by decide) rfl rfl (Nat.le_of_ble_eq_true rfl) dX12_begins_162 ?_
    refine go_if_eq (tgt := 173) K dX12_begins_165 (by decide) (fun c6 => ?_) (fun c6 => ?_)
    · replace h := ite_t h c6
      refine go_bipush (v := (10 : Int32)) K dX12_begins_173 (by decide) ?_
      exact go_sub [] rfl (hj175 _ _ h)
    replace h := ite_f h c6
    refine go_bipush (v := (7 : Int32)) K dX12_begins_168 (by decide) ?_
    refine go_goto (tgt := 175) K dX12_begins_170 (by decide) ?_
    exact go_sub [] rfl (hj175 _ _ h)
  rw [f_X12_begins] at h
  refine go_aload_n K dX12_begins_0 0 rfl rfl ?_
  refine go_cVI K (c_X12_nameNow l G _ _ _ rfl) cf_X12_nameNow cv_X12_nameNow km_X12_261 rv_X12 (by decide) rfl rfl (Nat.le_of_ble_eq_true rfl) dX12_begins_1 ?_
  refine go_istore_n K dX12_begins_4 rfl (by decide) (lv' := [(1, .int (f_X12_nameNow O)), (0, .ref (gB G + 446))]) rfl ?_
  refine go_aload_n K dX12_begins_5 1 rfl rfl ?_
  refine gf_X12 K 17 (by decide) kf_X12_199 (v := .int (O.1 446 17)) rfl dX12_begins_6 ?_
  refine go_iconst (v := (2 : Int32)) K dX12_begins_9 (by decide) ?_
  refine go_icmp_ne (tgt := 51) K dX12_begins_10 (by decide) (fun c1 => ?_) (fun c1 => ?_)
  rotate_left
  · replace h := ite_t h c1
    refine go_aload_n K dX12_begins_13 1 rfl rfl ?_
    refine gf_X12 K 18 (by decide) kf_X12_211 (v := .int (O.1 446 18)) rfl dX12_begins_14 ?_
    refine go_sipush (v := (9999 : Int32)) K dX12_begins_17 (by decide) ?_
    refine go_icmp_le (tgt := 29) K dX12_begins_20 (by decide) (fun c18 => ?_) (fun c18 => ?_)
    rotate_left
    · replace h := ite_f h c18
      refine go_aload_n K dX12_begins_23 1 rfl rfl ?_
      refine go_iconst (v := (2 : Int32)) K dX12_begins_24 (by decide) ?_
      obtain ⟨O22, e22, h⟩ := bnd_e h
      refine go_cVV K (c_X12_errs l G _ _ _ _ e22) cf_X12_errs cv_X12_errs km_X12_230 rv_X12 (by decide) rfl rfl (Nat.le_of_ble_eq_true rfl) dX12_begins_25 ?_
      exact go_vret K hr (congrArg (fun z => (C, z)) (Option.some.inj h)) dX12_begins_28
    replace h := ite_t h c18
    refine go_aload_n K dX12_begins_29 1 rfl rfl ?_
    refine go_sipush (v := (400 : Int32)) K dX12_begins_30 (by decide) ?_
    refine go_aload_n K dX12_begins_33 1 rfl rfl ?_
    refine gf_X12 K 18 (by decide) kf_X12_211 (v := .int (O.1 446 18)) rfl dX12_begins_34 ?_
    obtain ⟨O19, e19, h⟩ := bnd_e h
    refine go_cVV K (c_X12_emits l G _ _ _ _ _ e19) cf_X12_emits cv_X12_emits km_X12_246 rv_X12 (by decide) rfl rfl (Nat.le_of_ble_eq_true rfl) dX12_begins_37 ?_
    refine go_aload_n K dX12_begins_40 1 rfl rfl ?_
    obtain ⟨O20, e20, h⟩ := bnd_e h
    refine go_cVV K (c_X12_next l G _ _ _ e20) cf_X12_next cv_X12_next km_X12_236 rv_X12 (by decide) rfl rfl (Nat.le_of_ble_eq_true rfl) dX12_begins_41 ?_
    refine go_aload_n K dX12_begins_44 1 rfl rfl ?_
    obtain ⟨O21, e21, h⟩ := bnd_e h
    refine go_cVV K (c_X12_oneIsOver l G _ _ _ e21) cf_X12_oneIsOver cv_X12_oneIsOver km_X12_265 rv_X12 (by decide) rfl rfl (Nat.le_of_ble_eq_true rfl) dX12_begins_45 ?_
    refine go_goto (tgt := 187) K dX12_begins_48 (by decide) ?_
    exact go_vret K hr (congrArg (fun z => (C, z)) (Option.some.inj h)) dX12_begins_187
  replace h := ite_f h c1
  refine go_iload_n K dX12_begins_51 0 rfl rfl ?_
  refine go_iconst (v := (-1 : Int32)) K dX12_begins_52 (by decide) ?_
  refine go_icmp_eq (tgt := 92) K dX12_begins_53 (by decide) (fun c2 => ?_) (fun c2 => ?_)
  rotate_left
  · replace h := ite_f h c2
    refine go_iload_n K dX12_begins_56 0 rfl rfl ?_
    refine go_aload_n K dX12_begins_57 1 rfl rfl ?_
    refine gf_X12 K 31 (by decide) kf_X12_268 (v := .int (O.1 446 31)) rfl dX12_begins_58 ?_
    refine go_cSI K (c_X12_mayName l G _ _ _ _ _ rfl) cf_X12_mayName kt_X12_mayName km_X12_271 (by decide) rfl rfl (Nat.le_of_ble_eq_true rfl) dX12_begins_61 ?_
    refine go_if_ne (tgt := 73) K dX12_begins_64 (by decide) (fun c13 => ?_) (fun c13 => ?_)
    rotate_left
    · replace h := ite_t h c13
      refine go_aload_n K dX12_begins_67 1 rfl rfl ?_
      refine go_iconst (v := (5 : Int32)) K dX12_begins_68 (by decide) ?_
      obtain ⟨O17, e17, h⟩ := bnd_e h
      refine go_cVV K (c_X12_errs l G _ _ _ _ e17) cf_X12_errs cv_X12_errs km_X12_230 rv_X12 (by decide) rfl rfl (Nat.le_of_ble_eq_true rfl) dX12_begins_69 ?_
      exact go_vret K hr (congrArg (fun z => (C, z)) (Option.some.inj h)) dX12_begins_72
    replace h := ite_f h c13
    refine go_aload_n K dX12_begins_73 1 rfl rfl ?_
    refine go_sipush (v := (401 : Int32)) K dX12_begins_74 (by decide) ?_
    refine go_iload_n K dX12_begins_77 0 rfl rfl ?_
    obtain ⟨O14, e14, h⟩ := bnd_e h
    refine go_cVV K (c_X12_emits l G _ _ _ _ _ e14) cf_X12_emits cv_X12_emits km_X12_246 rv_X12 (by decide) rfl rfl (Nat.le_of_ble_eq_true rfl) dX12_begins_78 ?_
    refine go_aload_n K dX12_begins_81 1 rfl rfl ?_
    obtain ⟨O15, e15, h⟩ := bnd_e h
    refine go_cVV K (c_X12_next l G _ _ _ e15) cf_X12_next cv_X12_next km_X12_236 rv_X12 (by decide) rfl rfl (Nat.le_of_ble_eq_true rfl) dX12_begins_82 ?_
    refine go_aload_n K dX12_begins_85 1 rfl rfl ?_
    obtain ⟨O16, e16, h⟩ := bnd_e h
    refine go_cVV K (c_X12_oneIsOver l G _ _ _ e16) cf_X12_oneIsOver cv_X12_oneIsOver km_X12_265 rv_X12 (by decide) rfl rfl (Nat.le_of_ble_eq_true rfl) dX12_begins_86 ?_
    refine go_goto (tgt := 187) K dX12_begins_89 (by decide) ?_
    exact go_vret K hr (congrArg (fun z => (C, z)) (Option.some.inj h)) dX12_begins_187
  replace h := ite_t h c2
  refine go_aload_n K dX12_begins_92 1 rfl rfl ?_
  refine go_bipush (v := (20 : Int32)) K dX12_begins_93 (by decide) ?_
  refine go_cVI K (c_X12_isWord l G _ _ _ _ rfl) cf_X12_isWord cv_X12_isWord km_X12_252 rv_X12 (by decide) rfl rfl (Nat.le_of_ble_eq_true rfl) dX12_begins_95 ?_
  refine go_if_eq (tgt := 117) K dX12_begins_98 (by decide) (fun c3 => ?_) (fun c3 => ?_)
  rotate_left
  · replace h := ite_f h c3
    refine go_aload_n K dX12_begins_101 1 rfl rfl ?_
    refine go_iconst (v := (2 : Int32)) K dX12_begins_102 (by decide) ?_
    obtain ⟨r11, O11, e11, h⟩ := bnd2_e h
    refine go_cVI K (c_X12_opensSign l G _ _ _ _ _ e11) cf_X12_opensSign cv_X12_opensSign km_X12_255 rv_X12 (by decide) rfl rfl (Nat.le_of_ble_eq_true rfl) dX12_begins_103 ?_
    refine go_if_eq (tgt := 187) K dX12_begins_106 (by decide) (fun c12 => ?_) (fun c12 => ?_)
    · replace h := ite_t h c12
      exact go_vret K hr (congrArg (fun z => (C, z)) (Option.some.inj h)) dX12_begins_187
    replace h := ite_f h c12
    refine go_aload_n K dX12_begins_109 1 rfl rfl ?_
    refine go_iconst (v := (0 : Int32)) K dX12_begins_110 (by decide) ?_
    refine pf_X12 K 28 (by decide) kf_X12_258 rfl rfl rfl dX12_begins_111 ?_
    refine go_goto (tgt := 187) K dX12_begins_114 (by decide) ?_
    exact go_vret K hr (congrArg (fun z => (C, z)) (Option.some.inj h)) dX12_begins_187
  replace h := ite_t h c3
  refine go_aload_n K dX12_begins_117 1 rfl rfl ?_
  refine go_bipush (v := (40 : Int32)) K dX12_begins_118 (by decide) ?_
  refine go_cVI K (c_X12_isSign l G _ _ _ _ rfl) cf_X12_isSign cv_X12_isSign km_X12_275 rv_X12 (by decide) rfl rfl (Nat.le_of_ble_eq_true rfl) dX12_begins_120 ?_
  refine go_if_ne (tgt := 144) K dX12_begins_123 (by decide) (fun c4 => ?_) (fun c4 => ?_)
  · replace h := ite_f h c4
    exact go_sub [1] rfl (hj144 _ h)
  replace h := ite_t h c4
  refine go_aload_n K dX12_begins_126 1 rfl rfl ?_
  refine go_bipush (v := (45 : Int32)) K dX12_begins_127 (by decide) ?_
  refine go_cVI K (c_X12_isSign l G _ _ _ _ rfl) cf_X12_isSign cv_X12_isSign km_X12_275 rv_X12 (by decide) rfl rfl (Nat.le_of_ble_eq_true rfl) dX12_begins_129 ?_
  refine go_if_ne (tgt := 144) K dX12_begins_132 (by decide) (fun c8 => ?_) (fun c8 => ?_)
  · replace h := ite_f h c8
    exact go_sub [1] rfl (hj144 _ h)
  replace h := ite_t h c8
  refine go_aload_n K dX12_begins_135 1 rfl rfl ?_
  refine go_bipush (v := (19 : Int32)) K dX12_begins_136 (by decide) ?_
  refine go_cVI K (c_X12_isWord l G _ _ _ _ rfl) cf_X12_isWord cv_X12_isWord km_X12_252 rv_X12 (by decide) rfl rfl (Nat.le_of_ble_eq_true rfl) dX12_begins_138 ?_
  refine go_if_eq (tgt := 182) K dX12_begins_141 (by decide) (fun c9 => ?_) (fun c9 => ?_)
  rotate_left
  · replace h := ite_f h c9
    exact go_sub [1] rfl (hj144 _ h)
  replace h := ite_t h c9
  refine go_aload_n K dX12_begins_182 1 rfl rfl ?_
  refine go_iconst (v := (1 : Int32)) K dX12_begins_183 (by decide) ?_
  obtain ⟨O10, e10, h⟩ := bnd_e h
  refine go_cVV K (c_X12_errs l G _ _ _ _ e10) cf_X12_errs cv_X12_errs km_X12_230 rv_X12 (by decide) rfl rfl (Nat.le_of_ble_eq_true rfl) dX12_begins_184 ?_
  exact go_vret K hr (congrArg (fun z => (C, z)) (Option.some.inj h)) dX12_begins_187
noncomputable def X12_askIsOver_j39 (O : OM) : Option OM := (some (oup O 446 28 (3 : Int32)))
noncomputable def X12_askIsOver_l0 (k39 : OM → Option OM) : Nat → OM → Option OM
  | 0, _ => none
  | n + 1, O => (bnd (f_X12_top O) (fun r1 => (if r1 = (3 : Int32) then (bnd (f_X12_emits (405 : Int32) (0 : Int32) (oup (oup O 446 22 ((O.1 446 22) - (1 : Int32))) 446 21 (((oup O 446 22 ((O.1 446 22) - (1 : Int32))).1 446 21) - (1 : Int32)))) (fun O3 => (X12_askIsOver_l0 k39 n O3))) else (k39 O))))
noncomputable def f_X12_askIsOver (O : OM) : Option OM := (X12_askIsOver_l0 (fun O => (X12_askIsOver_j39 O)) FU O)
theorem cf_X12_askIsOver : CF yX12_askIsOver cX12_askIsOver 1 (Option.none : Option Jvm.ClassFile.FieldType) 0 := ⟨kc_X12_askIsOver, kj_X12, ⟨by decide +kernel, by decide +kernel, by decide +kernel⟩, by decide⟩
theorem cv_X12_askIsOver : CFv yX12_askIsOver := ⟨ki_X12_askIsOver, ks_X12_askIsOver⟩
set_option maxHeartbeats 4000000 in
set_option maxRecDepth 100000 in
theorem c_X12_askIsOver (l : Launch) (G : GT) (C : CM) (O : OM) (O' : OM) (h : f_X12_askIsOver O = some O') : MV l G yX12_askIsOver cX12_askIsOver 1 (Option.none : Option Jvm.ClassFile.FieldType) (2) [.ref (gB G + 446)] (C, O) (C, O') := by
  unfold MV
  refine met_in RX12 (by decide +kernel) rfl [(0, .ref (gB G + 446))] rfl (Nat.le_of_ble_eq_true rfl) ?_
  intro pM eM sM mM aM bM meM cM K hr
  have hj39 : ∀ (O : OM), X12_askIsOver_j39 O = some O' → GO pM l eM (2) sM mM aM bM meM cM (MQ bM (va_Qv (fun (u : CM × OM) => u = (C, O')) (wB G) (Fr G)) aM sM 0 0 (Fr G)) G 1 (C, O) 39 [(0, .ref (gB G + 446))] [] := by
    intro O h
    rw [X12_askIsOver_j39] at h
    refine go_aload_n K dX12_askIsOver_39 0 rfl rfl ?_
    refine go_iconst (v := (3 : Int32)) K dX12_askIsOver_40 (by decide) ?_
    refine pf_X12 K 28 (by decide) kf_X12_258 rfl rfl rfl dX12_askIsOver_41 ?_
    exact go_vret K hr (congrArg (fun z => (C, z)) (Option.some.inj h)) dX12_askIsOver_44
  have hl0 : ∀ (n0 : Nat) (O : OM), X12_askIsOver_l0 (fun O => (X12_askIsOver_j39 O)) n0 O = some O' → GO pM l eM (2) sM mM aM bM meM cM (MQ bM (va_Qv (fun (u : CM × OM) => u = (C, O')) (wB G) (Fr G)) aM sM 0 0 (Fr G)) G 1 (C, O) 0 [(0, .ref (gB G + 446))] [] := by
    intro n0
    induction n0 with
    | zero =>
      intro O h
      rw [X12_askIsOver_l0] at h
      cases h
    | succ n0 ih0 =>
      intro O h
      rw [X12_askIsOver_l0] at h
      refine go_aload_n K dX12_askIsOver_0 0 rfl rfl ?_
      obtain ⟨r1, e1, h⟩ := bnd_e h
      refine go_cVI K (c_X12_top l G _ _ _ e1) cf_X12_top cv_X12_top km_X12_278 rv_X12 (by decide) rfl rfl (Nat.le_of_ble_eq_true rfl) dX12_askIsOver_1 ?_
      refine go_iconst (v := (3 : Int32)) K dX12_askIsOver_4 (by decide) ?_
      refine go_icmp_ne (tgt := 39) K dX12_askIsOver_5 (by decide) (fun c2 => ?_) (fun c2 => ?_)
      · replace h := ite_f h c2
        exact hj39 _ h
      replace h := ite_t h c2
      refine go_aload_n K dX12_askIsOver_8 0 rfl rfl ?_
      refine go_dup K dX12_askIsOver_9 rfl ?_
      refine gf_X12 K 22 (by decide) kf_X12_224 (v := .int (O.1 446 22)) rfl dX12_askIsOver_10 ?_
      refine go_iconst (v := (1 : Int32)) K dX12_askIsOver_13 (by decide) ?_
      refine go_isub K dX12_askIsOver_14 ?_
      refine pf_X12 K 22 (by decide) kf_X12_224 rfl rfl rfl dX12_askIsOver_15 ?_
      refine go_aload_n K dX12_askIsOver_18 0 rfl rfl ?_
      refine go_dup K dX12_askIsOver_19 rfl ?_
      refine gf_X12 K 21 (by decide) kf_X12_227 (v := .int ((oup O 446 22 ((O.1 446 22) - (1 : Int32))).1 446 21)) rfl dX12_askIsOver_20 ?_
      refine go_iconst (v := (1 : Int32)) K dX12_askIsOver_23 (by decide) ?_
      refine go_isub K dX12_askIsOver_24 ?_
      refine pf_X12 K 21 (by decide) kf_X12_227 rfl rfl rfl dX12_askIsOver_25 ?_
      refine go_aload_n K dX12_askIsOver_28 0 rfl rfl ?_
      refine go_sipush (v := (405 : Int32)) K dX12_askIsOver_29 (by decide) ?_
      refine go_iconst (v := (0 : Int32)) K dX12_askIsOver_32 (by decide) ?_
      obtain ⟨O3, e3, h⟩ := bnd_e h
      refine go_cVV K (c_X12_emits l G _ _ _ _ _ e3) cf_X12_emits cv_X12_emits km_X12_246 rv_X12 (by decide) rfl rfl (Nat.le_of_ble_eq_true rfl) dX12_askIsOver_33 ?_
      refine go_goto (tgt := 0) K dX12_askIsOver_36 (by decide) ?_
      exact ih0 _ h
  rw [f_X12_askIsOver] at h
  exact hl0 FU _ h
