noncomputable def X12_isAsking_j38 : Int32 := (1 : Int32)
noncomputable def f_X12_isAsking (v0 : Int32) : Int32 := (if v0 = (60 : Int32) then (X12_isAsking_j38) else (if v0 = (62 : Int32) then (X12_isAsking_j38) else (if v0 = (61 : Int32) then (X12_isAsking_j38) else (if v0 = (35 : Int32) then (X12_isAsking_j38) else (if v0 = (300 : Int32) then (X12_isAsking_j38) else (if v0 = (301 : Int32) then (X12_isAsking_j38) else (0 : Int32)))))))
theorem cf_X12_isAsking : CF yX12_isAsking cX12_isAsking 1 (Option.some Jvm.ClassFile.FieldType.boolean) 1 := ⟨kc_X12_isAsking, kj_X12, ⟨by decide +kernel, by decide +kernel, by decide +kernel⟩, by decide⟩
set_option maxHeartbeats 4000000 in
set_option maxRecDepth 100000 in
theorem c_X12_isAsking (l : Launch) (G : GT) (v0 : Int32) (C : CM) (O : OM) (res : Int32) (h : f_X12_isAsking v0 = res) : MI l G yX12_isAsking cX12_isAsking 1 (Option.some Jvm.ClassFile.FieldType.boolean) (1) [.int v0] (C, O) res (C, O) := by
  unfold MI
  refine met_in RX12 (by decide +kernel) rfl [(0, .int v0)] rfl (Nat.le_of_ble_eq_true rfl) ?_
  intro pM eM sM mM aM bM meM cM K hr
  have hj38 : X12_isAsking_j38 = res → GO pM l eM (1) sM mM aM bM meM cM (MQ bM (va_Qi (fun (r' : Int32) (u : CM × OM) => r' = res ∧ u = (C, O)) (wB G) (Fr G)) aM sM 0 0 (Fr G)) G 1 (C, O) 38 [] [] := by
    intro h
    rw [X12_isAsking_j38] at h
    refine go_iconst (v := (1 : Int32)) K dX12_isAsking_38 (by decide) ?_
    refine go_goto (tgt := 43) K dX12_isAsking_39 (by decide) ?_
    exact go_zret K hr (by decide) h rfl dX12_isAsking_43
  rw [f_X12_isAsking] at h
  refine go_iload_n K dX12_isAsking_0 0 rfl rfl ?_
  refine go_bipush (v := (60 : Int32)) K dX12_isAsking_1 (by decide) ?_
  refine go_icmp_eq (tgt := 38) K dX12_isAsking_3 (by decide) (fun c1 => ?_) (fun c1 => ?_)
  · replace h := ite_t h c1
    exact go_sub [] rfl (hj38 h)
  replace h := ite_f h c1
  refine go_iload_n K dX12_isAsking_6 0 rfl rfl ?_
  refine go_bipush (v := (62 : Int32)) K dX12_isAsking_7 (by decide) ?_
  refine go_icmp_eq (tgt := 38) K dX12_isAsking_9 (by decide) (fun c2 => ?_) (fun c2 => ?_)
  · replace h := ite_t h c2
    exact go_sub [] rfl (hj38 h)
  replace h := ite_f h c2
  refine go_iload_n K dX12_isAsking_12 0 rfl rfl ?_
  refine go_bipush (v := (61 : Int32)) K dX12_isAsking_13 (by decide) ?_
  refine go_icmp_eq (tgt := 38) K dX12_isAsking_15 (by decide) (fun c3 => ?_) (fun c3 => ?_)
  · replace h := ite_t h c3
    exact go_sub [] rfl (hj38 h)
  replace h := ite_f h c3
  refine go_iload_n K dX12_isAsking_18 0 rfl rfl ?_
  refine go_bipush (v := (35 : Int32)) K dX12_isAsking_19 (by decide) ?_
  refine go_icmp_eq (tgt := 38) K dX12_isAsking_21 (by decide) (fun c4 => ?_) (fun c4 => ?_)
  · replace h := ite_t h c4
    exact go_sub [] rfl (hj38 h)
  replace h := ite_f h c4
  refine go_iload_n K dX12_isAsking_24 0 rfl rfl ?_
  refine go_sipush (v := (300 : Int32)) K dX12_isAsking_25 (by decide) ?_
  refine go_icmp_eq (tgt := 38) K dX12_isAsking_28 (by decide) (fun c5 => ?_) (fun c5 => ?_)
  · replace h := ite_t h c5
    exact go_sub [] rfl (hj38 h)
  replace h := ite_f h c5
  refine go_iload_n K dX12_isAsking_31 0 rfl rfl ?_
  refine go_sipush (v := (301 : Int32)) K dX12_isAsking_32 (by decide) ?_
  refine go_icmp_ne (tgt := 42) K dX12_isAsking_35 (by decide) (fun c6 => ?_) (fun c6 => ?_)
  rotate_left
  · replace h := ite_t h c6
    exact go_sub [] rfl (hj38 h)
  replace h := ite_f h c6
  refine go_iconst (v := (0 : Int32)) K dX12_isAsking_42 (by decide) ?_
  exact go_zret K hr (by decide) h rfl dX12_isAsking_43
noncomputable def X12_turnsTo_j46 (v1 : Int32) (O : OM) : Option OM := (gd (inb ((O.1 446 22) - (1 : Int32)) 40) (bnd (f_X12_next (oup O 458 ((O.1 446 22) - (1 : Int32)).toNatClampNeg v1)) (fun O6 => (some (oup O6 446 28 (1 : Int32))))))
noncomputable def f_X12_turnsTo (v1 : Int32) (v2 : Int32) (O : OM) : Option OM := (gd (inb (O.1 446 22) 41) (gd (inb (O.1 446 22) 41) (bnd (f_X12_emits v2 (0 : Int32) (oup O 462 (O.1 446 22).toNatClampNeg (O.1 446 37))) (fun O3 => (if v2 = (409 : Int32) then (gd (inb (O.1 462 (O.1 446 22).toNatClampNeg) 400) (X12_turnsTo_j46 v1 (oup O3 469 (O.1 462 (O.1 446 22).toNatClampNeg).toNatClampNeg (O3.1 446 37)))) else (X12_turnsTo_j46 v1 O3))))))
theorem cf_X12_turnsTo : CF yX12_turnsTo cX12_turnsTo 4 (Option.none : Option Jvm.ClassFile.FieldType) 2 := ⟨kc_X12_turnsTo, kj_X12, ⟨by decide +kernel, by decide +kernel, by decide +kernel⟩, by decide⟩
theorem cv_X12_turnsTo : CFv yX12_turnsTo := ⟨ki_X12_turnsTo, ks_X12_turnsTo⟩
set_option maxHeartbeats 4000000 in
set_option maxRecDepth 100000 in
theorem c_X12_turnsTo (l : Launch) (G : GT) (v1 : Int32) (v2 : Int32) (C : CM) (O : OM) (O' : OM) (h : f_X12_turnsTo v1 v2 O = some O') : MV l G yX12_turnsTo cX12_turnsTo 4 (Option.none : Option Jvm.ClassFile.FieldType) (4) [.ref (gB G + 446), .int v1, .int v2] (C, O) (C, O') := by
  unfold MV
  refine met_in RX12 (by decide +kernel) rfl [(0, .ref (gB G + 446)), (1, .int v1), (2, .int v2)] rfl (Nat.le_of_ble_eq_true rfl) ?_
  intro pM eM sM mM aM bM meM cM K hr
  have hj46 : ∀ (v1 : Int32) (O : OM), X12_turnsTo_j46 v1 O = some O' → GO pM l eM (4) sM mM aM bM meM cM (MQ bM (va_Qv (fun (u : CM × OM) => u = (C, O')) (wB G) (Fr G)) aM sM 0 0 (Fr G)) G 4 (C, O) 46 [(0, .ref (gB G + 446)), (1, .int v1)] [] := by
    intro v1 O h
    rw [X12_turnsTo_j46] at h
    refine go_aload_n K dX12_turnsTo_46 0 rfl rfl ?_
    refine gf_X12 K 23 (by decide) kf_X12_51 (v := .ref (gB G + 458)) rfl dX12_turnsTo_47 ?_
    refine go_aload_n K dX12_turnsTo_50 0 rfl rfl ?_
    refine gf_X12 K 22 (by decide) kf_X12_224 (v := .int (O.1 446 22)) rfl dX12_turnsTo_51 ?_
    refine go_iconst (v := (1 : Int32)) K dX12_turnsTo_54 (by decide) ?_
    refine go_isub K dX12_turnsTo_55 ?_
    refine go_iload_n K dX12_turnsTo_56 1 rfl rfl ?_
    obtain ⟨g5, h⟩ := gd_e h
    refine go_mast K (Nat.le_of_ble_eq_true rfl) sh_458 g5 rfl dX12_turnsTo_57 ?_
    refine go_aload_n K dX12_turnsTo_58 0 rfl rfl ?_
    obtain ⟨O6, e6, h⟩ := bnd_e h
    refine go_cVV K (c_X12_next l G _ _ _ e6) cf_X12_next cv_X12_next km_X12_236 rv_X12 (by decide) rfl rfl (Nat.le_of_ble_eq_true rfl) dX12_turnsTo_59 ?_
    refine go_aload_n K dX12_turnsTo_62 0 rfl rfl ?_
    refine go_iconst (v := (1 : Int32)) K dX12_turnsTo_63 (by decide) ?_
    refine pf_X12 K 28 (by decide) kf_X12_258 rfl rfl rfl dX12_turnsTo_64 ?_
    exact go_vret K hr (congrArg (fun z => (C, z)) (Option.some.inj h)) dX12_turnsTo_67
  rw [f_X12_turnsTo] at h
  refine go_aload_n K dX12_turnsTo_0 0 rfl rfl ?_
  refine gf_X12 K 29 (by decide) kf_X12_63 (v := .ref (gB G + 462)) rfl dX12_turnsTo_1 ?_
  refine go_aload_n K dX12_turnsTo_4 0 rfl rfl ?_
  refine gf_X12 K 22 (by decide) kf_X12_224 (v := .int (O.1 446 22)) rfl dX12_turnsTo_5 ?_
  obtain ⟨g1, h⟩ := gd_e h
  refine go_mald K (Nat.le_of_ble_eq_true rfl) sh_462 g1 rfl dX12_turnsTo_8 ?_
  refine go_istore_n K dX12_turnsTo_9 rfl (by decide) (lv' := [(3, .int (O.1 462 (O.1 446 22).toNatClampNeg)), (0, .ref (gB G + 446)), (1, .int v1), (2, .int v2)]) rfl ?_
  refine go_aload_n K dX12_turnsTo_10 1 rfl rfl ?_
  refine gf_X12 K 29 (by decide) kf_X12_63 (v := .ref (gB G + 462)) rfl dX12_turnsTo_11 ?_
  refine go_aload_n K dX12_turnsTo_14 1 rfl rfl ?_
  refine gf_X12 K 22 (by decide) kf_X12_224 (v := .int (O.1 446 22)) rfl dX12_turnsTo_15 ?_
  refine go_aload_n K dX12_turnsTo_18 1 rfl rfl ?_
  refine gf_X12 K 37 (by decide) kf_X12_221 (v := .int (O.1 446 37)) rfl dX12_turnsTo_19 ?_
  obtain ⟨g2, h⟩ := gd_e h
  refine go_mast K (Nat.le_of_ble_eq_true rfl) sh_462 g2 rfl dX12_turnsTo_22 ?_
  refine go_aload_n K dX12_turnsTo_23 1 rfl rfl ?_
  refine go_iload_n K dX12_turnsTo_24 3 rfl rfl ?_
  refine go_iconst (v := (0 : Int32)) K dX12_turnsTo_25 (by decide) ?_
  obtain ⟨O3, e3, h⟩ := bnd_e h
  refine go_cVV K (c_X12_emits l G _ _ _ _ _ e3) cf_X12_emits cv_X12_emits km_X12_246 rv_X12 (by decide) rfl rfl (Nat.le_of_ble_eq_true rfl) dX12_turnsTo_26 ?_
  refine go_iload_n K dX12_turnsTo_29 3 rfl rfl ?_
  refine go_sipush (v := (409 : Int32)) K dX12_turnsTo_30 (by decide) ?_
  refine go_icmp_ne (tgt := 46) K dX12_turnsTo_33 (by decide) (fun c4 => ?_) (fun c4 => ?_)
  · replace h := ite_f h c4
    exact go_sub [1, 2] rfl (hj46 _ _ h)
  replace h := ite_t h c4
  refine go_aload_n K dX12_turnsTo_36 1 rfl rfl ?_
  refine gf_X12 K 39 (by decide) kf_X12_84 (v := .ref (gB G + 469)) rfl dX12_turnsTo_37 ?_
  refine go_iload_n K dX12_turnsTo_40 0 rfl rfl ?_
  refine go_aload_n K dX12_turnsTo_41 1 rfl rfl ?_
  refine gf_X12 K 37 (by decide) kf_X12_221 (v := .int (O3.1 446 37)) rfl dX12_turnsTo_42 ?_
  obtain ⟨g7, h⟩ := gd_e h
  refine go_mast K (Nat.le_of_ble_eq_true rfl) sh_469 g7 rfl dX12_turnsTo_45 ?_
  exact go_sub [1, 2] rfl (hj46 _ _ h)
noncomputable def f_X12_clauseIsOver (O : OM) : Option OM := (bnd (f_X12_works (1 : Int32) O) (fun O1 => (bnd (f_X12_emits (408 : Int32) (0 : Int32) (oup O1 446 22 (0 : Int32))) (fun O2 => (bnd (f_X12_next (oup O2 446 30 ((O2.1 446 30) + (1 : Int32)))) (fun O3 => (some (oup O3 446 28 (4 : Int32)))))))))
theorem cf_X12_clauseIsOver : CF yX12_clauseIsOver cX12_clauseIsOver 1 (Option.none : Option Jvm.ClassFile.FieldType) 0 := ⟨kc_X12_clauseIsOver, kj_X12, ⟨by decide +kernel, by decide +kernel, by decide +kernel⟩, by decide⟩
theorem cv_X12_clauseIsOver : CFv yX12_clauseIsOver := ⟨ki_X12_clauseIsOver, ks_X12_clauseIsOver⟩
set_option maxHeartbeats 4000000 in
set_option maxRecDepth 100000 in
theorem c_X12_clauseIsOver (l : Launch) (G : GT) (C : CM) (O : OM) (O' : OM) (h : f_X12_clauseIsOver O = some O') : MV l G yX12_clauseIsOver cX12_clauseIsOver 1 (Option.none : Option Jvm.ClassFile.FieldType) (4) [.ref (gB G + 446)] (C, O) (C, O') := by
  unfold MV
  refine met_in RX12 (by decide +kernel) rfl [(0, .ref (gB G + 446))] rfl (Nat.le_of_ble_eq_true rfl) ?_
  intro pM eM sM mM aM bM meM cM K hr
  rw [f_X12_clauseIsOver] at h
  refine go_aload_n K dX12_clauseIsOver_0 0 rfl rfl ?_
  refine go_iconst (v := (1 : Int32)) K dX12_clauseIsOver_1 (by decide) ?_
  obtain ⟨O1, e1, h⟩ := bnd_e h
  refine go_cVV K (c_X12_works l G _ _ _ _ e1) cf_X12_works cv_X12_works km_X12_249 rv_X12 (by decide) rfl rfl (Nat.le_of_ble_eq_true rfl) dX12_clauseIsOver_2 ?_
  refine go_aload_n K dX12_clauseIsOver_5 0 rfl rfl ?_
  refine go_iconst (v := (0 : Int32)) K dX12_clauseIsOver_6 (by decide) ?_
  refine pf_X12 K 22 (by decide) kf_X12_224 rfl rfl rfl dX12_clauseIsOver_7 ?_
  refine go_aload_n K dX12_clauseIsOver_10 0 rfl rfl ?_
  refine go_sipush (v := (408 : Int32)) K dX12_clauseIsOver_11 (by decide) ?_
  refine go_iconst (v := (0 : Int32)) K dX12_clauseIsOver_14 (by decide) ?_
  obtain ⟨O2, e2, h⟩ := bnd_e h
  refine go_cVV K (c_X12_emits l G _ _ _ _ _ e2) cf_X12_emits cv_X12_emits km_X12_246 rv_X12 (by decide) rfl rfl (Nat.le_of_ble_eq_true rfl) dX12_clauseIsOver_15 ?_
  refine go_aload_n K dX12_clauseIsOver_18 0 rfl rfl ?_
  refine go_dup K dX12_clauseIsOver_19 rfl ?_
  refine gf_X12 K 30 (by decide) kf_X12_299 (v := .int (O2.1 446 30)) rfl dX12_clauseIsOver_20 ?_
  refine go_iconst (v := (1 : Int32)) K dX12_clauseIsOver_23 (by decide) ?_
  refine go_iadd K dX12_clauseIsOver_24 ?_
  refine pf_X12 K 30 (by decide) kf_X12_299 rfl rfl rfl dX12_clauseIsOver_25 ?_
  refine go_aload_n K dX12_clauseIsOver_28 0 rfl rfl ?_
  obtain ⟨O3, e3, h⟩ := bnd_e h
  refine go_cVV K (c_X12_next l G _ _ _ e3) cf_X12_next cv_X12_next km_X12_236 rv_X12 (by decide) rfl rfl (Nat.le_of_ble_eq_true rfl) dX12_clauseIsOver_29 ?_
  refine go_aload_n K dX12_clauseIsOver_32 0 rfl rfl ?_
  refine go_iconst (v := (4 : Int32)) K dX12_clauseIsOver_33 (by decide) ?_
  refine pf_X12 K 28 (by decide) kf_X12_258 rfl rfl rfl dX12_clauseIsOver_34 ?_
  exact go_vret K hr (congrArg (fun z => (C, z)) (Option.some.inj h)) dX12_clauseIsOver_37
noncomputable def X12_goesOn_j346 (O : OM) : Option OM := (bnd (f_X12_errs (1 : Int32) O) (fun O9 => (some O9)))
noncomputable def X12_goesOn_j282 (v1 : Int32) (O : OM) : Option OM := (if v1 = (5 : Int32) then (bnd (f_X12_works (3 : Int32) O) (fun O12 => (gd (inb (O12.1 446 22) 41) (bnd (f_X12_emits (O12.1 459 (O12.1 446 22).toNatClampNeg) (0 : Int32) (oup O12 446 22 ((O12.1 446 22) - (1 : Int32)))) (fun O14 => (bnd (f_X12_askIsOver O14) (fun O15 => (some O15)))))))) else (if v1 = (1 : Int32) then (if (f_X12_isSign (59 : Int32) O) = 0 then (X12_goesOn_j346 O) else (bnd (f_X12_clauseIsOver O) (fun O11 => (some O11)))) else (X12_goesOn_j346 O)))
noncomputable def X12_goesOn_j217 (v1 : Int32) (O : OM) : Option OM := (if v1 = (4 : Int32) then (if (O.1 446 17) = (3 : Int32) then (if (f_X12_isAsking (O.1 446 18)) = 0 then (X12_goesOn_j282 v1 O) else (bnd (f_X12_works (3 : Int32) O) (fun O18 => (gd (inb (O18.1 446 22) 41) (gd (inb (((oup O18 459 (O18.1 446 22).toNatClampNeg (O18.1 446 18)).1 446 22) - (1 : Int32)) 40) (bnd (f_X12_next (oup (oup O18 459 (O18.1 446 22).toNatClampNeg (O18.1 446 18)) 458 (((oup O18 459 (O18.1 446 22).toNatClampNeg (O18.1 446 18)).1 446 22) - (1 : Int32)).toNatClampNeg (5 : Int32))) (fun O21 => (some (oup O21 446 28 (1 : Int32)))))))))) else (X12_goesOn_j282 v1 O)) else (X12_goesOn_j282 v1 O))
noncomputable def X12_goesOn_j148 (v1 : Int32) (O : OM) : Option OM := (if v1 = (9 : Int32) then (if (f_X12_isWord (23 : Int32) O) = 0 then (X12_goesOn_j217 v1 O) else (bnd (f_X12_works (3 : Int32) O) (fun O23 => (gd (inb (O23.1 446 22) 41) (gd (inb (O23.1 462 (O23.1 446 22).toNatClampNeg) 400) (bnd (f_X12_next (oup (oup (oup O23 469 (O23.1 462 (O23.1 446 22).toNatClampNeg).toNatClampNeg (O23.1 446 37)) 446 22 (((oup O23 469 (O23.1 462 (O23.1 446 22).toNatClampNeg).toNatClampNeg (O23.1 446 37)).1 446 22) - (1 : Int32))) 446 21 (((oup (oup O23 469 (O23.1 462 (O23.1 446 22).toNatClampNeg).toNatClampNeg (O23.1 446 37)) 446 22 (((oup O23 469 (O23.1 462 (O23.1 446 22).toNatClampNeg).toNatClampNeg (O23.1 446 37)).1 446 22) - (1 : Int32))).1 446 21) - (1 : Int32)))) (fun O26 => (bnd (f_X12_oneIsOver O26) (fun O27 => (some O27)))))))))) else (X12_goesOn_j217 v1 O))
noncomputable def X12_goesOn_j116 (v1 : Int32) (O : OM) : Option OM := (if v1 = (8 : Int32) then (if (f_X12_isWord (22 : Int32) O) = 0 then (X12_goesOn_j148 v1 O) else (bnd (f_X12_works (3 : Int32) O) (fun O29 => (bnd (f_X12_turnsTo (9 : Int32) (409 : Int32) O29) (fun O30 => (some O30)))))) else (X12_goesOn_j148 v1 O))
noncomputable def X12_goesOn_j65 (v1 : Int32) (O : OM) : Option OM := (if v1 = (6 : Int32) then (if (f_X12_isSign (41 : Int32) O) = 0 then (X12_goesOn_j116 v1 O) else (bnd (f_X12_works (3 : Int32) O) (fun O32 => (bnd (f_X12_next (oup (oup O32 446 22 ((O32.1 446 22) - (1 : Int32))) 446 21 (((oup O32 446 22 ((O32.1 446 22) - (1 : Int32))).1 446 21) - (1 : Int32)))) (fun O33 => (bnd (f_X12_oneIsOver O33) (fun O34 => (some O34)))))))) else (X12_goesOn_j116 v1 O))
noncomputable def X12_goesOn_j49 (O : OM) : Option OM := (bnd (f_X12_waitsFor (O.1 446 18) O) (fun O36 => (some (oup O36 446 28 (1 : Int32)))))
noncomputable def f_X12_goesOn (O : OM) : Option OM := (bnd (f_X12_top O) (fun r1 => (if (O.1 446 17) = (3 : Int32) then (if (O.1 446 18) = (43 : Int32) then (X12_goesOn_j49 O) else (if (O.1 446 18) = (45 : Int32) then (X12_goesOn_j49 O) else (if (O.1 446 18) = (42 : Int32) then (X12_goesOn_j49 O) else (if (O.1 446 18) = (47 : Int32) then (X12_goesOn_j49 O) else (X12_goesOn_j65 r1 O))))) else (X12_goesOn_j65 r1 O))))
theorem cf_X12_goesOn : CF yX12_goesOn cX12_goesOn 3 (Option.none : Option Jvm.ClassFile.FieldType) 0 := ⟨kc_X12_goesOn, kj_X12, ⟨by decide +kernel, by decide +kernel, by decide +kernel⟩, by decide⟩
theorem cv_X12_goesOn : CFv yX12_goesOn := ⟨ki_X12_goesOn, ks_X12_goesOn⟩
set_option maxHeartbeats 4000000 in
set_option maxRecDepth 100000 in
theorem c_X12_goesOn (l : Launch) (G : GT) (C : CM) (O : OM) (O' : OM) (h : f_X12_goesOn O = some O') : MV l G yX12_goesOn cX12_goesOn 3 (Option.none : Option Jvm.ClassFile.FieldType) (6) [.ref (gB G + 446)] (C, O) (C, O') := by
  unfold MV
  refine met_in RX12 (by decide +kernel) rfl [(0, .ref (gB G + 446))] rfl (Nat.le_of_ble_eq_true rfl) ?_
  intro pM eM sM mM aM bM meM cM K hr
  have hj346 : ∀ (O : OM), X12_goesOn_j346 O = some O' → GO pM l eM (6) sM mM aM bM meM cM (MQ bM (va_Qv (fun (u : CM × OM) => u = (C, O')) (wB G) (Fr G)) aM sM 0 0 (Fr G)) G 3 (C, O) 346 [(0, .ref (gB G + 446))] [] := by
    intro O h
    rw [X12_goesOn_j346] at h
    refine go_aload_n K dX12_goesOn_346 0 rfl rfl ?_
    refine go_iconst (v := (1 : Int32)) K dX12_goesOn_347 (by decide) ?_
    obtain ⟨O9, e9, h⟩ := bnd_e h
    refine go_cVV K (c_X12_errs l G _ _ _ _ e9) cf_X12_errs cv_X12_errs km_X12_230 rv_X12 (by decide) rfl rfl (Nat.le_of_ble_eq_true rfl) dX12_goesOn_348 ?_
    exact go_vret K hr (congrArg (fun z => (C, z)) (Option.some.inj h)) dX12_goesOn_351
  have hj282 : ∀ (v1 : Int32) (O : OM), X12_goesOn_j282 v1 O = some O' → GO pM l eM (6) sM mM aM bM meM cM (MQ bM (va_Qv (fun (u : CM × OM) => u = (C, O')) (wB G) (Fr G)) aM sM 0 0 (Fr G)) G 3 (C, O) 282 [(0, .ref (gB G + 446)), (1, .int v1)] [] := by
    intro v1 O h
    rw [X12_goesOn_j282] at h
    refine go_iload_n K dX12_goesOn_282 1 rfl rfl ?_
    refine go_iconst (v := (5 : Int32)) K dX12_goesOn_283 (by decide) ?_
    refine go_icmp_ne (tgt := 325) K dX12_goesOn_284 (by decide) (fun c7 => ?_) (fun c7 => ?_)
    · replace h := ite_f h c7
      refine go_iload_n K dX12_goesOn_325 1 rfl rfl ?_
      refine go_iconst (v := (1 : Int32)) K dX12_goesOn_326 (by decide) ?_
      refine go_icmp_ne (tgt := 346) K dX12_goesOn_327 (by decide) (fun c8 => ?_) (fun c8 => ?_)
      · replace h := ite_f h c8
        exact go_sub [0] rfl (hj346 _ h)
      replace h := ite_t h c8
      refine go_aload_n K dX12_goesOn_330 0 rfl rfl ?_
      refine go_bipush (v := (59 : Int32)) K dX12_goesOn_331 (by decide) ?_
      refine go_cVI K (c_X12_isSign l G _ _ _ _ rfl) cf_X12_isSign cv_X12_isSign km_X12_275 rv_X12 (by decide) rfl rfl (Nat.le_of_ble_eq_true rfl) dX12_goesOn_333 ?_
      refine go_if_eq (tgt := 346) K dX12_goesOn_336 (by decide) (fun c10 => ?_) (fun c10 => ?_)
      · replace h := ite_t h c10
        exact go_sub [0] rfl (hj346 _ h)
      replace h := ite_f h c10
      refine go_aload_n K dX12_goesOn_339 0 rfl rfl ?_
      obtain ⟨O11, e11, h⟩ := bnd_e h
      refine go_cVV K (c_X12_clauseIsOver l G _ _ _ e11) cf_X12_clauseIsOver cv_X12_clauseIsOver km_X12_296 rv_X12 (by decide) rfl rfl (Nat.le_of_ble_eq_true rfl) dX12_goesOn_340 ?_
      refine go_goto (tgt := 351) K dX12_goesOn_343 (by decide) ?_
      exact go_vret K hr (congrArg (fun z => (C, z)) (Option.some.inj h)) dX12_goesOn_351
    replace h := ite_t h c7
    refine go_aload_n K dX12_goesOn_287 0 rfl rfl ?_
    refine go_iconst (v := (3 : Int32)) K dX12_goesOn_288 (by decide) ?_
    obtain ⟨O12, e12, h⟩ := bnd_e h
    refine go_cVV K (c_X12_works l G _ _ _ _ e12) cf_X12_works cv_X12_works km_X12_249 rv_X12 (by decide) rfl rfl (Nat.le_of_ble_eq_true rfl) dX12_goesOn_289 ?_
    refine go_aload_n K dX12_goesOn_292 0 rfl rfl ?_
    refine gf_X12 K 24 (by decide) kf_X12_54 (v := .ref (gB G + 459)) rfl dX12_goesOn_293 ?_
    refine go_aload_n K dX12_goesOn_296 0 rfl rfl ?_
    refine gf_X12 K 22 (by decide) kf_X12_224 (v := .int (O12.1 446 22)) rfl dX12_goesOn_297 ?_
    obtain ⟨g13, h⟩ := gd_e h
    refine go_mald K (Nat.le_of_ble_eq_true rfl) sh_459 g13 rfl dX12_goesOn_300 ?_
    refine go_istore_n K dX12_goesOn_301 rfl (by decide) (lv' := [(2, .int (O12.1 459 (O12.1 446 22).toNatClampNeg)), (0, .ref (gB G + 446)), (1, .int v1)]) rfl ?_
    refine go_aload_n K dX12_goesOn_302 1 rfl rfl ?_
    refine go_dup K dX12_goesOn_303 rfl ?_
    refine gf_X12 K 22 (by decide) kf_X12_224 (v := .int (O12.1 446 22)) rfl dX12_goesOn_304 ?_
    refine go_iconst (v := (1 : Int32)) K dX12_goesOn_307 (by decide) ?_
    refine go_isub K dX12_goesOn_308 ?_
    refine pf_X12 K 22 (by decide) kf_X12_224 rfl rfl rfl dX12_goesOn_309 ?_
    refine go_aload_n K dX12_goesOn_312 1 rfl rfl ?_
    refine go_iload_n K dX12_goesOn_313 0 rfl rfl ?_
    refine go_iconst (v := (0 : Int32)) K dX12_goesOn_314 (by decide) ?_
    obtain ⟨O14, e14, h⟩ := bnd_e h
    refine go_cVV K (c_X12_emits l G _ _ _ _ _ e14) cf_X12_emits cv_X12_emits km_X12_246 rv_X12 (by decide) rfl rfl (Nat.le_of_ble_eq_true rfl) dX12_goesOn_315 ?_
    refine go_aload_n K dX12_goesOn_318 1 rfl rfl ?_
    obtain ⟨O15, e15, h⟩ := bnd_e h
    refine go_cVV K (c_X12_askIsOver l G _ _ _ e15) cf_X12_askIsOver cv_X12_askIsOver km_X12_293 rv_X12 (by decide) rfl rfl (Nat.le_of_ble_eq_true rfl) dX12_goesOn_319 ?_
    refine go_goto (tgt := 351) K dX12_goesOn_322 (by decide) ?_
    exact go_vret K hr (congrArg (fun z => (C, z)) (Option.some.inj h)) dX12_goesOn_351
  have hj217 : ∀ (v1 : Int32) (O : OM), X12_goesOn_j217 v1 O = some O' → GO pM l eM (6) sM mM aM bM meM cM (MQ bM (va_Qv (fun (u : CM × OM) => u = (C, O')) (wB G) (Fr G)) aM sM 0 0 (Fr G)) G 3 (C, O) 217 [(0, .ref (gB G + 446)), (1, .int v1)] [] := by
    intro v1 O h
    rw [X12_goesOn_j217] at h
    refine go_iload_n K dX12_goesOn_217 1 rfl rfl ?_
    refine go_iconst (v := (4 : Int32)) K dX12_goesOn_218 (by decide) ?_
    refine go_icmp_ne (tgt := 282) K dX12_goesOn_219 (by decide) (fun c6 => ?_) (fun c6 => ?_)
    · replace h := ite_f h c6
      exact hj282 _ _ h
    replace h := ite_t h c6
    refine go_aload_n K dX12_goesOn_222 0 rfl rfl ?_
    refine gf_X12 K 17 (by decide) kf_X12_199 (v := .int (O.1 446 17)) rfl dX12_goesOn_223 ?_
    refine go_iconst (v := (3 : Int32)) K dX12_goesOn_226 (by decide) ?_
    refine go_icmp_ne (tgt := 282) K dX12_goesOn_227 (by decide) (fun c16 => ?_) (fun c16 => ?_)
    · replace h := ite_f h c16
      exact hj282 _ _ h
    replace h := ite_t h c16
    refine go_aload_n K dX12_goesOn_230 0 rfl rfl ?_
    refine gf_X12 K 18 (by decide) kf_X12_211 (v := .int (O.1 446 18)) rfl dX12_goesOn_231 ?_
    refine go_cSI K (c_X12_isAsking l G _ _ _ _ rfl) cf_X12_isAsking kt_X12_isAsking km_X12_290 (by decide) rfl rfl (Nat.le_of_ble_eq_true rfl) dX12_goesOn_234 ?_
    refine go_if_eq (tgt := 282) K dX12_goesOn_237 (by decide) (fun c17 => ?_) (fun c17 => ?_)
    · replace h := ite_t h c17
      exact hj282 _ _ h
    replace h := ite_f h c17
    refine go_aload_n K dX12_goesOn_240 0 rfl rfl ?_
    refine go_iconst (v := (3 : Int32)) K dX12_goesOn_241 (by decide) ?_
    obtain ⟨O18, e18, h⟩ := bnd_e h
    refine go_cVV K (c_X12_works l G _ _ _ _ e18) cf_X12_works cv_X12_works km_X12_249 rv_X12 (by decide) rfl rfl (Nat.le_of_ble_eq_true rfl) dX12_goesOn_242 ?_
    refine go_aload_n K dX12_goesOn_245 0 rfl rfl ?_
    refine gf_X12 K 24 (by decide) kf_X12_54 (v := .ref (gB G + 459)) rfl dX12_goesOn_246 ?_
    refine go_aload_n K dX12_goesOn_249 0 rfl rfl ?_
    refine gf_X12 K 22 (by decide) kf_X12_224 (v := .int (O18.1 446 22)) rfl dX12_goesOn_250 ?_
    refine go_aload_n K dX12_goesOn_253 0 rfl rfl ?_
    refine gf_X12 K 18 (by decide) kf_X12_211 (v := .int (O18.1 446 18)) rfl dX12_goesOn_254 ?_
    obtain ⟨g19, h⟩ := gd_e h
    refine go_mast K (Nat.le_of_ble_eq_true rfl) sh_459 g19 rfl dX12_goesOn_257 ?_
    refine go_aload_n K dX12_goesOn_258 0 rfl rfl ?_
    refine gf_X12 K 23 (by decide) kf_X12_51 (v := .ref (gB G + 458)) rfl dX12_goesOn_259 ?_
    refine go_aload_n K dX12_goesOn_262 0 rfl rfl ?_
    refine gf_X12 K 22 (by decide) kf_X12_224 (v := .int ((oup O18 459 (O18.1 446 22).toNatClampNeg (O18.1 446 18)).1 446 22)) rfl dX12_goesOn_263 ?_
    refine go_iconst (v := (1 : Int32)) K dX12_goesOn_266 (by decide) ?_
    refine go_isub K dX12_goesOn_267 ?_
    refine go_iconst (v := (5 : Int32)) K dX12_goesOn_268 (by decide) ?_
    obtain ⟨g20, h⟩ := gd_e h
    refine go_mast K (Nat.le_of_ble_eq_true rfl) sh_458 g20 rfl dX12_goesOn_269 ?_
    refine go_aload_n K dX12_goesOn_270 0 rfl rfl ?_
    obtain ⟨O21, e21, h⟩ := bnd_e h
    refine go_cVV K (c_X12_next l G _ _ _ e21) cf_X12_next cv_X12_next km_X12_236 rv_X12 (by decide) rfl rfl (Nat.le_of_ble_eq_true rfl) dX12_goesOn_271 ?_
    refine go_aload_n K dX12_goesOn_274 0 rfl rfl ?_
    refine go_iconst (v := (1 : Int32)) K dX12_goesOn_275 (by decide) ?_
    refine pf_X12 K 28 (by decide) kf_X12_258 rfl rfl rfl dX12_goesOn_276 ?_
    refine go_goto (tgt := 351) K dX12_goesOn_279 (by decide) ?_
    exact go_vret K hr (congrArg (fun z => (C, z)) (Option.some.inj h)) dX12_goesOn_351
  have hj148 : ∀ (v1 : Int32) (O : OM), X12_goesOn_j148 v1 O = some O' → GO pM l eM (6) sM mM aM bM meM cM (MQ bM (va_Qv (fun (u : CM × OM) => u = (C, O')) (wB G) (Fr G)) aM sM 0 0 (Fr G)) G 3 (C, O) 148 [(0, .ref (gB G + 446)), (1, .int v1)] [] := by
    intro v1 O h
    rw [X12_goesOn_j148] at h
    refine go_iload_n K dX12_goesOn_148 1 rfl rfl ?_
    refine go_bipush (v := (9 : Int32)) K dX12_goesOn_149 (by decide) ?_
    refine go_icmp_ne (tgt := 217) K dX12_goesOn_151 (by decide) (fun c5 => ?_) (fun c5 => ?_)
    · replace h := ite_f h c5
      exact hj217 _ _ h
    replace h := ite_t h c5
    refine go_aload_n K dX12_goesOn_154 0 rfl rfl ?_
    refine go_bipush (v := (23 : Int32)) K dX12_goesOn_155 (by decide) ?_
    refine go_cVI K (c_X12_isWord l G _ _ _ _ rfl) cf_X12_isWord cv_X12_isWord km_X12_252 rv_X12 (by decide) rfl rfl (Nat.le_of_ble_eq_true rfl) dX12_goesOn_157 ?_
    refine go_if_eq (tgt := 217) K dX12_goesOn_160 (by decide) (fun c22 => ?_) (fun c22 => ?_)
    · replace h := ite_t h c22
      exact hj217 _ _ h
    replace h := ite_f h c22
    refine go_aload_n K dX12_goesOn_163 0 rfl rfl ?_
    refine go_iconst (v := (3 : Int32)) K dX12_goesOn_164 (by decide) ?_
    obtain ⟨O23, e23, h⟩ := bnd_e h
    refine go_cVV K (c_X12_works l G _ _ _ _ e23) cf_X12_works cv_X12_works km_X12_249 rv_X12 (by decide) rfl rfl (Nat.le_of_ble_eq_true rfl) dX12_goesOn_165 ?_
    refine go_aload_n K dX12_goesOn_168 0 rfl rfl ?_
    refine gf_X12 K 39 (by decide) kf_X12_84 (v := .ref (gB G + 469)) rfl dX12_goesOn_169 ?_
    refine go_aload_n K dX12_goesOn_172 0 rfl rfl ?_
    refine gf_X12 K 29 (by decide) kf_X12_63 (v := .ref (gB G + 462)) rfl dX12_goesOn_173 ?_
    refine go_aload_n K dX12_goesOn_176 0 rfl rfl ?_
    refine gf_X12 K 22 (by decide) kf_X12_224 (v := .int (O23.1 446 22)) rfl dX12_goesOn_177 ?_
    obtain ⟨g24, h⟩ := gd_e h
    refine go_mald K (Nat.le_of_ble_eq_true rfl) sh_462 g24 rfl dX12_goesOn_180 ?_
    refine go_aload_n K dX12_goesOn_181 0 rfl rfl ?_
    refine gf_X12 K 37 (by decide) kf_X12_221 (v := .int (O23.1 446 37)) rfl dX12_goesOn_182 ?_
    obtain ⟨g25, h⟩ := gd_e h
    refine go_mast K (Nat.le_of_ble_eq_true rfl) sh_469 g25 rfl dX12_goesOn_185 ?_
    refine go_aload_n K dX12_goesOn_186 0 rfl rfl ?_
    refine go_dup K dX12_goesOn_187 rfl ?_
    refine gf_X12 K 22 (by decide) kf_X12_224 (v := .int ((oup O23 469 (O23.1 462 (O23.1 446 22).toNatClampNeg).toNatClampNeg (O23.1 446 37)).1 446 22)) rfl dX12_goesOn_188 ?_
    refine go_iconst (v := (1 : Int32)) K dX12_goesOn_191 (by decide) ?_
    refine go_isub K dX12_goesOn_192 ?_
    refine pf_X12 K 22 (by decide) kf_X12_224 rfl rfl rfl dX12_goesOn_193 ?_
    refine go_aload_n K dX12_goesOn_196 0 rfl rfl ?_
    refine go_dup K dX12_goesOn_197 rfl ?_
    refine gf_X12 K 21 (by decide) kf_X12_227 (v := .int ((oup (oup O23 469 (O23.1 462 (O23.1 446 22).toNatClampNeg).toNatClampNeg (O23.1 446 37)) 446 22 (((oup O23 469 (O23.1 462 (O23.1 446 22).toNatClampNeg).toNatClampNeg (O23.1 446 37)).1 446 22) - (1 : Int32))).1 446 21)) rfl dX12_goesOn_198 ?_
    refine go_iconst (v := (1 : Int32)) K dX12_goesOn_201 (by decide) ?_
    refine go_isub K dX12_goesOn_202 ?_
    refine pf_X12 K 21 (by decide) kf_X12_227 rfl rfl rfl dX12_goesOn_203 ?_
    refine go_aload_n K dX12_goesOn_206 0 rfl rfl ?_
    obtain ⟨O26, e26, h⟩ := bnd_e h
    refine go_cVV K (c_X12_next l G _ _ _ e26) cf_X12_next cv_X12_next km_X12_236 rv_X12 (by decide) rfl rfl (Nat.le_of_ble_eq_true rfl) dX12_goesOn_207 ?_
    refine go_aload_n K dX12_goesOn_210 0 rfl rfl ?_
    obtain ⟨O27, e27, h⟩ := bnd_e h
    refine go_cVV K (c_X12_oneIsOver l G _ _ _ e27) cf_X12_oneIsOver cv_X12_oneIsOver km_X12_265 rv_X12 (by decide) rfl rfl (Nat.le_of_ble_eq_true rfl) dX12_goesOn_211 ?_
    refine go_goto (tgt := 351) K dX12_goesOn_214 (by decide) ?_
    exact go_vret K hr (congrArg (fun z => (C, z)) (Option.some.inj h)) dX12_goesOn_351
  have hj116 : ∀ (v1 : Int32) (O : OM), X12_goesOn_j116 v1 O = some O' → GO pM l eM (6) sM mM aM bM meM cM (MQ bM (va_Qv (fun (u : CM × OM) => u = (C, O')) (wB G) (Fr G)) aM sM 0 0 (Fr G)) G 3 (C, O) 116 [(0, .ref (gB G + 446)), (1, .int v1)] [] := by
    intro v1 O h
    rw [X12_goesOn_j116] at h
    refine go_iload_n K dX12_goesOn_116 1 rfl rfl ?_
    refine go_bipush (v := (8 : Int32)) K dX12_goesOn_117 (by decide) ?_
    refine go_icmp_ne (tgt := 148) K dX12_goesOn_119 (by decide) (fun c4 => ?_) (fun c4 => ?_)
    · replace h := ite_f h c4
      exact hj148 _ _ h
    replace h := ite_t h c4
    refine go_aload_n K dX12_goesOn_122 0 rfl rfl ?_
    refine go_bipush (v := (22 : Int32)) K dX12_goesOn_123 (by decide) ?_
    refine go_cVI K (c_X12_isWord l G _ _ _ _ rfl) cf_X12_isWord cv_X12_isWord km_X12_252 rv_X12 (by decide) rfl rfl (Nat.le_of_ble_eq_true rfl) dX12_goesOn_125 ?_
    refine go_if_eq (tgt := 148) K dX12_goesOn_128 (by decide) (fun c28 => ?_) (fun c28 => ?_)
    · replace h := ite_t h c28
      exact hj148 _ _ h
    replace h := ite_f h c28
    refine go_aload_n K dX12_goesOn_131 0 rfl rfl ?_
    refine go_iconst (v := (3 : Int32)) K dX12_goesOn_132 (by decide) ?_
    obtain ⟨O29, e29, h⟩ := bnd_e h
    refine go_cVV K (c_X12_works l G _ _ _ _ e29) cf_X12_works cv_X12_works km_X12_249 rv_X12 (by decide) rfl rfl (Nat.le_of_ble_eq_true rfl) dX12_goesOn_133 ?_
    refine go_aload_n K dX12_goesOn_136 0 rfl rfl ?_
    refine go_bipush (v := (9 : Int32)) K dX12_goesOn_137 (by decide) ?_
    refine go_sipush (v := (409 : Int32)) K dX12_goesOn_139 (by decide) ?_
    obtain ⟨O30, e30, h⟩ := bnd_e h
    refine go_cVV K (c_X12_turnsTo l G _ _ _ _ _ e30) cf_X12_turnsTo cv_X12_turnsTo km_X12_287 rv_X12 (by decide) rfl rfl (Nat.le_of_ble_eq_true rfl) dX12_goesOn_142 ?_
    refine go_goto (tgt := 351) K dX12_goesOn_145 (by decide) ?_
    exact go_vret K hr (congrArg (fun z => (C, z)) (Option.some.inj h)) dX12_goesOn_351
  have hj65 : ∀ (v1 : Int32) (O : OM), X12_goesOn_j65 v1 O = some O' → GO pM l eM (6) sM mM aM bM meM cM (MQ bM (va_Qv (fun (u : CM × OM) => u = (C, O')) (wB G) (Fr G)) aM sM 0 0 (Fr G)) G 3 (C, O) 65 [(0, .ref (gB G + 446)), (1, .int v1)] [] := by
    intro v1 O h
    rw [X12_goesOn_j65] at h
    refine go_iload_n K dX12_goesOn_65 1 rfl rfl ?_
    refine go_bipush (v := (6 : Int32)) K dX12_goesOn_66 (by decide) ?_
    refine go_icmp_ne (tgt := 116) K dX12_goesOn_68 (by decide) (fun c3 => ?_) (fun c3 => ?_)
    · replace h := ite_f h c3
      exact hj116 _ _ h
    replace h := ite_t h c3
    refine go_aload_n K dX12_goesOn_71 0 rfl rfl ?_
    refine go_bipush (v := (41 : Int32)) K dX12_goesOn_72 (by decide) ?_
    refine go_cVI K (c_X12_isSign l G _ _ _ _ rfl) cf_X12_isSign cv_X12_isSign km_X12_275 rv_X12 (by decide) rfl rfl (Nat.le_of_ble_eq_true rfl) dX12_goesOn_74 ?_
    refine go_if_eq (tgt := 116) K dX12_goesOn_77 (by decide) (fun c31 => ?_) (fun c31 => ?_)
    · replace h := ite_t h c31
      exact hj116 _ _ h
    replace h := ite_f h c31
    refine go_aload_n K dX12_goesOn_80 0 rfl rfl ?_
    refine go_iconst (v := (3 : Int32)) K dX12_goesOn_81 (by decide) ?_
    obtain ⟨O32, e32, h⟩ := bnd_e h
    refine go_cVV K (c_X12_works l G _ _ _ _ e32) cf_X12_works cv_X12_works km_X12_249 rv_X12 (by decide) rfl rfl (Nat.le_of_ble_eq_true rfl) dX12_goesOn_82 ?_
    refine go_aload_n K dX12_goesOn_85 0 rfl rfl ?_
    refine go_dup K dX12_goesOn_86 rfl ?_
    refine gf_X12 K 22 (by decide) kf_X12_224 (v := .int (O32.1 446 22)) rfl dX12_goesOn_87 ?_
    refine go_iconst (v := (1 : Int32)) K dX12_goesOn_90 (by decide) ?_
    refine go_isub K dX12_goesOn_91 ?_
    refine pf_X12 K 22 (by decide) kf_X12_224 rfl rfl rfl dX12_goesOn_92 ?_
    refine go_aload_n K dX12_goesOn_95 0 rfl rfl ?_
    refine go_dup K dX12_goesOn_96 rfl ?_
    refine gf_X12 K 21 (by decide) kf_X12_227 (v := .int ((oup O32 446 22 ((O32.1 446 22) - (1 : Int32))).1 446 21)) rfl dX12_goesOn_97 ?_
    refine go_iconst (v := (1 : Int32)) K dX12_goesOn_100 (by decide) ?_
    refine go_isub K dX12_goesOn_101 ?_
    refine pf_X12 K 21 (by decide) kf_X12_227 rfl rfl rfl dX12_goesOn_102 ?_
    refine go_aload_n K dX12_goesOn_105 0 rfl rfl ?_
    obtain ⟨O33, e33, h⟩ := bnd_e h
    refine go_cVV K (c_X12_next l G _ _ _ e33) cf_X12_next cv_X12_next km_X12_236 rv_X12 (by decide) rfl rfl (Nat.le_of_ble_eq_true rfl) dX12_goesOn_106 ?_
    refine go_aload_n K dX12_goesOn_109 0 rfl rfl ?_
    obtain ⟨O34, e34, h⟩ := bnd_e h
    refine go_cVV K (c_X12_oneIsOver l G _ _ _ e34) cf_X12_oneIsOver cv_X12_oneIsOver km_X12_265 rv_X12 (by decide) rfl rfl (Nat.le_of_ble_eq_true rfl) dX12_goesOn_110 ?_
    refine go_goto (tgt := 351) K dX12_goesOn_113 (by decide) ?_
    exact go_vret K hr (congrArg (fun z => (C, z)) (Option.some.inj h)) dX12_goesOn_351
  have hj49 : ∀ (O : OM), X12_goesOn_j49 O = some O' → GO pM l eM (6) sM mM aM bM meM cM (MQ bM (va_Qv (fun (u : CM × OM) => u = (C, O')) (wB G) (Fr G)) aM sM 0 0 (Fr G)) G 3 (C, O) 49 [(0, .ref (gB G + 446))] [] := by
    intro O h
    rw [X12_goesOn_j49] at h
    refine go_aload_n K dX12_goesOn_49 0 rfl rfl ?_
    refine go_aload_n K dX12_goesOn_50 0 rfl rfl ?_
    refine gf_X12 K 18 (by decide) kf_X12_211 (v := .int (O.1 446 18)) rfl dX12_goesOn_51 ?_
    obtain ⟨O36, e36, h⟩ := bnd_e h
    refine go_cVV K (c_X12_waitsFor l G _ _ _ _ e36) cf_X12_waitsFor cv_X12_waitsFor km_X12_284 rv_X12 (by decide) rfl rfl (Nat.le_of_ble_eq_true rfl) dX12_goesOn_54 ?_
    refine go_aload_n K dX12_goesOn_57 0 rfl rfl ?_
    refine go_iconst (v := (1 : Int32)) K dX12_goesOn_58 (by decide) ?_
    refine pf_X12 K 28 (by decide) kf_X12_258 rfl rfl rfl dX12_goesOn_59 ?_
    refine go_goto (tgt := 351) K dX12_goesOn_62 (by decide) ?_
    exact go_vret K hr (congrArg (fun z => (C, z)) (Option.some.inj h)) dX12_goesOn_351
  rw [f_X12_goesOn] at h
  refine go_aload_n K dX12_goesOn_0 0 rfl rfl ?_
  obtain ⟨r1, e1, h⟩ := bnd_e h
  refine go_cVI K (c_X12_top l G _ _ _ e1) cf_X12_top cv_X12_top km_X12_278 rv_X12 (by decide) rfl rfl (Nat.le_of_ble_eq_true rfl) dX12_goesOn_1 ?_
  refine go_istore_n K dX12_goesOn_4 rfl (by decide) (lv' := [(1, .int r1), (0, .ref (gB G + 446))]) rfl ?_
  refine go_aload_n K dX12_goesOn_5 1 rfl rfl ?_
  refine gf_X12 K 17 (by decide) kf_X12_199 (v := .int (O.1 446 17)) rfl dX12_goesOn_6 ?_
  refine go_iconst (v := (3 : Int32)) K dX12_goesOn_9 (by decide) ?_
  refine go_icmp_ne (tgt := 65) K dX12_goesOn_10 (by decide) (fun c2 => ?_) (fun c2 => ?_)
  · replace h := ite_f h c2
    exact go_sub [1, 0] rfl (hj65 _ _ h)
  replace h := ite_t h c2
  refine go_aload_n K dX12_goesOn_13 1 rfl rfl ?_
  refine gf_X12 K 18 (by decide) kf_X12_211 (v := .int (O.1 446 18)) rfl dX12_goesOn_14 ?_
  refine go_bipush (v := (43 : Int32)) K dX12_goesOn_17 (by decide) ?_
  refine go_icmp_eq (tgt := 49) K dX12_goesOn_19 (by decide) (fun c35 => ?_) (fun c35 => ?_)
  · replace h := ite_t h c35
    exact go_sub [1] rfl (hj49 _ h)
  replace h := ite_f h c35
  refine go_aload_n K dX12_goesOn_22 1 rfl rfl ?_
  refine gf_X12 K 18 (by decide) kf_X12_211 (v := .int (O.1 446 18)) rfl dX12_goesOn_23 ?_
  refine go_bipush (v := (45 : Int32)) K dX12_goesOn_26 (by decide) ?_
  refine go_icmp_eq (tgt := 49) K dX12_goesOn_28 (by decide) (fun c37 => ?_) (fun c37 => ?_)
  · replace h := ite_t h c37
    exact go_sub [1] rfl (hj49 _ h)
  replace h := ite_f h c37
  refine go_aload_n K dX12_goesOn_31 1 rfl rfl ?_
  refine gf_X12 K 18 (by decide) kf_X12_211 (v := .int (O.1 446 18)) rfl dX12_goesOn_32 ?_
  refine go_bipush (v := (42 : Int32)) K dX12_goesOn_35 (by decide) ?_
  refine go_icmp_eq (tgt := 49) K dX12_goesOn_37 (by decide) (fun c38 => ?_) (fun c38 => ?_)
  · replace h := ite_t h c38
    exact go_sub [1] rfl (hj49 _ h)
  replace h := ite_f h c38
  refine go_aload_n K dX12_goesOn_40 1 rfl rfl ?_
  refine gf_X12 K 18 (by decide) kf_X12_211 (v := .int (O.1 446 18)) rfl dX12_goesOn_41 ?_
  refine go_bipush (v := (47 : Int32)) K dX12_goesOn_44 (by decide) ?_
  refine go_icmp_ne (tgt := 65) K dX12_goesOn_46 (by decide) (fun c39 => ?_) (fun c39 => ?_)
  · replace h := ite_f h c39
    exact go_sub [1, 0] rfl (hj65 _ _ h)
  replace h := ite_t h c39
  exact go_sub [1] rfl (hj49 _ h)
noncomputable def X12_asksOn_j37 (t0 : Int32) (O : OM) : Option OM := (bnd (f_X12_waitsFor t0 O) (fun O3 => (some (oup O3 446 28 (0 : Int32)))))
noncomputable def X12_asksOn_j18 (O : OM) : Option OM := (if (f_X12_isWord (17 : Int32) O) = 0 then (X12_asksOn_j37 (406 : Int32) O) else (X12_asksOn_j37 (407 : Int32) O))
noncomputable def X12_asksOn_j82 (O : OM) : Option OM := (bnd (f_X12_errs (1 : Int32) O) (fun O7 => (some O7)))
noncomputable def f_X12_asksOn (O : OM) : Option OM := (if (f_X12_isWord (17 : Int32) O) = 0 then (if (f_X12_isWord (16 : Int32) O) = 0 then (bnd (f_X12_top O) (fun r5 => (if r5 = (2 : Int32) then (if (f_X12_isWord (21 : Int32) O) = 0 then (X12_asksOn_j82 O) else (bnd (f_X12_works (1 : Int32) O) (fun O9 => (bnd (f_X12_turnsTo (8 : Int32) (404 : Int32) O9) (fun O10 => (some O10)))))) else (X12_asksOn_j82 O)))) else (X12_asksOn_j18 O)) else (X12_asksOn_j18 O))
theorem cf_X12_asksOn : CF yX12_asksOn cX12_asksOn 1 (Option.none : Option Jvm.ClassFile.FieldType) 0 := ⟨kc_X12_asksOn, kj_X12, ⟨by decide +kernel, by decide +kernel, by decide +kernel⟩, by decide⟩
theorem cv_X12_asksOn : CFv yX12_asksOn := ⟨ki_X12_asksOn, ks_X12_asksOn⟩
set_option maxHeartbeats 4000000 in
set_option maxRecDepth 100000 in
theorem c_X12_asksOn (l : Launch) (G : GT) (C : CM) (O : OM) (O' : OM) (h : f_X12_asksOn O = some O') : MV l G yX12_asksOn cX12_asksOn 1 (Option.none : Option Jvm.ClassFile.FieldType) (5) [.ref (gB G + 446)] (C, O) (C, O') := by
  unfold MV
  refine met_in RX12 (by decide +kernel) rfl [(0, .ref (gB G + 446))] rfl (Nat.le_of_ble_eq_true rfl) ?_
  intro pM eM sM mM aM bM meM cM K hr
  have hj37 : ∀ (t0 : Int32) (O : OM), X12_asksOn_j37 t0 O = some O' → GO pM l eM (5) sM mM aM bM meM cM (MQ bM (va_Qv (fun (u : CM × OM) => u = (C, O')) (wB G) (Fr G)) aM sM 0 0 (Fr G)) G 1 (C, O) 37 [(0, .ref (gB G + 446))] [.int t0, .ref (gB G + 446)] := by
    intro t0 O h
    rw [X12_asksOn_j37] at h
    obtain ⟨O3, e3, h⟩ := bnd_e h
    refine go_cVV K (c_X12_waitsFor l G _ _ _ _ e3) cf_X12_waitsFor cv_X12_waitsFor km_X12_284 rv_X12 (by decide) rfl rfl (Nat.le_of_ble_eq_true rfl) dX12_asksOn_37 ?_
    refine go_aload_n K dX12_asksOn_40 0 rfl rfl ?_
    refine go_iconst (v := (0 : Int32)) K dX12_asksOn_41 (by decide) ?_
    refine pf_X12 K 28 (by decide) kf_X12_258 rfl rfl rfl dX12_asksOn_42 ?_
    refine go_goto (tgt := 87) K dX12_asksOn_45 (by decide) ?_
    exact go_vret K hr (congrArg (fun z => (C, z)) (Option.some.inj h)) dX12_asksOn_87
  have hj18 : ∀ (O : OM), X12_asksOn_j18 O = some O' → GO pM l eM (5) sM mM aM bM meM cM (MQ bM (va_Qv (fun (u : CM × OM) => u = (C, O')) (wB G) (Fr G)) aM sM 0 0 (Fr G)) G 1 (C, O) 18 [(0, .ref (gB G + 446))] [] := by
    intro O h
    rw [X12_asksOn_j18] at h
    refine go_aload_n K dX12_asksOn_18 0 rfl rfl ?_
    refine go_aload_n K dX12_asksOn_19 0 rfl rfl ?_
    refine go_bipush (v := (17 : Int32)) K dX12_asksOn_20 (by decide) ?_
    refine go_cVI K (c_X12_isWord l G _ _ _ _ rfl) cf_X12_isWord cv_X12_isWord km_X12_252 rv_X12 (by decide) rfl rfl (Nat.le_of_ble_eq_true rfl) dX12_asksOn_22 ?_
    refine go_if_eq (tgt := 34) K dX12_asksOn_25 (by decide) (fun c2 => ?_) (fun c2 => ?_)
    · replace h := ite_t h c2
      refine go_sipush (v := (406 : Int32)) K dX12_asksOn_34 (by decide) ?_
      exact hj37 _ _ h
    replace h := ite_f h c2
    refine go_sipush (v := (407 : Int32)) K dX12_asksOn_28 (by decide) ?_
    refine go_goto (tgt := 37) K dX12_asksOn_31 (by decide) ?_
    exact hj37 _ _ h
  have hj82 : ∀ (O : OM), X12_asksOn_j82 O = some O' → GO pM l eM (5) sM mM aM bM meM cM (MQ bM (va_Qv (fun (u : CM × OM) => u = (C, O')) (wB G) (Fr G)) aM sM 0 0 (Fr G)) G 1 (C, O) 82 [(0, .ref (gB G + 446))] [] := by
    intro O h
    rw [X12_asksOn_j82] at h
    refine go_aload_n K dX12_asksOn_82 0 rfl rfl ?_
    refine go_iconst (v := (1 : Int32)) K dX12_asksOn_83 (by decide) ?_
    obtain ⟨O7, e7, h⟩ := bnd_e h
    refine go_cVV K (c_X12_errs l G _ _ _ _ e7) cf_X12_errs cv_X12_errs km_X12_230 rv_X12 (by decide) rfl rfl (Nat.le_of_ble_eq_true rfl) dX12_asksOn_84 ?_
    exact go_vret K hr (congrArg (fun z => (C, z)) (Option.some.inj h)) dX12_asksOn_87
  rw [f_X12_asksOn] at h
  refine go_aload_n K dX12_asksOn_0 0 rfl rfl ?_
  refine go_bipush (v := (17 : Int32)) K dX12_asksOn_1 (by decide) ?_
  refine go_cVI K (c_X12_isWord l G _ _ _ _ rfl) cf_X12_isWord cv_X12_isWord km_X12_252 rv_X12 (by decide) rfl rfl (Nat.le_of_ble_eq_true rfl) dX12_asksOn_3 ?_
  refine go_if_ne (tgt := 18) K dX12_asksOn_6 (by decide) (fun c1 => ?_) (fun c1 => ?_)
  · replace h := ite_f h c1
    exact hj18 _ h
  replace h := ite_t h c1
  refine go_aload_n K dX12_asksOn_9 0 rfl rfl ?_
  refine go_bipush (v := (16 : Int32)) K dX12_asksOn_10 (by decide) ?_
  refine go_cVI K (c_X12_isWord l G _ _ _ _ rfl) cf_X12_isWord cv_X12_isWord km_X12_252 rv_X12 (by decide) rfl rfl (Nat.le_of_ble_eq_true rfl) dX12_asksOn_12 ?_
  refine go_if_eq (tgt := 48) K dX12_asksOn_15 (by decide) (fun c4 => ?_) (fun c4 => ?_)
  rotate_left
  · replace h := ite_f h c4
    exact hj18 _ h
  replace h := ite_t h c4
  refine go_aload_n K dX12_asksOn_48 0 rfl rfl ?_
  obtain ⟨r5, e5, h⟩ := bnd_e h
  refine go_cVI K (c_X12_top l G _ _ _ e5) cf_X12_top cv_X12_top km_X12_278 rv_X12 (by decide) rfl rfl (Nat.le_of_ble_eq_true rfl) dX12_asksOn_49 ?_
  refine go_iconst (v := (2 : Int32)) K dX12_asksOn_52 (by decide) ?_
  refine go_icmp_ne (tgt := 82) K dX12_asksOn_53 (by decide) (fun c6 => ?_) (fun c6 => ?_)
  · replace h := ite_f h c6
    exact hj82 _ h
  replace h := ite_t h c6
  refine go_aload_n K dX12_asksOn_56 0 rfl rfl ?_
  refine go_bipush (v := (21 : Int32)) K dX12_asksOn_57 (by decide) ?_
  refine go_cVI K (c_X12_isWord l G _ _ _ _ rfl) cf_X12_isWord cv_X12_isWord km_X12_252 rv_X12 (by decide) rfl rfl (Nat.le_of_ble_eq_true rfl) dX12_asksOn_59 ?_
  refine go_if_eq (tgt := 82) K dX12_asksOn_62 (by decide) (fun c8 => ?_) (fun c8 => ?_)
  · replace h := ite_t h c8
    exact hj82 _ h
  replace h := ite_f h c8
  refine go_aload_n K dX12_asksOn_65 0 rfl rfl ?_
  refine go_iconst (v := (1 : Int32)) K dX12_asksOn_66 (by decide) ?_
  obtain ⟨O9, e9, h⟩ := bnd_e h
  refine go_cVV K (c_X12_works l G _ _ _ _ e9) cf_X12_works cv_X12_works km_X12_249 rv_X12 (by decide) rfl rfl (Nat.le_of_ble_eq_true rfl) dX12_asksOn_67 ?_
  refine go_aload_n K dX12_asksOn_70 0 rfl rfl ?_
  refine go_bipush (v := (8 : Int32)) K dX12_asksOn_71 (by decide) ?_
  refine go_sipush (v := (404 : Int32)) K dX12_asksOn_73 (by decide) ?_
  obtain ⟨O10, e10, h⟩ := bnd_e h
  refine go_cVV K (c_X12_turnsTo l G _ _ _ _ _ e10) cf_X12_turnsTo cv_X12_turnsTo km_X12_287 rv_X12 (by decide) rfl rfl (Nat.le_of_ble_eq_true rfl) dX12_asksOn_76 ?_
  refine go_goto (tgt := 87) K dX12_asksOn_79 (by decide) ?_
  exact go_vret K hr (congrArg (fun z => (C, z)) (Option.some.inj h)) dX12_asksOn_87
noncomputable def X12_number_j15 (v1 : Int32) (O : OM) : Option (Int32 × OM) := (bnd (f_X12_errs (1 : Int32) O) (fun O2 => (some (v1, O2))))
noncomputable def f_X12_number (v1 : Int32) (v2 : Int32) (O : OM) : Option (Int32 × OM) := (if 0 < (O.1 446 19) then (X12_number_j15 v1 O) else (if (O.1 446 17) = (2 : Int32) then (if (f_X12_in (O.1 446 18) v1 v2) = 0 then (bnd (f_X12_errs (2 : Int32) O) (fun O6 => (some (v1, O6)))) else (bnd (f_X12_next O) (fun O5 => (some ((O.1 446 18), O5))))) else (X12_number_j15 v1 O)))
theorem cf_X12_number : CF yX12_number cX12_number 4 (Option.some Jvm.ClassFile.FieldType.int) 2 := ⟨kc_X12_number, kj_X12, ⟨by decide +kernel, by decide +kernel, by decide +kernel⟩, by decide⟩
theorem cv_X12_number : CFv yX12_number := ⟨ki_X12_number, ks_X12_number⟩
set_option maxHeartbeats 4000000 in
set_option maxRecDepth 100000 in
theorem c_X12_number (l : Launch) (G : GT) (v1 : Int32) (v2 : Int32) (C : CM) (O : OM) (res : Int32) (O' : OM) (h : f_X12_number v1 v2 O = some (res, O')) : MI l G yX12_number cX12_number 4 (Option.some Jvm.ClassFile.FieldType.int) (4) [.ref (gB G + 446), .int v1, .int v2] (C, O) res (C, O') := by
  unfold MI
  refine met_in RX12 (by decide +kernel) rfl [(0, .ref (gB G + 446)), (1, .int v1), (2, .int v2)] rfl (Nat.le_of_ble_eq_true rfl) ?_
  intro pM eM sM mM aM bM meM cM K hr
  have hj15 : ∀ (v1 : Int32) (O : OM), X12_number_j15 v1 O = some (res, O') → GO pM l eM (4) sM mM aM bM meM cM (MQ bM (va_Qi (fun (r' : Int32) (u : CM × OM) => r' = res ∧ u = (C, O')) (wB G) (Fr G)) aM sM 0 0 (Fr G)) G 4 (C, O) 15 [(0, .ref (gB G + 446)), (1, .int v1)] [] := by
    intro v1 O h
    rw [X12_number_j15] at h
    refine go_aload_n K dX12_number_15 0 rfl rfl ?_
    refine go_iconst (v := (1 : Int32)) K dX12_number_16 (by decide) ?_
    obtain ⟨O2, e2, h⟩ := bnd_e h
    refine go_cVV K (c_X12_errs l G _ _ _ _ e2) cf_X12_errs cv_X12_errs km_X12_230 rv_X12 (by decide) rfl rfl (Nat.le_of_ble_eq_true rfl) dX12_number_17 ?_
    refine go_iload_n K dX12_number_20 1 rfl rfl ?_
    exact go_iret K hr (Prod.mk.inj (Option.some.inj h)).1 (congrArg (fun z => (C, z)) (Prod.mk.inj (Option.some.inj h)).2) dX12_number_21
  rw [f_X12_number] at h
  refine go_aload_n K dX12_number_0 0 rfl rfl ?_
  refine gf_X12 K 19 (by decide) kf_X12_215 (v := .int (O.1 446 19)) rfl dX12_number_1 ?_
  refine go_if_gt (tgt := 15) K dX12_number_4 (by decide) (fun c1 => ?_) (fun c1 => ?_)
  · replace h := ite_t h c1
    exact go_sub [0, 1] rfl (hj15 _ _ h)
  replace h := ite_f h c1
  refine go_aload_n K dX12_number_7 0 rfl rfl ?_
  refine gf_X12 K 17 (by decide) kf_X12_199 (v := .int (O.1 446 17)) rfl dX12_number_8 ?_
  refine go_iconst (v := (2 : Int32)) K dX12_number_11 (by decide) ?_
  refine go_icmp_eq (tgt := 22) K dX12_number_12 (by decide) (fun c3 => ?_) (fun c3 => ?_)
  rotate_left
  · replace h := ite_f h c3
    exact go_sub [0, 1] rfl (hj15 _ _ h)
  replace h := ite_t h c3
  refine go_aload_n K dX12_number_22 0 rfl rfl ?_
  refine gf_X12 K 18 (by decide) kf_X12_211 (v := .int (O.1 446 18)) rfl dX12_number_23 ?_
  refine go_iload_n K dX12_number_26 1 rfl rfl ?_
  refine go_iload_n K dX12_number_27 2 rfl rfl ?_
  refine go_cSI K (c_X12_in l G _ _ _ _ _ _ rfl) cf_X12_in kt_X12_in km_X12_107 (by decide) rfl rfl (Nat.le_of_ble_eq_true rfl) dX12_number_28 ?_
  refine go_if_ne (tgt := 41) K dX12_number_31 (by decide) (fun c4 => ?_) (fun c4 => ?_)
  rotate_left
  · replace h := ite_t h c4
    refine go_aload_n K dX12_number_34 0 rfl rfl ?_
    refine go_iconst (v := (2 : Int32)) K dX12_number_35 (by decide) ?_
    obtain ⟨O6, e6, h⟩ := bnd_e h
    refine go_cVV K (c_X12_errs l G _ _ _ _ e6) cf_X12_errs cv_X12_errs km_X12_230 rv_X12 (by decide) rfl rfl (Nat.le_of_ble_eq_true rfl) dX12_number_36 ?_
    refine go_iload_n K dX12_number_39 1 rfl rfl ?_
    exact go_iret K hr (Prod.mk.inj (Option.some.inj h)).1 (congrArg (fun z => (C, z)) (Prod.mk.inj (Option.some.inj h)).2) dX12_number_40
  replace h := ite_f h c4
  refine go_aload_n K dX12_number_41 0 rfl rfl ?_
  refine gf_X12 K 18 (by decide) kf_X12_211 (v := .int (O.1 446 18)) rfl dX12_number_42 ?_
  refine go_istore_n K dX12_number_45 rfl (by decide) (lv' := [(3, .int (O.1 446 18)), (0, .ref (gB G + 446)), (1, .int v1), (2, .int v2)]) rfl ?_
  refine go_aload_n K dX12_number_46 1 rfl rfl ?_
  obtain ⟨O5, e5, h⟩ := bnd_e h
  refine go_cVV K (c_X12_next l G _ _ _ e5) cf_X12_next cv_X12_next km_X12_236 rv_X12 (by decide) rfl rfl (Nat.le_of_ble_eq_true rfl) dX12_number_47 ?_
  refine go_iload_n K dX12_number_50 0 rfl rfl ?_
  exact go_iret K hr (Prod.mk.inj (Option.some.inj h)).1 (congrArg (fun z => (C, z)) (Prod.mk.inj (Option.some.inj h)).2) dX12_number_51
noncomputable def X12_wasTold_j31 (rc : Int32 → Int32 → Int32 → OM → Option Int32) (v1 : Int32) (v3 : Int32) (t0 : Int32) (O : OM) : Option Int32 := (rc v1 t0 (v3 + (1 : Int32)) O)
noncomputable def X12_wasTold_j26 (rc : Int32 → Int32 → Int32 → OM → Option Int32) (v1 : Int32) (v3 : Int32) (O : OM) : Option Int32 := (X12_wasTold_j31 rc v1 v3 (1 : Int32) O)
noncomputable def X12_wasTold_l4 : Nat → Int32 → Int32 → Int32 → OM → Option Int32
  | 0, _, _, _, _ => none
  | n + 1, v1, v2, v3, O => (if (O.1 446 30) ≤ v3 then (gd (v2 = 0 ∨ v2 = 1) (some v2)) else (if v2 = 0 then (gd (inb v3 24) (if (O.1 463 v3.toNatClampNeg) = v1 then (X12_wasTold_j26 (fun v1 v2 v3 O => X12_wasTold_l4 n v1 v2 v3 O) v1 v3 O) else (X12_wasTold_j31 (fun v1 v2 v3 O => X12_wasTold_l4 n v1 v2 v3 O) v1 v3 (0 : Int32) O))) else (X12_wasTold_j26 (fun v1 v2 v3 O => X12_wasTold_l4 n v1 v2 v3 O) v1 v3 O)))
noncomputable def f_X12_wasTold (v1 : Int32) (O : OM) : Option Int32 := (X12_wasTold_l4 FU v1 (0 : Int32) (0 : Int32) O)
theorem cf_X12_wasTold : CF yX12_wasTold cX12_wasTold 4 (Option.some Jvm.ClassFile.FieldType.boolean) 1 := ⟨kc_X12_wasTold, kj_X12, ⟨by decide +kernel, by decide +kernel, by decide +kernel⟩, by decide⟩
theorem cv_X12_wasTold : CFv yX12_wasTold := ⟨ki_X12_wasTold, ks_X12_wasTold⟩
set_option maxHeartbeats 4000000 in
set_option maxRecDepth 100000 in
theorem c_X12_wasTold (l : Launch) (G : GT) (v1 : Int32) (C : CM) (O : OM) (res : Int32) (h : f_X12_wasTold v1 O = some res) : MI l G yX12_wasTold cX12_wasTold 4 (Option.some Jvm.ClassFile.FieldType.boolean) (1) [.ref (gB G + 446), .int v1] (C, O) res (C, O) := by
  unfold MI
  refine met_in RX12 (by decide +kernel) rfl [(0, .ref (gB G + 446)), (1, .int v1)] rfl (Nat.le_of_ble_eq_true rfl) ?_
  intro pM eM sM mM aM bM meM cM K hr
  have hl4 : ∀ (n4 : Nat) (v1 : Int32) (v2 : Int32) (v3 : Int32), X12_wasTold_l4 n4 v1 v2 v3 O = some res → GO pM l eM (1) sM mM aM bM meM cM (MQ bM (va_Qi (fun (r' : Int32) (u : CM × OM) => r' = res ∧ u = (C, O)) (wB G) (Fr G)) aM sM 0 0 (Fr G)) G 4 (C, O) 4 [(0, .ref (gB G + 446)), (1, .int v1), (2, .int v2), (3, .int v3)] [] := by
    intro n4
    induction n4 with
    | zero =>
      intro v1 v2 v3 h
      rw [X12_wasTold_l4] at h
      cases h
    | succ n4 ih4 =>
      have hj31 : ∀ (v1 : Int32) (v3 : Int32) (t0 : Int32), X12_wasTold_j31 (fun v1 v2 v3 O => X12_wasTold_l4 n4 v1 v2 v3 O) v1 v3 t0 O = some res → GO pM l eM (1) sM mM aM bM meM cM (MQ bM (va_Qi (fun (r' : Int32) (u : CM × OM) => r' = res ∧ u = (C, O)) (wB G) (Fr G)) aM sM 0 0 (Fr G)) G 4 (C, O) 31 [(0, .ref (gB G + 446)), (1, .int v1), (3, .int v3)] [.int t0] := by
        intro v1 v3 t0 h
        rw [X12_wasTold_j31] at h
        refine go_istore_n K dX12_wasTold_31 rfl (by decide) (lv' := [(2, .int t0), (0, .ref (gB G + 446)), (1, .int v1), (3, .int v3)]) rfl ?_
        refine go_iinc K dX12_wasTold_32 3 rfl (v := (v3 + (1 : Int32))) rfl (by decide) (lv' := [(3, .int (v3 + (1 : Int32))), (2, .int t0), (0, .ref (gB G + 446)), (1, .int v1)]) rfl ?_
        refine go_goto (tgt := 4) K dX12_wasTold_35 (by decide) ?_
        exact go_sub [2, 3, 1, 0] rfl (ih4 _ _ _ h)
      have hj26 : ∀ (v1 : Int32) (v3 : Int32), X12_wasTold_j26 (fun v1 v2 v3 O => X12_wasTold_l4 n4 v1 v2 v3 O) v1 v3 O = some res → GO pM l eM (1) sM mM aM bM meM cM (MQ bM (va_Qi (fun (r' : Int32) (u : CM × OM) => r' = res ∧ u = (C, O)) (wB G) (Fr G)) aM sM 0 0 (Fr G)) G 4 (C, O) 26 [(0, .ref (gB G + 446)), (1, .int v1), (3, .int v3)] [] := by
        intro v1 v3 h
        rw [X12_wasTold_j26] at h
        refine go_iconst (v := (1 : Int32)) K dX12_wasTold_26 (by decide) ?_
        refine go_goto (tgt := 31) K dX12_wasTold_27 (by decide) ?_
        exact hj31 _ _ _ h
      intro v1 v2 v3 h
      rw [X12_wasTold_l4] at h
      refine go_iload_n K dX12_wasTold_4 3 rfl rfl ?_
      refine go_aload_n K dX12_wasTold_5 0 rfl rfl ?_
      refine gf_X12 K 30 (by decide) kf_X12_299 (v := .int (O.1 446 30)) rfl dX12_wasTold_6 ?_
      refine go_icmp_ge (tgt := 38) K dX12_wasTold_9 (by decide) (fun c1 => ?_) (fun c1 => ?_)
      · replace h := ite_t h c1
        refine go_iload_n K dX12_wasTold_38 2 rfl rfl ?_
        obtain ⟨g2, h⟩ := gd_e h
        exact go_zret K hr (narrow_z g2) (Option.some.inj h) rfl dX12_wasTold_39
      replace h := ite_f h c1
      refine go_iload_n K dX12_wasTold_12 2 rfl rfl ?_
      refine go_if_ne (tgt := 26) K dX12_wasTold_13 (by decide) (fun c3 => ?_) (fun c3 => ?_)
      · replace h := ite_f h c3
        exact go_sub [0, 1, 3] rfl (hj26 _ _ h)
      replace h := ite_t h c3
      refine go_aload_n K dX12_wasTold_16 0 rfl rfl ?_
      refine gf_X12 K 32 (by decide) kf_X12_66 (v := .ref (gB G + 463)) rfl dX12_wasTold_17 ?_
      refine go_iload_n K dX12_wasTold_20 3 rfl rfl ?_
      obtain ⟨g4, h⟩ := gd_e h
      refine go_mald K (Nat.le_of_ble_eq_true rfl) sh_463 g4 rfl dX12_wasTold_21 ?_
      refine go_iload_n K dX12_wasTold_22 1 rfl rfl ?_
      refine go_icmp_ne (tgt := 30) K dX12_wasTold_23 (by decide) (fun c5 => ?_) (fun c5 => ?_)
      rotate_left
      · replace h := ite_t h c5
        exact go_sub [0, 1, 3] rfl (hj26 _ _ h)
      replace h := ite_f h c5
      refine go_iconst (v := (0 : Int32)) K dX12_wasTold_30 (by decide) ?_
      exact go_sub [0, 1, 3] rfl (hj31 _ _ _ h)
  rw [f_X12_wasTold] at h
  refine go_iconst (v := (0 : Int32)) K dX12_wasTold_0 (by decide) ?_
  refine go_istore_n K dX12_wasTold_1 rfl (by decide) (lv' := [(2, .int (0 : Int32)), (0, .ref (gB G + 446)), (1, .int v1)]) rfl ?_
  refine go_iconst (v := (0 : Int32)) K dX12_wasTold_2 (by decide) ?_
  refine go_istore_n K dX12_wasTold_3 rfl (by decide) (lv' := [(3, .int (0 : Int32)), (2, .int (0 : Int32)), (0, .ref (gB G + 446)), (1, .int v1)]) rfl ?_
  exact go_sub [2, 3, 1, 0] rfl (hl4 FU _ _ _ h)
noncomputable def X12_numberBehind_j31 (v2 : Int32) (v3 : Int32) (O : OM) : Option (Int32 × OM) := (bnd2 (f_X12_number v2 v3 O) (fun r3 O3 => (some (r3, O3))))
noncomputable def X12_numberBehind_j20 (v2 : Int32) (v3 : Int32) (O : OM) : Option (Int32 × OM) := (if (O.1 446 19) = 0 then (bnd (f_X12_next O) (fun O4 => (X12_numberBehind_j31 v2 v3 O4))) else (X12_numberBehind_j31 v2 v3 O))
noncomputable def f_X12_numberBehind (v1 : Int32) (v2 : Int32) (v3 : Int32) (O : OM) : Option (Int32 × OM) := (if (O.1 446 19) = 0 then (if (f_X12_isWord v1 O) = 0 then (bnd (f_X12_errs (1 : Int32) O) (fun O6 => (X12_numberBehind_j20 v2 v3 O6))) else (X12_numberBehind_j20 v2 v3 O)) else (X12_numberBehind_j20 v2 v3 O))
theorem cf_X12_numberBehind : CF yX12_numberBehind cX12_numberBehind 4 (Option.some Jvm.ClassFile.FieldType.int) 3 := ⟨kc_X12_numberBehind, kj_X12, ⟨by decide +kernel, by decide +kernel, by decide +kernel⟩, by decide⟩
theorem cv_X12_numberBehind : CFv yX12_numberBehind := ⟨ki_X12_numberBehind, ks_X12_numberBehind⟩
set_option maxHeartbeats 4000000 in
set_option maxRecDepth 100000 in
theorem c_X12_numberBehind (l : Launch) (G : GT) (v1 : Int32) (v2 : Int32) (v3 : Int32) (C : CM) (O : OM) (res : Int32) (O' : OM) (h : f_X12_numberBehind v1 v2 v3 O = some (res, O')) : MI l G yX12_numberBehind cX12_numberBehind 4 (Option.some Jvm.ClassFile.FieldType.int) (5) [.ref (gB G + 446), .int v1, .int v2, .int v3] (C, O) res (C, O') := by
  unfold MI
  refine met_in RX12 (by decide +kernel) rfl [(0, .ref (gB G + 446)), (1, .int v1), (2, .int v2), (3, .int v3)] rfl (Nat.le_of_ble_eq_true rfl) ?_
  intro pM eM sM mM aM bM meM cM K hr
  have hj31 : ∀ (v2 : Int32) (v3 : Int32) (O : OM), X12_numberBehind_j31 v2 v3 O = some (res, O') → GO pM l eM (5) sM mM aM bM meM cM (MQ bM (va_Qi (fun (r' : Int32) (u : CM × OM) => r' = res ∧ u = (C, O')) (wB G) (Fr G)) aM sM 0 0 (Fr G)) G 4 (C, O) 31 [(0, .ref (gB G + 446)), (2, .int v2), (3, .int v3)] [] := by
    intro v2 v3 O h
    rw [X12_numberBehind_j31] at h
    refine go_aload_n K dX12_numberBehind_31 0 rfl rfl ?_
    refine go_iload_n K dX12_numberBehind_32 1 rfl rfl ?_
    refine go_iload_n K dX12_numberBehind_33 2 rfl rfl ?_
    obtain ⟨r3, O3, e3, h⟩ := bnd2_e h
    refine go_cVI K (c_X12_number l G _ _ _ _ _ _ e3) cf_X12_number cv_X12_number km_X12_302 rv_X12 (by decide) rfl rfl (Nat.le_of_ble_eq_true rfl) dX12_numberBehind_34 ?_
    exact go_iret K hr (Prod.mk.inj (Option.some.inj h)).1 (congrArg (fun z => (C, z)) (Prod.mk.inj (Option.some.inj h)).2) dX12_numberBehind_37
  have hj20 : ∀ (v2 : Int32) (v3 : Int32) (O : OM), X12_numberBehind_j20 v2 v3 O = some (res, O') → GO pM l eM (5) sM mM aM bM meM cM (MQ bM (va_Qi (fun (r' : Int32) (u : CM × OM) => r' = res ∧ u = (C, O')) (wB G) (Fr G)) aM sM 0 0 (Fr G)) G 4 (C, O) 20 [(0, .ref (gB G + 446)), (2, .int v2), (3, .int v3)] [] := by
    intro v2 v3 O h
    rw [X12_numberBehind_j20] at h
    refine go_aload_n K dX12_numberBehind_20 0 rfl rfl ?_
    refine gf_X12 K 19 (by decide) kf_X12_215 (v := .int (O.1 446 19)) rfl dX12_numberBehind_21 ?_
    refine go_if_ne (tgt := 31) K dX12_numberBehind_24 (by decide) (fun c2 => ?_) (fun c2 => ?_)
    · replace h := ite_f h c2
      exact hj31 _ _ _ h
    replace h := ite_t h c2
    refine go_aload_n K dX12_numberBehind_27 0 rfl rfl ?_
    obtain ⟨O4, e4, h⟩ := bnd_e h
    refine go_cVV K (c_X12_next l G _ _ _ e4) cf_X12_next cv_X12_next km_X12_236 rv_X12 (by decide) rfl rfl (Nat.le_of_ble_eq_true rfl) dX12_numberBehind_28 ?_
    exact hj31 _ _ _ h
  rw [f_X12_numberBehind] at h
  refine go_aload_n K dX12_numberBehind_0 0 rfl rfl ?_
  refine gf_X12 K 19 (by decide) kf_X12_215 (v := .int (O.1 446 19)) rfl dX12_numberBehind_1 ?_
  refine go_if_ne (tgt := 20) K dX12_numberBehind_4 (by decide) (fun c1 => ?_) (fun c1 => ?_)
  · replace h := ite_f h c1
    exact go_sub [0, 2, 3] rfl (hj20 _ _ _ h)
  replace h := ite_t h c1
  refine go_aload_n K dX12_numberBehind_7 0 rfl rfl ?_
  refine go_iload_n K dX12_numberBehind_8 1 rfl rfl ?_
  refine go_cVI K (c_X12_isWord l G _ _ _ _ rfl) cf_X12_isWord cv_X12_isWord km_X12_252 rv_X12 (by decide) rfl rfl (Nat.le_of_ble_eq_true rfl) dX12_numberBehind_9 ?_
  refine go_if_ne (tgt := 20) K dX12_numberBehind_12 (by decide) (fun c5 => ?_) (fun c5 => ?_)
  · replace h := ite_f h c5
    exact go_sub [0, 2, 3] rfl (hj20 _ _ _ h)
  replace h := ite_t h c5
  refine go_aload_n K dX12_numberBehind_15 0 rfl rfl ?_
  refine go_iconst (v := (1 : Int32)) K dX12_numberBehind_16 (by decide) ?_
  obtain ⟨O6, e6, h⟩ := bnd_e h
  refine go_cVV K (c_X12_errs l G _ _ _ _ e6) cf_X12_errs cv_X12_errs km_X12_230 rv_X12 (by decide) rfl rfl (Nat.le_of_ble_eq_true rfl) dX12_numberBehind_17 ?_
  exact go_sub [0, 2, 3] rfl (hj20 _ _ _ h)
noncomputable def X12_doing_j193 (v1 : Int32) (v2 : Int32) (v3 : Int32) (O : OM) : Option OM := (gd (inb (O.1 446 30) 24) (gd (inb ((oup O 465 (O.1 446 30).toNatClampNeg v1).1 446 30) 24) (gd (inb ((oup (oup O 465 (O.1 446 30).toNatClampNeg v1) 466 ((oup O 465 (O.1 446 30).toNatClampNeg v1).1 446 30).toNatClampNeg v2).1 446 30) 24) (some (oup (oup (oup O 465 (O.1 446 30).toNatClampNeg v1) 466 ((oup O 465 (O.1 446 30).toNatClampNeg v1).1 446 30).toNatClampNeg v2) 467 ((oup (oup O 465 (O.1 446 30).toNatClampNeg v1) 466 ((oup O 465 (O.1 446 30).toNatClampNeg v1).1 446 30).toNatClampNeg v2).1 446 30).toNatClampNeg v3)))))
noncomputable def f_X12_doing (O : OM) : Option OM := (if (O.1 446 31) = (4 : Int32) then (bnd2 (f_X12_number (0 : Int32) (99 : Int32) O) (fun r2 O2 => (bnd2 (f_X12_numberBehind (12 : Int32) (0 : Int32) (99 : Int32) O2) (fun r3 O3 => (bnd2 (f_X12_numberBehind (13 : Int32) (0 : Int32) (7 : Int32) O3) (fun r4 O4 => (X12_doing_j193 r2 r3 r4 O4))))))) else (if (O.1 446 31) = (5 : Int32) then (bnd2 (f_X12_number (0 : Int32) (6 : Int32) O) (fun r9 O9 => (bnd2 (f_X12_numberBehind (14 : Int32) (0 : Int32) (6 : Int32) O9) (fun r10 O10 => (X12_doing_j193 r9 r10 (-1 : Int32) O10))))) else (if (O.1 446 31) = (6 : Int32) then (bnd2 (f_X12_number (0 : Int32) (6 : Int32) O) (fun r12 O12 => (bnd2 (f_X12_numberBehind (14 : Int32) (0 : Int32) (6 : Int32) O12) (fun r13 O13 => (bnd2 (f_X12_numberBehind (15 : Int32) (0 : Int32) (9999 : Int32) O13) (fun r14 O14 => (X12_doing_j193 r12 r13 r14 O14))))))) else (if (O.1 446 31) = (9 : Int32) then (bnd2 (f_X12_number (0 : Int32) (6 : Int32) O) (fun r16 O16 => (bnd2 (f_X12_numberBehind (16 : Int32) (0 : Int32) (6 : Int32) O16) (fun r17 O17 => (bnd2 (f_X12_numberBehind (16 : Int32) (0 : Int32) (6 : Int32) O17) (fun r18 O18 => (X12_doing_j193 r16 r17 r18 O18))))))) else (if (O.1 446 31) = (10 : Int32) then (X12_doing_j193 (-1 : Int32) (-1 : Int32) (-1 : Int32) O) else (if (O.1 446 31) = (11 : Int32) then (bnd2 (f_X12_number (1 : Int32) (60 : Int32) O) (fun r21 O21 => (X12_doing_j193 r21 (-1 : Int32) (-1 : Int32) O21))) else (bnd2 (f_X12_number (0 : Int32) (6 : Int32) O) (fun r22 O22 => (X12_doing_j193 r22 (-1 : Int32) (-1 : Int32) O22)))))))))
theorem cf_X12_doing : CF yX12_doing cX12_doing 4 (Option.none : Option Jvm.ClassFile.FieldType) 0 := ⟨kc_X12_doing, kj_X12, ⟨by decide +kernel, by decide +kernel, by decide +kernel⟩, by decide⟩
theorem cv_X12_doing : CFv yX12_doing := ⟨ki_X12_doing, ks_X12_doing⟩
set_option maxHeartbeats 4000000 in
set_option maxRecDepth 100000 in
theorem c_X12_doing (l : Launch) (G : GT) (C : CM) (O : OM) (O' : OM) (h : f_X12_doing O = some O') : MV l G yX12_doing cX12_doing 4 (Option.none : Option Jvm.ClassFile.FieldType) (6) [.ref (gB G + 446)] (C, O) (C, O') := by
  unfold MV
  refine met_in RX12 (by decide +kernel) rfl [(0, .ref (gB G + 446))] rfl (Nat.le_of_ble_eq_true rfl) ?_
  intro pM eM sM mM aM bM meM cM K hr
  have hj193 : ∀ (v1 : Int32) (v2 : Int32) (v3 : Int32) (O : OM), X12_doing_j193 v1 v2 v3 O = some O' → GO pM l eM (6) sM mM aM bM meM cM (MQ bM (va_Qv (fun (u : CM × OM) => u = (C, O')) (wB G) (Fr G)) aM sM 0 0 (Fr G)) G 4 (C, O) 193 [(0, .ref (gB G + 446)), (1, .int v1), (2, .int v2), (3, .int v3)] [] := by
    intro v1 v2 v3 O h
    rw [X12_doing_j193] at h
    refine go_aload_n K dX12_doing_193 0 rfl rfl ?_
    refine gf_X12 K 34 (by decide) kf_X12_72 (v := .ref (gB G + 465)) rfl dX12_doing_194 ?_
    refine go_aload_n K dX12_doing_197 0 rfl rfl ?_
    refine gf_X12 K 30 (by decide) kf_X12_299 (v := .int (O.1 446 30)) rfl dX12_doing_198 ?_
    refine go_iload_n K dX12_doing_201 1 rfl rfl ?_
    obtain ⟨g5, h⟩ := gd_e h
    refine go_mast K (Nat.le_of_ble_eq_true rfl) sh_465 g5 rfl dX12_doing_202 ?_
    refine go_aload_n K dX12_doing_203 0 rfl rfl ?_
    refine gf_X12 K 35 (by decide) kf_X12_75 (v := .ref (gB G + 466)) rfl dX12_doing_204 ?_
    refine go_aload_n K dX12_doing_207 0 rfl rfl ?_
    refine gf_X12 K 30 (by decide) kf_X12_299 (v := .int ((oup O 465 (O.1 446 30).toNatClampNeg v1).1 446 30)) rfl dX12_doing_208 ?_
    refine go_iload_n K dX12_doing_211 2 rfl rfl ?_
    obtain ⟨g6, h⟩ := gd_e h
    refine go_mast K (Nat.le_of_ble_eq_true rfl) sh_466 g6 rfl dX12_doing_212 ?_
    refine go_aload_n K dX12_doing_213 0 rfl rfl ?_
    refine gf_X12 K 36 (by decide) kf_X12_78 (v := .ref (gB G + 467)) rfl dX12_doing_214 ?_
    refine go_aload_n K dX12_doing_217 0 rfl rfl ?_
    refine gf_X12 K 30 (by decide) kf_X12_299 (v := .int ((oup (oup O 465 (O.1 446 30).toNatClampNeg v1) 466 ((oup O 465 (O.1 446 30).toNatClampNeg v1).1 446 30).toNatClampNeg v2).1 446 30)) rfl dX12_doing_218 ?_
    refine go_iload_n K dX12_doing_221 3 rfl rfl ?_
    obtain ⟨g7, h⟩ := gd_e h
    refine go_mast K (Nat.le_of_ble_eq_true rfl) sh_467 g7 rfl dX12_doing_222 ?_
    exact go_vret K hr (congrArg (fun z => (C, z)) (Option.some.inj h)) dX12_doing_223
  rw [f_X12_doing] at h
  refine go_iconst (v := (-1 : Int32)) K dX12_doing_0 (by decide) ?_
  refine go_istore_n K dX12_doing_1 rfl (by decide) (lv' := [(1, .int (-1 : Int32)), (0, .ref (gB G + 446))]) rfl ?_
  refine go_iconst (v := (-1 : Int32)) K dX12_doing_2 (by decide) ?_
  refine go_istore_n K dX12_doing_3 rfl (by decide) (lv' := [(2, .int (-1 : Int32)), (1, .int (-1 : Int32)), (0, .ref (gB G + 446))]) rfl ?_
  refine go_iconst (v := (-1 : Int32)) K dX12_doing_4 (by decide) ?_
  refine go_istore_n K dX12_doing_5 rfl (by decide) (lv' := [(3, .int (-1 : Int32)), (2, .int (-1 : Int32)), (1, .int (-1 : Int32)), (0, .ref (gB G + 446))]) rfl ?_
  refine go_aload_n K dX12_doing_6 3 rfl rfl ?_
  refine gf_X12 K 31 (by decide) kf_X12_268 (v := .int (O.1 446 31)) rfl dX12_doing_7 ?_
  by_cases c1 : (O.1 446 31) = (4 : Int32)
  · refine go_tableIn K dX12_doing_10 (by rw [c1]; decide) (by rw [c1]; decide) (off := 46) (by rw [c1]; decide) (tgt := 56) (by decide) ?_
    replace h := ite_t h c1
    refine go_aload_n K dX12_doing_56 3 rfl rfl ?_
    refine go_iconst (v := (0 : Int32)) K dX12_doing_57 (by decide) ?_
    refine go_bipush (v := (99 : Int32)) K dX12_doing_58 (by decide) ?_
    obtain ⟨r2, O2, e2, h⟩ := bnd2_e h
    refine go_cVI K (c_X12_number l G _ _ _ _ _ _ e2) cf_X12_number cv_X12_number km_X12_302 rv_X12 (by decide) rfl rfl (Nat.le_of_ble_eq_true rfl) dX12_doing_60 ?_
    refine go_istore_n K dX12_doing_63 rfl (by decide) (lv' := [(1, .int r2), (3, .int (-1 : Int32)), (2, .int (-1 : Int32)), (0, .ref (gB G + 446))]) rfl ?_
    refine go_aload_n K dX12_doing_64 3 rfl rfl ?_
    refine go_bipush (v := (12 : Int32)) K dX12_doing_65 (by decide) ?_
    refine go_iconst (v := (0 : Int32)) K dX12_doing_67 (by decide) ?_
    refine go_bipush (v := (99 : Int32)) K dX12_doing_68 (by decide) ?_
    obtain ⟨r3, O3, e3, h⟩ := bnd2_e h
    refine go_cVI K (c_X12_numberBehind l G _ _ _ _ _ _ _ e3) cf_X12_numberBehind cv_X12_numberBehind km_X12_306 rv_X12 (by decide) rfl rfl (Nat.le_of_ble_eq_true rfl) dX12_doing_70 ?_
    refine go_istore_n K dX12_doing_73 rfl (by decide) (lv' := [(2, .int r3), (1, .int r2), (3, .int (-1 : Int32)), (0, .ref (gB G + 446))]) rfl ?_
    refine go_aload_n K dX12_doing_74 3 rfl rfl ?_
    refine go_bipush (v := (13 : Int32)) K dX12_doing_75 (by decide) ?_
    refine go_iconst (v := (0 : Int32)) K dX12_doing_77 (by decide) ?_
    refine go_bipush (v := (7 : Int32)) K dX12_doing_78 (by decide) ?_
    obtain ⟨r4, O4, e4, h⟩ := bnd2_e h
    refine go_cVI K (c_X12_numberBehind l G _ _ _ _ _ _ _ e4) cf_X12_numberBehind cv_X12_numberBehind km_X12_306 rv_X12 (by decide) rfl rfl (Nat.le_of_ble_eq_true rfl) dX12_doing_80 ?_
    refine go_istore_n K dX12_doing_83 rfl (by decide) (lv' := [(3, .int r4), (2, .int r3), (1, .int r2), (0, .ref (gB G + 446))]) rfl ?_
    refine go_goto (tgt := 193) K dX12_doing_84 (by decide) ?_
    exact go_sub [3, 2, 1, 0] rfl (hj193 _ _ _ _ h)
  replace h := ite_f h c1
  by_cases c8 : (O.1 446 31) = (5 : Int32)
  · refine go_tableIn K dX12_doing_10 (by rw [c8]; decide) (by rw [c8]; decide) (off := 77) (by rw [c8]; decide) (tgt := 87) (by decide) ?_
    replace h := ite_t h c8
    refine go_aload_n K dX12_doing_87 3 rfl rfl ?_
    refine go_iconst (v := (0 : Int32)) K dX12_doing_88 (by decide) ?_
    refine go_bipush (v := (6 : Int32)) K dX12_doing_89 (by decide) ?_
    obtain ⟨r9, O9, e9, h⟩ := bnd2_e h
    refine go_cVI K (c_X12_number l G _ _ _ _ _ _ e9) cf_X12_number cv_X12_number km_X12_302 rv_X12 (by decide) rfl rfl (Nat.le_of_ble_eq_true rfl) dX12_doing_91 ?_
    refine go_istore_n K dX12_doing_94 rfl (by decide) (lv' := [(1, .int r9), (3, .int (-1 : Int32)), (2, .int (-1 : Int32)), (0, .ref (gB G + 446))]) rfl ?_
    refine go_aload_n K dX12_doing_95 3 rfl rfl ?_
    refine go_bipush (v := (14 : Int32)) K dX12_doing_96 (by decide) ?_
    refine go_iconst (v := (0 : Int32)) K dX12_doing_98 (by decide) ?_
    refine go_bipush (v := (6 : Int32)) K dX12_doing_99 (by decide) ?_
    obtain ⟨r10, O10, e10, h⟩ := bnd2_e h
    refine go_cVI K (c_X12_numberBehind l G _ _ _ _ _ _ _ e10) cf_X12_numberBehind cv_X12_numberBehind km_X12_306 rv_X12 (by decide) rfl rfl (Nat.le_of_ble_eq_true rfl) dX12_doing_101 ?_
    refine go_istore_n K dX12_doing_104 rfl (by decide) (lv' := [(2, .int r10), (1, .int r9), (3, .int (-1 : Int32)), (0, .ref (gB G + 446))]) rfl ?_
    refine go_goto (tgt := 193) K dX12_doing_105 (by decide) ?_
    exact go_sub [3, 1, 0, 2] rfl (hj193 _ _ _ _ h)
  replace h := ite_f h c8
  by_cases c11 : (O.1 446 31) = (6 : Int32)
  · refine go_tableIn K dX12_doing_10 (by rw [c11]; decide) (by rw [c11]; decide) (off := 98) (by rw [c11]; decide) (tgt := 108) (by decide) ?_
    replace h := ite_t h c11
    refine go_aload_n K dX12_doing_108 3 rfl rfl ?_
    refine go_iconst (v := (0 : Int32)) K dX12_doing_109 (by decide) ?_
    refine go_bipush (v := (6 : Int32)) K dX12_doing_110 (by decide) ?_
    obtain ⟨r12, O12, e12, h⟩ := bnd2_e h
    refine go_cVI K (c_X12_number l G _ _ _ _ _ _ e12) cf_X12_number cv_X12_number km_X12_302 rv_X12 (by decide) rfl rfl (Nat.le_of_ble_eq_true rfl) dX12_doing_112 ?_
    refine go_istore_n K dX12_doing_115 rfl (by decide) (lv' := [(1, .int r12), (3, .int (-1 : Int32)), (2, .int (-1 : Int32)), (0, .ref (gB G + 446))]) rfl ?_
    refine go_aload_n K dX12_doing_116 3 rfl rfl ?_
    refine go_bipush (v := (14 : Int32)) K dX12_doing_117 (by decide) ?_
    refine go_iconst (v := (0 : Int32)) K dX12_doing_119 (by decide) ?_
    refine go_bipush (v := (6 : Int32)) K dX12_doing_120 (by decide) ?_
    obtain ⟨r13, O13, e13, h⟩ := bnd2_e h
    refine go_cVI K (c_X12_numberBehind l G _ _ _ _ _ _ _ e13) cf_X12_numberBehind cv_X12_numberBehind km_X12_306 rv_X12 (by decide) rfl rfl (Nat.le_of_ble_eq_true rfl) dX12_doing_122 ?_
    refine go_istore_n K dX12_doing_125 rfl (by decide) (lv' := [(2, .int r13), (1, .int r12), (3, .int (-1 : Int32)), (0, .ref (gB G + 446))]) rfl ?_
    refine go_aload_n K dX12_doing_126 3 rfl rfl ?_
    refine go_bipush (v := (15 : Int32)) K dX12_doing_127 (by decide) ?_
    refine go_iconst (v := (0 : Int32)) K dX12_doing_129 (by decide) ?_
    refine go_sipush (v := (9999 : Int32)) K dX12_doing_130 (by decide) ?_
    obtain ⟨r14, O14, e14, h⟩ := bnd2_e h
    refine go_cVI K (c_X12_numberBehind l G _ _ _ _ _ _ _ e14) cf_X12_numberBehind cv_X12_numberBehind km_X12_306 rv_X12 (by decide) rfl rfl (Nat.le_of_ble_eq_true rfl) dX12_doing_133 ?_
    refine go_istore_n K dX12_doing_136 rfl (by decide) (lv' := [(3, .int r14), (2, .int r13), (1, .int r12), (0, .ref (gB G + 446))]) rfl ?_
    refine go_goto (tgt := 193) K dX12_doing_137 (by decide) ?_
    exact go_sub [3, 2, 1, 0] rfl (hj193 _ _ _ _ h)
  replace h := ite_f h c11
  by_cases c15 : (O.1 446 31) = (9 : Int32)
  · refine go_tableIn K dX12_doing_10 (by rw [c15]; decide) (by rw [c15]; decide) (off := 130) (by rw [c15]; decide) (tgt := 140) (by decide) ?_
    replace h := ite_t h c15
    refine go_aload_n K dX12_doing_140 3 rfl rfl ?_
    refine go_iconst (v := (0 : Int32)) K dX12_doing_141 (by decide) ?_
    refine go_bipush (v := (6 : Int32)) K dX12_doing_142 (by decide) ?_
    obtain ⟨r16, O16, e16, h⟩ := bnd2_e h
    refine go_cVI K (c_X12_number l G _ _ _ _ _ _ e16) cf_X12_number cv_X12_number km_X12_302 rv_X12 (by decide) rfl rfl (Nat.le_of_ble_eq_true rfl) dX12_doing_144 ?_
    refine go_istore_n K dX12_doing_147 rfl (by decide) (lv' := [(1, .int r16), (3, .int (-1 : Int32)), (2, .int (-1 : Int32)), (0, .ref (gB G + 446))]) rfl ?_
    refine go_aload_n K dX12_doing_148 3 rfl rfl ?_
    refine go_bipush (v := (16 : Int32)) K dX12_doing_149 (by decide) ?_
    refine go_iconst (v := (0 : Int32)) K dX12_doing_151 (by decide) ?_
    refine go_bipush (v := (6 : Int32)) K dX12_doing_152 (by decide) ?_
    obtain ⟨r17, O17, e17, h⟩ := bnd2_e h
    refine go_cVI K (c_X12_numberBehind l G _ _ _ _ _ _ _ e17) cf_X12_numberBehind cv_X12_numberBehind km_X12_306 rv_X12 (by decide) rfl rfl (Nat.le_of_ble_eq_true rfl) dX12_doing_154 ?_
    refine go_istore_n K dX12_doing_157 rfl (by decide) (lv' := [(2, .int r17), (1, .int r16), (3, .int (-1 : Int32)), (0, .ref (gB G + 446))]) rfl ?_
    refine go_aload_n K dX12_doing_158 3 rfl rfl ?_
    refine go_bipush (v := (16 : Int32)) K dX12_doing_159 (by decide) ?_
    refine go_iconst (v := (0 : Int32)) K dX12_doing_161 (by decide) ?_
    refine go_bipush (v := (6 : Int32)) K dX12_doing_162 (by decide) ?_
    obtain ⟨r18, O18, e18, h⟩ := bnd2_e h
    refine go_cVI K (c_X12_numberBehind l G _ _ _ _ _ _ _ e18) cf_X12_numberBehind cv_X12_numberBehind km_X12_306 rv_X12 (by decide) rfl rfl (Nat.le_of_ble_eq_true rfl) dX12_doing_164 ?_
    refine go_istore_n K dX12_doing_167 rfl (by decide) (lv' := [(3, .int r18), (2, .int r17), (1, .int r16), (0, .ref (gB G + 446))]) rfl ?_
    refine go_goto (tgt := 193) K dX12_doing_168 (by decide) ?_
    exact go_sub [3, 2, 1, 0] rfl (hj193 _ _ _ _ h)
  replace h := ite_f h c15
  by_cases c19 : (O.1 446 31) = (10 : Int32)
  · refine go_tableIn K dX12_doing_10 (by rw [c19]; decide) (by rw [c19]; decide) (off := 161) (by rw [c19]; decide) (tgt := 171) (by decide) ?_
    replace h := ite_t h c19
    refine go_goto (tgt := 193) K dX12_doing_171 (by decide) ?_
    exact go_sub [3, 2, 1, 0] rfl (hj193 _ _ _ _ h)
  replace h := ite_f h c19
  by_cases c20 : (O.1 446 31) = (11 : Int32)
  · refine go_tableIn K dX12_doing_10 (by rw [c20]; decide) (by rw [c20]; decide) (off := 164) (by rw [c20]; decide) (tgt := 174) (by decide) ?_
    replace h := ite_t h c20
    refine go_aload_n K dX12_doing_174 3 rfl rfl ?_
    refine go_iconst (v := (1 : Int32)) K dX12_doing_175 (by decide) ?_
    refine go_bipush (v := (60 : Int32)) K dX12_doing_176 (by decide) ?_
    obtain ⟨r21, O21, e21, h⟩ := bnd2_e h
    refine go_cVI K (c_X12_number l G _ _ _ _ _ _ e21) cf_X12_number cv_X12_number km_X12_302 rv_X12 (by decide) rfl rfl (Nat.le_of_ble_eq_true rfl) dX12_doing_178 ?_
    refine go_istore_n K dX12_doing_181 rfl (by decide) (lv' := [(1, .int r21), (3, .int (-1 : Int32)), (2, .int (-1 : Int32)), (0, .ref (gB G + 446))]) rfl ?_
    refine go_goto (tgt := 193) K dX12_doing_182 (by decide) ?_
    exact go_sub [3, 0, 2, 1] rfl (hj193 _ _ _ _ h)
  replace h := ite_f h c20
  have c1 := sw_ne c1 (k := 4) (by decide)
  have c8 := sw_ne c8 (k := 5) (by decide)
  have c11 := sw_ne c11 (k := 6) (by decide)
  have c15 := sw_ne c15 (k := 9) (by decide)
  have c19 := sw_ne c19 (k := 10) (by decide)
  have c20 := sw_ne c20 (k := 11) (by decide)
  by_cases c23 : (O.1 446 31) = (7 : Int32)
  · refine go_tableIn K dX12_doing_10 (by rw [c23]; decide) (by rw [c23]; decide) (off := 175) (by rw [c23]; decide) (tgt := 185) (by decide) ?_
    refine go_aload_n K dX12_doing_185 3 rfl rfl ?_
    refine go_iconst (v := (0 : Int32)) K dX12_doing_186 (by decide) ?_
    refine go_bipush (v := (6 : Int32)) K dX12_doing_187 (by decide) ?_
    obtain ⟨r22, O22, e22, h⟩ := bnd2_e h
    refine go_cVI K (c_X12_number l G _ _ _ _ _ _ e22) cf_X12_number cv_X12_number km_X12_302 rv_X12 (by decide) rfl rfl (Nat.le_of_ble_eq_true rfl) dX12_doing_189 ?_
    refine go_istore_n K dX12_doing_192 rfl (by decide) (lv' := [(1, .int r22), (3, .int (-1 : Int32)), (2, .int (-1 : Int32)), (0, .ref (gB G + 446))]) rfl ?_
    exact go_sub [3, 0, 2, 1] rfl (hj193 _ _ _ _ h)
  have c23 := sw_ne c23 (k := 7) (by decide)
  by_cases c24 : (O.1 446 31) = (8 : Int32)
  · refine go_tableIn K dX12_doing_10 (by rw [c24]; decide) (by rw [c24]; decide) (off := 175) (by rw [c24]; decide) (tgt := 185) (by decide) ?_
    refine go_aload_n K dX12_doing_185 3 rfl rfl ?_
    refine go_iconst (v := (0 : Int32)) K dX12_doing_186 (by decide) ?_
    refine go_bipush (v := (6 : Int32)) K dX12_doing_187 (by decide) ?_
    obtain ⟨r22, O22, e22, h⟩ := bnd2_e h
    refine go_cVI K (c_X12_number l G _ _ _ _ _ _ e22) cf_X12_number cv_X12_number km_X12_302 rv_X12 (by decide) rfl rfl (Nat.le_of_ble_eq_true rfl) dX12_doing_189 ?_
    refine go_istore_n K dX12_doing_192 rfl (by decide) (lv' := [(1, .int r22), (3, .int (-1 : Int32)), (2, .int (-1 : Int32)), (0, .ref (gB G + 446))]) rfl ?_
    exact go_sub [3, 0, 2, 1] rfl (hj193 _ _ _ _ h)
  have c24 := sw_ne c24 (k := 8) (by decide)
  refine go_tableOut (tgt := 185) K dX12_doing_10 (show ((O.1 446 31)).toInt < 4 ∨ 11 < ((O.1 446 31)).toInt from by omega) (by decide) ?_
  refine go_aload_n K dX12_doing_185 3 rfl rfl ?_
  refine go_iconst (v := (0 : Int32)) K dX12_doing_186 (by decide) ?_
  refine go_bipush (v := (6 : Int32)) K dX12_doing_187 (by decide) ?_
  obtain ⟨r22, O22, e22, h⟩ := bnd2_e h
  refine go_cVI K (c_X12_number l G _ _ _ _ _ _ e22) cf_X12_number cv_X12_number km_X12_302 rv_X12 (by decide) rfl rfl (Nat.le_of_ble_eq_true rfl) dX12_doing_189 ?_
  refine go_istore_n K dX12_doing_192 rfl (by decide) (lv' := [(1, .int r22), (3, .int (-1 : Int32)), (2, .int (-1 : Int32)), (0, .ref (gB G + 446))]) rfl ?_
  exact go_sub [3, 0, 2, 1] rfl (hj193 _ _ _ _ h)
