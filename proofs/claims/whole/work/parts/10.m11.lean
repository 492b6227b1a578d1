noncomputable def X12_put_l3 : Nat → Int32 → Int32 → OM → Option OM
  | 0, _, _, _ => none
  | n + 1, v1, v2, O => (if v2 < 0 then (some O) else (gd (inb (O.1 446 3) 300) (X12_put_l3 n v1 (v2 - (8 : Int32)) (oup (oup O 449 (O.1 446 3).toNatClampNeg (vp_nar .byte ((v1 >>> (v2 &&& 31)).toInt8.toInt32))) 446 3 (((oup O 449 (O.1 446 3).toNatClampNeg (vp_nar .byte ((v1 >>> (v2 &&& 31)).toInt8.toInt32))).1 446 3) + (1 : Int32))))))
noncomputable def f_X12_put (v1 : Int32) (O : OM) : Option OM := (X12_put_l3 FU v1 (24 : Int32) O)
theorem cf_X12_put : CF yX12_put cX12_put 3 (Option.none : Option Jvm.ClassFile.FieldType) 1 := ⟨kc_X12_put, kj_X12, ⟨by decide +kernel, by decide +kernel, by decide +kernel⟩, by decide⟩
theorem cv_X12_put : CFv yX12_put := ⟨ki_X12_put, ks_X12_put⟩
set_option maxHeartbeats 4000000 in
set_option maxRecDepth 100000 in
theorem c_X12_put (l : Launch) (G : GT) (v1 : Int32) (C : CM) (O : OM) (O' : OM) (h : f_X12_put v1 O = some O') : MV l G yX12_put cX12_put 3 (Option.none : Option Jvm.ClassFile.FieldType) (1) [.ref (gB G + 446), .int v1] (C, O) (C, O') := by
  unfold MV
  refine met_in RX12 (by decide +kernel) rfl [(0, .ref (gB G + 446)), (1, .int v1)] rfl (Nat.le_of_ble_eq_true rfl) ?_
  intro pM eM sM mM aM bM meM cM K hr
  have hl3 : ∀ (n3 : Nat) (v1 : Int32) (v2 : Int32) (O : OM), X12_put_l3 n3 v1 v2 O = some O' → GO pM l eM (1) sM mM aM bM meM cM (MQ bM (va_Qv (fun (u : CM × OM) => u = (C, O')) (wB G) (Fr G)) aM sM 0 0 (Fr G)) G 3 (C, O) 3 [(0, .ref (gB G + 446)), (1, .int v1), (2, .int v2)] [] := by
    intro n3
    induction n3 with
    | zero =>
      intro v1 v2 O h
      rw [X12_put_l3] at h
      cases h
    | succ n3 ih3 =>
      intro v1 v2 O h
      rw [X12_put_l3] at h
      refine go_iload_n K dX12_put_3 2 rfl rfl ?_
      refine go_if_lt (tgt := 38) K dX12_put_4 (by decide) (fun c1 => ?_) (fun c1 => ?_)
      · replace h := ite_t h c1
        exact go_vret K hr (congrArg (fun z => (C, z)) (Option.some.inj h)) dX12_put_38
      replace h := ite_f h c1
      refine go_aload_n K dX12_put_7 0 rfl rfl ?_
      refine gf_X12 K 2 (by decide) kf_X12_16 (v := .ref (gB G + 449)) rfl dX12_put_8 ?_
      refine go_aload_n K dX12_put_11 0 rfl rfl ?_
      refine gf_X12 K 3 (by decide) kf_X12_119 (v := .int (O.1 446 3)) rfl dX12_put_12 ?_
      refine go_iload_n K dX12_put_15 1 rfl rfl ?_
      refine go_iload_n K dX12_put_16 2 rfl rfl ?_
      refine go_ishr K dX12_put_17 ?_
      refine go_i2b K dX12_put_18 ?_
      obtain ⟨g2, h⟩ := gd_e h
      refine go_mbast K (Nat.le_of_ble_eq_true rfl) sh_449 g2 rfl dX12_put_19 ?_
      refine go_aload_n K dX12_put_20 0 rfl rfl ?_
      refine go_dup K dX12_put_21 rfl ?_
      refine gf_X12 K 3 (by decide) kf_X12_119 (v := .int ((oup O 449 (O.1 446 3).toNatClampNeg (vp_nar .byte ((v1 >>> (v2 &&& 31)).toInt8.toInt32))).1 446 3)) rfl dX12_put_22 ?_
      refine go_iconst (v := (1 : Int32)) K dX12_put_25 (by decide) ?_
      refine go_iadd K dX12_put_26 ?_
      refine pf_X12 K 3 (by decide) kf_X12_119 rfl rfl rfl dX12_put_27 ?_
      refine go_iload_n K dX12_put_30 2 rfl rfl ?_
      refine go_bipush (v := (8 : Int32)) K dX12_put_31 (by decide) ?_
      refine go_isub K dX12_put_33 ?_
      refine go_istore_n K dX12_put_34 rfl (by decide) (lv' := [(2, .int (v2 - (8 : Int32))), (0, .ref (gB G + 446)), (1, .int v1)]) rfl ?_
      refine go_goto (tgt := 3) K dX12_put_35 (by decide) ?_
      exact go_sub [1, 2, 0] rfl (ih3 _ _ _ h)
  rw [f_X12_put] at h
  refine go_bipush (v := (24 : Int32)) K dX12_put_0 (by decide) ?_
  refine go_istore_n K dX12_put_2 rfl (by decide) (lv' := [(2, .int (24 : Int32)), (0, .ref (gB G + 446)), (1, .int v1)]) rfl ?_
  exact go_sub [1, 2, 0] rfl (hl3 FU _ _ _ h)
noncomputable def f_X12_feed (v1 : Int32) (v2 : Int32) (v3 : Int32) (v4 : Int32) (v5 : Int32) (O : OM) : Option (Int32 × OM) := (if ((O.1 446 3) + (20 : Int32)) ≤ (300 : Int32) then (bnd (f_X12_put v1 O) (fun O2 => (bnd (f_X12_put v2 O2) (fun O3 => (bnd (f_X12_put v3 O3) (fun O4 => (bnd (f_X12_put v4 O4) (fun O5 => (bnd (f_X12_put v5 O5) (fun O6 => (some ((O6.1 446 3), O6)))))))))))) else (some ((-1 : Int32), O)))
theorem cf_X12_feed : CF yX12_feed cX12_feed 6 (Option.some Jvm.ClassFile.FieldType.int) 5 := ⟨kc_X12_feed, kj_X12, ⟨by decide +kernel, by decide +kernel, by decide +kernel⟩, by decide⟩
theorem cv_X12_feed : CFv yX12_feed := ⟨ki_X12_feed, ks_X12_feed⟩
set_option maxHeartbeats 4000000 in
set_option maxRecDepth 100000 in
theorem c_X12_feed (l : Launch) (G : GT) (v1 : Int32) (v2 : Int32) (v3 : Int32) (v4 : Int32) (v5 : Int32) (C : CM) (O : OM) (res : Int32) (O' : OM) (h : f_X12_feed v1 v2 v3 v4 v5 O = some (res, O')) : MI l G yX12_feed cX12_feed 6 (Option.some Jvm.ClassFile.FieldType.int) (2) [.ref (gB G + 446), .int v1, .int v2, .int v3, .int v4, .int v5] (C, O) res (C, O') := by
  unfold MI
  refine met_in RX12 (by decide +kernel) rfl [(0, .ref (gB G + 446)), (1, .int v1), (2, .int v2), (3, .int v3), (4, .int v4), (5, .int v5)] rfl (Nat.le_of_ble_eq_true rfl) ?_
  intro pM eM sM mM aM bM meM cM K hr
  rw [f_X12_feed] at h
  refine go_aload_n K dX12_feed_0 0 rfl rfl ?_
  refine gf_X12 K 3 (by decide) kf_X12_119 (v := .int (O.1 446 3)) rfl dX12_feed_1 ?_
  refine go_bipush (v := (20 : Int32)) K dX12_feed_4 (by decide) ?_
  refine go_iadd K dX12_feed_6 ?_
  refine go_sipush (v := (300 : Int32)) K dX12_feed_7 (by decide) ?_
  refine go_icmp_le (tgt := 15) K dX12_feed_10 (by decide) (fun c1 => ?_) (fun c1 => ?_)
  rotate_left
  · replace h := ite_f h c1
    refine go_iconst (v := (-1 : Int32)) K dX12_feed_13 (by decide) ?_
    exact go_iret K hr (Prod.mk.inj (Option.some.inj h)).1 (congrArg (fun z => (C, z)) (Prod.mk.inj (Option.some.inj h)).2) dX12_feed_14
  replace h := ite_t h c1
  refine go_aload_n K dX12_feed_15 0 rfl rfl ?_
  refine go_iload_n K dX12_feed_16 1 rfl rfl ?_
  obtain ⟨O2, e2, h⟩ := bnd_e h
  refine go_cVV K (c_X12_put l G _ _ _ _ e2) cf_X12_put cv_X12_put km_X12_122 rv_X12 (by decide) rfl rfl (Nat.le_of_ble_eq_true rfl) dX12_feed_17 ?_
  refine go_aload_n K dX12_feed_20 0 rfl rfl ?_
  refine go_iload_n K dX12_feed_21 2 rfl rfl ?_
  obtain ⟨O3, e3, h⟩ := bnd_e h
  refine go_cVV K (c_X12_put l G _ _ _ _ e3) cf_X12_put cv_X12_put km_X12_122 rv_X12 (by decide) rfl rfl (Nat.le_of_ble_eq_true rfl) dX12_feed_22 ?_
  refine go_aload_n K dX12_feed_25 0 rfl rfl ?_
  refine go_iload_n K dX12_feed_26 3 rfl rfl ?_
  obtain ⟨O4, e4, h⟩ := bnd_e h
  refine go_cVV K (c_X12_put l G _ _ _ _ e4) cf_X12_put cv_X12_put km_X12_122 rv_X12 (by decide) rfl rfl (Nat.le_of_ble_eq_true rfl) dX12_feed_27 ?_
  refine go_aload_n K dX12_feed_30 0 rfl rfl ?_
  refine go_iload K dX12_feed_31 4 rfl ?_
  obtain ⟨O5, e5, h⟩ := bnd_e h
  refine go_cVV K (c_X12_put l G _ _ _ _ e5) cf_X12_put cv_X12_put km_X12_122 rv_X12 (by decide) rfl rfl (Nat.le_of_ble_eq_true rfl) dX12_feed_33 ?_
  refine go_aload_n K dX12_feed_36 0 rfl rfl ?_
  refine go_iload K dX12_feed_37 5 rfl ?_
  obtain ⟨O6, e6, h⟩ := bnd_e h
  refine go_cVV K (c_X12_put l G _ _ _ _ e6) cf_X12_put cv_X12_put km_X12_122 rv_X12 (by decide) rfl rfl (Nat.le_of_ble_eq_true rfl) dX12_feed_39 ?_
  refine go_aload_n K dX12_feed_42 0 rfl rfl ?_
  refine gf_X12 K 3 (by decide) kf_X12_119 (v := .int (O6.1 446 3)) rfl dX12_feed_43 ?_
  exact go_iret K hr (Prod.mk.inj (Option.some.inj h)).1 (congrArg (fun z => (C, z)) (Prod.mk.inj (Option.some.inj h)).2) dX12_feed_46
noncomputable def f_X12_end (v1 : Int32) (O : OM) : Option (Int32 × OM) := (if (f_X12_in v1 (0 : Int32) (O.1 446 3)) = 0 then (some ((-1 : Int32), O)) else (some (v1, (oup O 446 3 v1))))
theorem cf_X12_end : CF yX12_end cX12_end 2 (Option.some Jvm.ClassFile.FieldType.int) 1 := ⟨kc_X12_end, kj_X12, ⟨by decide +kernel, by decide +kernel, by decide +kernel⟩, by decide⟩
theorem cv_X12_end : CFv yX12_end := ⟨ki_X12_end, ks_X12_end⟩
set_option maxHeartbeats 4000000 in
set_option maxRecDepth 100000 in
theorem c_X12_end (l : Launch) (G : GT) (v1 : Int32) (C : CM) (O : OM) (res : Int32) (O' : OM) (h : f_X12_end v1 O = some (res, O')) : MI l G yX12_end cX12_end 2 (Option.some Jvm.ClassFile.FieldType.int) (2) [.ref (gB G + 446), .int v1] (C, O) res (C, O') := by
  unfold MI
  refine met_in RX12 (by decide +kernel) rfl [(0, .ref (gB G + 446)), (1, .int v1)] rfl (Nat.le_of_ble_eq_true rfl) ?_
  intro pM eM sM mM aM bM meM cM K hr
  rw [f_X12_end] at h
  refine go_iload_n K dX12_end_0 1 rfl rfl ?_
  refine go_iconst (v := (0 : Int32)) K dX12_end_1 (by decide) ?_
  refine go_aload_n K dX12_end_2 0 rfl rfl ?_
  refine gf_X12 K 3 (by decide) kf_X12_119 (v := .int (O.1 446 3)) rfl dX12_end_3 ?_
  refine go_cSI K (c_X12_in l G _ _ _ _ _ _ rfl) cf_X12_in kt_X12_in km_X12_107 (by decide) rfl rfl (Nat.le_of_ble_eq_true rfl) dX12_end_6 ?_
  refine go_if_ne (tgt := 14) K dX12_end_9 (by decide) (fun c1 => ?_) (fun c1 => ?_)
  rotate_left
  · replace h := ite_t h c1
    refine go_iconst (v := (-1 : Int32)) K dX12_end_12 (by decide) ?_
    exact go_iret K hr (Prod.mk.inj (Option.some.inj h)).1 (congrArg (fun z => (C, z)) (Prod.mk.inj (Option.some.inj h)).2) dX12_end_13
  replace h := ite_f h c1
  refine go_aload_n K dX12_end_14 0 rfl rfl ?_
  refine go_iload_n K dX12_end_15 1 rfl rfl ?_
  refine pf_X12 K 3 (by decide) kf_X12_119 rfl rfl rfl dX12_end_16 ?_
  refine go_iload_n K dX12_end_19 1 rfl rfl ?_
  exact go_iret K hr (Prod.mk.inj (Option.some.inj h)).1 (congrArg (fun z => (C, z)) (Prod.mk.inj (Option.some.inj h)).2) dX12_end_20
noncomputable def X12_isLetter_j22 : Int32 := (1 : Int32)
noncomputable def f_X12_isLetter (v0 : Int32) : Int32 := (if (f_X12_in v0 (97 : Int32) (122 : Int32)) = 0 then (if (f_X12_in v0 (65 : Int32) (90 : Int32)) = 0 then (0 : Int32) else (X12_isLetter_j22)) else (X12_isLetter_j22))
theorem cf_X12_isLetter : CF yX12_isLetter cX12_isLetter 1 (Option.some Jvm.ClassFile.FieldType.boolean) 1 := ⟨kc_X12_isLetter, kj_X12, ⟨by decide +kernel, by decide +kernel, by decide +kernel⟩, by decide⟩
set_option maxHeartbeats 4000000 in
set_option maxRecDepth 100000 in
theorem c_X12_isLetter (l : Launch) (G : GT) (v0 : Int32) (C : CM) (O : OM) (res : Int32) (h : f_X12_isLetter v0 = res) : MI l G yX12_isLetter cX12_isLetter 1 (Option.some Jvm.ClassFile.FieldType.boolean) (2) [.int v0] (C, O) res (C, O) := by
  unfold MI
  refine met_in RX12 (by decide +kernel) rfl [(0, .int v0)] rfl (Nat.le_of_ble_eq_true rfl) ?_
  intro pM eM sM mM aM bM meM cM K hr
  have hj22 : X12_isLetter_j22 = res → GO pM l eM (2) sM mM aM bM meM cM (MQ bM (va_Qi (fun (r' : Int32) (u : CM × OM) => r' = res ∧ u = (C, O)) (wB G) (Fr G)) aM sM 0 0 (Fr G)) G 1 (C, O) 22 [] [] := by
    intro h
    rw [X12_isLetter_j22] at h
    refine go_iconst (v := (1 : Int32)) K dX12_isLetter_22 (by decide) ?_
    refine go_goto (tgt := 27) K dX12_isLetter_23 (by decide) ?_
    exact go_zret K hr (by decide) h rfl dX12_isLetter_27
  rw [f_X12_isLetter] at h
  refine go_iload_n K dX12_isLetter_0 0 rfl rfl ?_
  refine go_bipush (v := (97 : Int32)) K dX12_isLetter_1 (by decide) ?_
  refine go_bipush (v := (122 : Int32)) K dX12_isLetter_3 (by decide) ?_
  refine go_cSI K (c_X12_in l G _ _ _ _ _ _ rfl) cf_X12_in kt_X12_in km_X12_107 (by decide) rfl rfl (Nat.le_of_ble_eq_true rfl) dX12_isLetter_5 ?_
  refine go_if_ne (tgt := 22) K dX12_isLetter_8 (by decide) (fun c1 => ?_) (fun c1 => ?_)
  · replace h := ite_f h c1
    exact go_sub [] rfl (hj22 h)
  replace h := ite_t h c1
  refine go_iload_n K dX12_isLetter_11 0 rfl rfl ?_
  refine go_bipush (v := (65 : Int32)) K dX12_isLetter_12 (by decide) ?_
  refine go_bipush (v := (90 : Int32)) K dX12_isLetter_14 (by decide) ?_
  refine go_cSI K (c_X12_in l G _ _ _ _ _ _ rfl) cf_X12_in kt_X12_in km_X12_107 (by decide) rfl rfl (Nat.le_of_ble_eq_true rfl) dX12_isLetter_16 ?_
  refine go_if_eq (tgt := 26) K dX12_isLetter_19 (by decide) (fun c2 => ?_) (fun c2 => ?_)
  rotate_left
  · replace h := ite_f h c2
    exact go_sub [] rfl (hj22 h)
  replace h := ite_t h c2
  refine go_iconst (v := (0 : Int32)) K dX12_isLetter_26 (by decide) ?_
  exact go_zret K hr (by decide) h rfl dX12_isLetter_27
noncomputable def f_X12_wordOf (v0 : Int64) : Int32 := (if (lg_cmp v0 (13541029 : Int64)) = 0 then (0 : Int32) else (if (lg_cmp v0 (11992229 : Int64)) = 0 then (1 : Int32) else (if (lg_cmp v0 (11672869 : Int64)) = 0 then (2 : Int32) else (if (lg_cmp v0 (13326958 : Int64)) = 0 then (3 : Int32) else (if (lg_cmp v0 (195493 : Int64)) = 0 then (4 : Int32) else (if (lg_cmp v0 (142327 : Int64)) = 0 then (5 : Int32) else (if (lg_cmp v0 (196069 : Int64)) = 0 then (6 : Int32) else (if (lg_cmp v0 (14555947 : Int64)) = 0 then (7 : Int32) else (if (lg_cmp v0 (3476587960436 : Int64)) = 0 then (8 : Int32) else (if (lg_cmp v0 (598890610 : Int64)) = 0 then (9 : Int32) else (if (lg_cmp v0 (647372020 : Int64)) = 0 then (10 : Int32) else (if (lg_cmp v0 (10681714 : Int64)) = 0 then (11 : Int32) else (if (lg_cmp v0 (9050347 : Int64)) = 0 then (12 : Int32) else (if (lg_cmp v0 (2164 : Int64)) = 0 then (13 : Int32) else (if (lg_cmp v0 (3375 : Int64)) = 0 then (14 : Int32) else (if (lg_cmp v0 (3046 : Int64)) = 0 then (15 : Int32) else (if (lg_cmp v0 (138148 : Int64)) = 0 then (16 : Int32) else (if (lg_cmp v0 (3058 : Int64)) = 0 then (17 : Int32) else (if (lg_cmp v0 (191476 : Int64)) = 0 then (18 : Int32) else (if (lg_cmp v0 (12548452 : Int64)) = 0 then (19 : Int32) else (if (lg_cmp v0 (2662 : Int64)) = 0 then (20 : Int32) else (if (lg_cmp v0 (13797742 : Int64)) = 0 then (21 : Int32) else (if (lg_cmp v0 (9882853 : Int64)) = 0 then (22 : Int32) else (if (lg_cmp v0 (154532 : Int64)) = 0 then (23 : Int32) else (if (lg_cmp v0 (149625 : Int64)) = 0 then (24 : Int32) else (if (lg_cmp v0 (227887 : Int64)) = 0 then (25 : Int32) else (if (lg_cmp v0 (137701 : Int64)) = 0 then (26 : Int32) else (if (lg_cmp v0 (14584813 : Int64)) = 0 then (27 : Int32) else (if (lg_cmp v0 (802326898 : Int64)) = 0 then (28 : Int32) else (if (lg_cmp v0 (12548467 : Int64)) = 0 then (29 : Int32) else (if (lg_cmp v0 (150885 : Int64)) = 0 then (30 : Int32) else (if (lg_cmp v0 (665282926 : Int64)) = 0 then (31 : Int32) else (-1 : Int32)))))))))))))))))))))))))))))))))
theorem cf_X12_wordOf : CF yX12_wordOf cX12_wordOf 2 (Option.some Jvm.ClassFile.FieldType.int) 1 := ⟨kc_X12_wordOf, kj_X12, ⟨by decide +kernel, by decide +kernel, by decide +kernel⟩, by decide⟩
set_option maxHeartbeats 4000000 in
set_option maxRecDepth 100000 in
theorem c_X12_wordOf (l : Launch) (G : GT) (v0 : Int64) (C : CM) (O : OM) (res : Int32) (h : f_X12_wordOf v0 = res) : MI l G yX12_wordOf cX12_wordOf 2 (Option.some Jvm.ClassFile.FieldType.int) (1) [.long v0] (C, O) res (C, O) := by
  unfold MI
  refine met_in RX12 (by decide +kernel) rfl [(0, .long v0)] rfl (Nat.le_of_ble_eq_true rfl) ?_
  intro pM eM sM mM aM bM meM cM K hr
  rw [f_X12_wordOf] at h
  refine go_lload_n K dX12_wordOf_0 0 rfl rfl ?_
  refine go_ldc2 K kk_X12_126 dX12_wordOf_1 ?_
  refine go_lcmp K dX12_wordOf_4 ?_
  refine go_if_ne (tgt := 12) K dX12_wordOf_5 (by decide) (fun c1 => ?_) (fun c1 => ?_)
  rotate_left
  · replace h := ite_t h c1
    refine go_iconst (v := (0 : Int32)) K dX12_wordOf_8 (by decide) ?_
    refine go_goto (tgt := 411) K dX12_wordOf_9 (by decide) ?_
    exact go_iret K hr h rfl dX12_wordOf_411
  replace h := ite_f h c1
  refine go_lload_n K dX12_wordOf_12 0 rfl rfl ?_
  refine go_ldc2 K kk_X12_128 dX12_wordOf_13 ?_
  refine go_lcmp K dX12_wordOf_16 ?_
  refine go_if_ne (tgt := 24) K dX12_wordOf_17 (by decide) (fun c2 => ?_) (fun c2 => ?_)
  rotate_left
  · replace h := ite_t h c2
    refine go_iconst (v := (1 : Int32)) K dX12_wordOf_20 (by decide) ?_
    refine go_goto (tgt := 411) K dX12_wordOf_21 (by decide) ?_
    exact go_iret K hr h rfl dX12_wordOf_411
  replace h := ite_f h c2
  refine go_lload_n K dX12_wordOf_24 0 rfl rfl ?_
  refine go_ldc2 K kk_X12_130 dX12_wordOf_25 ?_
  refine go_lcmp K dX12_wordOf_28 ?_
  refine go_if_ne (tgt := 36) K dX12_wordOf_29 (by decide) (fun c3 => ?_) (fun c3 => ?_)
  rotate_left
  · replace h := ite_t h c3
    refine go_iconst (v := (2 : Int32)) K dX12_wordOf_32 (by decide) ?_
    refine go_goto (tgt := 411) K dX12_wordOf_33 (by decide) ?_
    exact go_iret K hr h rfl dX12_wordOf_411
  replace h := ite_f h c3
  refine go_lload_n K dX12_wordOf_36 0 rfl rfl ?_
  refine go_ldc2 K kk_X12_132 dX12_wordOf_37 ?_
  refine go_lcmp K dX12_wordOf_40 ?_
  refine go_if_ne (tgt := 48) K dX12_wordOf_41 (by decide) (fun c4 => ?_) (fun c4 => ?_)
  rotate_left
  · replace h := ite_t h c4
    refine go_iconst (v := (3 : Int32)) K dX12_wordOf_44 (by decide) ?_
    refine go_goto (tgt := 411) K dX12_wordOf_45 (by decide) ?_
    exact go_iret K hr h rfl dX12_wordOf_411
  replace h := ite_f h c4
  refine go_lload_n K dX12_wordOf_48 0 rfl rfl ?_
  refine go_ldc2 K kk_X12_134 dX12_wordOf_49 ?_
  refine go_lcmp K dX12_wordOf_52 ?_
  refine go_if_ne (tgt := 60) K dX12_wordOf_53 (by decide) (fun c5 => ?_) (fun c5 => ?_)
  rotate_left
  · replace h := ite_t h c5
    refine go_iconst (v := (4 : Int32)) K dX12_wordOf_56 (by decide) ?_
    refine go_goto (tgt := 411) K dX12_wordOf_57 (by decide) ?_
    exact go_iret K hr h rfl dX12_wordOf_411
  replace h := ite_f h c5
  refine go_lload_n K dX12_wordOf_60 0 rfl rfl ?_
  refine go_ldc2 K kk_X12_136 dX12_wordOf_61 ?_
  refine go_lcmp K dX12_wordOf_64 ?_
  refine go_if_ne (tgt := 72) K dX12_wordOf_65 (by decide) (fun c6 => ?_) (fun c6 => ?_)
  rotate_left
  · replace h := ite_t h c6
    refine go_iconst (v := (5 : Int32)) K dX12_wordOf_68 (by decide) ?_
    refine go_goto (tgt := 411) K dX12_wordOf_69 (by decide) ?_
    exact go_iret K hr h rfl dX12_wordOf_411
  replace h := ite_f h c6
  refine go_lload_n K dX12_wordOf_72 0 rfl rfl ?_
  refine go_ldc2 K kk_X12_138 dX12_wordOf_73 ?_
  refine go_lcmp K dX12_wordOf_76 ?_
  refine go_if_ne (tgt := 85) K dX12_wordOf_77 (by decide) (fun c7 => ?_) (fun c7 => ?_)
  rotate_left
  · replace h := ite_t h c7
    refine go_bipush (v := (6 : Int32)) K dX12_wordOf_80 (by decide) ?_
    refine go_goto (tgt := 411) K dX12_wordOf_82 (by decide) ?_
    exact go_iret K hr h rfl dX12_wordOf_411
  replace h := ite_f h c7
  refine go_lload_n K dX12_wordOf_85 0 rfl rfl ?_
  refine go_ldc2 K kk_X12_140 dX12_wordOf_86 ?_
  refine go_lcmp K dX12_wordOf_89 ?_
  refine go_if_ne (tgt := 98) K dX12_wordOf_90 (by decide) (fun c8 => ?_) (fun c8 => ?_)
  rotate_left
  · replace h := ite_t h c8
    refine go_bipush (v := (7 : Int32)) K dX12_wordOf_93 (by decide) ?_
    refine go_goto (tgt := 411) K dX12_wordOf_95 (by decide) ?_
    exact go_iret K hr h rfl dX12_wordOf_411
  replace h := ite_f h c8
  refine go_lload_n K dX12_wordOf_98 0 rfl rfl ?_
  refine go_ldc2 K kk_X12_142 dX12_wordOf_99 ?_
  refine go_lcmp K dX12_wordOf_102 ?_
  refine go_if_ne (tgt := 111) K dX12_wordOf_103 (by decide) (fun c9 => ?_) (fun c9 => ?_)
  rotate_left
  · replace h := ite_t h c9
    refine go_bipush (v := (8 : Int32)) K dX12_wordOf_106 (by decide) ?_
    refine go_goto (tgt := 411) K dX12_wordOf_108 (by decide) ?_
    exact go_iret K hr h rfl dX12_wordOf_411
  replace h := ite_f h c9
  refine go_lload_n K dX12_wordOf_111 0 rfl rfl ?_
  refine go_ldc2 K kk_X12_144 dX12_wordOf_112 ?_
  refine go_lcmp K dX12_wordOf_115 ?_
  refine go_if_ne (tgt := 124) K dX12_wordOf_116 (by decide) (fun c10 => ?_) (fun c10 => ?_)
  rotate_left
  · replace h := ite_t h c10
    refine go_bipush (v := (9 : Int32)) K dX12_wordOf_119 (by decide) ?_
    refine go_goto (tgt := 411) K dX12_wordOf_121 (by decide) ?_
    exact go_iret K hr h rfl dX12_wordOf_411
  replace h := ite_f h c10
  refine go_lload_n K dX12_wordOf_124 0 rfl rfl ?_
  refine go_ldc2 K kk_X12_146 dX12_wordOf_125 ?_
  refine go_lcmp K dX12_wordOf_128 ?_
  refine go_if_ne (tgt := 137) K dX12_wordOf_129 (by decide) (fun c11 => ?_) (fun c11 => ?_)
  rotate_left
  · replace h := ite_t h c11
    refine go_bipush (v := (10 : Int32)) K dX12_wordOf_132 (by decide) ?_
    refine go_goto (tgt := 411) K dX12_wordOf_134 (by decide) ?_
    exact go_iret K hr h rfl dX12_wordOf_411
  replace h := ite_f h c11
  refine go_lload_n K dX12_wordOf_137 0 rfl rfl ?_
  refine go_ldc2 K kk_X12_148 dX12_wordOf_138 ?_
  refine go_lcmp K dX12_wordOf_141 ?_
  refine go_if_ne (tgt := 150) K dX12_wordOf_142 (by decide) (fun c12 => ?_) (fun c12 => ?_)
  rotate_left
  · replace h := ite_t h c12
    refine go_bipush (v := (11 : Int32)) K dX12_wordOf_145 (by decide) ?_
    refine go_goto (tgt := 411) K dX12_wordOf_147 (by decide) ?_
    exact go_iret K hr h rfl dX12_wordOf_411
  replace h := ite_f h c12
  refine go_lload_n K dX12_wordOf_150 0 rfl rfl ?_
  refine go_ldc2 K kk_X12_150 dX12_wordOf_151 ?_
  refine go_lcmp K dX12_wordOf_154 ?_
  refine go_if_ne (tgt := 163) K dX12_wordOf_155 (by decide) (fun c13 => ?_) (fun c13 => ?_)
  rotate_left
  · replace h := ite_t h c13
    refine go_bipush (v := (12 : Int32)) K dX12_wordOf_158 (by decide) ?_
    refine go_goto (tgt := 411) K dX12_wordOf_160 (by decide) ?_
    exact go_iret K hr h rfl dX12_wordOf_411
  replace h := ite_f h c13
  refine go_lload_n K dX12_wordOf_163 0 rfl rfl ?_
  refine go_ldc2 K kk_X12_152 dX12_wordOf_164 ?_
  refine go_lcmp K dX12_wordOf_167 ?_
  refine go_if_ne (tgt := 176) K dX12_wordOf_168 (by decide) (fun c14 => ?_) (fun c14 => ?_)
  rotate_left
  · replace h := ite_t h c14
    refine go_bipush (v := (13 : Int32)) K dX12_wordOf_171 (by decide) ?_
    refine go_goto (tgt := 411) K dX12_wordOf_173 (by decide) ?_
    exact go_iret K hr h rfl dX12_wordOf_411
  replace h := ite_f h c14
  refine go_lload_n K dX12_wordOf_176 0 rfl rfl ?_
  refine go_ldc2 K kk_X12_154 dX12_wordOf_177 ?_
  refine go_lcmp K dX12_wordOf_180 ?_
  refine go_if_ne (tgt := 189) K dX12_wordOf_181 (by decide) (fun c15 => ?_) (fun c15 => ?_)
  rotate_left
  · replace h := ite_t h c15
    refine go_bipush (v := (14 : Int32)) K dX12_wordOf_184 (by decide) ?_
    refine go_goto (tgt := 411) K dX12_wordOf_186 (by decide) ?_
    exact go_iret K hr h rfl dX12_wordOf_411
  replace h := ite_f h c15
  refine go_lload_n K dX12_wordOf_189 0 rfl rfl ?_
  refine go_ldc2 K kk_X12_156 dX12_wordOf_190 ?_
  refine go_lcmp K dX12_wordOf_193 ?_
  refine go_if_ne (tgt := 202) K dX12_wordOf_194 (by decide) (fun c16 => ?_) (fun c16 => ?_)
  rotate_left
  · replace h := ite_t h c16
    refine go_bipush (v := (15 : Int32)) K dX12_wordOf_197 (by decide) ?_
    refine go_goto (tgt := 411) K dX12_wordOf_199 (by decide) ?_
    exact go_iret K hr h rfl dX12_wordOf_411
  replace h := ite_f h c16
  refine go_lload_n K dX12_wordOf_202 0 rfl rfl ?_
  refine go_ldc2 K kk_X12_158 dX12_wordOf_203 ?_
  refine go_lcmp K dX12_wordOf_206 ?_
  refine go_if_ne (tgt := 215) K dX12_wordOf_207 (by decide) (fun c17 => ?_) (fun c17 => ?_)
  rotate_left
  · replace h := ite_t h c17
    refine go_bipush (v := (16 : Int32)) K dX12_wordOf_210 (by decide) ?_
    refine go_goto (tgt := 411) K dX12_wordOf_212 (by decide) ?_
    exact go_iret K hr h rfl dX12_wordOf_411
  replace h := ite_f h c17
  refine go_lload_n K dX12_wordOf_215 0 rfl rfl ?_
  refine go_ldc2 K kk_X12_160 dX12_wordOf_216 ?_
  refine go_lcmp K dX12_wordOf_219 ?_
  refine go_if_ne (tgt := 228) K dX12_wordOf_220 (by decide) (fun c18 => ?_) (fun c18 => ?_)
  rotate_left
  · replace h := ite_t h c18
    refine go_bipush (v := (17 : Int32)) K dX12_wordOf_223 (by decide) ?_
    refine go_goto (tgt := 411) K dX12_wordOf_225 (by decide) ?_
    exact go_iret K hr h rfl dX12_wordOf_411
  replace h := ite_f h c18
  refine go_lload_n K dX12_wordOf_228 0 rfl rfl ?_
  refine go_ldc2 K kk_X12_162 dX12_wordOf_229 ?_
  refine go_lcmp K dX12_wordOf_232 ?_
  refine go_if_ne (tgt := 241) K dX12_wordOf_233 (by decide) (fun c19 => ?_) (fun c19 => ?_)
  rotate_left
  · replace h := ite_t h c19
    refine go_bipush (v := (18 : Int32)) K dX12_wordOf_236 (by decide) ?_
    refine go_goto (tgt := 411) K dX12_wordOf_238 (by decide) ?_
    exact go_iret K hr h rfl dX12_wordOf_411
  replace h := ite_f h c19
  refine go_lload_n K dX12_wordOf_241 0 rfl rfl ?_
  refine go_ldc2 K kk_X12_164 dX12_wordOf_242 ?_
  refine go_lcmp K dX12_wordOf_245 ?_
  refine go_if_ne (tgt := 254) K dX12_wordOf_246 (by decide) (fun c20 => ?_) (fun c20 => ?_)
  rotate_left
  · replace h := ite_t h c20
    refine go_bipush (v := (19 : Int32)) K dX12_wordOf_249 (by decide) ?_
    refine go_goto (tgt := 411) K dX12_wordOf_251 (by decide) ?_
    exact go_iret K hr h rfl dX12_wordOf_411
  replace h := ite_f h c20
  refine go_lload_n K dX12_wordOf_254 0 rfl rfl ?_
  refine go_ldc2 K kk_X12_166 dX12_wordOf_255 ?_
  refine go_lcmp K dX12_wordOf_258 ?_
  refine go_if_ne (tgt := 267) K dX12_wordOf_259 (by decide) (fun c21 => ?_) (fun c21 => ?_)
  rotate_left
  · replace h := ite_t h c21
    refine go_bipush (v := (20 : Int32)) K dX12_wordOf_262 (by decide) ?_
    refine go_goto (tgt := 411) K dX12_wordOf_264 (by decide) ?_
    exact go_iret K hr h rfl dX12_wordOf_411
  replace h := ite_f h c21
  refine go_lload_n K dX12_wordOf_267 0 rfl rfl ?_
  refine go_ldc2 K kk_X12_168 dX12_wordOf_268 ?_
  refine go_lcmp K dX12_wordOf_271 ?_
  refine go_if_ne (tgt := 280) K dX12_wordOf_272 (by decide) (fun c22 => ?_) (fun c22 => ?_)
  rotate_left
  · replace h := ite_t h c22
    refine go_bipush (v := (21 : Int32)) K dX12_wordOf_275 (by decide) ?_
    refine go_goto (tgt := 411) K dX12_wordOf_277 (by decide) ?_
    exact go_iret K hr h rfl dX12_wordOf_411
  replace h := ite_f h c22
  refine go_lload_n K dX12_wordOf_280 0 rfl rfl ?_
  refine go_ldc2 K kk_X12_170 dX12_wordOf_281 ?_
  refine go_lcmp K dX12_wordOf_284 ?_
  refine go_if_ne (tgt := 293) K dX12_wordOf_285 (by decide) (fun c23 => ?_) (fun c23 => ?_)
  rotate_left
  · replace h := ite_t h c23
    refine go_bipush (v := (22 : Int32)) K dX12_wordOf_288 (by decide) ?_
    refine go_goto (tgt := 411) K dX12_wordOf_290 (by decide) ?_
    exact go_iret K hr h rfl dX12_wordOf_411
  replace h := ite_f h c23
  refine go_lload_n K dX12_wordOf_293 0 rfl rfl ?_
  refine go_ldc2 K kk_X12_172 dX12_wordOf_294 ?_
  refine go_lcmp K dX12_wordOf_297 ?_
  refine go_if_ne (tgt := 306) K dX12_wordOf_298 (by decide) (fun c24 => ?_) (fun c24 => ?_)
  rotate_left
  · replace h := ite_t h c24
    refine go_bipush (v := (23 : Int32)) K dX12_wordOf_301 (by decide) ?_
    refine go_goto (tgt := 411) K dX12_wordOf_303 (by decide) ?_
    exact go_iret K hr h rfl dX12_wordOf_411
  replace h := ite_f h c24
  refine go_lload_n K dX12_wordOf_306 0 rfl rfl ?_
  refine go_ldc2 K kk_X12_174 dX12_wordOf_307 ?_
  refine go_lcmp K dX12_wordOf_310 ?_
  refine go_if_ne (tgt := 319) K dX12_wordOf_311 (by decide) (fun c25 => ?_) (fun c25 => ?_)
  rotate_left
  · replace h := ite_t h c25
    refine go_bipush (v := (24 : Int32)) K dX12_wordOf_314 (by decide) ?_
    refine go_goto (tgt := 411) K dX12_wordOf_316 (by decide) ?_
    exact go_iret K hr h rfl dX12_wordOf_411
  replace h := ite_f h c25
  refine go_lload_n K dX12_wordOf_319 0 rfl rfl ?_
  refine go_ldc2 K kk_X12_176 dX12_wordOf_320 ?_
  refine go_lcmp K dX12_wordOf_323 ?_
  refine go_if_ne (tgt := 332) K dX12_wordOf_324 (by decide) (fun c26 => ?_) (fun c26 => ?_)
  rotate_left
  · replace h := ite_t h c26
    refine go_bipush (v := (25 : Int32)) K dX12_wordOf_327 (by decide) ?_
    refine go_goto (tgt := 411) K dX12_wordOf_329 (by decide) ?_
    exact go_iret K hr h rfl dX12_wordOf_411
  replace h := ite_f h c26
  refine go_lload_n K dX12_wordOf_332 0 rfl rfl ?_
  refine go_ldc2 K kk_X12_178 dX12_wordOf_333 ?_
  refine go_lcmp K dX12_wordOf_336 ?_
  refine go_if_ne (tgt := 345) K dX12_wordOf_337 (by decide) (fun c27 => ?_) (fun c27 => ?_)
  rotate_left
  · replace h := ite_t h c27
    refine go_bipush (v := (26 : Int32)) K dX12_wordOf_340 (by decide) ?_
    refine go_goto (tgt := 411) K dX12_wordOf_342 (by decide) ?_
    exact go_iret K hr h rfl dX12_wordOf_411
  replace h := ite_f h c27
  refine go_lload_n K dX12_wordOf_345 0 rfl rfl ?_
  refine go_ldc2 K kk_X12_180 dX12_wordOf_346 ?_
  refine go_lcmp K dX12_wordOf_349 ?_
  refine go_if_ne (tgt := 358) K dX12_wordOf_350 (by decide) (fun c28 => ?_) (fun c28 => ?_)
  rotate_left
  · replace h := ite_t h c28
    refine go_bipush (v := (27 : Int32)) K dX12_wordOf_353 (by decide) ?_
    refine go_goto (tgt := 411) K dX12_wordOf_355 (by decide) ?_
    exact go_iret K hr h rfl dX12_wordOf_411
  replace h := ite_f h c28
  refine go_lload_n K dX12_wordOf_358 0 rfl rfl ?_
  refine go_ldc2 K kk_X12_182 dX12_wordOf_359 ?_
  refine go_lcmp K dX12_wordOf_362 ?_
  refine go_if_ne (tgt := 371) K dX12_wordOf_363 (by decide) (fun c29 => ?_) (fun c29 => ?_)
  rotate_left
  · replace h := ite_t h c29
    refine go_bipush (v := (28 : Int32)) K dX12_wordOf_366 (by decide) ?_
    refine go_goto (tgt := 411) K dX12_wordOf_368 (by decide) ?_
    exact go_iret K hr h rfl dX12_wordOf_411
  replace h := ite_f h c29
  refine go_lload_n K dX12_wordOf_371 0 rfl rfl ?_
  refine go_ldc2 K kk_X12_184 dX12_wordOf_372 ?_
  refine go_lcmp K dX12_wordOf_375 ?_
  refine go_if_ne (tgt := 384) K dX12_wordOf_376 (by decide) (fun c30 => ?_) (fun c30 => ?_)
  rotate_left
  · replace h := ite_t h c30
    refine go_bipush (v := (29 : Int32)) K dX12_wordOf_379 (by decide) ?_
    refine go_goto (tgt := 411) K dX12_wordOf_381 (by decide) ?_
    exact go_iret K hr h rfl dX12_wordOf_411
  replace h := ite_f h c30
  refine go_lload_n K dX12_wordOf_384 0 rfl rfl ?_
  refine go_ldc2 K kk_X12_186 dX12_wordOf_385 ?_
  refine go_lcmp K dX12_wordOf_388 ?_
  refine go_if_ne (tgt := 397) K dX12_wordOf_389 (by decide) (fun c31 => ?_) (fun c31 => ?_)
  rotate_left
  · replace h := ite_t h c31
    refine go_bipush (v := (30 : Int32)) K dX12_wordOf_392 (by decide) ?_
    refine go_goto (tgt := 411) K dX12_wordOf_394 (by decide) ?_
    exact go_iret K hr h rfl dX12_wordOf_411
  replace h := ite_f h c31
  refine go_lload_n K dX12_wordOf_397 0 rfl rfl ?_
  refine go_ldc2 K kk_X12_188 dX12_wordOf_398 ?_
  refine go_lcmp K dX12_wordOf_401 ?_
  refine go_if_ne (tgt := 410) K dX12_wordOf_402 (by decide) (fun c32 => ?_) (fun c32 => ?_)
  · replace h := ite_f h c32
    refine go_iconst (v := (-1 : Int32)) K dX12_wordOf_410 (by decide) ?_
    exact go_iret K hr h rfl dX12_wordOf_411
  replace h := ite_t h c32
  refine go_bipush (v := (31 : Int32)) K dX12_wordOf_405 (by decide) ?_
  refine go_goto (tgt := 411) K dX12_wordOf_407 (by decide) ?_
  exact go_iret K hr h rfl dX12_wordOf_411
noncomputable def X12_next_j426 (t0 : Int32) (O : OM) : Option OM := (some (oup (oup O 446 18 t0) 446 15 (((oup O 446 18 t0).1 446 15) + (1 : Int32))))
noncomputable def X12_next_j385 (v1 : Int32) (O : OM) : Option OM := (if (O.1 446 14) ≤ (O.1 446 15) then (some O) else (gd (inb (O.1 446 15) 300) (if (O.1 449 (O.1 446 15).toNatClampNeg) = (61 : Int32) then (if v1 = (60 : Int32) then (X12_next_j426 (300 : Int32) O) else (X12_next_j426 (301 : Int32) O)) else (some O))))
noncomputable def X12_next_j370 (v1 : Int32) (t0 : Int32) (O : OM) : Option OM := (if v1 = (60 : Int32) then (X12_next_j385 v1 (oup O 446 17 t0)) else (if v1 = (62 : Int32) then (X12_next_j385 v1 (oup O 446 17 t0)) else (some (oup O 446 17 t0))))
noncomputable def X12_next_j365 (v1 : Int32) (O : OM) : Option OM := (X12_next_j370 v1 (3 : Int32) O)
noncomputable def X12_next_j299 (rc : OM → Option OM) (t0 : Int32) (O : OM) : Option OM := (rc (oup (oup O 446 18 t0) 446 15 (((oup O 446 18 t0).1 446 15) + (1 : Int32))))
noncomputable def X12_next_l232 : Nat → OM → Option OM
  | 0, _ => none
  | n + 1, O => (if (O.1 446 14) ≤ (O.1 446 15) then (some O) else (gd (inb (O.1 446 15) 300) (if (f_X12_in (O.1 449 (O.1 446 15).toNatClampNeg) (48 : Int32) (57 : Int32)) = 0 then (some O) else (if (O.1 446 18) ≤ (99999 : Int32) then (gd (inb (O.1 446 15) 300) (X12_next_j299 (fun O => X12_next_l232 n O) ((((10 : Int32) * (O.1 446 18)) + (O.1 449 (O.1 446 15).toNatClampNeg)) - (48 : Int32)) O)) else (X12_next_j299 (fun O => X12_next_l232 n O) (O.1 446 18) O)))))
noncomputable def X12_next_j205 (t0 : Int32) (O : OM) : Option OM := (some (oup O 446 17 t0))
noncomputable def X12_next_j189 (t0 : Int32) (O : OM) : Option OM := (if 0 ≤ ((oup O 446 18 t0).1 446 18) then (X12_next_j205 (1 : Int32) (oup O 446 18 t0)) else (X12_next_j205 (4 : Int32) (oup O 446 18 t0)))
noncomputable def X12_next_j173 (v2 : Int64) (v4 : Int32) (O : OM) : Option OM := (if v4 ≤ (7 : Int32) then (X12_next_j189 (f_X12_wordOf v2) O) else (X12_next_j189 (-1 : Int32) O))
noncomputable def X12_next_j156 (rc : Int64 → Int32 → OM → Option OM) (k173 : Int64 → Int32 → OM → Option OM) (v4 : Int32) (t0 : Int64) (O : OM) : Option OM := (rc t0 (v4 + (1 : Int32)) (oup O 446 15 ((O.1 446 15) + (1 : Int32))))
noncomputable def X12_next_l99 (k173 : Int64 → Int32 → OM → Option OM) : Nat → Int64 → Int32 → OM → Option OM
  | 0, _, _, _ => none
  | n + 1, v2, v4, O => (if (O.1 446 14) ≤ (O.1 446 15) then (k173 v2 v4 O) else (gd (inb (O.1 446 15) 300) (if (f_X12_isLetter (O.1 449 (O.1 446 15).toNatClampNeg)) = 0 then (k173 v2 v4 O) else (if (8 : Int32) ≤ v4 then (X12_next_j156 (fun v2 v4 O => X12_next_l99 k173 n v2 v4 O) k173 v4 v2 O) else (gd (inb (O.1 446 15) 300) (X12_next_j156 (fun v2 v4 O => X12_next_l99 k173 n v2 v4 O) k173 v4 ((((64 : Int64) * v2) + ((O.1 449 (O.1 446 15).toNatClampNeg).toInt64)) - (64 : Int64)) O))))))
noncomputable def X12_next_j52 (O : OM) : Option OM := (if ((oup O 446 16 (O.1 446 15)).1 446 15) = ((oup O 446 16 (O.1 446 15)).1 446 14) then (some (oup (oup O 446 16 (O.1 446 15)) 446 17 (0 : Int32))) else (gd (inb ((oup O 446 16 (O.1 446 15)).1 446 15) 300) (if (f_X12_isLetter ((oup O 446 16 (O.1 446 15)).1 449 ((oup O 446 16 (O.1 446 15)).1 446 15).toNatClampNeg)) = 0 then (if (f_X12_in ((oup O 446 16 (O.1 446 15)).1 449 ((oup O 446 16 (O.1 446 15)).1 446 15).toNatClampNeg) (48 : Int32) (57 : Int32)) = 0 then (if (f_X12_in ((oup O 446 16 (O.1 446 15)).1 449 ((oup O 446 16 (O.1 446 15)).1 446 15).toNatClampNeg) (59 : Int32) (62 : Int32)) = 0 then (if (f_X12_in ((oup O 446 16 (O.1 446 15)).1 449 ((oup O 446 16 (O.1 446 15)).1 446 15).toNatClampNeg) (40 : Int32) (45 : Int32)) = 0 then (if ((oup O 446 16 (O.1 446 15)).1 449 ((oup O 446 16 (O.1 446 15)).1 446 15).toNatClampNeg) = (47 : Int32) then (X12_next_j365 ((oup O 446 16 (O.1 446 15)).1 449 ((oup O 446 16 (O.1 446 15)).1 446 15).toNatClampNeg) (oup (oup (oup O 446 16 (O.1 446 15)) 446 15 (((oup O 446 16 (O.1 446 15)).1 446 15) + (1 : Int32))) 446 18 ((oup O 446 16 (O.1 446 15)).1 449 ((oup O 446 16 (O.1 446 15)).1 446 15).toNatClampNeg))) else (if ((oup O 446 16 (O.1 446 15)).1 449 ((oup O 446 16 (O.1 446 15)).1 446 15).toNatClampNeg) = (35 : Int32) then (X12_next_j365 ((oup O 446 16 (O.1 446 15)).1 449 ((oup O 446 16 (O.1 446 15)).1 446 15).toNatClampNeg) (oup (oup (oup O 446 16 (O.1 446 15)) 446 15 (((oup O 446 16 (O.1 446 15)).1 446 15) + (1 : Int32))) 446 18 ((oup O 446 16 (O.1 446 15)).1 449 ((oup O 446 16 (O.1 446 15)).1 446 15).toNatClampNeg))) else (X12_next_j370 ((oup O 446 16 (O.1 446 15)).1 449 ((oup O 446 16 (O.1 446 15)).1 446 15).toNatClampNeg) (4 : Int32) (oup (oup (oup O 446 16 (O.1 446 15)) 446 15 (((oup O 446 16 (O.1 446 15)).1 446 15) + (1 : Int32))) 446 18 ((oup O 446 16 (O.1 446 15)).1 449 ((oup O 446 16 (O.1 446 15)).1 446 15).toNatClampNeg))))) else (X12_next_j365 ((oup O 446 16 (O.1 446 15)).1 449 ((oup O 446 16 (O.1 446 15)).1 446 15).toNatClampNeg) (oup (oup (oup O 446 16 (O.1 446 15)) 446 15 (((oup O 446 16 (O.1 446 15)).1 446 15) + (1 : Int32))) 446 18 ((oup O 446 16 (O.1 446 15)).1 449 ((oup O 446 16 (O.1 446 15)).1 446 15).toNatClampNeg)))) else (X12_next_j365 ((oup O 446 16 (O.1 446 15)).1 449 ((oup O 446 16 (O.1 446 15)).1 446 15).toNatClampNeg) (oup (oup (oup O 446 16 (O.1 446 15)) 446 15 (((oup O 446 16 (O.1 446 15)).1 446 15) + (1 : Int32))) 446 18 ((oup O 446 16 (O.1 446 15)).1 449 ((oup O 446 16 (O.1 446 15)).1 446 15).toNatClampNeg)))) else (X12_next_l232 FU (oup (oup (oup O 446 16 (O.1 446 15)) 446 17 (2 : Int32)) 446 18 (0 : Int32)))) else (X12_next_l99 (fun v2 v4 O => (X12_next_j173 v2 v4 O)) FU (0 : Int64) (0 : Int32) (oup O 446 16 (O.1 446 15))))))
noncomputable def X12_next_j39 (rc : OM → Option OM) (k52 : OM → Option OM) (O : OM) : Option OM := (rc (oup O 446 15 ((O.1 446 15) + (1 : Int32))))
noncomputable def X12_next_l0 (k52 : OM → Option OM) : Nat → OM → Option OM
  | 0, _ => none
  | n + 1, O => (if (O.1 446 14) ≤ (O.1 446 15) then (k52 O) else (gd (inb (O.1 446 15) 300) (if (O.1 449 (O.1 446 15).toNatClampNeg) = (32 : Int32) then (X12_next_j39 (fun O => X12_next_l0 k52 n O) k52 O) else (gd (inb (O.1 446 15) 300) (if (O.1 449 (O.1 446 15).toNatClampNeg) = (10 : Int32) then (X12_next_j39 (fun O => X12_next_l0 k52 n O) k52 O) else (k52 O))))))
noncomputable def f_X12_next (O : OM) : Option OM := (X12_next_l0 (fun O => (X12_next_j52 O)) FU O)
theorem cf_X12_next : CF yX12_next cX12_next 5 (Option.none : Option Jvm.ClassFile.FieldType) 0 := ⟨kc_X12_next, kj_X12, ⟨by decide +kernel, by decide +kernel, by decide +kernel⟩, by decide⟩
theorem cv_X12_next : CFv yX12_next := ⟨ki_X12_next, ks_X12_next⟩
set_option maxHeartbeats 4000000 in
set_option maxRecDepth 100000 in
theorem c_X12_next (l : Launch) (G : GT) (C : CM) (O : OM) (O' : OM) (h : f_X12_next O = some O') : MV l G yX12_next cX12_next 5 (Option.none : Option Jvm.ClassFile.FieldType) (3) [.ref (gB G + 446)] (C, O) (C, O') := by
  unfold MV
  refine met_in RX12 (by decide +kernel) rfl [(0, .ref (gB G + 446))] rfl (Nat.le_of_ble_eq_true rfl) ?_
  intro pM eM sM mM aM bM meM cM K hr
  have hj426 : ∀ (t0 : Int32) (O : OM), X12_next_j426 t0 O = some O' → GO pM l eM (3) sM mM aM bM meM cM (MQ bM (va_Qv (fun (u : CM × OM) => u = (C, O')) (wB G) (Fr G)) aM sM 0 0 (Fr G)) G 5 (C, O) 426 [(0, .ref (gB G + 446))] [.int t0, .ref (gB G + 446)] := by
    intro t0 O h
    rw [X12_next_j426] at h
    refine pf_X12 K 18 (by decide) kf_X12_211 rfl rfl rfl dX12_next_426 ?_
    refine go_aload_n K dX12_next_429 0 rfl rfl ?_
    refine go_dup K dX12_next_430 rfl ?_
    refine gf_X12 K 15 (by decide) kf_X12_190 (v := .int ((oup O 446 18 t0).1 446 15)) rfl dX12_next_431 ?_
    refine go_iconst (v := (1 : Int32)) K dX12_next_434 (by decide) ?_
    refine go_iadd K dX12_next_435 ?_
    refine pf_X12 K 15 (by decide) kf_X12_190 rfl rfl rfl dX12_next_436 ?_
    exact go_vret K hr (congrArg (fun z => (C, z)) (Option.some.inj h)) dX12_next_439
  have hj385 : ∀ (v1 : Int32) (O : OM), X12_next_j385 v1 O = some O' → GO pM l eM (3) sM mM aM bM meM cM (MQ bM (va_Qv (fun (u : CM × OM) => u = (C, O')) (wB G) (Fr G)) aM sM 0 0 (Fr G)) G 5 (C, O) 385 [(0, .ref (gB G + 446)), (1, .int v1)] [] := by
    intro v1 O h
    rw [X12_next_j385] at h
    refine go_aload_n K dX12_next_385 0 rfl rfl ?_
    refine gf_X12 K 15 (by decide) kf_X12_190 (v := .int (O.1 446 15)) rfl dX12_next_386 ?_
    refine go_aload_n K dX12_next_389 0 rfl rfl ?_
    refine gf_X12 K 14 (by decide) kf_X12_193 (v := .int (O.1 446 14)) rfl dX12_next_390 ?_
    refine go_icmp_ge (tgt := 439) K dX12_next_393 (by decide) (fun c12 => ?_) (fun c12 => ?_)
    · replace h := ite_t h c12
      exact go_vret K hr (congrArg (fun z => (C, z)) (Option.some.inj h)) dX12_next_439
    replace h := ite_f h c12
    refine go_aload_n K dX12_next_396 0 rfl rfl ?_
    refine gf_X12 K 2 (by decide) kf_X12_16 (v := .ref (gB G + 449)) rfl dX12_next_397 ?_
    refine go_aload_n K dX12_next_400 0 rfl rfl ?_
    refine gf_X12 K 15 (by decide) kf_X12_190 (v := .int (O.1 446 15)) rfl dX12_next_401 ?_
    obtain ⟨g13, h⟩ := gd_e h
    refine go_mbald K (Nat.le_of_ble_eq_true rfl) sh_449 g13 rfl dX12_next_404 ?_
    refine go_bipush (v := (61 : Int32)) K dX12_next_405 (by decide) ?_
    refine go_icmp_ne (tgt := 439) K dX12_next_407 (by decide) (fun c14 => ?_) (fun c14 => ?_)
    · replace h := ite_f h c14
      exact go_vret K hr (congrArg (fun z => (C, z)) (Option.some.inj h)) dX12_next_439
    replace h := ite_t h c14
    refine go_aload_n K dX12_next_410 0 rfl rfl ?_
    refine go_iload_n K dX12_next_411 1 rfl rfl ?_
    refine go_bipush (v := (60 : Int32)) K dX12_next_412 (by decide) ?_
    refine go_icmp_ne (tgt := 423) K dX12_next_414 (by decide) (fun c15 => ?_) (fun c15 => ?_)
    · replace h := ite_f h c15
      refine go_sipush (v := (301 : Int32)) K dX12_next_423 (by decide) ?_
      exact go_sub [0] rfl (hj426 _ _ h)
    replace h := ite_t h c15
    refine go_sipush (v := (300 : Int32)) K dX12_next_417 (by decide) ?_
    refine go_goto (tgt := 426) K dX12_next_420 (by decide) ?_
    exact go_sub [0] rfl (hj426 _ _ h)
  have hj370 : ∀ (v1 : Int32) (t0 : Int32) (O : OM), X12_next_j370 v1 t0 O = some O' → GO pM l eM (3) sM mM aM bM meM cM (MQ bM (va_Qv (fun (u : CM × OM) => u = (C, O')) (wB G) (Fr G)) aM sM 0 0 (Fr G)) G 5 (C, O) 370 [(0, .ref (gB G + 446)), (1, .int v1)] [.int t0, .ref (gB G + 446)] := by
    intro v1 t0 O h
    rw [X12_next_j370] at h
    refine pf_X12 K 17 (by decide) kf_X12_199 rfl rfl rfl dX12_next_370 ?_
    refine go_iload_n K dX12_next_373 1 rfl rfl ?_
    refine go_bipush (v := (60 : Int32)) K dX12_next_374 (by decide) ?_
    refine go_icmp_eq (tgt := 385) K dX12_next_376 (by decide) (fun c11 => ?_) (fun c11 => ?_)
    · replace h := ite_t h c11
      exact hj385 _ _ h
    replace h := ite_f h c11
    refine go_iload_n K dX12_next_379 1 rfl rfl ?_
    refine go_bipush (v := (62 : Int32)) K dX12_next_380 (by decide) ?_
    refine go_icmp_ne (tgt := 439) K dX12_next_382 (by decide) (fun c16 => ?_) (fun c16 => ?_)
    · replace h := ite_f h c16
      exact go_vret K hr (congrArg (fun z => (C, z)) (Option.some.inj h)) dX12_next_439
    replace h := ite_t h c16
    exact hj385 _ _ h
  have hj365 : ∀ (v1 : Int32) (O : OM), X12_next_j365 v1 O = some O' → GO pM l eM (3) sM mM aM bM meM cM (MQ bM (va_Qv (fun (u : CM × OM) => u = (C, O')) (wB G) (Fr G)) aM sM 0 0 (Fr G)) G 5 (C, O) 365 [(0, .ref (gB G + 446)), (1, .int v1)] [.ref (gB G + 446)] := by
    intro v1 O h
    rw [X12_next_j365] at h
    refine go_iconst (v := (3 : Int32)) K dX12_next_365 (by decide) ?_
    refine go_goto (tgt := 370) K dX12_next_366 (by decide) ?_
    exact hj370 _ _ _ h
  have hl232 : ∀ (n232 : Nat) (O : OM), X12_next_l232 n232 O = some O' → GO pM l eM (3) sM mM aM bM meM cM (MQ bM (va_Qv (fun (u : CM × OM) => u = (C, O')) (wB G) (Fr G)) aM sM 0 0 (Fr G)) G 5 (C, O) 232 [(0, .ref (gB G + 446))] [] := by
    intro n232
    induction n232 with
    | zero =>
      intro O h
      rw [X12_next_l232] at h
      cases h
    | succ n232 ih232 =>
      have hj299 : ∀ (t0 : Int32) (O : OM), X12_next_j299 (fun O => X12_next_l232 n232 O) t0 O = some O' → GO pM l eM (3) sM mM aM bM meM cM (MQ bM (va_Qv (fun (u : CM × OM) => u = (C, O')) (wB G) (Fr G)) aM sM 0 0 (Fr G)) G 5 (C, O) 299 [(0, .ref (gB G + 446))] [.int t0, .ref (gB G + 446)] := by
        intro t0 O h
        rw [X12_next_j299] at h
        refine pf_X12 K 18 (by decide) kf_X12_211 rfl rfl rfl dX12_next_299 ?_
        refine go_aload_n K dX12_next_302 0 rfl rfl ?_
        refine go_dup K dX12_next_303 rfl ?_
        refine gf_X12 K 15 (by decide) kf_X12_190 (v := .int ((oup O 446 18 t0).1 446 15)) rfl dX12_next_304 ?_
        refine go_iconst (v := (1 : Int32)) K dX12_next_307 (by decide) ?_
        refine go_iadd K dX12_next_308 ?_
        refine pf_X12 K 15 (by decide) kf_X12_190 rfl rfl rfl dX12_next_309 ?_
        refine go_goto (tgt := 232) K dX12_next_312 (by decide) ?_
        exact ih232 _ h
      intro O h
      rw [X12_next_l232] at h
      refine go_aload_n K dX12_next_232 0 rfl rfl ?_
      refine gf_X12 K 15 (by decide) kf_X12_190 (v := .int (O.1 446 15)) rfl dX12_next_233 ?_
      refine go_aload_n K dX12_next_236 0 rfl rfl ?_
      refine gf_X12 K 14 (by decide) kf_X12_193 (v := .int (O.1 446 14)) rfl dX12_next_237 ?_
      refine go_icmp_ge (tgt := 439) K dX12_next_240 (by decide) (fun c20 => ?_) (fun c20 => ?_)
      · replace h := ite_t h c20
        exact go_vret K hr (congrArg (fun z => (C, z)) (Option.some.inj h)) dX12_next_439
      replace h := ite_f h c20
      refine go_aload_n K dX12_next_243 0 rfl rfl ?_
      refine gf_X12 K 2 (by decide) kf_X12_16 (v := .ref (gB G + 449)) rfl dX12_next_244 ?_
      refine go_aload_n K dX12_next_247 0 rfl rfl ?_
      refine gf_X12 K 15 (by decide) kf_X12_190 (v := .int (O.1 446 15)) rfl dX12_next_248 ?_
      obtain ⟨g21, h⟩ := gd_e h
      refine go_mbald K (Nat.le_of_ble_eq_true rfl) sh_449 g21 rfl dX12_next_251 ?_
      refine go_bipush (v := (48 : Int32)) K dX12_next_252 (by decide) ?_
      refine go_bipush (v := (57 : Int32)) K dX12_next_254 (by decide) ?_
      refine go_cSI K (c_X12_in l G _ _ _ _ _ _ rfl) cf_X12_in kt_X12_in km_X12_107 (by decide) rfl rfl (Nat.le_of_ble_eq_true rfl) dX12_next_256 ?_
      refine go_if_eq (tgt := 439) K dX12_next_259 (by decide) (fun c22 => ?_) (fun c22 => ?_)
      · replace h := ite_t h c22
        exact go_vret K hr (congrArg (fun z => (C, z)) (Option.some.inj h)) dX12_next_439
      replace h := ite_f h c22
      refine go_aload_n K dX12_next_262 0 rfl rfl ?_
      refine go_aload_n K dX12_next_263 0 rfl rfl ?_
      refine gf_X12 K 18 (by decide) kf_X12_211 (v := .int (O.1 446 18)) rfl dX12_next_264 ?_
      refine go_ldc K kk_X12_214 dX12_next_267 ?_
      refine go_icmp_le (tgt := 279) K dX12_next_269 (by decide) (fun c23 => ?_) (fun c23 => ?_)
      rotate_left
      · replace h := ite_f h c23
        refine go_aload_n K dX12_next_272 0 rfl rfl ?_
        refine gf_X12 K 18 (by decide) kf_X12_211 (v := .int (O.1 446 18)) rfl dX12_next_273 ?_
        refine go_goto (tgt := 299) K dX12_next_276 (by decide) ?_
        exact hj299 _ _ h
      replace h := ite_t h c23
      refine go_bipush (v := (10 : Int32)) K dX12_next_279 (by decide) ?_
      refine go_aload_n K dX12_next_281 0 rfl rfl ?_
      refine gf_X12 K 18 (by decide) kf_X12_211 (v := .int (O.1 446 18)) rfl dX12_next_282 ?_
      refine go_imul K dX12_next_285 ?_
      refine go_aload_n K dX12_next_286 0 rfl rfl ?_
      refine gf_X12 K 2 (by decide) kf_X12_16 (v := .ref (gB G + 449)) rfl dX12_next_287 ?_
      refine go_aload_n K dX12_next_290 0 rfl rfl ?_
      refine gf_X12 K 15 (by decide) kf_X12_190 (v := .int (O.1 446 15)) rfl dX12_next_291 ?_
      obtain ⟨g24, h⟩ := gd_e h
      refine go_mbald K (Nat.le_of_ble_eq_true rfl) sh_449 g24 rfl dX12_next_294 ?_
      refine go_iadd K dX12_next_295 ?_
      refine go_bipush (v := (48 : Int32)) K dX12_next_296 (by decide) ?_
      refine go_isub K dX12_next_298 ?_
      exact hj299 _ _ h
  have hj205 : ∀ (t0 : Int32) (O : OM), X12_next_j205 t0 O = some O' → GO pM l eM (3) sM mM aM bM meM cM (MQ bM (va_Qv (fun (u : CM × OM) => u = (C, O')) (wB G) (Fr G)) aM sM 0 0 (Fr G)) G 5 (C, O) 205 [] [.int t0, .ref (gB G + 446)] := by
    intro t0 O h
    rw [X12_next_j205] at h
    refine pf_X12 K 17 (by decide) kf_X12_199 rfl rfl rfl dX12_next_205 ?_
    refine go_goto (tgt := 439) K dX12_next_208 (by decide) ?_
    exact go_vret K hr (congrArg (fun z => (C, z)) (Option.some.inj h)) dX12_next_439
  have hj189 : ∀ (t0 : Int32) (O : OM), X12_next_j189 t0 O = some O' → GO pM l eM (3) sM mM aM bM meM cM (MQ bM (va_Qv (fun (u : CM × OM) => u = (C, O')) (wB G) (Fr G)) aM sM 0 0 (Fr G)) G 5 (C, O) 189 [(0, .ref (gB G + 446))] [.int t0, .ref (gB G + 446)] := by
    intro t0 O h
    rw [X12_next_j189] at h
    refine pf_X12 K 18 (by decide) kf_X12_211 rfl rfl rfl dX12_next_189 ?_
    refine go_aload_n K dX12_next_192 0 rfl rfl ?_
    refine go_aload_n K dX12_next_193 0 rfl rfl ?_
    refine gf_X12 K 18 (by decide) kf_X12_211 (v := .int ((oup O 446 18 t0).1 446 18)) rfl dX12_next_194 ?_
    refine go_if_ge (tgt := 204) K dX12_next_197 (by decide) (fun c31 => ?_) (fun c31 => ?_)
    · replace h := ite_t h c31
      refine go_iconst (v := (1 : Int32)) K dX12_next_204 (by decide) ?_
      exact go_sub [] rfl (hj205 _ _ h)
    replace h := ite_f h c31
    refine go_iconst (v := (4 : Int32)) K dX12_next_200 (by decide) ?_
    refine go_goto (tgt := 205) K dX12_next_201 (by decide) ?_
    exact go_sub [] rfl (hj205 _ _ h)
  have hj173 : ∀ (v2 : Int64) (v4 : Int32) (O : OM), X12_next_j173 v2 v4 O = some O' → GO pM l eM (3) sM mM aM bM meM cM (MQ bM (va_Qv (fun (u : CM × OM) => u = (C, O')) (wB G) (Fr G)) aM sM 0 0 (Fr G)) G 5 (C, O) 173 [(0, .ref (gB G + 446)), (2, .long v2), (4, .int v4)] [] := by
    intro v2 v4 O h
    rw [X12_next_j173] at h
    refine go_aload_n K dX12_next_173 0 rfl rfl ?_
    refine go_iload K dX12_next_174 2 rfl ?_
    refine go_bipush (v := (7 : Int32)) K dX12_next_176 (by decide) ?_
    refine go_icmp_le (tgt := 185) K dX12_next_178 (by decide) (fun c30 => ?_) (fun c30 => ?_)
    · replace h := ite_t h c30
      refine go_lload_n K dX12_next_185 1 rfl rfl ?_
      refine go_cSI K (c_X12_wordOf l G _ _ _ _ rfl) cf_X12_wordOf kt_X12_wordOf km_X12_207 (by decide) rfl rfl (Nat.le_of_ble_eq_true rfl) dX12_next_186 ?_
      exact go_sub [0] rfl (hj189 _ _ h)
    replace h := ite_f h c30
    refine go_iconst (v := (-1 : Int32)) K dX12_next_181 (by decide) ?_
    refine go_goto (tgt := 189) K dX12_next_182 (by decide) ?_
    exact go_sub [0] rfl (hj189 _ _ h)
  have hl99 : ∀ (n99 : Nat) (v2 : Int64) (v4 : Int32) (O : OM), X12_next_l99 (fun v2 v4 O => (X12_next_j173 v2 v4 O)) n99 v2 v4 O = some O' → GO pM l eM (3) sM mM aM bM meM cM (MQ bM (va_Qv (fun (u : CM × OM) => u = (C, O')) (wB G) (Fr G)) aM sM 0 0 (Fr G)) G 5 (C, O) 99 [(0, .ref (gB G + 446)), (2, .long v2), (4, .int v4)] [] := by
    intro n99
    induction n99 with
    | zero =>
      intro v2 v4 O h
      rw [X12_next_l99] at h
      cases h
    | succ n99 ih99 =>
      have hj156 : ∀ (v4 : Int32) (t0 : Int64) (O : OM), X12_next_j156 (fun v2 v4 O => X12_next_l99 (fun v2 v4 O => (X12_next_j173 v2 v4 O)) n99 v2 v4 O) (fun v2 v4 O => (X12_next_j173 v2 v4 O)) v4 t0 O = some O' → GO pM l eM (3) sM mM aM bM meM cM (MQ bM (va_Qv (fun (u : CM × OM) => u = (C, O')) (wB G) (Fr G)) aM sM 0 0 (Fr G)) G 5 (C, O) 156 [(0, .ref (gB G + 446)), (4, .int v4)] [.long t0] := by
        intro v4 t0 O h
        rw [X12_next_j156] at h
        refine go_lstore_n K dX12_next_156 rfl (by decide) (lv' := [(2, .long t0), (0, .ref (gB G + 446)), (4, .int v4)]) rfl ?_
        refine go_iinc K dX12_next_157 2 rfl (v := (v4 + (1 : Int32))) rfl (by decide) (lv' := [(4, .int (v4 + (1 : Int32))), (2, .long t0), (0, .ref (gB G + 446))]) rfl ?_
        refine go_aload_n K dX12_next_160 2 rfl rfl ?_
        refine go_dup K dX12_next_161 rfl ?_
        refine gf_X12 K 15 (by decide) kf_X12_190 (v := .int (O.1 446 15)) rfl dX12_next_162 ?_
        refine go_iconst (v := (1 : Int32)) K dX12_next_165 (by decide) ?_
        refine go_iadd K dX12_next_166 ?_
        refine pf_X12 K 15 (by decide) kf_X12_190 rfl rfl rfl dX12_next_167 ?_
        refine go_goto (tgt := 99) K dX12_next_170 (by decide) ?_
        exact go_sub [2, 1, 0] rfl (ih99 _ _ _ h)
      intro v2 v4 O h
      rw [X12_next_l99] at h
      refine go_aload_n K dX12_next_99 0 rfl rfl ?_
      refine gf_X12 K 15 (by decide) kf_X12_190 (v := .int (O.1 446 15)) rfl dX12_next_100 ?_
      refine go_aload_n K dX12_next_103 0 rfl rfl ?_
      refine gf_X12 K 14 (by decide) kf_X12_193 (v := .int (O.1 446 14)) rfl dX12_next_104 ?_
      refine go_icmp_ge (tgt := 173) K dX12_next_107 (by decide) (fun c25 => ?_) (fun c25 => ?_)
      · replace h := ite_t h c25
        exact hj173 _ _ _ h
      replace h := ite_f h c25
      refine go_aload_n K dX12_next_110 0 rfl rfl ?_
      refine gf_X12 K 2 (by decide) kf_X12_16 (v := .ref (gB G + 449)) rfl dX12_next_111 ?_
      refine go_aload_n K dX12_next_114 0 rfl rfl ?_
      refine gf_X12 K 15 (by decide) kf_X12_190 (v := .int (O.1 446 15)) rfl dX12_next_115 ?_
      obtain ⟨g26, h⟩ := gd_e h
      refine go_mbald K (Nat.le_of_ble_eq_true rfl) sh_449 g26 rfl dX12_next_118 ?_
      refine go_cSI K (c_X12_isLetter l G _ _ _ _ rfl) cf_X12_isLetter kt_X12_isLetter km_X12_202 (by decide) rfl rfl (Nat.le_of_ble_eq_true rfl) dX12_next_119 ?_
      refine go_if_eq (tgt := 173) K dX12_next_122 (by decide) (fun c27 => ?_) (fun c27 => ?_)
      · replace h := ite_t h c27
        exact hj173 _ _ _ h
      replace h := ite_f h c27
      refine go_iload K dX12_next_125 2 rfl ?_
      refine go_bipush (v := (8 : Int32)) K dX12_next_127 (by decide) ?_
      refine go_icmp_ge (tgt := 155) K dX12_next_129 (by decide) (fun c28 => ?_) (fun c28 => ?_)
      · replace h := ite_t h c28
        refine go_lload_n K dX12_next_155 1 rfl rfl ?_
        exact go_sub [0, 2] rfl (hj156 _ _ _ h)
      replace h := ite_f h c28
      refine go_ldc2 K kk_X12_205 dX12_next_132 ?_
      refine go_lload_n K dX12_next_135 1 rfl rfl ?_
      refine go_lmul K dX12_next_136 ?_
      refine go_aload_n K dX12_next_137 0 rfl rfl ?_
      refine gf_X12 K 2 (by decide) kf_X12_16 (v := .ref (gB G + 449)) rfl dX12_next_138 ?_
      refine go_aload_n K dX12_next_141 0 rfl rfl ?_
      refine gf_X12 K 15 (by decide) kf_X12_190 (v := .int (O.1 446 15)) rfl dX12_next_142 ?_
      obtain ⟨g29, h⟩ := gd_e h
      refine go_mbald K (Nat.le_of_ble_eq_true rfl) sh_449 g29 rfl dX12_next_145 ?_
      refine go_i2l K dX12_next_146 ?_
      refine go_ladd K dX12_next_147 ?_
      refine go_ldc2 K kk_X12_205 dX12_next_148 ?_
      refine go_lsub K dX12_next_151 ?_
      refine go_goto (tgt := 156) K dX12_next_152 (by decide) ?_
      exact go_sub [0, 2] rfl (hj156 _ _ _ h)
  have hj52 : ∀ (O : OM), X12_next_j52 O = some O' → GO pM l eM (3) sM mM aM bM meM cM (MQ bM (va_Qv (fun (u : CM × OM) => u = (C, O')) (wB G) (Fr G)) aM sM 0 0 (Fr G)) G 5 (C, O) 52 [(0, .ref (gB G + 446))] [] := by
    intro O h
    rw [X12_next_j52] at h
    refine go_aload_n K dX12_next_52 0 rfl rfl ?_
    refine go_aload_n K dX12_next_53 0 rfl rfl ?_
    refine gf_X12 K 15 (by decide) kf_X12_190 (v := .int (O.1 446 15)) rfl dX12_next_54 ?_
    refine pf_X12 K 16 (by decide) kf_X12_196 rfl rfl rfl dX12_next_57 ?_
    refine go_aload_n K dX12_next_60 0 rfl rfl ?_
    refine gf_X12 K 15 (by decide) kf_X12_190 (v := .int ((oup O 446 16 (O.1 446 15)).1 446 15)) rfl dX12_next_61 ?_
    refine go_aload_n K dX12_next_64 0 rfl rfl ?_
    refine gf_X12 K 14 (by decide) kf_X12_193 (v := .int ((oup O 446 16 (O.1 446 15)).1 446 14)) rfl dX12_next_65 ?_
    refine go_icmp_ne (tgt := 77) K dX12_next_68 (by decide) (fun c6 => ?_) (fun c6 => ?_)
    rotate_left
    · replace h := ite_t h c6
      refine go_aload_n K dX12_next_71 0 rfl rfl ?_
      refine go_iconst (v := (0 : Int32)) K dX12_next_72 (by decide) ?_
      refine pf_X12 K 17 (by decide) kf_X12_199 rfl rfl rfl dX12_next_73 ?_
      exact go_vret K hr (congrArg (fun z => (C, z)) (Option.some.inj h)) dX12_next_76
    replace h := ite_f h c6
    refine go_aload_n K dX12_next_77 0 rfl rfl ?_
    refine gf_X12 K 2 (by decide) kf_X12_16 (v := .ref (gB G + 449)) rfl dX12_next_78 ?_
    refine go_aload_n K dX12_next_81 0 rfl rfl ?_
    refine gf_X12 K 15 (by decide) kf_X12_190 (v := .int ((oup O 446 16 (O.1 446 15)).1 446 15)) rfl dX12_next_82 ?_
    obtain ⟨g7, h⟩ := gd_e h
    refine go_mbald K (Nat.le_of_ble_eq_true rfl) sh_449 g7 rfl dX12_next_85 ?_
    refine go_istore_n K dX12_next_86 rfl (by decide) (lv' := [(1, .int ((oup O 446 16 (O.1 446 15)).1 449 ((oup O 446 16 (O.1 446 15)).1 446 15).toNatClampNeg)), (0, .ref (gB G + 446))]) rfl ?_
    refine go_iload_n K dX12_next_87 0 rfl rfl ?_
    refine go_cSI K (c_X12_isLetter l G _ _ _ _ rfl) cf_X12_isLetter kt_X12_isLetter km_X12_202 (by decide) rfl rfl (Nat.le_of_ble_eq_true rfl) dX12_next_88 ?_
    refine go_if_eq (tgt := 211) K dX12_next_91 (by decide) (fun c8 => ?_) (fun c8 => ?_)
    rotate_left
    · replace h := ite_f h c8
      refine go_lconst (v := (0 : Int64)) K dX12_next_94 (by decide) ?_
      refine go_lstore_n K dX12_next_95 rfl (by decide) (lv' := [(2, .long (0 : Int64)), (1, .int ((oup O 446 16 (O.1 446 15)).1 449 ((oup O 446 16 (O.1 446 15)).1 446 15).toNatClampNeg)), (0, .ref (gB G + 446))]) rfl ?_
      refine go_iconst (v := (0 : Int32)) K dX12_next_96 (by decide) ?_
      refine go_istore K dX12_next_97 (by decide) (lv' := [(4, .int (0 : Int32)), (2, .long (0 : Int64)), (1, .int ((oup O 446 16 (O.1 446 15)).1 449 ((oup O 446 16 (O.1 446 15)).1 446 15).toNatClampNeg)), (0, .ref (gB G + 446))]) rfl ?_
      exact go_sub [3, 1, 0] rfl (hl99 FU _ _ _ h)
    replace h := ite_t h c8
    refine go_iload_n K dX12_next_211 0 rfl rfl ?_
    refine go_bipush (v := (48 : Int32)) K dX12_next_212 (by decide) ?_
    refine go_bipush (v := (57 : Int32)) K dX12_next_214 (by decide) ?_
    refine go_cSI K (c_X12_in l G _ _ _ _ _ _ rfl) cf_X12_in kt_X12_in km_X12_107 (by decide) rfl rfl (Nat.le_of_ble_eq_true rfl) dX12_next_216 ?_
    refine go_if_eq (tgt := 315) K dX12_next_219 (by decide) (fun c9 => ?_) (fun c9 => ?_)
    rotate_left
    · replace h := ite_f h c9
      refine go_aload_n K dX12_next_222 1 rfl rfl ?_
      refine go_iconst (v := (2 : Int32)) K dX12_next_223 (by decide) ?_
      refine pf_X12 K 17 (by decide) kf_X12_199 rfl rfl rfl dX12_next_224 ?_
      refine go_aload_n K dX12_next_227 1 rfl rfl ?_
      refine go_iconst (v := (0 : Int32)) K dX12_next_228 (by decide) ?_
      refine pf_X12 K 18 (by decide) kf_X12_211 rfl rfl rfl dX12_next_229 ?_
      exact go_sub [1] rfl (hl232 FU _ h)
    replace h := ite_t h c9
    refine go_aload_n K dX12_next_315 1 rfl rfl ?_
    refine go_dup K dX12_next_316 rfl ?_
    refine gf_X12 K 15 (by decide) kf_X12_190 (v := .int ((oup O 446 16 (O.1 446 15)).1 446 15)) rfl dX12_next_317 ?_
    refine go_iconst (v := (1 : Int32)) K dX12_next_320 (by decide) ?_
    refine go_iadd K dX12_next_321 ?_
    refine pf_X12 K 15 (by decide) kf_X12_190 rfl rfl rfl dX12_next_322 ?_
    refine go_aload_n K dX12_next_325 1 rfl rfl ?_
    refine go_iload_n K dX12_next_326 0 rfl rfl ?_
    refine pf_X12 K 18 (by decide) kf_X12_211 rfl rfl rfl dX12_next_327 ?_
    refine go_aload_n K dX12_next_330 1 rfl rfl ?_
    refine go_iload_n K dX12_next_331 0 rfl rfl ?_
    refine go_bipush (v := (59 : Int32)) K dX12_next_332 (by decide) ?_
    refine go_bipush (v := (62 : Int32)) K dX12_next_334 (by decide) ?_
    refine go_cSI K (c_X12_in l G _ _ _ _ _ _ rfl) cf_X12_in kt_X12_in km_X12_107 (by decide) rfl rfl (Nat.le_of_ble_eq_true rfl) dX12_next_336 ?_
    refine go_if_ne (tgt := 365) K dX12_next_339 (by decide) (fun c10 => ?_) (fun c10 => ?_)
    · replace h := ite_f h c10
      exact go_sub [1, 0] rfl (hj365 _ _ h)
    replace h := ite_t h c10
    refine go_iload_n K dX12_next_342 0 rfl rfl ?_
    refine go_bipush (v := (40 : Int32)) K dX12_next_343 (by decide) ?_
    refine go_bipush (v := (45 : Int32)) K dX12_next_345 (by decide) ?_
    refine go_cSI K (c_X12_in l G _ _ _ _ _ _ rfl) cf_X12_in kt_X12_in km_X12_107 (by decide) rfl rfl (Nat.le_of_ble_eq_true rfl) dX12_next_347 ?_
    refine go_if_ne (tgt := 365) K dX12_next_350 (by decide) (fun c17 => ?_) (fun c17 => ?_)
    · replace h := ite_f h c17
      exact go_sub [1, 0] rfl (hj365 _ _ h)
    replace h := ite_t h c17
    refine go_iload_n K dX12_next_353 0 rfl rfl ?_
    refine go_bipush (v := (47 : Int32)) K dX12_next_354 (by decide) ?_
    refine go_icmp_eq (tgt := 365) K dX12_next_356 (by decide) (fun c18 => ?_) (fun c18 => ?_)
    · replace h := ite_t h c18
      exact go_sub [1, 0] rfl (hj365 _ _ h)
    replace h := ite_f h c18
    refine go_iload_n K dX12_next_359 0 rfl rfl ?_
    refine go_bipush (v := (35 : Int32)) K dX12_next_360 (by decide) ?_
    refine go_icmp_ne (tgt := 369) K dX12_next_362 (by decide) (fun c19 => ?_) (fun c19 => ?_)
    rotate_left
    · replace h := ite_t h c19
      exact go_sub [1, 0] rfl (hj365 _ _ h)
    replace h := ite_f h c19
    refine go_iconst (v := (4 : Int32)) K dX12_next_369 (by decide) ?_
    exact go_sub [1, 0] rfl (hj370 _ _ _ h)
  have hl0 : ∀ (n0 : Nat) (O : OM), X12_next_l0 (fun O => (X12_next_j52 O)) n0 O = some O' → GO pM l eM (3) sM mM aM bM meM cM (MQ bM (va_Qv (fun (u : CM × OM) => u = (C, O')) (wB G) (Fr G)) aM sM 0 0 (Fr G)) G 5 (C, O) 0 [(0, .ref (gB G + 446))] [] := by
    intro n0
    induction n0 with
    | zero =>
      intro O h
      rw [X12_next_l0] at h
      cases h
    | succ n0 ih0 =>
      have hj39 : ∀ (O : OM), X12_next_j39 (fun O => X12_next_l0 (fun O => (X12_next_j52 O)) n0 O) (fun O => (X12_next_j52 O)) O = some O' → GO pM l eM (3) sM mM aM bM meM cM (MQ bM (va_Qv (fun (u : CM × OM) => u = (C, O')) (wB G) (Fr G)) aM sM 0 0 (Fr G)) G 5 (C, O) 39 [(0, .ref (gB G + 446))] [] := by
        intro O h
        rw [X12_next_j39] at h
        refine go_aload_n K dX12_next_39 0 rfl rfl ?_
        refine go_dup K dX12_next_40 rfl ?_
        refine gf_X12 K 15 (by decide) kf_X12_190 (v := .int (O.1 446 15)) rfl dX12_next_41 ?_
        refine go_iconst (v := (1 : Int32)) K dX12_next_44 (by decide) ?_
        refine go_iadd K dX12_next_45 ?_
        refine pf_X12 K 15 (by decide) kf_X12_190 rfl rfl rfl dX12_next_46 ?_
        refine go_goto (tgt := 0) K dX12_next_49 (by decide) ?_
        exact ih0 _ h
      intro O h
      rw [X12_next_l0] at h
      refine go_aload_n K dX12_next_0 0 rfl rfl ?_
      refine gf_X12 K 15 (by decide) kf_X12_190 (v := .int (O.1 446 15)) rfl dX12_next_1 ?_
      refine go_aload_n K dX12_next_4 0 rfl rfl ?_
      refine gf_X12 K 14 (by decide) kf_X12_193 (v := .int (O.1 446 14)) rfl dX12_next_5 ?_
      refine go_icmp_ge (tgt := 52) K dX12_next_8 (by decide) (fun c1 => ?_) (fun c1 => ?_)
      · replace h := ite_t h c1
        exact hj52 _ h
      replace h := ite_f h c1
      refine go_aload_n K dX12_next_11 0 rfl rfl ?_
      refine gf_X12 K 2 (by decide) kf_X12_16 (v := .ref (gB G + 449)) rfl dX12_next_12 ?_
      refine go_aload_n K dX12_next_15 0 rfl rfl ?_
      refine gf_X12 K 15 (by decide) kf_X12_190 (v := .int (O.1 446 15)) rfl dX12_next_16 ?_
      obtain ⟨g2, h⟩ := gd_e h
      refine go_mbald K (Nat.le_of_ble_eq_true rfl) sh_449 g2 rfl dX12_next_19 ?_
      refine go_bipush (v := (32 : Int32)) K dX12_next_20 (by decide) ?_
      refine go_icmp_eq (tgt := 39) K dX12_next_22 (by decide) (fun c3 => ?_) (fun c3 => ?_)
      · replace h := ite_t h c3
        exact hj39 _ h
      replace h := ite_f h c3
      refine go_aload_n K dX12_next_25 0 rfl rfl ?_
      refine gf_X12 K 2 (by decide) kf_X12_16 (v := .ref (gB G + 449)) rfl dX12_next_26 ?_
      refine go_aload_n K dX12_next_29 0 rfl rfl ?_
      refine gf_X12 K 15 (by decide) kf_X12_190 (v := .int (O.1 446 15)) rfl dX12_next_30 ?_
      obtain ⟨g4, h⟩ := gd_e h
      refine go_mbald K (Nat.le_of_ble_eq_true rfl) sh_449 g4 rfl dX12_next_33 ?_
      refine go_bipush (v := (10 : Int32)) K dX12_next_34 (by decide) ?_
      refine go_icmp_ne (tgt := 52) K dX12_next_36 (by decide) (fun c5 => ?_) (fun c5 => ?_)
      · replace h := ite_f h c5
        exact hj52 _ h
      replace h := ite_t h c5
      exact hj39 _ h
  rw [f_X12_next] at h
  exact hl0 FU _ h
