noncomputable def f_X12_walks (v1 : Int32) (v2 : Int32) (O : OM) : Option OM := (gd (inb ((7 : Int32) + v1) 164) (gd (inb ((7 : Int32) + v1) 164) (some (oup O 470 ((7 : Int32) + v1).toNatClampNeg (irm (((O.1 470 ((7 : Int32) + v1).toNatClampNeg) + v2) + (8 : Int32)) (8 : Int32))))))
theorem cf_X12_walks : CF yX12_walks cX12_walks 3 (Option.none : Option Jvm.ClassFile.FieldType) 2 := ⟨kc_X12_walks, kj_X12, ⟨by decide +kernel, by decide +kernel, by decide +kernel⟩, by decide⟩
theorem cv_X12_walks : CFv yX12_walks := ⟨ki_X12_walks, ks_X12_walks⟩
set_option maxHeartbeats 4000000 in
set_option maxRecDepth 100000 in
theorem c_X12_walks (l : Launch) (G : GT) (v1 : Int32) (v2 : Int32) (C : CM) (O : OM) (O' : OM) (h : f_X12_walks v1 v2 O = some O') : MV l G yX12_walks cX12_walks 3 (Option.none : Option Jvm.ClassFile.FieldType) (1) [.ref (gB G + 446), .int v1, .int v2] (C, O) (C, O') := by
  unfold MV
  refine met_in RX12 (by decide +kernel) rfl [(0, .ref (gB G + 446)), (1, .int v1), (2, .int v2)] rfl (Nat.le_of_ble_eq_true rfl) ?_
  intro pM eM sM mM aM bM meM cM K hr
  rw [f_X12_walks] at h
  refine go_aload_n K dX12_walks_0 0 rfl rfl ?_
  refine gf_X12 K 40 (by decide) kf_X12_87 (v := .ref (gB G + 470)) rfl dX12_walks_1 ?_
  refine go_bipush (v := (7 : Int32)) K dX12_walks_4 (by decide) ?_
  refine go_iload_n K dX12_walks_6 1 rfl rfl ?_
  refine go_iadd K dX12_walks_7 ?_
  refine go_aload_n K dX12_walks_8 0 rfl rfl ?_
  refine gf_X12 K 40 (by decide) kf_X12_87 (v := .ref (gB G + 470)) rfl dX12_walks_9 ?_
  refine go_bipush (v := (7 : Int32)) K dX12_walks_12 (by decide) ?_
  refine go_iload_n K dX12_walks_14 1 rfl rfl ?_
  refine go_iadd K dX12_walks_15 ?_
  obtain ⟨g1, h⟩ := gd_e h
  refine go_mald K (Nat.le_of_ble_eq_true rfl) sh_470 g1 rfl dX12_walks_16 ?_
  refine go_iload_n K dX12_walks_17 2 rfl rfl ?_
  refine go_iadd K dX12_walks_18 ?_
  refine go_bipush (v := (8 : Int32)) K dX12_walks_19 (by decide) ?_
  refine go_iadd K dX12_walks_21 ?_
  refine go_bipush (v := (8 : Int32)) K dX12_walks_22 (by decide) ?_
  refine go_irem K dX12_walks_24 (by decide) ?_
  refine go_fold (y := (irm (((O.1 470 ((7 : Int32) + v1).toNatClampNeg) + v2) + (8 : Int32)) (8 : Int32))) rfl ?_
  obtain ⟨g2, h⟩ := gd_e h
  refine go_mast K (Nat.le_of_ble_eq_true rfl) sh_470 g2 rfl dX12_walks_25 ?_
  exact go_vret K hr (congrArg (fun z => (C, z)) (Option.some.inj h)) dX12_walks_26
noncomputable def X12_feasts_j67 (rc : Int32 → Int32 → OM → Option (Int32 × OM)) (v1 : Int32) (v2 : Int32) (v3 : Int32) (O : OM) : Option (Int32 × OM) := (gd (inb (f_X12_debtAt v2 v3) 164) (gd (inb (f_X12_debtAt v2 v3) 164) (rc (v1 + (O.1 470 (f_X12_debtAt v2 v3).toNatClampNeg)) (v2 + (1 : Int32)) (oup O 470 (f_X12_debtAt v2 v3).toNatClampNeg (0 : Int32)))))
noncomputable def X12_feasts_j60 (rc : Int32 → Int32 → Int32 → Int32 → OM → Option (Int32 × OM)) (k67 : Int32 → Int32 → Int32 → OM → Option (Int32 × OM)) (v1 : Int32) (v2 : Int32) (v4 : Int32) (t0 : Int32) (O : OM) : Option (Int32 × OM) := (rc v1 v2 t0 (v4 + (1 : Int32)) O)
noncomputable def X12_feasts_l19 (k67 : Int32 → Int32 → Int32 → OM → Option (Int32 × OM)) : Nat → Int32 → Int32 → Int32 → Int32 → OM → Option (Int32 × OM)
  | 0, _, _, _, _, _ => none
  | n + 1, v1, v2, v3, v4, O => (if (O.1 447 0) ≤ v4 then (k67 v1 v2 v3 O) else (gd (inb (f_X12_debtAt v2 v4) 164) (gd (inb (f_X12_debtAt v2 v3) 164) (if (O.1 470 (f_X12_debtAt v2 v4).toNatClampNeg) ≤ (O.1 470 (f_X12_debtAt v2 v3).toNatClampNeg) then (X12_feasts_j60 (fun v1 v2 v3 v4 O => X12_feasts_l19 k67 n v1 v2 v3 v4 O) k67 v1 v2 v4 v3 O) else (X12_feasts_j60 (fun v1 v2 v3 v4 O => X12_feasts_l19 k67 n v1 v2 v3 v4 O) k67 v1 v2 v4 v4 O)))))
noncomputable def X12_feasts_l4 : Nat → Int32 → Int32 → OM → Option (Int32 × OM)
  | 0, _, _, _ => none
  | n + 1, v1, v2, O => (if (O.1 447 0) ≤ v2 then (some (v1, O)) else (X12_feasts_l19 (fun v1 v2 v3 O => (X12_feasts_j67 (fun v1 v2 O => X12_feasts_l4 n v1 v2 O) v1 v2 v3 O)) FU v1 v2 (0 : Int32) (1 : Int32) O))
noncomputable def f_X12_feasts (O : OM) : Option (Int32 × OM) := (X12_feasts_l4 FU (0 : Int32) (0 : Int32) O)
theorem cf_X12_feasts : CF yX12_feasts cX12_feasts 5 (Option.some Jvm.ClassFile.FieldType.int) 0 := ⟨kc_X12_feasts, kj_X12, ⟨by decide +kernel, by decide +kernel, by decide +kernel⟩, by decide⟩
theorem cv_X12_feasts : CFv yX12_feasts := ⟨ki_X12_feasts, ks_X12_feasts⟩
set_option maxHeartbeats 4000000 in
set_option maxRecDepth 100000 in
theorem c_X12_feasts (l : Launch) (G : GT) (C : CM) (O : OM) (res : Int32) (O' : OM) (h : f_X12_feasts O = some (res, O')) : MI l G yX12_feasts cX12_feasts 5 (Option.some Jvm.ClassFile.FieldType.int) (2) [.ref (gB G + 446)] (C, O) res (C, O') := by
  unfold MI
  refine met_in RX12 (by decide +kernel) rfl [(0, .ref (gB G + 446))] rfl (Nat.le_of_ble_eq_true rfl) ?_
  intro pM eM sM mM aM bM meM cM K hr
  have hl4 : ∀ (n4 : Nat) (v1 : Int32) (v2 : Int32) (O : OM), X12_feasts_l4 n4 v1 v2 O = some (res, O') → GO pM l eM (2) sM mM aM bM meM cM (MQ bM (va_Qi (fun (r' : Int32) (u : CM × OM) => r' = res ∧ u = (C, O')) (wB G) (Fr G)) aM sM 0 0 (Fr G)) G 5 (C, O) 4 [(0, .ref (gB G + 446)), (1, .int v1), (2, .int v2)] [] := by
    intro n4
    induction n4 with
    | zero =>
      intro v1 v2 O h
      rw [X12_feasts_l4] at h
      cases h
    | succ n4 ih4 =>
      have hj67 : ∀ (v1 : Int32) (v2 : Int32) (v3 : Int32) (O : OM), X12_feasts_j67 (fun v1 v2 O => X12_feasts_l4 n4 v1 v2 O) v1 v2 v3 O = some (res, O') → GO pM l eM (2) sM mM aM bM meM cM (MQ bM (va_Qi (fun (r' : Int32) (u : CM × OM) => r' = res ∧ u = (C, O')) (wB G) (Fr G)) aM sM 0 0 (Fr G)) G 5 (C, O) 67 [(0, .ref (gB G + 446)), (1, .int v1), (2, .int v2), (3, .int v3)] [] := by
        intro v1 v2 v3 O h
        rw [X12_feasts_j67] at h
        refine go_iload_n K dX12_feasts_67 1 rfl rfl ?_
        refine go_aload_n K dX12_feasts_68 0 rfl rfl ?_
        refine gf_X12 K 40 (by decide) kf_X12_87 (v := .ref (gB G + 470)) rfl dX12_feasts_69 ?_
        refine go_iload_n K dX12_feasts_72 2 rfl rfl ?_
        refine go_iload_n K dX12_feasts_73 3 rfl rfl ?_
        refine go_cSI K (c_X12_debtAt l G _ _ _ _ _ rfl) cf_X12_debtAt kt_X12_debtAt km_X12_335 (by decide) rfl rfl (Nat.le_of_ble_eq_true rfl) dX12_feasts_74 ?_
        obtain ⟨g6, h⟩ := gd_e h
        refine go_mald K (Nat.le_of_ble_eq_true rfl) sh_470 g6 rfl dX12_feasts_77 ?_
        refine go_iadd K dX12_feasts_78 ?_
        refine go_istore_n K dX12_feasts_79 rfl (by decide) (lv' := [(1, .int (v1 + (O.1 470 (f_X12_debtAt v2 v3).toNatClampNeg))), (0, .ref (gB G + 446)), (2, .int v2), (3, .int v3)]) rfl ?_
        refine go_aload_n K dX12_feasts_80 1 rfl rfl ?_
        refine gf_X12 K 40 (by decide) kf_X12_87 (v := .ref (gB G + 470)) rfl dX12_feasts_81 ?_
        refine go_iload_n K dX12_feasts_84 2 rfl rfl ?_
        refine go_iload_n K dX12_feasts_85 3 rfl rfl ?_
        refine go_cSI K (c_X12_debtAt l G _ _ _ _ _ rfl) cf_X12_debtAt kt_X12_debtAt km_X12_335 (by decide) rfl rfl (Nat.le_of_ble_eq_true rfl) dX12_feasts_86 ?_
        refine go_iconst (v := (0 : Int32)) K dX12_feasts_89 (by decide) ?_
        obtain ⟨g7, h⟩ := gd_e h
        refine go_mast K (Nat.le_of_ble_eq_true rfl) sh_470 g7 rfl dX12_feasts_90 ?_
        refine go_iinc K dX12_feasts_91 2 rfl (v := (v2 + (1 : Int32))) rfl (by decide) (lv' := [(2, .int (v2 + (1 : Int32))), (1, .int (v1 + (O.1 470 (f_X12_debtAt v2 v3).toNatClampNeg))), (0, .ref (gB G + 446)), (3, .int v3)]) rfl ?_
        refine go_goto (tgt := 4) K dX12_feasts_94 (by decide) ?_
        exact go_sub [2, 1, 0] rfl (ih4 _ _ _ h)
      have hl19 : ∀ (n19 : Nat) (v1 : Int32) (v2 : Int32) (v3 : Int32) (v4 : Int32) (O : OM), X12_feasts_l19 (fun v1 v2 v3 O => (X12_feasts_j67 (fun v1 v2 O => X12_feasts_l4 n4 v1 v2 O) v1 v2 v3 O)) n19 v1 v2 v3 v4 O = some (res, O') → GO pM l eM (2) sM mM aM bM meM cM (MQ bM (va_Qi (fun (r' : Int32) (u : CM × OM) => r' = res ∧ u = (C, O')) (wB G) (Fr G)) aM sM 0 0 (Fr G)) G 5 (C, O) 19 [(0, .ref (gB G + 446)), (1, .int v1), (2, .int v2), (3, .int v3), (4, .int v4)] [] := by
        intro n19
        induction n19 with
        | zero =>
          intro v1 v2 v3 v4 O h
          rw [X12_feasts_l19] at h
          cases h
        | succ n19 ih19 =>
          have hj60 : ∀ (v1 : Int32) (v2 : Int32) (v4 : Int32) (t0 : Int32) (O : OM), X12_feasts_j60 (fun v1 v2 v3 v4 O => X12_feasts_l19 (fun v1 v2 v3 O => (X12_feasts_j67 (fun v1 v2 O => X12_feasts_l4 n4 v1 v2 O) v1 v2 v3 O)) n19 v1 v2 v3 v4 O) (fun v1 v2 v3 O => (X12_feasts_j67 (fun v1 v2 O => X12_feasts_l4 n4 v1 v2 O) v1 v2 v3 O)) v1 v2 v4 t0 O = some (res, O') → GO pM l eM (2) sM mM aM bM meM cM (MQ bM (va_Qi (fun (r' : Int32) (u : CM × OM) => r' = res ∧ u = (C, O')) (wB G) (Fr G)) aM sM 0 0 (Fr G)) G 5 (C, O) 60 [(0, .ref (gB G + 446)), (1, .int v1), (2, .int v2), (4, .int v4)] [.int t0] := by
            intro v1 v2 v4 t0 O h
            rw [X12_feasts_j60] at h
            refine go_istore_n K dX12_feasts_60 rfl (by decide) (lv' := [(3, .int t0), (0, .ref (gB G + 446)), (1, .int v1), (2, .int v2), (4, .int v4)]) rfl ?_
            refine go_iinc K dX12_feasts_61 4 rfl (v := (v4 + (1 : Int32))) rfl (by decide) (lv' := [(4, .int (v4 + (1 : Int32))), (3, .int t0), (0, .ref (gB G + 446)), (1, .int v1), (2, .int v2)]) rfl ?_
            refine go_goto (tgt := 19) K dX12_feasts_64 (by decide) ?_
            exact go_sub [2, 3, 4, 1, 0] rfl (ih19 _ _ _ _ _ h)
          intro v1 v2 v3 v4 O h
          rw [X12_feasts_l19] at h
          refine go_iload K dX12_feasts_19 4 rfl ?_
          refine go_aload_n K dX12_feasts_21 0 rfl rfl ?_
          refine gf_X12 K 0 (by decide) kf_X12_7 (v := .ref (gB G + 447)) rfl dX12_feasts_22 ?_
          refine go_iconst (v := (0 : Int32)) K dX12_feasts_25 (by decide) ?_
          refine go_mald K (Nat.le_of_ble_eq_true rfl) sh_447 (in_k (k := 0) (by decide) (by decide)) rfl dX12_feasts_26 ?_
          refine go_icmp_ge (tgt := 67) K dX12_feasts_27 (by decide) (fun c2 => ?_) (fun c2 => ?_)
          · replace h := ite_t h c2
            exact go_sub [0, 1, 2, 3] rfl (hj67 _ _ _ _ h)
          replace h := ite_f h c2
          refine go_aload_n K dX12_feasts_30 0 rfl rfl ?_
          refine gf_X12 K 40 (by decide) kf_X12_87 (v := .ref (gB G + 470)) rfl dX12_feasts_31 ?_
          refine go_iload_n K dX12_feasts_34 2 rfl rfl ?_
          refine go_iload K dX12_feasts_35 4 rfl ?_
          refine go_cSI K (c_X12_debtAt l G _ _ _ _ _ rfl) cf_X12_debtAt kt_X12_debtAt km_X12_335 (by decide) rfl rfl (Nat.le_of_ble_eq_true rfl) dX12_feasts_37 ?_
          obtain ⟨g3, h⟩ := gd_e h
          refine go_mald K (Nat.le_of_ble_eq_true rfl) sh_470 g3 rfl dX12_feasts_40 ?_
          refine go_aload_n K dX12_feasts_41 0 rfl rfl ?_
          refine gf_X12 K 40 (by decide) kf_X12_87 (v := .ref (gB G + 470)) rfl dX12_feasts_42 ?_
          refine go_iload_n K dX12_feasts_45 2 rfl rfl ?_
          refine go_iload_n K dX12_feasts_46 3 rfl rfl ?_
          refine go_cSI K (c_X12_debtAt l G _ _ _ _ _ rfl) cf_X12_debtAt kt_X12_debtAt km_X12_335 (by decide) rfl rfl (Nat.le_of_ble_eq_true rfl) dX12_feasts_47 ?_
          obtain ⟨g4, h⟩ := gd_e h
          refine go_mald K (Nat.le_of_ble_eq_true rfl) sh_470 g4 rfl dX12_feasts_50 ?_
          refine go_icmp_le (tgt := 59) K dX12_feasts_51 (by decide) (fun c5 => ?_) (fun c5 => ?_)
          · replace h := ite_t h c5
            refine go_iload_n K dX12_feasts_59 3 rfl rfl ?_
            exact go_sub [0, 1, 2, 4] rfl (hj60 _ _ _ _ _ h)
          replace h := ite_f h c5
          refine go_iload K dX12_feasts_54 4 rfl ?_
          refine go_goto (tgt := 60) K dX12_feasts_56 (by decide) ?_
          exact go_sub [0, 1, 2, 4] rfl (hj60 _ _ _ _ _ h)
      intro v1 v2 O h
      rw [X12_feasts_l4] at h
      refine go_iload_n K dX12_feasts_4 2 rfl rfl ?_
      refine go_aload_n K dX12_feasts_5 0 rfl rfl ?_
      refine gf_X12 K 0 (by decide) kf_X12_7 (v := .ref (gB G + 447)) rfl dX12_feasts_6 ?_
      refine go_iconst (v := (0 : Int32)) K dX12_feasts_9 (by decide) ?_
      refine go_mald K (Nat.le_of_ble_eq_true rfl) sh_447 (in_k (k := 0) (by decide) (by decide)) rfl dX12_feasts_10 ?_
      refine go_icmp_ge (tgt := 97) K dX12_feasts_11 (by decide) (fun c1 => ?_) (fun c1 => ?_)
      · replace h := ite_t h c1
        refine go_iload_n K dX12_feasts_97 1 rfl rfl ?_
        exact go_iret K hr (Prod.mk.inj (Option.some.inj h)).1 (congrArg (fun z => (C, z)) (Prod.mk.inj (Option.some.inj h)).2) dX12_feasts_98
      replace h := ite_f h c1
      refine go_iconst (v := (0 : Int32)) K dX12_feasts_14 (by decide) ?_
      refine go_istore_n K dX12_feasts_15 rfl (by decide) (lv' := [(3, .int (0 : Int32)), (0, .ref (gB G + 446)), (1, .int v1), (2, .int v2)]) rfl ?_
      refine go_iconst (v := (1 : Int32)) K dX12_feasts_16 (by decide) ?_
      refine go_istore K dX12_feasts_17 (by decide) (lv' := [(4, .int (1 : Int32)), (3, .int (0 : Int32)), (0, .ref (gB G + 446)), (1, .int v1), (2, .int v2)]) rfl ?_
      exact go_sub [2, 3, 4, 1, 0] rfl (hl19 FU _ _ _ _ _ h)
  rw [f_X12_feasts] at h
  refine go_iconst (v := (0 : Int32)) K dX12_feasts_0 (by decide) ?_
  refine go_istore_n K dX12_feasts_1 rfl (by decide) (lv' := [(1, .int (0 : Int32)), (0, .ref (gB G + 446))]) rfl ?_
  refine go_iconst (v := (0 : Int32)) K dX12_feasts_2 (by decide) ?_
  refine go_istore_n K dX12_feasts_3 rfl (by decide) (lv' := [(2, .int (0 : Int32)), (1, .int (0 : Int32)), (0, .ref (gB G + 446))]) rfl ?_
  exact go_sub [2, 1, 0] rfl (hl4 FU _ _ _ h)
noncomputable def X12_allOwedBy_l4 : Nat → Int32 → Int32 → Int32 → OM → Option Int32
  | 0, _, _, _, _ => none
  | n + 1, v1, v2, v3, O => (if (O.1 447 0) ≤ v3 then (some v2) else (gd (inb (f_X12_debtAt v1 v3) 164) (X12_allOwedBy_l4 n v1 (v2 + (O.1 470 (f_X12_debtAt v1 v3).toNatClampNeg)) (v3 + (1 : Int32)) O)))
noncomputable def f_X12_allOwedBy (v1 : Int32) (O : OM) : Option Int32 := (X12_allOwedBy_l4 FU v1 (0 : Int32) (0 : Int32) O)
theorem cf_X12_allOwedBy : CF yX12_allOwedBy cX12_allOwedBy 4 (Option.some Jvm.ClassFile.FieldType.int) 1 := ⟨kc_X12_allOwedBy, kj_X12, ⟨by decide +kernel, by decide +kernel, by decide +kernel⟩, by decide⟩
theorem cv_X12_allOwedBy : CFv yX12_allOwedBy := ⟨ki_X12_allOwedBy, ks_X12_allOwedBy⟩
set_option maxHeartbeats 4000000 in
set_option maxRecDepth 100000 in
theorem c_X12_allOwedBy (l : Launch) (G : GT) (v1 : Int32) (C : CM) (O : OM) (res : Int32) (h : f_X12_allOwedBy v1 O = some res) : MI l G yX12_allOwedBy cX12_allOwedBy 4 (Option.some Jvm.ClassFile.FieldType.int) (2) [.ref (gB G + 446), .int v1] (C, O) res (C, O) := by
  unfold MI
  refine met_in RX12 (by decide +kernel) rfl [(0, .ref (gB G + 446)), (1, .int v1)] rfl (Nat.le_of_ble_eq_true rfl) ?_
  intro pM eM sM mM aM bM meM cM K hr
  have hl4 : ∀ (n4 : Nat) (v1 : Int32) (v2 : Int32) (v3 : Int32), X12_allOwedBy_l4 n4 v1 v2 v3 O = some res → GO pM l eM (2) sM mM aM bM meM cM (MQ bM (va_Qi (fun (r' : Int32) (u : CM × OM) => r' = res ∧ u = (C, O)) (wB G) (Fr G)) aM sM 0 0 (Fr G)) G 4 (C, O) 4 [(0, .ref (gB G + 446)), (1, .int v1), (2, .int v2), (3, .int v3)] [] := by
    intro n4
    induction n4 with
    | zero =>
      intro v1 v2 v3 h
      rw [X12_allOwedBy_l4] at h
      cases h
    | succ n4 ih4 =>
      intro v1 v2 v3 h
      rw [X12_allOwedBy_l4] at h
      refine go_iload_n K dX12_allOwedBy_4 3 rfl rfl ?_
      refine go_aload_n K dX12_allOwedBy_5 0 rfl rfl ?_
      refine gf_X12 K 0 (by decide) kf_X12_7 (v := .ref (gB G + 447)) rfl dX12_allOwedBy_6 ?_
      refine go_iconst (v := (0 : Int32)) K dX12_allOwedBy_9 (by decide) ?_
      refine go_mald K (Nat.le_of_ble_eq_true rfl) sh_447 (in_k (k := 0) (by decide) (by decide)) rfl dX12_allOwedBy_10 ?_
      refine go_icmp_ge (tgt := 33) K dX12_allOwedBy_11 (by decide) (fun c1 => ?_) (fun c1 => ?_)
      · replace h := ite_t h c1
        refine go_iload_n K dX12_allOwedBy_33 2 rfl rfl ?_
        exact go_iret K hr (Option.some.inj h) rfl dX12_allOwedBy_34
      replace h := ite_f h c1
      refine go_iload_n K dX12_allOwedBy_14 2 rfl rfl ?_
      refine go_aload_n K dX12_allOwedBy_15 0 rfl rfl ?_
      refine gf_X12 K 40 (by decide) kf_X12_87 (v := .ref (gB G + 470)) rfl dX12_allOwedBy_16 ?_
      refine go_iload_n K dX12_allOwedBy_19 1 rfl rfl ?_
      refine go_iload_n K dX12_allOwedBy_20 3 rfl rfl ?_
      refine go_cSI K (c_X12_debtAt l G _ _ _ _ _ rfl) cf_X12_debtAt kt_X12_debtAt km_X12_335 (by decide) rfl rfl (Nat.le_of_ble_eq_true rfl) dX12_allOwedBy_21 ?_
      obtain ⟨g2, h⟩ := gd_e h
      refine go_mald K (Nat.le_of_ble_eq_true rfl) sh_470 g2 rfl dX12_allOwedBy_24 ?_
      refine go_iadd K dX12_allOwedBy_25 ?_
      refine go_istore_n K dX12_allOwedBy_26 rfl (by decide) (lv' := [(2, .int (v2 + (O.1 470 (f_X12_debtAt v1 v3).toNatClampNeg))), (0, .ref (gB G + 446)), (1, .int v1), (3, .int v3)]) rfl ?_
      refine go_iinc K dX12_allOwedBy_27 3 rfl (v := (v3 + (1 : Int32))) rfl (by decide) (lv' := [(3, .int (v3 + (1 : Int32))), (2, .int (v2 + (O.1 470 (f_X12_debtAt v1 v3).toNatClampNeg))), (0, .ref (gB G + 446)), (1, .int v1)]) rfl ?_
      refine go_goto (tgt := 4) K dX12_allOwedBy_30 (by decide) ?_
      exact go_sub [2, 3, 1, 0] rfl (ih4 _ _ _ h)
  rw [f_X12_allOwedBy] at h
  refine go_iconst (v := (0 : Int32)) K dX12_allOwedBy_0 (by decide) ?_
  refine go_istore_n K dX12_allOwedBy_1 rfl (by decide) (lv' := [(2, .int (0 : Int32)), (0, .ref (gB G + 446)), (1, .int v1)]) rfl ?_
  refine go_iconst (v := (0 : Int32)) K dX12_allOwedBy_2 (by decide) ?_
  refine go_istore_n K dX12_allOwedBy_3 rfl (by decide) (lv' := [(3, .int (0 : Int32)), (2, .int (0 : Int32)), (0, .ref (gB G + 446)), (1, .int v1)]) rfl ?_
  exact go_sub [2, 3, 1, 0] rfl (hl4 FU _ _ _ h)
noncomputable def X12_allOwedTo_l4 : Nat → Int32 → Int32 → Int32 → OM → Option Int32
  | 0, _, _, _, _ => none
  | n + 1, v1, v2, v3, O => (if (O.1 447 0) ≤ v3 then (some v2) else (gd (inb (f_X12_debtAt v3 v1) 164) (X12_allOwedTo_l4 n v1 (v2 + (O.1 470 (f_X12_debtAt v3 v1).toNatClampNeg)) (v3 + (1 : Int32)) O)))
noncomputable def f_X12_allOwedTo (v1 : Int32) (O : OM) : Option Int32 := (X12_allOwedTo_l4 FU v1 (0 : Int32) (0 : Int32) O)
theorem cf_X12_allOwedTo : CF yX12_allOwedTo cX12_allOwedTo 4 (Option.some Jvm.ClassFile.FieldType.int) 1 := ⟨kc_X12_allOwedTo, kj_X12, ⟨by decide +kernel, by decide +kernel, by decide +kernel⟩, by decide⟩
theorem cv_X12_allOwedTo : CFv yX12_allOwedTo := ⟨ki_X12_allOwedTo, ks_X12_allOwedTo⟩
set_option maxHeartbeats 4000000 in
set_option maxRecDepth 100000 in
theorem c_X12_allOwedTo (l : Launch) (G : GT) (v1 : Int32) (C : CM) (O : OM) (res : Int32) (h : f_X12_allOwedTo v1 O = some res) : MI l G yX12_allOwedTo cX12_allOwedTo 4 (Option.some Jvm.ClassFile.FieldType.int) (2) [.ref (gB G + 446), .int v1] (C, O) res (C, O) := by
  unfold MI
  refine met_in RX12 (by decide +kernel) rfl [(0, .ref (gB G + 446)), (1, .int v1)] rfl (Nat.le_of_ble_eq_true rfl) ?_
  intro pM eM sM mM aM bM meM cM K hr
  have hl4 : ∀ (n4 : Nat) (v1 : Int32) (v2 : Int32) (v3 : Int32), X12_allOwedTo_l4 n4 v1 v2 v3 O = some res → GO pM l eM (2) sM mM aM bM meM cM (MQ bM (va_Qi (fun (r' : Int32) (u : CM × OM) => r' = res ∧ u = (C, O)) (wB G) (Fr G)) aM sM 0 0 (Fr G)) G 4 (C, O) 4 [(0, .ref (gB G + 446)), (1, .int v1), (2, .int v2), (3, .int v3)] [] := by
    intro n4
    induction n4 with
    | zero =>
      intro v1 v2 v3 h
      rw [X12_allOwedTo_l4] at h
      cases h
    | succ n4 ih4 =>
      intro v1 v2 v3 h
      rw [X12_allOwedTo_l4] at h
      refine go_iload_n K dX12_allOwedTo_4 3 rfl rfl ?_
      refine go_aload_n K dX12_allOwedTo_5 0 rfl rfl ?_
      refine gf_X12 K 0 (by decide) kf_X12_7 (v := .ref (gB G + 447)) rfl dX12_allOwedTo_6 ?_
      refine go_iconst (v := (0 : Int32)) K dX12_allOwedTo_9 (by decide) ?_
      refine go_mald K (Nat.le_of_ble_eq_true rfl) sh_447 (in_k (k := 0) (by decide) (by decide)) rfl dX12_allOwedTo_10 ?_
      refine go_icmp_ge (tgt := 33) K dX12_allOwedTo_11 (by decide) (fun c1 => ?_) (fun c1 => ?_)
      · replace h := ite_t h c1
        refine go_iload_n K dX12_allOwedTo_33 2 rfl rfl ?_
        exact go_iret K hr (Option.some.inj h) rfl dX12_allOwedTo_34
      replace h := ite_f h c1
      refine go_iload_n K dX12_allOwedTo_14 2 rfl rfl ?_
      refine go_aload_n K dX12_allOwedTo_15 0 rfl rfl ?_
      refine gf_X12 K 40 (by decide) kf_X12_87 (v := .ref (gB G + 470)) rfl dX12_allOwedTo_16 ?_
      refine go_iload_n K dX12_allOwedTo_19 3 rfl rfl ?_
      refine go_iload_n K dX12_allOwedTo_20 1 rfl rfl ?_
      refine go_cSI K (c_X12_debtAt l G _ _ _ _ _ rfl) cf_X12_debtAt kt_X12_debtAt km_X12_335 (by decide) rfl rfl (Nat.le_of_ble_eq_true rfl) dX12_allOwedTo_21 ?_
      obtain ⟨g2, h⟩ := gd_e h
      refine go_mald K (Nat.le_of_ble_eq_true rfl) sh_470 g2 rfl dX12_allOwedTo_24 ?_
      refine go_iadd K dX12_allOwedTo_25 ?_
      refine go_istore_n K dX12_allOwedTo_26 rfl (by decide) (lv' := [(2, .int (v2 + (O.1 470 (f_X12_debtAt v3 v1).toNatClampNeg))), (0, .ref (gB G + 446)), (1, .int v1), (3, .int v3)]) rfl ?_
      refine go_iinc K dX12_allOwedTo_27 3 rfl (v := (v3 + (1 : Int32))) rfl (by decide) (lv' := [(3, .int (v3 + (1 : Int32))), (2, .int (v2 + (O.1 470 (f_X12_debtAt v3 v1).toNatClampNeg))), (0, .ref (gB G + 446)), (1, .int v1)]) rfl ?_
      refine go_goto (tgt := 4) K dX12_allOwedTo_30 (by decide) ?_
      exact go_sub [2, 3, 1, 0] rfl (ih4 _ _ _ h)
  rw [f_X12_allOwedTo] at h
  refine go_iconst (v := (0 : Int32)) K dX12_allOwedTo_0 (by decide) ?_
  refine go_istore_n K dX12_allOwedTo_1 rfl (by decide) (lv' := [(2, .int (0 : Int32)), (0, .ref (gB G + 446)), (1, .int v1)]) rfl ?_
  refine go_iconst (v := (0 : Int32)) K dX12_allOwedTo_2 (by decide) ?_
  refine go_istore_n K dX12_allOwedTo_3 rfl (by decide) (lv' := [(3, .int (0 : Int32)), (2, .int (0 : Int32)), (0, .ref (gB G + 446)), (1, .int v1)]) rfl ?_
  exact go_sub [2, 3, 1, 0] rfl (hl4 FU _ _ _ h)
noncomputable def X12_writes_j51 (v1 : Int32) (v2 : Int32) (O : OM) : Option OM := (gd (inb ((74 : Int32) + ((3 : Int32) * (O.1 470 73))) 164) (gd (inb (((74 : Int32) + ((3 : Int32) * (O.1 470 73))) + (1 : Int32)) 164) (gd (inb (((74 : Int32) + ((3 : Int32) * (O.1 470 73))) + (2 : Int32)) 164) (some (oup (oup (oup (oup O 470 ((74 : Int32) + ((3 : Int32) * (O.1 470 73))).toNatClampNeg (O.1 470 70)) 470 (((74 : Int32) + ((3 : Int32) * (O.1 470 73))) + (1 : Int32)).toNatClampNeg v1) 470 (((74 : Int32) + ((3 : Int32) * (O.1 470 73))) + (2 : Int32)).toNatClampNeg v2) 470 73 (((oup (oup (oup O 470 ((74 : Int32) + ((3 : Int32) * (O.1 470 73))).toNatClampNeg (O.1 470 70)) 470 (((74 : Int32) + ((3 : Int32) * (O.1 470 73))) + (1 : Int32)).toNatClampNeg v1) 470 (((74 : Int32) + ((3 : Int32) * (O.1 470 73))) + (2 : Int32)).toNatClampNeg v2).1 470 73) + (1 : Int32)))))))
noncomputable def X12_writes_j42 (v1 : Int32) (v2 : Int32) (O : OM) : Option OM := (X12_writes_j51 v1 v2 (oup O 470 73 (29 : Int32)))
noncomputable def X12_writes_l15 (k42 : Int32 → Int32 → OM → Option OM) : Nat → Int32 → Int32 → Int32 → OM → Option OM
  | 0, _, _, _, _ => none
  | n + 1, v1, v2, v3, O => (if (161 : Int32) ≤ v3 then (k42 v1 v2 O) else (gd (inb (v3 + (3 : Int32)) 164) (gd (inb v3 164) (X12_writes_l15 k42 n v1 v2 (v3 + (1 : Int32)) (oup O 470 v3.toNatClampNeg (O.1 470 (v3 + (3 : Int32)).toNatClampNeg))))))
noncomputable def f_X12_writes (v1 : Int32) (v2 : Int32) (O : OM) : Option OM := (if (O.1 470 73) = (30 : Int32) then (X12_writes_l15 (fun v1 v2 O => (X12_writes_j42 v1 v2 O)) FU v1 v2 (74 : Int32) O) else (X12_writes_j51 v1 v2 O))
theorem cf_X12_writes : CF yX12_writes cX12_writes 4 (Option.none : Option Jvm.ClassFile.FieldType) 2 := ⟨kc_X12_writes, kj_X12, ⟨by decide +kernel, by decide +kernel, by decide +kernel⟩, by decide⟩
theorem cv_X12_writes : CFv yX12_writes := ⟨ki_X12_writes, ks_X12_writes⟩
set_option maxHeartbeats 4000000 in
set_option maxRecDepth 100000 in
theorem c_X12_writes (l : Launch) (G : GT) (v1 : Int32) (v2 : Int32) (C : CM) (O : OM) (O' : OM) (h : f_X12_writes v1 v2 O = some O') : MV l G yX12_writes cX12_writes 4 (Option.none : Option Jvm.ClassFile.FieldType) (1) [.ref (gB G + 446), .int v1, .int v2] (C, O) (C, O') := by
  unfold MV
  refine met_in RX12 (by decide +kernel) rfl [(0, .ref (gB G + 446)), (1, .int v1), (2, .int v2)] rfl (Nat.le_of_ble_eq_true rfl) ?_
  intro pM eM sM mM aM bM meM cM K hr
  have hj51 : ∀ (v1 : Int32) (v2 : Int32) (O : OM), X12_writes_j51 v1 v2 O = some O' → GO pM l eM (1) sM mM aM bM meM cM (MQ bM (va_Qv (fun (u : CM × OM) => u = (C, O')) (wB G) (Fr G)) aM sM 0 0 (Fr G)) G 4 (C, O) 51 [(0, .ref (gB G + 446)), (1, .int v1), (2, .int v2)] [] := by
    intro v1 v2 O h
    rw [X12_writes_j51] at h
    refine go_bipush (v := (74 : Int32)) K dX12_writes_51 (by decide) ?_
    refine go_iconst (v := (3 : Int32)) K dX12_writes_53 (by decide) ?_
    refine go_aload_n K dX12_writes_54 0 rfl rfl ?_
    refine gf_X12 K 40 (by decide) kf_X12_87 (v := .ref (gB G + 470)) rfl dX12_writes_55 ?_
    refine go_bipush (v := (73 : Int32)) K dX12_writes_58 (by decide) ?_
    refine go_mald K (Nat.le_of_ble_eq_true rfl) sh_470 (in_k (k := 73) (by decide) (by decide)) rfl dX12_writes_60 ?_
    refine go_imul K dX12_writes_61 ?_
    refine go_iadd K dX12_writes_62 ?_
    refine go_istore_n K dX12_writes_63 rfl (by decide) (lv' := [(3, .int ((74 : Int32) + ((3 : Int32) * (O.1 470 73)))), (0, .ref (gB G + 446)), (1, .int v1), (2, .int v2)]) rfl ?_
    refine go_aload_n K dX12_writes_64 1 rfl rfl ?_
    refine gf_X12 K 40 (by decide) kf_X12_87 (v := .ref (gB G + 470)) rfl dX12_writes_65 ?_
    refine go_iload_n K dX12_writes_68 0 rfl rfl ?_
    refine go_aload_n K dX12_writes_69 1 rfl rfl ?_
    refine gf_X12 K 40 (by decide) kf_X12_87 (v := .ref (gB G + 470)) rfl dX12_writes_70 ?_
    refine go_bipush (v := (70 : Int32)) K dX12_writes_73 (by decide) ?_
    refine go_mald K (Nat.le_of_ble_eq_true rfl) sh_470 (in_k (k := 70) (by decide) (by decide)) rfl dX12_writes_75 ?_
    obtain ⟨g2, h⟩ := gd_e h
    refine go_mast K (Nat.le_of_ble_eq_true rfl) sh_470 g2 rfl dX12_writes_76 ?_
    refine go_aload_n K dX12_writes_77 1 rfl rfl ?_
    refine gf_X12 K 40 (by decide) kf_X12_87 (v := .ref (gB G + 470)) rfl dX12_writes_78 ?_
    refine go_iload_n K dX12_writes_81 0 rfl rfl ?_
    refine go_iconst (v := (1 : Int32)) K dX12_writes_82 (by decide) ?_
    refine go_iadd K dX12_writes_83 ?_
    refine go_iload_n K dX12_writes_84 2 rfl rfl ?_
    obtain ⟨g3, h⟩ := gd_e h
    refine go_mast K (Nat.le_of_ble_eq_true rfl) sh_470 g3 rfl dX12_writes_85 ?_
    refine go_aload_n K dX12_writes_86 1 rfl rfl ?_
    refine gf_X12 K 40 (by decide) kf_X12_87 (v := .ref (gB G + 470)) rfl dX12_writes_87 ?_
    refine go_iload_n K dX12_writes_90 0 rfl rfl ?_
    refine go_iconst (v := (2 : Int32)) K dX12_writes_91 (by decide) ?_
    refine go_iadd K dX12_writes_92 ?_
    refine go_iload_n K dX12_writes_93 3 rfl rfl ?_
    obtain ⟨g4, h⟩ := gd_e h
    refine go_mast K (Nat.le_of_ble_eq_true rfl) sh_470 g4 rfl dX12_writes_94 ?_
    refine go_aload_n K dX12_writes_95 1 rfl rfl ?_
    refine gf_X12 K 40 (by decide) kf_X12_87 (v := .ref (gB G + 470)) rfl dX12_writes_96 ?_
    refine go_bipush (v := (73 : Int32)) K dX12_writes_99 (by decide) ?_
    refine go_dup2 K dX12_writes_101 rfl rfl ?_
    refine go_mald K (Nat.le_of_ble_eq_true rfl) sh_470 (in_k (k := 73) (by decide) (by decide)) rfl dX12_writes_102 ?_
    refine go_iconst (v := (1 : Int32)) K dX12_writes_103 (by decide) ?_
    refine go_iadd K dX12_writes_104 ?_
    refine go_mast K (Nat.le_of_ble_eq_true rfl) sh_470 (in_k (k := 73) (by decide) (by decide)) rfl dX12_writes_105 ?_
    exact go_vret K hr (congrArg (fun z => (C, z)) (Option.some.inj h)) dX12_writes_106
  have hj42 : ∀ (v1 : Int32) (v2 : Int32) (O : OM), X12_writes_j42 v1 v2 O = some O' → GO pM l eM (1) sM mM aM bM meM cM (MQ bM (va_Qv (fun (u : CM × OM) => u = (C, O')) (wB G) (Fr G)) aM sM 0 0 (Fr G)) G 4 (C, O) 42 [(0, .ref (gB G + 446)), (1, .int v1), (2, .int v2)] [] := by
    intro v1 v2 O h
    rw [X12_writes_j42] at h
    refine go_aload_n K dX12_writes_42 0 rfl rfl ?_
    refine gf_X12 K 40 (by decide) kf_X12_87 (v := .ref (gB G + 470)) rfl dX12_writes_43 ?_
    refine go_bipush (v := (73 : Int32)) K dX12_writes_46 (by decide) ?_
    refine go_bipush (v := (29 : Int32)) K dX12_writes_48 (by decide) ?_
    refine go_mast K (Nat.le_of_ble_eq_true rfl) sh_470 (in_k (k := 73) (by decide) (by decide)) rfl dX12_writes_50 ?_
    exact hj51 _ _ _ h
  have hl15 : ∀ (n15 : Nat) (v1 : Int32) (v2 : Int32) (v3 : Int32) (O : OM), X12_writes_l15 (fun v1 v2 O => (X12_writes_j42 v1 v2 O)) n15 v1 v2 v3 O = some O' → GO pM l eM (1) sM mM aM bM meM cM (MQ bM (va_Qv (fun (u : CM × OM) => u = (C, O')) (wB G) (Fr G)) aM sM 0 0 (Fr G)) G 4 (C, O) 15 [(0, .ref (gB G + 446)), (1, .int v1), (2, .int v2), (3, .int v3)] [] := by
    intro n15
    induction n15 with
    | zero =>
      intro v1 v2 v3 O h
      rw [X12_writes_l15] at h
      cases h
    | succ n15 ih15 =>
      intro v1 v2 v3 O h
      rw [X12_writes_l15] at h
      refine go_iload_n K dX12_writes_15 3 rfl rfl ?_
      refine go_sipush (v := (161 : Int32)) K dX12_writes_16 (by decide) ?_
      refine go_icmp_ge (tgt := 42) K dX12_writes_19 (by decide) (fun c5 => ?_) (fun c5 => ?_)
      · replace h := ite_t h c5
        exact go_sub [0, 1, 2] rfl (hj42 _ _ _ h)
      replace h := ite_f h c5
      refine go_aload_n K dX12_writes_22 0 rfl rfl ?_
      refine gf_X12 K 40 (by decide) kf_X12_87 (v := .ref (gB G + 470)) rfl dX12_writes_23 ?_
      refine go_iload_n K dX12_writes_26 3 rfl rfl ?_
      refine go_aload_n K dX12_writes_27 0 rfl rfl ?_
      refine gf_X12 K 40 (by decide) kf_X12_87 (v := .ref (gB G + 470)) rfl dX12_writes_28 ?_
      refine go_iload_n K dX12_writes_31 3 rfl rfl ?_
      refine go_iconst (v := (3 : Int32)) K dX12_writes_32 (by decide) ?_
      refine go_iadd K dX12_writes_33 ?_
      obtain ⟨g6, h⟩ := gd_e h
      refine go_mald K (Nat.le_of_ble_eq_true rfl) sh_470 g6 rfl dX12_writes_34 ?_
      obtain ⟨g7, h⟩ := gd_e h
      refine go_mast K (Nat.le_of_ble_eq_true rfl) sh_470 g7 rfl dX12_writes_35 ?_
      refine go_iinc K dX12_writes_36 3 rfl (v := (v3 + (1 : Int32))) rfl (by decide) (lv' := [(3, .int (v3 + (1 : Int32))), (0, .ref (gB G + 446)), (1, .int v1), (2, .int v2)]) rfl ?_
      refine go_goto (tgt := 15) K dX12_writes_39 (by decide) ?_
      exact go_sub [1, 2, 3, 0] rfl (ih15 _ _ _ _ h)
  rw [f_X12_writes] at h
  refine go_aload_n K dX12_writes_0 0 rfl rfl ?_
  refine gf_X12 K 40 (by decide) kf_X12_87 (v := .ref (gB G + 470)) rfl dX12_writes_1 ?_
  refine go_bipush (v := (73 : Int32)) K dX12_writes_4 (by decide) ?_
  refine go_mald K (Nat.le_of_ble_eq_true rfl) sh_470 (in_k (k := 73) (by decide) (by decide)) rfl dX12_writes_6 ?_
  refine go_bipush (v := (30 : Int32)) K dX12_writes_7 (by decide) ?_
  refine go_icmp_ne (tgt := 51) K dX12_writes_9 (by decide) (fun c1 => ?_) (fun c1 => ?_)
  · replace h := ite_f h c1
    exact hj51 _ _ _ h
  replace h := ite_t h c1
  refine go_bipush (v := (74 : Int32)) K dX12_writes_12 (by decide) ?_
  refine go_istore_n K dX12_writes_14 rfl (by decide) (lv' := [(3, .int (74 : Int32)), (0, .ref (gB G + 446)), (1, .int v1), (2, .int v2)]) rfl ?_
  exact go_sub [1, 2, 3, 0] rfl (hl15 FU _ _ _ _ h)
noncomputable def X12_canPass_j25 (O : OM) : Option Int32 := (some (1 : Int32))
noncomputable def f_X12_canPass (O : OM) : Option Int32 := (if (O.1 470 70) < (9999 : Int32) then (X12_canPass_j25 O) else (if (9 : Int32) ≤ (O.1 470 71) then (some (0 : Int32)) else (X12_canPass_j25 O)))
theorem cf_X12_canPass : CF yX12_canPass cX12_canPass 1 (Option.some Jvm.ClassFile.FieldType.boolean) 0 := ⟨kc_X12_canPass, kj_X12, ⟨by decide +kernel, by decide +kernel, by decide +kernel⟩, by decide⟩
theorem cv_X12_canPass : CFv yX12_canPass := ⟨ki_X12_canPass, ks_X12_canPass⟩
set_option maxHeartbeats 4000000 in
set_option maxRecDepth 100000 in
theorem c_X12_canPass (l : Launch) (G : GT) (C : CM) (O : OM) (res : Int32) (h : f_X12_canPass O = some res) : MI l G yX12_canPass cX12_canPass 1 (Option.some Jvm.ClassFile.FieldType.boolean) (1) [.ref (gB G + 446)] (C, O) res (C, O) := by
  unfold MI
  refine met_in RX12 (by decide +kernel) rfl [(0, .ref (gB G + 446))] rfl (Nat.le_of_ble_eq_true rfl) ?_
  intro pM eM sM mM aM bM meM cM K hr
  have hj25 : X12_canPass_j25 O = some res → GO pM l eM (1) sM mM aM bM meM cM (MQ bM (va_Qi (fun (r' : Int32) (u : CM × OM) => r' = res ∧ u = (C, O)) (wB G) (Fr G)) aM sM 0 0 (Fr G)) G 1 (C, O) 25 [] [] := by
    intro h
    rw [X12_canPass_j25] at h
    refine go_iconst (v := (1 : Int32)) K dX12_canPass_25 (by decide) ?_
    refine go_goto (tgt := 30) K dX12_canPass_26 (by decide) ?_
    exact go_zret K hr (by decide) (Option.some.inj h) rfl dX12_canPass_30
  rw [f_X12_canPass] at h
  refine go_aload_n K dX12_canPass_0 0 rfl rfl ?_
  refine gf_X12 K 40 (by decide) kf_X12_87 (v := .ref (gB G + 470)) rfl dX12_canPass_1 ?_
  refine go_bipush (v := (70 : Int32)) K dX12_canPass_4 (by decide) ?_
  refine go_mald K (Nat.le_of_ble_eq_true rfl) sh_470 (in_k (k := 70) (by decide) (by decide)) rfl dX12_canPass_6 ?_
  refine go_sipush (v := (9999 : Int32)) K dX12_canPass_7 (by decide) ?_
  refine go_icmp_lt (tgt := 25) K dX12_canPass_10 (by decide) (fun c1 => ?_) (fun c1 => ?_)
  · replace h := ite_t h c1
    exact go_sub [] rfl (hj25 h)
  replace h := ite_f h c1
  refine go_aload_n K dX12_canPass_13 0 rfl rfl ?_
  refine gf_X12 K 40 (by decide) kf_X12_87 (v := .ref (gB G + 470)) rfl dX12_canPass_14 ?_
  refine go_bipush (v := (71 : Int32)) K dX12_canPass_17 (by decide) ?_
  refine go_mald K (Nat.le_of_ble_eq_true rfl) sh_470 (in_k (k := 71) (by decide) (by decide)) rfl dX12_canPass_19 ?_
  refine go_bipush (v := (9 : Int32)) K dX12_canPass_20 (by decide) ?_
  refine go_icmp_ge (tgt := 29) K dX12_canPass_22 (by decide) (fun c2 => ?_) (fun c2 => ?_)
  rotate_left
  · replace h := ite_f h c2
    exact go_sub [] rfl (hj25 h)
  replace h := ite_t h c2
  refine go_iconst (v := (0 : Int32)) K dX12_canPass_29 (by decide) ?_
  exact go_zret K hr (by decide) (Option.some.inj h) rfl dX12_canPass_30
noncomputable def X12_dayBegins_j218 (rc : Int32 → Int32 → OM → Option (Int32 × OM)) (v1 : Int32) (v2 : Int32) (O : OM) : Option (Int32 × OM) := (rc v1 (v2 + (1 : Int32)) O)
noncomputable def X12_dayBegins_j212 (rc : Int32 → Int32 → OM → Option (Int32 × OM)) (v1 : Int32) (v2 : Int32) (t0 : Int32) (O : OM) : Option (Int32 × OM) := (X12_dayBegins_j218 rc (v1 + (1 : Int32)) v2 (oup O 446 43 t0))
noncomputable def X12_dayBegins_j179 (rc : Int32 → Int32 → OM → Option (Int32 × OM)) (v1 : Int32) (v2 : Int32) (v3 : Int32) (O : OM) : Option (Int32 × OM) := (gd (inb ((14 : Int32) + v2) 164) (bnd (f_X12_writes v2 v3 (oup O 470 ((14 : Int32) + v2).toNatClampNeg (3 : Int32))) (fun O19 => (if (O19.1 446 43) = (-1 : Int32) then (X12_dayBegins_j212 rc v1 v2 v2 O19) else (X12_dayBegins_j212 rc v1 v2 (O19.1 446 43) O19)))))
noncomputable def X12_dayBegins_l150 (k179 : Int32 → Int32 → Int32 → OM → Option (Int32 × OM)) : Nat → Int32 → Int32 → Int32 → Int32 → OM → Option (Int32 × OM)
  | 0, _, _, _, _, _ => none
  | n + 1, v1, v2, v3, v4, O => (if (O.1 447 0) ≤ v4 then (k179 v1 v2 v3 O) else (gd (inb (f_X12_debtAt v2 v4) 164) (X12_dayBegins_l150 k179 n v1 v2 v3 (v4 + (1 : Int32)) (oup O 470 (f_X12_debtAt v2 v4).toNatClampNeg (0 : Int32)))))
noncomputable def X12_dayBegins_j131 (rc : Int32 → Int32 → OM → Option (Int32 × OM)) (v1 : Int32) (v2 : Int32) (t0 : Int32) (t1 : Int32) (O : OM) : Option (Int32 × OM) := (gd (inb t1 164) (bnd (f_X12_allOwedBy v2 (oup O 470 t1.toNatClampNeg t0)) (fun r13 => (bnd2 (f_X12_ruinOf v2 (oup O 470 t1.toNatClampNeg t0)) (fun r14 O14 => (if r13 ≤ r14 then (X12_dayBegins_j218 rc v1 v2 O14) else (X12_dayBegins_l150 (fun v1 v2 v3 O => (X12_dayBegins_j179 rc v1 v2 v3 O)) FU v1 v2 r13 (0 : Int32) O14)))))))
noncomputable def X12_dayBegins_l69 : Nat → Int32 → Int32 → OM → Option (Int32 × OM)
  | 0, _, _, _ => none
  | n + 1, v1, v2, O => (if (O.1 447 0) ≤ v2 then (some (v1, O)) else (gd (inb ((17 : Int32) + v2) 5130) (gd (inb ((0 : Int32) + v2) 164) (gd (inb ((14 : Int32) + v2) 164) (if ((oup O 470 ((0 : Int32) + v2).toNatClampNeg (O.1 447 ((17 : Int32) + v2).toNatClampNeg)).1 470 ((14 : Int32) + v2).toNatClampNeg) ≤ 0 then (X12_dayBegins_j131 (fun v1 v2 O => X12_dayBegins_l69 n v1 v2 O) v1 v2 (0 : Int32) ((14 : Int32) + v2) (oup O 470 ((0 : Int32) + v2).toNatClampNeg (O.1 447 ((17 : Int32) + v2).toNatClampNeg))) else (gd (inb ((14 : Int32) + v2) 164) (X12_dayBegins_j131 (fun v1 v2 O => X12_dayBegins_l69 n v1 v2 O) v1 v2 (((oup O 470 ((0 : Int32) + v2).toNatClampNeg (O.1 447 ((17 : Int32) + v2).toNatClampNeg)).1 470 ((14 : Int32) + v2).toNatClampNeg) - (1 : Int32)) ((14 : Int32) + v2) (oup O 470 ((0 : Int32) + v2).toNatClampNeg (O.1 447 ((17 : Int32) + v2).toNatClampNeg)))))))))
noncomputable def X12_dayBegins_j67 (v1 : Int32) (O : OM) : Option (Int32 × OM) := (X12_dayBegins_l69 FU v1 (0 : Int32) O)
noncomputable def X12_dayBegins_j61 (rc : Int32 → Int32 → OM → Option (Int32 × OM)) (k67 : Int32 → OM → Option (Int32 × OM)) (v1 : Int32) (v2 : Int32) (O : OM) : Option (Int32 × OM) := (rc v1 (v2 + (1 : Int32)) O)
noncomputable def X12_dayBegins_j55 (rc : Int32 → Int32 → Int32 → OM → Option (Int32 × OM)) (k61 : Int32 → Int32 → OM → Option (Int32 × OM)) (v1 : Int32) (v2 : Int32) (v3 : Int32) (O : OM) : Option (Int32 × OM) := (rc v1 v2 (v3 + (1 : Int32)) O)
noncomputable def X12_dayBegins_l16 (k61 : Int32 → Int32 → OM → Option (Int32 × OM)) : Nat → Int32 → Int32 → Int32 → OM → Option (Int32 × OM)
  | 0, _, _, _, _ => none
  | n + 1, v1, v2, v3, O => (if (O.1 447 0) ≤ v3 then (k61 v1 v2 O) else (gd (inb (f_X12_debtAt v2 v3) 164) (if (O.1 470 (f_X12_debtAt v2 v3).toNatClampNeg) ≤ 0 then (X12_dayBegins_j55 (fun v1 v2 v3 O => X12_dayBegins_l16 k61 n v1 v2 v3 O) k61 v1 v2 v3 O) else (bnd2 (f_X12_lateOf v2 v3 O) (fun r5 O5 => (gd (inb (f_X12_debtAt v2 v3) 164) (X12_dayBegins_j55 (fun v1 v2 v3 O => X12_dayBegins_l16 k61 n v1 v2 v3 O) k61 v1 v2 v3 (oup O5 470 (f_X12_debtAt v2 v3).toNatClampNeg r5))))))))
noncomputable def X12_dayBegins_l4 (k67 : Int32 → OM → Option (Int32 × OM)) : Nat → Int32 → Int32 → OM → Option (Int32 × OM)
  | 0, _, _, _ => none
  | n + 1, v1, v2, O => (if (O.1 447 0) ≤ v2 then (k67 v1 O) else (X12_dayBegins_l16 (fun v1 v2 O => (X12_dayBegins_j61 (fun v1 v2 O => X12_dayBegins_l4 k67 n v1 v2 O) k67 v1 v2 O)) FU v1 v2 (0 : Int32) O))
noncomputable def f_X12_dayBegins (O : OM) : Option (Int32 × OM) := (X12_dayBegins_l4 (fun v1 O => (X12_dayBegins_j67 v1 O)) FU (0 : Int32) (0 : Int32) O)
theorem cf_X12_dayBegins : CF yX12_dayBegins cX12_dayBegins 5 (Option.some Jvm.ClassFile.FieldType.int) 0 := ⟨kc_X12_dayBegins, kj_X12, ⟨by decide +kernel, by decide +kernel, by decide +kernel⟩, by decide⟩
theorem cv_X12_dayBegins : CFv yX12_dayBegins := ⟨ki_X12_dayBegins, ks_X12_dayBegins⟩
set_option maxHeartbeats 4000000 in
set_option maxRecDepth 100000 in
theorem c_X12_dayBegins (l : Launch) (G : GT) (C : CM) (O : OM) (res : Int32) (O' : OM) (h : f_X12_dayBegins O = some (res, O')) : MI l G yX12_dayBegins cX12_dayBegins 5 (Option.some Jvm.ClassFile.FieldType.int) (6) [.ref (gB G + 446)] (C, O) res (C, O') := by
  unfold MI
  refine met_in RX12 (by decide +kernel) rfl [(0, .ref (gB G + 446))] rfl (Nat.le_of_ble_eq_true rfl) ?_
  intro pM eM sM mM aM bM meM cM K hr
  have hl69 : ∀ (n69 : Nat) (v1 : Int32) (v2 : Int32) (O : OM), X12_dayBegins_l69 n69 v1 v2 O = some (res, O') → GO pM l eM (6) sM mM aM bM meM cM (MQ bM (va_Qi (fun (r' : Int32) (u : CM × OM) => r' = res ∧ u = (C, O')) (wB G) (Fr G)) aM sM 0 0 (Fr G)) G 5 (C, O) 69 [(0, .ref (gB G + 446)), (1, .int v1), (2, .int v2)] [] := by
    intro n69
    induction n69 with
    | zero =>
      intro v1 v2 O h
      rw [X12_dayBegins_l69] at h
      cases h
    | succ n69 ih69 =>
      have hj218 : ∀ (v1 : Int32) (v2 : Int32) (O : OM), X12_dayBegins_j218 (fun v1 v2 O => X12_dayBegins_l69 n69 v1 v2 O) v1 v2 O = some (res, O') → GO pM l eM (6) sM mM aM bM meM cM (MQ bM (va_Qi (fun (r' : Int32) (u : CM × OM) => r' = res ∧ u = (C, O')) (wB G) (Fr G)) aM sM 0 0 (Fr G)) G 5 (C, O) 218 [(0, .ref (gB G + 446)), (1, .int v1), (2, .int v2)] [] := by
        intro v1 v2 O h
        rw [X12_dayBegins_j218] at h
        refine go_iinc K dX12_dayBegins_218 2 rfl (v := (v2 + (1 : Int32))) rfl (by decide) (lv' := [(2, .int (v2 + (1 : Int32))), (0, .ref (gB G + 446)), (1, .int v1)]) rfl ?_
        refine go_goto (tgt := 69) K dX12_dayBegins_221 (by decide) ?_
        exact go_sub [1, 2, 0] rfl (ih69 _ _ _ h)
      have hj212 : ∀ (v1 : Int32) (v2 : Int32) (t0 : Int32) (O : OM), X12_dayBegins_j212 (fun v1 v2 O => X12_dayBegins_l69 n69 v1 v2 O) v1 v2 t0 O = some (res, O') → GO pM l eM (6) sM mM aM bM meM cM (MQ bM (va_Qi (fun (r' : Int32) (u : CM × OM) => r' = res ∧ u = (C, O')) (wB G) (Fr G)) aM sM 0 0 (Fr G)) G 5 (C, O) 212 [(0, .ref (gB G + 446)), (1, .int v1), (2, .int v2)] [.int t0, .ref (gB G + 446)] := by
        intro v1 v2 t0 O h
        rw [X12_dayBegins_j212] at h
        refine pf_X12 K 43 (by decide) kf_X12_393 rfl rfl rfl dX12_dayBegins_212 ?_
        refine go_iinc K dX12_dayBegins_215 1 rfl (v := (v1 + (1 : Int32))) rfl (by decide) (lv' := [(1, .int (v1 + (1 : Int32))), (0, .ref (gB G + 446)), (2, .int v2)]) rfl ?_
        exact go_sub [1, 0, 2] rfl (hj218 _ _ _ h)
      have hj179 : ∀ (v1 : Int32) (v2 : Int32) (v3 : Int32) (O : OM), X12_dayBegins_j179 (fun v1 v2 O => X12_dayBegins_l69 n69 v1 v2 O) v1 v2 v3 O = some (res, O') → GO pM l eM (6) sM mM aM bM meM cM (MQ bM (va_Qi (fun (r' : Int32) (u : CM × OM) => r' = res ∧ u = (C, O')) (wB G) (Fr G)) aM sM 0 0 (Fr G)) G 5 (C, O) 179 [(0, .ref (gB G + 446)), (1, .int v1), (2, .int v2), (3, .int v3)] [] := by
        intro v1 v2 v3 O h
        rw [X12_dayBegins_j179] at h
        refine go_aload_n K dX12_dayBegins_179 0 rfl rfl ?_
        refine gf_X12 K 40 (by decide) kf_X12_87 (v := .ref (gB G + 470)) rfl dX12_dayBegins_180 ?_
        refine go_bipush (v := (14 : Int32)) K dX12_dayBegins_183 (by decide) ?_
        refine go_iload_n K dX12_dayBegins_185 2 rfl rfl ?_
        refine go_iadd K dX12_dayBegins_186 ?_
        refine go_iconst (v := (3 : Int32)) K dX12_dayBegins_187 (by decide) ?_
        obtain ⟨g18, h⟩ := gd_e h
        refine go_mast K (Nat.le_of_ble_eq_true rfl) sh_470 g18 rfl dX12_dayBegins_188 ?_
        refine go_aload_n K dX12_dayBegins_189 0 rfl rfl ?_
        refine go_iload_n K dX12_dayBegins_190 2 rfl rfl ?_
        refine go_iload_n K dX12_dayBegins_191 3 rfl rfl ?_
        obtain ⟨O19, e19, h⟩ := bnd_e h
        refine go_cVV K (c_X12_writes l G _ _ _ _ _ e19) cf_X12_writes cv_X12_writes km_X12_390 rv_X12 (by decide) rfl rfl (Nat.le_of_ble_eq_true rfl) dX12_dayBegins_192 ?_
        refine go_aload_n K dX12_dayBegins_195 0 rfl rfl ?_
        refine go_aload_n K dX12_dayBegins_196 0 rfl rfl ?_
        refine gf_X12 K 43 (by decide) kf_X12_393 (v := .int (O19.1 446 43)) rfl dX12_dayBegins_197 ?_
        refine go_iconst (v := (-1 : Int32)) K dX12_dayBegins_200 (by decide) ?_
        refine go_icmp_ne (tgt := 208) K dX12_dayBegins_201 (by decide) (fun c20 => ?_) (fun c20 => ?_)
        · replace h := ite_f h c20
          refine go_aload_n K dX12_dayBegins_208 0 rfl rfl ?_
          refine gf_X12 K 43 (by decide) kf_X12_393 (v := .int (O19.1 446 43)) rfl dX12_dayBegins_209 ?_
          exact go_sub [0, 1, 2] rfl (hj212 _ _ _ _ h)
        replace h := ite_t h c20
        refine go_iload_n K dX12_dayBegins_204 2 rfl rfl ?_
        refine go_goto (tgt := 212) K dX12_dayBegins_205 (by decide) ?_
        exact go_sub [0, 1, 2] rfl (hj212 _ _ _ _ h)
      have hl150 : ∀ (n150 : Nat) (v1 : Int32) (v2 : Int32) (v3 : Int32) (v4 : Int32) (O : OM), X12_dayBegins_l150 (fun v1 v2 v3 O => (X12_dayBegins_j179 (fun v1 v2 O => X12_dayBegins_l69 n69 v1 v2 O) v1 v2 v3 O)) n150 v1 v2 v3 v4 O = some (res, O') → GO pM l eM (6) sM mM aM bM meM cM (MQ bM (va_Qi (fun (r' : Int32) (u : CM × OM) => r' = res ∧ u = (C, O')) (wB G) (Fr G)) aM sM 0 0 (Fr G)) G 5 (C, O) 150 [(0, .ref (gB G + 446)), (1, .int v1), (2, .int v2), (3, .int v3), (4, .int v4)] [] := by
        intro n150
        induction n150 with
        | zero =>
          intro v1 v2 v3 v4 O h
          rw [X12_dayBegins_l150] at h
          cases h
        | succ n150 ih150 =>
          intro v1 v2 v3 v4 O h
          rw [X12_dayBegins_l150] at h
          refine go_iload K dX12_dayBegins_150 4 rfl ?_
          refine go_aload_n K dX12_dayBegins_152 0 rfl rfl ?_
          refine gf_X12 K 0 (by decide) kf_X12_7 (v := .ref (gB G + 447)) rfl dX12_dayBegins_153 ?_
          refine go_iconst (v := (0 : Int32)) K dX12_dayBegins_156 (by decide) ?_
          refine go_mald K (Nat.le_of_ble_eq_true rfl) sh_447 (in_k (k := 0) (by decide) (by decide)) rfl dX12_dayBegins_157 ?_
          refine go_icmp_ge (tgt := 179) K dX12_dayBegins_158 (by decide) (fun c16 => ?_) (fun c16 => ?_)
          · replace h := ite_t h c16
            exact go_sub [0, 1, 2, 3] rfl (hj179 _ _ _ _ h)
          replace h := ite_f h c16
          refine go_aload_n K dX12_dayBegins_161 0 rfl rfl ?_
          refine gf_X12 K 40 (by decide) kf_X12_87 (v := .ref (gB G + 470)) rfl dX12_dayBegins_162 ?_
          refine go_iload_n K dX12_dayBegins_165 2 rfl rfl ?_
          refine go_iload K dX12_dayBegins_166 4 rfl ?_
          refine go_cSI K (c_X12_debtAt l G _ _ _ _ _ rfl) cf_X12_debtAt kt_X12_debtAt km_X12_335 (by decide) rfl rfl (Nat.le_of_ble_eq_true rfl) dX12_dayBegins_168 ?_
          refine go_iconst (v := (0 : Int32)) K dX12_dayBegins_171 (by decide) ?_
          obtain ⟨g17, h⟩ := gd_e h
          refine go_mast K (Nat.le_of_ble_eq_true rfl) sh_470 g17 rfl dX12_dayBegins_172 ?_
          refine go_iinc K dX12_dayBegins_173 4 rfl (v := (v4 + (1 : Int32))) rfl (by decide) (lv' := [(4, .int (v4 + (1 : Int32))), (0, .ref (gB G + 446)), (1, .int v1), (2, .int v2), (3, .int v3)]) rfl ?_
          refine go_goto (tgt := 150) K dX12_dayBegins_176 (by decide) ?_
          exact go_sub [1, 2, 3, 4, 0] rfl (ih150 _ _ _ _ _ h)
      have hj131 : ∀ (v1 : Int32) (v2 : Int32) (t0 : Int32) (t1 : Int32) (O : OM), X12_dayBegins_j131 (fun v1 v2 O => X12_dayBegins_l69 n69 v1 v2 O) v1 v2 t0 t1 O = some (res, O') → GO pM l eM (6) sM mM aM bM meM cM (MQ bM (va_Qi (fun (r' : Int32) (u : CM × OM) => r' = res ∧ u = (C, O')) (wB G) (Fr G)) aM sM 0 0 (Fr G)) G 5 (C, O) 131 [(0, .ref (gB G + 446)), (1, .int v1), (2, .int v2)] [.int t0, .int t1, .ref (gB G + 470)] := by
        intro v1 v2 t0 t1 O h
        rw [X12_dayBegins_j131] at h
        obtain ⟨g12, h⟩ := gd_e h
        refine go_mast K (Nat.le_of_ble_eq_true rfl) sh_470 g12 rfl dX12_dayBegins_131 ?_
        refine go_aload_n K dX12_dayBegins_132 0 rfl rfl ?_
        refine go_iload_n K dX12_dayBegins_133 2 rfl rfl ?_
        obtain ⟨r13, e13, h⟩ := bnd_e h
        refine go_cVI K (c_X12_allOwedBy l G _ _ _ _ e13) cf_X12_allOwedBy cv_X12_allOwedBy km_X12_384 rv_X12 (by decide) rfl rfl (Nat.le_of_ble_eq_true rfl) dX12_dayBegins_134 ?_
        refine go_istore_n K dX12_dayBegins_137 rfl (by decide) (lv' := [(3, .int r13), (0, .ref (gB G + 446)), (1, .int v1), (2, .int v2)]) rfl ?_
        refine go_iload_n K dX12_dayBegins_138 0 rfl rfl ?_
        refine go_aload_n K dX12_dayBegins_139 1 rfl rfl ?_
        refine go_iload_n K dX12_dayBegins_140 3 rfl rfl ?_
        obtain ⟨r14, O14, e14, h⟩ := bnd2_e h
        refine go_cVI K (c_X12_ruinOf l G _ _ _ _ _ e14) cf_X12_ruinOf cv_X12_ruinOf km_X12_387 rv_X12 (by decide) rfl rfl (Nat.le_of_ble_eq_true rfl) dX12_dayBegins_141 ?_
        refine go_icmp_le (tgt := 218) K dX12_dayBegins_144 (by decide) (fun c15 => ?_) (fun c15 => ?_)
        · replace h := ite_t h c15
          exact go_sub [1, 2, 3] rfl (hj218 _ _ _ h)
        replace h := ite_f h c15
        refine go_iconst (v := (0 : Int32)) K dX12_dayBegins_147 (by decide) ?_
        refine go_istore K dX12_dayBegins_148 (by decide) (lv' := [(4, .int (0 : Int32)), (3, .int r13), (0, .ref (gB G + 446)), (1, .int v1), (2, .int v2)]) rfl ?_
        exact go_sub [2, 3, 4, 1, 0] rfl (hl150 FU _ _ _ _ _ h)
      intro v1 v2 O h
      rw [X12_dayBegins_l69] at h
      refine go_iload_n K dX12_dayBegins_69 2 rfl rfl ?_
      refine go_aload_n K dX12_dayBegins_70 0 rfl rfl ?_
      refine gf_X12 K 0 (by decide) kf_X12_7 (v := .ref (gB G + 447)) rfl dX12_dayBegins_71 ?_
      refine go_iconst (v := (0 : Int32)) K dX12_dayBegins_74 (by decide) ?_
      refine go_mald K (Nat.le_of_ble_eq_true rfl) sh_447 (in_k (k := 0) (by decide) (by decide)) rfl dX12_dayBegins_75 ?_
      refine go_icmp_ge (tgt := 224) K dX12_dayBegins_76 (by decide) (fun c7 => ?_) (fun c7 => ?_)
      · replace h := ite_t h c7
        refine go_iload_n K dX12_dayBegins_224 1 rfl rfl ?_
        exact go_iret K hr (Prod.mk.inj (Option.some.inj h)).1 (congrArg (fun z => (C, z)) (Prod.mk.inj (Option.some.inj h)).2) dX12_dayBegins_225
      replace h := ite_f h c7
      refine go_aload_n K dX12_dayBegins_79 0 rfl rfl ?_
      refine gf_X12 K 40 (by decide) kf_X12_87 (v := .ref (gB G + 470)) rfl dX12_dayBegins_80 ?_
      refine go_iconst (v := (0 : Int32)) K dX12_dayBegins_83 (by decide) ?_
      refine go_iload_n K dX12_dayBegins_84 2 rfl rfl ?_
      refine go_iadd K dX12_dayBegins_85 ?_
      refine go_aload_n K dX12_dayBegins_86 0 rfl rfl ?_
      refine gf_X12 K 0 (by decide) kf_X12_7 (v := .ref (gB G + 447)) rfl dX12_dayBegins_87 ?_
      refine go_bipush (v := (17 : Int32)) K dX12_dayBegins_90 (by decide) ?_
      refine go_iload_n K dX12_dayBegins_92 2 rfl rfl ?_
      refine go_iadd K dX12_dayBegins_93 ?_
      obtain ⟨g8, h⟩ := gd_e h
      refine go_mald K (Nat.le_of_ble_eq_true rfl) sh_447 g8 rfl dX12_dayBegins_94 ?_
      obtain ⟨g9, h⟩ := gd_e h
      refine go_mast K (Nat.le_of_ble_eq_true rfl) sh_470 g9 rfl dX12_dayBegins_95 ?_
      refine go_aload_n K dX12_dayBegins_96 0 rfl rfl ?_
      refine gf_X12 K 40 (by decide) kf_X12_87 (v := .ref (gB G + 470)) rfl dX12_dayBegins_97 ?_
      refine go_bipush (v := (14 : Int32)) K dX12_dayBegins_100 (by decide) ?_
      refine go_iload_n K dX12_dayBegins_102 2 rfl rfl ?_
      refine go_iadd K dX12_dayBegins_103 ?_
      refine go_aload_n K dX12_dayBegins_104 0 rfl rfl ?_
      refine gf_X12 K 40 (by decide) kf_X12_87 (v := .ref (gB G + 470)) rfl dX12_dayBegins_105 ?_
      refine go_bipush (v := (14 : Int32)) K dX12_dayBegins_108 (by decide) ?_
      refine go_iload_n K dX12_dayBegins_110 2 rfl rfl ?_
      refine go_iadd K dX12_dayBegins_111 ?_
      obtain ⟨g10, h⟩ := gd_e h
      refine go_mald K (Nat.le_of_ble_eq_true rfl) sh_470 g10 rfl dX12_dayBegins_112 ?_
      refine go_if_le (tgt := 130) K dX12_dayBegins_113 (by decide) (fun c11 => ?_) (fun c11 => ?_)
      · replace h := ite_t h c11
        refine go_iconst (v := (0 : Int32)) K dX12_dayBegins_130 (by decide) ?_
        exact hj131 _ _ _ _ _ h
      replace h := ite_f h c11
      refine go_aload_n K dX12_dayBegins_116 0 rfl rfl ?_
      refine gf_X12 K 40 (by decide) kf_X12_87 (v := .ref (gB G + 470)) rfl dX12_dayBegins_117 ?_
      refine go_bipush (v := (14 : Int32)) K dX12_dayBegins_120 (by decide) ?_
      refine go_iload_n K dX12_dayBegins_122 2 rfl rfl ?_
      refine go_iadd K dX12_dayBegins_123 ?_
      obtain ⟨g21, h⟩ := gd_e h
      refine go_mald K (Nat.le_of_ble_eq_true rfl) sh_470 g21 rfl dX12_dayBegins_124 ?_
      refine go_iconst (v := (1 : Int32)) K dX12_dayBegins_125 (by decide) ?_
      refine go_isub K dX12_dayBegins_126 ?_
      refine go_goto (tgt := 131) K dX12_dayBegins_127 (by decide) ?_
      exact hj131 _ _ _ _ _ h
  have hj67 : ∀ (v1 : Int32) (O : OM), X12_dayBegins_j67 v1 O = some (res, O') → GO pM l eM (6) sM mM aM bM meM cM (MQ bM (va_Qi (fun (r' : Int32) (u : CM × OM) => r' = res ∧ u = (C, O')) (wB G) (Fr G)) aM sM 0 0 (Fr G)) G 5 (C, O) 67 [(0, .ref (gB G + 446)), (1, .int v1)] [] := by
    intro v1 O h
    rw [X12_dayBegins_j67] at h
    refine go_iconst (v := (0 : Int32)) K dX12_dayBegins_67 (by decide) ?_
    refine go_istore_n K dX12_dayBegins_68 rfl (by decide) (lv' := [(2, .int (0 : Int32)), (0, .ref (gB G + 446)), (1, .int v1)]) rfl ?_
    exact go_sub [1, 2, 0] rfl (hl69 FU _ _ _ h)
  have hl4 : ∀ (n4 : Nat) (v1 : Int32) (v2 : Int32) (O : OM), X12_dayBegins_l4 (fun v1 O => (X12_dayBegins_j67 v1 O)) n4 v1 v2 O = some (res, O') → GO pM l eM (6) sM mM aM bM meM cM (MQ bM (va_Qi (fun (r' : Int32) (u : CM × OM) => r' = res ∧ u = (C, O')) (wB G) (Fr G)) aM sM 0 0 (Fr G)) G 5 (C, O) 4 [(0, .ref (gB G + 446)), (1, .int v1), (2, .int v2)] [] := by
    intro n4
    induction n4 with
    | zero =>
      intro v1 v2 O h
      rw [X12_dayBegins_l4] at h
      cases h
    | succ n4 ih4 =>
      have hj61 : ∀ (v1 : Int32) (v2 : Int32) (O : OM), X12_dayBegins_j61 (fun v1 v2 O => X12_dayBegins_l4 (fun v1 O => (X12_dayBegins_j67 v1 O)) n4 v1 v2 O) (fun v1 O => (X12_dayBegins_j67 v1 O)) v1 v2 O = some (res, O') → GO pM l eM (6) sM mM aM bM meM cM (MQ bM (va_Qi (fun (r' : Int32) (u : CM × OM) => r' = res ∧ u = (C, O')) (wB G) (Fr G)) aM sM 0 0 (Fr G)) G 5 (C, O) 61 [(0, .ref (gB G + 446)), (1, .int v1), (2, .int v2)] [] := by
        intro v1 v2 O h
        rw [X12_dayBegins_j61] at h
        refine go_iinc K dX12_dayBegins_61 2 rfl (v := (v2 + (1 : Int32))) rfl (by decide) (lv' := [(2, .int (v2 + (1 : Int32))), (0, .ref (gB G + 446)), (1, .int v1)]) rfl ?_
        refine go_goto (tgt := 4) K dX12_dayBegins_64 (by decide) ?_
        exact go_sub [1, 2, 0] rfl (ih4 _ _ _ h)
      have hl16 : ∀ (n16 : Nat) (v1 : Int32) (v2 : Int32) (v3 : Int32) (O : OM), X12_dayBegins_l16 (fun v1 v2 O => (X12_dayBegins_j61 (fun v1 v2 O => X12_dayBegins_l4 (fun v1 O => (X12_dayBegins_j67 v1 O)) n4 v1 v2 O) (fun v1 O => (X12_dayBegins_j67 v1 O)) v1 v2 O)) n16 v1 v2 v3 O = some (res, O') → GO pM l eM (6) sM mM aM bM meM cM (MQ bM (va_Qi (fun (r' : Int32) (u : CM × OM) => r' = res ∧ u = (C, O')) (wB G) (Fr G)) aM sM 0 0 (Fr G)) G 5 (C, O) 16 [(0, .ref (gB G + 446)), (1, .int v1), (2, .int v2), (3, .int v3)] [] := by
        intro n16
        induction n16 with
        | zero =>
          intro v1 v2 v3 O h
          rw [X12_dayBegins_l16] at h
          cases h
        | succ n16 ih16 =>
          have hj55 : ∀ (v1 : Int32) (v2 : Int32) (v3 : Int32) (O : OM), X12_dayBegins_j55 (fun v1 v2 v3 O => X12_dayBegins_l16 (fun v1 v2 O => (X12_dayBegins_j61 (fun v1 v2 O => X12_dayBegins_l4 (fun v1 O => (X12_dayBegins_j67 v1 O)) n4 v1 v2 O) (fun v1 O => (X12_dayBegins_j67 v1 O)) v1 v2 O)) n16 v1 v2 v3 O) (fun v1 v2 O => (X12_dayBegins_j61 (fun v1 v2 O => X12_dayBegins_l4 (fun v1 O => (X12_dayBegins_j67 v1 O)) n4 v1 v2 O) (fun v1 O => (X12_dayBegins_j67 v1 O)) v1 v2 O)) v1 v2 v3 O = some (res, O') → GO pM l eM (6) sM mM aM bM meM cM (MQ bM (va_Qi (fun (r' : Int32) (u : CM × OM) => r' = res ∧ u = (C, O')) (wB G) (Fr G)) aM sM 0 0 (Fr G)) G 5 (C, O) 55 [(0, .ref (gB G + 446)), (1, .int v1), (2, .int v2), (3, .int v3)] [] := by
            intro v1 v2 v3 O h
            rw [X12_dayBegins_j55] at h
            refine go_iinc K dX12_dayBegins_55 3 rfl (v := (v3 + (1 : Int32))) rfl (by decide) (lv' := [(3, .int (v3 + (1 : Int32))), (0, .ref (gB G + 446)), (1, .int v1), (2, .int v2)]) rfl ?_
            refine go_goto (tgt := 16) K dX12_dayBegins_58 (by decide) ?_
            exact go_sub [1, 2, 3, 0] rfl (ih16 _ _ _ _ h)
          intro v1 v2 v3 O h
          rw [X12_dayBegins_l16] at h
          refine go_iload_n K dX12_dayBegins_16 3 rfl rfl ?_
          refine go_aload_n K dX12_dayBegins_17 0 rfl rfl ?_
          refine gf_X12 K 0 (by decide) kf_X12_7 (v := .ref (gB G + 447)) rfl dX12_dayBegins_18 ?_
          refine go_iconst (v := (0 : Int32)) K dX12_dayBegins_21 (by decide) ?_
          refine go_mald K (Nat.le_of_ble_eq_true rfl) sh_447 (in_k (k := 0) (by decide) (by decide)) rfl dX12_dayBegins_22 ?_
          refine go_icmp_ge (tgt := 61) K dX12_dayBegins_23 (by decide) (fun c2 => ?_) (fun c2 => ?_)
          · replace h := ite_t h c2
            exact go_sub [0, 1, 2] rfl (hj61 _ _ _ h)
          replace h := ite_f h c2
          refine go_aload_n K dX12_dayBegins_26 0 rfl rfl ?_
          refine gf_X12 K 40 (by decide) kf_X12_87 (v := .ref (gB G + 470)) rfl dX12_dayBegins_27 ?_
          refine go_iload_n K dX12_dayBegins_30 2 rfl rfl ?_
          refine go_iload_n K dX12_dayBegins_31 3 rfl rfl ?_
          refine go_cSI K (c_X12_debtAt l G _ _ _ _ _ rfl) cf_X12_debtAt kt_X12_debtAt km_X12_335 (by decide) rfl rfl (Nat.le_of_ble_eq_true rfl) dX12_dayBegins_32 ?_
          obtain ⟨g3, h⟩ := gd_e h
          refine go_mald K (Nat.le_of_ble_eq_true rfl) sh_470 g3 rfl dX12_dayBegins_35 ?_
          refine go_if_le (tgt := 55) K dX12_dayBegins_36 (by decide) (fun c4 => ?_) (fun c4 => ?_)
          · replace h := ite_t h c4
            exact hj55 _ _ _ _ h
          replace h := ite_f h c4
          refine go_aload_n K dX12_dayBegins_39 0 rfl rfl ?_
          refine gf_X12 K 40 (by decide) kf_X12_87 (v := .ref (gB G + 470)) rfl dX12_dayBegins_40 ?_
          refine go_iload_n K dX12_dayBegins_43 2 rfl rfl ?_
          refine go_iload_n K dX12_dayBegins_44 3 rfl rfl ?_
          refine go_cSI K (c_X12_debtAt l G _ _ _ _ _ rfl) cf_X12_debtAt kt_X12_debtAt km_X12_335 (by decide) rfl rfl (Nat.le_of_ble_eq_true rfl) dX12_dayBegins_45 ?_
          refine go_aload_n K dX12_dayBegins_48 0 rfl rfl ?_
          refine go_iload_n K dX12_dayBegins_49 2 rfl rfl ?_
          refine go_iload_n K dX12_dayBegins_50 3 rfl rfl ?_
          obtain ⟨r5, O5, e5, h⟩ := bnd2_e h
          refine go_cVI K (c_X12_lateOf l G _ _ _ _ _ _ e5) cf_X12_lateOf cv_X12_lateOf km_X12_381 rv_X12 (by decide) rfl rfl (Nat.le_of_ble_eq_true rfl) dX12_dayBegins_51 ?_
          obtain ⟨g6, h⟩ := gd_e h
          refine go_mast K (Nat.le_of_ble_eq_true rfl) sh_470 g6 rfl dX12_dayBegins_54 ?_
          exact hj55 _ _ _ _ h
      intro v1 v2 O h
      rw [X12_dayBegins_l4] at h
      refine go_iload_n K dX12_dayBegins_4 2 rfl rfl ?_
      refine go_aload_n K dX12_dayBegins_5 0 rfl rfl ?_
      refine gf_X12 K 0 (by decide) kf_X12_7 (v := .ref (gB G + 447)) rfl dX12_dayBegins_6 ?_
      refine go_iconst (v := (0 : Int32)) K dX12_dayBegins_9 (by decide) ?_
      refine go_mald K (Nat.le_of_ble_eq_true rfl) sh_447 (in_k (k := 0) (by decide) (by decide)) rfl dX12_dayBegins_10 ?_
      refine go_icmp_ge (tgt := 67) K dX12_dayBegins_11 (by decide) (fun c1 => ?_) (fun c1 => ?_)
      · replace h := ite_t h c1
        exact go_sub [0, 1] rfl (hj67 _ _ h)
      replace h := ite_f h c1
      refine go_iconst (v := (0 : Int32)) K dX12_dayBegins_14 (by decide) ?_
      refine go_istore_n K dX12_dayBegins_15 rfl (by decide) (lv' := [(3, .int (0 : Int32)), (0, .ref (gB G + 446)), (1, .int v1), (2, .int v2)]) rfl ?_
      exact go_sub [1, 2, 3, 0] rfl (hl16 FU _ _ _ _ h)
  rw [f_X12_dayBegins] at h
  refine go_iconst (v := (0 : Int32)) K dX12_dayBegins_0 (by decide) ?_
  refine go_istore_n K dX12_dayBegins_1 rfl (by decide) (lv' := [(1, .int (0 : Int32)), (0, .ref (gB G + 446))]) rfl ?_
  refine go_iconst (v := (0 : Int32)) K dX12_dayBegins_2 (by decide) ?_
  refine go_istore_n K dX12_dayBegins_3 rfl (by decide) (lv' := [(2, .int (0 : Int32)), (1, .int (0 : Int32)), (0, .ref (gB G + 446))]) rfl ?_
  exact go_sub [2, 1, 0] rfl (hl4 FU _ _ _ h)
noncomputable def f_X12_hourPasses (O : OM) : Option (Int32 × OM) := (if (10 : Int32) ≤ ((oup O 470 71 ((O.1 470 71) + (1 : Int32))).1 470 71) then (bnd2 (f_X12_dayBegins (oup (oup (oup O 470 71 ((O.1 470 71) + (1 : Int32))) 470 71 (0 : Int32)) 470 70 (((oup (oup O 470 71 ((O.1 470 71) + (1 : Int32))) 470 71 (0 : Int32)).1 470 70) + (1 : Int32)))) (fun r2 O2 => (some (r2, O2)))) else (some ((0 : Int32), (oup O 470 71 ((O.1 470 71) + (1 : Int32))))))
theorem cf_X12_hourPasses : CF yX12_hourPasses cX12_hourPasses 1 (Option.some Jvm.ClassFile.FieldType.int) 0 := ⟨kc_X12_hourPasses, kj_X12, ⟨by decide +kernel, by decide +kernel, by decide +kernel⟩, by decide⟩
theorem cv_X12_hourPasses : CFv yX12_hourPasses := ⟨ki_X12_hourPasses, ks_X12_hourPasses⟩
set_option maxHeartbeats 4000000 in
set_option maxRecDepth 100000 in
theorem c_X12_hourPasses (l : Launch) (G : GT) (C : CM) (O : OM) (res : Int32) (O' : OM) (h : f_X12_hourPasses O = some (res, O')) : MI l G yX12_hourPasses cX12_hourPasses 1 (Option.some Jvm.ClassFile.FieldType.int) (7) [.ref (gB G + 446)] (C, O) res (C, O') := by
  unfold MI
  refine met_in RX12 (by decide +kernel) rfl [(0, .ref (gB G + 446))] rfl (Nat.le_of_ble_eq_true rfl) ?_
  intro pM eM sM mM aM bM meM cM K hr
  rw [f_X12_hourPasses] at h
  refine go_aload_n K dX12_hourPasses_0 0 rfl rfl ?_
  refine gf_X12 K 40 (by decide) kf_X12_87 (v := .ref (gB G + 470)) rfl dX12_hourPasses_1 ?_
  refine go_bipush (v := (71 : Int32)) K dX12_hourPasses_4 (by decide) ?_
  refine go_dup2 K dX12_hourPasses_6 rfl rfl ?_
  refine go_mald K (Nat.le_of_ble_eq_true rfl) sh_470 (in_k (k := 71) (by decide) (by decide)) rfl dX12_hourPasses_7 ?_
  refine go_iconst (v := (1 : Int32)) K dX12_hourPasses_8 (by decide) ?_
  refine go_iadd K dX12_hourPasses_9 ?_
  refine go_mast K (Nat.le_of_ble_eq_true rfl) sh_470 (in_k (k := 71) (by decide) (by decide)) rfl dX12_hourPasses_10 ?_
  refine go_aload_n K dX12_hourPasses_11 0 rfl rfl ?_
  refine gf_X12 K 40 (by decide) kf_X12_87 (v := .ref (gB G + 470)) rfl dX12_hourPasses_12 ?_
  refine go_bipush (v := (71 : Int32)) K dX12_hourPasses_15 (by decide) ?_
  refine go_mald K (Nat.le_of_ble_eq_true rfl) sh_470 (in_k (k := 71) (by decide) (by decide)) rfl dX12_hourPasses_17 ?_
  refine go_bipush (v := (10 : Int32)) K dX12_hourPasses_18 (by decide) ?_
  refine go_icmp_ge (tgt := 25) K dX12_hourPasses_20 (by decide) (fun c1 => ?_) (fun c1 => ?_)
  rotate_left
  · replace h := ite_f h c1
    refine go_iconst (v := (0 : Int32)) K dX12_hourPasses_23 (by decide) ?_
    exact go_iret K hr (Prod.mk.inj (Option.some.inj h)).1 (congrArg (fun z => (C, z)) (Prod.mk.inj (Option.some.inj h)).2) dX12_hourPasses_24
  replace h := ite_t h c1
  refine go_aload_n K dX12_hourPasses_25 0 rfl rfl ?_
  refine gf_X12 K 40 (by decide) kf_X12_87 (v := .ref (gB G + 470)) rfl dX12_hourPasses_26 ?_
  refine go_bipush (v := (71 : Int32)) K dX12_hourPasses_29 (by decide) ?_
  refine go_iconst (v := (0 : Int32)) K dX12_hourPasses_31 (by decide) ?_
  refine go_mast K (Nat.le_of_ble_eq_true rfl) sh_470 (in_k (k := 71) (by decide) (by decide)) rfl dX12_hourPasses_32 ?_
  refine go_aload_n K dX12_hourPasses_33 0 rfl rfl ?_
  refine gf_X12 K 40 (by decide) kf_X12_87 (v := .ref (gB G + 470)) rfl dX12_hourPasses_34 ?_
  refine go_bipush (v := (70 : Int32)) K dX12_hourPasses_37 (by decide) ?_
  refine go_dup2 K dX12_hourPasses_39 rfl rfl ?_
  refine go_mald K (Nat.le_of_ble_eq_true rfl) sh_470 (in_k (k := 70) (by decide) (by decide)) rfl dX12_hourPasses_40 ?_
  refine go_iconst (v := (1 : Int32)) K dX12_hourPasses_41 (by decide) ?_
  refine go_iadd K dX12_hourPasses_42 ?_
  refine go_mast K (Nat.le_of_ble_eq_true rfl) sh_470 (in_k (k := 70) (by decide) (by decide)) rfl dX12_hourPasses_43 ?_
  refine go_aload_n K dX12_hourPasses_44 0 rfl rfl ?_
  obtain ⟨r2, O2, e2, h⟩ := bnd2_e h
  refine go_cVI K (c_X12_dayBegins l G _ _ _ _ e2) cf_X12_dayBegins cv_X12_dayBegins km_X12_396 rv_X12 (by decide) rfl rfl (Nat.le_of_ble_eq_true rfl) dX12_hourPasses_45 ?_
  exact go_iret K hr (Prod.mk.inj (Option.some.inj h)).1 (congrArg (fun z => (C, z)) (Prod.mk.inj (Option.some.inj h)).2) dX12_hourPasses_48
noncomputable def X12_passesThrough_l13 : Nat → Int32 → Int32 → Int32 → OM → Option (Int32 × OM)
  | 0, _, _, _, _ => none
  | n + 1, v1, v2, v3, O => (if v1 ≤ v3 then (some (v2, O)) else (bnd (f_X12_canPass O) (fun r3 => (if r3 = 0 then (some (v2, O)) else (bnd2 (f_X12_hourPasses O) (fun r5 O5 => (X12_passesThrough_l13 n v1 (v2 + r5) (v3 + (1 : Int32)) O5)))))))
noncomputable def f_X12_passesThrough (v1 : Int32) (O : OM) : Option (Int32 × OM) := (bnd (f_X12_laysNow O) (fun O1 => (X12_passesThrough_l13 FU v1 (0 : Int32) (0 : Int32) (oup O1 446 43 (-1 : Int32)))))
theorem cf_X12_passesThrough : CF yX12_passesThrough cX12_passesThrough 4 (Option.some Jvm.ClassFile.FieldType.int) 1 := ⟨kc_X12_passesThrough, kj_X12, ⟨by decide +kernel, by decide +kernel, by decide +kernel⟩, by decide⟩
theorem cv_X12_passesThrough : CFv yX12_passesThrough := ⟨ki_X12_passesThrough, ks_X12_passesThrough⟩
set_option maxHeartbeats 4000000 in
set_option maxRecDepth 100000 in
theorem c_X12_passesThrough (l : Launch) (G : GT) (v1 : Int32) (C : CM) (O : OM) (res : Int32) (O' : OM) (h : f_X12_passesThrough v1 O = some (res, O')) : MI l G yX12_passesThrough cX12_passesThrough 4 (Option.some Jvm.ClassFile.FieldType.int) (8) [.ref (gB G + 446), .int v1] (C, O) res (C, O') := by
  unfold MI
  refine met_in RX12 (by decide +kernel) rfl [(0, .ref (gB G + 446)), (1, .int v1)] rfl (Nat.le_of_ble_eq_true rfl) ?_
  intro pM eM sM mM aM bM meM cM K hr
  have hl13 : ∀ (n13 : Nat) (v1 : Int32) (v2 : Int32) (v3 : Int32) (O : OM), X12_passesThrough_l13 n13 v1 v2 v3 O = some (res, O') → GO pM l eM (8) sM mM aM bM meM cM (MQ bM (va_Qi (fun (r' : Int32) (u : CM × OM) => r' = res ∧ u = (C, O')) (wB G) (Fr G)) aM sM 0 0 (Fr G)) G 4 (C, O) 13 [(0, .ref (gB G + 446)), (1, .int v1), (2, .int v2), (3, .int v3)] [] := by
    intro n13
    induction n13 with
    | zero =>
      intro v1 v2 v3 O h
      rw [X12_passesThrough_l13] at h
      cases h
    | succ n13 ih13 =>
      intro v1 v2 v3 O h
      rw [X12_passesThrough_l13] at h
      refine go_iload_n K dX12_passesThrough_13 3 rfl rfl ?_
      refine go_iload_n K dX12_passesThrough_14 1 rfl rfl ?_
      refine go_icmp_ge (tgt := 38) K dX12_passesThrough_15 (by decide) (fun c2 => ?_) (fun c2 => ?_)
      · replace h := ite_t h c2
        refine go_iload_n K dX12_passesThrough_38 2 rfl rfl ?_
        exact go_iret K hr (Prod.mk.inj (Option.some.inj h)).1 (congrArg (fun z => (C, z)) (Prod.mk.inj (Option.some.inj h)).2) dX12_passesThrough_39
      replace h := ite_f h c2
      refine go_aload_n K dX12_passesThrough_18 0 rfl rfl ?_
      obtain ⟨r3, e3, h⟩ := bnd_e h
      refine go_cVI K (c_X12_canPass l G _ _ _ e3) cf_X12_canPass cv_X12_canPass km_X12_402 rv_X12 (by decide) rfl rfl (Nat.le_of_ble_eq_true rfl) dX12_passesThrough_19 ?_
      refine go_if_eq (tgt := 38) K dX12_passesThrough_22 (by decide) (fun c4 => ?_) (fun c4 => ?_)
      · replace h := ite_t h c4
        refine go_iload_n K dX12_passesThrough_38 2 rfl rfl ?_
        exact go_iret K hr (Prod.mk.inj (Option.some.inj h)).1 (congrArg (fun z => (C, z)) (Prod.mk.inj (Option.some.inj h)).2) dX12_passesThrough_39
      replace h := ite_f h c4
      refine go_iload_n K dX12_passesThrough_25 2 rfl rfl ?_
      refine go_aload_n K dX12_passesThrough_26 0 rfl rfl ?_
      obtain ⟨r5, O5, e5, h⟩ := bnd2_e h
      refine go_cVI K (c_X12_hourPasses l G _ _ _ _ e5) cf_X12_hourPasses cv_X12_hourPasses km_X12_406 rv_X12 (by decide) rfl rfl (Nat.le_of_ble_eq_true rfl) dX12_passesThrough_27 ?_
      refine go_iadd K dX12_passesThrough_30 ?_
      refine go_istore_n K dX12_passesThrough_31 rfl (by decide) (lv' := [(2, .int (v2 + r5)), (0, .ref (gB G + 446)), (1, .int v1), (3, .int v3)]) rfl ?_
      refine go_iinc K dX12_passesThrough_32 3 rfl (v := (v3 + (1 : Int32))) rfl (by decide) (lv' := [(3, .int (v3 + (1 : Int32))), (2, .int (v2 + r5)), (0, .ref (gB G + 446)), (1, .int v1)]) rfl ?_
      refine go_goto (tgt := 13) K dX12_passesThrough_35 (by decide) ?_
      exact go_sub [2, 3, 1, 0] rfl (ih13 _ _ _ _ h)
  rw [f_X12_passesThrough] at h
  refine go_aload_n K dX12_passesThrough_0 0 rfl rfl ?_
  obtain ⟨O1, e1, h⟩ := bnd_e h
  refine go_cVV K (c_X12_laysNow l G _ _ _ e1) cf_X12_laysNow cv_X12_laysNow km_X12_399 rv_X12 (by decide) rfl rfl (Nat.le_of_ble_eq_true rfl) dX12_passesThrough_1 ?_
  refine go_aload_n K dX12_passesThrough_4 0 rfl rfl ?_
  refine go_iconst (v := (-1 : Int32)) K dX12_passesThrough_5 (by decide) ?_
  refine pf_X12 K 43 (by decide) kf_X12_393 rfl rfl rfl dX12_passesThrough_6 ?_
  refine go_iconst (v := (0 : Int32)) K dX12_passesThrough_9 (by decide) ?_
  refine go_istore_n K dX12_passesThrough_10 rfl (by decide) (lv' := [(2, .int (0 : Int32)), (0, .ref (gB G + 446)), (1, .int v1)]) rfl ?_
  refine go_iconst (v := (0 : Int32)) K dX12_passesThrough_11 (by decide) ?_
  refine go_istore_n K dX12_passesThrough_12 rfl (by decide) (lv' := [(3, .int (0 : Int32)), (2, .int (0 : Int32)), (0, .ref (gB G + 446)), (1, .int v1)]) rfl ?_
  exact go_sub [2, 3, 1, 0] rfl (hl13 FU _ _ _ _ h)
noncomputable def f_X12_bow (v1 : Int32) (v2 : Int32) (O : OM) : Option (Int32 × OM) := (bnd (f_X12_areTwo v1 v2 O) (fun r1 => (if r1 = 0 then (some ((-1 : Int32), O)) else (bnd (f_X12_laysNow O) (fun O3 => (bnd2 (f_X12_canBow v1 v2 O3) (fun r4 O4 => (if r4 = 0 then (some ((-1 : Int32), O4)) else (bnd (f_X12_keepsStep O4) (fun O6 => (bnd (f_X12_bows v1 v2 O6) (fun O7 => (bnd (f_X12_keepsNow O7) (fun O8 => (gd (inb ((0 : Int32) + v1) 164) (some ((O8.1 470 ((0 : Int32) + v1).toNatClampNeg), O8)))))))))))))))))
theorem cf_X12_bow : CF yX12_bow cX12_bow 3 (Option.some Jvm.ClassFile.FieldType.int) 2 := ⟨kc_X12_bow, kj_X12, ⟨by decide +kernel, by decide +kernel, by decide +kernel⟩, by decide⟩
theorem cv_X12_bow : CFv yX12_bow := ⟨ki_X12_bow, ks_X12_bow⟩
set_option maxHeartbeats 4000000 in
set_option maxRecDepth 100000 in
theorem c_X12_bow (l : Launch) (G : GT) (v1 : Int32) (v2 : Int32) (C : CM) (O : OM) (res : Int32) (O' : OM) (h : f_X12_bow v1 v2 O = some (res, O')) : MI l G yX12_bow cX12_bow 3 (Option.some Jvm.ClassFile.FieldType.int) (7) [.ref (gB G + 446), .int v1, .int v2] (C, O) res (C, O') := by
  unfold MI
  refine met_in RX12 (by decide +kernel) rfl [(0, .ref (gB G + 446)), (1, .int v1), (2, .int v2)] rfl (Nat.le_of_ble_eq_true rfl) ?_
  intro pM eM sM mM aM bM meM cM K hr
  rw [f_X12_bow] at h
  refine go_aload_n K dX12_bow_0 0 rfl rfl ?_
  refine go_iload_n K dX12_bow_1 1 rfl rfl ?_
  refine go_iload_n K dX12_bow_2 2 rfl rfl ?_
  obtain ⟨r1, e1, h⟩ := bnd_e h
  refine go_cVI K (c_X12_areTwo l G _ _ _ _ _ e1) cf_X12_areTwo cv_X12_areTwo km_X12_409 rv_X12 (by decide) rfl rfl (Nat.le_of_ble_eq_true rfl) dX12_bow_3 ?_
  refine go_if_ne (tgt := 11) K dX12_bow_6 (by decide) (fun c2 => ?_) (fun c2 => ?_)
  rotate_left
  · replace h := ite_t h c2
    refine go_iconst (v := (-1 : Int32)) K dX12_bow_9 (by decide) ?_
    exact go_iret K hr (Prod.mk.inj (Option.some.inj h)).1 (congrArg (fun z => (C, z)) (Prod.mk.inj (Option.some.inj h)).2) dX12_bow_10
  replace h := ite_f h c2
  refine go_aload_n K dX12_bow_11 0 rfl rfl ?_
  obtain ⟨O3, e3, h⟩ := bnd_e h
  refine go_cVV K (c_X12_laysNow l G _ _ _ e3) cf_X12_laysNow cv_X12_laysNow km_X12_399 rv_X12 (by decide) rfl rfl (Nat.le_of_ble_eq_true rfl) dX12_bow_12 ?_
  refine go_aload_n K dX12_bow_15 0 rfl rfl ?_
  refine go_iload_n K dX12_bow_16 1 rfl rfl ?_
  refine go_iload_n K dX12_bow_17 2 rfl rfl ?_
  obtain ⟨r4, O4, e4, h⟩ := bnd2_e h
  refine go_cVI K (c_X12_canBow l G _ _ _ _ _ _ e4) cf_X12_canBow cv_X12_canBow km_X12_412 rv_X12 (by decide) rfl rfl (Nat.le_of_ble_eq_true rfl) dX12_bow_18 ?_
  refine go_if_ne (tgt := 26) K dX12_bow_21 (by decide) (fun c5 => ?_) (fun c5 => ?_)
  rotate_left
  · replace h := ite_t h c5
    refine go_iconst (v := (-1 : Int32)) K dX12_bow_24 (by decide) ?_
    exact go_iret K hr (Prod.mk.inj (Option.some.inj h)).1 (congrArg (fun z => (C, z)) (Prod.mk.inj (Option.some.inj h)).2) dX12_bow_25
  replace h := ite_f h c5
  refine go_aload_n K dX12_bow_26 0 rfl rfl ?_
  obtain ⟨O6, e6, h⟩ := bnd_e h
  refine go_cVV K (c_X12_keepsStep l G _ _ _ e6) cf_X12_keepsStep cv_X12_keepsStep km_X12_415 rv_X12 (by decide) rfl rfl (Nat.le_of_ble_eq_true rfl) dX12_bow_27 ?_
  refine go_aload_n K dX12_bow_30 0 rfl rfl ?_
  refine go_iload_n K dX12_bow_31 1 rfl rfl ?_
  refine go_iload_n K dX12_bow_32 2 rfl rfl ?_
  obtain ⟨O7, e7, h⟩ := bnd_e h
  refine go_cVV K (c_X12_bows l G _ _ _ _ _ e7) cf_X12_bows cv_X12_bows km_X12_418 rv_X12 (by decide) rfl rfl (Nat.le_of_ble_eq_true rfl) dX12_bow_33 ?_
  refine go_aload_n K dX12_bow_36 0 rfl rfl ?_
  obtain ⟨O8, e8, h⟩ := bnd_e h
  refine go_cVV K (c_X12_keepsNow l G _ _ _ e8) cf_X12_keepsNow cv_X12_keepsNow km_X12_421 rv_X12 (by decide) rfl rfl (Nat.le_of_ble_eq_true rfl) dX12_bow_37 ?_
  refine go_aload_n K dX12_bow_40 0 rfl rfl ?_
  refine gf_X12 K 40 (by decide) kf_X12_87 (v := .ref (gB G + 470)) rfl dX12_bow_41 ?_
  refine go_iconst (v := (0 : Int32)) K dX12_bow_44 (by decide) ?_
  refine go_iload_n K dX12_bow_45 1 rfl rfl ?_
  refine go_iadd K dX12_bow_46 ?_
  obtain ⟨g9, h⟩ := gd_e h
  refine go_mald K (Nat.le_of_ble_eq_true rfl) sh_470 g9 rfl dX12_bow_47 ?_
  exact go_iret K hr (Prod.mk.inj (Option.some.inj h)).1 (congrArg (fun z => (C, z)) (Prod.mk.inj (Option.some.inj h)).2) dX12_bow_48
noncomputable def f_X12_owe (v1 : Int32) (v2 : Int32) (v3 : Int32) (O : OM) : Option (Int32 × OM) := (bnd (f_X12_areTwo v1 v2 O) (fun r1 => (if r1 = 0 then (some ((0 : Int32), O)) else (if (f_X12_in v3 (0 : Int32) (9999 : Int32)) = 0 then (some ((0 : Int32), O)) else (gd (inb ((40 : Int32) + (f_X12_debtAt v1 v2)) 5130) (if (O.1 447 ((40 : Int32) + (f_X12_debtAt v1 v2)).toNatClampNeg) = v3 then (some ((0 : Int32), O)) else (bnd (f_X12_keepsStep O) (fun O6 => (gd (inb ((40 : Int32) + (f_X12_debtAt v1 v2)) 5130) (some ((1 : Int32), (oup O6 447 ((40 : Int32) + (f_X12_debtAt v1 v2)).toNatClampNeg v3))))))))))))
theorem cf_X12_owe : CF yX12_owe cX12_owe 4 (Option.some Jvm.ClassFile.FieldType.boolean) 3 := ⟨kc_X12_owe, kj_X12, ⟨by decide +kernel, by decide +kernel, by decide +kernel⟩, by decide⟩
theorem cv_X12_owe : CFv yX12_owe := ⟨ki_X12_owe, ks_X12_owe⟩
set_option maxHeartbeats 4000000 in
set_option maxRecDepth 100000 in
theorem c_X12_owe (l : Launch) (G : GT) (v1 : Int32) (v2 : Int32) (v3 : Int32) (C : CM) (O : OM) (res : Int32) (O' : OM) (h : f_X12_owe v1 v2 v3 O = some (res, O')) : MI l G yX12_owe cX12_owe 4 (Option.some Jvm.ClassFile.FieldType.boolean) (4) [.ref (gB G + 446), .int v1, .int v2, .int v3] (C, O) res (C, O') := by
  unfold MI
  refine met_in RX12 (by decide +kernel) rfl [(0, .ref (gB G + 446)), (1, .int v1), (2, .int v2), (3, .int v3)] rfl (Nat.le_of_ble_eq_true rfl) ?_
  intro pM eM sM mM aM bM meM cM K hr
  rw [f_X12_owe] at h
  refine go_aload_n K dX12_owe_0 0 rfl rfl ?_
  refine go_iload_n K dX12_owe_1 1 rfl rfl ?_
  refine go_iload_n K dX12_owe_2 2 rfl rfl ?_
  obtain ⟨r1, e1, h⟩ := bnd_e h
  refine go_cVI K (c_X12_areTwo l G _ _ _ _ _ e1) cf_X12_areTwo cv_X12_areTwo km_X12_409 rv_X12 (by decide) rfl rfl (Nat.le_of_ble_eq_true rfl) dX12_owe_3 ?_
  refine go_if_eq (tgt := 37) K dX12_owe_6 (by decide) (fun c2 => ?_) (fun c2 => ?_)
  · replace h := ite_t h c2
    refine go_iconst (v := (0 : Int32)) K dX12_owe_37 (by decide) ?_
    exact go_zret K hr (by decide) (Prod.mk.inj (Option.some.inj h)).1 (congrArg (fun z => (C, z)) (Prod.mk.inj (Option.some.inj h)).2) dX12_owe_38
  replace h := ite_f h c2
  refine go_iload_n K dX12_owe_9 3 rfl rfl ?_
  refine go_iconst (v := (0 : Int32)) K dX12_owe_10 (by decide) ?_
  refine go_sipush (v := (9999 : Int32)) K dX12_owe_11 (by decide) ?_
  refine go_cSI K (c_X12_in l G _ _ _ _ _ _ rfl) cf_X12_in kt_X12_in km_X12_107 (by decide) rfl rfl (Nat.le_of_ble_eq_true rfl) dX12_owe_14 ?_
  refine go_if_eq (tgt := 37) K dX12_owe_17 (by decide) (fun c3 => ?_) (fun c3 => ?_)
  · replace h := ite_t h c3
    refine go_iconst (v := (0 : Int32)) K dX12_owe_37 (by decide) ?_
    exact go_zret K hr (by decide) (Prod.mk.inj (Option.some.inj h)).1 (congrArg (fun z => (C, z)) (Prod.mk.inj (Option.some.inj h)).2) dX12_owe_38
  replace h := ite_f h c3
  refine go_aload_n K dX12_owe_20 0 rfl rfl ?_
  refine gf_X12 K 0 (by decide) kf_X12_7 (v := .ref (gB G + 447)) rfl dX12_owe_21 ?_
  refine go_bipush (v := (40 : Int32)) K dX12_owe_24 (by decide) ?_
  refine go_iload_n K dX12_owe_26 1 rfl rfl ?_
  refine go_iload_n K dX12_owe_27 2 rfl rfl ?_
  refine go_cSI K (c_X12_debtAt l G _ _ _ _ _ rfl) cf_X12_debtAt kt_X12_debtAt km_X12_335 (by decide) rfl rfl (Nat.le_of_ble_eq_true rfl) dX12_owe_28 ?_
  refine go_iadd K dX12_owe_31 ?_
  obtain ⟨g4, h⟩ := gd_e h
  refine go_mald K (Nat.le_of_ble_eq_true rfl) sh_447 g4 rfl dX12_owe_32 ?_
  refine go_iload_n K dX12_owe_33 3 rfl rfl ?_
  refine go_icmp_ne (tgt := 39) K dX12_owe_34 (by decide) (fun c5 => ?_) (fun c5 => ?_)
  rotate_left
  · replace h := ite_t h c5
    refine go_iconst (v := (0 : Int32)) K dX12_owe_37 (by decide) ?_
    exact go_zret K hr (by decide) (Prod.mk.inj (Option.some.inj h)).1 (congrArg (fun z => (C, z)) (Prod.mk.inj (Option.some.inj h)).2) dX12_owe_38
  replace h := ite_f h c5
  refine go_aload_n K dX12_owe_39 0 rfl rfl ?_
  obtain ⟨O6, e6, h⟩ := bnd_e h
  refine go_cVV K (c_X12_keepsStep l G _ _ _ e6) cf_X12_keepsStep cv_X12_keepsStep km_X12_415 rv_X12 (by decide) rfl rfl (Nat.le_of_ble_eq_true rfl) dX12_owe_40 ?_
  refine go_aload_n K dX12_owe_43 0 rfl rfl ?_
  refine gf_X12 K 0 (by decide) kf_X12_7 (v := .ref (gB G + 447)) rfl dX12_owe_44 ?_
  refine go_bipush (v := (40 : Int32)) K dX12_owe_47 (by decide) ?_
  refine go_iload_n K dX12_owe_49 1 rfl rfl ?_
  refine go_iload_n K dX12_owe_50 2 rfl rfl ?_
  refine go_cSI K (c_X12_debtAt l G _ _ _ _ _ rfl) cf_X12_debtAt kt_X12_debtAt km_X12_335 (by decide) rfl rfl (Nat.le_of_ble_eq_true rfl) dX12_owe_51 ?_
  refine go_iadd K dX12_owe_54 ?_
  refine go_iload_n K dX12_owe_55 3 rfl rfl ?_
  obtain ⟨g7, h⟩ := gd_e h
  refine go_mast K (Nat.le_of_ble_eq_true rfl) sh_447 g7 rfl dX12_owe_56 ?_
  refine go_iconst (v := (1 : Int32)) K dX12_owe_57 (by decide) ?_
  exact go_zret K hr (by decide) (Prod.mk.inj (Option.some.inj h)).1 (congrArg (fun z => (C, z)) (Prod.mk.inj (Option.some.inj h)).2) dX12_owe_58
