noncomputable def X12_settled_j129 (v1 : Int32) (v2 : Int32) (O : OM) : Option (Int32 × OM) := (gd (inb (((1 : Int32) <<< (v2 &&& 31)) - (1 : Int32)) 128) (if v1 = 0 then (some ((v2 - (O.1 474 (((1 : Int32) <<< (v2 &&& 31)) - (1 : Int32)).toNatClampNeg)), O)) else (some ((O.1 474 (((1 : Int32) <<< (v2 &&& 31)) - (1 : Int32)).toNatClampNeg), O))))
noncomputable def X12_settled_j121 (rc : Int32 → Int32 → Int32 → OM → Option (Int32 × OM)) (k129 : Int32 → Int32 → OM → Option (Int32 × OM)) (v1 : Int32) (v2 : Int32) (v3 : Int32) (t0 : Int32) (t1 : Int32) (t2 : Int32) (O : OM) : Option (Int32 × OM) := (gd (inb t2 128) (rc v1 v2 (v3 + (1 : Int32)) (oup O 474 t2.toNatClampNeg (t1 + t0))))
noncomputable def X12_settled_j104 (rc : Int32 → Int32 → Int32 → OM → Option (Int32 × OM)) (k129 : Int32 → Int32 → OM → Option (Int32 × OM)) (v1 : Int32) (v2 : Int32) (v3 : Int32) (v4 : Int32) (v5 : Int32) (O : OM) : Option (Int32 × OM) := (if v4 = 0 then (X12_settled_j121 rc k129 v1 v2 v3 (1 : Int32) v5 v3 O) else (X12_settled_j121 rc k129 v1 v2 v3 (0 : Int32) v5 v3 O))
noncomputable def X12_settled_j98 (rc : Int32 → Int32 → Int32 → Int32 → Int32 → Int32 → OM → Option (Int32 × OM)) (k104 : Int32 → Int32 → Int32 → Int32 → Int32 → OM → Option (Int32 × OM)) (v1 : Int32) (v2 : Int32) (v3 : Int32) (v4 : Int32) (v5 : Int32) (v6 : Int32) (O : OM) : Option (Int32 × OM) := (rc v1 v2 v3 v4 v5 (v6 + (1 : Int32)) O)
noncomputable def X12_settled_j96 (rc : Int32 → Int32 → Int32 → Int32 → Int32 → Int32 → OM → Option (Int32 × OM)) (k104 : Int32 → Int32 → Int32 → Int32 → Int32 → OM → Option (Int32 × OM)) (v1 : Int32) (v2 : Int32) (v3 : Int32) (v4 : Int32) (v6 : Int32) (t0 : Int32) (O : OM) : Option (Int32 × OM) := (X12_settled_j98 rc k104 v1 v2 v3 v4 t0 v6 O)
noncomputable def X12_settled_l36 (k104 : Int32 → Int32 → Int32 → Int32 → Int32 → OM → Option (Int32 × OM)) : Nat → Int32 → Int32 → Int32 → Int32 → Int32 → Int32 → OM → Option (Int32 × OM)
  | 0, _, _, _, _, _, _, _ => none
  | n + 1, v1, v2, v3, v4, v5, v6, O => (if v2 ≤ v6 then (k104 v1 v2 v3 v4 v5 O) else (if (f_X12_has v3 v6) = 0 then (X12_settled_j98 (fun v1 v2 v3 v4 v5 v6 O => X12_settled_l36 k104 n v1 v2 v3 v4 v5 v6 O) k104 v1 v2 v3 v4 v5 v6 O) else (bnd (f_X12_allOwedTo v6 O) (fun r5 => (bnd (f_X12_allOwedBy v6 O) (fun r6 => (gd (inb (v3 - ((1 : Int32) <<< (v6 &&& 31))) 128) (if (O.1 474 (v3 - ((1 : Int32) <<< (v6 &&& 31))).toNatClampNeg) ≤ v5 then (X12_settled_j96 (fun v1 v2 v3 v4 v5 v6 O => X12_settled_l36 k104 n v1 v2 v3 v4 v5 v6 O) k104 v1 v2 v3 (v4 + (r5 - r6)) v6 v5 O) else (X12_settled_j96 (fun v1 v2 v3 v4 v5 v6 O => X12_settled_l36 k104 n v1 v2 v3 v4 v5 v6 O) k104 v1 v2 v3 (v4 + (r5 - r6)) v6 (O.1 474 (v3 - ((1 : Int32) <<< (v6 &&& 31))).toNatClampNeg) O)))))))))
noncomputable def X12_settled_l20 (k129 : Int32 → Int32 → OM → Option (Int32 × OM)) : Nat → Int32 → Int32 → Int32 → OM → Option (Int32 × OM)
  | 0, _, _, _, _ => none
  | n + 1, v1, v2, v3, O => (if ((1 : Int32) <<< (v2 &&& 31)) ≤ v3 then (k129 v1 v2 O) else (X12_settled_l36 (fun v1 v2 v3 v4 v5 O => (X12_settled_j104 (fun v1 v2 v3 O => X12_settled_l20 k129 n v1 v2 v3 O) k129 v1 v2 v3 v4 v5 O)) FU v1 v2 v3 (0 : Int32) (0 : Int32) (0 : Int32) O))
noncomputable def f_X12_settled (v1 : Int32) (O : OM) : Option (Int32 × OM) := (bnd (f_X12_laysNow O) (fun O1 => (X12_settled_l20 (fun v1 v2 O => (X12_settled_j129 v1 v2 O)) FU v1 (O1.1 447 0) (1 : Int32) (oup O1 474 0 (0 : Int32)))))
theorem cf_X12_settled : CF yX12_settled cX12_settled 8 (Option.some Jvm.ClassFile.FieldType.int) 1 := ⟨kc_X12_settled, kj_X12, ⟨by decide +kernel, by decide +kernel, by decide +kernel⟩, by decide⟩
theorem cv_X12_settled : CFv yX12_settled := ⟨ki_X12_settled, ks_X12_settled⟩
set_option maxHeartbeats 4000000 in
set_option maxRecDepth 100000 in
theorem c_X12_settled (l : Launch) (G : GT) (v1 : Int32) (C : CM) (O : OM) (res : Int32) (O' : OM) (h : f_X12_settled v1 O = some (res, O')) : MI l G yX12_settled cX12_settled 8 (Option.some Jvm.ClassFile.FieldType.int) (3) [.ref (gB G + 446), .int v1] (C, O) res (C, O') := by
  unfold MI
  refine met_in RX12 (by decide +kernel) rfl [(0, .ref (gB G + 446)), (1, .int v1)] rfl (Nat.le_of_ble_eq_true rfl) ?_
  intro pM eM sM mM aM bM meM cM K hr
  have hj129 : ∀ (v1 : Int32) (v2 : Int32) (O : OM), X12_settled_j129 v1 v2 O = some (res, O') → GO pM l eM (3) sM mM aM bM meM cM (MQ bM (va_Qi (fun (r' : Int32) (u : CM × OM) => r' = res ∧ u = (C, O')) (wB G) (Fr G)) aM sM 0 0 (Fr G)) G 8 (C, O) 129 [(0, .ref (gB G + 446)), (1, .int v1), (2, .int v2)] [] := by
    intro v1 v2 O h
    rw [X12_settled_j129] at h
    refine go_aload_n K dX12_settled_129 0 rfl rfl ?_
    refine gf_X12 K 45 (by decide) kf_X12_100 (v := .ref (gB G + 474)) rfl dX12_settled_130 ?_
    refine go_iconst (v := (1 : Int32)) K dX12_settled_133 (by decide) ?_
    refine go_iload_n K dX12_settled_134 2 rfl rfl ?_
    refine go_ishl K dX12_settled_135 ?_
    refine go_iconst (v := (1 : Int32)) K dX12_settled_136 (by decide) ?_
    refine go_isub K dX12_settled_137 ?_
    obtain ⟨g11, h⟩ := gd_e h
    refine go_mald K (Nat.le_of_ble_eq_true rfl) sh_474 g11 rfl dX12_settled_138 ?_
    refine go_istore_n K dX12_settled_139 rfl (by decide) (lv' := [(3, .int (O.1 474 (((1 : Int32) <<< (v2 &&& 31)) - (1 : Int32)).toNatClampNeg)), (0, .ref (gB G + 446)), (1, .int v1), (2, .int v2)]) rfl ?_
    refine go_iload_n K dX12_settled_140 2 rfl rfl ?_
    refine go_if_eq (tgt := 148) K dX12_settled_141 (by decide) (fun c12 => ?_) (fun c12 => ?_)
    rotate_left
    · replace h := ite_f h c12
      refine go_iload_n K dX12_settled_144 0 rfl rfl ?_
      refine go_goto (tgt := 151) K dX12_settled_145 (by decide) ?_
      exact go_iret K hr (Prod.mk.inj (Option.some.inj h)).1 (congrArg (fun z => (C, z)) (Prod.mk.inj (Option.some.inj h)).2) dX12_settled_151
    replace h := ite_t h c12
    refine go_iload_n K dX12_settled_148 3 rfl rfl ?_
    refine go_iload_n K dX12_settled_149 0 rfl rfl ?_
    refine go_isub K dX12_settled_150 ?_
    exact go_iret K hr (Prod.mk.inj (Option.some.inj h)).1 (congrArg (fun z => (C, z)) (Prod.mk.inj (Option.some.inj h)).2) dX12_settled_151
  have hl20 : ∀ (n20 : Nat) (v1 : Int32) (v2 : Int32) (v3 : Int32) (O : OM), X12_settled_l20 (fun v1 v2 O => (X12_settled_j129 v1 v2 O)) n20 v1 v2 v3 O = some (res, O') → GO pM l eM (3) sM mM aM bM meM cM (MQ bM (va_Qi (fun (r' : Int32) (u : CM × OM) => r' = res ∧ u = (C, O')) (wB G) (Fr G)) aM sM 0 0 (Fr G)) G 8 (C, O) 20 [(0, .ref (gB G + 446)), (1, .int v1), (2, .int v2), (3, .int v3)] [] := by
    intro n20
    induction n20 with
    | zero =>
      intro v1 v2 v3 O h
      rw [X12_settled_l20] at h
      cases h
    | succ n20 ih20 =>
      have hj121 : ∀ (v1 : Int32) (v2 : Int32) (v3 : Int32) (t0 : Int32) (t1 : Int32) (t2 : Int32) (O : OM), X12_settled_j121 (fun v1 v2 v3 O => X12_settled_l20 (fun v1 v2 O => (X12_settled_j129 v1 v2 O)) n20 v1 v2 v3 O) (fun v1 v2 O => (X12_settled_j129 v1 v2 O)) v1 v2 v3 t0 t1 t2 O = some (res, O') → GO pM l eM (3) sM mM aM bM meM cM (MQ bM (va_Qi (fun (r' : Int32) (u : CM × OM) => r' = res ∧ u = (C, O')) (wB G) (Fr G)) aM sM 0 0 (Fr G)) G 8 (C, O) 121 [(0, .ref (gB G + 446)), (1, .int v1), (2, .int v2), (3, .int v3)] [.int t0, .int t1, .int t2, .ref (gB G + 474)] := by
        intro v1 v2 v3 t0 t1 t2 O h
        rw [X12_settled_j121] at h
        refine go_iadd K dX12_settled_121 ?_
        obtain ⟨g10, h⟩ := gd_e h
        refine go_mast K (Nat.le_of_ble_eq_true rfl) sh_474 g10 rfl dX12_settled_122 ?_
        refine go_iinc K dX12_settled_123 3 rfl (v := (v3 + (1 : Int32))) rfl (by decide) (lv' := [(3, .int (v3 + (1 : Int32))), (0, .ref (gB G + 446)), (1, .int v1), (2, .int v2)]) rfl ?_
        refine go_goto (tgt := 20) K dX12_settled_126 (by decide) ?_
        exact go_sub [1, 2, 3, 0] rfl (ih20 _ _ _ _ h)
      have hj104 : ∀ (v1 : Int32) (v2 : Int32) (v3 : Int32) (v4 : Int32) (v5 : Int32) (O : OM), X12_settled_j104 (fun v1 v2 v3 O => X12_settled_l20 (fun v1 v2 O => (X12_settled_j129 v1 v2 O)) n20 v1 v2 v3 O) (fun v1 v2 O => (X12_settled_j129 v1 v2 O)) v1 v2 v3 v4 v5 O = some (res, O') → GO pM l eM (3) sM mM aM bM meM cM (MQ bM (va_Qi (fun (r' : Int32) (u : CM × OM) => r' = res ∧ u = (C, O')) (wB G) (Fr G)) aM sM 0 0 (Fr G)) G 8 (C, O) 104 [(0, .ref (gB G + 446)), (1, .int v1), (2, .int v2), (3, .int v3), (4, .int v4), (5, .int v5)] [] := by
        intro v1 v2 v3 v4 v5 O h
        rw [X12_settled_j104] at h
        refine go_aload_n K dX12_settled_104 0 rfl rfl ?_
        refine gf_X12 K 45 (by decide) kf_X12_100 (v := .ref (gB G + 474)) rfl dX12_settled_105 ?_
        refine go_iload_n K dX12_settled_108 3 rfl rfl ?_
        refine go_iload K dX12_settled_109 5 rfl ?_
        refine go_iload K dX12_settled_111 4 rfl ?_
        refine go_if_ne (tgt := 120) K dX12_settled_113 (by decide) (fun c9 => ?_) (fun c9 => ?_)
        · replace h := ite_f h c9
          refine go_iconst (v := (0 : Int32)) K dX12_settled_120 (by decide) ?_
          exact go_sub [0, 1, 2, 3] rfl (hj121 _ _ _ _ _ _ _ h)
        replace h := ite_t h c9
        refine go_iconst (v := (1 : Int32)) K dX12_settled_116 (by decide) ?_
        refine go_goto (tgt := 121) K dX12_settled_117 (by decide) ?_
        exact go_sub [0, 1, 2, 3] rfl (hj121 _ _ _ _ _ _ _ h)
      have hl36 : ∀ (n36 : Nat) (v1 : Int32) (v2 : Int32) (v3 : Int32) (v4 : Int32) (v5 : Int32) (v6 : Int32) (O : OM), X12_settled_l36 (fun v1 v2 v3 v4 v5 O => (X12_settled_j104 (fun v1 v2 v3 O => X12_settled_l20 (fun v1 v2 O => (X12_settled_j129 v1 v2 O)) n20 v1 v2 v3 O) (fun v1 v2 O => (X12_settled_j129 v1 v2 O)) v1 v2 v3 v4 v5 O)) n36 v1 v2 v3 v4 v5 v6 O = some (res, O') → GO pM l eM (3) sM mM aM bM meM cM (MQ bM (va_Qi (fun (r' : Int32) (u : CM × OM) => r' = res ∧ u = (C, O')) (wB G) (Fr G)) aM sM 0 0 (Fr G)) G 8 (C, O) 36 [(0, .ref (gB G + 446)), (1, .int v1), (2, .int v2), (3, .int v3), (4, .int v4), (5, .int v5), (6, .int v6)] [] := by
        intro n36
        induction n36 with
        | zero =>
          intro v1 v2 v3 v4 v5 v6 O h
          rw [X12_settled_l36] at h
          cases h
        | succ n36 ih36 =>
          have hj98 : ∀ (v1 : Int32) (v2 : Int32) (v3 : Int32) (v4 : Int32) (v5 : Int32) (v6 : Int32) (O : OM), X12_settled_j98 (fun v1 v2 v3 v4 v5 v6 O => X12_settled_l36 (fun v1 v2 v3 v4 v5 O => (X12_settled_j104 (fun v1 v2 v3 O => X12_settled_l20 (fun v1 v2 O => (X12_settled_j129 v1 v2 O)) n20 v1 v2 v3 O) (fun v1 v2 O => (X12_settled_j129 v1 v2 O)) v1 v2 v3 v4 v5 O)) n36 v1 v2 v3 v4 v5 v6 O) (fun v1 v2 v3 v4 v5 O => (X12_settled_j104 (fun v1 v2 v3 O => X12_settled_l20 (fun v1 v2 O => (X12_settled_j129 v1 v2 O)) n20 v1 v2 v3 O) (fun v1 v2 O => (X12_settled_j129 v1 v2 O)) v1 v2 v3 v4 v5 O)) v1 v2 v3 v4 v5 v6 O = some (res, O') → GO pM l eM (3) sM mM aM bM meM cM (MQ bM (va_Qi (fun (r' : Int32) (u : CM × OM) => r' = res ∧ u = (C, O')) (wB G) (Fr G)) aM sM 0 0 (Fr G)) G 8 (C, O) 98 [(0, .ref (gB G + 446)), (1, .int v1), (2, .int v2), (3, .int v3), (4, .int v4), (5, .int v5), (6, .int v6)] [] := by
            intro v1 v2 v3 v4 v5 v6 O h
            rw [X12_settled_j98] at h
            refine go_iinc K dX12_settled_98 6 rfl (v := (v6 + (1 : Int32))) rfl (by decide) (lv' := [(6, .int (v6 + (1 : Int32))), (0, .ref (gB G + 446)), (1, .int v1), (2, .int v2), (3, .int v3), (4, .int v4), (5, .int v5)]) rfl ?_
            refine go_goto (tgt := 36) K dX12_settled_101 (by decide) ?_
            exact go_sub [1, 2, 3, 4, 5, 6, 0] rfl (ih36 _ _ _ _ _ _ _ h)
          have hj96 : ∀ (v1 : Int32) (v2 : Int32) (v3 : Int32) (v4 : Int32) (v6 : Int32) (t0 : Int32) (O : OM), X12_settled_j96 (fun v1 v2 v3 v4 v5 v6 O => X12_settled_l36 (fun v1 v2 v3 v4 v5 O => (X12_settled_j104 (fun v1 v2 v3 O => X12_settled_l20 (fun v1 v2 O => (X12_settled_j129 v1 v2 O)) n20 v1 v2 v3 O) (fun v1 v2 O => (X12_settled_j129 v1 v2 O)) v1 v2 v3 v4 v5 O)) n36 v1 v2 v3 v4 v5 v6 O) (fun v1 v2 v3 v4 v5 O => (X12_settled_j104 (fun v1 v2 v3 O => X12_settled_l20 (fun v1 v2 O => (X12_settled_j129 v1 v2 O)) n20 v1 v2 v3 O) (fun v1 v2 O => (X12_settled_j129 v1 v2 O)) v1 v2 v3 v4 v5 O)) v1 v2 v3 v4 v6 t0 O = some (res, O') → GO pM l eM (3) sM mM aM bM meM cM (MQ bM (va_Qi (fun (r' : Int32) (u : CM × OM) => r' = res ∧ u = (C, O')) (wB G) (Fr G)) aM sM 0 0 (Fr G)) G 8 (C, O) 96 [(0, .ref (gB G + 446)), (1, .int v1), (2, .int v2), (3, .int v3), (4, .int v4), (6, .int v6)] [.int t0] := by
            intro v1 v2 v3 v4 v6 t0 O h
            rw [X12_settled_j96] at h
            refine go_istore K dX12_settled_96 (by decide) (lv' := [(5, .int t0), (0, .ref (gB G + 446)), (1, .int v1), (2, .int v2), (3, .int v3), (4, .int v4), (6, .int v6)]) rfl ?_
            exact go_sub [1, 2, 3, 4, 5, 0, 6] rfl (hj98 _ _ _ _ _ _ _ h)
          intro v1 v2 v3 v4 v5 v6 O h
          rw [X12_settled_l36] at h
          refine go_iload K dX12_settled_36 6 rfl ?_
          refine go_iload_n K dX12_settled_38 2 rfl rfl ?_
          refine go_icmp_ge (tgt := 104) K dX12_settled_39 (by decide) (fun c3 => ?_) (fun c3 => ?_)
          · replace h := ite_t h c3
            exact go_sub [0, 1, 2, 3, 4, 5] rfl (hj104 _ _ _ _ _ _ h)
          replace h := ite_f h c3
          refine go_iload_n K dX12_settled_42 3 rfl rfl ?_
          refine go_iload K dX12_settled_43 6 rfl ?_
          refine go_cSI K (c_X12_has l G _ _ _ _ _ rfl) cf_X12_has kt_X12_has km_X12_469 (by decide) rfl rfl (Nat.le_of_ble_eq_true rfl) dX12_settled_45 ?_
          refine go_if_eq (tgt := 98) K dX12_settled_48 (by decide) (fun c4 => ?_) (fun c4 => ?_)
          · replace h := ite_t h c4
            exact hj98 _ _ _ _ _ _ _ h
          replace h := ite_f h c4
          refine go_iload K dX12_settled_51 4 rfl ?_
          refine go_aload_n K dX12_settled_53 0 rfl rfl ?_
          refine go_iload K dX12_settled_54 6 rfl ?_
          obtain ⟨r5, e5, h⟩ := bnd_e h
          refine go_cVI K (c_X12_allOwedTo l G _ _ _ _ e5) cf_X12_allOwedTo cv_X12_allOwedTo km_X12_460 rv_X12 (by decide) rfl rfl (Nat.le_of_ble_eq_true rfl) dX12_settled_56 ?_
          refine go_aload_n K dX12_settled_59 0 rfl rfl ?_
          refine go_iload K dX12_settled_60 6 rfl ?_
          obtain ⟨r6, e6, h⟩ := bnd_e h
          refine go_cVI K (c_X12_allOwedBy l G _ _ _ _ e6) cf_X12_allOwedBy cv_X12_allOwedBy km_X12_384 rv_X12 (by decide) rfl rfl (Nat.le_of_ble_eq_true rfl) dX12_settled_62 ?_
          refine go_isub K dX12_settled_65 ?_
          refine go_iadd K dX12_settled_66 ?_
          refine go_istore K dX12_settled_67 (by decide) (lv' := [(4, .int (v4 + (r5 - r6))), (0, .ref (gB G + 446)), (1, .int v1), (2, .int v2), (3, .int v3), (5, .int v5), (6, .int v6)]) rfl ?_
          refine go_aload_n K dX12_settled_69 1 rfl rfl ?_
          refine gf_X12 K 45 (by decide) kf_X12_100 (v := .ref (gB G + 474)) rfl dX12_settled_70 ?_
          refine go_iload_n K dX12_settled_73 4 rfl rfl ?_
          refine go_iconst (v := (1 : Int32)) K dX12_settled_74 (by decide) ?_
          refine go_iload K dX12_settled_75 6 rfl ?_
          refine go_ishl K dX12_settled_77 ?_
          refine go_isub K dX12_settled_78 ?_
          obtain ⟨g7, h⟩ := gd_e h
          refine go_mald K (Nat.le_of_ble_eq_true rfl) sh_474 g7 rfl dX12_settled_79 ?_
          refine go_istore K dX12_settled_80 (by decide) (lv' := [(7, .int (O.1 474 (v3 - ((1 : Int32) <<< (v6 &&& 31))).toNatClampNeg)), (4, .int (v4 + (r5 - r6))), (0, .ref (gB G + 446)), (1, .int v1), (2, .int v2), (3, .int v3), (5, .int v5), (6, .int v6)]) rfl ?_
          refine go_iload K dX12_settled_82 0 rfl ?_
          refine go_iload K dX12_settled_84 6 rfl ?_
          refine go_icmp_le (tgt := 94) K dX12_settled_86 (by decide) (fun c8 => ?_) (fun c8 => ?_)
          · replace h := ite_t h c8
            refine go_iload K dX12_settled_94 6 rfl ?_
            exact go_sub [2, 3, 4, 5, 1, 7] rfl (hj96 _ _ _ _ _ _ _ h)
          replace h := ite_f h c8
          refine go_iload K dX12_settled_89 0 rfl ?_
          refine go_goto (tgt := 96) K dX12_settled_91 (by decide) ?_
          exact go_sub [2, 3, 4, 5, 1, 7] rfl (hj96 _ _ _ _ _ _ _ h)
      intro v1 v2 v3 O h
      rw [X12_settled_l20] at h
      refine go_iload_n K dX12_settled_20 3 rfl rfl ?_
      refine go_iconst (v := (1 : Int32)) K dX12_settled_21 (by decide) ?_
      refine go_iload_n K dX12_settled_22 2 rfl rfl ?_
      refine go_ishl K dX12_settled_23 ?_
      refine go_icmp_ge (tgt := 129) K dX12_settled_24 (by decide) (fun c2 => ?_) (fun c2 => ?_)
      · replace h := ite_t h c2
        exact go_sub [0, 1, 2] rfl (hj129 _ _ _ h)
      replace h := ite_f h c2
      refine go_iconst (v := (0 : Int32)) K dX12_settled_27 (by decide) ?_
      refine go_istore K dX12_settled_28 (by decide) (lv' := [(4, .int (0 : Int32)), (0, .ref (gB G + 446)), (1, .int v1), (2, .int v2), (3, .int v3)]) rfl ?_
      refine go_iconst (v := (0 : Int32)) K dX12_settled_30 (by decide) ?_
      refine go_istore K dX12_settled_31 (by decide) (lv' := [(5, .int (0 : Int32)), (4, .int (0 : Int32)), (0, .ref (gB G + 446)), (1, .int v1), (2, .int v2), (3, .int v3)]) rfl ?_
      refine go_iconst (v := (0 : Int32)) K dX12_settled_33 (by decide) ?_
      refine go_istore K dX12_settled_34 (by decide) (lv' := [(6, .int (0 : Int32)), (5, .int (0 : Int32)), (4, .int (0 : Int32)), (0, .ref (gB G + 446)), (1, .int v1), (2, .int v2), (3, .int v3)]) rfl ?_
      exact go_sub [3, 4, 5, 6, 2, 1, 0] rfl (hl36 FU _ _ _ _ _ _ _ h)
  rw [f_X12_settled] at h
  refine go_aload_n K dX12_settled_0 0 rfl rfl ?_
  obtain ⟨O1, e1, h⟩ := bnd_e h
  refine go_cVV K (c_X12_laysNow l G _ _ _ e1) cf_X12_laysNow cv_X12_laysNow km_X12_399 rv_X12 (by decide) rfl rfl (Nat.le_of_ble_eq_true rfl) dX12_settled_1 ?_
  refine go_aload_n K dX12_settled_4 0 rfl rfl ?_
  refine gf_X12 K 0 (by decide) kf_X12_7 (v := .ref (gB G + 447)) rfl dX12_settled_5 ?_
  refine go_iconst (v := (0 : Int32)) K dX12_settled_8 (by decide) ?_
  refine go_mald K (Nat.le_of_ble_eq_true rfl) sh_447 (in_k (k := 0) (by decide) (by decide)) rfl dX12_settled_9 ?_
  refine go_istore_n K dX12_settled_10 rfl (by decide) (lv' := [(2, .int (O1.1 447 0)), (0, .ref (gB G + 446)), (1, .int v1)]) rfl ?_
  refine go_aload_n K dX12_settled_11 1 rfl rfl ?_
  refine gf_X12 K 45 (by decide) kf_X12_100 (v := .ref (gB G + 474)) rfl dX12_settled_12 ?_
  refine go_iconst (v := (0 : Int32)) K dX12_settled_15 (by decide) ?_
  refine go_iconst (v := (0 : Int32)) K dX12_settled_16 (by decide) ?_
  refine go_mast K (Nat.le_of_ble_eq_true rfl) sh_474 (in_k (k := 0) (by decide) (by decide)) rfl dX12_settled_17 ?_
  refine go_iconst (v := (1 : Int32)) K dX12_settled_18 (by decide) ?_
  refine go_istore_n K dX12_settled_19 rfl (by decide) (lv' := [(3, .int (1 : Int32)), (2, .int (O1.1 447 0)), (0, .ref (gB G + 446)), (1, .int v1)]) rfl ?_
  exact go_sub [2, 3, 1, 0] rfl (hl20 FU _ _ _ _ h)
noncomputable def X12_lane_j179 (v6 : Int32) (v7 : Int32) (v8 : Int32) (v9 : Int32) : Option Int32 := (if v6 = 0 then (some v7) else (if v6 = (1 : Int32) then (some v8) else (some v9)))
noncomputable def X12_lane_j173 (rc : Int32 → Int32 → Int32 → Int32 → Int32 → Int32 → Int32 → Int32 → Option Int32) (k179 : Int32 → Int32 → Int32 → Int32 → Option Int32) (v2 : Int32) (v3 : Int32) (v4 : Int32) (v6 : Int32) (v7 : Int32) (v8 : Int32) (v9 : Int32) (v10 : Int32) : Option Int32 := (rc v2 v3 v4 v6 v7 v8 v9 (v10 + (-1 : Int32)))
noncomputable def X12_lane_j171 (rc : Int32 → Int32 → Int32 → Int32 → Int32 → Int32 → Int32 → Int32 → Option Int32) (k179 : Int32 → Int32 → Int32 → Int32 → Option Int32) (v2 : Int32) (v3 : Int32) (v4 : Int32) (v6 : Int32) (v7 : Int32) (v8 : Int32) (v10 : Int32) (t0 : Int32) : Option Int32 := (X12_lane_j173 rc k179 v2 v3 v4 v6 v7 v8 t0 v10)
noncomputable def X12_lane_j155 (rc : Int32 → Int32 → Int32 → Int32 → Int32 → Int32 → Int32 → Int32 → Option Int32) (k179 : Int32 → Int32 → Int32 → Int32 → Option Int32) (v2 : Int32) (v3 : Int32) (v4 : Int32) (v6 : Int32) (v7 : Int32) (v10 : Int32) (v11 : Int32) (v12 : Int32) (t0 : Int32) : Option Int32 := (if (irm v10 (2 : Int32)) = 0 then (X12_lane_j171 rc k179 v2 v3 v4 v6 v7 t0 v10 v12) else (X12_lane_j171 rc k179 v2 v3 v4 v6 v7 t0 v10 v11))
noncomputable def X12_lane_j134 (rc : Int32 → Int32 → Int32 → Int32 → Int32 → Int32 → Int32 → Int32 → Option Int32) (k179 : Int32 → Int32 → Int32 → Int32 → Option Int32) (v2 : Int32) (v3 : Int32) (v4 : Int32) (v6 : Int32) (v7 : Int32) (v8 : Int32) (v9 : Int32) (v10 : Int32) (v11 : Int32) (v12 : Int32) (t0 : Int32) (t1 : Int32) : Option Int32 := (if t0 < t1 then (X12_lane_j173 rc k179 v2 v3 v4 v6 v7 v8 v9 v10) else (if (irm v10 (2 : Int32)) = 0 then (X12_lane_j155 rc k179 v2 v3 v4 v6 v10 v10 v11 v12 v11) else (X12_lane_j155 rc k179 v2 v3 v4 v6 v10 v10 v11 v12 v12)))
noncomputable def X12_lane_j116 (rc : Int32 → Int32 → Int32 → Int32 → Int32 → Int32 → Int32 → Int32 → Option Int32) (k179 : Int32 → Int32 → Int32 → Int32 → Option Int32) (v2 : Int32) (v3 : Int32) (v4 : Int32) (v6 : Int32) (v7 : Int32) (v8 : Int32) (v9 : Int32) (v10 : Int32) (v11 : Int32) (t0 : Int32) : Option Int32 := (if (irm v10 (2 : Int32)) = 0 then (X12_lane_j134 rc k179 v2 v3 v4 v6 v7 v8 v9 v10 v11 t0 v8 v11) else (X12_lane_j134 rc k179 v2 v3 v4 v6 v7 v8 v9 v10 v11 t0 v9 v11))
noncomputable def X12_lane_l82 (k179 : Int32 → Int32 → Int32 → Int32 → Option Int32) : Nat → Int32 → Int32 → Int32 → Int32 → Int32 → Int32 → Int32 → Int32 → Option Int32
  | 0, _, _, _, _, _, _, _, _ => none
  | n + 1, v2, v3, v4, v6, v7, v8, v9, v10 => (if v10 < 0 then (k179 v6 v7 v8 v9) else (if 0 ≤ (v4 - (v10 * v3)) then (X12_lane_j116 (fun v2 v3 v4 v6 v7 v8 v9 v10 => X12_lane_l82 k179 n v2 v3 v4 v6 v7 v8 v9 v10) k179 v2 v3 v4 v6 v7 v8 v9 v10 (v2 + (v10 * v3)) (v4 - (v10 * v3))) else (X12_lane_j116 (fun v2 v3 v4 v6 v7 v8 v9 v10 => X12_lane_l82 k179 n v2 v3 v4 v6 v7 v8 v9 v10) k179 v2 v3 v4 v6 v7 v8 v9 v10 (v2 + (v10 * v3)) (0 : Int32))))
noncomputable def f_X12_lane (v1 : Int32) (v2 : Int32) (v3 : Int32) (v4 : Int32) (v5 : Int32) (v6 : Int32) : Option Int32 := (if (f_X12_in v1 (1 : Int32) (20 : Int32)) = 0 then (some (-1 : Int32)) else (if (f_X12_in v2 (0 : Int32) (99 : Int32)) = 0 then (some (-1 : Int32)) else (if (f_X12_in v3 (0 : Int32) (99 : Int32)) = 0 then (some (-1 : Int32)) else (if (f_X12_in v4 (0 : Int32) (999 : Int32)) = 0 then (some (-1 : Int32)) else (if (f_X12_in v5 (0 : Int32) (9999 : Int32)) = 0 then (some (-1 : Int32)) else (if (f_X12_in v6 (0 : Int32) (2 : Int32)) = 0 then (some (-1 : Int32)) else (X12_lane_l82 (fun v6 v7 v8 v9 => (X12_lane_j179 v6 v7 v8 v9)) FU v2 v3 v4 v6 v1 v5 v5 (v1 - (1 : Int32)))))))))
theorem cf_X12_lane : CF yX12_lane cX12_lane 13 (Option.some Jvm.ClassFile.FieldType.int) 6 := ⟨kc_X12_lane, kj_X12, ⟨by decide +kernel, by decide +kernel, by decide +kernel⟩, by decide⟩
theorem cv_X12_lane : CFv yX12_lane := ⟨ki_X12_lane, ks_X12_lane⟩
set_option maxHeartbeats 4000000 in
set_option maxRecDepth 100000 in
theorem c_X12_lane (l : Launch) (G : GT) (v1 : Int32) (v2 : Int32) (v3 : Int32) (v4 : Int32) (v5 : Int32) (v6 : Int32) (C : CM) (O : OM) (res : Int32) (h : f_X12_lane v1 v2 v3 v4 v5 v6 = some res) : MI l G yX12_lane cX12_lane 13 (Option.some Jvm.ClassFile.FieldType.int) (2) [.ref (gB G + 446), .int v1, .int v2, .int v3, .int v4, .int v5, .int v6] (C, O) res (C, O) := by
  unfold MI
  refine met_in RX12 (by decide +kernel) rfl [(0, .ref (gB G + 446)), (1, .int v1), (2, .int v2), (3, .int v3), (4, .int v4), (5, .int v5), (6, .int v6)] rfl (Nat.le_of_ble_eq_true rfl) ?_
  intro pM eM sM mM aM bM meM cM K hr
  have hj179 : ∀ (v6 : Int32) (v7 : Int32) (v8 : Int32) (v9 : Int32), X12_lane_j179 v6 v7 v8 v9 = some res → GO pM l eM (2) sM mM aM bM meM cM (MQ bM (va_Qi (fun (r' : Int32) (u : CM × OM) => r' = res ∧ u = (C, O)) (wB G) (Fr G)) aM sM 0 0 (Fr G)) G 13 (C, O) 179 [(6, .int v6), (7, .int v7), (8, .int v8), (9, .int v9)] [] := by
    intro v6 v7 v8 v9 h
    rw [X12_lane_j179] at h
    refine go_iload K dX12_lane_179 0 rfl ?_
    refine go_if_ne (tgt := 189) K dX12_lane_181 (by decide) (fun c13 => ?_) (fun c13 => ?_)
    rotate_left
    · replace h := ite_t h c13
      refine go_iload K dX12_lane_184 1 rfl ?_
      refine go_goto (tgt := 202) K dX12_lane_186 (by decide) ?_
      exact go_iret K hr (Option.some.inj h) rfl dX12_lane_202
    replace h := ite_f h c13
    refine go_iload K dX12_lane_189 0 rfl ?_
    refine go_iconst (v := (1 : Int32)) K dX12_lane_191 (by decide) ?_
    refine go_icmp_ne (tgt := 200) K dX12_lane_192 (by decide) (fun c14 => ?_) (fun c14 => ?_)
    · replace h := ite_f h c14
      refine go_iload K dX12_lane_200 3 rfl ?_
      exact go_iret K hr (Option.some.inj h) rfl dX12_lane_202
    replace h := ite_t h c14
    refine go_iload K dX12_lane_195 2 rfl ?_
    refine go_goto (tgt := 202) K dX12_lane_197 (by decide) ?_
    exact go_iret K hr (Option.some.inj h) rfl dX12_lane_202
  have hl82 : ∀ (n82 : Nat) (v2 : Int32) (v3 : Int32) (v4 : Int32) (v6 : Int32) (v7 : Int32) (v8 : Int32) (v9 : Int32) (v10 : Int32), X12_lane_l82 (fun v6 v7 v8 v9 => (X12_lane_j179 v6 v7 v8 v9)) n82 v2 v3 v4 v6 v7 v8 v9 v10 = some res → GO pM l eM (2) sM mM aM bM meM cM (MQ bM (va_Qi (fun (r' : Int32) (u : CM × OM) => r' = res ∧ u = (C, O)) (wB G) (Fr G)) aM sM 0 0 (Fr G)) G 13 (C, O) 82 [(2, .int v2), (3, .int v3), (4, .int v4), (6, .int v6), (7, .int v7), (8, .int v8), (9, .int v9), (10, .int v10)] [] := by
    intro n82
    induction n82 with
    | zero =>
      intro v2 v3 v4 v6 v7 v8 v9 v10 h
      rw [X12_lane_l82] at h
      cases h
    | succ n82 ih82 =>
      have hj173 : ∀ (v2 : Int32) (v3 : Int32) (v4 : Int32) (v6 : Int32) (v7 : Int32) (v8 : Int32) (v9 : Int32) (v10 : Int32), X12_lane_j173 (fun v2 v3 v4 v6 v7 v8 v9 v10 => X12_lane_l82 (fun v6 v7 v8 v9 => (X12_lane_j179 v6 v7 v8 v9)) n82 v2 v3 v4 v6 v7 v8 v9 v10) (fun v6 v7 v8 v9 => (X12_lane_j179 v6 v7 v8 v9)) v2 v3 v4 v6 v7 v8 v9 v10 = some res → GO pM l eM (2) sM mM aM bM meM cM (MQ bM (va_Qi (fun (r' : Int32) (u : CM × OM) => r' = res ∧ u = (C, O)) (wB G) (Fr G)) aM sM 0 0 (Fr G)) G 13 (C, O) 173 [(2, .int v2), (3, .int v3), (4, .int v4), (6, .int v6), (7, .int v7), (8, .int v8), (9, .int v9), (10, .int v10)] [] := by
        intro v2 v3 v4 v6 v7 v8 v9 v10 h
        rw [X12_lane_j173] at h
        refine go_iinc K dX12_lane_173 7 rfl (v := (v10 + (-1 : Int32))) rfl (by decide) (lv' := [(10, .int (v10 + (-1 : Int32))), (2, .int v2), (3, .int v3), (4, .int v4), (6, .int v6), (7, .int v7), (8, .int v8), (9, .int v9)]) rfl ?_
        refine go_goto (tgt := 82) K dX12_lane_176 (by decide) ?_
        exact go_sub [1, 2, 3, 4, 5, 6, 7, 0] rfl (ih82 _ _ _ _ _ _ _ _ h)
      have hj171 : ∀ (v2 : Int32) (v3 : Int32) (v4 : Int32) (v6 : Int32) (v7 : Int32) (v8 : Int32) (v10 : Int32) (t0 : Int32), X12_lane_j171 (fun v2 v3 v4 v6 v7 v8 v9 v10 => X12_lane_l82 (fun v6 v7 v8 v9 => (X12_lane_j179 v6 v7 v8 v9)) n82 v2 v3 v4 v6 v7 v8 v9 v10) (fun v6 v7 v8 v9 => (X12_lane_j179 v6 v7 v8 v9)) v2 v3 v4 v6 v7 v8 v10 t0 = some res → GO pM l eM (2) sM mM aM bM meM cM (MQ bM (va_Qi (fun (r' : Int32) (u : CM × OM) => r' = res ∧ u = (C, O)) (wB G) (Fr G)) aM sM 0 0 (Fr G)) G 13 (C, O) 171 [(2, .int v2), (3, .int v3), (4, .int v4), (6, .int v6), (7, .int v7), (8, .int v8), (10, .int v10)] [.int t0] := by
        intro v2 v3 v4 v6 v7 v8 v10 t0 h
        rw [X12_lane_j171] at h
        refine go_istore K dX12_lane_171 (by decide) (lv' := [(9, .int t0), (2, .int v2), (3, .int v3), (4, .int v4), (6, .int v6), (7, .int v7), (8, .int v8), (10, .int v10)]) rfl ?_
        exact go_sub [1, 2, 3, 4, 5, 6, 0, 7] rfl (hj173 _ _ _ _ _ _ _ _ h)
      have hj155 : ∀ (v2 : Int32) (v3 : Int32) (v4 : Int32) (v6 : Int32) (v7 : Int32) (v10 : Int32) (v11 : Int32) (v12 : Int32) (t0 : Int32), X12_lane_j155 (fun v2 v3 v4 v6 v7 v8 v9 v10 => X12_lane_l82 (fun v6 v7 v8 v9 => (X12_lane_j179 v6 v7 v8 v9)) n82 v2 v3 v4 v6 v7 v8 v9 v10) (fun v6 v7 v8 v9 => (X12_lane_j179 v6 v7 v8 v9)) v2 v3 v4 v6 v7 v10 v11 v12 t0 = some res → GO pM l eM (2) sM mM aM bM meM cM (MQ bM (va_Qi (fun (r' : Int32) (u : CM × OM) => r' = res ∧ u = (C, O)) (wB G) (Fr G)) aM sM 0 0 (Fr G)) G 13 (C, O) 155 [(2, .int v2), (3, .int v3), (4, .int v4), (6, .int v6), (7, .int v7), (10, .int v10), (11, .int v11), (12, .int v12)] [.int t0] := by
        intro v2 v3 v4 v6 v7 v10 v11 v12 t0 h
        rw [X12_lane_j155] at h
        refine go_istore K dX12_lane_155 (by decide) (lv' := [(8, .int t0), (2, .int v2), (3, .int v3), (4, .int v4), (6, .int v6), (7, .int v7), (10, .int v10), (11, .int v11), (12, .int v12)]) rfl ?_
        refine go_iload K dX12_lane_157 6 rfl ?_
        refine go_iconst (v := (2 : Int32)) K dX12_lane_159 (by decide) ?_
        refine go_irem K dX12_lane_160 (by decide) ?_
        refine go_fold (y := (irm v10 (2 : Int32))) rfl ?_
        refine go_if_ne (tgt := 169) K dX12_lane_161 (by decide) (fun c12 => ?_) (fun c12 => ?_)
        · replace h := ite_f h c12
          refine go_iload K dX12_lane_169 7 rfl ?_
          exact go_sub [1, 2, 3, 4, 5, 0, 6] rfl (hj171 _ _ _ _ _ _ _ _ h)
        replace h := ite_t h c12
        refine go_iload K dX12_lane_164 8 rfl ?_
        refine go_goto (tgt := 171) K dX12_lane_166 (by decide) ?_
        exact go_sub [1, 2, 3, 4, 5, 0, 6] rfl (hj171 _ _ _ _ _ _ _ _ h)
      have hj134 : ∀ (v2 : Int32) (v3 : Int32) (v4 : Int32) (v6 : Int32) (v7 : Int32) (v8 : Int32) (v9 : Int32) (v10 : Int32) (v11 : Int32) (v12 : Int32) (t0 : Int32) (t1 : Int32), X12_lane_j134 (fun v2 v3 v4 v6 v7 v8 v9 v10 => X12_lane_l82 (fun v6 v7 v8 v9 => (X12_lane_j179 v6 v7 v8 v9)) n82 v2 v3 v4 v6 v7 v8 v9 v10) (fun v6 v7 v8 v9 => (X12_lane_j179 v6 v7 v8 v9)) v2 v3 v4 v6 v7 v8 v9 v10 v11 v12 t0 t1 = some res → GO pM l eM (2) sM mM aM bM meM cM (MQ bM (va_Qi (fun (r' : Int32) (u : CM × OM) => r' = res ∧ u = (C, O)) (wB G) (Fr G)) aM sM 0 0 (Fr G)) G 13 (C, O) 134 [(2, .int v2), (3, .int v3), (4, .int v4), (6, .int v6), (7, .int v7), (8, .int v8), (9, .int v9), (10, .int v10), (11, .int v11), (12, .int v12)] [.int t0, .int t1] := by
        intro v2 v3 v4 v6 v7 v8 v9 v10 v11 v12 t0 t1 h
        rw [X12_lane_j134] at h
        refine go_icmp_gt (tgt := 173) K dX12_lane_134 (by decide) (fun c10 => ?_) (fun c10 => ?_)
        · replace h := ite_t h c10
          exact go_sub [0, 1, 2, 3, 4, 5, 6, 7] rfl (hj173 _ _ _ _ _ _ _ _ h)
        replace h := ite_f h c10
        refine go_iload K dX12_lane_137 7 rfl ?_
        refine go_istore K dX12_lane_139 (by decide) (lv' := [(7, .int v10), (2, .int v2), (3, .int v3), (4, .int v4), (6, .int v6), (8, .int v8), (9, .int v9), (10, .int v10), (11, .int v11), (12, .int v12)]) rfl ?_
        refine go_iload K dX12_lane_141 7 rfl ?_
        refine go_iconst (v := (2 : Int32)) K dX12_lane_143 (by decide) ?_
        refine go_irem K dX12_lane_144 (by decide) ?_
        refine go_fold (y := (irm v10 (2 : Int32))) rfl ?_
        refine go_if_ne (tgt := 153) K dX12_lane_145 (by decide) (fun c11 => ?_) (fun c11 => ?_)
        · replace h := ite_f h c11
          refine go_iload K dX12_lane_153 9 rfl ?_
          exact go_sub [1, 2, 3, 4, 0, 7, 8, 9] rfl (hj155 _ _ _ _ _ _ _ _ _ h)
        replace h := ite_t h c11
        refine go_iload K dX12_lane_148 8 rfl ?_
        refine go_goto (tgt := 155) K dX12_lane_150 (by decide) ?_
        exact go_sub [1, 2, 3, 4, 0, 7, 8, 9] rfl (hj155 _ _ _ _ _ _ _ _ _ h)
      have hj116 : ∀ (v2 : Int32) (v3 : Int32) (v4 : Int32) (v6 : Int32) (v7 : Int32) (v8 : Int32) (v9 : Int32) (v10 : Int32) (v11 : Int32) (t0 : Int32), X12_lane_j116 (fun v2 v3 v4 v6 v7 v8 v9 v10 => X12_lane_l82 (fun v6 v7 v8 v9 => (X12_lane_j179 v6 v7 v8 v9)) n82 v2 v3 v4 v6 v7 v8 v9 v10) (fun v6 v7 v8 v9 => (X12_lane_j179 v6 v7 v8 v9)) v2 v3 v4 v6 v7 v8 v9 v10 v11 t0 = some res → GO pM l eM (2) sM mM aM bM meM cM (MQ bM (va_Qi (fun (r' : Int32) (u : CM × OM) => r' = res ∧ u = (C, O)) (wB G) (Fr G)) aM sM 0 0 (Fr G)) G 13 (C, O) 116 [(2, .int v2), (3, .int v3), (4, .int v4), (6, .int v6), (7, .int v7), (8, .int v8), (9, .int v9), (10, .int v10), (11, .int v11)] [.int t0] := by
        intro v2 v3 v4 v6 v7 v8 v9 v10 v11 t0 h
        rw [X12_lane_j116] at h
        refine go_istore K dX12_lane_116 (by decide) (lv' := [(12, .int t0), (2, .int v2), (3, .int v3), (4, .int v4), (6, .int v6), (7, .int v7), (8, .int v8), (9, .int v9), (10, .int v10), (11, .int v11)]) rfl ?_
        refine go_iload K dX12_lane_118 9 rfl ?_
        refine go_iload K dX12_lane_120 8 rfl ?_
        refine go_iconst (v := (2 : Int32)) K dX12_lane_122 (by decide) ?_
        refine go_irem K dX12_lane_123 (by decide) ?_
        refine go_fold (y := (irm v10 (2 : Int32))) rfl ?_
        refine go_if_ne (tgt := 132) K dX12_lane_124 (by decide) (fun c9 => ?_) (fun c9 => ?_)
        · replace h := ite_f h c9
          refine go_iload K dX12_lane_132 7 rfl ?_
          exact go_sub [1, 2, 3, 4, 5, 6, 7, 8, 9, 0] rfl (hj134 _ _ _ _ _ _ _ _ _ _ _ _ h)
        replace h := ite_t h c9
        refine go_iload K dX12_lane_127 6 rfl ?_
        refine go_goto (tgt := 134) K dX12_lane_129 (by decide) ?_
        exact go_sub [1, 2, 3, 4, 5, 6, 7, 8, 9, 0] rfl (hj134 _ _ _ _ _ _ _ _ _ _ _ _ h)
      intro v2 v3 v4 v6 v7 v8 v9 v10 h
      rw [X12_lane_l82] at h
      refine go_iload K dX12_lane_82 7 rfl ?_
      refine go_if_lt (tgt := 179) K dX12_lane_84 (by decide) (fun c7 => ?_) (fun c7 => ?_)
      · replace h := ite_t h c7
        exact go_sub [3, 4, 5, 6] rfl (hj179 _ _ _ _ h)
      replace h := ite_f h c7
      refine go_iload_n K dX12_lane_87 0 rfl rfl ?_
      refine go_iload K dX12_lane_88 7 rfl ?_
      refine go_iload_n K dX12_lane_90 1 rfl rfl ?_
      refine go_imul K dX12_lane_91 ?_
      refine go_iadd K dX12_lane_92 ?_
      refine go_istore K dX12_lane_93 (by decide) (lv' := [(11, .int (v2 + (v10 * v3))), (2, .int v2), (3, .int v3), (4, .int v4), (6, .int v6), (7, .int v7), (8, .int v8), (9, .int v9), (10, .int v10)]) rfl ?_
      refine go_iload K dX12_lane_95 3 rfl ?_
      refine go_iload K dX12_lane_97 8 rfl ?_
      refine go_iload_n K dX12_lane_99 2 rfl rfl ?_
      refine go_imul K dX12_lane_100 ?_
      refine go_isub K dX12_lane_101 ?_
      refine go_if_ge (tgt := 109) K dX12_lane_102 (by decide) (fun c8 => ?_) (fun c8 => ?_)
      rotate_left
      · replace h := ite_f h c8
        refine go_iconst (v := (0 : Int32)) K dX12_lane_105 (by decide) ?_
        refine go_goto (tgt := 116) K dX12_lane_106 (by decide) ?_
        exact go_sub [1, 2, 3, 4, 5, 6, 7, 8, 0] rfl (hj116 _ _ _ _ _ _ _ _ _ _ h)
      replace h := ite_t h c8
      refine go_iload K dX12_lane_109 3 rfl ?_
      refine go_iload K dX12_lane_111 8 rfl ?_
      refine go_iload_n K dX12_lane_113 2 rfl rfl ?_
      refine go_imul K dX12_lane_114 ?_
      refine go_isub K dX12_lane_115 ?_
      exact go_sub [1, 2, 3, 4, 5, 6, 7, 8, 0] rfl (hj116 _ _ _ _ _ _ _ _ _ _ h)
  rw [f_X12_lane] at h
  refine go_iload_n K dX12_lane_0 1 rfl rfl ?_
  refine go_iconst (v := (1 : Int32)) K dX12_lane_1 (by decide) ?_
  refine go_bipush (v := (20 : Int32)) K dX12_lane_2 (by decide) ?_
  refine go_cSI K (c_X12_in l G _ _ _ _ _ _ rfl) cf_X12_in kt_X12_in km_X12_107 (by decide) rfl rfl (Nat.le_of_ble_eq_true rfl) dX12_lane_4 ?_
  refine go_if_eq (tgt := 64) K dX12_lane_7 (by decide) (fun c1 => ?_) (fun c1 => ?_)
  · replace h := ite_t h c1
    refine go_iconst (v := (-1 : Int32)) K dX12_lane_64 (by decide) ?_
    exact go_iret K hr (Option.some.inj h) rfl dX12_lane_65
  replace h := ite_f h c1
  refine go_iload_n K dX12_lane_10 2 rfl rfl ?_
  refine go_iconst (v := (0 : Int32)) K dX12_lane_11 (by decide) ?_
  refine go_bipush (v := (99 : Int32)) K dX12_lane_12 (by decide) ?_
  refine go_cSI K (c_X12_in l G _ _ _ _ _ _ rfl) cf_X12_in kt_X12_in km_X12_107 (by decide) rfl rfl (Nat.le_of_ble_eq_true rfl) dX12_lane_14 ?_
  refine go_if_eq (tgt := 64) K dX12_lane_17 (by decide) (fun c2 => ?_) (fun c2 => ?_)
  · replace h := ite_t h c2
    refine go_iconst (v := (-1 : Int32)) K dX12_lane_64 (by decide) ?_
    exact go_iret K hr (Option.some.inj h) rfl dX12_lane_65
  replace h := ite_f h c2
  refine go_iload_n K dX12_lane_20 3 rfl rfl ?_
  refine go_iconst (v := (0 : Int32)) K dX12_lane_21 (by decide) ?_
  refine go_bipush (v := (99 : Int32)) K dX12_lane_22 (by decide) ?_
  refine go_cSI K (c_X12_in l G _ _ _ _ _ _ rfl) cf_X12_in kt_X12_in km_X12_107 (by decide) rfl rfl (Nat.le_of_ble_eq_true rfl) dX12_lane_24 ?_
  refine go_if_eq (tgt := 64) K dX12_lane_27 (by decide) (fun c3 => ?_) (fun c3 => ?_)
  · replace h := ite_t h c3
    refine go_iconst (v := (-1 : Int32)) K dX12_lane_64 (by decide) ?_
    exact go_iret K hr (Option.some.inj h) rfl dX12_lane_65
  replace h := ite_f h c3
  refine go_iload K dX12_lane_30 4 rfl ?_
  refine go_iconst (v := (0 : Int32)) K dX12_lane_32 (by decide) ?_
  refine go_sipush (v := (999 : Int32)) K dX12_lane_33 (by decide) ?_
  refine go_cSI K (c_X12_in l G _ _ _ _ _ _ rfl) cf_X12_in kt_X12_in km_X12_107 (by decide) rfl rfl (Nat.le_of_ble_eq_true rfl) dX12_lane_36 ?_
  refine go_if_eq (tgt := 64) K dX12_lane_39 (by decide) (fun c4 => ?_) (fun c4 => ?_)
  · replace h := ite_t h c4
    refine go_iconst (v := (-1 : Int32)) K dX12_lane_64 (by decide) ?_
    exact go_iret K hr (Option.some.inj h) rfl dX12_lane_65
  replace h := ite_f h c4
  refine go_iload K dX12_lane_42 5 rfl ?_
  refine go_iconst (v := (0 : Int32)) K dX12_lane_44 (by decide) ?_
  refine go_sipush (v := (9999 : Int32)) K dX12_lane_45 (by decide) ?_
  refine go_cSI K (c_X12_in l G _ _ _ _ _ _ rfl) cf_X12_in kt_X12_in km_X12_107 (by decide) rfl rfl (Nat.le_of_ble_eq_true rfl) dX12_lane_48 ?_
  refine go_if_eq (tgt := 64) K dX12_lane_51 (by decide) (fun c5 => ?_) (fun c5 => ?_)
  · replace h := ite_t h c5
    refine go_iconst (v := (-1 : Int32)) K dX12_lane_64 (by decide) ?_
    exact go_iret K hr (Option.some.inj h) rfl dX12_lane_65
  replace h := ite_f h c5
  refine go_iload K dX12_lane_54 6 rfl ?_
  refine go_iconst (v := (0 : Int32)) K dX12_lane_56 (by decide) ?_
  refine go_iconst (v := (2 : Int32)) K dX12_lane_57 (by decide) ?_
  refine go_cSI K (c_X12_in l G _ _ _ _ _ _ rfl) cf_X12_in kt_X12_in km_X12_107 (by decide) rfl rfl (Nat.le_of_ble_eq_true rfl) dX12_lane_58 ?_
  refine go_if_ne (tgt := 66) K dX12_lane_61 (by decide) (fun c6 => ?_) (fun c6 => ?_)
  rotate_left
  · replace h := ite_t h c6
    refine go_iconst (v := (-1 : Int32)) K dX12_lane_64 (by decide) ?_
    exact go_iret K hr (Option.some.inj h) rfl dX12_lane_65
  replace h := ite_f h c6
  refine go_iload_n K dX12_lane_66 1 rfl rfl ?_
  refine go_istore K dX12_lane_67 (by decide) (lv' := [(7, .int v1), (0, .ref (gB G + 446)), (1, .int v1), (2, .int v2), (3, .int v3), (4, .int v4), (5, .int v5), (6, .int v6)]) rfl ?_
  refine go_iload K dX12_lane_69 6 rfl ?_
  refine go_istore K dX12_lane_71 (by decide) (lv' := [(8, .int v5), (7, .int v1), (0, .ref (gB G + 446)), (1, .int v1), (2, .int v2), (3, .int v3), (4, .int v4), (5, .int v5), (6, .int v6)]) rfl ?_
  refine go_iload K dX12_lane_73 7 rfl ?_
  refine go_istore K dX12_lane_75 (by decide) (lv' := [(9, .int v5), (8, .int v5), (7, .int v1), (0, .ref (gB G + 446)), (1, .int v1), (2, .int v2), (3, .int v3), (4, .int v4), (5, .int v5), (6, .int v6)]) rfl ?_
  refine go_iload_n K dX12_lane_77 4 rfl rfl ?_
  refine go_iconst (v := (1 : Int32)) K dX12_lane_78 (by decide) ?_
  refine go_isub K dX12_lane_79 ?_
  refine go_istore K dX12_lane_80 (by decide) (lv' := [(10, .int (v1 - (1 : Int32))), (9, .int v5), (8, .int v5), (7, .int v1), (0, .ref (gB G + 446)), (1, .int v1), (2, .int v2), (3, .int v3), (4, .int v4), (5, .int v5), (6, .int v6)]) rfl ?_
  exact go_sub [6, 7, 8, 10, 3, 2, 1, 0] rfl (hl82 FU _ _ _ _ _ _ _ _ h)
noncomputable def X12_owedIn_j41 (rc : Int32 → Int32 → Int32 → Int32 → OM → Option Int32) (v1 : Int32) (v2 : Int32) (v4 : Int32) (t0 : Int32) (t1 : Int32) (O : OM) : Option Int32 := (rc v1 v2 (t1 + t0) (v4 + (1 : Int32)) O)
noncomputable def X12_owedIn_l5 : Nat → Int32 → Int32 → Int32 → Int32 → OM → Option Int32
  | 0, _, _, _, _, _ => none
  | n + 1, v1, v2, v3, v4, O => (if (O.1 447 0) ≤ v4 then (some v3) else (if (f_X12_has v2 v4) = 0 then (X12_owedIn_j41 (fun v1 v2 v3 v4 O => X12_owedIn_l5 n v1 v2 v3 v4 O) v1 v2 v4 (0 : Int32) v3 O) else (gd (inb (f_X12_debtAt v1 v4) 164) (X12_owedIn_j41 (fun v1 v2 v3 v4 O => X12_owedIn_l5 n v1 v2 v3 v4 O) v1 v2 v4 (O.1 470 (f_X12_debtAt v1 v4).toNatClampNeg) v3 O))))
noncomputable def f_X12_owedIn (v1 : Int32) (v2 : Int32) (O : OM) : Option Int32 := (X12_owedIn_l5 FU v1 v2 (0 : Int32) (0 : Int32) O)
theorem cf_X12_owedIn : CF yX12_owedIn cX12_owedIn 5 (Option.some Jvm.ClassFile.FieldType.int) 2 := ⟨kc_X12_owedIn, kj_X12, ⟨by decide +kernel, by decide +kernel, by decide +kernel⟩, by decide⟩
theorem cv_X12_owedIn : CFv yX12_owedIn := ⟨ki_X12_owedIn, ks_X12_owedIn⟩
set_option maxHeartbeats 4000000 in
set_option maxRecDepth 100000 in
theorem c_X12_owedIn (l : Launch) (G : GT) (v1 : Int32) (v2 : Int32) (C : CM) (O : OM) (res : Int32) (h : f_X12_owedIn v1 v2 O = some res) : MI l G yX12_owedIn cX12_owedIn 5 (Option.some Jvm.ClassFile.FieldType.int) (2) [.ref (gB G + 446), .int v1, .int v2] (C, O) res (C, O) := by
  unfold MI
  refine met_in RX12 (by decide +kernel) rfl [(0, .ref (gB G + 446)), (1, .int v1), (2, .int v2)] rfl (Nat.le_of_ble_eq_true rfl) ?_
  intro pM eM sM mM aM bM meM cM K hr
  have hl5 : ∀ (n5 : Nat) (v1 : Int32) (v2 : Int32) (v3 : Int32) (v4 : Int32), X12_owedIn_l5 n5 v1 v2 v3 v4 O = some res → GO pM l eM (2) sM mM aM bM meM cM (MQ bM (va_Qi (fun (r' : Int32) (u : CM × OM) => r' = res ∧ u = (C, O)) (wB G) (Fr G)) aM sM 0 0 (Fr G)) G 5 (C, O) 5 [(0, .ref (gB G + 446)), (1, .int v1), (2, .int v2), (3, .int v3), (4, .int v4)] [] := by
    intro n5
    induction n5 with
    | zero =>
      intro v1 v2 v3 v4 h
      rw [X12_owedIn_l5] at h
      cases h
    | succ n5 ih5 =>
      have hj41 : ∀ (v1 : Int32) (v2 : Int32) (v4 : Int32) (t0 : Int32) (t1 : Int32), X12_owedIn_j41 (fun v1 v2 v3 v4 O => X12_owedIn_l5 n5 v1 v2 v3 v4 O) v1 v2 v4 t0 t1 O = some res → GO pM l eM (2) sM mM aM bM meM cM (MQ bM (va_Qi (fun (r' : Int32) (u : CM × OM) => r' = res ∧ u = (C, O)) (wB G) (Fr G)) aM sM 0 0 (Fr G)) G 5 (C, O) 41 [(0, .ref (gB G + 446)), (1, .int v1), (2, .int v2), (4, .int v4)] [.int t0, .int t1] := by
        intro v1 v2 v4 t0 t1 h
        rw [X12_owedIn_j41] at h
        refine go_iadd K dX12_owedIn_41 ?_
        refine go_istore_n K dX12_owedIn_42 rfl (by decide) (lv' := [(3, .int (t1 + t0)), (0, .ref (gB G + 446)), (1, .int v1), (2, .int v2), (4, .int v4)]) rfl ?_
        refine go_iinc K dX12_owedIn_43 4 rfl (v := (v4 + (1 : Int32))) rfl (by decide) (lv' := [(4, .int (v4 + (1 : Int32))), (3, .int (t1 + t0)), (0, .ref (gB G + 446)), (1, .int v1), (2, .int v2)]) rfl ?_
        refine go_goto (tgt := 5) K dX12_owedIn_46 (by decide) ?_
        exact go_sub [2, 3, 4, 1, 0] rfl (ih5 _ _ _ _ h)
      intro v1 v2 v3 v4 h
      rw [X12_owedIn_l5] at h
      refine go_iload K dX12_owedIn_5 4 rfl ?_
      refine go_aload_n K dX12_owedIn_7 0 rfl rfl ?_
      refine gf_X12 K 0 (by decide) kf_X12_7 (v := .ref (gB G + 447)) rfl dX12_owedIn_8 ?_
      refine go_iconst (v := (0 : Int32)) K dX12_owedIn_11 (by decide) ?_
      refine go_mald K (Nat.le_of_ble_eq_true rfl) sh_447 (in_k (k := 0) (by decide) (by decide)) rfl dX12_owedIn_12 ?_
      refine go_icmp_ge (tgt := 49) K dX12_owedIn_13 (by decide) (fun c1 => ?_) (fun c1 => ?_)
      · replace h := ite_t h c1
        refine go_iload_n K dX12_owedIn_49 3 rfl rfl ?_
        exact go_iret K hr (Option.some.inj h) rfl dX12_owedIn_50
      replace h := ite_f h c1
      refine go_iload_n K dX12_owedIn_16 3 rfl rfl ?_
      refine go_iload_n K dX12_owedIn_17 2 rfl rfl ?_
      refine go_iload K dX12_owedIn_18 4 rfl ?_
      refine go_cSI K (c_X12_has l G _ _ _ _ _ rfl) cf_X12_has kt_X12_has km_X12_469 (by decide) rfl rfl (Nat.le_of_ble_eq_true rfl) dX12_owedIn_20 ?_
      refine go_if_eq (tgt := 40) K dX12_owedIn_23 (by decide) (fun c2 => ?_) (fun c2 => ?_)
      · replace h := ite_t h c2
        refine go_iconst (v := (0 : Int32)) K dX12_owedIn_40 (by decide) ?_
        exact go_sub [0, 1, 2, 4] rfl (hj41 _ _ _ _ _ h)
      replace h := ite_f h c2
      refine go_aload_n K dX12_owedIn_26 0 rfl rfl ?_
      refine gf_X12 K 40 (by decide) kf_X12_87 (v := .ref (gB G + 470)) rfl dX12_owedIn_27 ?_
      refine go_iload_n K dX12_owedIn_30 1 rfl rfl ?_
      refine go_iload K dX12_owedIn_31 4 rfl ?_
      refine go_cSI K (c_X12_debtAt l G _ _ _ _ _ rfl) cf_X12_debtAt kt_X12_debtAt km_X12_335 (by decide) rfl rfl (Nat.le_of_ble_eq_true rfl) dX12_owedIn_33 ?_
      obtain ⟨g3, h⟩ := gd_e h
      refine go_mald K (Nat.le_of_ble_eq_true rfl) sh_470 g3 rfl dX12_owedIn_36 ?_
      refine go_goto (tgt := 41) K dX12_owedIn_37 (by decide) ?_
      exact go_sub [0, 1, 2, 4] rfl (hj41 _ _ _ _ _ h)
  rw [f_X12_owedIn] at h
  refine go_iconst (v := (0 : Int32)) K dX12_owedIn_0 (by decide) ?_
  refine go_istore_n K dX12_owedIn_1 rfl (by decide) (lv' := [(3, .int (0 : Int32)), (0, .ref (gB G + 446)), (1, .int v1), (2, .int v2)]) rfl ?_
  refine go_iconst (v := (0 : Int32)) K dX12_owedIn_2 (by decide) ?_
  refine go_istore K dX12_owedIn_3 (by decide) (lv' := [(4, .int (0 : Int32)), (3, .int (0 : Int32)), (0, .ref (gB G + 446)), (1, .int v1), (2, .int v2)]) rfl ?_
  exact go_sub [2, 3, 4, 1, 0] rfl (hl5 FU _ _ _ _ h)
noncomputable def X12_doors_j210 (rc : Int32 → Int32 → Int32 → Int32 → OM → Option (Int32 × OM)) (v1 : Int32) (v3 : Int32) (v4 : Int32) (v5 : Int32) (O : OM) : Option (Int32 × OM) := (rc v1 (v3 - ((1 : Int32) <<< (v4 &&& 31))) v4 (v5 + (1 : Int32)) O)
noncomputable def X12_doors_j204 (rc : Int32 → Int32 → Int32 → Int32 → OM → Option (Int32 × OM)) (k210 : Int32 → Int32 → Int32 → Int32 → OM → Option (Int32 × OM)) (v1 : Int32) (v3 : Int32) (v4 : Int32) (v5 : Int32) (O : OM) : Option (Int32 × OM) := (rc v1 v3 (v4 + (1 : Int32)) v5 O)
noncomputable def X12_doors_l162 (k210 : Int32 → Int32 → Int32 → Int32 → OM → Option (Int32 × OM)) : Nat → Int32 → Int32 → Int32 → Int32 → OM → Option (Int32 × OM)
  | 0, _, _, _, _, _ => none
  | n + 1, v1, v3, v4, v5, O => (if (f_X12_has v3 v4) = 0 then (X12_doors_j204 (fun v1 v3 v4 v5 O => X12_doors_l162 k210 n v1 v3 v4 v5 O) k210 v1 v3 v4 v5 O) else (bnd (f_X12_owedIn v4 (v3 - ((1 : Int32) <<< (v4 &&& 31))) O) (fun r14 => (gd (inb (v3 - ((1 : Int32) <<< (v4 &&& 31))) 128) (gd (inb v3 128) (if (r14 + (O.1 474 (v3 - ((1 : Int32) <<< (v4 &&& 31))).toNatClampNeg)) = (O.1 474 v3.toNatClampNeg) then (k210 v1 v3 v4 v5 O) else (X12_doors_j204 (fun v1 v3 v4 v5 O => X12_doors_l162 k210 n v1 v3 v4 v5 O) k210 v1 v3 v4 v5 O)))))))
noncomputable def X12_doors_l153 : Nat → Int32 → Int32 → Int32 → Int32 → OM → Option (Int32 × OM)
  | 0, _, _, _, _, _ => none
  | n + 1, v1, v3, v4, v5, O => (if v1 < v5 then (some (v4, O)) else (X12_doors_l162 (fun v1 v3 v4 v5 O => (X12_doors_j210 (fun v1 v3 v4 v5 O => X12_doors_l153 n v1 v3 v4 v5 O) v1 v3 v4 v5 O)) FU v1 v3 (0 : Int32) v5 O))
noncomputable def X12_doors_j129 (v1 : Int32) (v2 : Int32) (O : OM) : Option (Int32 × OM) := (if v1 = (-1 : Int32) then (gd (inb (((1 : Int32) <<< (v2 &&& 31)) - (1 : Int32)) 128) (some ((O.1 474 (((1 : Int32) <<< (v2 &&& 31)) - (1 : Int32)).toNatClampNeg), O))) else (X12_doors_l153 FU v1 (((1 : Int32) <<< (v2 &&& 31)) - (1 : Int32)) (-1 : Int32) (0 : Int32) O))
noncomputable def X12_doors_j115 (rc : Int32 → Int32 → Int32 → OM → Option (Int32 × OM)) (k129 : Int32 → Int32 → OM → Option (Int32 × OM)) (v1 : Int32) (v2 : Int32) (v3 : Int32) (v4 : Int32) (O : OM) : Option (Int32 × OM) := (gd (inb v3 128) (rc v1 v2 (v3 + (1 : Int32)) (oup O 474 v3.toNatClampNeg v4)))
noncomputable def X12_doors_j109 (rc : Int32 → Int32 → Int32 → Int32 → Int32 → OM → Option (Int32 × OM)) (k115 : Int32 → Int32 → Int32 → Int32 → OM → Option (Int32 × OM)) (v1 : Int32) (v2 : Int32) (v3 : Int32) (v4 : Int32) (v5 : Int32) (O : OM) : Option (Int32 × OM) := (rc v1 v2 v3 v4 (v5 + (1 : Int32)) O)
noncomputable def X12_doors_j107 (rc : Int32 → Int32 → Int32 → Int32 → Int32 → OM → Option (Int32 × OM)) (k115 : Int32 → Int32 → Int32 → Int32 → OM → Option (Int32 × OM)) (v1 : Int32) (v2 : Int32) (v3 : Int32) (v5 : Int32) (t0 : Int32) (O : OM) : Option (Int32 × OM) := (X12_doors_j109 rc k115 v1 v2 v3 t0 v5 O)
noncomputable def X12_doors_j100 (rc : Int32 → Int32 → Int32 → Int32 → Int32 → OM → Option (Int32 × OM)) (k115 : Int32 → Int32 → Int32 → Int32 → OM → Option (Int32 × OM)) (v1 : Int32) (v2 : Int32) (v3 : Int32) (v5 : Int32) (v6 : Int32) (O : OM) : Option (Int32 × OM) := (X12_doors_j107 rc k115 v1 v2 v3 v5 v6 O)
noncomputable def X12_doors_l46 (k115 : Int32 → Int32 → Int32 → Int32 → OM → Option (Int32 × OM)) : Nat → Int32 → Int32 → Int32 → Int32 → Int32 → OM → Option (Int32 × OM)
  | 0, _, _, _, _, _, _ => none
  | n + 1, v1, v2, v3, v4, v5, O => (if v2 ≤ v5 then (k115 v1 v2 v3 v4 O) else (if (f_X12_has v3 v5) = 0 then (X12_doors_j109 (fun v1 v2 v3 v4 v5 O => X12_doors_l46 k115 n v1 v2 v3 v4 v5 O) k115 v1 v2 v3 v4 v5 O) else (bnd (f_X12_owedIn v5 (v3 - ((1 : Int32) <<< (v5 &&& 31))) O) (fun r6 => (gd (inb (v3 - ((1 : Int32) <<< (v5 &&& 31))) 128) (if v4 = (-1 : Int32) then (X12_doors_j100 (fun v1 v2 v3 v4 v5 O => X12_doors_l46 k115 n v1 v2 v3 v4 v5 O) k115 v1 v2 v3 v5 (r6 + (O.1 474 (v3 - ((1 : Int32) <<< (v5 &&& 31))).toNatClampNeg)) O) else (if v4 ≤ (r6 + (O.1 474 (v3 - ((1 : Int32) <<< (v5 &&& 31))).toNatClampNeg)) then (X12_doors_j107 (fun v1 v2 v3 v4 v5 O => X12_doors_l46 k115 n v1 v2 v3 v4 v5 O) k115 v1 v2 v3 v5 v4 O) else (X12_doors_j100 (fun v1 v2 v3 v4 v5 O => X12_doors_l46 k115 n v1 v2 v3 v4 v5 O) k115 v1 v2 v3 v5 (r6 + (O.1 474 (v3 - ((1 : Int32) <<< (v5 &&& 31))).toNatClampNeg)) O))))))))
noncomputable def X12_doors_l33 (k129 : Int32 → Int32 → OM → Option (Int32 × OM)) : Nat → Int32 → Int32 → Int32 → OM → Option (Int32 × OM)
  | 0, _, _, _, _ => none
  | n + 1, v1, v2, v3, O => (if ((1 : Int32) <<< (v2 &&& 31)) ≤ v3 then (k129 v1 v2 O) else (X12_doors_l46 (fun v1 v2 v3 v4 O => (X12_doors_j115 (fun v1 v2 v3 O => X12_doors_l33 k129 n v1 v2 v3 O) k129 v1 v2 v3 v4 O)) FU v1 v2 v3 (-1 : Int32) (0 : Int32) O))
noncomputable def f_X12_doors (v1 : Int32) (O : OM) : Option (Int32 × OM) := (bnd (f_X12_laysNow O) (fun O1 => (if (f_X12_in v1 (-1 : Int32) ((O1.1 447 0) - (1 : Int32))) = 0 then (some ((-1 : Int32), O1)) else (X12_doors_l33 (fun v1 v2 O => (X12_doors_j129 v1 v2 O)) FU v1 (O1.1 447 0) (1 : Int32) (oup O1 474 0 (0 : Int32))))))
theorem cf_X12_doors : CF yX12_doors cX12_doors 7 (Option.some Jvm.ClassFile.FieldType.int) 1 := ⟨kc_X12_doors, kj_X12, ⟨by decide +kernel, by decide +kernel, by decide +kernel⟩, by decide⟩
theorem cv_X12_doors : CFv yX12_doors := ⟨ki_X12_doors, ks_X12_doors⟩
set_option maxHeartbeats 4000000 in
set_option maxRecDepth 100000 in
theorem c_X12_doors (l : Launch) (G : GT) (v1 : Int32) (C : CM) (O : OM) (res : Int32) (O' : OM) (h : f_X12_doors v1 O = some (res, O')) : MI l G yX12_doors cX12_doors 7 (Option.some Jvm.ClassFile.FieldType.int) (3) [.ref (gB G + 446), .int v1] (C, O) res (C, O') := by
  unfold MI
  refine met_in RX12 (by decide +kernel) rfl [(0, .ref (gB G + 446)), (1, .int v1)] rfl (Nat.le_of_ble_eq_true rfl) ?_
  intro pM eM sM mM aM bM meM cM K hr
  have hl153 : ∀ (n153 : Nat) (v1 : Int32) (v3 : Int32) (v4 : Int32) (v5 : Int32) (O : OM), X12_doors_l153 n153 v1 v3 v4 v5 O = some (res, O') → GO pM l eM (3) sM mM aM bM meM cM (MQ bM (va_Qi (fun (r' : Int32) (u : CM × OM) => r' = res ∧ u = (C, O')) (wB G) (Fr G)) aM sM 0 0 (Fr G)) G 7 (C, O) 153 [(0, .ref (gB G + 446)), (1, .int v1), (3, .int v3), (4, .int v4), (5, .int v5)] [] := by
    intro n153
    induction n153 with
    | zero =>
      intro v1 v3 v4 v5 O h
      rw [X12_doors_l153] at h
      cases h
    | succ n153 ih153 =>
      have hj210 : ∀ (v1 : Int32) (v3 : Int32) (v4 : Int32) (v5 : Int32) (O : OM), X12_doors_j210 (fun v1 v3 v4 v5 O => X12_doors_l153 n153 v1 v3 v4 v5 O) v1 v3 v4 v5 O = some (res, O') → GO pM l eM (3) sM mM aM bM meM cM (MQ bM (va_Qi (fun (r' : Int32) (u : CM × OM) => r' = res ∧ u = (C, O')) (wB G) (Fr G)) aM sM 0 0 (Fr G)) G 7 (C, O) 210 [(0, .ref (gB G + 446)), (1, .int v1), (3, .int v3), (4, .int v4), (5, .int v5)] [] := by
        intro v1 v3 v4 v5 O h
        rw [X12_doors_j210] at h
        refine go_iload_n K dX12_doors_210 2 rfl rfl ?_
        refine go_iconst (v := (1 : Int32)) K dX12_doors_211 (by decide) ?_
        refine go_iload K dX12_doors_212 3 rfl ?_
        refine go_ishl K dX12_doors_214 ?_
        refine go_isub K dX12_doors_215 ?_
        refine go_istore_n K dX12_doors_216 rfl (by decide) (lv' := [(3, .int (v3 - ((1 : Int32) <<< (v4 &&& 31)))), (0, .ref (gB G + 446)), (1, .int v1), (4, .int v4), (5, .int v5)]) rfl ?_
        refine go_iinc K dX12_doors_217 4 rfl (v := (v5 + (1 : Int32))) rfl (by decide) (lv' := [(5, .int (v5 + (1 : Int32))), (3, .int (v3 - ((1 : Int32) <<< (v4 &&& 31)))), (0, .ref (gB G + 446)), (1, .int v1), (4, .int v4)]) rfl ?_
        refine go_goto (tgt := 153) K dX12_doors_220 (by decide) ?_
        exact go_sub [2, 3, 1, 4, 0] rfl (ih153 _ _ _ _ _ h)
      have hl162 : ∀ (n162 : Nat) (v1 : Int32) (v3 : Int32) (v4 : Int32) (v5 : Int32) (O : OM), X12_doors_l162 (fun v1 v3 v4 v5 O => (X12_doors_j210 (fun v1 v3 v4 v5 O => X12_doors_l153 n153 v1 v3 v4 v5 O) v1 v3 v4 v5 O)) n162 v1 v3 v4 v5 O = some (res, O') → GO pM l eM (3) sM mM aM bM meM cM (MQ bM (va_Qi (fun (r' : Int32) (u : CM × OM) => r' = res ∧ u = (C, O')) (wB G) (Fr G)) aM sM 0 0 (Fr G)) G 7 (C, O) 162 [(0, .ref (gB G + 446)), (1, .int v1), (3, .int v3), (4, .int v4), (5, .int v5)] [] := by
        intro n162
        induction n162 with
        | zero =>
          intro v1 v3 v4 v5 O h
          rw [X12_doors_l162] at h
          cases h
        | succ n162 ih162 =>
          have hj204 : ∀ (v1 : Int32) (v3 : Int32) (v4 : Int32) (v5 : Int32) (O : OM), X12_doors_j204 (fun v1 v3 v4 v5 O => X12_doors_l162 (fun v1 v3 v4 v5 O => (X12_doors_j210 (fun v1 v3 v4 v5 O => X12_doors_l153 n153 v1 v3 v4 v5 O) v1 v3 v4 v5 O)) n162 v1 v3 v4 v5 O) (fun v1 v3 v4 v5 O => (X12_doors_j210 (fun v1 v3 v4 v5 O => X12_doors_l153 n153 v1 v3 v4 v5 O) v1 v3 v4 v5 O)) v1 v3 v4 v5 O = some (res, O') → GO pM l eM (3) sM mM aM bM meM cM (MQ bM (va_Qi (fun (r' : Int32) (u : CM × OM) => r' = res ∧ u = (C, O')) (wB G) (Fr G)) aM sM 0 0 (Fr G)) G 7 (C, O) 204 [(0, .ref (gB G + 446)), (1, .int v1), (3, .int v3), (4, .int v4), (5, .int v5)] [] := by
            intro v1 v3 v4 v5 O h
            rw [X12_doors_j204] at h
            refine go_iinc K dX12_doors_204 3 rfl (v := (v4 + (1 : Int32))) rfl (by decide) (lv' := [(4, .int (v4 + (1 : Int32))), (0, .ref (gB G + 446)), (1, .int v1), (3, .int v3), (5, .int v5)]) rfl ?_
            refine go_goto (tgt := 162) K dX12_doors_207 (by decide) ?_
            exact go_sub [1, 2, 3, 0, 4] rfl (ih162 _ _ _ _ _ h)
          intro v1 v3 v4 v5 O h
          rw [X12_doors_l162] at h
          refine go_iload_n K dX12_doors_162 2 rfl rfl ?_
          refine go_iload K dX12_doors_163 3 rfl ?_
          refine go_cSI K (c_X12_has l G _ _ _ _ _ rfl) cf_X12_has kt_X12_has km_X12_469 (by decide) rfl rfl (Nat.le_of_ble_eq_true rfl) dX12_doors_165 ?_
          refine go_if_eq (tgt := 204) K dX12_doors_168 (by decide) (fun c13 => ?_) (fun c13 => ?_)
          · replace h := ite_t h c13
            exact hj204 _ _ _ _ _ h
          replace h := ite_f h c13
          refine go_aload_n K dX12_doors_171 0 rfl rfl ?_
          refine go_iload K dX12_doors_172 3 rfl ?_
          refine go_iload_n K dX12_doors_174 2 rfl rfl ?_
          refine go_iconst (v := (1 : Int32)) K dX12_doors_175 (by decide) ?_
          refine go_iload K dX12_doors_176 3 rfl ?_
          refine go_ishl K dX12_doors_178 ?_
          refine go_isub K dX12_doors_179 ?_
          obtain ⟨r14, e14, h⟩ := bnd_e h
          refine go_cVI K (c_X12_owedIn l G _ _ _ _ _ e14) cf_X12_owedIn cv_X12_owedIn km_X12_479 rv_X12 (by decide) rfl rfl (Nat.le_of_ble_eq_true rfl) dX12_doors_180 ?_
          refine go_aload_n K dX12_doors_183 0 rfl rfl ?_
          refine gf_X12 K 45 (by decide) kf_X12_100 (v := .ref (gB G + 474)) rfl dX12_doors_184 ?_
          refine go_iload_n K dX12_doors_187 2 rfl rfl ?_
          refine go_iconst (v := (1 : Int32)) K dX12_doors_188 (by decide) ?_
          refine go_iload K dX12_doors_189 3 rfl ?_
          refine go_ishl K dX12_doors_191 ?_
          refine go_isub K dX12_doors_192 ?_
          obtain ⟨g15, h⟩ := gd_e h
          refine go_mald K (Nat.le_of_ble_eq_true rfl) sh_474 g15 rfl dX12_doors_193 ?_
          refine go_iadd K dX12_doors_194 ?_
          refine go_aload_n K dX12_doors_195 0 rfl rfl ?_
          refine gf_X12 K 45 (by decide) kf_X12_100 (v := .ref (gB G + 474)) rfl dX12_doors_196 ?_
          refine go_iload_n K dX12_doors_199 2 rfl rfl ?_
          obtain ⟨g16, h⟩ := gd_e h
          refine go_mald K (Nat.le_of_ble_eq_true rfl) sh_474 g16 rfl dX12_doors_200 ?_
          refine go_icmp_eq (tgt := 210) K dX12_doors_201 (by decide) (fun c17 => ?_) (fun c17 => ?_)
          · replace h := ite_t h c17
            exact hj210 _ _ _ _ _ h
          replace h := ite_f h c17
          exact hj204 _ _ _ _ _ h
      intro v1 v3 v4 v5 O h
      rw [X12_doors_l153] at h
      refine go_iload K dX12_doors_153 4 rfl ?_
      refine go_iload_n K dX12_doors_155 1 rfl rfl ?_
      refine go_icmp_gt (tgt := 223) K dX12_doors_156 (by decide) (fun c12 => ?_) (fun c12 => ?_)
      · replace h := ite_t h c12
        refine go_iload K dX12_doors_223 3 rfl ?_
        exact go_iret K hr (Prod.mk.inj (Option.some.inj h)).1 (congrArg (fun z => (C, z)) (Prod.mk.inj (Option.some.inj h)).2) dX12_doors_225
      replace h := ite_f h c12
      refine go_iconst (v := (0 : Int32)) K dX12_doors_159 (by decide) ?_
      refine go_istore K dX12_doors_160 (by decide) (lv' := [(4, .int (0 : Int32)), (0, .ref (gB G + 446)), (1, .int v1), (3, .int v3), (5, .int v5)]) rfl ?_
      exact go_sub [1, 2, 3, 0, 4] rfl (hl162 FU _ _ _ _ _ h)
  have hj129 : ∀ (v1 : Int32) (v2 : Int32) (O : OM), X12_doors_j129 v1 v2 O = some (res, O') → GO pM l eM (3) sM mM aM bM meM cM (MQ bM (va_Qi (fun (r' : Int32) (u : CM × OM) => r' = res ∧ u = (C, O')) (wB G) (Fr G)) aM sM 0 0 (Fr G)) G 7 (C, O) 129 [(0, .ref (gB G + 446)), (1, .int v1), (2, .int v2)] [] := by
    intro v1 v2 O h
    rw [X12_doors_j129] at h
    refine go_iconst (v := (1 : Int32)) K dX12_doors_129 (by decide) ?_
    refine go_iload_n K dX12_doors_130 2 rfl rfl ?_
    refine go_ishl K dX12_doors_131 ?_
    refine go_iconst (v := (1 : Int32)) K dX12_doors_132 (by decide) ?_
    refine go_isub K dX12_doors_133 ?_
    refine go_istore_n K dX12_doors_134 rfl (by decide) (lv' := [(3, .int (((1 : Int32) <<< (v2 &&& 31)) - (1 : Int32))), (0, .ref (gB G + 446)), (1, .int v1), (2, .int v2)]) rfl ?_
    refine go_iload_n K dX12_doors_135 2 rfl rfl ?_
    refine go_iconst (v := (-1 : Int32)) K dX12_doors_136 (by decide) ?_
    refine go_icmp_ne (tgt := 147) K dX12_doors_137 (by decide) (fun c11 => ?_) (fun c11 => ?_)
    · replace h := ite_f h c11
      refine go_iconst (v := (-1 : Int32)) K dX12_doors_147 (by decide) ?_
      refine go_istore K dX12_doors_148 (by decide) (lv' := [(4, .int (-1 : Int32)), (3, .int (((1 : Int32) <<< (v2 &&& 31)) - (1 : Int32))), (0, .ref (gB G + 446)), (1, .int v1), (2, .int v2)]) rfl ?_
      refine go_iconst (v := (0 : Int32)) K dX12_doors_150 (by decide) ?_
      refine go_istore K dX12_doors_151 (by decide) (lv' := [(5, .int (0 : Int32)), (4, .int (-1 : Int32)), (3, .int (((1 : Int32) <<< (v2 &&& 31)) - (1 : Int32))), (0, .ref (gB G + 446)), (1, .int v1), (2, .int v2)]) rfl ?_
      exact go_sub [3, 4, 2, 1, 0] rfl (hl153 FU _ _ _ _ _ h)
    replace h := ite_t h c11
    refine go_aload_n K dX12_doors_140 1 rfl rfl ?_
    refine gf_X12 K 45 (by decide) kf_X12_100 (v := .ref (gB G + 474)) rfl dX12_doors_141 ?_
    refine go_iload_n K dX12_doors_144 0 rfl rfl ?_
    obtain ⟨g18, h⟩ := gd_e h
    refine go_mald K (Nat.le_of_ble_eq_true rfl) sh_474 g18 rfl dX12_doors_145 ?_
    exact go_iret K hr (Prod.mk.inj (Option.some.inj h)).1 (congrArg (fun z => (C, z)) (Prod.mk.inj (Option.some.inj h)).2) dX12_doors_146
  have hl33 : ∀ (n33 : Nat) (v1 : Int32) (v2 : Int32) (v3 : Int32) (O : OM), X12_doors_l33 (fun v1 v2 O => (X12_doors_j129 v1 v2 O)) n33 v1 v2 v3 O = some (res, O') → GO pM l eM (3) sM mM aM bM meM cM (MQ bM (va_Qi (fun (r' : Int32) (u : CM × OM) => r' = res ∧ u = (C, O')) (wB G) (Fr G)) aM sM 0 0 (Fr G)) G 7 (C, O) 33 [(0, .ref (gB G + 446)), (1, .int v1), (2, .int v2), (3, .int v3)] [] := by
    intro n33
    induction n33 with
    | zero =>
      intro v1 v2 v3 O h
      rw [X12_doors_l33] at h
      cases h
    | succ n33 ih33 =>
      have hj115 : ∀ (v1 : Int32) (v2 : Int32) (v3 : Int32) (v4 : Int32) (O : OM), X12_doors_j115 (fun v1 v2 v3 O => X12_doors_l33 (fun v1 v2 O => (X12_doors_j129 v1 v2 O)) n33 v1 v2 v3 O) (fun v1 v2 O => (X12_doors_j129 v1 v2 O)) v1 v2 v3 v4 O = some (res, O') → GO pM l eM (3) sM mM aM bM meM cM (MQ bM (va_Qi (fun (r' : Int32) (u : CM × OM) => r' = res ∧ u = (C, O')) (wB G) (Fr G)) aM sM 0 0 (Fr G)) G 7 (C, O) 115 [(0, .ref (gB G + 446)), (1, .int v1), (2, .int v2), (3, .int v3), (4, .int v4)] [] := by
        intro v1 v2 v3 v4 O h
        rw [X12_doors_j115] at h
        refine go_aload_n K dX12_doors_115 0 rfl rfl ?_
        refine gf_X12 K 45 (by decide) kf_X12_100 (v := .ref (gB G + 474)) rfl dX12_doors_116 ?_
        refine go_iload_n K dX12_doors_119 3 rfl rfl ?_
        refine go_iload K dX12_doors_120 4 rfl ?_
        obtain ⟨g10, h⟩ := gd_e h
        refine go_mast K (Nat.le_of_ble_eq_true rfl) sh_474 g10 rfl dX12_doors_122 ?_
        refine go_iinc K dX12_doors_123 3 rfl (v := (v3 + (1 : Int32))) rfl (by decide) (lv' := [(3, .int (v3 + (1 : Int32))), (0, .ref (gB G + 446)), (1, .int v1), (2, .int v2), (4, .int v4)]) rfl ?_
        refine go_goto (tgt := 33) K dX12_doors_126 (by decide) ?_
        exact go_sub [1, 2, 3, 0] rfl (ih33 _ _ _ _ h)
      have hl46 : ∀ (n46 : Nat) (v1 : Int32) (v2 : Int32) (v3 : Int32) (v4 : Int32) (v5 : Int32) (O : OM), X12_doors_l46 (fun v1 v2 v3 v4 O => (X12_doors_j115 (fun v1 v2 v3 O => X12_doors_l33 (fun v1 v2 O => (X12_doors_j129 v1 v2 O)) n33 v1 v2 v3 O) (fun v1 v2 O => (X12_doors_j129 v1 v2 O)) v1 v2 v3 v4 O)) n46 v1 v2 v3 v4 v5 O = some (res, O') → GO pM l eM (3) sM mM aM bM meM cM (MQ bM (va_Qi (fun (r' : Int32) (u : CM × OM) => r' = res ∧ u = (C, O')) (wB G) (Fr G)) aM sM 0 0 (Fr G)) G 7 (C, O) 46 [(0, .ref (gB G + 446)), (1, .int v1), (2, .int v2), (3, .int v3), (4, .int v4), (5, .int v5)] [] := by
        intro n46
        induction n46 with
        | zero =>
          intro v1 v2 v3 v4 v5 O h
          rw [X12_doors_l46] at h
          cases h
        | succ n46 ih46 =>
          have hj109 : ∀ (v1 : Int32) (v2 : Int32) (v3 : Int32) (v4 : Int32) (v5 : Int32) (O : OM), X12_doors_j109 (fun v1 v2 v3 v4 v5 O => X12_doors_l46 (fun v1 v2 v3 v4 O => (X12_doors_j115 (fun v1 v2 v3 O => X12_doors_l33 (fun v1 v2 O => (X12_doors_j129 v1 v2 O)) n33 v1 v2 v3 O) (fun v1 v2 O => (X12_doors_j129 v1 v2 O)) v1 v2 v3 v4 O)) n46 v1 v2 v3 v4 v5 O) (fun v1 v2 v3 v4 O => (X12_doors_j115 (fun v1 v2 v3 O => X12_doors_l33 (fun v1 v2 O => (X12_doors_j129 v1 v2 O)) n33 v1 v2 v3 O) (fun v1 v2 O => (X12_doors_j129 v1 v2 O)) v1 v2 v3 v4 O)) v1 v2 v3 v4 v5 O = some (res, O') → GO pM l eM (3) sM mM aM bM meM cM (MQ bM (va_Qi (fun (r' : Int32) (u : CM × OM) => r' = res ∧ u = (C, O')) (wB G) (Fr G)) aM sM 0 0 (Fr G)) G 7 (C, O) 109 [(0, .ref (gB G + 446)), (1, .int v1), (2, .int v2), (3, .int v3), (4, .int v4), (5, .int v5)] [] := by
            intro v1 v2 v3 v4 v5 O h
            rw [X12_doors_j109] at h
            refine go_iinc K dX12_doors_109 5 rfl (v := (v5 + (1 : Int32))) rfl (by decide) (lv' := [(5, .int (v5 + (1 : Int32))), (0, .ref (gB G + 446)), (1, .int v1), (2, .int v2), (3, .int v3), (4, .int v4)]) rfl ?_
            refine go_goto (tgt := 46) K dX12_doors_112 (by decide) ?_
            exact go_sub [1, 2, 3, 4, 5, 0] rfl (ih46 _ _ _ _ _ _ h)
          have hj107 : ∀ (v1 : Int32) (v2 : Int32) (v3 : Int32) (v5 : Int32) (t0 : Int32) (O : OM), X12_doors_j107 (fun v1 v2 v3 v4 v5 O => X12_doors_l46 (fun v1 v2 v3 v4 O => (X12_doors_j115 (fun v1 v2 v3 O => X12_doors_l33 (fun v1 v2 O => (X12_doors_j129 v1 v2 O)) n33 v1 v2 v3 O) (fun v1 v2 O => (X12_doors_j129 v1 v2 O)) v1 v2 v3 v4 O)) n46 v1 v2 v3 v4 v5 O) (fun v1 v2 v3 v4 O => (X12_doors_j115 (fun v1 v2 v3 O => X12_doors_l33 (fun v1 v2 O => (X12_doors_j129 v1 v2 O)) n33 v1 v2 v3 O) (fun v1 v2 O => (X12_doors_j129 v1 v2 O)) v1 v2 v3 v4 O)) v1 v2 v3 v5 t0 O = some (res, O') → GO pM l eM (3) sM mM aM bM meM cM (MQ bM (va_Qi (fun (r' : Int32) (u : CM × OM) => r' = res ∧ u = (C, O')) (wB G) (Fr G)) aM sM 0 0 (Fr G)) G 7 (C, O) 107 [(0, .ref (gB G + 446)), (1, .int v1), (2, .int v2), (3, .int v3), (5, .int v5)] [.int t0] := by
            intro v1 v2 v3 v5 t0 O h
            rw [X12_doors_j107] at h
            refine go_istore K dX12_doors_107 (by decide) (lv' := [(4, .int t0), (0, .ref (gB G + 446)), (1, .int v1), (2, .int v2), (3, .int v3), (5, .int v5)]) rfl ?_
            exact go_sub [1, 2, 3, 4, 0, 5] rfl (hj109 _ _ _ _ _ _ h)
          have hj100 : ∀ (v1 : Int32) (v2 : Int32) (v3 : Int32) (v5 : Int32) (v6 : Int32) (O : OM), X12_doors_j100 (fun v1 v2 v3 v4 v5 O => X12_doors_l46 (fun v1 v2 v3 v4 O => (X12_doors_j115 (fun v1 v2 v3 O => X12_doors_l33 (fun v1 v2 O => (X12_doors_j129 v1 v2 O)) n33 v1 v2 v3 O) (fun v1 v2 O => (X12_doors_j129 v1 v2 O)) v1 v2 v3 v4 O)) n46 v1 v2 v3 v4 v5 O) (fun v1 v2 v3 v4 O => (X12_doors_j115 (fun v1 v2 v3 O => X12_doors_l33 (fun v1 v2 O => (X12_doors_j129 v1 v2 O)) n33 v1 v2 v3 O) (fun v1 v2 O => (X12_doors_j129 v1 v2 O)) v1 v2 v3 v4 O)) v1 v2 v3 v5 v6 O = some (res, O') → GO pM l eM (3) sM mM aM bM meM cM (MQ bM (va_Qi (fun (r' : Int32) (u : CM × OM) => r' = res ∧ u = (C, O')) (wB G) (Fr G)) aM sM 0 0 (Fr G)) G 7 (C, O) 100 [(0, .ref (gB G + 446)), (1, .int v1), (2, .int v2), (3, .int v3), (5, .int v5), (6, .int v6)] [] := by
            intro v1 v2 v3 v5 v6 O h
            rw [X12_doors_j100] at h
            refine go_iload K dX12_doors_100 5 rfl ?_
            refine go_goto (tgt := 107) K dX12_doors_102 (by decide) ?_
            exact go_sub [0, 1, 2, 3, 4] rfl (hj107 _ _ _ _ _ _ h)
          intro v1 v2 v3 v4 v5 O h
          rw [X12_doors_l46] at h
          refine go_iload K dX12_doors_46 5 rfl ?_
          refine go_iload_n K dX12_doors_48 2 rfl rfl ?_
          refine go_icmp_ge (tgt := 115) K dX12_doors_49 (by decide) (fun c4 => ?_) (fun c4 => ?_)
          · replace h := ite_t h c4
            exact go_sub [0, 1, 2, 3, 4] rfl (hj115 _ _ _ _ _ h)
          replace h := ite_f h c4
          refine go_iload_n K dX12_doors_52 3 rfl rfl ?_
          refine go_iload K dX12_doors_53 5 rfl ?_
          refine go_cSI K (c_X12_has l G _ _ _ _ _ rfl) cf_X12_has kt_X12_has km_X12_469 (by decide) rfl rfl (Nat.le_of_ble_eq_true rfl) dX12_doors_55 ?_
          refine go_if_eq (tgt := 109) K dX12_doors_58 (by decide) (fun c5 => ?_) (fun c5 => ?_)
          · replace h := ite_t h c5
            exact hj109 _ _ _ _ _ _ h
          replace h := ite_f h c5
          refine go_aload_n K dX12_doors_61 0 rfl rfl ?_
          refine go_iload K dX12_doors_62 5 rfl ?_
          refine go_iload_n K dX12_doors_64 3 rfl rfl ?_
          refine go_iconst (v := (1 : Int32)) K dX12_doors_65 (by decide) ?_
          refine go_iload K dX12_doors_66 5 rfl ?_
          refine go_ishl K dX12_doors_68 ?_
          refine go_isub K dX12_doors_69 ?_
          obtain ⟨r6, e6, h⟩ := bnd_e h
          refine go_cVI K (c_X12_owedIn l G _ _ _ _ _ e6) cf_X12_owedIn cv_X12_owedIn km_X12_479 rv_X12 (by decide) rfl rfl (Nat.le_of_ble_eq_true rfl) dX12_doors_70 ?_
          refine go_aload_n K dX12_doors_73 0 rfl rfl ?_
          refine gf_X12 K 45 (by decide) kf_X12_100 (v := .ref (gB G + 474)) rfl dX12_doors_74 ?_
          refine go_iload_n K dX12_doors_77 3 rfl rfl ?_
          refine go_iconst (v := (1 : Int32)) K dX12_doors_78 (by decide) ?_
          refine go_iload K dX12_doors_79 5 rfl ?_
          refine go_ishl K dX12_doors_81 ?_
          refine go_isub K dX12_doors_82 ?_
          obtain ⟨g7, h⟩ := gd_e h
          refine go_mald K (Nat.le_of_ble_eq_true rfl) sh_474 g7 rfl dX12_doors_83 ?_
          refine go_iadd K dX12_doors_84 ?_
          refine go_istore K dX12_doors_85 (by decide) (lv' := [(6, .int (r6 + (O.1 474 (v3 - ((1 : Int32) <<< (v5 &&& 31))).toNatClampNeg))), (0, .ref (gB G + 446)), (1, .int v1), (2, .int v2), (3, .int v3), (4, .int v4), (5, .int v5)]) rfl ?_
          refine go_iload K dX12_doors_87 5 rfl ?_
          refine go_iconst (v := (-1 : Int32)) K dX12_doors_89 (by decide) ?_
          refine go_icmp_eq (tgt := 100) K dX12_doors_90 (by decide) (fun c8 => ?_) (fun c8 => ?_)
          · replace h := ite_t h c8
            exact go_sub [1, 2, 3, 4, 6, 0] rfl (hj100 _ _ _ _ _ _ h)
          replace h := ite_f h c8
          refine go_iload K dX12_doors_93 0 rfl ?_
          refine go_iload K dX12_doors_95 5 rfl ?_
          refine go_icmp_ge (tgt := 105) K dX12_doors_97 (by decide) (fun c9 => ?_) (fun c9 => ?_)
          rotate_left
          · replace h := ite_f h c9
            exact go_sub [1, 2, 3, 4, 6, 0] rfl (hj100 _ _ _ _ _ _ h)
          replace h := ite_t h c9
          refine go_iload K dX12_doors_105 5 rfl ?_
          exact go_sub [1, 2, 3, 4, 6] rfl (hj107 _ _ _ _ _ _ h)
      intro v1 v2 v3 O h
      rw [X12_doors_l33] at h
      refine go_iload_n K dX12_doors_33 3 rfl rfl ?_
      refine go_iconst (v := (1 : Int32)) K dX12_doors_34 (by decide) ?_
      refine go_iload_n K dX12_doors_35 2 rfl rfl ?_
      refine go_ishl K dX12_doors_36 ?_
      refine go_icmp_ge (tgt := 129) K dX12_doors_37 (by decide) (fun c3 => ?_) (fun c3 => ?_)
      · replace h := ite_t h c3
        exact go_sub [0, 1, 2] rfl (hj129 _ _ _ h)
      replace h := ite_f h c3
      refine go_iconst (v := (-1 : Int32)) K dX12_doors_40 (by decide) ?_
      refine go_istore K dX12_doors_41 (by decide) (lv' := [(4, .int (-1 : Int32)), (0, .ref (gB G + 446)), (1, .int v1), (2, .int v2), (3, .int v3)]) rfl ?_
      refine go_iconst (v := (0 : Int32)) K dX12_doors_43 (by decide) ?_
      refine go_istore K dX12_doors_44 (by decide) (lv' := [(5, .int (0 : Int32)), (4, .int (-1 : Int32)), (0, .ref (gB G + 446)), (1, .int v1), (2, .int v2), (3, .int v3)]) rfl ?_
      exact go_sub [2, 3, 4, 5, 1, 0] rfl (hl46 FU _ _ _ _ _ _ h)
  rw [f_X12_doors] at h
  refine go_aload_n K dX12_doors_0 0 rfl rfl ?_
  obtain ⟨O1, e1, h⟩ := bnd_e h
  refine go_cVV K (c_X12_laysNow l G _ _ _ e1) cf_X12_laysNow cv_X12_laysNow km_X12_399 rv_X12 (by decide) rfl rfl (Nat.le_of_ble_eq_true rfl) dX12_doors_1 ?_
  refine go_aload_n K dX12_doors_4 0 rfl rfl ?_
  refine gf_X12 K 0 (by decide) kf_X12_7 (v := .ref (gB G + 447)) rfl dX12_doors_5 ?_
  refine go_iconst (v := (0 : Int32)) K dX12_doors_8 (by decide) ?_
  refine go_mald K (Nat.le_of_ble_eq_true rfl) sh_447 (in_k (k := 0) (by decide) (by decide)) rfl dX12_doors_9 ?_
  refine go_istore_n K dX12_doors_10 rfl (by decide) (lv' := [(2, .int (O1.1 447 0)), (0, .ref (gB G + 446)), (1, .int v1)]) rfl ?_
  refine go_iload_n K dX12_doors_11 2 rfl rfl ?_
  refine go_iconst (v := (-1 : Int32)) K dX12_doors_12 (by decide) ?_
  refine go_iload_n K dX12_doors_13 0 rfl rfl ?_
  refine go_iconst (v := (1 : Int32)) K dX12_doors_14 (by decide) ?_
  refine go_isub K dX12_doors_15 ?_
  refine go_cSI K (c_X12_in l G _ _ _ _ _ _ rfl) cf_X12_in kt_X12_in km_X12_107 (by decide) rfl rfl (Nat.le_of_ble_eq_true rfl) dX12_doors_16 ?_
  refine go_if_ne (tgt := 24) K dX12_doors_19 (by decide) (fun c2 => ?_) (fun c2 => ?_)
  rotate_left
  · replace h := ite_t h c2
    refine go_iconst (v := (-1 : Int32)) K dX12_doors_22 (by decide) ?_
    exact go_iret K hr (Prod.mk.inj (Option.some.inj h)).1 (congrArg (fun z => (C, z)) (Prod.mk.inj (Option.some.inj h)).2) dX12_doors_23
  replace h := ite_f h c2
  refine go_aload_n K dX12_doors_24 1 rfl rfl ?_
  refine gf_X12 K 45 (by decide) kf_X12_100 (v := .ref (gB G + 474)) rfl dX12_doors_25 ?_
  refine go_iconst (v := (0 : Int32)) K dX12_doors_28 (by decide) ?_
  refine go_iconst (v := (0 : Int32)) K dX12_doors_29 (by decide) ?_
  refine go_mast K (Nat.le_of_ble_eq_true rfl) sh_474 (in_k (k := 0) (by decide) (by decide)) rfl dX12_doors_30 ?_
  refine go_iconst (v := (1 : Int32)) K dX12_doors_31 (by decide) ?_
  refine go_istore_n K dX12_doors_32 rfl (by decide) (lv' := [(3, .int (1 : Int32)), (2, .int (O1.1 447 0)), (0, .ref (gB G + 446)), (1, .int v1)]) rfl ?_
  exact go_sub [2, 3, 1, 0] rfl (hl33 FU _ _ _ _ h)
noncomputable def f_X12_few (O : OM) : Option Int32 := (if (O.1 447 0) ≤ (5 : Int32) then (some (O.1 447 0)) else (some (5 : Int32)))
theorem cf_X12_few : CF yX12_few cX12_few 1 (Option.some Jvm.ClassFile.FieldType.int) 0 := ⟨kc_X12_few, kj_X12, ⟨by decide +kernel, by decide +kernel, by decide +kernel⟩, by decide⟩
theorem cv_X12_few : CFv yX12_few := ⟨ki_X12_few, ks_X12_few⟩
set_option maxHeartbeats 4000000 in
set_option maxRecDepth 100000 in
theorem c_X12_few (l : Launch) (G : GT) (C : CM) (O : OM) (res : Int32) (h : f_X12_few O = some res) : MI l G yX12_few cX12_few 1 (Option.some Jvm.ClassFile.FieldType.int) (1) [.ref (gB G + 446)] (C, O) res (C, O) := by
  unfold MI
  refine met_in RX12 (by decide +kernel) rfl [(0, .ref (gB G + 446))] rfl (Nat.le_of_ble_eq_true rfl) ?_
  intro pM eM sM mM aM bM meM cM K hr
  rw [f_X12_few] at h
  refine go_aload_n K dX12_few_0 0 rfl rfl ?_
  refine gf_X12 K 0 (by decide) kf_X12_7 (v := .ref (gB G + 447)) rfl dX12_few_1 ?_
  refine go_iconst (v := (0 : Int32)) K dX12_few_4 (by decide) ?_
  refine go_mald K (Nat.le_of_ble_eq_true rfl) sh_447 (in_k (k := 0) (by decide) (by decide)) rfl dX12_few_5 ?_
  refine go_iconst (v := (5 : Int32)) K dX12_few_6 (by decide) ?_
  refine go_icmp_le (tgt := 14) K dX12_few_7 (by decide) (fun c1 => ?_) (fun c1 => ?_)
  rotate_left
  · replace h := ite_f h c1
    refine go_iconst (v := (5 : Int32)) K dX12_few_10 (by decide) ?_
    refine go_goto (tgt := 20) K dX12_few_11 (by decide) ?_
    exact go_iret K hr (Option.some.inj h) rfl dX12_few_20
  replace h := ite_t h c1
  refine go_aload_n K dX12_few_14 0 rfl rfl ?_
  refine gf_X12 K 0 (by decide) kf_X12_7 (v := .ref (gB G + 447)) rfl dX12_few_15 ?_
  refine go_iconst (v := (0 : Int32)) K dX12_few_18 (by decide) ?_
  refine go_mald K (Nat.le_of_ble_eq_true rfl) sh_447 (in_k (k := 0) (by decide) (by decide)) rfl dX12_few_19 ?_
  exact go_iret K hr (Option.some.inj h) rfl dX12_few_20
noncomputable def f_X12_neck (v1 : Int32) (v2 : Int32) (O : OM) : Option (Int32 × OM) := (bnd (f_X12_few O) (fun r1 => (if (f_X12_in v1 (0 : Int32) (r1 - (1 : Int32))) = 0 then (some ((0 : Int32), O)) else (if (f_X12_in v2 (-1 : Int32) (999 : Int32)) = 0 then (some ((0 : Int32), O)) else (gd (inb ((24 : Int32) + v1) 5130) (some ((1 : Int32), (oup O 447 ((24 : Int32) + v1).toNatClampNeg v2))))))))
theorem cf_X12_neck : CF yX12_neck cX12_neck 3 (Option.some Jvm.ClassFile.FieldType.boolean) 2 := ⟨kc_X12_neck, kj_X12, ⟨by decide +kernel, by decide +kernel, by decide +kernel⟩, by decide⟩
theorem cv_X12_neck : CFv yX12_neck := ⟨ki_X12_neck, ks_X12_neck⟩
set_option maxHeartbeats 4000000 in
set_option maxRecDepth 100000 in
theorem c_X12_neck (l : Launch) (G : GT) (v1 : Int32) (v2 : Int32) (C : CM) (O : OM) (res : Int32) (O' : OM) (h : f_X12_neck v1 v2 O = some (res, O')) : MI l G yX12_neck cX12_neck 3 (Option.some Jvm.ClassFile.FieldType.boolean) (2) [.ref (gB G + 446), .int v1, .int v2] (C, O) res (C, O') := by
  unfold MI
  refine met_in RX12 (by decide +kernel) rfl [(0, .ref (gB G + 446)), (1, .int v1), (2, .int v2)] rfl (Nat.le_of_ble_eq_true rfl) ?_
  intro pM eM sM mM aM bM meM cM K hr
  rw [f_X12_neck] at h
  refine go_iload_n K dX12_neck_0 1 rfl rfl ?_
  refine go_iconst (v := (0 : Int32)) K dX12_neck_1 (by decide) ?_
  refine go_aload_n K dX12_neck_2 0 rfl rfl ?_
  obtain ⟨r1, e1, h⟩ := bnd_e h
  refine go_cVI K (c_X12_few l G _ _ _ e1) cf_X12_few cv_X12_few km_X12_482 rv_X12 (by decide) rfl rfl (Nat.le_of_ble_eq_true rfl) dX12_neck_3 ?_
  refine go_iconst (v := (1 : Int32)) K dX12_neck_6 (by decide) ?_
  refine go_isub K dX12_neck_7 ?_
  refine go_cSI K (c_X12_in l G _ _ _ _ _ _ rfl) cf_X12_in kt_X12_in km_X12_107 (by decide) rfl rfl (Nat.le_of_ble_eq_true rfl) dX12_neck_8 ?_
  refine go_if_eq (tgt := 25) K dX12_neck_11 (by decide) (fun c2 => ?_) (fun c2 => ?_)
  · replace h := ite_t h c2
    refine go_iconst (v := (0 : Int32)) K dX12_neck_25 (by decide) ?_
    exact go_zret K hr (by decide) (Prod.mk.inj (Option.some.inj h)).1 (congrArg (fun z => (C, z)) (Prod.mk.inj (Option.some.inj h)).2) dX12_neck_26
  replace h := ite_f h c2
  refine go_iload_n K dX12_neck_14 2 rfl rfl ?_
  refine go_iconst (v := (-1 : Int32)) K dX12_neck_15 (by decide) ?_
  refine go_sipush (v := (999 : Int32)) K dX12_neck_16 (by decide) ?_
  refine go_cSI K (c_X12_in l G _ _ _ _ _ _ rfl) cf_X12_in kt_X12_in km_X12_107 (by decide) rfl rfl (Nat.le_of_ble_eq_true rfl) dX12_neck_19 ?_
  refine go_if_ne (tgt := 27) K dX12_neck_22 (by decide) (fun c3 => ?_) (fun c3 => ?_)
  rotate_left
  · replace h := ite_t h c3
    refine go_iconst (v := (0 : Int32)) K dX12_neck_25 (by decide) ?_
    exact go_zret K hr (by decide) (Prod.mk.inj (Option.some.inj h)).1 (congrArg (fun z => (C, z)) (Prod.mk.inj (Option.some.inj h)).2) dX12_neck_26
  replace h := ite_f h c3
  refine go_aload_n K dX12_neck_27 0 rfl rfl ?_
  refine gf_X12 K 0 (by decide) kf_X12_7 (v := .ref (gB G + 447)) rfl dX12_neck_28 ?_
  refine go_bipush (v := (24 : Int32)) K dX12_neck_31 (by decide) ?_
  refine go_iload_n K dX12_neck_33 1 rfl rfl ?_
  refine go_iadd K dX12_neck_34 ?_
  refine go_iload_n K dX12_neck_35 2 rfl rfl ?_
  obtain ⟨g4, h⟩ := gd_e h
  refine go_mast K (Nat.le_of_ble_eq_true rfl) sh_447 g4 rfl dX12_neck_36 ?_
  refine go_iconst (v := (1 : Int32)) K dX12_neck_37 (by decide) ?_
  exact go_zret K hr (by decide) (Prod.mk.inj (Option.some.inj h)).1 (congrArg (fun z => (C, z)) (Prod.mk.inj (Option.some.inj h)).2) dX12_neck_38
noncomputable def X12_twoOf_j21 (v2 : Int32) (t0 : Int32) : Int32 := (((t0 * (t0 - (1 : Int32))) / (2 : Int32)) + v2)
noncomputable def X12_twoOf_j10 (v0 : Int32) (v1 : Int32) (t0 : Int32) : Int32 := (if v1 ≤ v0 then (X12_twoOf_j21 t0 v0) else (X12_twoOf_j21 t0 v1))
noncomputable def f_X12_twoOf (v0 : Int32) (v1 : Int32) : Int32 := (if v1 ≤ v0 then (X12_twoOf_j10 v0 v1 v1) else (X12_twoOf_j10 v0 v1 v0))
theorem cf_X12_twoOf : CF yX12_twoOf cX12_twoOf 4 (Option.some Jvm.ClassFile.FieldType.int) 2 := ⟨kc_X12_twoOf, kj_X12, ⟨by decide +kernel, by decide +kernel, by decide +kernel⟩, by decide⟩
set_option maxHeartbeats 4000000 in
set_option maxRecDepth 100000 in
theorem c_X12_twoOf (l : Launch) (G : GT) (v0 : Int32) (v1 : Int32) (C : CM) (O : OM) (res : Int32) (h : f_X12_twoOf v0 v1 = res) : MI l G yX12_twoOf cX12_twoOf 4 (Option.some Jvm.ClassFile.FieldType.int) (1) [.int v0, .int v1] (C, O) res (C, O) := by
  unfold MI
  refine met_in RX12 (by decide +kernel) rfl [(0, .int v0), (1, .int v1)] rfl (Nat.le_of_ble_eq_true rfl) ?_
  intro pM eM sM mM aM bM meM cM K hr
  have hj21 : ∀ (v2 : Int32) (t0 : Int32), X12_twoOf_j21 v2 t0 = res → GO pM l eM (1) sM mM aM bM meM cM (MQ bM (va_Qi (fun (r' : Int32) (u : CM × OM) => r' = res ∧ u = (C, O)) (wB G) (Fr G)) aM sM 0 0 (Fr G)) G 4 (C, O) 21 [(2, .int v2)] [.int t0] := by
    intro v2 t0 h
    rw [X12_twoOf_j21] at h
    refine go_istore_n K dX12_twoOf_21 rfl (by decide) (lv' := [(3, .int t0), (2, .int v2)]) rfl ?_
    refine go_iload_n K dX12_twoOf_22 0 rfl rfl ?_
    refine go_iload_n K dX12_twoOf_23 0 rfl rfl ?_
    refine go_iconst (v := (1 : Int32)) K dX12_twoOf_24 (by decide) ?_
    refine go_isub K dX12_twoOf_25 ?_
    refine go_imul K dX12_twoOf_26 ?_
    refine go_iconst (v := (2 : Int32)) K dX12_twoOf_27 (by decide) ?_
    refine go_idiv K dX12_twoOf_28 (by decide) ?_
    refine go_iload_n K dX12_twoOf_29 1 rfl rfl ?_
    refine go_iadd K dX12_twoOf_30 ?_
    exact go_iret K hr h rfl dX12_twoOf_31
  have hj10 : ∀ (v0 : Int32) (v1 : Int32) (t0 : Int32), X12_twoOf_j10 v0 v1 t0 = res → GO pM l eM (1) sM mM aM bM meM cM (MQ bM (va_Qi (fun (r' : Int32) (u : CM × OM) => r' = res ∧ u = (C, O)) (wB G) (Fr G)) aM sM 0 0 (Fr G)) G 4 (C, O) 10 [(0, .int v0), (1, .int v1)] [.int t0] := by
    intro v0 v1 t0 h
    rw [X12_twoOf_j10] at h
    refine go_istore_n K dX12_twoOf_10 rfl (by decide) (lv' := [(2, .int t0), (0, .int v0), (1, .int v1)]) rfl ?_
    refine go_iload_n K dX12_twoOf_11 1 rfl rfl ?_
    refine go_iload_n K dX12_twoOf_12 2 rfl rfl ?_
    refine go_icmp_ge (tgt := 20) K dX12_twoOf_13 (by decide) (fun c2 => ?_) (fun c2 => ?_)
    · replace h := ite_t h c2
      refine go_iload_n K dX12_twoOf_20 1 rfl rfl ?_
      exact go_sub [0] rfl (hj21 _ _ h)
    replace h := ite_f h c2
    refine go_iload_n K dX12_twoOf_16 2 rfl rfl ?_
    refine go_goto (tgt := 21) K dX12_twoOf_17 (by decide) ?_
    exact go_sub [0] rfl (hj21 _ _ h)
  rw [f_X12_twoOf] at h
  refine go_iload_n K dX12_twoOf_0 0 rfl rfl ?_
  refine go_iload_n K dX12_twoOf_1 1 rfl rfl ?_
  refine go_icmp_ge (tgt := 9) K dX12_twoOf_2 (by decide) (fun c1 => ?_) (fun c1 => ?_)
  · replace h := ite_t h c1
    refine go_iload_n K dX12_twoOf_9 1 rfl rfl ?_
    exact hj10 _ _ _ h
  replace h := ite_f h c1
  refine go_iload_n K dX12_twoOf_5 0 rfl rfl ?_
  refine go_goto (tgt := 10) K dX12_twoOf_6 (by decide) ?_
  exact hj10 _ _ _ h
noncomputable def X12_explains_j98 (rc : Int32 → Int32 → OM → Option Int32) (v1 : Int32) (v2 : Int32) (O : OM) : Option Int32 := (rc v1 (v2 + (1 : Int32)) O)
noncomputable def X12_explains_j70 (rc : Int32 → Int32 → OM → Option Int32) (v1 : Int32) (v2 : Int32) (v3 : Int32) (O : OM) : Option Int32 := (gd (inb ((24 : Int32) + v2) 5130) (if (O.1 447 ((24 : Int32) + v2).toNatClampNeg) = (-1 : Int32) then (X12_explains_j98 rc v1 v2 O) else (gd (inb ((24 : Int32) + v2) 5130) (if (O.1 447 ((24 : Int32) + v2).toNatClampNeg) = v3 then (X12_explains_j98 rc v1 v2 O) else (some (0 : Int32))))))
noncomputable def X12_explains_j62 (rc : Int32 → Int32 → Int32 → Int32 → OM → Option Int32) (k70 : Int32 → Int32 → Int32 → OM → Option Int32) (v1 : Int32) (v2 : Int32) (v4 : Int32) (t0 : Int32) (t1 : Int32) (O : OM) : Option Int32 := (rc v1 v2 (t1 + t0) (v4 + (1 : Int32)) O)
noncomputable def X12_explains_j61 (rc : Int32 → Int32 → Int32 → Int32 → OM → Option Int32) (k70 : Int32 → Int32 → Int32 → OM → Option Int32) (v1 : Int32) (v2 : Int32) (v4 : Int32) (t0 : Int32) (O : OM) : Option Int32 := (X12_explains_j62 rc k70 v1 v2 v4 (0 : Int32) t0 O)
noncomputable def X12_explains_l15 (k70 : Int32 → Int32 → Int32 → OM → Option Int32) : Nat → Int32 → Int32 → Int32 → Int32 → OM → Option Int32
  | 0, _, _, _, _, _ => none
  | n + 1, v1, v2, v3, v4, O => (bnd (f_X12_few O) (fun r3 => (if r3 ≤ v4 then (k70 v1 v2 v3 O) else (if v2 = v4 then (X12_explains_j61 (fun v1 v2 v3 v4 O => X12_explains_l15 k70 n v1 v2 v3 v4 O) k70 v1 v2 v4 v3 O) else (if (f_X12_has v1 (f_X12_twoOf v2 v4)) = 0 then (X12_explains_j61 (fun v1 v2 v3 v4 O => X12_explains_l15 k70 n v1 v2 v3 v4 O) k70 v1 v2 v4 v3 O) else (gd (inb ((40 : Int32) + (f_X12_debtAt v2 v4)) 5130) (X12_explains_j62 (fun v1 v2 v3 v4 O => X12_explains_l15 k70 n v1 v2 v3 v4 O) k70 v1 v2 v4 (O.1 447 ((40 : Int32) + (f_X12_debtAt v2 v4)).toNatClampNeg) v3 O)))))))
noncomputable def X12_explains_l2 : Nat → Int32 → Int32 → OM → Option Int32
  | 0, _, _, _ => none
  | n + 1, v1, v2, O => (bnd (f_X12_few O) (fun r1 => (if r1 ≤ v2 then (some (1 : Int32)) else (X12_explains_l15 (fun v1 v2 v3 O => (X12_explains_j70 (fun v1 v2 O => X12_explains_l2 n v1 v2 O) v1 v2 v3 O)) FU v1 v2 (0 : Int32) (0 : Int32) O))))
noncomputable def f_X12_explains (v1 : Int32) (O : OM) : Option Int32 := (X12_explains_l2 FU v1 (0 : Int32) O)
theorem cf_X12_explains : CF yX12_explains cX12_explains 5 (Option.some Jvm.ClassFile.FieldType.boolean) 1 := ⟨kc_X12_explains, kj_X12, ⟨by decide +kernel, by decide +kernel, by decide +kernel⟩, by decide⟩
theorem cv_X12_explains : CFv yX12_explains := ⟨ki_X12_explains, ks_X12_explains⟩
set_option maxHeartbeats 4000000 in
set_option maxRecDepth 100000 in
theorem c_X12_explains (l : Launch) (G : GT) (v1 : Int32) (C : CM) (O : OM) (res : Int32) (h : f_X12_explains v1 O = some res) : MI l G yX12_explains cX12_explains 5 (Option.some Jvm.ClassFile.FieldType.boolean) (2) [.ref (gB G + 446), .int v1] (C, O) res (C, O) := by
  unfold MI
  refine met_in RX12 (by decide +kernel) rfl [(0, .ref (gB G + 446)), (1, .int v1)] rfl (Nat.le_of_ble_eq_true rfl) ?_
  intro pM eM sM mM aM bM meM cM K hr
  have hl2 : ∀ (n2 : Nat) (v1 : Int32) (v2 : Int32), X12_explains_l2 n2 v1 v2 O = some res → GO pM l eM (2) sM mM aM bM meM cM (MQ bM (va_Qi (fun (r' : Int32) (u : CM × OM) => r' = res ∧ u = (C, O)) (wB G) (Fr G)) aM sM 0 0 (Fr G)) G 5 (C, O) 2 [(0, .ref (gB G + 446)), (1, .int v1), (2, .int v2)] [] := by
    intro n2
    induction n2 with
    | zero =>
      intro v1 v2 h
      rw [X12_explains_l2] at h
      cases h
    | succ n2 ih2 =>
      have hj98 : ∀ (v1 : Int32) (v2 : Int32), X12_explains_j98 (fun v1 v2 O => X12_explains_l2 n2 v1 v2 O) v1 v2 O = some res → GO pM l eM (2) sM mM aM bM meM cM (MQ bM (va_Qi (fun (r' : Int32) (u : CM × OM) => r' = res ∧ u = (C, O)) (wB G) (Fr G)) aM sM 0 0 (Fr G)) G 5 (C, O) 98 [(0, .ref (gB G + 446)), (1, .int v1), (2, .int v2)] [] := by
        intro v1 v2 h
        rw [X12_explains_j98] at h
        refine go_iinc K dX12_explains_98 2 rfl (v := (v2 + (1 : Int32))) rfl (by decide) (lv' := [(2, .int (v2 + (1 : Int32))), (0, .ref (gB G + 446)), (1, .int v1)]) rfl ?_
        refine go_goto (tgt := 2) K dX12_explains_101 (by decide) ?_
        exact go_sub [1, 2, 0] rfl (ih2 _ _ h)
      have hj70 : ∀ (v1 : Int32) (v2 : Int32) (v3 : Int32), X12_explains_j70 (fun v1 v2 O => X12_explains_l2 n2 v1 v2 O) v1 v2 v3 O = some res → GO pM l eM (2) sM mM aM bM meM cM (MQ bM (va_Qi (fun (r' : Int32) (u : CM × OM) => r' = res ∧ u = (C, O)) (wB G) (Fr G)) aM sM 0 0 (Fr G)) G 5 (C, O) 70 [(0, .ref (gB G + 446)), (1, .int v1), (2, .int v2), (3, .int v3)] [] := by
        intro v1 v2 v3 h
        rw [X12_explains_j70] at h
        refine go_aload_n K dX12_explains_70 0 rfl rfl ?_
        refine gf_X12 K 0 (by decide) kf_X12_7 (v := .ref (gB G + 447)) rfl dX12_explains_71 ?_
        refine go_bipush (v := (24 : Int32)) K dX12_explains_74 (by decide) ?_
        refine go_iload_n K dX12_explains_76 2 rfl rfl ?_
        refine go_iadd K dX12_explains_77 ?_
        obtain ⟨g8, h⟩ := gd_e h
        refine go_mald K (Nat.le_of_ble_eq_true rfl) sh_447 g8 rfl dX12_explains_78 ?_
        refine go_iconst (v := (-1 : Int32)) K dX12_explains_79 (by decide) ?_
        refine go_icmp_eq (tgt := 98) K dX12_explains_80 (by decide) (fun c9 => ?_) (fun c9 => ?_)
        · replace h := ite_t h c9
          exact go_sub [0, 1, 2] rfl (hj98 _ _ h)
        replace h := ite_f h c9
        refine go_aload_n K dX12_explains_83 0 rfl rfl ?_
        refine gf_X12 K 0 (by decide) kf_X12_7 (v := .ref (gB G + 447)) rfl dX12_explains_84 ?_
        refine go_bipush (v := (24 : Int32)) K dX12_explains_87 (by decide) ?_
        refine go_iload_n K dX12_explains_89 2 rfl rfl ?_
        refine go_iadd K dX12_explains_90 ?_
        obtain ⟨g10, h⟩ := gd_e h
        refine go_mald K (Nat.le_of_ble_eq_true rfl) sh_447 g10 rfl dX12_explains_91 ?_
        refine go_iload_n K dX12_explains_92 3 rfl rfl ?_
        refine go_icmp_eq (tgt := 98) K dX12_explains_93 (by decide) (fun c11 => ?_) (fun c11 => ?_)
        · replace h := ite_t h c11
          exact go_sub [0, 1, 2] rfl (hj98 _ _ h)
        replace h := ite_f h c11
        refine go_iconst (v := (0 : Int32)) K dX12_explains_96 (by decide) ?_
        exact go_zret K hr (by decide) (Option.some.inj h) rfl dX12_explains_97
      have hl15 : ∀ (n15 : Nat) (v1 : Int32) (v2 : Int32) (v3 : Int32) (v4 : Int32), X12_explains_l15 (fun v1 v2 v3 O => (X12_explains_j70 (fun v1 v2 O => X12_explains_l2 n2 v1 v2 O) v1 v2 v3 O)) n15 v1 v2 v3 v4 O = some res → GO pM l eM (2) sM mM aM bM meM cM (MQ bM (va_Qi (fun (r' : Int32) (u : CM × OM) => r' = res ∧ u = (C, O)) (wB G) (Fr G)) aM sM 0 0 (Fr G)) G 5 (C, O) 15 [(0, .ref (gB G + 446)), (1, .int v1), (2, .int v2), (3, .int v3), (4, .int v4)] [] := by
        intro n15
        induction n15 with
        | zero =>
          intro v1 v2 v3 v4 h
          rw [X12_explains_l15] at h
          cases h
        | succ n15 ih15 =>
          have hj62 : ∀ (v1 : Int32) (v2 : Int32) (v4 : Int32) (t0 : Int32) (t1 : Int32), X12_explains_j62 (fun v1 v2 v3 v4 O => X12_explains_l15 (fun v1 v2 v3 O => (X12_explains_j70 (fun v1 v2 O => X12_explains_l2 n2 v1 v2 O) v1 v2 v3 O)) n15 v1 v2 v3 v4 O) (fun v1 v2 v3 O => (X12_explains_j70 (fun v1 v2 O => X12_explains_l2 n2 v1 v2 O) v1 v2 v3 O)) v1 v2 v4 t0 t1 O = some res → GO pM l eM (2) sM mM aM bM meM cM (MQ bM (va_Qi (fun (r' : Int32) (u : CM × OM) => r' = res ∧ u = (C, O)) (wB G) (Fr G)) aM sM 0 0 (Fr G)) G 5 (C, O) 62 [(0, .ref (gB G + 446)), (1, .int v1), (2, .int v2), (4, .int v4)] [.int t0, .int t1] := by
            intro v1 v2 v4 t0 t1 h
            rw [X12_explains_j62] at h
            refine go_iadd K dX12_explains_62 ?_
            refine go_istore_n K dX12_explains_63 rfl (by decide) (lv' := [(3, .int (t1 + t0)), (0, .ref (gB G + 446)), (1, .int v1), (2, .int v2), (4, .int v4)]) rfl ?_
            refine go_iinc K dX12_explains_64 4 rfl (v := (v4 + (1 : Int32))) rfl (by decide) (lv' := [(4, .int (v4 + (1 : Int32))), (3, .int (t1 + t0)), (0, .ref (gB G + 446)), (1, .int v1), (2, .int v2)]) rfl ?_
            refine go_goto (tgt := 15) K dX12_explains_67 (by decide) ?_
            exact go_sub [2, 3, 4, 1, 0] rfl (ih15 _ _ _ _ h)
          have hj61 : ∀ (v1 : Int32) (v2 : Int32) (v4 : Int32) (t0 : Int32), X12_explains_j61 (fun v1 v2 v3 v4 O => X12_explains_l15 (fun v1 v2 v3 O => (X12_explains_j70 (fun v1 v2 O => X12_explains_l2 n2 v1 v2 O) v1 v2 v3 O)) n15 v1 v2 v3 v4 O) (fun v1 v2 v3 O => (X12_explains_j70 (fun v1 v2 O => X12_explains_l2 n2 v1 v2 O) v1 v2 v3 O)) v1 v2 v4 t0 O = some res → GO pM l eM (2) sM mM aM bM meM cM (MQ bM (va_Qi (fun (r' : Int32) (u : CM × OM) => r' = res ∧ u = (C, O)) (wB G) (Fr G)) aM sM 0 0 (Fr G)) G 5 (C, O) 61 [(0, .ref (gB G + 446)), (1, .int v1), (2, .int v2), (4, .int v4)] [.int t0] := by
            intro v1 v2 v4 t0 h
            rw [X12_explains_j61] at h
            refine go_iconst (v := (0 : Int32)) K dX12_explains_61 (by decide) ?_
            exact hj62 _ _ _ _ _ h
          intro v1 v2 v3 v4 h
          rw [X12_explains_l15] at h
          refine go_iload K dX12_explains_15 4 rfl ?_
          refine go_aload_n K dX12_explains_17 0 rfl rfl ?_
          obtain ⟨r3, e3, h⟩ := bnd_e h
          refine go_cVI K (c_X12_few l G _ _ _ e3) cf_X12_few cv_X12_few km_X12_482 rv_X12 (by decide) rfl rfl (Nat.le_of_ble_eq_true rfl) dX12_explains_18 ?_
          refine go_icmp_ge (tgt := 70) K dX12_explains_21 (by decide) (fun c4 => ?_) (fun c4 => ?_)
          · replace h := ite_t h c4
            exact go_sub [0, 1, 2, 3] rfl (hj70 _ _ _ h)
          replace h := ite_f h c4
          refine go_iload_n K dX12_explains_24 3 rfl rfl ?_
          refine go_iload_n K dX12_explains_25 2 rfl rfl ?_
          refine go_iload K dX12_explains_26 4 rfl ?_
          refine go_icmp_eq (tgt := 61) K dX12_explains_28 (by decide) (fun c5 => ?_) (fun c5 => ?_)
          · replace h := ite_t h c5
            exact go_sub [0, 1, 2, 4] rfl (hj61 _ _ _ _ h)
          replace h := ite_f h c5
          refine go_iload_n K dX12_explains_31 1 rfl rfl ?_
          refine go_iload_n K dX12_explains_32 2 rfl rfl ?_
          refine go_iload K dX12_explains_33 4 rfl ?_
          refine go_cSI K (c_X12_twoOf l G _ _ _ _ _ rfl) cf_X12_twoOf kt_X12_twoOf km_X12_485 (by decide) rfl rfl (Nat.le_of_ble_eq_true rfl) dX12_explains_35 ?_
          refine go_cSI K (c_X12_has l G _ _ _ _ _ rfl) cf_X12_has kt_X12_has km_X12_469 (by decide) rfl rfl (Nat.le_of_ble_eq_true rfl) dX12_explains_38 ?_
          refine go_if_eq (tgt := 61) K dX12_explains_41 (by decide) (fun c6 => ?_) (fun c6 => ?_)
          · replace h := ite_t h c6
            exact go_sub [0, 1, 2, 4] rfl (hj61 _ _ _ _ h)
          replace h := ite_f h c6
          refine go_aload_n K dX12_explains_44 0 rfl rfl ?_
          refine gf_X12 K 0 (by decide) kf_X12_7 (v := .ref (gB G + 447)) rfl dX12_explains_45 ?_
          refine go_bipush (v := (40 : Int32)) K dX12_explains_48 (by decide) ?_
          refine go_iload_n K dX12_explains_50 2 rfl rfl ?_
          refine go_iload K dX12_explains_51 4 rfl ?_
          refine go_cSI K (c_X12_debtAt l G _ _ _ _ _ rfl) cf_X12_debtAt kt_X12_debtAt km_X12_335 (by decide) rfl rfl (Nat.le_of_ble_eq_true rfl) dX12_explains_53 ?_
          refine go_iadd K dX12_explains_56 ?_
          obtain ⟨g7, h⟩ := gd_e h
          refine go_mald K (Nat.le_of_ble_eq_true rfl) sh_447 g7 rfl dX12_explains_57 ?_
          refine go_goto (tgt := 62) K dX12_explains_58 (by decide) ?_
          exact go_sub [0, 1, 2, 4] rfl (hj62 _ _ _ _ _ h)
      intro v1 v2 h
      rw [X12_explains_l2] at h
      refine go_iload_n K dX12_explains_2 2 rfl rfl ?_
      refine go_aload_n K dX12_explains_3 0 rfl rfl ?_
      obtain ⟨r1, e1, h⟩ := bnd_e h
      refine go_cVI K (c_X12_few l G _ _ _ e1) cf_X12_few cv_X12_few km_X12_482 rv_X12 (by decide) rfl rfl (Nat.le_of_ble_eq_true rfl) dX12_explains_4 ?_
      refine go_icmp_ge (tgt := 104) K dX12_explains_7 (by decide) (fun c2 => ?_) (fun c2 => ?_)
      · replace h := ite_t h c2
        refine go_iconst (v := (1 : Int32)) K dX12_explains_104 (by decide) ?_
        exact go_zret K hr (by decide) (Option.some.inj h) rfl dX12_explains_105
      replace h := ite_f h c2
      refine go_iconst (v := (0 : Int32)) K dX12_explains_10 (by decide) ?_
      refine go_istore_n K dX12_explains_11 rfl (by decide) (lv' := [(3, .int (0 : Int32)), (0, .ref (gB G + 446)), (1, .int v1), (2, .int v2)]) rfl ?_
      refine go_iconst (v := (0 : Int32)) K dX12_explains_12 (by decide) ?_
      refine go_istore K dX12_explains_13 (by decide) (lv' := [(4, .int (0 : Int32)), (3, .int (0 : Int32)), (0, .ref (gB G + 446)), (1, .int v1), (2, .int v2)]) rfl ?_
      exact go_sub [2, 3, 4, 1, 0] rfl (hl15 FU _ _ _ _ h)
  rw [f_X12_explains] at h
  refine go_iconst (v := (0 : Int32)) K dX12_explains_0 (by decide) ?_
  refine go_istore_n K dX12_explains_1 rfl (by decide) (lv' := [(2, .int (0 : Int32)), (0, .ref (gB G + 446)), (1, .int v1)]) rfl ?_
  exact go_sub [1, 2, 0] rfl (hl2 FU _ _ h)
