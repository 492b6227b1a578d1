noncomputable def X12_saysOf_j234 (O : OM) : Option (Int64 × OM) := (some ((O.2 472 0), O))
noncomputable def X12_saysOf_j228 (rc : Int32 → Int32 → OM → Option (Int64 × OM)) (k234 : OM → Option (Int64 × OM)) (v2 : Int32) (v3 : Int32) (O : OM) : Option (Int64 × OM) := (rc v2 (v3 + (1 : Int32)) O)
noncomputable def X12_saysOf_j75 (rc : Int32 → Int32 → OM → Option (Int64 × OM)) (k234 : OM → Option (Int64 × OM)) (v2 : Int32) (v3 : Int32) (t0 : Int64) (t1 : Int32) (O : OM) : Option (Int64 × OM) := (gd (inb t1 200) (X12_saysOf_j228 rc k234 (v2 + (1 : Int32)) v3 (oupJ O 472 t1.toNatClampNeg t0)))
noncomputable def X12_saysOf_j40 (rc : Int32 → Int32 → OM → Option (Int64 × OM)) (k234 : OM → Option (Int64 × OM)) (v2 : Int32) (v3 : Int32) (v4 : Int32) (O : OM) : Option (Int64 × OM) := (if v4 = (400 : Int32) then (gd (inb v3 1600) (X12_saysOf_j75 rc k234 v2 v3 ((O.1 457 v3.toNatClampNeg).toInt64) v2 O)) else (gd (inb v3 1600) (gd (inb (O.1 457 v3.toNatClampNeg) 10) (X12_saysOf_j75 rc k234 v2 v3 ((O.1 471 (O.1 457 v3.toNatClampNeg).toNatClampNeg).toInt64) v2 O))))
noncomputable def X12_saysOf_j116 (rc : Int32 → Int32 → OM → Option (Int64 × OM)) (k234 : OM → Option (Int64 × OM)) (v2 : Int32) (t0 : Int32) (O : OM) : Option (Int64 × OM) := (X12_saysOf_j228 rc k234 v2 t0 O)
noncomputable def X12_saysOf_l4 (k234 : OM → Option (Int64 × OM)) : Nat → Int32 → Int32 → OM → Option (Int64 × OM)
  | 0, _, _, _ => none
  | n + 1, v2, v3, O => (gd (inb v3 1600) (if (O.1 456 v3.toNatClampNeg) = (408 : Int32) then (k234 O) else (gd (inb v3 1600) (if (O.1 456 v3.toNatClampNeg) = (400 : Int32) then (X12_saysOf_j40 (fun v2 v3 O => X12_saysOf_l4 k234 n v2 v3 O) k234 v2 v3 (O.1 456 v3.toNatClampNeg) O) else (if (O.1 456 v3.toNatClampNeg) = (401 : Int32) then (X12_saysOf_j40 (fun v2 v3 O => X12_saysOf_l4 k234 n v2 v3 O) k234 v2 v3 (O.1 456 v3.toNatClampNeg) O) else (if (O.1 456 v3.toNatClampNeg) = (404 : Int32) then (gd (inb (v2 + (-1 : Int32)) 200) (if (lg_cmp (O.2 472 (v2 + (-1 : Int32)).toNatClampNeg) (0 : Int64)) = 0 then (gd (inb v3 1600) (X12_saysOf_j116 (fun v2 v3 O => X12_saysOf_l4 k234 n v2 v3 O) k234 (v2 + (-1 : Int32)) ((O.1 457 v3.toNatClampNeg) - (1 : Int32)) O)) else (X12_saysOf_j116 (fun v2 v3 O => X12_saysOf_l4 k234 n v2 v3 O) k234 (v2 + (-1 : Int32)) v3 O))) else (if (O.1 456 v3.toNatClampNeg) = (409 : Int32) then (gd (inb v3 1600) (X12_saysOf_j228 (fun v2 v3 O => X12_saysOf_l4 k234 n v2 v3 O) k234 v2 ((O.1 457 v3.toNatClampNeg) - (1 : Int32)) O)) else (if (O.1 456 v3.toNatClampNeg) = (402 : Int32) then (gd (inb (v2 - (1 : Int32)) 200) (gd (inb (v2 - (1 : Int32)) 200) (X12_saysOf_j228 (fun v2 v3 O => X12_saysOf_l4 k234 n v2 v3 O) k234 v2 v3 (oupJ O 472 (v2 - (1 : Int32)).toNatClampNeg (-(O.2 472 (v2 - (1 : Int32)).toNatClampNeg)))))) else (if (O.1 456 v3.toNatClampNeg) = (405 : Int32) then (gd (inb (v2 - (1 : Int32)) 200) (gd (inb (v2 - (1 : Int32)) 200) (X12_saysOf_j228 (fun v2 v3 O => X12_saysOf_l4 k234 n v2 v3 O) k234 v2 v3 (oupJ O 472 (v2 - (1 : Int32)).toNatClampNeg ((1 : Int64) - (O.2 472 (v2 - (1 : Int32)).toNatClampNeg)))))) else (gd (inb ((v2 + (-1 : Int32)) - (1 : Int32)) 200) (gd (inb (v2 + (-1 : Int32)) 200) (bnd (f_X12_worked (O.1 456 v3.toNatClampNeg) (O.2 472 ((v2 + (-1 : Int32)) - (1 : Int32)).toNatClampNeg) (O.2 472 (v2 + (-1 : Int32)).toNatClampNeg) O) (fun r17 => (gd (inb ((v2 + (-1 : Int32)) - (1 : Int32)) 200) (X12_saysOf_j228 (fun v2 v3 O => X12_saysOf_l4 k234 n v2 v3 O) k234 (v2 + (-1 : Int32)) v3 (oupJ O 472 ((v2 + (-1 : Int32)) - (1 : Int32)).toNatClampNeg r17))))))))))))))))
noncomputable def f_X12_saysOf (v1 : Int32) (O : OM) : Option (Int64 × OM) := (X12_saysOf_l4 (fun O => (X12_saysOf_j234 O)) FU (0 : Int32) v1 O)
theorem cf_X12_saysOf : CF yX12_saysOf cX12_saysOf 5 (Option.some Jvm.ClassFile.FieldType.long) 1 := ⟨kc_X12_saysOf, kj_X12, ⟨by decide +kernel, by decide +kernel, by decide +kernel⟩, by decide⟩
theorem cv_X12_saysOf : CFv yX12_saysOf := ⟨ki_X12_saysOf, ks_X12_saysOf⟩
set_option maxHeartbeats 4000000 in
set_option maxRecDepth 100000 in
theorem c_X12_saysOf (l : Launch) (G : GT) (v1 : Int32) (C : CM) (O : OM) (res : Int64) (O' : OM) (h : f_X12_saysOf v1 O = some (res, O')) : MJ l G yX12_saysOf cX12_saysOf 5 (Option.some Jvm.ClassFile.FieldType.long) (4) [.ref (gB G + 446), .int v1] (C, O) res (C, O') := by
  unfold MJ
  refine met_in RX12 (by decide +kernel) rfl [(0, .ref (gB G + 446)), (1, .int v1)] rfl (Nat.le_of_ble_eq_true rfl) ?_
  intro pM eM sM mM aM bM meM cM K hr
  have hj234 : ∀ (O : OM), X12_saysOf_j234 O = some (res, O') → GO pM l eM (4) sM mM aM bM meM cM (MQ bM (va_Ql (fun (r' : Int64) (u : CM × OM) => r' = res ∧ u = (C, O')) (wB G) (Fr G)) aM sM 0 0 (Fr G)) G 5 (C, O) 234 [(0, .ref (gB G + 446))] [] := by
    intro O h
    rw [X12_saysOf_j234] at h
    refine go_aload_n K dX12_saysOf_234 0 rfl rfl ?_
    refine gf_X12 K 42 (by decide) kf_X12_93 (v := .ref (gB G + 472)) rfl dX12_saysOf_235 ?_
    refine go_iconst (v := (0 : Int32)) K dX12_saysOf_238 (by decide) ?_
    refine go_mlald K (Nat.le_of_ble_eq_true rfl) sh_472 (in_k (k := 0) (by decide) (by decide)) rfl dX12_saysOf_239 ?_
    exact go_lret K hr (Prod.mk.inj (Option.some.inj h)).1 (congrArg (fun z => (C, z)) (Prod.mk.inj (Option.some.inj h)).2) dX12_saysOf_240
  have hl4 : ∀ (n4 : Nat) (v2 : Int32) (v3 : Int32) (O : OM), X12_saysOf_l4 (fun O => (X12_saysOf_j234 O)) n4 v2 v3 O = some (res, O') → GO pM l eM (4) sM mM aM bM meM cM (MQ bM (va_Ql (fun (r' : Int64) (u : CM × OM) => r' = res ∧ u = (C, O')) (wB G) (Fr G)) aM sM 0 0 (Fr G)) G 5 (C, O) 4 [(0, .ref (gB G + 446)), (2, .int v2), (3, .int v3)] [] := by
    intro n4
    induction n4 with
    | zero =>
      intro v2 v3 O h
      rw [X12_saysOf_l4] at h
      cases h
    | succ n4 ih4 =>
      have hj228 : ∀ (v2 : Int32) (v3 : Int32) (O : OM), X12_saysOf_j228 (fun v2 v3 O => X12_saysOf_l4 (fun O => (X12_saysOf_j234 O)) n4 v2 v3 O) (fun O => (X12_saysOf_j234 O)) v2 v3 O = some (res, O') → GO pM l eM (4) sM mM aM bM meM cM (MQ bM (va_Ql (fun (r' : Int64) (u : CM × OM) => r' = res ∧ u = (C, O')) (wB G) (Fr G)) aM sM 0 0 (Fr G)) G 5 (C, O) 228 [(0, .ref (gB G + 446)), (2, .int v2), (3, .int v3)] [] := by
        intro v2 v3 O h
        rw [X12_saysOf_j228] at h
        refine go_iinc K dX12_saysOf_228 2 rfl (v := (v3 + (1 : Int32))) rfl (by decide) (lv' := [(3, .int (v3 + (1 : Int32))), (0, .ref (gB G + 446)), (2, .int v2)]) rfl ?_
        refine go_goto (tgt := 4) K dX12_saysOf_231 (by decide) ?_
        exact go_sub [1, 2, 0] rfl (ih4 _ _ _ h)
      have hj75 : ∀ (v2 : Int32) (v3 : Int32) (t0 : Int64) (t1 : Int32) (O : OM), X12_saysOf_j75 (fun v2 v3 O => X12_saysOf_l4 (fun O => (X12_saysOf_j234 O)) n4 v2 v3 O) (fun O => (X12_saysOf_j234 O)) v2 v3 t0 t1 O = some (res, O') → GO pM l eM (4) sM mM aM bM meM cM (MQ bM (va_Ql (fun (r' : Int64) (u : CM × OM) => r' = res ∧ u = (C, O')) (wB G) (Fr G)) aM sM 0 0 (Fr G)) G 5 (C, O) 75 [(0, .ref (gB G + 446)), (2, .int v2), (3, .int v3)] [.long t0, .int t1, .ref (gB G + 472)] := by
        intro v2 v3 t0 t1 O h
        rw [X12_saysOf_j75] at h
        obtain ⟨g8, h⟩ := gd_e h
        refine go_mlast K (Nat.le_of_ble_eq_true rfl) sh_472 g8 rfl dX12_saysOf_75 ?_
        refine go_iinc K dX12_saysOf_76 1 rfl (v := (v2 + (1 : Int32))) rfl (by decide) (lv' := [(2, .int (v2 + (1 : Int32))), (0, .ref (gB G + 446)), (3, .int v3)]) rfl ?_
        refine go_goto (tgt := 228) K dX12_saysOf_79 (by decide) ?_
        exact go_sub [1, 0, 2] rfl (hj228 _ _ _ h)
      have hj40 : ∀ (v2 : Int32) (v3 : Int32) (v4 : Int32) (O : OM), X12_saysOf_j40 (fun v2 v3 O => X12_saysOf_l4 (fun O => (X12_saysOf_j234 O)) n4 v2 v3 O) (fun O => (X12_saysOf_j234 O)) v2 v3 v4 O = some (res, O') → GO pM l eM (4) sM mM aM bM meM cM (MQ bM (va_Ql (fun (r' : Int64) (u : CM × OM) => r' = res ∧ u = (C, O')) (wB G) (Fr G)) aM sM 0 0 (Fr G)) G 5 (C, O) 40 [(0, .ref (gB G + 446)), (2, .int v2), (3, .int v3), (4, .int v4)] [] := by
        intro v2 v3 v4 O h
        rw [X12_saysOf_j40] at h
        refine go_aload_n K dX12_saysOf_40 0 rfl rfl ?_
        refine gf_X12 K 42 (by decide) kf_X12_93 (v := .ref (gB G + 472)) rfl dX12_saysOf_41 ?_
        refine go_iload_n K dX12_saysOf_44 1 rfl rfl ?_
        refine go_iload K dX12_saysOf_45 3 rfl ?_
        refine go_sipush (v := (400 : Int32)) K dX12_saysOf_47 (by decide) ?_
        refine go_icmp_ne (tgt := 63) K dX12_saysOf_50 (by decide) (fun c5 => ?_) (fun c5 => ?_)
        rotate_left
        · replace h := ite_t h c5
          refine go_aload_n K dX12_saysOf_53 0 rfl rfl ?_
          refine gf_X12 K 13 (by decide) kf_X12_48 (v := .ref (gB G + 457)) rfl dX12_saysOf_54 ?_
          refine go_iload_n K dX12_saysOf_57 2 rfl rfl ?_
          obtain ⟨g9, h⟩ := gd_e h
          refine go_mald K (Nat.le_of_ble_eq_true rfl) sh_457 g9 rfl dX12_saysOf_58 ?_
          refine go_i2l K dX12_saysOf_59 ?_
          refine go_goto (tgt := 75) K dX12_saysOf_60 (by decide) ?_
          exact go_sub [0, 1, 2] rfl (hj75 _ _ _ _ _ h)
        replace h := ite_f h c5
        refine go_aload_n K dX12_saysOf_63 0 rfl rfl ?_
        refine gf_X12 K 41 (by decide) kf_X12_90 (v := .ref (gB G + 471)) rfl dX12_saysOf_64 ?_
        refine go_aload_n K dX12_saysOf_67 0 rfl rfl ?_
        refine gf_X12 K 13 (by decide) kf_X12_48 (v := .ref (gB G + 457)) rfl dX12_saysOf_68 ?_
        refine go_iload_n K dX12_saysOf_71 2 rfl rfl ?_
        obtain ⟨g6, h⟩ := gd_e h
        refine go_mald K (Nat.le_of_ble_eq_true rfl) sh_457 g6 rfl dX12_saysOf_72 ?_
        obtain ⟨g7, h⟩ := gd_e h
        refine go_mald K (Nat.le_of_ble_eq_true rfl) sh_471 g7 rfl dX12_saysOf_73 ?_
        refine go_i2l K dX12_saysOf_74 ?_
        exact go_sub [0, 1, 2] rfl (hj75 _ _ _ _ _ h)
      have hj116 : ∀ (v2 : Int32) (t0 : Int32) (O : OM), X12_saysOf_j116 (fun v2 v3 O => X12_saysOf_l4 (fun O => (X12_saysOf_j234 O)) n4 v2 v3 O) (fun O => (X12_saysOf_j234 O)) v2 t0 O = some (res, O') → GO pM l eM (4) sM mM aM bM meM cM (MQ bM (va_Ql (fun (r' : Int64) (u : CM × OM) => r' = res ∧ u = (C, O')) (wB G) (Fr G)) aM sM 0 0 (Fr G)) G 5 (C, O) 116 [(0, .ref (gB G + 446)), (2, .int v2)] [.int t0] := by
        intro v2 t0 O h
        rw [X12_saysOf_j116] at h
        refine go_istore_n K dX12_saysOf_116 rfl (by decide) (lv' := [(3, .int t0), (0, .ref (gB G + 446)), (2, .int v2)]) rfl ?_
        refine go_goto (tgt := 228) K dX12_saysOf_117 (by decide) ?_
        exact go_sub [1, 2, 0] rfl (hj228 _ _ _ h)
      intro v2 v3 O h
      rw [X12_saysOf_l4] at h
      refine go_aload_n K dX12_saysOf_4 0 rfl rfl ?_
      refine gf_X12 K 12 (by decide) kf_X12_45 (v := .ref (gB G + 456)) rfl dX12_saysOf_5 ?_
      refine go_iload_n K dX12_saysOf_8 2 rfl rfl ?_
      obtain ⟨g1, h⟩ := gd_e h
      refine go_mald K (Nat.le_of_ble_eq_true rfl) sh_456 g1 rfl dX12_saysOf_9 ?_
      refine go_sipush (v := (408 : Int32)) K dX12_saysOf_10 (by decide) ?_
      refine go_icmp_eq (tgt := 234) K dX12_saysOf_13 (by decide) (fun c2 => ?_) (fun c2 => ?_)
      · replace h := ite_t h c2
        exact go_sub [0] rfl (hj234 _ h)
      replace h := ite_f h c2
      refine go_aload_n K dX12_saysOf_16 0 rfl rfl ?_
      refine gf_X12 K 12 (by decide) kf_X12_45 (v := .ref (gB G + 456)) rfl dX12_saysOf_17 ?_
      refine go_iload_n K dX12_saysOf_20 2 rfl rfl ?_
      obtain ⟨g3, h⟩ := gd_e h
      refine go_mald K (Nat.le_of_ble_eq_true rfl) sh_456 g3 rfl dX12_saysOf_21 ?_
      refine go_istore K dX12_saysOf_22 (by decide) (lv' := [(4, .int (O.1 456 v3.toNatClampNeg)), (0, .ref (gB G + 446)), (2, .int v2), (3, .int v3)]) rfl ?_
      refine go_iload K dX12_saysOf_24 0 rfl ?_
      refine go_sipush (v := (400 : Int32)) K dX12_saysOf_26 (by decide) ?_
      refine go_icmp_eq (tgt := 40) K dX12_saysOf_29 (by decide) (fun c4 => ?_) (fun c4 => ?_)
      · replace h := ite_t h c4
        exact go_sub [1, 2, 3, 0] rfl (hj40 _ _ _ _ h)
      replace h := ite_f h c4
      refine go_iload K dX12_saysOf_32 0 rfl ?_
      refine go_sipush (v := (401 : Int32)) K dX12_saysOf_34 (by decide) ?_
      refine go_icmp_ne (tgt := 82) K dX12_saysOf_37 (by decide) (fun c10 => ?_) (fun c10 => ?_)
      rotate_left
      · replace h := ite_t h c10
        exact go_sub [1, 2, 3, 0] rfl (hj40 _ _ _ _ h)
      replace h := ite_f h c10
      refine go_iload K dX12_saysOf_82 0 rfl ?_
      refine go_sipush (v := (404 : Int32)) K dX12_saysOf_84 (by decide) ?_
      refine go_icmp_ne (tgt := 120) K dX12_saysOf_87 (by decide) (fun c11 => ?_) (fun c11 => ?_)
      rotate_left
      · replace h := ite_t h c11
        refine go_iinc K dX12_saysOf_90 2 rfl (v := (v2 + (-1 : Int32))) rfl (by decide) (lv' := [(2, .int (v2 + (-1 : Int32))), (4, .int (O.1 456 v3.toNatClampNeg)), (0, .ref (gB G + 446)), (3, .int v3)]) rfl ?_
        refine go_aload_n K dX12_saysOf_93 2 rfl rfl ?_
        refine gf_X12 K 42 (by decide) kf_X12_93 (v := .ref (gB G + 472)) rfl dX12_saysOf_94 ?_
        refine go_iload_n K dX12_saysOf_97 0 rfl rfl ?_
        obtain ⟨g24, h⟩ := gd_e h
        refine go_mlald K (Nat.le_of_ble_eq_true rfl) sh_472 g24 rfl dX12_saysOf_98 ?_
        refine go_lconst (v := (0 : Int64)) K dX12_saysOf_99 (by decide) ?_
        refine go_lcmp K dX12_saysOf_100 ?_
        refine go_if_ne (tgt := 115) K dX12_saysOf_101 (by decide) (fun c25 => ?_) (fun c25 => ?_)
        · replace h := ite_f h c25
          refine go_iload_n K dX12_saysOf_115 3 rfl rfl ?_
          exact go_sub [2, 0] rfl (hj116 _ _ _ h)
        replace h := ite_t h c25
        refine go_aload_n K dX12_saysOf_104 2 rfl rfl ?_
        refine gf_X12 K 13 (by decide) kf_X12_48 (v := .ref (gB G + 457)) rfl dX12_saysOf_105 ?_
        refine go_iload_n K dX12_saysOf_108 3 rfl rfl ?_
        obtain ⟨g26, h⟩ := gd_e h
        refine go_mald K (Nat.le_of_ble_eq_true rfl) sh_457 g26 rfl dX12_saysOf_109 ?_
        refine go_iconst (v := (1 : Int32)) K dX12_saysOf_110 (by decide) ?_
        refine go_isub K dX12_saysOf_111 ?_
        refine go_goto (tgt := 116) K dX12_saysOf_112 (by decide) ?_
        exact go_sub [2, 0] rfl (hj116 _ _ _ h)
      replace h := ite_f h c11
      refine go_iload K dX12_saysOf_120 0 rfl ?_
      refine go_sipush (v := (409 : Int32)) K dX12_saysOf_122 (by decide) ?_
      refine go_icmp_ne (tgt := 140) K dX12_saysOf_125 (by decide) (fun c12 => ?_) (fun c12 => ?_)
      rotate_left
      · replace h := ite_t h c12
        refine go_aload_n K dX12_saysOf_128 1 rfl rfl ?_
        refine gf_X12 K 13 (by decide) kf_X12_48 (v := .ref (gB G + 457)) rfl dX12_saysOf_129 ?_
        refine go_iload_n K dX12_saysOf_132 3 rfl rfl ?_
        obtain ⟨g23, h⟩ := gd_e h
        refine go_mald K (Nat.le_of_ble_eq_true rfl) sh_457 g23 rfl dX12_saysOf_133 ?_
        refine go_iconst (v := (1 : Int32)) K dX12_saysOf_134 (by decide) ?_
        refine go_isub K dX12_saysOf_135 ?_
        refine go_istore_n K dX12_saysOf_136 rfl (by decide) (lv' := [(3, .int ((O.1 457 v3.toNatClampNeg) - (1 : Int32))), (4, .int (O.1 456 v3.toNatClampNeg)), (0, .ref (gB G + 446)), (2, .int v2)]) rfl ?_
        refine go_goto (tgt := 228) K dX12_saysOf_137 (by decide) ?_
        exact go_sub [2, 3, 0] rfl (hj228 _ _ _ h)
      replace h := ite_f h c12
      refine go_iload K dX12_saysOf_140 0 rfl ?_
      refine go_sipush (v := (402 : Int32)) K dX12_saysOf_142 (by decide) ?_
      refine go_icmp_ne (tgt := 168) K dX12_saysOf_145 (by decide) (fun c13 => ?_) (fun c13 => ?_)
      rotate_left
      · replace h := ite_t h c13
        refine go_aload_n K dX12_saysOf_148 1 rfl rfl ?_
        refine gf_X12 K 42 (by decide) kf_X12_93 (v := .ref (gB G + 472)) rfl dX12_saysOf_149 ?_
        refine go_iload_n K dX12_saysOf_152 2 rfl rfl ?_
        refine go_iconst (v := (1 : Int32)) K dX12_saysOf_153 (by decide) ?_
        refine go_isub K dX12_saysOf_154 ?_
        refine go_aload_n K dX12_saysOf_155 1 rfl rfl ?_
        refine gf_X12 K 42 (by decide) kf_X12_93 (v := .ref (gB G + 472)) rfl dX12_saysOf_156 ?_
        refine go_iload_n K dX12_saysOf_159 2 rfl rfl ?_
        refine go_iconst (v := (1 : Int32)) K dX12_saysOf_160 (by decide) ?_
        refine go_isub K dX12_saysOf_161 ?_
        obtain ⟨g21, h⟩ := gd_e h
        refine go_mlald K (Nat.le_of_ble_eq_true rfl) sh_472 g21 rfl dX12_saysOf_162 ?_
        refine go_lneg K dX12_saysOf_163 ?_
        obtain ⟨g22, h⟩ := gd_e h
        refine go_mlast K (Nat.le_of_ble_eq_true rfl) sh_472 g22 rfl dX12_saysOf_164 ?_
        refine go_goto (tgt := 228) K dX12_saysOf_165 (by decide) ?_
        exact go_sub [1, 2, 3] rfl (hj228 _ _ _ h)
      replace h := ite_f h c13
      refine go_iload K dX12_saysOf_168 0 rfl ?_
      refine go_sipush (v := (405 : Int32)) K dX12_saysOf_170 (by decide) ?_
      refine go_icmp_ne (tgt := 197) K dX12_saysOf_173 (by decide) (fun c14 => ?_) (fun c14 => ?_)
      rotate_left
      · replace h := ite_t h c14
        refine go_aload_n K dX12_saysOf_176 1 rfl rfl ?_
        refine gf_X12 K 42 (by decide) kf_X12_93 (v := .ref (gB G + 472)) rfl dX12_saysOf_177 ?_
        refine go_iload_n K dX12_saysOf_180 2 rfl rfl ?_
        refine go_iconst (v := (1 : Int32)) K dX12_saysOf_181 (by decide) ?_
        refine go_isub K dX12_saysOf_182 ?_
        refine go_lconst (v := (1 : Int64)) K dX12_saysOf_183 (by decide) ?_
        refine go_aload_n K dX12_saysOf_184 1 rfl rfl ?_
        refine gf_X12 K 42 (by decide) kf_X12_93 (v := .ref (gB G + 472)) rfl dX12_saysOf_185 ?_
        refine go_iload_n K dX12_saysOf_188 2 rfl rfl ?_
        refine go_iconst (v := (1 : Int32)) K dX12_saysOf_189 (by decide) ?_
        refine go_isub K dX12_saysOf_190 ?_
        obtain ⟨g19, h⟩ := gd_e h
        refine go_mlald K (Nat.le_of_ble_eq_true rfl) sh_472 g19 rfl dX12_saysOf_191 ?_
        refine go_lsub K dX12_saysOf_192 ?_
        obtain ⟨g20, h⟩ := gd_e h
        refine go_mlast K (Nat.le_of_ble_eq_true rfl) sh_472 g20 rfl dX12_saysOf_193 ?_
        refine go_goto (tgt := 228) K dX12_saysOf_194 (by decide) ?_
        exact go_sub [1, 2, 3] rfl (hj228 _ _ _ h)
      replace h := ite_f h c14
      refine go_iinc K dX12_saysOf_197 2 rfl (v := (v2 + (-1 : Int32))) rfl (by decide) (lv' := [(2, .int (v2 + (-1 : Int32))), (4, .int (O.1 456 v3.toNatClampNeg)), (0, .ref (gB G + 446)), (3, .int v3)]) rfl ?_
      refine go_aload_n K dX12_saysOf_200 2 rfl rfl ?_
      refine gf_X12 K 42 (by decide) kf_X12_93 (v := .ref (gB G + 472)) rfl dX12_saysOf_201 ?_
      refine go_iload_n K dX12_saysOf_204 0 rfl rfl ?_
      refine go_iconst (v := (1 : Int32)) K dX12_saysOf_205 (by decide) ?_
      refine go_isub K dX12_saysOf_206 ?_
      refine go_aload_n K dX12_saysOf_207 2 rfl rfl ?_
      refine go_iload K dX12_saysOf_208 1 rfl ?_
      refine go_aload_n K dX12_saysOf_210 2 rfl rfl ?_
      refine gf_X12 K 42 (by decide) kf_X12_93 (v := .ref (gB G + 472)) rfl dX12_saysOf_211 ?_
      refine go_iload_n K dX12_saysOf_214 0 rfl rfl ?_
      refine go_iconst (v := (1 : Int32)) K dX12_saysOf_215 (by decide) ?_
      refine go_isub K dX12_saysOf_216 ?_
      obtain ⟨g15, h⟩ := gd_e h
      refine go_mlald K (Nat.le_of_ble_eq_true rfl) sh_472 g15 rfl dX12_saysOf_217 ?_
      refine go_aload_n K dX12_saysOf_218 2 rfl rfl ?_
      refine gf_X12 K 42 (by decide) kf_X12_93 (v := .ref (gB G + 472)) rfl dX12_saysOf_219 ?_
      refine go_iload_n K dX12_saysOf_222 0 rfl rfl ?_
      obtain ⟨g16, h⟩ := gd_e h
      refine go_mlald K (Nat.le_of_ble_eq_true rfl) sh_472 g16 rfl dX12_saysOf_223 ?_
      obtain ⟨r17, e17, h⟩ := bnd_e h
      refine go_cVJ K (c_X12_worked l G _ _ _ _ _ _ e17) cf_X12_worked cv_X12_worked km_X12_346 rv_X12 (by decide) rfl rfl (Nat.le_of_ble_eq_true rfl) dX12_saysOf_224 ?_
      obtain ⟨g18, h⟩ := gd_e h
      refine go_mlast K (Nat.le_of_ble_eq_true rfl) sh_472 g18 rfl dX12_saysOf_227 ?_
      exact go_sub [2, 0, 3] rfl (hj228 _ _ _ h)
  rw [f_X12_saysOf] at h
  refine go_iconst (v := (0 : Int32)) K dX12_saysOf_0 (by decide) ?_
  refine go_istore_n K dX12_saysOf_1 rfl (by decide) (lv' := [(2, .int (0 : Int32)), (0, .ref (gB G + 446)), (1, .int v1)]) rfl ?_
  refine go_iload_n K dX12_saysOf_2 2 rfl rfl ?_
  refine go_istore_n K dX12_saysOf_3 rfl (by decide) (lv' := [(3, .int v1), (2, .int (0 : Int32)), (0, .ref (gB G + 446)), (1, .int v1)]) rfl ?_
  exact go_sub [2, 1, 0] rfl (hl4 FU _ _ _ h)
noncomputable def X12_by_j23 (v1 : Int32) (O : OM) : Option (Int32 × OM) := (some ((1 : Int32), (oup O 447 2 v1)))
noncomputable def f_X12_by (v1 : Int32) (O : OM) : Option (Int32 × OM) := (if v1 = (-1 : Int32) then (X12_by_j23 v1 O) else (if (f_X12_in v1 (0 : Int32) ((O.1 447 1) - (1 : Int32))) = 0 then (some ((0 : Int32), O)) else (X12_by_j23 v1 O)))
theorem cf_X12_by : CF yX12_by cX12_by 2 (Option.some Jvm.ClassFile.FieldType.boolean) 1 := ⟨kc_X12_by, kj_X12, ⟨by decide +kernel, by decide +kernel, by decide +kernel⟩, by decide⟩
theorem cv_X12_by : CFv yX12_by := ⟨ki_X12_by, ks_X12_by⟩
set_option maxHeartbeats 4000000 in
set_option maxRecDepth 100000 in
theorem c_X12_by (l : Launch) (G : GT) (v1 : Int32) (C : CM) (O : OM) (res : Int32) (O' : OM) (h : f_X12_by v1 O = some (res, O')) : MI l G yX12_by cX12_by 2 (Option.some Jvm.ClassFile.FieldType.boolean) (2) [.ref (gB G + 446), .int v1] (C, O) res (C, O') := by
  unfold MI
  refine met_in RX12 (by decide +kernel) rfl [(0, .ref (gB G + 446)), (1, .int v1)] rfl (Nat.le_of_ble_eq_true rfl) ?_
  intro pM eM sM mM aM bM meM cM K hr
  have hj23 : ∀ (v1 : Int32) (O : OM), X12_by_j23 v1 O = some (res, O') → GO pM l eM (2) sM mM aM bM meM cM (MQ bM (va_Qi (fun (r' : Int32) (u : CM × OM) => r' = res ∧ u = (C, O')) (wB G) (Fr G)) aM sM 0 0 (Fr G)) G 2 (C, O) 23 [(0, .ref (gB G + 446)), (1, .int v1)] [] := by
    intro v1 O h
    rw [X12_by_j23] at h
    refine go_aload_n K dX12_by_23 0 rfl rfl ?_
    refine gf_X12 K 0 (by decide) kf_X12_7 (v := .ref (gB G + 447)) rfl dX12_by_24 ?_
    refine go_iconst (v := (2 : Int32)) K dX12_by_27 (by decide) ?_
    refine go_iload_n K dX12_by_28 1 rfl rfl ?_
    refine go_mast K (Nat.le_of_ble_eq_true rfl) sh_447 (in_k (k := 2) (by decide) (by decide)) rfl dX12_by_29 ?_
    refine go_iconst (v := (1 : Int32)) K dX12_by_30 (by decide) ?_
    exact go_zret K hr (by decide) (Prod.mk.inj (Option.some.inj h)).1 (congrArg (fun z => (C, z)) (Prod.mk.inj (Option.some.inj h)).2) dX12_by_31
  rw [f_X12_by] at h
  refine go_iload_n K dX12_by_0 1 rfl rfl ?_
  refine go_iconst (v := (-1 : Int32)) K dX12_by_1 (by decide) ?_
  refine go_icmp_eq (tgt := 23) K dX12_by_2 (by decide) (fun c1 => ?_) (fun c1 => ?_)
  · replace h := ite_t h c1
    exact hj23 _ _ h
  replace h := ite_f h c1
  refine go_iload_n K dX12_by_5 1 rfl rfl ?_
  refine go_iconst (v := (0 : Int32)) K dX12_by_6 (by decide) ?_
  refine go_aload_n K dX12_by_7 0 rfl rfl ?_
  refine gf_X12 K 0 (by decide) kf_X12_7 (v := .ref (gB G + 447)) rfl dX12_by_8 ?_
  refine go_iconst (v := (1 : Int32)) K dX12_by_11 (by decide) ?_
  refine go_mald K (Nat.le_of_ble_eq_true rfl) sh_447 (in_k (k := 1) (by decide) (by decide)) rfl dX12_by_12 ?_
  refine go_iconst (v := (1 : Int32)) K dX12_by_13 (by decide) ?_
  refine go_isub K dX12_by_14 ?_
  refine go_cSI K (c_X12_in l G _ _ _ _ _ _ rfl) cf_X12_in kt_X12_in km_X12_107 (by decide) rfl rfl (Nat.le_of_ble_eq_true rfl) dX12_by_15 ?_
  refine go_if_ne (tgt := 23) K dX12_by_18 (by decide) (fun c2 => ?_) (fun c2 => ?_)
  · replace h := ite_f h c2
    exact hj23 _ _ h
  replace h := ite_t h c2
  refine go_iconst (v := (0 : Int32)) K dX12_by_21 (by decide) ?_
  exact go_zret K hr (by decide) (Prod.mk.inj (Option.some.inj h)).1 (congrArg (fun z => (C, z)) (Prod.mk.inj (Option.some.inj h)).2) dX12_by_22
noncomputable def X12_ordersOf_j64 (rc : Int32 → Int32 → Int32 → OM → Option Int32) (v1 : Int32) (v3 : Int32) (t0 : Int32) (O : OM) : Option Int32 := (rc v1 t0 (v3 + (1 : Int32)) O)
noncomputable def X12_ordersOf_l4 : Nat → Int32 → Int32 → Int32 → OM → Option Int32
  | 0, _, _, _, _ => none
  | n + 1, v1, v2, v3, O => (if (O.1 447 2) = (-1 : Int32) then (some v2) else (gd (inb (O.1 447 2) 4) (if (O.1 450 (O.1 447 2).toNatClampNeg) ≤ v3 then (some v2) else (gd (inb (((24 : Int32) * (O.1 447 2)) + v3) 96) (if (O.1 451 (((24 : Int32) * (O.1 447 2)) + v3).toNatClampNeg) = v1 then (gd (inb (((24 : Int32) * (O.1 447 2)) + v3) 96) (X12_ordersOf_j64 (fun v1 v2 v3 O => X12_ordersOf_l4 n v1 v2 v3 O) v1 v3 (O.1 452 (((24 : Int32) * (O.1 447 2)) + v3).toNatClampNeg) O)) else (X12_ordersOf_j64 (fun v1 v2 v3 O => X12_ordersOf_l4 n v1 v2 v3 O) v1 v3 v2 O))))))
noncomputable def f_X12_ordersOf (v1 : Int32) (O : OM) : Option Int32 := (X12_ordersOf_l4 FU v1 (-1 : Int32) (0 : Int32) O)
theorem cf_X12_ordersOf : CF yX12_ordersOf cX12_ordersOf 5 (Option.some Jvm.ClassFile.FieldType.int) 1 := ⟨kc_X12_ordersOf, kj_X12, ⟨by decide +kernel, by decide +kernel, by decide +kernel⟩, by decide⟩
theorem cv_X12_ordersOf : CFv yX12_ordersOf := ⟨ki_X12_ordersOf, ks_X12_ordersOf⟩
set_option maxHeartbeats 4000000 in
set_option maxRecDepth 100000 in
theorem c_X12_ordersOf (l : Launch) (G : GT) (v1 : Int32) (C : CM) (O : OM) (res : Int32) (h : f_X12_ordersOf v1 O = some res) : MI l G yX12_ordersOf cX12_ordersOf 5 (Option.some Jvm.ClassFile.FieldType.int) (1) [.ref (gB G + 446), .int v1] (C, O) res (C, O) := by
  unfold MI
  refine met_in RX12 (by decide +kernel) rfl [(0, .ref (gB G + 446)), (1, .int v1)] rfl (Nat.le_of_ble_eq_true rfl) ?_
  intro pM eM sM mM aM bM meM cM K hr
  have hl4 : ∀ (n4 : Nat) (v1 : Int32) (v2 : Int32) (v3 : Int32), X12_ordersOf_l4 n4 v1 v2 v3 O = some res → GO pM l eM (1) sM mM aM bM meM cM (MQ bM (va_Qi (fun (r' : Int32) (u : CM × OM) => r' = res ∧ u = (C, O)) (wB G) (Fr G)) aM sM 0 0 (Fr G)) G 5 (C, O) 4 [(0, .ref (gB G + 446)), (1, .int v1), (2, .int v2), (3, .int v3)] [] := by
    intro n4
    induction n4 with
    | zero =>
      intro v1 v2 v3 h
      rw [X12_ordersOf_l4] at h
      cases h
    | succ n4 ih4 =>
      have hj64 : ∀ (v1 : Int32) (v3 : Int32) (t0 : Int32), X12_ordersOf_j64 (fun v1 v2 v3 O => X12_ordersOf_l4 n4 v1 v2 v3 O) v1 v3 t0 O = some res → GO pM l eM (1) sM mM aM bM meM cM (MQ bM (va_Qi (fun (r' : Int32) (u : CM × OM) => r' = res ∧ u = (C, O)) (wB G) (Fr G)) aM sM 0 0 (Fr G)) G 5 (C, O) 64 [(0, .ref (gB G + 446)), (1, .int v1), (3, .int v3)] [.int t0] := by
        intro v1 v3 t0 h
        rw [X12_ordersOf_j64] at h
        refine go_istore_n K dX12_ordersOf_64 rfl (by decide) (lv' := [(2, .int t0), (0, .ref (gB G + 446)), (1, .int v1), (3, .int v3)]) rfl ?_
        refine go_iinc K dX12_ordersOf_65 3 rfl (v := (v3 + (1 : Int32))) rfl (by decide) (lv' := [(3, .int (v3 + (1 : Int32))), (2, .int t0), (0, .ref (gB G + 446)), (1, .int v1)]) rfl ?_
        refine go_goto (tgt := 4) K dX12_ordersOf_68 (by decide) ?_
        exact go_sub [2, 3, 1, 0] rfl (ih4 _ _ _ h)
      intro v1 v2 v3 h
      rw [X12_ordersOf_l4] at h
      refine go_aload_n K dX12_ordersOf_4 0 rfl rfl ?_
      refine gf_X12 K 0 (by decide) kf_X12_7 (v := .ref (gB G + 447)) rfl dX12_ordersOf_5 ?_
      refine go_iconst (v := (2 : Int32)) K dX12_ordersOf_8 (by decide) ?_
      refine go_mald K (Nat.le_of_ble_eq_true rfl) sh_447 (in_k (k := 2) (by decide) (by decide)) rfl dX12_ordersOf_9 ?_
      refine go_iconst (v := (-1 : Int32)) K dX12_ordersOf_10 (by decide) ?_
      refine go_icmp_eq (tgt := 71) K dX12_ordersOf_11 (by decide) (fun c1 => ?_) (fun c1 => ?_)
      · replace h := ite_t h c1
        refine go_iload_n K dX12_ordersOf_71 2 rfl rfl ?_
        exact go_iret K hr (Option.some.inj h) rfl dX12_ordersOf_72
      replace h := ite_f h c1
      refine go_iload_n K dX12_ordersOf_14 3 rfl rfl ?_
      refine go_aload_n K dX12_ordersOf_15 0 rfl rfl ?_
      refine gf_X12 K 6 (by decide) kf_X12_27 (v := .ref (gB G + 450)) rfl dX12_ordersOf_16 ?_
      refine go_aload_n K dX12_ordersOf_19 0 rfl rfl ?_
      refine gf_X12 K 0 (by decide) kf_X12_7 (v := .ref (gB G + 447)) rfl dX12_ordersOf_20 ?_
      refine go_iconst (v := (2 : Int32)) K dX12_ordersOf_23 (by decide) ?_
      refine go_mald K (Nat.le_of_ble_eq_true rfl) sh_447 (in_k (k := 2) (by decide) (by decide)) rfl dX12_ordersOf_24 ?_
      obtain ⟨g2, h⟩ := gd_e h
      refine go_mald K (Nat.le_of_ble_eq_true rfl) sh_450 g2 rfl dX12_ordersOf_25 ?_
      refine go_icmp_ge (tgt := 71) K dX12_ordersOf_26 (by decide) (fun c3 => ?_) (fun c3 => ?_)
      · replace h := ite_t h c3
        refine go_iload_n K dX12_ordersOf_71 2 rfl rfl ?_
        exact go_iret K hr (Option.some.inj h) rfl dX12_ordersOf_72
      replace h := ite_f h c3
      refine go_bipush (v := (24 : Int32)) K dX12_ordersOf_29 (by decide) ?_
      refine go_aload_n K dX12_ordersOf_31 0 rfl rfl ?_
      refine gf_X12 K 0 (by decide) kf_X12_7 (v := .ref (gB G + 447)) rfl dX12_ordersOf_32 ?_
      refine go_iconst (v := (2 : Int32)) K dX12_ordersOf_35 (by decide) ?_
      refine go_mald K (Nat.le_of_ble_eq_true rfl) sh_447 (in_k (k := 2) (by decide) (by decide)) rfl dX12_ordersOf_36 ?_
      refine go_imul K dX12_ordersOf_37 ?_
      refine go_iload_n K dX12_ordersOf_38 3 rfl rfl ?_
      refine go_iadd K dX12_ordersOf_39 ?_
      refine go_istore K dX12_ordersOf_40 (by decide) (lv' := [(4, .int (((24 : Int32) * (O.1 447 2)) + v3)), (0, .ref (gB G + 446)), (1, .int v1), (2, .int v2), (3, .int v3)]) rfl ?_
      refine go_aload_n K dX12_ordersOf_42 1 rfl rfl ?_
      refine gf_X12 K 7 (by decide) kf_X12_30 (v := .ref (gB G + 451)) rfl dX12_ordersOf_43 ?_
      refine go_iload K dX12_ordersOf_46 0 rfl ?_
      obtain ⟨g4, h⟩ := gd_e h
      refine go_mald K (Nat.le_of_ble_eq_true rfl) sh_451 g4 rfl dX12_ordersOf_48 ?_
      refine go_iload_n K dX12_ordersOf_49 2 rfl rfl ?_
      refine go_icmp_ne (tgt := 63) K dX12_ordersOf_50 (by decide) (fun c5 => ?_) (fun c5 => ?_)
      · replace h := ite_f h c5
        refine go_iload_n K dX12_ordersOf_63 3 rfl rfl ?_
        exact go_sub [1, 2, 4] rfl (hj64 _ _ _ h)
      replace h := ite_t h c5
      refine go_aload_n K dX12_ordersOf_53 1 rfl rfl ?_
      refine gf_X12 K 8 (by decide) kf_X12_33 (v := .ref (gB G + 452)) rfl dX12_ordersOf_54 ?_
      refine go_iload K dX12_ordersOf_57 0 rfl ?_
      obtain ⟨g6, h⟩ := gd_e h
      refine go_mald K (Nat.le_of_ble_eq_true rfl) sh_452 g6 rfl dX12_ordersOf_59 ?_
      refine go_goto (tgt := 64) K dX12_ordersOf_60 (by decide) ?_
      exact go_sub [1, 2, 4] rfl (hj64 _ _ _ h)
  rw [f_X12_ordersOf] at h
  refine go_iconst (v := (-1 : Int32)) K dX12_ordersOf_0 (by decide) ?_
  refine go_istore_n K dX12_ordersOf_1 rfl (by decide) (lv' := [(2, .int (-1 : Int32)), (0, .ref (gB G + 446)), (1, .int v1)]) rfl ?_
  refine go_iconst (v := (0 : Int32)) K dX12_ordersOf_2 (by decide) ?_
  refine go_istore_n K dX12_ordersOf_3 rfl (by decide) (lv' := [(3, .int (0 : Int32)), (2, .int (-1 : Int32)), (0, .ref (gB G + 446)), (1, .int v1)]) rfl ?_
  exact go_sub [2, 3, 1, 0] rfl (hl4 FU _ _ _ h)
noncomputable def f_X12_names (v1 : Int32) (O : OM) : Option OM := (gd (inb ((10 : Int32) + v1) 5130) (gd (inb ((0 : Int32) + v1) 164) (some (oup (oup (oup (oup (oup O 471 0 (O.1 470 70)) 471 1 ((oup O 471 0 (O.1 470 70)).1 470 71)) 471 2 v1) 471 3 ((oup (oup (oup O 471 0 (O.1 470 70)) 471 1 ((oup O 471 0 (O.1 470 70)).1 470 71)) 471 2 v1).1 447 ((10 : Int32) + v1).toNatClampNeg)) 471 4 ((oup (oup (oup (oup O 471 0 (O.1 470 70)) 471 1 ((oup O 471 0 (O.1 470 70)).1 470 71)) 471 2 v1) 471 3 ((oup (oup (oup O 471 0 (O.1 470 70)) 471 1 ((oup O 471 0 (O.1 470 70)).1 470 71)) 471 2 v1).1 447 ((10 : Int32) + v1).toNatClampNeg)).1 470 ((0 : Int32) + v1).toNatClampNeg)))))
theorem cf_X12_names : CF yX12_names cX12_names 2 (Option.none : Option Jvm.ClassFile.FieldType) 1 := ⟨kc_X12_names, kj_X12, ⟨by decide +kernel, by decide +kernel, by decide +kernel⟩, by decide⟩
theorem cv_X12_names : CFv yX12_names := ⟨ki_X12_names, ks_X12_names⟩
set_option maxHeartbeats 4000000 in
set_option maxRecDepth 100000 in
theorem c_X12_names (l : Launch) (G : GT) (v1 : Int32) (C : CM) (O : OM) (O' : OM) (h : f_X12_names v1 O = some O') : MV l G yX12_names cX12_names 2 (Option.none : Option Jvm.ClassFile.FieldType) (1) [.ref (gB G + 446), .int v1] (C, O) (C, O') := by
  unfold MV
  refine met_in RX12 (by decide +kernel) rfl [(0, .ref (gB G + 446)), (1, .int v1)] rfl (Nat.le_of_ble_eq_true rfl) ?_
  intro pM eM sM mM aM bM meM cM K hr
  rw [f_X12_names] at h
  refine go_aload_n K dX12_names_0 0 rfl rfl ?_
  refine gf_X12 K 41 (by decide) kf_X12_90 (v := .ref (gB G + 471)) rfl dX12_names_1 ?_
  refine go_iconst (v := (0 : Int32)) K dX12_names_4 (by decide) ?_
  refine go_aload_n K dX12_names_5 0 rfl rfl ?_
  refine gf_X12 K 40 (by decide) kf_X12_87 (v := .ref (gB G + 470)) rfl dX12_names_6 ?_
  refine go_bipush (v := (70 : Int32)) K dX12_names_9 (by decide) ?_
  refine go_mald K (Nat.le_of_ble_eq_true rfl) sh_470 (in_k (k := 70) (by decide) (by decide)) rfl dX12_names_11 ?_
  refine go_mast K (Nat.le_of_ble_eq_true rfl) sh_471 (in_k (k := 0) (by decide) (by decide)) rfl dX12_names_12 ?_
  refine go_aload_n K dX12_names_13 0 rfl rfl ?_
  refine gf_X12 K 41 (by decide) kf_X12_90 (v := .ref (gB G + 471)) rfl dX12_names_14 ?_
  refine go_iconst (v := (1 : Int32)) K dX12_names_17 (by decide) ?_
  refine go_aload_n K dX12_names_18 0 rfl rfl ?_
  refine gf_X12 K 40 (by decide) kf_X12_87 (v := .ref (gB G + 470)) rfl dX12_names_19 ?_
  refine go_bipush (v := (71 : Int32)) K dX12_names_22 (by decide) ?_
  refine go_mald K (Nat.le_of_ble_eq_true rfl) sh_470 (in_k (k := 71) (by decide) (by decide)) rfl dX12_names_24 ?_
  refine go_mast K (Nat.le_of_ble_eq_true rfl) sh_471 (in_k (k := 1) (by decide) (by decide)) rfl dX12_names_25 ?_
  refine go_aload_n K dX12_names_26 0 rfl rfl ?_
  refine gf_X12 K 41 (by decide) kf_X12_90 (v := .ref (gB G + 471)) rfl dX12_names_27 ?_
  refine go_iconst (v := (2 : Int32)) K dX12_names_30 (by decide) ?_
  refine go_iload_n K dX12_names_31 1 rfl rfl ?_
  refine go_mast K (Nat.le_of_ble_eq_true rfl) sh_471 (in_k (k := 2) (by decide) (by decide)) rfl dX12_names_32 ?_
  refine go_aload_n K dX12_names_33 0 rfl rfl ?_
  refine gf_X12 K 41 (by decide) kf_X12_90 (v := .ref (gB G + 471)) rfl dX12_names_34 ?_
  refine go_iconst (v := (3 : Int32)) K dX12_names_37 (by decide) ?_
  refine go_aload_n K dX12_names_38 0 rfl rfl ?_
  refine gf_X12 K 0 (by decide) kf_X12_7 (v := .ref (gB G + 447)) rfl dX12_names_39 ?_
  refine go_bipush (v := (10 : Int32)) K dX12_names_42 (by decide) ?_
  refine go_iload_n K dX12_names_44 1 rfl rfl ?_
  refine go_iadd K dX12_names_45 ?_
  obtain ⟨g1, h⟩ := gd_e h
  refine go_mald K (Nat.le_of_ble_eq_true rfl) sh_447 g1 rfl dX12_names_46 ?_
  refine go_mast K (Nat.le_of_ble_eq_true rfl) sh_471 (in_k (k := 3) (by decide) (by decide)) rfl dX12_names_47 ?_
  refine go_aload_n K dX12_names_48 0 rfl rfl ?_
  refine gf_X12 K 41 (by decide) kf_X12_90 (v := .ref (gB G + 471)) rfl dX12_names_49 ?_
  refine go_iconst (v := (4 : Int32)) K dX12_names_52 (by decide) ?_
  refine go_aload_n K dX12_names_53 0 rfl rfl ?_
  refine gf_X12 K 40 (by decide) kf_X12_87 (v := .ref (gB G + 470)) rfl dX12_names_54 ?_
  refine go_iconst (v := (0 : Int32)) K dX12_names_57 (by decide) ?_
  refine go_iload_n K dX12_names_58 1 rfl rfl ?_
  refine go_iadd K dX12_names_59 ?_
  obtain ⟨g2, h⟩ := gd_e h
  refine go_mald K (Nat.le_of_ble_eq_true rfl) sh_470 g2 rfl dX12_names_60 ?_
  refine go_mast K (Nat.le_of_ble_eq_true rfl) sh_471 (in_k (k := 4) (by decide) (by decide)) rfl dX12_names_61 ?_
  exact go_vret K hr (congrArg (fun z => (C, z)) (Option.some.inj h)) dX12_names_62
noncomputable def f_X12_namesOf (v1 : Int32) (v2 : Int32) (O : OM) : Option OM := (bnd (f_X12_names v1 O) (fun O1 => (gd (inb ((10 : Int32) + v2) 5130) (gd (inb (f_X12_debtAt v1 v2) 164) (gd (inb (f_X12_debtAt v2 v1) 164) (some (oup (oup (oup (oup O1 471 5 v2) 471 6 ((oup O1 471 5 v2).1 447 ((10 : Int32) + v2).toNatClampNeg)) 471 7 ((oup (oup O1 471 5 v2) 471 6 ((oup O1 471 5 v2).1 447 ((10 : Int32) + v2).toNatClampNeg)).1 470 (f_X12_debtAt v1 v2).toNatClampNeg)) 471 8 ((oup (oup (oup O1 471 5 v2) 471 6 ((oup O1 471 5 v2).1 447 ((10 : Int32) + v2).toNatClampNeg)) 471 7 ((oup (oup O1 471 5 v2) 471 6 ((oup O1 471 5 v2).1 447 ((10 : Int32) + v2).toNatClampNeg)).1 470 (f_X12_debtAt v1 v2).toNatClampNeg)).1 470 (f_X12_debtAt v2 v1).toNatClampNeg))))))))
theorem cf_X12_namesOf : CF yX12_namesOf cX12_namesOf 3 (Option.none : Option Jvm.ClassFile.FieldType) 2 := ⟨kc_X12_namesOf, kj_X12, ⟨by decide +kernel, by decide +kernel, by decide +kernel⟩, by decide⟩
theorem cv_X12_namesOf : CFv yX12_namesOf := ⟨ki_X12_namesOf, ks_X12_namesOf⟩
set_option maxHeartbeats 4000000 in
set_option maxRecDepth 100000 in
theorem c_X12_namesOf (l : Launch) (G : GT) (v1 : Int32) (v2 : Int32) (C : CM) (O : OM) (O' : OM) (h : f_X12_namesOf v1 v2 O = some O') : MV l G yX12_namesOf cX12_namesOf 3 (Option.none : Option Jvm.ClassFile.FieldType) (2) [.ref (gB G + 446), .int v1, .int v2] (C, O) (C, O') := by
  unfold MV
  refine met_in RX12 (by decide +kernel) rfl [(0, .ref (gB G + 446)), (1, .int v1), (2, .int v2)] rfl (Nat.le_of_ble_eq_true rfl) ?_
  intro pM eM sM mM aM bM meM cM K hr
  rw [f_X12_namesOf] at h
  refine go_aload_n K dX12_namesOf_0 0 rfl rfl ?_
  refine go_iload_n K dX12_namesOf_1 1 rfl rfl ?_
  obtain ⟨O1, e1, h⟩ := bnd_e h
  refine go_cVV K (c_X12_names l G _ _ _ _ e1) cf_X12_names cv_X12_names km_X12_350 rv_X12 (by decide) rfl rfl (Nat.le_of_ble_eq_true rfl) dX12_namesOf_2 ?_
  refine go_aload_n K dX12_namesOf_5 0 rfl rfl ?_
  refine gf_X12 K 41 (by decide) kf_X12_90 (v := .ref (gB G + 471)) rfl dX12_namesOf_6 ?_
  refine go_iconst (v := (5 : Int32)) K dX12_namesOf_9 (by decide) ?_
  refine go_iload_n K dX12_namesOf_10 2 rfl rfl ?_
  refine go_mast K (Nat.le_of_ble_eq_true rfl) sh_471 (in_k (k := 5) (by decide) (by decide)) rfl dX12_namesOf_11 ?_
  refine go_aload_n K dX12_namesOf_12 0 rfl rfl ?_
  refine gf_X12 K 41 (by decide) kf_X12_90 (v := .ref (gB G + 471)) rfl dX12_namesOf_13 ?_
  refine go_bipush (v := (6 : Int32)) K dX12_namesOf_16 (by decide) ?_
  refine go_aload_n K dX12_namesOf_18 0 rfl rfl ?_
  refine gf_X12 K 0 (by decide) kf_X12_7 (v := .ref (gB G + 447)) rfl dX12_namesOf_19 ?_
  refine go_bipush (v := (10 : Int32)) K dX12_namesOf_22 (by decide) ?_
  refine go_iload_n K dX12_namesOf_24 2 rfl rfl ?_
  refine go_iadd K dX12_namesOf_25 ?_
  obtain ⟨g2, h⟩ := gd_e h
  refine go_mald K (Nat.le_of_ble_eq_true rfl) sh_447 g2 rfl dX12_namesOf_26 ?_
  refine go_mast K (Nat.le_of_ble_eq_true rfl) sh_471 (in_k (k := 6) (by decide) (by decide)) rfl dX12_namesOf_27 ?_
  refine go_aload_n K dX12_namesOf_28 0 rfl rfl ?_
  refine gf_X12 K 41 (by decide) kf_X12_90 (v := .ref (gB G + 471)) rfl dX12_namesOf_29 ?_
  refine go_bipush (v := (7 : Int32)) K dX12_namesOf_32 (by decide) ?_
  refine go_aload_n K dX12_namesOf_34 0 rfl rfl ?_
  refine gf_X12 K 40 (by decide) kf_X12_87 (v := .ref (gB G + 470)) rfl dX12_namesOf_35 ?_
  refine go_iload_n K dX12_namesOf_38 1 rfl rfl ?_
  refine go_iload_n K dX12_namesOf_39 2 rfl rfl ?_
  refine go_cSI K (c_X12_debtAt l G _ _ _ _ _ rfl) cf_X12_debtAt kt_X12_debtAt km_X12_335 (by decide) rfl rfl (Nat.le_of_ble_eq_true rfl) dX12_namesOf_40 ?_
  obtain ⟨g3, h⟩ := gd_e h
  refine go_mald K (Nat.le_of_ble_eq_true rfl) sh_470 g3 rfl dX12_namesOf_43 ?_
  refine go_mast K (Nat.le_of_ble_eq_true rfl) sh_471 (in_k (k := 7) (by decide) (by decide)) rfl dX12_namesOf_44 ?_
  refine go_aload_n K dX12_namesOf_45 0 rfl rfl ?_
  refine gf_X12 K 41 (by decide) kf_X12_90 (v := .ref (gB G + 471)) rfl dX12_namesOf_46 ?_
  refine go_bipush (v := (8 : Int32)) K dX12_namesOf_49 (by decide) ?_
  refine go_aload_n K dX12_namesOf_51 0 rfl rfl ?_
  refine gf_X12 K 40 (by decide) kf_X12_87 (v := .ref (gB G + 470)) rfl dX12_namesOf_52 ?_
  refine go_iload_n K dX12_namesOf_55 2 rfl rfl ?_
  refine go_iload_n K dX12_namesOf_56 1 rfl rfl ?_
  refine go_cSI K (c_X12_debtAt l G _ _ _ _ _ rfl) cf_X12_debtAt kt_X12_debtAt km_X12_335 (by decide) rfl rfl (Nat.le_of_ble_eq_true rfl) dX12_namesOf_57 ?_
  obtain ⟨g4, h⟩ := gd_e h
  refine go_mald K (Nat.le_of_ble_eq_true rfl) sh_470 g4 rfl dX12_namesOf_60 ?_
  refine go_mast K (Nat.le_of_ble_eq_true rfl) sh_471 (in_k (k := 8) (by decide) (by decide)) rfl dX12_namesOf_61 ?_
  exact go_vret K hr (congrArg (fun z => (C, z)) (Option.some.inj h)) dX12_namesOf_62
noncomputable def X12_sizeOf_j36 (t0 : Int64) (O : OM) : Option (Int32 × OM) := (some ((f_X12_held t0 (1 : Int32) (99 : Int32)), O))
noncomputable def f_X12_sizeOf (v1 : Int32) (v2 : Int32) (O : OM) : Option (Int32 × OM) := (bnd (f_X12_ordersOf (0 : Int32) O) (fun r1 => (bnd (f_X12_namesOf v1 v2 O) (fun O2 => (if r1 = (-1 : Int32) then (gd (inb (f_X12_debtAt v1 v2) 164) (X12_sizeOf_j36 ((O2.1 470 (f_X12_debtAt v1 v2).toNatClampNeg).toInt64) O2)) else (bnd2 (f_X12_saysOf r1 O2) (fun r4 O4 => (X12_sizeOf_j36 r4 O4))))))))
theorem cf_X12_sizeOf : CF yX12_sizeOf cX12_sizeOf 4 (Option.some Jvm.ClassFile.FieldType.int) 2 := ⟨kc_X12_sizeOf, kj_X12, ⟨by decide +kernel, by decide +kernel, by decide +kernel⟩, by decide⟩
theorem cv_X12_sizeOf : CFv yX12_sizeOf := ⟨ki_X12_sizeOf, ks_X12_sizeOf⟩
set_option maxHeartbeats 4000000 in
set_option maxRecDepth 100000 in
theorem c_X12_sizeOf (l : Launch) (G : GT) (v1 : Int32) (v2 : Int32) (C : CM) (O : OM) (res : Int32) (O' : OM) (h : f_X12_sizeOf v1 v2 O = some (res, O')) : MI l G yX12_sizeOf cX12_sizeOf 4 (Option.some Jvm.ClassFile.FieldType.int) (5) [.ref (gB G + 446), .int v1, .int v2] (C, O) res (C, O') := by
  unfold MI
  refine met_in RX12 (by decide +kernel) rfl [(0, .ref (gB G + 446)), (1, .int v1), (2, .int v2)] rfl (Nat.le_of_ble_eq_true rfl) ?_
  intro pM eM sM mM aM bM meM cM K hr
  have hj36 : ∀ (t0 : Int64) (O : OM), X12_sizeOf_j36 t0 O = some (res, O') → GO pM l eM (5) sM mM aM bM meM cM (MQ bM (va_Qi (fun (r' : Int32) (u : CM × OM) => r' = res ∧ u = (C, O')) (wB G) (Fr G)) aM sM 0 0 (Fr G)) G 4 (C, O) 36 [] [.long t0] := by
    intro t0 O h
    rw [X12_sizeOf_j36] at h
    refine go_iconst (v := (1 : Int32)) K dX12_sizeOf_36 (by decide) ?_
    refine go_bipush (v := (99 : Int32)) K dX12_sizeOf_37 (by decide) ?_
    refine go_cSI K (c_X12_held l G _ _ _ _ _ _ rfl) cf_X12_held kt_X12_held km_X12_363 (by decide) rfl rfl (Nat.le_of_ble_eq_true rfl) dX12_sizeOf_39 ?_
    exact go_iret K hr (Prod.mk.inj (Option.some.inj h)).1 (congrArg (fun z => (C, z)) (Prod.mk.inj (Option.some.inj h)).2) dX12_sizeOf_42
  rw [f_X12_sizeOf] at h
  refine go_aload_n K dX12_sizeOf_0 0 rfl rfl ?_
  refine go_iconst (v := (0 : Int32)) K dX12_sizeOf_1 (by decide) ?_
  obtain ⟨r1, e1, h⟩ := bnd_e h
  refine go_cVI K (c_X12_ordersOf l G _ _ _ _ e1) cf_X12_ordersOf cv_X12_ordersOf km_X12_353 rv_X12 (by decide) rfl rfl (Nat.le_of_ble_eq_true rfl) dX12_sizeOf_2 ?_
  refine go_istore_n K dX12_sizeOf_5 rfl (by decide) (lv' := [(3, .int r1), (0, .ref (gB G + 446)), (1, .int v1), (2, .int v2)]) rfl ?_
  refine go_aload_n K dX12_sizeOf_6 1 rfl rfl ?_
  refine go_iload_n K dX12_sizeOf_7 2 rfl rfl ?_
  refine go_iload_n K dX12_sizeOf_8 3 rfl rfl ?_
  obtain ⟨O2, e2, h⟩ := bnd_e h
  refine go_cVV K (c_X12_namesOf l G _ _ _ _ _ e2) cf_X12_namesOf cv_X12_namesOf km_X12_356 rv_X12 (by decide) rfl rfl (Nat.le_of_ble_eq_true rfl) dX12_sizeOf_9 ?_
  refine go_iload_n K dX12_sizeOf_12 0 rfl rfl ?_
  refine go_iconst (v := (-1 : Int32)) K dX12_sizeOf_13 (by decide) ?_
  refine go_icmp_ne (tgt := 31) K dX12_sizeOf_14 (by decide) (fun c3 => ?_) (fun c3 => ?_)
  · replace h := ite_f h c3
    refine go_aload_n K dX12_sizeOf_31 1 rfl rfl ?_
    refine go_iload_n K dX12_sizeOf_32 0 rfl rfl ?_
    obtain ⟨r4, O4, e4, h⟩ := bnd2_e h
    refine go_cVJ K (c_X12_saysOf l G _ _ _ _ _ e4) cf_X12_saysOf cv_X12_saysOf km_X12_359 rv_X12 (by decide) rfl rfl (Nat.le_of_ble_eq_true rfl) dX12_sizeOf_33 ?_
    exact go_sub [] rfl (hj36 _ _ h)
  replace h := ite_t h c3
  refine go_aload_n K dX12_sizeOf_17 1 rfl rfl ?_
  refine gf_X12 K 40 (by decide) kf_X12_87 (v := .ref (gB G + 470)) rfl dX12_sizeOf_18 ?_
  refine go_iload_n K dX12_sizeOf_21 2 rfl rfl ?_
  refine go_iload_n K dX12_sizeOf_22 3 rfl rfl ?_
  refine go_cSI K (c_X12_debtAt l G _ _ _ _ _ rfl) cf_X12_debtAt kt_X12_debtAt km_X12_335 (by decide) rfl rfl (Nat.le_of_ble_eq_true rfl) dX12_sizeOf_23 ?_
  obtain ⟨g5, h⟩ := gd_e h
  refine go_mald K (Nat.le_of_ble_eq_true rfl) sh_470 g5 rfl dX12_sizeOf_26 ?_
  refine go_i2l K dX12_sizeOf_27 ?_
  refine go_goto (tgt := 36) K dX12_sizeOf_28 (by decide) ?_
  exact go_sub [] rfl (hj36 _ _ h)
noncomputable def X12_moreOf_j45 (t0 : Int64) (O : OM) : Option (Int32 × OM) := (some ((f_X12_held t0 (0 : Int32) (9999 : Int32)), O))
noncomputable def f_X12_moreOf (v1 : Int32) (v2 : Int32) (v3 : Int32) (O : OM) : Option (Int32 × OM) := (bnd (f_X12_ordersOf (1 : Int32) O) (fun r1 => (bnd (f_X12_namesOf v1 v2 O) (fun O2 => (if r1 = (-1 : Int32) then (X12_moreOf_j45 (((v3 + (v3 / (10 : Int32))) + (1 : Int32)).toInt64) (oup O2 471 9 v3)) else (bnd2 (f_X12_saysOf r1 (oup O2 471 9 v3)) (fun r4 O4 => (X12_moreOf_j45 r4 O4))))))))
theorem cf_X12_moreOf : CF yX12_moreOf cX12_moreOf 5 (Option.some Jvm.ClassFile.FieldType.int) 3 := ⟨kc_X12_moreOf, kj_X12, ⟨by decide +kernel, by decide +kernel, by decide +kernel⟩, by decide⟩
theorem cv_X12_moreOf : CFv yX12_moreOf := ⟨ki_X12_moreOf, ks_X12_moreOf⟩
set_option maxHeartbeats 4000000 in
set_option maxRecDepth 100000 in
theorem c_X12_moreOf (l : Launch) (G : GT) (v1 : Int32) (v2 : Int32) (v3 : Int32) (C : CM) (O : OM) (res : Int32) (O' : OM) (h : f_X12_moreOf v1 v2 v3 O = some (res, O')) : MI l G yX12_moreOf cX12_moreOf 5 (Option.some Jvm.ClassFile.FieldType.int) (5) [.ref (gB G + 446), .int v1, .int v2, .int v3] (C, O) res (C, O') := by
  unfold MI
  refine met_in RX12 (by decide +kernel) rfl [(0, .ref (gB G + 446)), (1, .int v1), (2, .int v2), (3, .int v3)] rfl (Nat.le_of_ble_eq_true rfl) ?_
  intro pM eM sM mM aM bM meM cM K hr
  have hj45 : ∀ (t0 : Int64) (O : OM), X12_moreOf_j45 t0 O = some (res, O') → GO pM l eM (5) sM mM aM bM meM cM (MQ bM (va_Qi (fun (r' : Int32) (u : CM × OM) => r' = res ∧ u = (C, O')) (wB G) (Fr G)) aM sM 0 0 (Fr G)) G 5 (C, O) 45 [] [.long t0] := by
    intro t0 O h
    rw [X12_moreOf_j45] at h
    refine go_iconst (v := (0 : Int32)) K dX12_moreOf_45 (by decide) ?_
    refine go_sipush (v := (9999 : Int32)) K dX12_moreOf_46 (by decide) ?_
    refine go_cSI K (c_X12_held l G _ _ _ _ _ _ rfl) cf_X12_held kt_X12_held km_X12_363 (by decide) rfl rfl (Nat.le_of_ble_eq_true rfl) dX12_moreOf_49 ?_
    exact go_iret K hr (Prod.mk.inj (Option.some.inj h)).1 (congrArg (fun z => (C, z)) (Prod.mk.inj (Option.some.inj h)).2) dX12_moreOf_52
  rw [f_X12_moreOf] at h
  refine go_aload_n K dX12_moreOf_0 0 rfl rfl ?_
  refine go_iconst (v := (1 : Int32)) K dX12_moreOf_1 (by decide) ?_
  obtain ⟨r1, e1, h⟩ := bnd_e h
  refine go_cVI K (c_X12_ordersOf l G _ _ _ _ e1) cf_X12_ordersOf cv_X12_ordersOf km_X12_353 rv_X12 (by decide) rfl rfl (Nat.le_of_ble_eq_true rfl) dX12_moreOf_2 ?_
  refine go_istore K dX12_moreOf_5 (by decide) (lv' := [(4, .int r1), (0, .ref (gB G + 446)), (1, .int v1), (2, .int v2), (3, .int v3)]) rfl ?_
  refine go_aload_n K dX12_moreOf_7 1 rfl rfl ?_
  refine go_iload_n K dX12_moreOf_8 2 rfl rfl ?_
  refine go_iload_n K dX12_moreOf_9 3 rfl rfl ?_
  obtain ⟨O2, e2, h⟩ := bnd_e h
  refine go_cVV K (c_X12_namesOf l G _ _ _ _ _ e2) cf_X12_namesOf cv_X12_namesOf km_X12_356 rv_X12 (by decide) rfl rfl (Nat.le_of_ble_eq_true rfl) dX12_moreOf_10 ?_
  refine go_aload_n K dX12_moreOf_13 1 rfl rfl ?_
  refine gf_X12 K 41 (by decide) kf_X12_90 (v := .ref (gB G + 471)) rfl dX12_moreOf_14 ?_
  refine go_bipush (v := (9 : Int32)) K dX12_moreOf_17 (by decide) ?_
  refine go_iload_n K dX12_moreOf_19 4 rfl rfl ?_
  refine go_mast K (Nat.le_of_ble_eq_true rfl) sh_471 (in_k (k := 9) (by decide) (by decide)) rfl dX12_moreOf_20 ?_
  refine go_iload K dX12_moreOf_21 0 rfl ?_
  refine go_iconst (v := (-1 : Int32)) K dX12_moreOf_23 (by decide) ?_
  refine go_icmp_ne (tgt := 39) K dX12_moreOf_24 (by decide) (fun c3 => ?_) (fun c3 => ?_)
  · replace h := ite_f h c3
    refine go_aload_n K dX12_moreOf_39 1 rfl rfl ?_
    refine go_iload K dX12_moreOf_40 0 rfl ?_
    obtain ⟨r4, O4, e4, h⟩ := bnd2_e h
    refine go_cVJ K (c_X12_saysOf l G _ _ _ _ _ e4) cf_X12_saysOf cv_X12_saysOf km_X12_359 rv_X12 (by decide) rfl rfl (Nat.le_of_ble_eq_true rfl) dX12_moreOf_42 ?_
    exact go_sub [] rfl (hj45 _ _ h)
  replace h := ite_t h c3
  refine go_iload_n K dX12_moreOf_27 4 rfl rfl ?_
  refine go_iload_n K dX12_moreOf_28 4 rfl rfl ?_
  refine go_bipush (v := (10 : Int32)) K dX12_moreOf_29 (by decide) ?_
  refine go_idiv K dX12_moreOf_31 (by decide) ?_
  refine go_iadd K dX12_moreOf_32 ?_
  refine go_iconst (v := (1 : Int32)) K dX12_moreOf_33 (by decide) ?_
  refine go_iadd K dX12_moreOf_34 ?_
  refine go_i2l K dX12_moreOf_35 ?_
  refine go_goto (tgt := 45) K dX12_moreOf_36 (by decide) ?_
  exact go_sub [] rfl (hj45 _ _ h)
noncomputable def X12_lateOf_j38 (t0 : Int64) (O : OM) : Option (Int32 × OM) := (some ((f_X12_held t0 (0 : Int32) (9999 : Int32)), O))
noncomputable def f_X12_lateOf (v1 : Int32) (v2 : Int32) (O : OM) : Option (Int32 × OM) := (bnd (f_X12_ordersOf (2 : Int32) O) (fun r1 => (bnd (f_X12_namesOf v1 v2 O) (fun O2 => (if r1 = (-1 : Int32) then (gd (inb (f_X12_debtAt v1 v2) 164) (X12_lateOf_j38 (((2 : Int32) * (O2.1 470 (f_X12_debtAt v1 v2).toNatClampNeg)).toInt64) O2)) else (bnd2 (f_X12_saysOf r1 O2) (fun r4 O4 => (X12_lateOf_j38 r4 O4))))))))
theorem cf_X12_lateOf : CF yX12_lateOf cX12_lateOf 4 (Option.some Jvm.ClassFile.FieldType.int) 2 := ⟨kc_X12_lateOf, kj_X12, ⟨by decide +kernel, by decide +kernel, by decide +kernel⟩, by decide⟩
theorem cv_X12_lateOf : CFv yX12_lateOf := ⟨ki_X12_lateOf, ks_X12_lateOf⟩
set_option maxHeartbeats 4000000 in
set_option maxRecDepth 100000 in
theorem c_X12_lateOf (l : Launch) (G : GT) (v1 : Int32) (v2 : Int32) (C : CM) (O : OM) (res : Int32) (O' : OM) (h : f_X12_lateOf v1 v2 O = some (res, O')) : MI l G yX12_lateOf cX12_lateOf 4 (Option.some Jvm.ClassFile.FieldType.int) (5) [.ref (gB G + 446), .int v1, .int v2] (C, O) res (C, O') := by
  unfold MI
  refine met_in RX12 (by decide +kernel) rfl [(0, .ref (gB G + 446)), (1, .int v1), (2, .int v2)] rfl (Nat.le_of_ble_eq_true rfl) ?_
  intro pM eM sM mM aM bM meM cM K hr
  have hj38 : ∀ (t0 : Int64) (O : OM), X12_lateOf_j38 t0 O = some (res, O') → GO pM l eM (5) sM mM aM bM meM cM (MQ bM (va_Qi (fun (r' : Int32) (u : CM × OM) => r' = res ∧ u = (C, O')) (wB G) (Fr G)) aM sM 0 0 (Fr G)) G 4 (C, O) 38 [] [.long t0] := by
    intro t0 O h
    rw [X12_lateOf_j38] at h
    refine go_iconst (v := (0 : Int32)) K dX12_lateOf_38 (by decide) ?_
    refine go_sipush (v := (9999 : Int32)) K dX12_lateOf_39 (by decide) ?_
    refine go_cSI K (c_X12_held l G _ _ _ _ _ _ rfl) cf_X12_held kt_X12_held km_X12_363 (by decide) rfl rfl (Nat.le_of_ble_eq_true rfl) dX12_lateOf_42 ?_
    exact go_iret K hr (Prod.mk.inj (Option.some.inj h)).1 (congrArg (fun z => (C, z)) (Prod.mk.inj (Option.some.inj h)).2) dX12_lateOf_45
  rw [f_X12_lateOf] at h
  refine go_aload_n K dX12_lateOf_0 0 rfl rfl ?_
  refine go_iconst (v := (2 : Int32)) K dX12_lateOf_1 (by decide) ?_
  obtain ⟨r1, e1, h⟩ := bnd_e h
  refine go_cVI K (c_X12_ordersOf l G _ _ _ _ e1) cf_X12_ordersOf cv_X12_ordersOf km_X12_353 rv_X12 (by decide) rfl rfl (Nat.le_of_ble_eq_true rfl) dX12_lateOf_2 ?_
  refine go_istore_n K dX12_lateOf_5 rfl (by decide) (lv' := [(3, .int r1), (0, .ref (gB G + 446)), (1, .int v1), (2, .int v2)]) rfl ?_
  refine go_aload_n K dX12_lateOf_6 1 rfl rfl ?_
  refine go_iload_n K dX12_lateOf_7 2 rfl rfl ?_
  refine go_iload_n K dX12_lateOf_8 3 rfl rfl ?_
  obtain ⟨O2, e2, h⟩ := bnd_e h
  refine go_cVV K (c_X12_namesOf l G _ _ _ _ _ e2) cf_X12_namesOf cv_X12_namesOf km_X12_356 rv_X12 (by decide) rfl rfl (Nat.le_of_ble_eq_true rfl) dX12_lateOf_9 ?_
  refine go_iload_n K dX12_lateOf_12 0 rfl rfl ?_
  refine go_iconst (v := (-1 : Int32)) K dX12_lateOf_13 (by decide) ?_
  refine go_icmp_ne (tgt := 33) K dX12_lateOf_14 (by decide) (fun c3 => ?_) (fun c3 => ?_)
  · replace h := ite_f h c3
    refine go_aload_n K dX12_lateOf_33 1 rfl rfl ?_
    refine go_iload_n K dX12_lateOf_34 0 rfl rfl ?_
    obtain ⟨r4, O4, e4, h⟩ := bnd2_e h
    refine go_cVJ K (c_X12_saysOf l G _ _ _ _ _ e4) cf_X12_saysOf cv_X12_saysOf km_X12_359 rv_X12 (by decide) rfl rfl (Nat.le_of_ble_eq_true rfl) dX12_lateOf_35 ?_
    exact go_sub [] rfl (hj38 _ _ h)
  replace h := ite_t h c3
  refine go_iconst (v := (2 : Int32)) K dX12_lateOf_17 (by decide) ?_
  refine go_aload_n K dX12_lateOf_18 1 rfl rfl ?_
  refine gf_X12 K 40 (by decide) kf_X12_87 (v := .ref (gB G + 470)) rfl dX12_lateOf_19 ?_
  refine go_iload_n K dX12_lateOf_22 2 rfl rfl ?_
  refine go_iload_n K dX12_lateOf_23 3 rfl rfl ?_
  refine go_cSI K (c_X12_debtAt l G _ _ _ _ _ rfl) cf_X12_debtAt kt_X12_debtAt km_X12_335 (by decide) rfl rfl (Nat.le_of_ble_eq_true rfl) dX12_lateOf_24 ?_
  obtain ⟨g5, h⟩ := gd_e h
  refine go_mald K (Nat.le_of_ble_eq_true rfl) sh_470 g5 rfl dX12_lateOf_27 ?_
  refine go_imul K dX12_lateOf_28 ?_
  refine go_i2l K dX12_lateOf_29 ?_
  refine go_goto (tgt := 38) K dX12_lateOf_30 (by decide) ?_
  exact go_sub [] rfl (hj38 _ _ h)
noncomputable def X12_ruinOf_j27 (t0 : Int64) (O : OM) : Option (Int32 × OM) := (some ((f_X12_held t0 (0 : Int32) (9999 : Int32)), O))
noncomputable def f_X12_ruinOf (v1 : Int32) (O : OM) : Option (Int32 × OM) := (bnd (f_X12_ordersOf (3 : Int32) O) (fun r1 => (bnd (f_X12_names v1 O) (fun O2 => (if r1 = (-1 : Int32) then (X12_ruinOf_j27 (300 : Int64) O2) else (bnd2 (f_X12_saysOf r1 O2) (fun r4 O4 => (X12_ruinOf_j27 r4 O4))))))))
theorem cf_X12_ruinOf : CF yX12_ruinOf cX12_ruinOf 3 (Option.some Jvm.ClassFile.FieldType.int) 1 := ⟨kc_X12_ruinOf, kj_X12, ⟨by decide +kernel, by decide +kernel, by decide +kernel⟩, by decide⟩
theorem cv_X12_ruinOf : CFv yX12_ruinOf := ⟨ki_X12_ruinOf, ks_X12_ruinOf⟩
set_option maxHeartbeats 4000000 in
set_option maxRecDepth 100000 in
theorem c_X12_ruinOf (l : Launch) (G : GT) (v1 : Int32) (C : CM) (O : OM) (res : Int32) (O' : OM) (h : f_X12_ruinOf v1 O = some (res, O')) : MI l G yX12_ruinOf cX12_ruinOf 3 (Option.some Jvm.ClassFile.FieldType.int) (5) [.ref (gB G + 446), .int v1] (C, O) res (C, O') := by
  unfold MI
  refine met_in RX12 (by decide +kernel) rfl [(0, .ref (gB G + 446)), (1, .int v1)] rfl (Nat.le_of_ble_eq_true rfl) ?_
  intro pM eM sM mM aM bM meM cM K hr
  have hj27 : ∀ (t0 : Int64) (O : OM), X12_ruinOf_j27 t0 O = some (res, O') → GO pM l eM (5) sM mM aM bM meM cM (MQ bM (va_Qi (fun (r' : Int32) (u : CM × OM) => r' = res ∧ u = (C, O')) (wB G) (Fr G)) aM sM 0 0 (Fr G)) G 3 (C, O) 27 [] [.long t0] := by
    intro t0 O h
    rw [X12_ruinOf_j27] at h
    refine go_iconst (v := (0 : Int32)) K dX12_ruinOf_27 (by decide) ?_
    refine go_sipush (v := (9999 : Int32)) K dX12_ruinOf_28 (by decide) ?_
    refine go_cSI K (c_X12_held l G _ _ _ _ _ _ rfl) cf_X12_held kt_X12_held km_X12_363 (by decide) rfl rfl (Nat.le_of_ble_eq_true rfl) dX12_ruinOf_31 ?_
    exact go_iret K hr (Prod.mk.inj (Option.some.inj h)).1 (congrArg (fun z => (C, z)) (Prod.mk.inj (Option.some.inj h)).2) dX12_ruinOf_34
  rw [f_X12_ruinOf] at h
  refine go_aload_n K dX12_ruinOf_0 0 rfl rfl ?_
  refine go_iconst (v := (3 : Int32)) K dX12_ruinOf_1 (by decide) ?_
  obtain ⟨r1, e1, h⟩ := bnd_e h
  refine go_cVI K (c_X12_ordersOf l G _ _ _ _ e1) cf_X12_ordersOf cv_X12_ordersOf km_X12_353 rv_X12 (by decide) rfl rfl (Nat.le_of_ble_eq_true rfl) dX12_ruinOf_2 ?_
  refine go_istore_n K dX12_ruinOf_5 rfl (by decide) (lv' := [(2, .int r1), (0, .ref (gB G + 446)), (1, .int v1)]) rfl ?_
  refine go_aload_n K dX12_ruinOf_6 1 rfl rfl ?_
  refine go_iload_n K dX12_ruinOf_7 2 rfl rfl ?_
  obtain ⟨O2, e2, h⟩ := bnd_e h
  refine go_cVV K (c_X12_names l G _ _ _ _ e2) cf_X12_names cv_X12_names km_X12_350 rv_X12 (by decide) rfl rfl (Nat.le_of_ble_eq_true rfl) dX12_ruinOf_8 ?_
  refine go_iload_n K dX12_ruinOf_11 0 rfl rfl ?_
  refine go_iconst (v := (-1 : Int32)) K dX12_ruinOf_12 (by decide) ?_
  refine go_icmp_ne (tgt := 22) K dX12_ruinOf_13 (by decide) (fun c3 => ?_) (fun c3 => ?_)
  rotate_left
  · replace h := ite_t h c3
    refine go_ldc2 K kk_X12_367 dX12_ruinOf_16 ?_
    refine go_goto (tgt := 27) K dX12_ruinOf_19 (by decide) ?_
    exact go_sub [] rfl (hj27 _ _ h)
  replace h := ite_f h c3
  refine go_aload_n K dX12_ruinOf_22 1 rfl rfl ?_
  refine go_iload_n K dX12_ruinOf_23 0 rfl rfl ?_
  obtain ⟨r4, O4, e4, h⟩ := bnd2_e h
  refine go_cVJ K (c_X12_saysOf l G _ _ _ _ _ e4) cf_X12_saysOf cv_X12_saysOf km_X12_359 rv_X12 (by decide) rfl rfl (Nat.le_of_ble_eq_true rfl) dX12_ruinOf_24 ?_
  exact go_sub [] rfl (hj27 _ _ h)
noncomputable def f_X12_isOut (v1 : Int32) (O : OM) : Option Int32 := (gd (inb ((14 : Int32) + v1) 164) (if (O.1 470 ((14 : Int32) + v1).toNatClampNeg) = 0 then (some (1 : Int32)) else (some (0 : Int32))))
theorem cf_X12_isOut : CF yX12_isOut cX12_isOut 2 (Option.some Jvm.ClassFile.FieldType.boolean) 1 := ⟨kc_X12_isOut, kj_X12, ⟨by decide +kernel, by decide +kernel, by decide +kernel⟩, by decide⟩
theorem cv_X12_isOut : CFv yX12_isOut := ⟨ki_X12_isOut, ks_X12_isOut⟩
set_option maxHeartbeats 4000000 in
set_option maxRecDepth 100000 in
theorem c_X12_isOut (l : Launch) (G : GT) (v1 : Int32) (C : CM) (O : OM) (res : Int32) (h : f_X12_isOut v1 O = some res) : MI l G yX12_isOut cX12_isOut 2 (Option.some Jvm.ClassFile.FieldType.boolean) (1) [.ref (gB G + 446), .int v1] (C, O) res (C, O) := by
  unfold MI
  refine met_in RX12 (by decide +kernel) rfl [(0, .ref (gB G + 446)), (1, .int v1)] rfl (Nat.le_of_ble_eq_true rfl) ?_
  intro pM eM sM mM aM bM meM cM K hr
  rw [f_X12_isOut] at h
  refine go_aload_n K dX12_isOut_0 0 rfl rfl ?_
  refine gf_X12 K 40 (by decide) kf_X12_87 (v := .ref (gB G + 470)) rfl dX12_isOut_1 ?_
  refine go_bipush (v := (14 : Int32)) K dX12_isOut_4 (by decide) ?_
  refine go_iload_n K dX12_isOut_6 1 rfl rfl ?_
  refine go_iadd K dX12_isOut_7 ?_
  obtain ⟨g1, h⟩ := gd_e h
  refine go_mald K (Nat.le_of_ble_eq_true rfl) sh_470 g1 rfl dX12_isOut_8 ?_
  refine go_if_ne (tgt := 16) K dX12_isOut_9 (by decide) (fun c2 => ?_) (fun c2 => ?_)
  · replace h := ite_f h c2
    refine go_iconst (v := (0 : Int32)) K dX12_isOut_16 (by decide) ?_
    exact go_zret K hr (by decide) (Option.some.inj h) rfl dX12_isOut_17
  replace h := ite_t h c2
  refine go_iconst (v := (1 : Int32)) K dX12_isOut_12 (by decide) ?_
  refine go_goto (tgt := 17) K dX12_isOut_13 (by decide) ?_
  exact go_zret K hr (by decide) (Option.some.inj h) rfl dX12_isOut_17
noncomputable def f_X12_doMeet (v1 : Int32) (v2 : Int32) (O : OM) : Option Int32 := (bnd (f_X12_isOut v1 O) (fun r1 => (if r1 = 0 then (some (0 : Int32)) else (bnd (f_X12_isOut v2 O) (fun r3 => (if r3 = 0 then (some (0 : Int32)) else (gd (inb ((7 : Int32) + v1) 164) (gd (inb ((7 : Int32) + v2) 164) (if (O.1 470 ((7 : Int32) + v1).toNatClampNeg) = (O.1 470 ((7 : Int32) + v2).toNatClampNeg) then (some (1 : Int32)) else (some (0 : Int32)))))))))))
theorem cf_X12_doMeet : CF yX12_doMeet cX12_doMeet 3 (Option.some Jvm.ClassFile.FieldType.boolean) 2 := ⟨kc_X12_doMeet, kj_X12, ⟨by decide +kernel, by decide +kernel, by decide +kernel⟩, by decide⟩
theorem cv_X12_doMeet : CFv yX12_doMeet := ⟨ki_X12_doMeet, ks_X12_doMeet⟩
set_option maxHeartbeats 4000000 in
set_option maxRecDepth 100000 in
theorem c_X12_doMeet (l : Launch) (G : GT) (v1 : Int32) (v2 : Int32) (C : CM) (O : OM) (res : Int32) (h : f_X12_doMeet v1 v2 O = some res) : MI l G yX12_doMeet cX12_doMeet 3 (Option.some Jvm.ClassFile.FieldType.boolean) (2) [.ref (gB G + 446), .int v1, .int v2] (C, O) res (C, O) := by
  unfold MI
  refine met_in RX12 (by decide +kernel) rfl [(0, .ref (gB G + 446)), (1, .int v1), (2, .int v2)] rfl (Nat.le_of_ble_eq_true rfl) ?_
  intro pM eM sM mM aM bM meM cM K hr
  rw [f_X12_doMeet] at h
  refine go_aload_n K dX12_doMeet_0 0 rfl rfl ?_
  refine go_iload_n K dX12_doMeet_1 1 rfl rfl ?_
  obtain ⟨r1, e1, h⟩ := bnd_e h
  refine go_cVI K (c_X12_isOut l G _ _ _ _ e1) cf_X12_isOut cv_X12_isOut km_X12_369 rv_X12 (by decide) rfl rfl (Nat.le_of_ble_eq_true rfl) dX12_doMeet_2 ?_
  refine go_if_eq (tgt := 41) K dX12_doMeet_5 (by decide) (fun c2 => ?_) (fun c2 => ?_)
  · replace h := ite_t h c2
    refine go_iconst (v := (0 : Int32)) K dX12_doMeet_41 (by decide) ?_
    exact go_zret K hr (by decide) (Option.some.inj h) rfl dX12_doMeet_42
  replace h := ite_f h c2
  refine go_aload_n K dX12_doMeet_8 0 rfl rfl ?_
  refine go_iload_n K dX12_doMeet_9 2 rfl rfl ?_
  obtain ⟨r3, e3, h⟩ := bnd_e h
  refine go_cVI K (c_X12_isOut l G _ _ _ _ e3) cf_X12_isOut cv_X12_isOut km_X12_369 rv_X12 (by decide) rfl rfl (Nat.le_of_ble_eq_true rfl) dX12_doMeet_10 ?_
  refine go_if_eq (tgt := 41) K dX12_doMeet_13 (by decide) (fun c4 => ?_) (fun c4 => ?_)
  · replace h := ite_t h c4
    refine go_iconst (v := (0 : Int32)) K dX12_doMeet_41 (by decide) ?_
    exact go_zret K hr (by decide) (Option.some.inj h) rfl dX12_doMeet_42
  replace h := ite_f h c4
  refine go_aload_n K dX12_doMeet_16 0 rfl rfl ?_
  refine gf_X12 K 40 (by decide) kf_X12_87 (v := .ref (gB G + 470)) rfl dX12_doMeet_17 ?_
  refine go_bipush (v := (7 : Int32)) K dX12_doMeet_20 (by decide) ?_
  refine go_iload_n K dX12_doMeet_22 1 rfl rfl ?_
  refine go_iadd K dX12_doMeet_23 ?_
  obtain ⟨g5, h⟩ := gd_e h
  refine go_mald K (Nat.le_of_ble_eq_true rfl) sh_470 g5 rfl dX12_doMeet_24 ?_
  refine go_aload_n K dX12_doMeet_25 0 rfl rfl ?_
  refine gf_X12 K 40 (by decide) kf_X12_87 (v := .ref (gB G + 470)) rfl dX12_doMeet_26 ?_
  refine go_bipush (v := (7 : Int32)) K dX12_doMeet_29 (by decide) ?_
  refine go_iload_n K dX12_doMeet_31 2 rfl rfl ?_
  refine go_iadd K dX12_doMeet_32 ?_
  obtain ⟨g6, h⟩ := gd_e h
  refine go_mald K (Nat.le_of_ble_eq_true rfl) sh_470 g6 rfl dX12_doMeet_33 ?_
  refine go_icmp_ne (tgt := 41) K dX12_doMeet_34 (by decide) (fun c7 => ?_) (fun c7 => ?_)
  · replace h := ite_f h c7
    refine go_iconst (v := (0 : Int32)) K dX12_doMeet_41 (by decide) ?_
    exact go_zret K hr (by decide) (Option.some.inj h) rfl dX12_doMeet_42
  replace h := ite_t h c7
  refine go_iconst (v := (1 : Int32)) K dX12_doMeet_37 (by decide) ?_
  refine go_goto (tgt := 42) K dX12_doMeet_38 (by decide) ?_
  exact go_zret K hr (by decide) (Option.some.inj h) rfl dX12_doMeet_42
noncomputable def f_X12_canBow (v1 : Int32) (v2 : Int32) (O : OM) : Option (Int32 × OM) := (if v1 = v2 then (some ((0 : Int32), O)) else (bnd (f_X12_doMeet v1 v2 O) (fun r2 => (if r2 = 0 then (some ((0 : Int32), O)) else (gd (inb ((0 : Int32) + v1) 164) (bnd2 (f_X12_sizeOf v1 v2 O) (fun r5 O5 => (if (O.1 470 ((0 : Int32) + v1).toNatClampNeg) < r5 then (some ((0 : Int32), O5)) else (some ((1 : Int32), O5))))))))))
theorem cf_X12_canBow : CF yX12_canBow cX12_canBow 3 (Option.some Jvm.ClassFile.FieldType.boolean) 2 := ⟨kc_X12_canBow, kj_X12, ⟨by decide +kernel, by decide +kernel, by decide +kernel⟩, by decide⟩
theorem cv_X12_canBow : CFv yX12_canBow := ⟨ki_X12_canBow, ks_X12_canBow⟩
set_option maxHeartbeats 4000000 in
set_option maxRecDepth 100000 in
theorem c_X12_canBow (l : Launch) (G : GT) (v1 : Int32) (v2 : Int32) (C : CM) (O : OM) (res : Int32) (O' : OM) (h : f_X12_canBow v1 v2 O = some (res, O')) : MI l G yX12_canBow cX12_canBow 3 (Option.some Jvm.ClassFile.FieldType.boolean) (6) [.ref (gB G + 446), .int v1, .int v2] (C, O) res (C, O') := by
  unfold MI
  refine met_in RX12 (by decide +kernel) rfl [(0, .ref (gB G + 446)), (1, .int v1), (2, .int v2)] rfl (Nat.le_of_ble_eq_true rfl) ?_
  intro pM eM sM mM aM bM meM cM K hr
  rw [f_X12_canBow] at h
  refine go_iload_n K dX12_canBow_0 1 rfl rfl ?_
  refine go_iload_n K dX12_canBow_1 2 rfl rfl ?_
  refine go_icmp_eq (tgt := 35) K dX12_canBow_2 (by decide) (fun c1 => ?_) (fun c1 => ?_)
  · replace h := ite_t h c1
    refine go_iconst (v := (0 : Int32)) K dX12_canBow_35 (by decide) ?_
    exact go_zret K hr (by decide) (Prod.mk.inj (Option.some.inj h)).1 (congrArg (fun z => (C, z)) (Prod.mk.inj (Option.some.inj h)).2) dX12_canBow_36
  replace h := ite_f h c1
  refine go_aload_n K dX12_canBow_5 0 rfl rfl ?_
  refine go_iload_n K dX12_canBow_6 1 rfl rfl ?_
  refine go_iload_n K dX12_canBow_7 2 rfl rfl ?_
  obtain ⟨r2, e2, h⟩ := bnd_e h
  refine go_cVI K (c_X12_doMeet l G _ _ _ _ _ e2) cf_X12_doMeet cv_X12_doMeet km_X12_372 rv_X12 (by decide) rfl rfl (Nat.le_of_ble_eq_true rfl) dX12_canBow_8 ?_
  refine go_if_eq (tgt := 35) K dX12_canBow_11 (by decide) (fun c3 => ?_) (fun c3 => ?_)
  · replace h := ite_t h c3
    refine go_iconst (v := (0 : Int32)) K dX12_canBow_35 (by decide) ?_
    exact go_zret K hr (by decide) (Prod.mk.inj (Option.some.inj h)).1 (congrArg (fun z => (C, z)) (Prod.mk.inj (Option.some.inj h)).2) dX12_canBow_36
  replace h := ite_f h c3
  refine go_aload_n K dX12_canBow_14 0 rfl rfl ?_
  refine gf_X12 K 40 (by decide) kf_X12_87 (v := .ref (gB G + 470)) rfl dX12_canBow_15 ?_
  refine go_iconst (v := (0 : Int32)) K dX12_canBow_18 (by decide) ?_
  refine go_iload_n K dX12_canBow_19 1 rfl rfl ?_
  refine go_iadd K dX12_canBow_20 ?_
  obtain ⟨g4, h⟩ := gd_e h
  refine go_mald K (Nat.le_of_ble_eq_true rfl) sh_470 g4 rfl dX12_canBow_21 ?_
  refine go_aload_n K dX12_canBow_22 0 rfl rfl ?_
  refine go_iload_n K dX12_canBow_23 1 rfl rfl ?_
  refine go_iload_n K dX12_canBow_24 2 rfl rfl ?_
  obtain ⟨r5, O5, e5, h⟩ := bnd2_e h
  refine go_cVI K (c_X12_sizeOf l G _ _ _ _ _ _ e5) cf_X12_sizeOf cv_X12_sizeOf km_X12_375 rv_X12 (by decide) rfl rfl (Nat.le_of_ble_eq_true rfl) dX12_canBow_25 ?_
  refine go_icmp_lt (tgt := 35) K dX12_canBow_28 (by decide) (fun c6 => ?_) (fun c6 => ?_)
  · replace h := ite_t h c6
    refine go_iconst (v := (0 : Int32)) K dX12_canBow_35 (by decide) ?_
    exact go_zret K hr (by decide) (Prod.mk.inj (Option.some.inj h)).1 (congrArg (fun z => (C, z)) (Prod.mk.inj (Option.some.inj h)).2) dX12_canBow_36
  replace h := ite_f h c6
  refine go_iconst (v := (1 : Int32)) K dX12_canBow_31 (by decide) ?_
  refine go_goto (tgt := 36) K dX12_canBow_32 (by decide) ?_
  exact go_zret K hr (by decide) (Prod.mk.inj (Option.some.inj h)).1 (congrArg (fun z => (C, z)) (Prod.mk.inj (Option.some.inj h)).2) dX12_canBow_36
noncomputable def X12_bows_j54 (v1 : Int32) (v2 : Int32) (v4 : Int32) (t0 : Int32) (t1 : Int32) (O : OM) : Option OM := (gd (inb t1 164) (if v4 ≤ 0 then (some (oup O 470 t1.toNatClampNeg t0)) else (gd (inb (f_X12_debtAt v2 v1) 164) (bnd2 (f_X12_moreOf v2 v1 v4 (oup O 470 t1.toNatClampNeg t0)) (fun r9 O9 => (gd (inb (f_X12_debtAt v2 v1) 164) (some (oup O9 470 (f_X12_debtAt v2 v1).toNatClampNeg (f_X12_held ((((oup O 470 t1.toNatClampNeg t0).1 470 (f_X12_debtAt v2 v1).toNatClampNeg) + r9).toInt64) (0 : Int32) (9999 : Int32))))))))))
noncomputable def f_X12_bows (v1 : Int32) (v2 : Int32) (O : OM) : Option OM := (bnd2 (f_X12_sizeOf v1 v2 O) (fun r1 O1 => (gd (inb (f_X12_debtAt v1 v2) 164) (gd (inb ((0 : Int32) + v1) 164) (gd (inb ((0 : Int32) + v1) 164) (if 0 ≤ (r1 - (O1.1 470 (f_X12_debtAt v1 v2).toNatClampNeg)) then (X12_bows_j54 v1 v2 (r1 - (O1.1 470 (f_X12_debtAt v1 v2).toNatClampNeg)) (0 : Int32) (f_X12_debtAt v1 v2) (oup O1 470 ((0 : Int32) + v1).toNatClampNeg ((O1.1 470 ((0 : Int32) + v1).toNatClampNeg) - r1))) else (X12_bows_j54 v1 v2 (r1 - (O1.1 470 (f_X12_debtAt v1 v2).toNatClampNeg)) (-(r1 - (O1.1 470 (f_X12_debtAt v1 v2).toNatClampNeg))) (f_X12_debtAt v1 v2) (oup O1 470 ((0 : Int32) + v1).toNatClampNeg ((O1.1 470 ((0 : Int32) + v1).toNatClampNeg) - r1)))))))))
theorem cf_X12_bows : CF yX12_bows cX12_bows 5 (Option.none : Option Jvm.ClassFile.FieldType) 2 := ⟨kc_X12_bows, kj_X12, ⟨by decide +kernel, by decide +kernel, by decide +kernel⟩, by decide⟩
theorem cv_X12_bows : CFv yX12_bows := ⟨ki_X12_bows, ks_X12_bows⟩
set_option maxHeartbeats 4000000 in
set_option maxRecDepth 100000 in
theorem c_X12_bows (l : Launch) (G : GT) (v1 : Int32) (v2 : Int32) (C : CM) (O : OM) (O' : OM) (h : f_X12_bows v1 v2 O = some O') : MV l G yX12_bows cX12_bows 5 (Option.none : Option Jvm.ClassFile.FieldType) (6) [.ref (gB G + 446), .int v1, .int v2] (C, O) (C, O') := by
  unfold MV
  refine met_in RX12 (by decide +kernel) rfl [(0, .ref (gB G + 446)), (1, .int v1), (2, .int v2)] rfl (Nat.le_of_ble_eq_true rfl) ?_
  intro pM eM sM mM aM bM meM cM K hr
  have hj54 : ∀ (v1 : Int32) (v2 : Int32) (v4 : Int32) (t0 : Int32) (t1 : Int32) (O : OM), X12_bows_j54 v1 v2 v4 t0 t1 O = some O' → GO pM l eM (6) sM mM aM bM meM cM (MQ bM (va_Qv (fun (u : CM × OM) => u = (C, O')) (wB G) (Fr G)) aM sM 0 0 (Fr G)) G 5 (C, O) 54 [(0, .ref (gB G + 446)), (1, .int v1), (2, .int v2), (4, .int v4)] [.int t0, .int t1, .ref (gB G + 470)] := by
    intro v1 v2 v4 t0 t1 O h
    rw [X12_bows_j54] at h
    obtain ⟨g6, h⟩ := gd_e h
    refine go_mast K (Nat.le_of_ble_eq_true rfl) sh_470 g6 rfl dX12_bows_54 ?_
    refine go_iload K dX12_bows_55 3 rfl ?_
    refine go_if_le (tgt := 97) K dX12_bows_57 (by decide) (fun c7 => ?_) (fun c7 => ?_)
    · replace h := ite_t h c7
      exact go_vret K hr (congrArg (fun z => (C, z)) (Option.some.inj h)) dX12_bows_97
    replace h := ite_f h c7
    refine go_aload_n K dX12_bows_60 0 rfl rfl ?_
    refine gf_X12 K 40 (by decide) kf_X12_87 (v := .ref (gB G + 470)) rfl dX12_bows_61 ?_
    refine go_iload_n K dX12_bows_64 2 rfl rfl ?_
    refine go_iload_n K dX12_bows_65 1 rfl rfl ?_
    refine go_cSI K (c_X12_debtAt l G _ _ _ _ _ rfl) cf_X12_debtAt kt_X12_debtAt km_X12_335 (by decide) rfl rfl (Nat.le_of_ble_eq_true rfl) dX12_bows_66 ?_
    refine go_aload_n K dX12_bows_69 0 rfl rfl ?_
    refine gf_X12 K 40 (by decide) kf_X12_87 (v := .ref (gB G + 470)) rfl dX12_bows_70 ?_
    refine go_iload_n K dX12_bows_73 2 rfl rfl ?_
    refine go_iload_n K dX12_bows_74 1 rfl rfl ?_
    refine go_cSI K (c_X12_debtAt l G _ _ _ _ _ rfl) cf_X12_debtAt kt_X12_debtAt km_X12_335 (by decide) rfl rfl (Nat.le_of_ble_eq_true rfl) dX12_bows_75 ?_
    obtain ⟨g8, h⟩ := gd_e h
    refine go_mald K (Nat.le_of_ble_eq_true rfl) sh_470 g8 rfl dX12_bows_78 ?_
    refine go_aload_n K dX12_bows_79 0 rfl rfl ?_
    refine go_iload_n K dX12_bows_80 2 rfl rfl ?_
    refine go_iload_n K dX12_bows_81 1 rfl rfl ?_
    refine go_iload K dX12_bows_82 3 rfl ?_
    obtain ⟨r9, O9, e9, h⟩ := bnd2_e h
    refine go_cVI K (c_X12_moreOf l G _ _ _ _ _ _ _ e9) cf_X12_moreOf cv_X12_moreOf km_X12_378 rv_X12 (by decide) rfl rfl (Nat.le_of_ble_eq_true rfl) dX12_bows_84 ?_
    refine go_iadd K dX12_bows_87 ?_
    refine go_i2l K dX12_bows_88 ?_
    refine go_iconst (v := (0 : Int32)) K dX12_bows_89 (by decide) ?_
    refine go_sipush (v := (9999 : Int32)) K dX12_bows_90 (by decide) ?_
    refine go_cSI K (c_X12_held l G _ _ _ _ _ _ rfl) cf_X12_held kt_X12_held km_X12_363 (by decide) rfl rfl (Nat.le_of_ble_eq_true rfl) dX12_bows_93 ?_
    obtain ⟨g10, h⟩ := gd_e h
    refine go_mast K (Nat.le_of_ble_eq_true rfl) sh_470 g10 rfl dX12_bows_96 ?_
    exact go_vret K hr (congrArg (fun z => (C, z)) (Option.some.inj h)) dX12_bows_97
  rw [f_X12_bows] at h
  refine go_aload_n K dX12_bows_0 0 rfl rfl ?_
  refine go_iload_n K dX12_bows_1 1 rfl rfl ?_
  refine go_iload_n K dX12_bows_2 2 rfl rfl ?_
  obtain ⟨r1, O1, e1, h⟩ := bnd2_e h
  refine go_cVI K (c_X12_sizeOf l G _ _ _ _ _ _ e1) cf_X12_sizeOf cv_X12_sizeOf km_X12_375 rv_X12 (by decide) rfl rfl (Nat.le_of_ble_eq_true rfl) dX12_bows_3 ?_
  refine go_istore_n K dX12_bows_6 rfl (by decide) (lv' := [(3, .int r1), (0, .ref (gB G + 446)), (1, .int v1), (2, .int v2)]) rfl ?_
  refine go_iload_n K dX12_bows_7 0 rfl rfl ?_
  refine go_aload_n K dX12_bows_8 1 rfl rfl ?_
  refine gf_X12 K 40 (by decide) kf_X12_87 (v := .ref (gB G + 470)) rfl dX12_bows_9 ?_
  refine go_iload_n K dX12_bows_12 2 rfl rfl ?_
  refine go_iload_n K dX12_bows_13 3 rfl rfl ?_
  refine go_cSI K (c_X12_debtAt l G _ _ _ _ _ rfl) cf_X12_debtAt kt_X12_debtAt km_X12_335 (by decide) rfl rfl (Nat.le_of_ble_eq_true rfl) dX12_bows_14 ?_
  obtain ⟨g2, h⟩ := gd_e h
  refine go_mald K (Nat.le_of_ble_eq_true rfl) sh_470 g2 rfl dX12_bows_17 ?_
  refine go_isub K dX12_bows_18 ?_
  refine go_istore K dX12_bows_19 (by decide) (lv' := [(4, .int (r1 - (O1.1 470 (f_X12_debtAt v1 v2).toNatClampNeg))), (3, .int r1), (0, .ref (gB G + 446)), (1, .int v1), (2, .int v2)]) rfl ?_
  refine go_aload_n K dX12_bows_21 2 rfl rfl ?_
  refine gf_X12 K 40 (by decide) kf_X12_87 (v := .ref (gB G + 470)) rfl dX12_bows_22 ?_
  refine go_iconst (v := (0 : Int32)) K dX12_bows_25 (by decide) ?_
  refine go_iload_n K dX12_bows_26 3 rfl rfl ?_
  refine go_iadd K dX12_bows_27 ?_
  refine go_dup2 K dX12_bows_28 rfl rfl ?_
  obtain ⟨g3, h⟩ := gd_e h
  refine go_mald K (Nat.le_of_ble_eq_true rfl) sh_470 g3 rfl dX12_bows_29 ?_
  refine go_iload_n K dX12_bows_30 1 rfl rfl ?_
  refine go_isub K dX12_bows_31 ?_
  obtain ⟨g4, h⟩ := gd_e h
  refine go_mast K (Nat.le_of_ble_eq_true rfl) sh_470 g4 rfl dX12_bows_32 ?_
  refine go_aload_n K dX12_bows_33 2 rfl rfl ?_
  refine gf_X12 K 40 (by decide) kf_X12_87 (v := .ref (gB G + 470)) rfl dX12_bows_34 ?_
  refine go_iload_n K dX12_bows_37 3 rfl rfl ?_
  refine go_iload_n K dX12_bows_38 4 rfl rfl ?_
  refine go_cSI K (c_X12_debtAt l G _ _ _ _ _ rfl) cf_X12_debtAt kt_X12_debtAt km_X12_335 (by decide) rfl rfl (Nat.le_of_ble_eq_true rfl) dX12_bows_39 ?_
  refine go_iload K dX12_bows_42 0 rfl ?_
  refine go_if_ge (tgt := 53) K dX12_bows_44 (by decide) (fun c5 => ?_) (fun c5 => ?_)
  · replace h := ite_t h c5
    refine go_iconst (v := (0 : Int32)) K dX12_bows_53 (by decide) ?_
    exact go_sub [2, 3, 4, 0] rfl (hj54 _ _ _ _ _ _ h)
  replace h := ite_f h c5
  refine go_iload K dX12_bows_47 0 rfl ?_
  refine go_ineg K dX12_bows_49 ?_
  refine go_goto (tgt := 54) K dX12_bows_50 (by decide) ?_
  exact go_sub [2, 3, 4, 0] rfl (hj54 _ _ _ _ _ _ h)
