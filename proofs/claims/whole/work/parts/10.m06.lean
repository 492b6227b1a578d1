noncomputable def X2_reckon_j125 (t a : Nat) (rc : Int32 → Int32 → CM → Option CM) (v3 : Int32) (v4 : Int32) (C : CM) : Option CM := (rc v3 (v4 + (1 : Int32)) C)
noncomputable def X2_reckon_j112 (t a : Nat) (rc : Int32 → Int32 → CM → Option CM) (v3 : Int32) (v4 : Int32) (C : CM) : Option CM := (bnd (f_X2_explains a C) (fun r7 => (if r7 = 0 then (X2_reckon_j125 t a rc v3 v4 C) else (bnd (f_X2_count v3 C) (fun C9 => (X2_reckon_j125 t a rc v3 v4 C9))))))
noncomputable def X2_reckon_j109 (t a : Nat) (rc : Int32 → Int32 → CM → Option CM) (v3 : Int32) (v4 : Int32) (t0 : Int32) (t1 : Int32) (C : CM) : Option CM := (bnd (f_X2_bend t t1 t0 C) (fun C11 => (X2_reckon_j112 t a rc v3 v4 C11)))
noncomputable def X2_reckon_j67 (t a : Nat) (rc : Int32 → Int32 → CM → Option CM) (v3 : Int32) (v4 : Int32) (t0 : Int32) (C : CM) : Option CM := (if (f_X11_within t0 (0 : Int32) ((C 417 1) - (1 : Int32))) = 0 then (X2_reckon_j112 t a rc v3 v4 C) else (if (((v3 ^^^ ((1 : Int32) <<< (t0 &&& 31))) >>> (t0 &&& 31)) &&& (1 : Int32)) = 0 then (X2_reckon_j109 t a rc (v3 ^^^ ((1 : Int32) <<< (t0 &&& 31))) v4 (-1 : Int32) t0 C) else (X2_reckon_j109 t a rc (v3 ^^^ ((1 : Int32) <<< (t0 &&& 31))) v4 (1 : Int32) t0 C)))
noncomputable def X2_reckon_l42 (t a : Nat) : Nat → Int32 → Int32 → CM → Option CM
  | 0, _, _, _ => none
  | n + 1, v3, v4, C => (if ((1 : Int32) <<< ((C 417 1) &&& 31)) ≤ v4 then (some C) else (if v4 = 0 then (X2_reckon_j67 t a (fun v3 v4 C => X2_reckon_l42 t a n v3 v4 C) v3 v4 (-1 : Int32) C) else (X2_reckon_j67 t a (fun v3 v4 C => X2_reckon_l42 t a n v3 v4 C) v3 v4 (f_J6_numberOfTrailingZeros_0f7a4 v4) C)))
noncomputable def X2_reckon_j37 (t a : Nat) (C : CM) : Option CM := (X2_reckon_l42 t a FU (0 : Int32) (0 : Int32) C)
noncomputable def X2_reckon_l19 (t a : Nat) (k37 : CM → Option CM) : Nat → Int32 → CM → Option CM
  | 0, _, _ => none
  | n + 1, v3, C => (if (5 : Int32) ≤ v3 then (k37 C) else (gd (inb v3 5) (X2_reckon_l19 t a k37 n (v3 + (1 : Int32)) (up2 C 421 v3.toNatClampNeg (0 : Int32)))))
noncomputable def f_X2_reckon (t a : Nat) (C : CM) : Option CM := (bnd (f_X2_listTwos (f_J9_min_7cf53 (5 : Int32) ((up2 C 417 0 (0 : Int32)) t 0)) (up2 C 417 0 (0 : Int32))) (fun C1 => (X2_reckon_l19 t a (fun C => (X2_reckon_j37 t a C)) FU (0 : Int32) C1)))
theorem cf_X2_reckon : CF yX2_reckon cX2_reckon 6 (Option.none : Option Jvm.ClassFile.FieldType) 2 := ⟨kc_X2_reckon, kj_X2, ⟨by decide +kernel, by decide +kernel, by decide +kernel⟩, by decide⟩
theorem cv_X2_reckon : CFv yX2_reckon := ⟨ki_X2_reckon, ks_X2_reckon⟩
set_option maxHeartbeats 4000000 in
set_option maxRecDepth 100000 in
theorem c_X2_reckon (l : Launch) (G : GT) {a : Nat} {t : Nat} (ht : StAt t) (ha : a < NN) (hsa : SH a = (20, 5)) (C : CM) (O : OM) (C' : CM) (h : f_X2_reckon t a C = some C') : MV l G yX2_reckon cX2_reckon 6 (Option.none : Option Jvm.ClassFile.FieldType) (3) [.ref (gB G + 417), .ref (gB G + t), .ref (gB G + a)] (C, O) (C', O) := by
  unfold MV
  refine met_in RX2 (by decide +kernel) rfl [(0, .ref (gB G + 417)), (1, .ref (gB G + t)), (2, .ref (gB G + a))] rfl (Nat.le_of_ble_eq_true rfl) ?_
  intro pM eM sM mM aM bM meM cM K hr
  have hl42 : ∀ (n42 : Nat) (v3 : Int32) (v4 : Int32) (C : CM), X2_reckon_l42 t a n42 v3 v4 C = some C' → GO pM l eM (3) sM mM aM bM meM cM (MQ bM (va_Qv (fun (u : CM × OM) => u = (C', O)) (wB G) (Fr G)) aM sM 0 0 (Fr G)) G 6 (C, O) 42 [(0, .ref (gB G + 417)), (1, .ref (gB G + t)), (2, .ref (gB G + a)), (3, .int v3), (4, .int v4)] [] := by
    intro n42
    induction n42 with
    | zero =>
      intro v3 v4 C h
      rw [X2_reckon_l42] at h
      cases h
    | succ n42 ih42 =>
      have hj125 : ∀ (v3 : Int32) (v4 : Int32) (C : CM), X2_reckon_j125 t a (fun v3 v4 C => X2_reckon_l42 t a n42 v3 v4 C) v3 v4 C = some C' → GO pM l eM (3) sM mM aM bM meM cM (MQ bM (va_Qv (fun (u : CM × OM) => u = (C', O)) (wB G) (Fr G)) aM sM 0 0 (Fr G)) G 6 (C, O) 125 [(0, .ref (gB G + 417)), (1, .ref (gB G + t)), (2, .ref (gB G + a)), (3, .int v3), (4, .int v4)] [] := by
        intro v3 v4 C h
        rw [X2_reckon_j125] at h
        refine go_iinc K dX2_reckon_125 4 rfl (v := (v4 + (1 : Int32))) rfl (by decide) (lv' := [(4, .int (v4 + (1 : Int32))), (0, .ref (gB G + 417)), (1, .ref (gB G + t)), (2, .ref (gB G + a)), (3, .int v3)]) rfl ?_
        refine go_goto (tgt := 42) K dX2_reckon_128 (by decide) ?_
        exact go_sub [1, 2, 3, 4, 0] rfl (ih42 _ _ _ h)
      have hj112 : ∀ (v3 : Int32) (v4 : Int32) (C : CM), X2_reckon_j112 t a (fun v3 v4 C => X2_reckon_l42 t a n42 v3 v4 C) v3 v4 C = some C' → GO pM l eM (3) sM mM aM bM meM cM (MQ bM (va_Qv (fun (u : CM × OM) => u = (C', O)) (wB G) (Fr G)) aM sM 0 0 (Fr G)) G 6 (C, O) 112 [(0, .ref (gB G + 417)), (1, .ref (gB G + t)), (2, .ref (gB G + a)), (3, .int v3), (4, .int v4)] [] := by
        intro v3 v4 C h
        rw [X2_reckon_j112] at h
        refine go_aload_n K dX2_reckon_112 0 rfl rfl ?_
        refine go_aload_n K dX2_reckon_113 2 rfl rfl ?_
        obtain ⟨r7, e7, h⟩ := bnd_e h
        refine go_cVI K (c_X2_explains l G ha hsa _ _ _ e7) cf_X2_explains cv_X2_explains km_X2_60 rv_X2 (by decide) rfl rfl (Nat.le_of_ble_eq_true rfl) dX2_reckon_114 ?_
        refine go_if_eq (tgt := 125) K dX2_reckon_117 (by decide) (fun c8 => ?_) (fun c8 => ?_)
        · replace h := ite_t h c8
          exact hj125 _ _ _ h
        replace h := ite_f h c8
        refine go_aload_n K dX2_reckon_120 0 rfl rfl ?_
        refine go_iload_n K dX2_reckon_121 3 rfl rfl ?_
        obtain ⟨C9, e9, h⟩ := bnd_e h
        refine go_cVV K (c_X2_count l G _ _ _ _ e9) cf_X2_count cv_X2_count km_X2_64 rv_X2 (by decide) rfl rfl (Nat.le_of_ble_eq_true rfl) dX2_reckon_122 ?_
        exact hj125 _ _ _ h
      have hj109 : ∀ (v3 : Int32) (v4 : Int32) (t0 : Int32) (t1 : Int32) (C : CM), X2_reckon_j109 t a (fun v3 v4 C => X2_reckon_l42 t a n42 v3 v4 C) v3 v4 t0 t1 C = some C' → GO pM l eM (3) sM mM aM bM meM cM (MQ bM (va_Qv (fun (u : CM × OM) => u = (C', O)) (wB G) (Fr G)) aM sM 0 0 (Fr G)) G 6 (C, O) 109 [(0, .ref (gB G + 417)), (1, .ref (gB G + t)), (2, .ref (gB G + a)), (3, .int v3), (4, .int v4)] [.int t0, .int t1, .ref (gB G + t), .ref (gB G + 417)] := by
        intro v3 v4 t0 t1 C h
        rw [X2_reckon_j109] at h
        obtain ⟨C11, e11, h⟩ := bnd_e h
        refine go_cVV K (c_X2_bend l G ht _ _ _ _ _ e11) cf_X2_bend cv_X2_bend km_X2_56 rv_X2 (by decide) rfl rfl (Nat.le_of_ble_eq_true rfl) dX2_reckon_109 ?_
        exact hj112 _ _ _ h
      have hj67 : ∀ (v3 : Int32) (v4 : Int32) (t0 : Int32) (C : CM), X2_reckon_j67 t a (fun v3 v4 C => X2_reckon_l42 t a n42 v3 v4 C) v3 v4 t0 C = some C' → GO pM l eM (3) sM mM aM bM meM cM (MQ bM (va_Qv (fun (u : CM × OM) => u = (C', O)) (wB G) (Fr G)) aM sM 0 0 (Fr G)) G 6 (C, O) 67 [(0, .ref (gB G + 417)), (1, .ref (gB G + t)), (2, .ref (gB G + a)), (3, .int v3), (4, .int v4)] [.int t0] := by
        intro v3 v4 t0 C h
        rw [X2_reckon_j67] at h
        refine go_istore K dX2_reckon_67 (by decide) (lv' := [(5, .int t0), (0, .ref (gB G + 417)), (1, .ref (gB G + t)), (2, .ref (gB G + a)), (3, .int v3), (4, .int v4)]) rfl ?_
        refine go_iload K dX2_reckon_69 0 rfl ?_
        refine go_iconst (v := (0 : Int32)) K dX2_reckon_71 (by decide) ?_
        refine go_aload_n K dX2_reckon_72 1 rfl rfl ?_
        refine gf_X2 K 1 (by decide) kf_X2_43 (v := .int (C 417 1)) rfl dX2_reckon_73 ?_
        refine go_iconst (v := (1 : Int32)) K dX2_reckon_76 (by decide) ?_
        refine go_isub K dX2_reckon_77 ?_
        refine go_cNI K (c_X11_within l G _ _ _ _ _ _ rfl) cf_X11_within kt_X11_within (List.mem_of_getElem? (i := 20) rfl) (by decide) rfl rfl (Nat.le_of_ble_eq_true rfl) dX2_reckon_78 ?_
        refine go_if_eq (tgt := 112) K dX2_reckon_81 (by decide) (fun c6 => ?_) (fun c6 => ?_)
        · replace h := ite_t h c6
          exact go_sub [1, 2, 3, 4, 5] rfl (hj112 _ _ _ h)
        replace h := ite_f h c6
        refine go_iload_n K dX2_reckon_84 4 rfl rfl ?_
        refine go_iconst (v := (1 : Int32)) K dX2_reckon_85 (by decide) ?_
        refine go_iload K dX2_reckon_86 0 rfl ?_
        refine go_ishl K dX2_reckon_88 ?_
        refine go_ixor K dX2_reckon_89 ?_
        refine go_istore_n K dX2_reckon_90 rfl (by decide) (lv' := [(3, .int (v3 ^^^ ((1 : Int32) <<< (t0 &&& 31)))), (5, .int t0), (0, .ref (gB G + 417)), (1, .ref (gB G + t)), (2, .ref (gB G + a)), (4, .int v4)]) rfl ?_
        refine go_aload_n K dX2_reckon_91 2 rfl rfl ?_
        refine go_aload_n K dX2_reckon_92 3 rfl rfl ?_
        refine go_iload K dX2_reckon_93 1 rfl ?_
        refine go_iload_n K dX2_reckon_95 0 rfl rfl ?_
        refine go_iload K dX2_reckon_96 1 rfl ?_
        refine go_ishr K dX2_reckon_98 ?_
        refine go_iconst (v := (1 : Int32)) K dX2_reckon_99 (by decide) ?_
        refine go_iand K dX2_reckon_100 ?_
        refine go_if_eq (tgt := 108) K dX2_reckon_101 (by decide) (fun c10 => ?_) (fun c10 => ?_)
        · replace h := ite_t h c10
          refine go_iconst (v := (-1 : Int32)) K dX2_reckon_108 (by decide) ?_
          exact go_sub [2, 3, 4, 0, 5] rfl (hj109 _ _ _ _ _ h)
        replace h := ite_f h c10
        refine go_iconst (v := (1 : Int32)) K dX2_reckon_104 (by decide) ?_
        refine go_goto (tgt := 109) K dX2_reckon_105 (by decide) ?_
        exact go_sub [2, 3, 4, 0, 5] rfl (hj109 _ _ _ _ _ h)
      intro v3 v4 C h
      rw [X2_reckon_l42] at h
      refine go_iload K dX2_reckon_42 4 rfl ?_
      refine go_iconst (v := (1 : Int32)) K dX2_reckon_44 (by decide) ?_
      refine go_aload_n K dX2_reckon_45 0 rfl rfl ?_
      refine gf_X2 K 1 (by decide) kf_X2_43 (v := .int (C 417 1)) rfl dX2_reckon_46 ?_
      refine go_ishl K dX2_reckon_49 ?_
      refine go_icmp_ge (tgt := 131) K dX2_reckon_50 (by decide) (fun c4 => ?_) (fun c4 => ?_)
      · replace h := ite_t h c4
        exact go_vret K hr (congrArg (fun z => (z, O)) (Option.some.inj h)) dX2_reckon_131
      replace h := ite_f h c4
      refine go_iload K dX2_reckon_53 4 rfl ?_
      refine go_if_ne (tgt := 62) K dX2_reckon_55 (by decide) (fun c5 => ?_) (fun c5 => ?_)
      · replace h := ite_f h c5
        refine go_iload K dX2_reckon_62 4 rfl ?_
        refine go_cSI K (c_J6_numberOfTrailingZeros_0f7a4 l G _ _ _ rfl) cf_J6_numberOfTrailingZeros_0f7a4 kt_J6_numberOfTrailingZeros_0f7a4 km_X2_46 (by decide) rfl rfl (Nat.le_of_ble_eq_true rfl) dX2_reckon_64 ?_
        exact hj67 _ _ _ _ h
      replace h := ite_t h c5
      refine go_iconst (v := (-1 : Int32)) K dX2_reckon_58 (by decide) ?_
      refine go_goto (tgt := 67) K dX2_reckon_59 (by decide) ?_
      exact hj67 _ _ _ _ h
  have hj37 : ∀ (C : CM), X2_reckon_j37 t a C = some C' → GO pM l eM (3) sM mM aM bM meM cM (MQ bM (va_Qv (fun (u : CM × OM) => u = (C', O)) (wB G) (Fr G)) aM sM 0 0 (Fr G)) G 6 (C, O) 37 [(0, .ref (gB G + 417)), (1, .ref (gB G + t)), (2, .ref (gB G + a))] [] := by
    intro C h
    rw [X2_reckon_j37] at h
    refine go_iconst (v := (0 : Int32)) K dX2_reckon_37 (by decide) ?_
    refine go_istore_n K dX2_reckon_38 rfl (by decide) (lv' := [(3, .int (0 : Int32)), (0, .ref (gB G + 417)), (1, .ref (gB G + t)), (2, .ref (gB G + a))]) rfl ?_
    refine go_iconst (v := (0 : Int32)) K dX2_reckon_39 (by decide) ?_
    refine go_istore K dX2_reckon_40 (by decide) (lv' := [(4, .int (0 : Int32)), (3, .int (0 : Int32)), (0, .ref (gB G + 417)), (1, .ref (gB G + t)), (2, .ref (gB G + a))]) rfl ?_
    exact go_sub [2, 3, 4, 1, 0] rfl (hl42 FU _ _ _ h)
  have hl19 : ∀ (n19 : Nat) (v3 : Int32) (C : CM), X2_reckon_l19 t a (fun C => (X2_reckon_j37 t a C)) n19 v3 C = some C' → GO pM l eM (3) sM mM aM bM meM cM (MQ bM (va_Qv (fun (u : CM × OM) => u = (C', O)) (wB G) (Fr G)) aM sM 0 0 (Fr G)) G 6 (C, O) 19 [(0, .ref (gB G + 417)), (1, .ref (gB G + t)), (2, .ref (gB G + a)), (3, .int v3)] [] := by
    intro n19
    induction n19 with
    | zero =>
      intro v3 C h
      rw [X2_reckon_l19] at h
      cases h
    | succ n19 ih19 =>
      intro v3 C h
      rw [X2_reckon_l19] at h
      refine go_iload_n K dX2_reckon_19 3 rfl rfl ?_
      refine go_iconst (v := (5 : Int32)) K dX2_reckon_20 (by decide) ?_
      refine go_icmp_ge (tgt := 37) K dX2_reckon_21 (by decide) (fun c2 => ?_) (fun c2 => ?_)
      · replace h := ite_t h c2
        exact go_sub [0, 1, 2] rfl (hj37 _ h)
      replace h := ite_f h c2
      refine go_aload_n K dX2_reckon_24 0 rfl rfl ?_
      refine gf_X2 K 5 (by decide) kf_X2_21 (v := .ref (gB G + 421)) rfl dX2_reckon_25 ?_
      refine go_iload_n K dX2_reckon_28 3 rfl rfl ?_
      refine go_iconst (v := (0 : Int32)) K dX2_reckon_29 (by decide) ?_
      obtain ⟨g3, h⟩ := gd_e h
      refine go_cast K (Nat.le_of_ble_eq_true rfl) sh_421 g3 rfl dX2_reckon_30 ?_
      refine go_iinc K dX2_reckon_31 3 rfl (v := (v3 + (1 : Int32))) rfl (by decide) (lv' := [(3, .int (v3 + (1 : Int32))), (0, .ref (gB G + 417)), (1, .ref (gB G + t)), (2, .ref (gB G + a))]) rfl ?_
      refine go_goto (tgt := 19) K dX2_reckon_34 (by decide) ?_
      exact go_sub [1, 2, 3, 0] rfl (ih19 _ _ h)
  rw [f_X2_reckon] at h
  refine go_aload_n K dX2_reckon_0 0 rfl rfl ?_
  refine go_iconst (v := (0 : Int32)) K dX2_reckon_1 (by decide) ?_
  refine pf_X2 K 0 (by decide) kf_X2_24 rfl rfl rfl dX2_reckon_2 ?_
  refine go_aload_n K dX2_reckon_5 0 rfl rfl ?_
  refine go_iconst (v := (5 : Int32)) K dX2_reckon_6 (by decide) ?_
  refine go_aload_n K dX2_reckon_7 1 rfl rfl ?_
  refine gf_X7 K ht 0 (by decide) kf_X2_28 (v := .int ((up2 C 417 0 (0 : Int32)) t 0)) rfl dX2_reckon_8 ?_
  refine go_cSI K (c_J9_min_7cf53 l G _ _ _ _ rfl) cf_J9_min_7cf53 kt_J9_min_7cf53 km_X2_33 (by decide) rfl rfl (Nat.le_of_ble_eq_true rfl) dX2_reckon_11 ?_
  obtain ⟨C1, e1, h⟩ := bnd_e h
  refine go_cVV K (c_X2_listTwos l G _ _ _ _ e1) cf_X2_listTwos cv_X2_listTwos km_X2_39 rv_X2 (by decide) rfl rfl (Nat.le_of_ble_eq_true rfl) dX2_reckon_14 ?_
  refine go_iconst (v := (0 : Int32)) K dX2_reckon_17 (by decide) ?_
  refine go_istore_n K dX2_reckon_18 rfl (by decide) (lv' := [(3, .int (0 : Int32)), (0, .ref (gB G + 417)), (1, .ref (gB G + t)), (2, .ref (gB G + a))]) rfl ?_
  exact go_sub [1, 2, 3, 0] rfl (hl19 FU _ _ h)
noncomputable def X2_sureOf_j43 (v3 : Int32) (C : CM) : Option Int32 := (gd (inb v3 10) (if (C 420 v3.toNatClampNeg) = (C 417 0) then (some (1 : Int32)) else (gd (inb v3 10) (if (C 420 v3.toNatClampNeg) = 0 then (some (0 : Int32)) else (some (-1 : Int32))))))
noncomputable def X2_sureOf_j75 (rc : Int32 → Int32 → Int32 → CM → Option Int32) (k43 : Int32 → CM → Option Int32) (v1 : Int32) (v2 : Int32) (v3 : Int32) (C : CM) : Option Int32 := (rc v1 v2 (v3 + (1 : Int32)) C)
noncomputable def X2_sureOf_l2 (k43 : Int32 → CM → Option Int32) : Nat → Int32 → Int32 → Int32 → CM → Option Int32
  | 0, _, _, _, _ => none
  | n + 1, v1, v2, v3, C => (if (C 417 1) ≤ v3 then (some (-1 : Int32)) else (if (10 : Int32) ≤ v3 then (some (-1 : Int32)) else (gd (inb v3 10) (if (C 418 v3.toNatClampNeg) = v1 then (gd (inb v3 10) (if (C 419 v3.toNatClampNeg) = v2 then (if (C 417 0) ≤ 0 then (X2_sureOf_j75 (fun v1 v2 v3 C => X2_sureOf_l2 k43 n v1 v2 v3 C) k43 v1 v2 v3 C) else (k43 v3 C)) else (X2_sureOf_j75 (fun v1 v2 v3 C => X2_sureOf_l2 k43 n v1 v2 v3 C) k43 v1 v2 v3 C))) else (X2_sureOf_j75 (fun v1 v2 v3 C => X2_sureOf_l2 k43 n v1 v2 v3 C) k43 v1 v2 v3 C)))))
noncomputable def f_X2_sureOf (v1 : Int32) (v2 : Int32) (C : CM) : Option Int32 := (X2_sureOf_l2 (fun v3 C => (X2_sureOf_j43 v3 C)) FU v1 v2 (0 : Int32) C)
theorem cf_X2_sureOf : CF yX2_sureOf cX2_sureOf 4 (Option.some Jvm.ClassFile.FieldType.int) 2 := ⟨kc_X2_sureOf, kj_X2, ⟨by decide +kernel, by decide +kernel, by decide +kernel⟩, by decide⟩
theorem cv_X2_sureOf : CFv yX2_sureOf := ⟨ki_X2_sureOf, ks_X2_sureOf⟩
set_option maxHeartbeats 4000000 in
set_option maxRecDepth 100000 in
theorem c_X2_sureOf (l : Launch) (G : GT) (v1 : Int32) (v2 : Int32) (C : CM) (O : OM) (res : Int32) (h : f_X2_sureOf v1 v2 C = some res) : MI l G yX2_sureOf cX2_sureOf 4 (Option.some Jvm.ClassFile.FieldType.int) (1) [.ref (gB G + 417), .int v1, .int v2] (C, O) res (C, O) := by
  unfold MI
  refine met_in RX2 (by decide +kernel) rfl [(0, .ref (gB G + 417)), (1, .int v1), (2, .int v2)] rfl (Nat.le_of_ble_eq_true rfl) ?_
  intro pM eM sM mM aM bM meM cM K hr
  have hj43 : ∀ (v3 : Int32), X2_sureOf_j43 v3 C = some res → GO pM l eM (1) sM mM aM bM meM cM (MQ bM (va_Qi (fun (r' : Int32) (u : CM × OM) => r' = res ∧ u = (C, O)) (wB G) (Fr G)) aM sM 0 0 (Fr G)) G 4 (C, O) 43 [(0, .ref (gB G + 417)), (3, .int v3)] [] := by
    intro v3 h
    rw [X2_sureOf_j43] at h
    refine go_aload_n K dX2_sureOf_43 0 rfl rfl ?_
    refine gf_X2 K 4 (by decide) kf_X2_18 (v := .ref (gB G + 420)) rfl dX2_sureOf_44 ?_
    refine go_iload_n K dX2_sureOf_47 1 rfl rfl ?_
    obtain ⟨g8, h⟩ := gd_e h
    refine go_cald K (Nat.le_of_ble_eq_true rfl) sh_420 g8 rfl dX2_sureOf_48 ?_
    refine go_aload_n K dX2_sureOf_49 0 rfl rfl ?_
    refine gf_X2 K 0 (by decide) kf_X2_24 (v := .int (C 417 0)) rfl dX2_sureOf_50 ?_
    refine go_icmp_ne (tgt := 60) K dX2_sureOf_53 (by decide) (fun c9 => ?_) (fun c9 => ?_)
    rotate_left
    · replace h := ite_t h c9
      refine go_iconst (v := (1 : Int32)) K dX2_sureOf_56 (by decide) ?_
      refine go_goto (tgt := 74) K dX2_sureOf_57 (by decide) ?_
      exact go_iret K hr (Option.some.inj h) rfl dX2_sureOf_74
    replace h := ite_f h c9
    refine go_aload_n K dX2_sureOf_60 0 rfl rfl ?_
    refine gf_X2 K 4 (by decide) kf_X2_18 (v := .ref (gB G + 420)) rfl dX2_sureOf_61 ?_
    refine go_iload_n K dX2_sureOf_64 1 rfl rfl ?_
    obtain ⟨g10, h⟩ := gd_e h
    refine go_cald K (Nat.le_of_ble_eq_true rfl) sh_420 g10 rfl dX2_sureOf_65 ?_
    refine go_if_ne (tgt := 73) K dX2_sureOf_66 (by decide) (fun c11 => ?_) (fun c11 => ?_)
    · replace h := ite_f h c11
      refine go_iconst (v := (-1 : Int32)) K dX2_sureOf_73 (by decide) ?_
      exact go_iret K hr (Option.some.inj h) rfl dX2_sureOf_74
    replace h := ite_t h c11
    refine go_iconst (v := (0 : Int32)) K dX2_sureOf_69 (by decide) ?_
    refine go_goto (tgt := 74) K dX2_sureOf_70 (by decide) ?_
    exact go_iret K hr (Option.some.inj h) rfl dX2_sureOf_74
  have hl2 : ∀ (n2 : Nat) (v1 : Int32) (v2 : Int32) (v3 : Int32), X2_sureOf_l2 (fun v3 C => (X2_sureOf_j43 v3 C)) n2 v1 v2 v3 C = some res → GO pM l eM (1) sM mM aM bM meM cM (MQ bM (va_Qi (fun (r' : Int32) (u : CM × OM) => r' = res ∧ u = (C, O)) (wB G) (Fr G)) aM sM 0 0 (Fr G)) G 4 (C, O) 2 [(0, .ref (gB G + 417)), (1, .int v1), (2, .int v2), (3, .int v3)] [] := by
    intro n2
    induction n2 with
    | zero =>
      intro v1 v2 v3 h
      rw [X2_sureOf_l2] at h
      cases h
    | succ n2 ih2 =>
      have hj75 : ∀ (v1 : Int32) (v2 : Int32) (v3 : Int32), X2_sureOf_j75 (fun v1 v2 v3 C => X2_sureOf_l2 (fun v3 C => (X2_sureOf_j43 v3 C)) n2 v1 v2 v3 C) (fun v3 C => (X2_sureOf_j43 v3 C)) v1 v2 v3 C = some res → GO pM l eM (1) sM mM aM bM meM cM (MQ bM (va_Qi (fun (r' : Int32) (u : CM × OM) => r' = res ∧ u = (C, O)) (wB G) (Fr G)) aM sM 0 0 (Fr G)) G 4 (C, O) 75 [(0, .ref (gB G + 417)), (1, .int v1), (2, .int v2), (3, .int v3)] [] := by
        intro v1 v2 v3 h
        rw [X2_sureOf_j75] at h
        refine go_iinc K dX2_sureOf_75 3 rfl (v := (v3 + (1 : Int32))) rfl (by decide) (lv' := [(3, .int (v3 + (1 : Int32))), (0, .ref (gB G + 417)), (1, .int v1), (2, .int v2)]) rfl ?_
        refine go_goto (tgt := 2) K dX2_sureOf_78 (by decide) ?_
        exact go_sub [1, 2, 3, 0] rfl (ih2 _ _ _ h)
      intro v1 v2 v3 h
      rw [X2_sureOf_l2] at h
      refine go_iload_n K dX2_sureOf_2 3 rfl rfl ?_
      refine go_aload_n K dX2_sureOf_3 0 rfl rfl ?_
      refine gf_X2 K 1 (by decide) kf_X2_43 (v := .int (C 417 1)) rfl dX2_sureOf_4 ?_
      refine go_icmp_ge (tgt := 81) K dX2_sureOf_7 (by decide) (fun c1 => ?_) (fun c1 => ?_)
      · replace h := ite_t h c1
        refine go_iconst (v := (-1 : Int32)) K dX2_sureOf_81 (by decide) ?_
        exact go_iret K hr (Option.some.inj h) rfl dX2_sureOf_82
      replace h := ite_f h c1
      refine go_iload_n K dX2_sureOf_10 3 rfl rfl ?_
      refine go_bipush (v := (10 : Int32)) K dX2_sureOf_11 (by decide) ?_
      refine go_icmp_ge (tgt := 81) K dX2_sureOf_13 (by decide) (fun c2 => ?_) (fun c2 => ?_)
      · replace h := ite_t h c2
        refine go_iconst (v := (-1 : Int32)) K dX2_sureOf_81 (by decide) ?_
        exact go_iret K hr (Option.some.inj h) rfl dX2_sureOf_82
      replace h := ite_f h c2
      refine go_aload_n K dX2_sureOf_16 0 rfl rfl ?_
      refine gf_X2 K 2 (by decide) kf_X2_11 (v := .ref (gB G + 418)) rfl dX2_sureOf_17 ?_
      refine go_iload_n K dX2_sureOf_20 3 rfl rfl ?_
      obtain ⟨g3, h⟩ := gd_e h
      refine go_cald K (Nat.le_of_ble_eq_true rfl) sh_418 g3 rfl dX2_sureOf_21 ?_
      refine go_iload_n K dX2_sureOf_22 1 rfl rfl ?_
      refine go_icmp_ne (tgt := 75) K dX2_sureOf_23 (by decide) (fun c4 => ?_) (fun c4 => ?_)
      · replace h := ite_f h c4
        exact hj75 _ _ _ h
      replace h := ite_t h c4
      refine go_aload_n K dX2_sureOf_26 0 rfl rfl ?_
      refine gf_X2 K 3 (by decide) kf_X2_15 (v := .ref (gB G + 419)) rfl dX2_sureOf_27 ?_
      refine go_iload_n K dX2_sureOf_30 3 rfl rfl ?_
      obtain ⟨g5, h⟩ := gd_e h
      refine go_cald K (Nat.le_of_ble_eq_true rfl) sh_419 g5 rfl dX2_sureOf_31 ?_
      refine go_iload_n K dX2_sureOf_32 2 rfl rfl ?_
      refine go_icmp_ne (tgt := 75) K dX2_sureOf_33 (by decide) (fun c6 => ?_) (fun c6 => ?_)
      · replace h := ite_f h c6
        exact hj75 _ _ _ h
      replace h := ite_t h c6
      refine go_aload_n K dX2_sureOf_36 0 rfl rfl ?_
      refine gf_X2 K 0 (by decide) kf_X2_24 (v := .int (C 417 0)) rfl dX2_sureOf_37 ?_
      refine go_if_le (tgt := 75) K dX2_sureOf_40 (by decide) (fun c7 => ?_) (fun c7 => ?_)
      · replace h := ite_t h c7
        exact hj75 _ _ _ h
      replace h := ite_f h c7
      exact go_sub [0, 3] rfl (hj43 _ h)
  rw [f_X2_sureOf] at h
  refine go_iconst (v := (0 : Int32)) K dX2_sureOf_0 (by decide) ?_
  refine go_istore_n K dX2_sureOf_1 rfl (by decide) (lv' := [(3, .int (0 : Int32)), (0, .ref (gB G + 417)), (1, .int v1), (2, .int v2)]) rfl ?_
  exact go_sub [1, 2, 3, 0] rfl (hl2 FU _ _ _ h)
noncomputable def X2_mostOpen_j74 (rc : Int32 → Int32 → Int32 → CM → Option Int32) (v1 : Int32) (v2 : Int32) (v3 : Int32) (C : CM) : Option Int32 := (rc v1 v2 (v3 + (1 : Int32)) C)
noncomputable def X2_mostOpen_l7 : Nat → Int32 → Int32 → Int32 → CM → Option Int32
  | 0, _, _, _, _ => none
  | n + 1, v1, v2, v3, C => (if (C 417 1) ≤ v3 then (some v1) else (if (10 : Int32) ≤ v3 then (some v1) else (gd (inb v3 10) (if v2 ≤ (f_J9_abs_0f7a4 (((2 : Int32) * (C 420 v3.toNatClampNeg)) - (C 417 0))) then (X2_mostOpen_j74 (fun v1 v2 v3 C => X2_mostOpen_l7 n v1 v2 v3 C) v1 v2 v3 C) else (if (C 417 0) ≤ (f_J9_abs_0f7a4 (((2 : Int32) * (C 420 v3.toNatClampNeg)) - (C 417 0))) then (X2_mostOpen_j74 (fun v1 v2 v3 C => X2_mostOpen_l7 n v1 v2 v3 C) v1 v2 v3 C) else (gd (inb v3 10) (gd (inb v3 10) (X2_mostOpen_j74 (fun v1 v2 v3 C => X2_mostOpen_l7 n v1 v2 v3 C) (((10 : Int32) * (C 418 v3.toNatClampNeg)) + (C 419 v3.toNatClampNeg)) (f_J9_abs_0f7a4 (((2 : Int32) * (C 420 v3.toNatClampNeg)) - (C 417 0))) v3 C))))))))
noncomputable def f_X2_mostOpen (C : CM) : Option Int32 := (X2_mostOpen_l7 FU (-1 : Int32) (2147483647 : Int32) (0 : Int32) C)
theorem cf_X2_mostOpen : CF yX2_mostOpen cX2_mostOpen 5 (Option.some Jvm.ClassFile.FieldType.int) 0 := ⟨kc_X2_mostOpen, kj_X2, ⟨by decide +kernel, by decide +kernel, by decide +kernel⟩, by decide⟩
theorem cv_X2_mostOpen : CFv yX2_mostOpen := ⟨ki_X2_mostOpen, ks_X2_mostOpen⟩
set_option maxHeartbeats 4000000 in
set_option maxRecDepth 100000 in
theorem c_X2_mostOpen (l : Launch) (G : GT) (C : CM) (O : OM) (res : Int32) (h : f_X2_mostOpen C = some res) : MI l G yX2_mostOpen cX2_mostOpen 5 (Option.some Jvm.ClassFile.FieldType.int) (2) [.ref (gB G + 417)] (C, O) res (C, O) := by
  unfold MI
  refine met_in RX2 (by decide +kernel) rfl [(0, .ref (gB G + 417))] rfl (Nat.le_of_ble_eq_true rfl) ?_
  intro pM eM sM mM aM bM meM cM K hr
  have hl7 : ∀ (n7 : Nat) (v1 : Int32) (v2 : Int32) (v3 : Int32), X2_mostOpen_l7 n7 v1 v2 v3 C = some res → GO pM l eM (2) sM mM aM bM meM cM (MQ bM (va_Qi (fun (r' : Int32) (u : CM × OM) => r' = res ∧ u = (C, O)) (wB G) (Fr G)) aM sM 0 0 (Fr G)) G 5 (C, O) 7 [(0, .ref (gB G + 417)), (1, .int v1), (2, .int v2), (3, .int v3)] [] := by
    intro n7
    induction n7 with
    | zero =>
      intro v1 v2 v3 h
      rw [X2_mostOpen_l7] at h
      cases h
    | succ n7 ih7 =>
      have hj74 : ∀ (v1 : Int32) (v2 : Int32) (v3 : Int32), X2_mostOpen_j74 (fun v1 v2 v3 C => X2_mostOpen_l7 n7 v1 v2 v3 C) v1 v2 v3 C = some res → GO pM l eM (2) sM mM aM bM meM cM (MQ bM (va_Qi (fun (r' : Int32) (u : CM × OM) => r' = res ∧ u = (C, O)) (wB G) (Fr G)) aM sM 0 0 (Fr G)) G 5 (C, O) 74 [(0, .ref (gB G + 417)), (1, .int v1), (2, .int v2), (3, .int v3)] [] := by
        intro v1 v2 v3 h
        rw [X2_mostOpen_j74] at h
        refine go_iinc K dX2_mostOpen_74 3 rfl (v := (v3 + (1 : Int32))) rfl (by decide) (lv' := [(3, .int (v3 + (1 : Int32))), (0, .ref (gB G + 417)), (1, .int v1), (2, .int v2)]) rfl ?_
        refine go_goto (tgt := 7) K dX2_mostOpen_77 (by decide) ?_
        exact go_sub [1, 2, 3, 0] rfl (ih7 _ _ _ h)
      intro v1 v2 v3 h
      rw [X2_mostOpen_l7] at h
      refine go_iload_n K dX2_mostOpen_7 3 rfl rfl ?_
      refine go_aload_n K dX2_mostOpen_8 0 rfl rfl ?_
      refine gf_X2 K 1 (by decide) kf_X2_43 (v := .int (C 417 1)) rfl dX2_mostOpen_9 ?_
      refine go_icmp_ge (tgt := 80) K dX2_mostOpen_12 (by decide) (fun c1 => ?_) (fun c1 => ?_)
      · replace h := ite_t h c1
        refine go_iload_n K dX2_mostOpen_80 1 rfl rfl ?_
        exact go_iret K hr (Option.some.inj h) rfl dX2_mostOpen_81
      replace h := ite_f h c1
      refine go_iload_n K dX2_mostOpen_15 3 rfl rfl ?_
      refine go_bipush (v := (10 : Int32)) K dX2_mostOpen_16 (by decide) ?_
      refine go_icmp_ge (tgt := 80) K dX2_mostOpen_18 (by decide) (fun c2 => ?_) (fun c2 => ?_)
      · replace h := ite_t h c2
        refine go_iload_n K dX2_mostOpen_80 1 rfl rfl ?_
        exact go_iret K hr (Option.some.inj h) rfl dX2_mostOpen_81
      replace h := ite_f h c2
      refine go_iconst (v := (2 : Int32)) K dX2_mostOpen_21 (by decide) ?_
      refine go_aload_n K dX2_mostOpen_22 0 rfl rfl ?_
      refine gf_X2 K 4 (by decide) kf_X2_18 (v := .ref (gB G + 420)) rfl dX2_mostOpen_23 ?_
      refine go_iload_n K dX2_mostOpen_26 3 rfl rfl ?_
      obtain ⟨g3, h⟩ := gd_e h
      refine go_cald K (Nat.le_of_ble_eq_true rfl) sh_420 g3 rfl dX2_mostOpen_27 ?_
      refine go_imul K dX2_mostOpen_28 ?_
      refine go_aload_n K dX2_mostOpen_29 0 rfl rfl ?_
      refine gf_X2 K 0 (by decide) kf_X2_24 (v := .int (C 417 0)) rfl dX2_mostOpen_30 ?_
      refine go_isub K dX2_mostOpen_33 ?_
      refine go_cSI K (c_J9_abs_0f7a4 l G _ _ _ rfl) cf_J9_abs_0f7a4 kt_J9_abs_0f7a4 km_X2_70 (by decide) rfl rfl (Nat.le_of_ble_eq_true rfl) dX2_mostOpen_34 ?_
      refine go_istore K dX2_mostOpen_37 (by decide) (lv' := [(4, .int (f_J9_abs_0f7a4 (((2 : Int32) * (C 420 v3.toNatClampNeg)) - (C 417 0)))), (0, .ref (gB G + 417)), (1, .int v1), (2, .int v2), (3, .int v3)]) rfl ?_
      refine go_iload K dX2_mostOpen_39 0 rfl ?_
      refine go_iload_n K dX2_mostOpen_41 3 rfl rfl ?_
      refine go_icmp_ge (tgt := 74) K dX2_mostOpen_42 (by decide) (fun c4 => ?_) (fun c4 => ?_)
      · replace h := ite_t h c4
        exact go_sub [1, 2, 3, 4] rfl (hj74 _ _ _ h)
      replace h := ite_f h c4
      refine go_iload K dX2_mostOpen_45 0 rfl ?_
      refine go_aload_n K dX2_mostOpen_47 1 rfl rfl ?_
      refine gf_X2 K 0 (by decide) kf_X2_24 (v := .int (C 417 0)) rfl dX2_mostOpen_48 ?_
      refine go_icmp_ge (tgt := 74) K dX2_mostOpen_51 (by decide) (fun c5 => ?_) (fun c5 => ?_)
      · replace h := ite_t h c5
        exact go_sub [1, 2, 3, 4] rfl (hj74 _ _ _ h)
      replace h := ite_f h c5
      refine go_iload K dX2_mostOpen_54 0 rfl ?_
      refine go_istore_n K dX2_mostOpen_56 rfl (by decide) (lv' := [(2, .int (f_J9_abs_0f7a4 (((2 : Int32) * (C 420 v3.toNatClampNeg)) - (C 417 0)))), (4, .int (f_J9_abs_0f7a4 (((2 : Int32) * (C 420 v3.toNatClampNeg)) - (C 417 0)))), (0, .ref (gB G + 417)), (1, .int v1), (3, .int v3)]) rfl ?_
      refine go_bipush (v := (10 : Int32)) K dX2_mostOpen_57 (by decide) ?_
      refine go_aload_n K dX2_mostOpen_59 2 rfl rfl ?_
      refine gf_X2 K 2 (by decide) kf_X2_11 (v := .ref (gB G + 418)) rfl dX2_mostOpen_60 ?_
      refine go_iload_n K dX2_mostOpen_63 4 rfl rfl ?_
      obtain ⟨g6, h⟩ := gd_e h
      refine go_cald K (Nat.le_of_ble_eq_true rfl) sh_418 g6 rfl dX2_mostOpen_64 ?_
      refine go_imul K dX2_mostOpen_65 ?_
      refine go_aload_n K dX2_mostOpen_66 2 rfl rfl ?_
      refine gf_X2 K 3 (by decide) kf_X2_15 (v := .ref (gB G + 419)) rfl dX2_mostOpen_67 ?_
      refine go_iload_n K dX2_mostOpen_70 4 rfl rfl ?_
      obtain ⟨g7, h⟩ := gd_e h
      refine go_cald K (Nat.le_of_ble_eq_true rfl) sh_419 g7 rfl dX2_mostOpen_71 ?_
      refine go_iadd K dX2_mostOpen_72 ?_
      refine go_istore_n K dX2_mostOpen_73 rfl (by decide) (lv' := [(1, .int (((10 : Int32) * (C 418 v3.toNatClampNeg)) + (C 419 v3.toNatClampNeg))), (2, .int (f_J9_abs_0f7a4 (((2 : Int32) * (C 420 v3.toNatClampNeg)) - (C 417 0)))), (4, .int (f_J9_abs_0f7a4 (((2 : Int32) * (C 420 v3.toNatClampNeg)) - (C 417 0)))), (0, .ref (gB G + 417)), (3, .int v3)]) rfl ?_
      exact go_sub [3, 0, 1, 4] rfl (hj74 _ _ _ h)
  rw [f_X2_mostOpen] at h
  refine go_iconst (v := (-1 : Int32)) K dX2_mostOpen_0 (by decide) ?_
  refine go_istore_n K dX2_mostOpen_1 rfl (by decide) (lv' := [(1, .int (-1 : Int32)), (0, .ref (gB G + 417))]) rfl ?_
  refine go_ldc K kk_X2_69 dX2_mostOpen_2 ?_
  refine go_istore_n K dX2_mostOpen_4 rfl (by decide) (lv' := [(2, .int (2147483647 : Int32)), (1, .int (-1 : Int32)), (0, .ref (gB G + 417))]) rfl ?_
  refine go_iconst (v := (0 : Int32)) K dX2_mostOpen_5 (by decide) ?_
  refine go_istore_n K dX2_mostOpen_6 rfl (by decide) (lv' := [(3, .int (0 : Int32)), (2, .int (2147483647 : Int32)), (1, .int (-1 : Int32)), (0, .ref (gB G + 417))]) rfl ?_
  exact go_sub [3, 2, 1, 0] rfl (hl7 FU _ _ _ h)
noncomputable def f_X4_is (v1 : Int32) (C : CM) : Int32 := (if (C 406 1) = 0 then (if (C 404 2) = v1 then (1 : Int32) else (0 : Int32)) else (0 : Int32))
theorem cf_X4_is : CF yX4_is cX4_is 2 (Option.some Jvm.ClassFile.FieldType.boolean) 1 := ⟨kc_X4_is, kj_X4, ⟨by decide +kernel, by decide +kernel, by decide +kernel⟩, by decide⟩
theorem cv_X4_is : CFv yX4_is := ⟨ki_X4_is, ks_X4_is⟩
set_option maxHeartbeats 4000000 in
set_option maxRecDepth 100000 in
theorem c_X4_is (l : Launch) (G : GT) (v1 : Int32) (C : CM) (O : OM) (res : Int32) (h : f_X4_is v1 C = res) : MI l G yX4_is cX4_is 2 (Option.some Jvm.ClassFile.FieldType.boolean) (1) [.ref (gB G + 406), .int v1] (C, O) res (C, O) := by
  unfold MI
  refine met_in RX4 (by decide +kernel) rfl [(0, .ref (gB G + 406)), (1, .int v1)] rfl (Nat.le_of_ble_eq_true rfl) ?_
  intro pM eM sM mM aM bM meM cM K hr
  rw [f_X4_is] at h
  refine go_aload_n K dX4_is_0 0 rfl rfl ?_
  refine gf_X4 K 1 (by decide) kf_X4_18 (v := .int (C 406 1)) rfl dX4_is_1 ?_
  refine go_if_ne (tgt := 22) K dX4_is_4 (by decide) (fun c1 => ?_) (fun c1 => ?_)
  · replace h := ite_f h c1
    refine go_iconst (v := (0 : Int32)) K dX4_is_22 (by decide) ?_
    exact go_zret K hr (by decide) h rfl dX4_is_23
  replace h := ite_t h c1
  refine go_aload_n K dX4_is_7 0 rfl rfl ?_
  refine gf_X4 K 3 (by decide) kf_X4_25 (v := .ref (gB G + 404)) rfl dX4_is_8 ?_
  refine gf_X8 K 2 (by decide) kf_X4_44 (v := .int (C 404 2)) rfl dX4_is_11 ?_
  refine go_iload_n K dX4_is_14 1 rfl rfl ?_
  refine go_icmp_ne (tgt := 22) K dX4_is_15 (by decide) (fun c2 => ?_) (fun c2 => ?_)
  · replace h := ite_f h c2
    refine go_iconst (v := (0 : Int32)) K dX4_is_22 (by decide) ?_
    exact go_zret K hr (by decide) h rfl dX4_is_23
  replace h := ite_t h c2
  refine go_iconst (v := (1 : Int32)) K dX4_is_18 (by decide) ?_
  refine go_goto (tgt := 23) K dX4_is_19 (by decide) ?_
  exact go_zret K hr (by decide) h rfl dX4_is_23
noncomputable def f_X4_fail (v1 : Int32) (C : CM) : Option CM := (if (C 406 1) = 0 then (some (up2 (up2 C 406 1 v1) 406 2 ((up2 C 406 1 v1) 404 4))) else (some C))
theorem cf_X4_fail : CF yX4_fail cX4_fail 2 (Option.none : Option Jvm.ClassFile.FieldType) 1 := ⟨kc_X4_fail, kj_X4, ⟨by decide +kernel, by decide +kernel, by decide +kernel⟩, by decide⟩
theorem cv_X4_fail : CFv yX4_fail := ⟨ki_X4_fail, ks_X4_fail⟩
set_option maxHeartbeats 4000000 in
set_option maxRecDepth 100000 in
theorem c_X4_fail (l : Launch) (G : GT) (v1 : Int32) (C : CM) (O : OM) (C' : CM) (h : f_X4_fail v1 C = some C') : MV l G yX4_fail cX4_fail 2 (Option.none : Option Jvm.ClassFile.FieldType) (1) [.ref (gB G + 406), .int v1] (C, O) (C', O) := by
  unfold MV
  refine met_in RX4 (by decide +kernel) rfl [(0, .ref (gB G + 406)), (1, .int v1)] rfl (Nat.le_of_ble_eq_true rfl) ?_
  intro pM eM sM mM aM bM meM cM K hr
  rw [f_X4_fail] at h
  refine go_aload_n K dX4_fail_0 0 rfl rfl ?_
  refine gf_X4 K 1 (by decide) kf_X4_18 (v := .int (C 406 1)) rfl dX4_fail_1 ?_
  refine go_if_ne (tgt := 23) K dX4_fail_4 (by decide) (fun c1 => ?_) (fun c1 => ?_)
  · replace h := ite_f h c1
    exact go_vret K hr (congrArg (fun z => (z, O)) (Option.some.inj h)) dX4_fail_23
  replace h := ite_t h c1
  refine go_aload_n K dX4_fail_7 0 rfl rfl ?_
  refine go_iload_n K dX4_fail_8 1 rfl rfl ?_
  refine pf_X4 K 1 (by decide) kf_X4_18 rfl rfl rfl dX4_fail_9 ?_
  refine go_aload_n K dX4_fail_12 0 rfl rfl ?_
  refine go_aload_n K dX4_fail_13 0 rfl rfl ?_
  refine gf_X4 K 3 (by decide) kf_X4_25 (v := .ref (gB G + 404)) rfl dX4_fail_14 ?_
  refine gf_X8 K 4 (by decide) kf_X4_47 (v := .int ((up2 C 406 1 v1) 404 4)) rfl dX4_fail_17 ?_
  refine pf_X4 K 2 (by decide) kf_X4_22 rfl rfl rfl dX4_fail_20 ?_
  exact go_vret K hr (congrArg (fun z => (z, O)) (Option.some.inj h)) dX4_fail_23
noncomputable def f_X4_expect (v1 : Int32) (C : CM) : Option CM := (if (f_X4_is v1 C) = 0 then (bnd (f_X4_fail (1 : Int32) C) (fun C2 => (some C2))) else (bnd (f_X8_next C) (fun C3 => (some C3))))
theorem cf_X4_expect : CF yX4_expect cX4_expect 2 (Option.none : Option Jvm.ClassFile.FieldType) 1 := ⟨kc_X4_expect, kj_X4, ⟨by decide +kernel, by decide +kernel, by decide +kernel⟩, by decide⟩
theorem cv_X4_expect : CFv yX4_expect := ⟨ki_X4_expect, ks_X4_expect⟩
set_option maxHeartbeats 4000000 in
set_option maxRecDepth 100000 in
theorem c_X4_expect (l : Launch) (G : GT) (v1 : Int32) (C : CM) (O : OM) (C' : CM) (h : f_X4_expect v1 C = some C') : MV l G yX4_expect cX4_expect 2 (Option.none : Option Jvm.ClassFile.FieldType) (9) [.ref (gB G + 406), .int v1] (C, O) (C', O) := by
  unfold MV
  refine met_in RX4 (by decide +kernel) rfl [(0, .ref (gB G + 406)), (1, .int v1)] rfl (Nat.le_of_ble_eq_true rfl) ?_
  intro pM eM sM mM aM bM meM cM K hr
  rw [f_X4_expect] at h
  refine go_aload_n K dX4_expect_0 0 rfl rfl ?_
  refine go_iload_n K dX4_expect_1 1 rfl rfl ?_
  refine go_cVI K (c_X4_is l G _ _ _ _ rfl) cf_X4_is cv_X4_is km_X4_37 rv_X4 (by decide) rfl rfl (Nat.le_of_ble_eq_true rfl) dX4_expect_2 ?_
  refine go_if_eq (tgt := 18) K dX4_expect_5 (by decide) (fun c1 => ?_) (fun c1 => ?_)
  · replace h := ite_t h c1
    refine go_aload_n K dX4_expect_18 0 rfl rfl ?_
    refine go_iconst (v := (1 : Int32)) K dX4_expect_19 (by decide) ?_
    obtain ⟨C2, e2, h⟩ := bnd_e h
    refine go_cVV K (c_X4_fail l G _ _ _ _ e2) cf_X4_fail cv_X4_fail km_X4_53 rv_X4 (by decide) rfl rfl (Nat.le_of_ble_eq_true rfl) dX4_expect_20 ?_
    exact go_vret K hr (congrArg (fun z => (z, O)) (Option.some.inj h)) dX4_expect_23
  replace h := ite_f h c1
  refine go_aload_n K dX4_expect_8 0 rfl rfl ?_
  refine gf_X4 K 3 (by decide) kf_X4_25 (v := .ref (gB G + 404)) rfl dX4_expect_9 ?_
  obtain ⟨C3, e3, h⟩ := bnd_e h
  refine go_cVV K (c_X8_next l G _ _ _ e3) cf_X8_next cv_X8_next km_X4_50 rv_X8 (by decide) rfl rfl (Nat.le_of_ble_eq_true rfl) dX4_expect_12 ?_
  refine go_goto (tgt := 23) K dX4_expect_15 (by decide) ?_
  exact go_vret K hr (congrArg (fun z => (z, O)) (Option.some.inj h)) dX4_expect_23
noncomputable def f_X4_readNumber (v1 : Int32) (v2 : Int32) (v3 : Int32) (C : CM) : Option CM := (if (f_X4_is (2 : Int32) C) = 0 then (bnd (f_X4_fail (1 : Int32) C) (fun C6 => (some C6))) else (if (f_X11_within (C 404 3) v2 v3) = 0 then (bnd (f_X4_fail (2 : Int32) C) (fun C5 => (some C5))) else (bnd (f_X6_tellNumber 407 v1 (C 404 3) C) (fun C3 => (bnd (f_X8_next C3) (fun C4 => (some C4)))))))
theorem cf_X4_readNumber : CF yX4_readNumber cX4_readNumber 4 (Option.none : Option Jvm.ClassFile.FieldType) 3 := ⟨kc_X4_readNumber, kj_X4, ⟨by decide +kernel, by decide +kernel, by decide +kernel⟩, by decide⟩
theorem cv_X4_readNumber : CFv yX4_readNumber := ⟨ki_X4_readNumber, ks_X4_readNumber⟩
set_option maxHeartbeats 4000000 in
set_option maxRecDepth 100000 in
theorem c_X4_readNumber (l : Launch) (G : GT) (v1 : Int32) (v2 : Int32) (v3 : Int32) (C : CM) (O : OM) (C' : CM) (h : f_X4_readNumber v1 v2 v3 C = some C') : MV l G yX4_readNumber cX4_readNumber 4 (Option.none : Option Jvm.ClassFile.FieldType) (9) [.ref (gB G + 406), .int v1, .int v2, .int v3] (C, O) (C', O) := by
  unfold MV
  refine met_in RX4 (by decide +kernel) rfl [(0, .ref (gB G + 406)), (1, .int v1), (2, .int v2), (3, .int v3)] rfl (Nat.le_of_ble_eq_true rfl) ?_
  intro pM eM sM mM aM bM meM cM K hr
  rw [f_X4_readNumber] at h
  refine go_aload_n K dX4_readNumber_0 0 rfl rfl ?_
  refine go_iconst (v := (2 : Int32)) K dX4_readNumber_1 (by decide) ?_
  refine go_cVI K (c_X4_is l G _ _ _ _ rfl) cf_X4_is cv_X4_is km_X4_37 rv_X4 (by decide) rfl rfl (Nat.le_of_ble_eq_true rfl) dX4_readNumber_2 ?_
  refine go_if_ne (tgt := 16) K dX4_readNumber_5 (by decide) (fun c1 => ?_) (fun c1 => ?_)
  rotate_left
  · replace h := ite_t h c1
    refine go_aload_n K dX4_readNumber_8 0 rfl rfl ?_
    refine go_iconst (v := (1 : Int32)) K dX4_readNumber_9 (by decide) ?_
    obtain ⟨C6, e6, h⟩ := bnd_e h
    refine go_cVV K (c_X4_fail l G _ _ _ _ e6) cf_X4_fail cv_X4_fail km_X4_53 rv_X4 (by decide) rfl rfl (Nat.le_of_ble_eq_true rfl) dX4_readNumber_10 ?_
    refine go_goto (tgt := 61) K dX4_readNumber_13 (by decide) ?_
    exact go_vret K hr (congrArg (fun z => (z, O)) (Option.some.inj h)) dX4_readNumber_61
  replace h := ite_f h c1
  refine go_aload_n K dX4_readNumber_16 0 rfl rfl ?_
  refine gf_X4 K 3 (by decide) kf_X4_25 (v := .ref (gB G + 404)) rfl dX4_readNumber_17 ?_
  refine gf_X8 K 3 (by decide) kf_X4_92 (v := .int (C 404 3)) rfl dX4_readNumber_20 ?_
  refine go_iload_n K dX4_readNumber_23 2 rfl rfl ?_
  refine go_iload_n K dX4_readNumber_24 3 rfl rfl ?_
  refine go_cNI K (c_X11_within l G _ _ _ _ _ _ rfl) cf_X11_within kt_X11_within (List.mem_of_getElem? (i := 18) rfl) (by decide) rfl rfl (Nat.le_of_ble_eq_true rfl) dX4_readNumber_25 ?_
  refine go_if_ne (tgt := 39) K dX4_readNumber_28 (by decide) (fun c2 => ?_) (fun c2 => ?_)
  rotate_left
  · replace h := ite_t h c2
    refine go_aload_n K dX4_readNumber_31 0 rfl rfl ?_
    refine go_iconst (v := (2 : Int32)) K dX4_readNumber_32 (by decide) ?_
    obtain ⟨C5, e5, h⟩ := bnd_e h
    refine go_cVV K (c_X4_fail l G _ _ _ _ e5) cf_X4_fail cv_X4_fail km_X4_53 rv_X4 (by decide) rfl rfl (Nat.le_of_ble_eq_true rfl) dX4_readNumber_33 ?_
    refine go_goto (tgt := 61) K dX4_readNumber_36 (by decide) ?_
    exact go_vret K hr (congrArg (fun z => (z, O)) (Option.some.inj h)) dX4_readNumber_61
  replace h := ite_f h c2
  refine go_aload_n K dX4_readNumber_39 0 rfl rfl ?_
  refine gf_X4 K 0 (by decide) kf_X4_12 (v := .ref (gB G + 407)) rfl dX4_readNumber_40 ?_
  refine go_iload_n K dX4_readNumber_43 1 rfl rfl ?_
  refine go_aload_n K dX4_readNumber_44 0 rfl rfl ?_
  refine gf_X4 K 3 (by decide) kf_X4_25 (v := .ref (gB G + 404)) rfl dX4_readNumber_45 ?_
  refine gf_X8 K 3 (by decide) kf_X4_92 (v := .int (C 404 3)) rfl dX4_readNumber_48 ?_
  obtain ⟨C3, e3, h⟩ := bnd_e h
  refine go_cVV K (c_X6_tellNumber l G sc_407 _ _ _ _ _ e3) cf_X6_tellNumber cv_X6_tellNumber km_X4_95 (rv_X6 sc_407) (by decide) rfl rfl (Nat.le_of_ble_eq_true rfl) dX4_readNumber_51 ?_
  refine go_aload_n K dX4_readNumber_54 0 rfl rfl ?_
  refine gf_X4 K 3 (by decide) kf_X4_25 (v := .ref (gB G + 404)) rfl dX4_readNumber_55 ?_
  obtain ⟨C4, e4, h⟩ := bnd_e h
  refine go_cVV K (c_X8_next l G _ _ _ e4) cf_X8_next cv_X8_next km_X4_50 rv_X8 (by decide) rfl rfl (Nat.le_of_ble_eq_true rfl) dX4_readNumber_58 ?_
  exact go_vret K hr (congrArg (fun z => (z, O)) (Option.some.inj h)) dX4_readNumber_61
noncomputable def f_X4_readDeed (v1 : Int32) (C : CM) : Option CM := (if v1 = (132 : Int32) then (bnd (f_X4_readNumber (0 : Int32) (0 : Int32) (99 : Int32) C) (fun C2 => (bnd (f_X4_expect (140 : Int32) C2) (fun C3 => (bnd (f_X4_readNumber (1 : Int32) (0 : Int32) (99 : Int32) C3) (fun C4 => (bnd (f_X4_expect (149 : Int32) C4) (fun C5 => (bnd (f_X4_readNumber (2 : Int32) (0 : Int32) (7 : Int32) C5) (fun C6 => (some C6))))))))))) else (if v1 = (133 : Int32) then (bnd (f_X4_readNumber (0 : Int32) (0 : Int32) (6 : Int32) C) (fun C8 => (bnd (f_X4_expect (150 : Int32) C8) (fun C9 => (bnd (f_X4_readNumber (1 : Int32) (0 : Int32) (6 : Int32) C9) (fun C10 => (some C10))))))) else (if v1 = (134 : Int32) then (bnd (f_X4_readNumber (0 : Int32) (0 : Int32) (6 : Int32) C) (fun C12 => (bnd (f_X4_expect (150 : Int32) C12) (fun C13 => (bnd (f_X4_readNumber (1 : Int32) (0 : Int32) (6 : Int32) C13) (fun C14 => (bnd (f_X4_expect (151 : Int32) C14) (fun C15 => (bnd (f_X4_readNumber (2 : Int32) (0 : Int32) (9999 : Int32) C15) (fun C16 => (some C16))))))))))) else (if v1 = (135 : Int32) then (bnd (f_X4_readNumber (0 : Int32) (0 : Int32) (6 : Int32) C) (fun C18 => (some C18))) else (if v1 = (136 : Int32) then (bnd (f_X4_readNumber (0 : Int32) (0 : Int32) (6 : Int32) C) (fun C20 => (some C20))) else (if v1 = (137 : Int32) then (bnd (f_X4_readNumber (0 : Int32) (0 : Int32) (6 : Int32) C) (fun C22 => (bnd (f_X4_expect (152 : Int32) C22) (fun C23 => (bnd (f_X4_readNumber (1 : Int32) (0 : Int32) (6 : Int32) C23) (fun C24 => (bnd (f_X4_expect (152 : Int32) C24) (fun C25 => (bnd (f_X4_readNumber (2 : Int32) (0 : Int32) (6 : Int32) C25) (fun C26 => (some C26))))))))))) else (if v1 = (139 : Int32) then (bnd (f_X4_readNumber (0 : Int32) (1 : Int32) (60 : Int32) C) (fun C28 => (some C28))) else (some C))))))))
theorem cf_X4_readDeed : CF yX4_readDeed cX4_readDeed 2 (Option.none : Option Jvm.ClassFile.FieldType) 1 := ⟨kc_X4_readDeed, kj_X4, ⟨by decide +kernel, by decide +kernel, by decide +kernel⟩, by decide⟩
theorem cv_X4_readDeed : CFv yX4_readDeed := ⟨ki_X4_readDeed, ks_X4_readDeed⟩
set_option maxHeartbeats 4000000 in
set_option maxRecDepth 100000 in
theorem c_X4_readDeed (l : Launch) (G : GT) (v1 : Int32) (C : CM) (O : OM) (C' : CM) (h : f_X4_readDeed v1 C = some C') : MV l G yX4_readDeed cX4_readDeed 2 (Option.none : Option Jvm.ClassFile.FieldType) (10) [.ref (gB G + 406), .int v1] (C, O) (C', O) := by
  unfold MV
  refine met_in RX4 (by decide +kernel) rfl [(0, .ref (gB G + 406)), (1, .int v1)] rfl (Nat.le_of_ble_eq_true rfl) ?_
  intro pM eM sM mM aM bM meM cM K hr
  rw [f_X4_readDeed] at h
  refine go_iload_n K dX4_readDeed_0 1 rfl rfl ?_
  by_cases c1 : v1 = (132 : Int32)
  · refine go_tableIn K dX4_readDeed_1 (by rw [c1]; decide) (by rw [c1]; decide) (off := 47) (by rw [c1]; decide) (tgt := 48) (by decide) ?_
    replace h := ite_t h c1
    refine go_aload_n K dX4_readDeed_48 0 rfl rfl ?_
    refine go_iconst (v := (0 : Int32)) K dX4_readDeed_49 (by decide) ?_
    refine go_iconst (v := (0 : Int32)) K dX4_readDeed_50 (by decide) ?_
    refine go_bipush (v := (99 : Int32)) K dX4_readDeed_51 (by decide) ?_
    obtain ⟨C2, e2, h⟩ := bnd_e h
    refine go_cVV K (c_X4_readNumber l G _ _ _ _ _ _ e2) cf_X4_readNumber cv_X4_readNumber km_X4_88 rv_X4 (by decide) rfl rfl (Nat.le_of_ble_eq_true rfl) dX4_readDeed_53 ?_
    refine go_aload_n K dX4_readDeed_56 0 rfl rfl ?_
    refine go_sipush (v := (140 : Int32)) K dX4_readDeed_57 (by decide) ?_
    obtain ⟨C3, e3, h⟩ := bnd_e h
    refine go_cVV K (c_X4_expect l G _ _ _ _ e3) cf_X4_expect cv_X4_expect km_X4_85 rv_X4 (by decide) rfl rfl (Nat.le_of_ble_eq_true rfl) dX4_readDeed_60 ?_
    refine go_aload_n K dX4_readDeed_63 0 rfl rfl ?_
    refine go_iconst (v := (1 : Int32)) K dX4_readDeed_64 (by decide) ?_
    refine go_iconst (v := (0 : Int32)) K dX4_readDeed_65 (by decide) ?_
    refine go_bipush (v := (99 : Int32)) K dX4_readDeed_66 (by decide) ?_
    obtain ⟨C4, e4, h⟩ := bnd_e h
    refine go_cVV K (c_X4_readNumber l G _ _ _ _ _ _ e4) cf_X4_readNumber cv_X4_readNumber km_X4_88 rv_X4 (by decide) rfl rfl (Nat.le_of_ble_eq_true rfl) dX4_readDeed_68 ?_
    refine go_aload_n K dX4_readDeed_71 0 rfl rfl ?_
    refine go_sipush (v := (149 : Int32)) K dX4_readDeed_72 (by decide) ?_
    obtain ⟨C5, e5, h⟩ := bnd_e h
    refine go_cVV K (c_X4_expect l G _ _ _ _ e5) cf_X4_expect cv_X4_expect km_X4_85 rv_X4 (by decide) rfl rfl (Nat.le_of_ble_eq_true rfl) dX4_readDeed_75 ?_
    refine go_aload_n K dX4_readDeed_78 0 rfl rfl ?_
    refine go_iconst (v := (2 : Int32)) K dX4_readDeed_79 (by decide) ?_
    refine go_iconst (v := (0 : Int32)) K dX4_readDeed_80 (by decide) ?_
    refine go_bipush (v := (7 : Int32)) K dX4_readDeed_81 (by decide) ?_
    obtain ⟨C6, e6, h⟩ := bnd_e h
    refine go_cVV K (c_X4_readNumber l G _ _ _ _ _ _ e6) cf_X4_readNumber cv_X4_readNumber km_X4_88 rv_X4 (by decide) rfl rfl (Nat.le_of_ble_eq_true rfl) dX4_readDeed_83 ?_
    refine go_goto (tgt := 220) K dX4_readDeed_86 (by decide) ?_
    exact go_vret K hr (congrArg (fun z => (z, O)) (Option.some.inj h)) dX4_readDeed_220
  replace h := ite_f h c1
  by_cases c7 : v1 = (133 : Int32)
  · refine go_tableIn K dX4_readDeed_1 (by rw [c7]; decide) (by rw [c7]; decide) (off := 88) (by rw [c7]; decide) (tgt := 89) (by decide) ?_
    replace h := ite_t h c7
    refine go_aload_n K dX4_readDeed_89 0 rfl rfl ?_
    refine go_iconst (v := (0 : Int32)) K dX4_readDeed_90 (by decide) ?_
    refine go_iconst (v := (0 : Int32)) K dX4_readDeed_91 (by decide) ?_
    refine go_bipush (v := (6 : Int32)) K dX4_readDeed_92 (by decide) ?_
    obtain ⟨C8, e8, h⟩ := bnd_e h
    refine go_cVV K (c_X4_readNumber l G _ _ _ _ _ _ e8) cf_X4_readNumber cv_X4_readNumber km_X4_88 rv_X4 (by decide) rfl rfl (Nat.le_of_ble_eq_true rfl) dX4_readDeed_94 ?_
    refine go_aload_n K dX4_readDeed_97 0 rfl rfl ?_
    refine go_sipush (v := (150 : Int32)) K dX4_readDeed_98 (by decide) ?_
    obtain ⟨C9, e9, h⟩ := bnd_e h
    refine go_cVV K (c_X4_expect l G _ _ _ _ e9) cf_X4_expect cv_X4_expect km_X4_85 rv_X4 (by decide) rfl rfl (Nat.le_of_ble_eq_true rfl) dX4_readDeed_101 ?_
    refine go_aload_n K dX4_readDeed_104 0 rfl rfl ?_
    refine go_iconst (v := (1 : Int32)) K dX4_readDeed_105 (by decide) ?_
    refine go_iconst (v := (0 : Int32)) K dX4_readDeed_106 (by decide) ?_
    refine go_bipush (v := (6 : Int32)) K dX4_readDeed_107 (by decide) ?_
    obtain ⟨C10, e10, h⟩ := bnd_e h
    refine go_cVV K (c_X4_readNumber l G _ _ _ _ _ _ e10) cf_X4_readNumber cv_X4_readNumber km_X4_88 rv_X4 (by decide) rfl rfl (Nat.le_of_ble_eq_true rfl) dX4_readDeed_109 ?_
    refine go_goto (tgt := 220) K dX4_readDeed_112 (by decide) ?_
    exact go_vret K hr (congrArg (fun z => (z, O)) (Option.some.inj h)) dX4_readDeed_220
  replace h := ite_f h c7
  by_cases c11 : v1 = (134 : Int32)
  · refine go_tableIn K dX4_readDeed_1 (by rw [c11]; decide) (by rw [c11]; decide) (off := 114) (by rw [c11]; decide) (tgt := 115) (by decide) ?_
    replace h := ite_t h c11
    refine go_aload_n K dX4_readDeed_115 0 rfl rfl ?_
    refine go_iconst (v := (0 : Int32)) K dX4_readDeed_116 (by decide) ?_
    refine go_iconst (v := (0 : Int32)) K dX4_readDeed_117 (by decide) ?_
    refine go_bipush (v := (6 : Int32)) K dX4_readDeed_118 (by decide) ?_
    obtain ⟨C12, e12, h⟩ := bnd_e h
    refine go_cVV K (c_X4_readNumber l G _ _ _ _ _ _ e12) cf_X4_readNumber cv_X4_readNumber km_X4_88 rv_X4 (by decide) rfl rfl (Nat.le_of_ble_eq_true rfl) dX4_readDeed_120 ?_
    refine go_aload_n K dX4_readDeed_123 0 rfl rfl ?_
    refine go_sipush (v := (150 : Int32)) K dX4_readDeed_124 (by decide) ?_
    obtain ⟨C13, e13, h⟩ := bnd_e h
    refine go_cVV K (c_X4_expect l G _ _ _ _ e13) cf_X4_expect cv_X4_expect km_X4_85 rv_X4 (by decide) rfl rfl (Nat.le_of_ble_eq_true rfl) dX4_readDeed_127 ?_
    refine go_aload_n K dX4_readDeed_130 0 rfl rfl ?_
    refine go_iconst (v := (1 : Int32)) K dX4_readDeed_131 (by decide) ?_
    refine go_iconst (v := (0 : Int32)) K dX4_readDeed_132 (by decide) ?_
    refine go_bipush (v := (6 : Int32)) K dX4_readDeed_133 (by decide) ?_
    obtain ⟨C14, e14, h⟩ := bnd_e h
    refine go_cVV K (c_X4_readNumber l G _ _ _ _ _ _ e14) cf_X4_readNumber cv_X4_readNumber km_X4_88 rv_X4 (by decide) rfl rfl (Nat.le_of_ble_eq_true rfl) dX4_readDeed_135 ?_
    refine go_aload_n K dX4_readDeed_138 0 rfl rfl ?_
    refine go_sipush (v := (151 : Int32)) K dX4_readDeed_139 (by decide) ?_
    obtain ⟨C15, e15, h⟩ := bnd_e h
    refine go_cVV K (c_X4_expect l G _ _ _ _ e15) cf_X4_expect cv_X4_expect km_X4_85 rv_X4 (by decide) rfl rfl (Nat.le_of_ble_eq_true rfl) dX4_readDeed_142 ?_
    refine go_aload_n K dX4_readDeed_145 0 rfl rfl ?_
    refine go_iconst (v := (2 : Int32)) K dX4_readDeed_146 (by decide) ?_
    refine go_iconst (v := (0 : Int32)) K dX4_readDeed_147 (by decide) ?_
    refine go_sipush (v := (9999 : Int32)) K dX4_readDeed_148 (by decide) ?_
    obtain ⟨C16, e16, h⟩ := bnd_e h
    refine go_cVV K (c_X4_readNumber l G _ _ _ _ _ _ e16) cf_X4_readNumber cv_X4_readNumber km_X4_88 rv_X4 (by decide) rfl rfl (Nat.le_of_ble_eq_true rfl) dX4_readDeed_151 ?_
    refine go_goto (tgt := 220) K dX4_readDeed_154 (by decide) ?_
    exact go_vret K hr (congrArg (fun z => (z, O)) (Option.some.inj h)) dX4_readDeed_220
  replace h := ite_f h c11
  by_cases c17 : v1 = (135 : Int32)
  · refine go_tableIn K dX4_readDeed_1 (by rw [c17]; decide) (by rw [c17]; decide) (off := 156) (by rw [c17]; decide) (tgt := 157) (by decide) ?_
    replace h := ite_t h c17
    refine go_aload_n K dX4_readDeed_157 0 rfl rfl ?_
    refine go_iconst (v := (0 : Int32)) K dX4_readDeed_158 (by decide) ?_
    refine go_iconst (v := (0 : Int32)) K dX4_readDeed_159 (by decide) ?_
    refine go_bipush (v := (6 : Int32)) K dX4_readDeed_160 (by decide) ?_
    obtain ⟨C18, e18, h⟩ := bnd_e h
    refine go_cVV K (c_X4_readNumber l G _ _ _ _ _ _ e18) cf_X4_readNumber cv_X4_readNumber km_X4_88 rv_X4 (by decide) rfl rfl (Nat.le_of_ble_eq_true rfl) dX4_readDeed_162 ?_
    refine go_goto (tgt := 220) K dX4_readDeed_165 (by decide) ?_
    exact go_vret K hr (congrArg (fun z => (z, O)) (Option.some.inj h)) dX4_readDeed_220
  replace h := ite_f h c17
  by_cases c19 : v1 = (136 : Int32)
  · refine go_tableIn K dX4_readDeed_1 (by rw [c19]; decide) (by rw [c19]; decide) (off := 156) (by rw [c19]; decide) (tgt := 157) (by decide) ?_
    replace h := ite_t h c19
    refine go_aload_n K dX4_readDeed_157 0 rfl rfl ?_
    refine go_iconst (v := (0 : Int32)) K dX4_readDeed_158 (by decide) ?_
    refine go_iconst (v := (0 : Int32)) K dX4_readDeed_159 (by decide) ?_
    refine go_bipush (v := (6 : Int32)) K dX4_readDeed_160 (by decide) ?_
    obtain ⟨C20, e20, h⟩ := bnd_e h
    refine go_cVV K (c_X4_readNumber l G _ _ _ _ _ _ e20) cf_X4_readNumber cv_X4_readNumber km_X4_88 rv_X4 (by decide) rfl rfl (Nat.le_of_ble_eq_true rfl) dX4_readDeed_162 ?_
    refine go_goto (tgt := 220) K dX4_readDeed_165 (by decide) ?_
    exact go_vret K hr (congrArg (fun z => (z, O)) (Option.some.inj h)) dX4_readDeed_220
  replace h := ite_f h c19
  by_cases c21 : v1 = (137 : Int32)
  · refine go_tableIn K dX4_readDeed_1 (by rw [c21]; decide) (by rw [c21]; decide) (off := 167) (by rw [c21]; decide) (tgt := 168) (by decide) ?_
    replace h := ite_t h c21
    refine go_aload_n K dX4_readDeed_168 0 rfl rfl ?_
    refine go_iconst (v := (0 : Int32)) K dX4_readDeed_169 (by decide) ?_
    refine go_iconst (v := (0 : Int32)) K dX4_readDeed_170 (by decide) ?_
    refine go_bipush (v := (6 : Int32)) K dX4_readDeed_171 (by decide) ?_
    obtain ⟨C22, e22, h⟩ := bnd_e h
    refine go_cVV K (c_X4_readNumber l G _ _ _ _ _ _ e22) cf_X4_readNumber cv_X4_readNumber km_X4_88 rv_X4 (by decide) rfl rfl (Nat.le_of_ble_eq_true rfl) dX4_readDeed_173 ?_
    refine go_aload_n K dX4_readDeed_176 0 rfl rfl ?_
    refine go_sipush (v := (152 : Int32)) K dX4_readDeed_177 (by decide) ?_
    obtain ⟨C23, e23, h⟩ := bnd_e h
    refine go_cVV K (c_X4_expect l G _ _ _ _ e23) cf_X4_expect cv_X4_expect km_X4_85 rv_X4 (by decide) rfl rfl (Nat.le_of_ble_eq_true rfl) dX4_readDeed_180 ?_
    refine go_aload_n K dX4_readDeed_183 0 rfl rfl ?_
    refine go_iconst (v := (1 : Int32)) K dX4_readDeed_184 (by decide) ?_
    refine go_iconst (v := (0 : Int32)) K dX4_readDeed_185 (by decide) ?_
    refine go_bipush (v := (6 : Int32)) K dX4_readDeed_186 (by decide) ?_
    obtain ⟨C24, e24, h⟩ := bnd_e h
    refine go_cVV K (c_X4_readNumber l G _ _ _ _ _ _ e24) cf_X4_readNumber cv_X4_readNumber km_X4_88 rv_X4 (by decide) rfl rfl (Nat.le_of_ble_eq_true rfl) dX4_readDeed_188 ?_
    refine go_aload_n K dX4_readDeed_191 0 rfl rfl ?_
    refine go_sipush (v := (152 : Int32)) K dX4_readDeed_192 (by decide) ?_
    obtain ⟨C25, e25, h⟩ := bnd_e h
    refine go_cVV K (c_X4_expect l G _ _ _ _ e25) cf_X4_expect cv_X4_expect km_X4_85 rv_X4 (by decide) rfl rfl (Nat.le_of_ble_eq_true rfl) dX4_readDeed_195 ?_
    refine go_aload_n K dX4_readDeed_198 0 rfl rfl ?_
    refine go_iconst (v := (2 : Int32)) K dX4_readDeed_199 (by decide) ?_
    refine go_iconst (v := (0 : Int32)) K dX4_readDeed_200 (by decide) ?_
    refine go_bipush (v := (6 : Int32)) K dX4_readDeed_201 (by decide) ?_
    obtain ⟨C26, e26, h⟩ := bnd_e h
    refine go_cVV K (c_X4_readNumber l G _ _ _ _ _ _ e26) cf_X4_readNumber cv_X4_readNumber km_X4_88 rv_X4 (by decide) rfl rfl (Nat.le_of_ble_eq_true rfl) dX4_readDeed_203 ?_
    refine go_goto (tgt := 220) K dX4_readDeed_206 (by decide) ?_
    exact go_vret K hr (congrArg (fun z => (z, O)) (Option.some.inj h)) dX4_readDeed_220
  replace h := ite_f h c21
  by_cases c27 : v1 = (139 : Int32)
  · refine go_tableIn K dX4_readDeed_1 (by rw [c27]; decide) (by rw [c27]; decide) (off := 208) (by rw [c27]; decide) (tgt := 209) (by decide) ?_
    replace h := ite_t h c27
    refine go_aload_n K dX4_readDeed_209 0 rfl rfl ?_
    refine go_iconst (v := (0 : Int32)) K dX4_readDeed_210 (by decide) ?_
    refine go_iconst (v := (1 : Int32)) K dX4_readDeed_211 (by decide) ?_
    refine go_bipush (v := (60 : Int32)) K dX4_readDeed_212 (by decide) ?_
    obtain ⟨C28, e28, h⟩ := bnd_e h
    refine go_cVV K (c_X4_readNumber l G _ _ _ _ _ _ e28) cf_X4_readNumber cv_X4_readNumber km_X4_88 rv_X4 (by decide) rfl rfl (Nat.le_of_ble_eq_true rfl) dX4_readDeed_214 ?_
    refine go_goto (tgt := 220) K dX4_readDeed_217 (by decide) ?_
    exact go_vret K hr (congrArg (fun z => (z, O)) (Option.some.inj h)) dX4_readDeed_220
  replace h := ite_f h c27
  have c1 := sw_ne c1 (k := 132) (by decide)
  have c7 := sw_ne c7 (k := 133) (by decide)
  have c11 := sw_ne c11 (k := 134) (by decide)
  have c17 := sw_ne c17 (k := 135) (by decide)
  have c19 := sw_ne c19 (k := 136) (by decide)
  have c21 := sw_ne c21 (k := 137) (by decide)
  have c27 := sw_ne c27 (k := 139) (by decide)
  by_cases c29 : v1 = (138 : Int32)
  · refine go_tableIn K dX4_readDeed_1 (by rw [c29]; decide) (by rw [c29]; decide) (off := 219) (by rw [c29]; decide) (tgt := 220) (by decide) ?_
    exact go_vret K hr (congrArg (fun z => (z, O)) (Option.some.inj h)) dX4_readDeed_220
  have c29 := sw_ne c29 (k := 138) (by decide)
  refine go_tableOut (tgt := 220) K dX4_readDeed_1 (show (v1).toInt < 132 ∨ 139 < (v1).toInt from by omega) (by decide) ?_
  exact go_vret K hr (congrArg (fun z => (z, O)) (Option.some.inj h)) dX4_readDeed_220
theorem cf_X4_readSum : CF yX4_readSum cX4_readSum 4 (Option.none : Option Jvm.ClassFile.FieldType) 1 := ⟨kc_X4_readSum, kj_X4, ⟨by decide +kernel, by decide +kernel, by decide +kernel⟩, by decide⟩
theorem cv_X4_readSum : CFv yX4_readSum := ⟨ki_X4_readSum, ks_X4_readSum⟩
theorem cf_X4_readProduct : CF yX4_readProduct cX4_readProduct 4 (Option.none : Option Jvm.ClassFile.FieldType) 1 := ⟨kc_X4_readProduct, kj_X4, ⟨by decide +kernel, by decide +kernel, by decide +kernel⟩, by decide⟩
theorem cv_X4_readProduct : CFv yX4_readProduct := ⟨ki_X4_readProduct, ks_X4_readProduct⟩
theorem cf_X4_readPart : CF yX4_readPart cX4_readPart 2 (Option.none : Option Jvm.ClassFile.FieldType) 1 := ⟨kc_X4_readPart, kj_X4, ⟨by decide +kernel, by decide +kernel, by decide +kernel⟩, by decide⟩
theorem cv_X4_readPart : CFv yX4_readPart := ⟨ki_X4_readPart, ks_X4_readPart⟩
theorem cf_X4_readNested : CF yX4_readNested cX4_readNested 3 (Option.none : Option Jvm.ClassFile.FieldType) 1 := ⟨kc_X4_readNested, kj_X4, ⟨by decide +kernel, by decide +kernel, by decide +kernel⟩, by decide⟩
theorem cv_X4_readNested : CFv yX4_readNested := ⟨ki_X4_readNested, ks_X4_readNested⟩
theorem cf_X4_readChoice : CF yX4_readChoice cX4_readChoice 4 (Option.none : Option Jvm.ClassFile.FieldType) 1 := ⟨kc_X4_readChoice, kj_X4, ⟨by decide +kernel, by decide +kernel, by decide +kernel⟩, by decide⟩
theorem cv_X4_readChoice : CFv yX4_readChoice := ⟨ki_X4_readChoice, ks_X4_readChoice⟩
theorem cf_X4_readEither : CF yX4_readEither cX4_readEither 3 (Option.none : Option Jvm.ClassFile.FieldType) 1 := ⟨kc_X4_readEither, kj_X4, ⟨by decide +kernel, by decide +kernel, by decide +kernel⟩, by decide⟩
theorem cv_X4_readEither : CFv yX4_readEither := ⟨ki_X4_readEither, ks_X4_readEither⟩
theorem cf_X4_readBoth : CF yX4_readBoth cX4_readBoth 3 (Option.none : Option Jvm.ClassFile.FieldType) 1 := ⟨kc_X4_readBoth, kj_X4, ⟨by decide +kernel, by decide +kernel, by decide +kernel⟩, by decide⟩
theorem cv_X4_readBoth : CFv yX4_readBoth := ⟨ki_X4_readBoth, ks_X4_readBoth⟩
theorem cf_X4_readAsk : CF yX4_readAsk cX4_readAsk 3 (Option.none : Option Jvm.ClassFile.FieldType) 1 := ⟨kc_X4_readAsk, kj_X4, ⟨by decide +kernel, by decide +kernel, by decide +kernel⟩, by decide⟩
theorem cv_X4_readAsk : CFv yX4_readAsk := ⟨ki_X4_readAsk, ks_X4_readAsk⟩
noncomputable def X4_readSum_j32 (rec : Nat → Int32 → CM → Option CM) (rc : Int32 → Int32 → CM → Option CM) (v1 : Int32) (v2 : Int32) (C : CM) : Option CM := (bnd (f_X8_next C) (fun C4 => (bnd (rec 1 v1 C4) (fun C5 => (bnd2 (f_X6_emit 407 (C 404 2) (0 : Int32) C5) (fun r6 C6 => (rc v1 (v2 + (1 : Int32)) C6)))))))
noncomputable def X4_readSum_l7 (rec : Nat → Int32 → CM → Option CM) : Nat → Int32 → Int32 → CM → Option CM
  | 0, _, _, _ => none
  | n + 1, v1, v2, C => (if (300 : Int32) ≤ v2 then (some C) else (if (f_X4_is (43 : Int32) C) = 0 then (if (f_X4_is (45 : Int32) C) = 0 then (some C) else (X4_readSum_j32 rec (fun v1 v2 C => X4_readSum_l7 rec n v1 v2 C) v1 v2 C)) else (X4_readSum_j32 rec (fun v1 v2 C => X4_readSum_l7 rec n v1 v2 C) v1 v2 C)))
noncomputable def f_X4_readSum (rec : Nat → Int32 → CM → Option CM) (v1 : Int32) (C : CM) : Option CM := (bnd (rec 1 v1 C) (fun C1 => (X4_readSum_l7 rec FU v1 (0 : Int32) C1)))
set_option maxHeartbeats 4000000 in
set_option maxRecDepth 100000 in
theorem c_X4_readSum_open (l : Launch) (G : GT) (O : OM) (hh : Nat) (hge : 20 ≤ hh) (rec : Nat → Int32 → CM → Option CM) (hrec0 : ∀ (d : Int32) (C C' : CM), rec 0 d C = some C' → MV l G yX4_readSum cX4_readSum 4 (Option.none : Option Jvm.ClassFile.FieldType) hh [.ref (gB G + 406), .int d] (C, O) (C', O)) (hrec1 : ∀ (d : Int32) (C C' : CM), rec 1 d C = some C' → MV l G yX4_readProduct cX4_readProduct 4 (Option.none : Option Jvm.ClassFile.FieldType) hh [.ref (gB G + 406), .int d] (C, O) (C', O)) (hrec2 : ∀ (d : Int32) (C C' : CM), rec 2 d C = some C' → MV l G yX4_readPart cX4_readPart 2 (Option.none : Option Jvm.ClassFile.FieldType) hh [.ref (gB G + 406), .int d] (C, O) (C', O)) (hrec3 : ∀ (d : Int32) (C C' : CM), rec 3 d C = some C' → MV l G yX4_readNested cX4_readNested 3 (Option.none : Option Jvm.ClassFile.FieldType) hh [.ref (gB G + 406), .int d] (C, O) (C', O)) (hrec4 : ∀ (d : Int32) (C C' : CM), rec 4 d C = some C' → MV l G yX4_readChoice cX4_readChoice 4 (Option.none : Option Jvm.ClassFile.FieldType) hh [.ref (gB G + 406), .int d] (C, O) (C', O)) (hrec5 : ∀ (d : Int32) (C C' : CM), rec 5 d C = some C' → MV l G yX4_readEither cX4_readEither 3 (Option.none : Option Jvm.ClassFile.FieldType) hh [.ref (gB G + 406), .int d] (C, O) (C', O)) (hrec6 : ∀ (d : Int32) (C C' : CM), rec 6 d C = some C' → MV l G yX4_readBoth cX4_readBoth 3 (Option.none : Option Jvm.ClassFile.FieldType) hh [.ref (gB G + 406), .int d] (C, O) (C', O)) (hrec7 : ∀ (d : Int32) (C C' : CM), rec 7 d C = some C' → MV l G yX4_readAsk cX4_readAsk 3 (Option.none : Option Jvm.ClassFile.FieldType) hh [.ref (gB G + 406), .int d] (C, O) (C', O)) (v1 : Int32) (C C' : CM) (h : f_X4_readSum rec v1 C = some C') : MV l G yX4_readSum cX4_readSum 4 (Option.none : Option Jvm.ClassFile.FieldType) (hh + 1) [.ref (gB G + 406), .int v1] (C, O) (C', O) := by
  unfold MV
  refine met_in RX4 (by decide +kernel) rfl [(0, .ref (gB G + 406)), (1, .int v1)] rfl (Nat.le_of_ble_eq_true rfl) ?_
  intro pM eM sM mM aM bM meM cM K hr
  have hl7 : ∀ (n7 : Nat) (v1 : Int32) (v2 : Int32) (C : CM), X4_readSum_l7 rec n7 v1 v2 C = some C' → GO pM l eM (hh + 1) sM mM aM bM meM cM (MQ bM (va_Qv (fun (u : CM × OM) => u = (C', O)) (wB G) (Fr G)) aM sM 0 0 (Fr G)) G 4 (C, O) 7 [(0, .ref (gB G + 406)), (1, .int v1), (2, .int v2)] [] := by
    intro n7
    induction n7 with
    | zero =>
      intro v1 v2 C h
      rw [X4_readSum_l7] at h
      cases h
    | succ n7 ih7 =>
      have hj32 : ∀ (v1 : Int32) (v2 : Int32) (C : CM), X4_readSum_j32 rec (fun v1 v2 C => X4_readSum_l7 rec n7 v1 v2 C) v1 v2 C = some C' → GO pM l eM (hh + 1) sM mM aM bM meM cM (MQ bM (va_Qv (fun (u : CM × OM) => u = (C', O)) (wB G) (Fr G)) aM sM 0 0 (Fr G)) G 4 (C, O) 32 [(0, .ref (gB G + 406)), (1, .int v1), (2, .int v2)] [] := by
        intro v1 v2 C h
        rw [X4_readSum_j32] at h
        refine go_aload_n K dX4_readSum_32 0 rfl rfl ?_
        refine gf_X4 K 3 (by decide) kf_X4_25 (v := .ref (gB G + 404)) rfl dX4_readSum_33 ?_
        refine gf_X8 K 2 (by decide) kf_X4_44 (v := .int (C 404 2)) rfl dX4_readSum_36 ?_
        refine go_istore_n K dX4_readSum_39 rfl (by decide) (lv' := [(3, .int (C 404 2)), (0, .ref (gB G + 406)), (1, .int v1), (2, .int v2)]) rfl ?_
        refine go_aload_n K dX4_readSum_40 1 rfl rfl ?_
        refine gf_X4 K 3 (by decide) kf_X4_25 (v := .ref (gB G + 404)) rfl dX4_readSum_41 ?_
        obtain ⟨C4, e4, h⟩ := bnd_e h
        refine go_cVV K (c_X8_next l G _ _ _ e4) cf_X8_next cv_X8_next km_X4_50 rv_X8 (Nat.lt_of_lt_of_le (by decide : 8 < 20) (by omega)) rfl rfl (Nat.le_of_ble_eq_true rfl) dX4_readSum_44 ?_
        refine go_aload_n K dX4_readSum_47 1 rfl rfl ?_
        refine go_iload_n K dX4_readSum_48 2 rfl rfl ?_
        obtain ⟨C5, e5, h⟩ := bnd_e h
        refine go_cVV K (hrec1 _ _ _ e5) cf_X4_readProduct cv_X4_readProduct km_X4_99 rv_X4 (Nat.lt_succ_self _) rfl rfl (Nat.le_of_ble_eq_true rfl) dX4_readSum_49 ?_
        refine go_aload_n K dX4_readSum_52 1 rfl rfl ?_
        refine gf_X4 K 0 (by decide) kf_X4_12 (v := .ref (gB G + 407)) rfl dX4_readSum_53 ?_
        refine go_iload_n K dX4_readSum_56 0 rfl rfl ?_
        refine go_iconst (v := (0 : Int32)) K dX4_readSum_57 (by decide) ?_
        obtain ⟨r6, C6, e6, h⟩ := bnd2_e h
        refine go_cVI K (c_X6_emit l G sc_407 _ _ _ _ _ _ e6) cf_X6_emit cv_X6_emit km_X4_102 (rv_X6 sc_407) (Nat.lt_of_lt_of_le (by decide : 2 < 20) (by omega)) rfl rfl (Nat.le_of_ble_eq_true rfl) dX4_readSum_58 ?_
        refine go_pop K dX4_readSum_61 rfl ?_
        refine go_iinc K dX4_readSum_62 3 rfl (v := (v2 + (1 : Int32))) rfl (by decide) (lv' := [(2, .int (v2 + (1 : Int32))), (3, .int (C 404 2)), (0, .ref (gB G + 406)), (1, .int v1)]) rfl ?_
        refine go_goto (tgt := 7) K dX4_readSum_65 (by decide) ?_
        exact go_sub [2, 3, 0] rfl (ih7 _ _ _ h)
      intro v1 v2 C h
      rw [X4_readSum_l7] at h
      refine go_iload_n K dX4_readSum_7 2 rfl rfl ?_
      refine go_sipush (v := (300 : Int32)) K dX4_readSum_8 (by decide) ?_
      refine go_icmp_ge (tgt := 68) K dX4_readSum_11 (by decide) (fun c2 => ?_) (fun c2 => ?_)
      · replace h := ite_t h c2
        exact go_vret K hr (congrArg (fun z => (z, O)) (Option.some.inj h)) dX4_readSum_68
      replace h := ite_f h c2
      refine go_aload_n K dX4_readSum_14 0 rfl rfl ?_
      refine go_bipush (v := (43 : Int32)) K dX4_readSum_15 (by decide) ?_
      refine go_cVI K (c_X4_is l G _ _ _ _ rfl) cf_X4_is cv_X4_is km_X4_37 rv_X4 (Nat.lt_of_lt_of_le (by decide : 1 < 20) (by omega)) rfl rfl (Nat.le_of_ble_eq_true rfl) dX4_readSum_17 ?_
      refine go_if_ne (tgt := 32) K dX4_readSum_20 (by decide) (fun c3 => ?_) (fun c3 => ?_)
      · replace h := ite_f h c3
        exact hj32 _ _ _ h
      replace h := ite_t h c3
      refine go_aload_n K dX4_readSum_23 0 rfl rfl ?_
      refine go_bipush (v := (45 : Int32)) K dX4_readSum_24 (by decide) ?_
      refine go_cVI K (c_X4_is l G _ _ _ _ rfl) cf_X4_is cv_X4_is km_X4_37 rv_X4 (Nat.lt_of_lt_of_le (by decide : 1 < 20) (by omega)) rfl rfl (Nat.le_of_ble_eq_true rfl) dX4_readSum_26 ?_
      refine go_if_eq (tgt := 68) K dX4_readSum_29 (by decide) (fun c7 => ?_) (fun c7 => ?_)
      · replace h := ite_t h c7
        exact go_vret K hr (congrArg (fun z => (z, O)) (Option.some.inj h)) dX4_readSum_68
      replace h := ite_f h c7
      exact hj32 _ _ _ h
  rw [f_X4_readSum] at h
  refine go_aload_n K dX4_readSum_0 0 rfl rfl ?_
  refine go_iload_n K dX4_readSum_1 1 rfl rfl ?_
  obtain ⟨C1, e1, h⟩ := bnd_e h
  refine go_cVV K (hrec1 _ _ _ e1) cf_X4_readProduct cv_X4_readProduct km_X4_99 rv_X4 (Nat.lt_succ_self _) rfl rfl (Nat.le_of_ble_eq_true rfl) dX4_readSum_2 ?_
  refine go_iconst (v := (0 : Int32)) K dX4_readSum_5 (by decide) ?_
  refine go_istore_n K dX4_readSum_6 rfl (by decide) (lv' := [(2, .int (0 : Int32)), (0, .ref (gB G + 406)), (1, .int v1)]) rfl ?_
  exact go_sub [1, 2, 0] rfl (hl7 FU _ _ _ h)
noncomputable def X4_readProduct_j32 (rec : Nat → Int32 → CM → Option CM) (rc : Int32 → Int32 → CM → Option CM) (v1 : Int32) (v2 : Int32) (C : CM) : Option CM := (bnd (f_X8_next C) (fun C4 => (bnd (rec 2 v1 C4) (fun C5 => (bnd2 (f_X6_emit 407 (C 404 2) (0 : Int32) C5) (fun r6 C6 => (rc v1 (v2 + (1 : Int32)) C6)))))))
noncomputable def X4_readProduct_l7 (rec : Nat → Int32 → CM → Option CM) : Nat → Int32 → Int32 → CM → Option CM
  | 0, _, _, _ => none
  | n + 1, v1, v2, C => (if (300 : Int32) ≤ v2 then (some C) else (if (f_X4_is (42 : Int32) C) = 0 then (if (f_X4_is (47 : Int32) C) = 0 then (some C) else (X4_readProduct_j32 rec (fun v1 v2 C => X4_readProduct_l7 rec n v1 v2 C) v1 v2 C)) else (X4_readProduct_j32 rec (fun v1 v2 C => X4_readProduct_l7 rec n v1 v2 C) v1 v2 C)))
noncomputable def f_X4_readProduct (rec : Nat → Int32 → CM → Option CM) (v1 : Int32) (C : CM) : Option CM := (bnd (rec 2 v1 C) (fun C1 => (X4_readProduct_l7 rec FU v1 (0 : Int32) C1)))
set_option maxHeartbeats 4000000 in
set_option maxRecDepth 100000 in
theorem c_X4_readProduct_open (l : Launch) (G : GT) (O : OM) (hh : Nat) (hge : 20 ≤ hh) (rec : Nat → Int32 → CM → Option CM) (hrec0 : ∀ (d : Int32) (C C' : CM), rec 0 d C = some C' → MV l G yX4_readSum cX4_readSum 4 (Option.none : Option Jvm.ClassFile.FieldType) hh [.ref (gB G + 406), .int d] (C, O) (C', O)) (hrec1 : ∀ (d : Int32) (C C' : CM), rec 1 d C = some C' → MV l G yX4_readProduct cX4_readProduct 4 (Option.none : Option Jvm.ClassFile.FieldType) hh [.ref (gB G + 406), .int d] (C, O) (C', O)) (hrec2 : ∀ (d : Int32) (C C' : CM), rec 2 d C = some C' → MV l G yX4_readPart cX4_readPart 2 (Option.none : Option Jvm.ClassFile.FieldType) hh [.ref (gB G + 406), .int d] (C, O) (C', O)) (hrec3 : ∀ (d : Int32) (C C' : CM), rec 3 d C = some C' → MV l G yX4_readNested cX4_readNested 3 (Option.none : Option Jvm.ClassFile.FieldType) hh [.ref (gB G + 406), .int d] (C, O) (C', O)) (hrec4 : ∀ (d : Int32) (C C' : CM), rec 4 d C = some C' → MV l G yX4_readChoice cX4_readChoice 4 (Option.none : Option Jvm.ClassFile.FieldType) hh [.ref (gB G + 406), .int d] (C, O) (C', O)) (hrec5 : ∀ (d : Int32) (C C' : CM), rec 5 d C = some C' → MV l G yX4_readEither cX4_readEither 3 (Option.none : Option Jvm.ClassFile.FieldType) hh [.ref (gB G + 406), .int d] (C, O) (C', O)) (hrec6 : ∀ (d : Int32) (C C' : CM), rec 6 d C = some C' → MV l G yX4_readBoth cX4_readBoth 3 (Option.none : Option Jvm.ClassFile.FieldType) hh [.ref (gB G + 406), .int d] (C, O) (C', O)) (hrec7 : ∀ (d : Int32) (C C' : CM), rec 7 d C = some C' → MV l G yX4_readAsk cX4_readAsk 3 (Option.none : Option Jvm.ClassFile.FieldType) hh [.ref (gB G + 406), .int d] (C, O) (C', O)) (v1 : Int32) (C C' : CM) (h : f_X4_readProduct rec v1 C = some C') : MV l G yX4_readProduct cX4_readProduct 4 (Option.none : Option Jvm.ClassFile.FieldType) (hh + 1) [.ref (gB G + 406), .int v1] (C, O) (C', O) := by
  unfold MV
  refine met_in RX4 (by decide +kernel) rfl [(0, .ref (gB G + 406)), (1, .int v1)] rfl (Nat.le_of_ble_eq_true rfl) ?_
  intro pM eM sM mM aM bM meM cM K hr
  have hl7 : ∀ (n7 : Nat) (v1 : Int32) (v2 : Int32) (C : CM), X4_readProduct_l7 rec n7 v1 v2 C = some C' → GO pM l eM (hh + 1) sM mM aM bM meM cM (MQ bM (va_Qv (fun (u : CM × OM) => u = (C', O)) (wB G) (Fr G)) aM sM 0 0 (Fr G)) G 4 (C, O) 7 [(0, .ref (gB G + 406)), (1, .int v1), (2, .int v2)] [] := by
    intro n7
    induction n7 with
    | zero =>
      intro v1 v2 C h
      rw [X4_readProduct_l7] at h
      cases h
    | succ n7 ih7 =>
      have hj32 : ∀ (v1 : Int32) (v2 : Int32) (C : CM), X4_readProduct_j32 rec (fun v1 v2 C => X4_readProduct_l7 rec n7 v1 v2 C) v1 v2 C = some C' → GO pM l eM (hh + 1) sM mM aM bM meM cM (MQ bM (va_Qv (fun (u : CM × OM) => u = (C', O)) (wB G) (Fr G)) aM sM 0 0 (Fr G)) G 4 (C, O) 32 [(0, .ref (gB G + 406)), (1, .int v1), (2, .int v2)] [] := by
        intro v1 v2 C h
        rw [X4_readProduct_j32] at h
        refine go_aload_n K dX4_readProduct_32 0 rfl rfl ?_
        refine gf_X4 K 3 (by decide) kf_X4_25 (v := .ref (gB G + 404)) rfl dX4_readProduct_33 ?_
        refine gf_X8 K 2 (by decide) kf_X4_44 (v := .int (C 404 2)) rfl dX4_readProduct_36 ?_
        refine go_istore_n K dX4_readProduct_39 rfl (by decide) (lv' := [(3, .int (C 404 2)), (0, .ref (gB G + 406)), (1, .int v1), (2, .int v2)]) rfl ?_
        refine go_aload_n K dX4_readProduct_40 1 rfl rfl ?_
        refine gf_X4 K 3 (by decide) kf_X4_25 (v := .ref (gB G + 404)) rfl dX4_readProduct_41 ?_
        obtain ⟨C4, e4, h⟩ := bnd_e h
        refine go_cVV K (c_X8_next l G _ _ _ e4) cf_X8_next cv_X8_next km_X4_50 rv_X8 (Nat.lt_of_lt_of_le (by decide : 8 < 20) (by omega)) rfl rfl (Nat.le_of_ble_eq_true rfl) dX4_readProduct_44 ?_
        refine go_aload_n K dX4_readProduct_47 1 rfl rfl ?_
        refine go_iload_n K dX4_readProduct_48 2 rfl rfl ?_
        obtain ⟨C5, e5, h⟩ := bnd_e h
        refine go_cVV K (hrec2 _ _ _ e5) cf_X4_readPart cv_X4_readPart km_X4_106 rv_X4 (Nat.lt_succ_self _) rfl rfl (Nat.le_of_ble_eq_true rfl) dX4_readProduct_49 ?_
        refine go_aload_n K dX4_readProduct_52 1 rfl rfl ?_
        refine gf_X4 K 0 (by decide) kf_X4_12 (v := .ref (gB G + 407)) rfl dX4_readProduct_53 ?_
        refine go_iload_n K dX4_readProduct_56 0 rfl rfl ?_
        refine go_iconst (v := (0 : Int32)) K dX4_readProduct_57 (by decide) ?_
        obtain ⟨r6, C6, e6, h⟩ := bnd2_e h
        refine go_cVI K (c_X6_emit l G sc_407 _ _ _ _ _ _ e6) cf_X6_emit cv_X6_emit km_X4_102 (rv_X6 sc_407) (Nat.lt_of_lt_of_le (by decide : 2 < 20) (by omega)) rfl rfl (Nat.le_of_ble_eq_true rfl) dX4_readProduct_58 ?_
        refine go_pop K dX4_readProduct_61 rfl ?_
        refine go_iinc K dX4_readProduct_62 3 rfl (v := (v2 + (1 : Int32))) rfl (by decide) (lv' := [(2, .int (v2 + (1 : Int32))), (3, .int (C 404 2)), (0, .ref (gB G + 406)), (1, .int v1)]) rfl ?_
        refine go_goto (tgt := 7) K dX4_readProduct_65 (by decide) ?_
        exact go_sub [2, 3, 0] rfl (ih7 _ _ _ h)
      intro v1 v2 C h
      rw [X4_readProduct_l7] at h
      refine go_iload_n K dX4_readProduct_7 2 rfl rfl ?_
      refine go_sipush (v := (300 : Int32)) K dX4_readProduct_8 (by decide) ?_
      refine go_icmp_ge (tgt := 68) K dX4_readProduct_11 (by decide) (fun c2 => ?_) (fun c2 => ?_)
      · replace h := ite_t h c2
        exact go_vret K hr (congrArg (fun z => (z, O)) (Option.some.inj h)) dX4_readProduct_68
      replace h := ite_f h c2
      refine go_aload_n K dX4_readProduct_14 0 rfl rfl ?_
      refine go_bipush (v := (42 : Int32)) K dX4_readProduct_15 (by decide) ?_
      refine go_cVI K (c_X4_is l G _ _ _ _ rfl) cf_X4_is cv_X4_is km_X4_37 rv_X4 (Nat.lt_of_lt_of_le (by decide : 1 < 20) (by omega)) rfl rfl (Nat.le_of_ble_eq_true rfl) dX4_readProduct_17 ?_
      refine go_if_ne (tgt := 32) K dX4_readProduct_20 (by decide) (fun c3 => ?_) (fun c3 => ?_)
      · replace h := ite_f h c3
        exact hj32 _ _ _ h
      replace h := ite_t h c3
      refine go_aload_n K dX4_readProduct_23 0 rfl rfl ?_
      refine go_bipush (v := (47 : Int32)) K dX4_readProduct_24 (by decide) ?_
      refine go_cVI K (c_X4_is l G _ _ _ _ rfl) cf_X4_is cv_X4_is km_X4_37 rv_X4 (Nat.lt_of_lt_of_le (by decide : 1 < 20) (by omega)) rfl rfl (Nat.le_of_ble_eq_true rfl) dX4_readProduct_26 ?_
      refine go_if_eq (tgt := 68) K dX4_readProduct_29 (by decide) (fun c7 => ?_) (fun c7 => ?_)
      · replace h := ite_t h c7
        exact go_vret K hr (congrArg (fun z => (z, O)) (Option.some.inj h)) dX4_readProduct_68
      replace h := ite_f h c7
      exact hj32 _ _ _ h
  rw [f_X4_readProduct] at h
  refine go_aload_n K dX4_readProduct_0 0 rfl rfl ?_
  refine go_iload_n K dX4_readProduct_1 1 rfl rfl ?_
  obtain ⟨C1, e1, h⟩ := bnd_e h
  refine go_cVV K (hrec2 _ _ _ e1) cf_X4_readPart cv_X4_readPart km_X4_106 rv_X4 (Nat.lt_succ_self _) rfl rfl (Nat.le_of_ble_eq_true rfl) dX4_readProduct_2 ?_
  refine go_iconst (v := (0 : Int32)) K dX4_readProduct_5 (by decide) ?_
  refine go_istore_n K dX4_readProduct_6 rfl (by decide) (lv' := [(2, .int (0 : Int32)), (0, .ref (gB G + 406)), (1, .int v1)]) rfl ?_
  exact go_sub [1, 2, 0] rfl (hl7 FU _ _ _ h)
noncomputable def X4_isOfLaw_j72 (C : CM) : Int32 := (1 : Int32)
noncomputable def X4_isOfLaw_j114 (C : CM) : Int32 := (1 : Int32)
noncomputable def f_X4_isOfLaw (v1 : Int32) (C : CM) : Int32 := (if v1 = (140 : Int32) then (if (C 406 4) = (128 : Int32) then (X4_isOfLaw_j72 C) else (if (C 406 4) = (131 : Int32) then (X4_isOfLaw_j72 C) else (0 : Int32))) else (if v1 = (144 : Int32) then (if (C 406 4) = (131 : Int32) then (0 : Int32) else (1 : Int32)) else (if v1 = (145 : Int32) then (if (C 406 4) = (131 : Int32) then (0 : Int32) else (1 : Int32)) else (if v1 = (146 : Int32) then (if (C 406 4) = (128 : Int32) then (X4_isOfLaw_j114 C) else (if (C 406 4) = (130 : Int32) then (X4_isOfLaw_j114 C) else (0 : Int32))) else (if v1 = (147 : Int32) then (if (C 406 4) = (128 : Int32) then (1 : Int32) else (0 : Int32)) else (if v1 = (148 : Int32) then (if (C 406 4) = (129 : Int32) then (1 : Int32) else (0 : Int32)) else (1 : Int32)))))))
theorem cf_X4_isOfLaw : CF yX4_isOfLaw cX4_isOfLaw 2 (Option.some Jvm.ClassFile.FieldType.boolean) 1 := ⟨kc_X4_isOfLaw, kj_X4, ⟨by decide +kernel, by decide +kernel, by decide +kernel⟩, by decide⟩
theorem cv_X4_isOfLaw : CFv yX4_isOfLaw := ⟨ki_X4_isOfLaw, ks_X4_isOfLaw⟩
set_option maxHeartbeats 4000000 in
set_option maxRecDepth 100000 in
theorem c_X4_isOfLaw (l : Launch) (G : GT) (v1 : Int32) (C : CM) (O : OM) (res : Int32) (h : f_X4_isOfLaw v1 C = res) : MI l G yX4_isOfLaw cX4_isOfLaw 2 (Option.some Jvm.ClassFile.FieldType.boolean) (1) [.ref (gB G + 406), .int v1] (C, O) res (C, O) := by
  unfold MI
  refine met_in RX4 (by decide +kernel) rfl [(0, .ref (gB G + 406)), (1, .int v1)] rfl (Nat.le_of_ble_eq_true rfl) ?_
  intro pM eM sM mM aM bM meM cM K hr
  have hj72 : X4_isOfLaw_j72 C = res → GO pM l eM (1) sM mM aM bM meM cM (MQ bM (va_Qi (fun (r' : Int32) (u : CM × OM) => r' = res ∧ u = (C, O)) (wB G) (Fr G)) aM sM 0 0 (Fr G)) G 2 (C, O) 72 [] [] := by
    intro h
    rw [X4_isOfLaw_j72] at h
    refine go_iconst (v := (1 : Int32)) K dX4_isOfLaw_72 (by decide) ?_
    refine go_goto (tgt := 77) K dX4_isOfLaw_73 (by decide) ?_
    exact go_zret K hr (by decide) h rfl dX4_isOfLaw_77
  have hj114 : X4_isOfLaw_j114 C = res → GO pM l eM (1) sM mM aM bM meM cM (MQ bM (va_Qi (fun (r' : Int32) (u : CM × OM) => r' = res ∧ u = (C, O)) (wB G) (Fr G)) aM sM 0 0 (Fr G)) G 2 (C, O) 114 [] [] := by
    intro h
    rw [X4_isOfLaw_j114] at h
    refine go_iconst (v := (1 : Int32)) K dX4_isOfLaw_114 (by decide) ?_
    refine go_goto (tgt := 119) K dX4_isOfLaw_115 (by decide) ?_
    exact go_zret K hr (by decide) h rfl dX4_isOfLaw_119
  rw [f_X4_isOfLaw] at h
  refine go_iload_n K dX4_isOfLaw_0 1 rfl rfl ?_
  by_cases c1 : v1 = (140 : Int32)
  · refine go_tableIn K dX4_isOfLaw_1 (by rw [c1]; decide) (by rw [c1]; decide) (off := 51) (by rw [c1]; decide) (tgt := 52) (by decide) ?_
    replace h := ite_t h c1
    refine go_aload_n K dX4_isOfLaw_52 0 rfl rfl ?_
    refine gf_X4 K 4 (by decide) kf_X4_73 (v := .int (C 406 4)) rfl dX4_isOfLaw_53 ?_
    refine go_sipush (v := (128 : Int32)) K dX4_isOfLaw_56 (by decide) ?_
    refine go_icmp_eq (tgt := 72) K dX4_isOfLaw_59 (by decide) (fun c2 => ?_) (fun c2 => ?_)
    · replace h := ite_t h c2
      exact go_sub [] rfl (hj72 h)
    replace h := ite_f h c2
    refine go_aload_n K dX4_isOfLaw_62 0 rfl rfl ?_
    refine gf_X4 K 4 (by decide) kf_X4_73 (v := .int (C 406 4)) rfl dX4_isOfLaw_63 ?_
    refine go_sipush (v := (131 : Int32)) K dX4_isOfLaw_66 (by decide) ?_
    refine go_icmp_ne (tgt := 76) K dX4_isOfLaw_69 (by decide) (fun c3 => ?_) (fun c3 => ?_)
    rotate_left
    · replace h := ite_t h c3
      exact go_sub [] rfl (hj72 h)
    replace h := ite_f h c3
    refine go_iconst (v := (0 : Int32)) K dX4_isOfLaw_76 (by decide) ?_
    exact go_zret K hr (by decide) h rfl dX4_isOfLaw_77
  replace h := ite_f h c1
  by_cases c4 : v1 = (144 : Int32)
  · refine go_tableIn K dX4_isOfLaw_1 (by rw [c4]; decide) (by rw [c4]; decide) (off := 77) (by rw [c4]; decide) (tgt := 78) (by decide) ?_
    replace h := ite_t h c4
    refine go_aload_n K dX4_isOfLaw_78 0 rfl rfl ?_
    refine gf_X4 K 4 (by decide) kf_X4_73 (v := .int (C 406 4)) rfl dX4_isOfLaw_79 ?_
    refine go_sipush (v := (131 : Int32)) K dX4_isOfLaw_82 (by decide) ?_
    refine go_icmp_eq (tgt := 92) K dX4_isOfLaw_85 (by decide) (fun c5 => ?_) (fun c5 => ?_)
    · replace h := ite_t h c5
      refine go_iconst (v := (0 : Int32)) K dX4_isOfLaw_92 (by decide) ?_
      exact go_zret K hr (by decide) h rfl dX4_isOfLaw_93
    replace h := ite_f h c5
    refine go_iconst (v := (1 : Int32)) K dX4_isOfLaw_88 (by decide) ?_
    refine go_goto (tgt := 93) K dX4_isOfLaw_89 (by decide) ?_
    exact go_zret K hr (by decide) h rfl dX4_isOfLaw_93
  replace h := ite_f h c4
  by_cases c6 : v1 = (145 : Int32)
  · refine go_tableIn K dX4_isOfLaw_1 (by rw [c6]; decide) (by rw [c6]; decide) (off := 77) (by rw [c6]; decide) (tgt := 78) (by decide) ?_
    replace h := ite_t h c6
    refine go_aload_n K dX4_isOfLaw_78 0 rfl rfl ?_
    refine gf_X4 K 4 (by decide) kf_X4_73 (v := .int (C 406 4)) rfl dX4_isOfLaw_79 ?_
    refine go_sipush (v := (131 : Int32)) K dX4_isOfLaw_82 (by decide) ?_
    refine go_icmp_eq (tgt := 92) K dX4_isOfLaw_85 (by decide) (fun c7 => ?_) (fun c7 => ?_)
    · replace h := ite_t h c7
      refine go_iconst (v := (0 : Int32)) K dX4_isOfLaw_92 (by decide) ?_
      exact go_zret K hr (by decide) h rfl dX4_isOfLaw_93
    replace h := ite_f h c7
    refine go_iconst (v := (1 : Int32)) K dX4_isOfLaw_88 (by decide) ?_
    refine go_goto (tgt := 93) K dX4_isOfLaw_89 (by decide) ?_
    exact go_zret K hr (by decide) h rfl dX4_isOfLaw_93
  replace h := ite_f h c6
  by_cases c8 : v1 = (146 : Int32)
  · refine go_tableIn K dX4_isOfLaw_1 (by rw [c8]; decide) (by rw [c8]; decide) (off := 93) (by rw [c8]; decide) (tgt := 94) (by decide) ?_
    replace h := ite_t h c8
    refine go_aload_n K dX4_isOfLaw_94 0 rfl rfl ?_
    refine gf_X4 K 4 (by decide) kf_X4_73 (v := .int (C 406 4)) rfl dX4_isOfLaw_95 ?_
    refine go_sipush (v := (128 : Int32)) K dX4_isOfLaw_98 (by decide) ?_
    refine go_icmp_eq (tgt := 114) K dX4_isOfLaw_101 (by decide) (fun c9 => ?_) (fun c9 => ?_)
    · replace h := ite_t h c9
      exact go_sub [] rfl (hj114 h)
    replace h := ite_f h c9
    refine go_aload_n K dX4_isOfLaw_104 0 rfl rfl ?_
    refine gf_X4 K 4 (by decide) kf_X4_73 (v := .int (C 406 4)) rfl dX4_isOfLaw_105 ?_
    refine go_sipush (v := (130 : Int32)) K dX4_isOfLaw_108 (by decide) ?_
    refine go_icmp_ne (tgt := 118) K dX4_isOfLaw_111 (by decide) (fun c10 => ?_) (fun c10 => ?_)
    rotate_left
    · replace h := ite_t h c10
      exact go_sub [] rfl (hj114 h)
    replace h := ite_f h c10
    refine go_iconst (v := (0 : Int32)) K dX4_isOfLaw_118 (by decide) ?_
    exact go_zret K hr (by decide) h rfl dX4_isOfLaw_119
  replace h := ite_f h c8
  by_cases c11 : v1 = (147 : Int32)
  · refine go_tableIn K dX4_isOfLaw_1 (by rw [c11]; decide) (by rw [c11]; decide) (off := 119) (by rw [c11]; decide) (tgt := 120) (by decide) ?_
    replace h := ite_t h c11
    refine go_aload_n K dX4_isOfLaw_120 0 rfl rfl ?_
    refine gf_X4 K 4 (by decide) kf_X4_73 (v := .int (C 406 4)) rfl dX4_isOfLaw_121 ?_
    refine go_sipush (v := (128 : Int32)) K dX4_isOfLaw_124 (by decide) ?_
    refine go_icmp_ne (tgt := 134) K dX4_isOfLaw_127 (by decide) (fun c12 => ?_) (fun c12 => ?_)
    · replace h := ite_f h c12
      refine go_iconst (v := (0 : Int32)) K dX4_isOfLaw_134 (by decide) ?_
      exact go_zret K hr (by decide) h rfl dX4_isOfLaw_135
    replace h := ite_t h c12
    refine go_iconst (v := (1 : Int32)) K dX4_isOfLaw_130 (by decide) ?_
    refine go_goto (tgt := 135) K dX4_isOfLaw_131 (by decide) ?_
    exact go_zret K hr (by decide) h rfl dX4_isOfLaw_135
  replace h := ite_f h c11
  by_cases c13 : v1 = (148 : Int32)
  · refine go_tableIn K dX4_isOfLaw_1 (by rw [c13]; decide) (by rw [c13]; decide) (off := 135) (by rw [c13]; decide) (tgt := 136) (by decide) ?_
    replace h := ite_t h c13
    refine go_aload_n K dX4_isOfLaw_136 0 rfl rfl ?_
    refine gf_X4 K 4 (by decide) kf_X4_73 (v := .int (C 406 4)) rfl dX4_isOfLaw_137 ?_
    refine go_sipush (v := (129 : Int32)) K dX4_isOfLaw_140 (by decide) ?_
    refine go_icmp_ne (tgt := 150) K dX4_isOfLaw_143 (by decide) (fun c14 => ?_) (fun c14 => ?_)
    · replace h := ite_f h c14
      refine go_iconst (v := (0 : Int32)) K dX4_isOfLaw_150 (by decide) ?_
      exact go_zret K hr (by decide) h rfl dX4_isOfLaw_151
    replace h := ite_t h c14
    refine go_iconst (v := (1 : Int32)) K dX4_isOfLaw_146 (by decide) ?_
    refine go_goto (tgt := 151) K dX4_isOfLaw_147 (by decide) ?_
    exact go_zret K hr (by decide) h rfl dX4_isOfLaw_151
  replace h := ite_f h c13
  have c1 := sw_ne c1 (k := 140) (by decide)
  have c4 := sw_ne c4 (k := 144) (by decide)
  have c6 := sw_ne c6 (k := 145) (by decide)
  have c8 := sw_ne c8 (k := 146) (by decide)
  have c11 := sw_ne c11 (k := 147) (by decide)
  have c13 := sw_ne c13 (k := 148) (by decide)
  by_cases c15 : v1 = (141 : Int32)
  · refine go_tableIn K dX4_isOfLaw_1 (by rw [c15]; decide) (by rw [c15]; decide) (off := 151) (by rw [c15]; decide) (tgt := 152) (by decide) ?_
    refine go_iconst (v := (1 : Int32)) K dX4_isOfLaw_152 (by decide) ?_
    exact go_zret K hr (by decide) h rfl dX4_isOfLaw_153
  have c15 := sw_ne c15 (k := 141) (by decide)
  by_cases c16 : v1 = (142 : Int32)
  · refine go_tableIn K dX4_isOfLaw_1 (by rw [c16]; decide) (by rw [c16]; decide) (off := 151) (by rw [c16]; decide) (tgt := 152) (by decide) ?_
    refine go_iconst (v := (1 : Int32)) K dX4_isOfLaw_152 (by decide) ?_
    exact go_zret K hr (by decide) h rfl dX4_isOfLaw_153
  have c16 := sw_ne c16 (k := 142) (by decide)
  by_cases c17 : v1 = (143 : Int32)
  · refine go_tableIn K dX4_isOfLaw_1 (by rw [c17]; decide) (by rw [c17]; decide) (off := 151) (by rw [c17]; decide) (tgt := 152) (by decide) ?_
    refine go_iconst (v := (1 : Int32)) K dX4_isOfLaw_152 (by decide) ?_
    exact go_zret K hr (by decide) h rfl dX4_isOfLaw_153
  have c17 := sw_ne c17 (k := 143) (by decide)
  refine go_tableOut (tgt := 152) K dX4_isOfLaw_1 (show (v1).toInt < 140 ∨ 148 < (v1).toInt from by omega) (by decide) ?_
  refine go_iconst (v := (1 : Int32)) K dX4_isOfLaw_152 (by decide) ?_
  exact go_zret K hr (by decide) h rfl dX4_isOfLaw_153
