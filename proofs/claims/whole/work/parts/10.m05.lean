noncomputable def X0_find_j81 (t : Nat) (rc : Int32 → CM → Option (Int32 × CM)) (v3 : Int32) (C : CM) : Option (Int32 × CM) := (rc (v3 + (1 : Int32)) C)
noncomputable def X0_find_l56 (t : Nat) (k81 : Int32 → CM → Option (Int32 × CM)) : Nat → Int32 → Int32 → CM → Option (Int32 × CM)
  | 0, _, _, _ => none
  | n + 1, v3, v4, C => (if v3 < v4 then (k81 v3 C) else (bnd2 (f_X0_reaches v3 (-1 : Int32) v4 C) (fun r9 C9 => (if r9 = 0 then (X0_find_l56 t k81 n v3 (v4 + (1 : Int32)) C9) else (some ((1 : Int32), C9))))))
noncomputable def X0_find_j53 (t : Nat) (rc : Int32 → CM → Option (Int32 × CM)) (v3 : Int32) (C : CM) : Option (Int32 × CM) := (X0_find_l56 t (fun v3 C => (X0_find_j81 t rc v3 C)) FU v3 (1 : Int32) C)
noncomputable def X0_find_l29 (t : Nat) (k53 : Int32 → CM → Option (Int32 × CM)) : Nat → Int32 → Int32 → CM → Option (Int32 × CM)
  | 0, _, _, _ => none
  | n + 1, v3, v4, C => (if v4 ≤ 0 then (k53 v3 C) else (bnd2 (f_X0_reaches v3 (1 : Int32) v4 C) (fun r6 C6 => (if r6 = 0 then (X0_find_l29 t k53 n v3 (v4 + (-1 : Int32)) C6) else (some ((1 : Int32), C6))))))
noncomputable def X0_find_l20 (t : Nat) : Nat → Int32 → CM → Option (Int32 × CM)
  | 0, _, _ => none
  | n + 1, v3, C => (if (9 : Int32) < v3 then (some ((0 : Int32), C)) else (X0_find_l29 t (fun v3 C => (X0_find_j53 t (fun v3 C => X0_find_l20 t n v3 C) v3 C)) FU v3 v3 C))
noncomputable def f_X0_find (t : Nat) (v2 : Int32) (C : CM) : Option (Int32 × CM) := (bnd (f_X0_look t v2 C) (fun C1 => (bnd2 (f_X0_reaches (0 : Int32) (1 : Int32) (0 : Int32) C1) (fun r2 C2 => (if r2 = 0 then (X0_find_l20 t FU (1 : Int32) C2) else (some ((1 : Int32), C2)))))))
theorem cf_X0_find : CF yX0_find cX0_find 5 (Option.some Jvm.ClassFile.FieldType.boolean) 2 := ⟨kc_X0_find, kj_X0, ⟨by decide +kernel, by decide +kernel, by decide +kernel⟩, by decide⟩
theorem cv_X0_find : CFv yX0_find := ⟨ki_X0_find, ks_X0_find⟩
set_option maxHeartbeats 4000000 in
set_option maxRecDepth 100000 in
theorem c_X0_find (l : Launch) (G : GT) {t : Nat} (ht : StAt t) (v2 : Int32) (C : CM) (O : OM) (res : Int32) (C' : CM) (h : f_X0_find t v2 C = some (res, C')) : MI l G yX0_find cX0_find 5 (Option.some Jvm.ClassFile.FieldType.boolean) (4) [.ref (gB G + 413), .ref (gB G + t), .int v2] (C, O) res (C', O) := by
  unfold MI
  refine met_in RX0 (by decide +kernel) rfl [(0, .ref (gB G + 413)), (1, .ref (gB G + t)), (2, .int v2)] rfl (Nat.le_of_ble_eq_true rfl) ?_
  intro pM eM sM mM aM bM meM cM K hr
  have hl20 : ∀ (n20 : Nat) (v3 : Int32) (C : CM), X0_find_l20 t n20 v3 C = some (res, C') → GO pM l eM (4) sM mM aM bM meM cM (MQ bM (va_Qi (fun (r' : Int32) (u : CM × OM) => r' = res ∧ u = (C', O)) (wB G) (Fr G)) aM sM 0 0 (Fr G)) G 5 (C, O) 20 [(0, .ref (gB G + 413)), (3, .int v3)] [] := by
    intro n20
    induction n20 with
    | zero =>
      intro v3 C h
      rw [X0_find_l20] at h
      cases h
    | succ n20 ih20 =>
      have hj81 : ∀ (v3 : Int32) (C : CM), X0_find_j81 t (fun v3 C => X0_find_l20 t n20 v3 C) v3 C = some (res, C') → GO pM l eM (4) sM mM aM bM meM cM (MQ bM (va_Qi (fun (r' : Int32) (u : CM × OM) => r' = res ∧ u = (C', O)) (wB G) (Fr G)) aM sM 0 0 (Fr G)) G 5 (C, O) 81 [(0, .ref (gB G + 413)), (3, .int v3)] [] := by
        intro v3 C h
        rw [X0_find_j81] at h
        refine go_iinc K dX0_find_81 1 rfl (v := (v3 + (1 : Int32))) rfl (by decide) (lv' := [(3, .int (v3 + (1 : Int32))), (0, .ref (gB G + 413))]) rfl ?_
        refine go_goto (tgt := 20) K dX0_find_84 (by decide) ?_
        exact go_sub [1, 0] rfl (ih20 _ _ h)
      have hl56 : ∀ (n56 : Nat) (v3 : Int32) (v4 : Int32) (C : CM), X0_find_l56 t (fun v3 C => (X0_find_j81 t (fun v3 C => X0_find_l20 t n20 v3 C) v3 C)) n56 v3 v4 C = some (res, C') → GO pM l eM (4) sM mM aM bM meM cM (MQ bM (va_Qi (fun (r' : Int32) (u : CM × OM) => r' = res ∧ u = (C', O)) (wB G) (Fr G)) aM sM 0 0 (Fr G)) G 5 (C, O) 56 [(0, .ref (gB G + 413)), (3, .int v3), (4, .int v4)] [] := by
        intro n56
        induction n56 with
        | zero =>
          intro v3 v4 C h
          rw [X0_find_l56] at h
          cases h
        | succ n56 ih56 =>
          intro v3 v4 C h
          rw [X0_find_l56] at h
          refine go_iload K dX0_find_56 2 rfl ?_
          refine go_iload_n K dX0_find_58 1 rfl rfl ?_
          refine go_icmp_gt (tgt := 81) K dX0_find_59 (by decide) (fun c8 => ?_) (fun c8 => ?_)
          · replace h := ite_t h c8
            exact go_sub [0, 1] rfl (hj81 _ _ h)
          replace h := ite_f h c8
          refine go_aload_n K dX0_find_62 0 rfl rfl ?_
          refine go_iload_n K dX0_find_63 1 rfl rfl ?_
          refine go_iconst (v := (-1 : Int32)) K dX0_find_64 (by decide) ?_
          refine go_iload K dX0_find_65 2 rfl ?_
          obtain ⟨r9, C9, e9, h⟩ := bnd2_e h
          refine go_cVI K (c_X0_reaches l G _ _ _ _ _ _ _ e9) cf_X0_reaches cv_X0_reaches km_X0_15 rv_X0 (by decide) rfl rfl (Nat.le_of_ble_eq_true rfl) dX0_find_67 ?_
          refine go_if_eq (tgt := 75) K dX0_find_70 (by decide) (fun c10 => ?_) (fun c10 => ?_)
          rotate_left
          · replace h := ite_f h c10
            refine go_iconst (v := (1 : Int32)) K dX0_find_73 (by decide) ?_
            exact go_zret K hr (by decide) (Prod.mk.inj (Option.some.inj h)).1 (congrArg (fun z => (z, O)) (Prod.mk.inj (Option.some.inj h)).2) dX0_find_74
          replace h := ite_t h c10
          refine go_iinc K dX0_find_75 2 rfl (v := (v4 + (1 : Int32))) rfl (by decide) (lv' := [(4, .int (v4 + (1 : Int32))), (0, .ref (gB G + 413)), (3, .int v3)]) rfl ?_
          refine go_goto (tgt := 56) K dX0_find_78 (by decide) ?_
          exact go_sub [1, 2, 0] rfl (ih56 _ _ _ h)
      have hj53 : ∀ (v3 : Int32) (C : CM), X0_find_j53 t (fun v3 C => X0_find_l20 t n20 v3 C) v3 C = some (res, C') → GO pM l eM (4) sM mM aM bM meM cM (MQ bM (va_Qi (fun (r' : Int32) (u : CM × OM) => r' = res ∧ u = (C', O)) (wB G) (Fr G)) aM sM 0 0 (Fr G)) G 5 (C, O) 53 [(0, .ref (gB G + 413)), (3, .int v3)] [] := by
        intro v3 C h
        rw [X0_find_j53] at h
        refine go_iconst (v := (1 : Int32)) K dX0_find_53 (by decide) ?_
        refine go_istore K dX0_find_54 (by decide) (lv' := [(4, .int (1 : Int32)), (0, .ref (gB G + 413)), (3, .int v3)]) rfl ?_
        exact go_sub [1, 2, 0] rfl (hl56 FU _ _ _ h)
      have hl29 : ∀ (n29 : Nat) (v3 : Int32) (v4 : Int32) (C : CM), X0_find_l29 t (fun v3 C => (X0_find_j53 t (fun v3 C => X0_find_l20 t n20 v3 C) v3 C)) n29 v3 v4 C = some (res, C') → GO pM l eM (4) sM mM aM bM meM cM (MQ bM (va_Qi (fun (r' : Int32) (u : CM × OM) => r' = res ∧ u = (C', O)) (wB G) (Fr G)) aM sM 0 0 (Fr G)) G 5 (C, O) 29 [(0, .ref (gB G + 413)), (3, .int v3), (4, .int v4)] [] := by
        intro n29
        induction n29 with
        | zero =>
          intro v3 v4 C h
          rw [X0_find_l29] at h
          cases h
        | succ n29 ih29 =>
          intro v3 v4 C h
          rw [X0_find_l29] at h
          refine go_iload K dX0_find_29 2 rfl ?_
          refine go_if_le (tgt := 53) K dX0_find_31 (by decide) (fun c5 => ?_) (fun c5 => ?_)
          · replace h := ite_t h c5
            exact go_sub [0, 1] rfl (hj53 _ _ h)
          replace h := ite_f h c5
          refine go_aload_n K dX0_find_34 0 rfl rfl ?_
          refine go_iload_n K dX0_find_35 1 rfl rfl ?_
          refine go_iconst (v := (1 : Int32)) K dX0_find_36 (by decide) ?_
          refine go_iload K dX0_find_37 2 rfl ?_
          obtain ⟨r6, C6, e6, h⟩ := bnd2_e h
          refine go_cVI K (c_X0_reaches l G _ _ _ _ _ _ _ e6) cf_X0_reaches cv_X0_reaches km_X0_15 rv_X0 (by decide) rfl rfl (Nat.le_of_ble_eq_true rfl) dX0_find_39 ?_
          refine go_if_eq (tgt := 47) K dX0_find_42 (by decide) (fun c7 => ?_) (fun c7 => ?_)
          rotate_left
          · replace h := ite_f h c7
            refine go_iconst (v := (1 : Int32)) K dX0_find_45 (by decide) ?_
            exact go_zret K hr (by decide) (Prod.mk.inj (Option.some.inj h)).1 (congrArg (fun z => (z, O)) (Prod.mk.inj (Option.some.inj h)).2) dX0_find_46
          replace h := ite_t h c7
          refine go_iinc K dX0_find_47 2 rfl (v := (v4 + (-1 : Int32))) rfl (by decide) (lv' := [(4, .int (v4 + (-1 : Int32))), (0, .ref (gB G + 413)), (3, .int v3)]) rfl ?_
          refine go_goto (tgt := 29) K dX0_find_50 (by decide) ?_
          exact go_sub [1, 2, 0] rfl (ih29 _ _ _ h)
      intro v3 C h
      rw [X0_find_l20] at h
      refine go_iload_n K dX0_find_20 1 rfl rfl ?_
      refine go_bipush (v := (9 : Int32)) K dX0_find_21 (by decide) ?_
      refine go_icmp_gt (tgt := 87) K dX0_find_23 (by decide) (fun c4 => ?_) (fun c4 => ?_)
      · replace h := ite_t h c4
        refine go_iconst (v := (0 : Int32)) K dX0_find_87 (by decide) ?_
        exact go_zret K hr (by decide) (Prod.mk.inj (Option.some.inj h)).1 (congrArg (fun z => (z, O)) (Prod.mk.inj (Option.some.inj h)).2) dX0_find_88
      replace h := ite_f h c4
      refine go_iload_n K dX0_find_26 1 rfl rfl ?_
      refine go_istore K dX0_find_27 (by decide) (lv' := [(4, .int v3), (0, .ref (gB G + 413)), (3, .int v3)]) rfl ?_
      exact go_sub [1, 2, 0] rfl (hl29 FU _ _ _ h)
  rw [f_X0_find] at h
  refine go_aload_n K dX0_find_0 0 rfl rfl ?_
  refine go_aload_n K dX0_find_1 1 rfl rfl ?_
  refine go_iload_n K dX0_find_2 2 rfl rfl ?_
  obtain ⟨C1, e1, h⟩ := bnd_e h
  refine go_cVV K (c_X0_look l G ht _ _ _ _ e1) cf_X0_look cv_X0_look km_X0_9 rv_X0 (by decide) rfl rfl (Nat.le_of_ble_eq_true rfl) dX0_find_3 ?_
  refine go_aload_n K dX0_find_6 0 rfl rfl ?_
  refine go_iconst (v := (0 : Int32)) K dX0_find_7 (by decide) ?_
  refine go_iconst (v := (1 : Int32)) K dX0_find_8 (by decide) ?_
  refine go_iconst (v := (0 : Int32)) K dX0_find_9 (by decide) ?_
  obtain ⟨r2, C2, e2, h⟩ := bnd2_e h
  refine go_cVI K (c_X0_reaches l G _ _ _ _ _ _ _ e2) cf_X0_reaches cv_X0_reaches km_X0_15 rv_X0 (by decide) rfl rfl (Nat.le_of_ble_eq_true rfl) dX0_find_10 ?_
  refine go_if_eq (tgt := 18) K dX0_find_13 (by decide) (fun c3 => ?_) (fun c3 => ?_)
  rotate_left
  · replace h := ite_f h c3
    refine go_iconst (v := (1 : Int32)) K dX0_find_16 (by decide) ?_
    exact go_zret K hr (by decide) (Prod.mk.inj (Option.some.inj h)).1 (congrArg (fun z => (z, O)) (Prod.mk.inj (Option.some.inj h)).2) dX0_find_17
  replace h := ite_t h c3
  refine go_iconst (v := (1 : Int32)) K dX0_find_18 (by decide) ?_
  refine go_istore_n K dX0_find_19 rfl (by decide) (lv' := [(3, .int (1 : Int32)), (0, .ref (gB G + 413)), (1, .ref (gB G + t)), (2, .int v2)]) rfl ?_
  exact go_sub [1, 0] rfl (hl20 FU _ _ h)
noncomputable def X5_mostEvenSets_j161 (t : Nat) (v2 : Int32) (C : CM) : Option (Int32 × CM) := (gd (inb (v2 - (1 : Int32)) 128) (some ((C 416 (v2 - (1 : Int32)).toNatClampNeg), C)))
noncomputable def X5_mostEvenSets_j155 (t : Nat) (rc : Int32 → Int32 → CM → Option (Int32 × CM)) (k161 : Int32 → CM → Option (Int32 × CM)) (v2 : Int32) (v3 : Int32) (C : CM) : Option (Int32 × CM) := (rc v2 (v3 + (1 : Int32)) C)
noncomputable def X5_mostEvenSets_j136 (t : Nat) (rc : Int32 → Int32 → CM → Option (Int32 × CM)) (k161 : Int32 → CM → Option (Int32 × CM)) (v2 : Int32) (v3 : Int32) (C : CM) : Option (Int32 × CM) := (gd (inb v3 128) (if (C 415 v3.toNatClampNeg) = 0 then (gd (inb v3 128) (gd (inb v3 128) (X5_mostEvenSets_j155 t rc k161 v2 v3 (up2 C 416 v3.toNatClampNeg ((C 416 v3.toNatClampNeg) + (1 : Int32)))))) else (X5_mostEvenSets_j155 t rc k161 v2 v3 C)))
noncomputable def X5_mostEvenSets_j130 (t : Nat) (rc : Int32 → Int32 → Int32 → CM → Option (Int32 × CM)) (k136 : Int32 → Int32 → CM → Option (Int32 × CM)) (v2 : Int32) (v3 : Int32) (v6 : Int32) (C : CM) : Option (Int32 × CM) := (rc v2 v3 (v6 + (1 : Int32)) C)
noncomputable def X5_mostEvenSets_l84 (t : Nat) (k136 : Int32 → Int32 → CM → Option (Int32 × CM)) : Nat → Int32 → Int32 → Int32 → CM → Option (Int32 × CM)
  | 0, _, _, _, _ => none
  | n + 1, v2, v3, v6, C => (if (C t 0) ≤ v6 then (k136 v2 v3 C) else (if ((v3 >>> (v6 &&& 31)) &&& (1 : Int32)) = 0 then (X5_mostEvenSets_j130 t (fun v2 v3 v6 C => X5_mostEvenSets_l84 t k136 n v2 v3 v6 C) k136 v2 v3 v6 C) else (gd (inb v3 128) (gd (inb (v3 &&& (((1 : Int32) <<< (v6 &&& 31)) ^^^ (-1 : Int32))) 128) (gd (inb v3 128) (X5_mostEvenSets_j130 t (fun v2 v3 v6 C => X5_mostEvenSets_l84 t k136 n v2 v3 v6 C) k136 v2 v3 v6 (up2 C 416 v3.toNatClampNeg (f_J9_max_7cf53 (C 416 v3.toNatClampNeg) (C 416 (v3 &&& (((1 : Int32) <<< (v6 &&& 31)) ^^^ (-1 : Int32))).toNatClampNeg)))))))))
noncomputable def X5_mostEvenSets_l29 (t : Nat) (k161 : Int32 → CM → Option (Int32 × CM)) : Nat → Int32 → Int32 → CM → Option (Int32 × CM)
  | 0, _, _, _ => none
  | n + 1, v2, v3, C => (if v2 ≤ v3 then (k161 v2 C) else (bnd (f_X7_owedTogether t (f_J6_numberOfTrailingZeros_0f7a4 v3) C) (fun r2 => (bnd (f_X7_owesTogether t (f_J6_numberOfTrailingZeros_0f7a4 v3) C) (fun r3 => (gd (inb (v3 &&& (v3 - (1 : Int32))) 128) (gd (inb v3 128) (gd (inb v3 128) (X5_mostEvenSets_l84 t (fun v2 v3 C => (X5_mostEvenSets_j136 t (fun v2 v3 C => X5_mostEvenSets_l29 t k161 n v2 v3 C) k161 v2 v3 C)) FU v2 v3 (0 : Int32) (up2 (up2 C 415 v3.toNatClampNeg ((C 415 (v3 &&& (v3 - (1 : Int32))).toNatClampNeg) + (r2 - r3))) 416 v3.toNatClampNeg (0 : Int32)))))))))))
noncomputable def f_X5_mostEvenSets (t : Nat) (C : CM) : Option (Int32 × CM) := (X5_mostEvenSets_l29 t (fun v2 C => (X5_mostEvenSets_j161 t v2 C)) FU (f_J9_min_7cf53 (128 : Int32) ((1 : Int32) <<< ((C t 0) &&& 31))) (1 : Int32) (up2 (up2 C 415 0 (0 : Int32)) 416 0 (0 : Int32)))
theorem cf_X5_mostEvenSets : CF yX5_mostEvenSets cX5_mostEvenSets 7 (Option.some Jvm.ClassFile.FieldType.int) 1 := ⟨kc_X5_mostEvenSets, kj_X5, ⟨by decide +kernel, by decide +kernel, by decide +kernel⟩, by decide⟩
theorem cv_X5_mostEvenSets : CFv yX5_mostEvenSets := ⟨ki_X5_mostEvenSets, ks_X5_mostEvenSets⟩
set_option maxHeartbeats 4000000 in
set_option maxRecDepth 100000 in
theorem c_X5_mostEvenSets (l : Launch) (G : GT) {t : Nat} (ht : StAt t) (C : CM) (O : OM) (res : Int32) (C' : CM) (h : f_X5_mostEvenSets t C = some (res, C')) : MI l G yX5_mostEvenSets cX5_mostEvenSets 7 (Option.some Jvm.ClassFile.FieldType.int) (3) [.ref (gB G + 414), .ref (gB G + t)] (C, O) res (C', O) := by
  unfold MI
  refine met_in RX5 (by decide +kernel) rfl [(0, .ref (gB G + 414)), (1, .ref (gB G + t))] rfl (Nat.le_of_ble_eq_true rfl) ?_
  intro pM eM sM mM aM bM meM cM K hr
  have hj161 : ∀ (v2 : Int32) (C : CM), X5_mostEvenSets_j161 t v2 C = some (res, C') → GO pM l eM (3) sM mM aM bM meM cM (MQ bM (va_Qi (fun (r' : Int32) (u : CM × OM) => r' = res ∧ u = (C', O)) (wB G) (Fr G)) aM sM 0 0 (Fr G)) G 7 (C, O) 161 [(0, .ref (gB G + 414)), (2, .int v2)] [] := by
    intro v2 C h
    rw [X5_mostEvenSets_j161] at h
    refine go_aload_n K dX5_mostEvenSets_161 0 rfl rfl ?_
    refine gf_X5 K 1 (by decide) kf_X5_15 (v := .ref (gB G + 416)) rfl dX5_mostEvenSets_162 ?_
    refine go_iload_n K dX5_mostEvenSets_165 1 rfl rfl ?_
    refine go_iconst (v := (1 : Int32)) K dX5_mostEvenSets_166 (by decide) ?_
    refine go_isub K dX5_mostEvenSets_167 ?_
    obtain ⟨g16, h⟩ := gd_e h
    refine go_cald K (Nat.le_of_ble_eq_true rfl) sh_416 g16 rfl dX5_mostEvenSets_168 ?_
    exact go_iret K hr (Prod.mk.inj (Option.some.inj h)).1 (congrArg (fun z => (z, O)) (Prod.mk.inj (Option.some.inj h)).2) dX5_mostEvenSets_169
  have hl29 : ∀ (n29 : Nat) (v2 : Int32) (v3 : Int32) (C : CM), X5_mostEvenSets_l29 t (fun v2 C => (X5_mostEvenSets_j161 t v2 C)) n29 v2 v3 C = some (res, C') → GO pM l eM (3) sM mM aM bM meM cM (MQ bM (va_Qi (fun (r' : Int32) (u : CM × OM) => r' = res ∧ u = (C', O)) (wB G) (Fr G)) aM sM 0 0 (Fr G)) G 7 (C, O) 29 [(0, .ref (gB G + 414)), (1, .ref (gB G + t)), (2, .int v2), (3, .int v3)] [] := by
    intro n29
    induction n29 with
    | zero =>
      intro v2 v3 C h
      rw [X5_mostEvenSets_l29] at h
      cases h
    | succ n29 ih29 =>
      have hj155 : ∀ (v2 : Int32) (v3 : Int32) (C : CM), X5_mostEvenSets_j155 t (fun v2 v3 C => X5_mostEvenSets_l29 t (fun v2 C => (X5_mostEvenSets_j161 t v2 C)) n29 v2 v3 C) (fun v2 C => (X5_mostEvenSets_j161 t v2 C)) v2 v3 C = some (res, C') → GO pM l eM (3) sM mM aM bM meM cM (MQ bM (va_Qi (fun (r' : Int32) (u : CM × OM) => r' = res ∧ u = (C', O)) (wB G) (Fr G)) aM sM 0 0 (Fr G)) G 7 (C, O) 155 [(0, .ref (gB G + 414)), (1, .ref (gB G + t)), (2, .int v2), (3, .int v3)] [] := by
        intro v2 v3 C h
        rw [X5_mostEvenSets_j155] at h
        refine go_iinc K dX5_mostEvenSets_155 3 rfl (v := (v3 + (1 : Int32))) rfl (by decide) (lv' := [(3, .int (v3 + (1 : Int32))), (0, .ref (gB G + 414)), (1, .ref (gB G + t)), (2, .int v2)]) rfl ?_
        refine go_goto (tgt := 29) K dX5_mostEvenSets_158 (by decide) ?_
        exact go_sub [1, 2, 3, 0] rfl (ih29 _ _ _ h)
      have hj136 : ∀ (v2 : Int32) (v3 : Int32) (C : CM), X5_mostEvenSets_j136 t (fun v2 v3 C => X5_mostEvenSets_l29 t (fun v2 C => (X5_mostEvenSets_j161 t v2 C)) n29 v2 v3 C) (fun v2 C => (X5_mostEvenSets_j161 t v2 C)) v2 v3 C = some (res, C') → GO pM l eM (3) sM mM aM bM meM cM (MQ bM (va_Qi (fun (r' : Int32) (u : CM × OM) => r' = res ∧ u = (C', O)) (wB G) (Fr G)) aM sM 0 0 (Fr G)) G 7 (C, O) 136 [(0, .ref (gB G + 414)), (1, .ref (gB G + t)), (2, .int v2), (3, .int v3)] [] := by
        intro v2 v3 C h
        rw [X5_mostEvenSets_j136] at h
        refine go_aload_n K dX5_mostEvenSets_136 0 rfl rfl ?_
        refine gf_X5 K 0 (by decide) kf_X5_11 (v := .ref (gB G + 415)) rfl dX5_mostEvenSets_137 ?_
        refine go_iload_n K dX5_mostEvenSets_140 3 rfl rfl ?_
        obtain ⟨g12, h⟩ := gd_e h
        refine go_cald K (Nat.le_of_ble_eq_true rfl) sh_415 g12 rfl dX5_mostEvenSets_141 ?_
        refine go_if_ne (tgt := 155) K dX5_mostEvenSets_142 (by decide) (fun c13 => ?_) (fun c13 => ?_)
        · replace h := ite_f h c13
          exact hj155 _ _ _ h
        replace h := ite_t h c13
        refine go_aload_n K dX5_mostEvenSets_145 0 rfl rfl ?_
        refine gf_X5 K 1 (by decide) kf_X5_15 (v := .ref (gB G + 416)) rfl dX5_mostEvenSets_146 ?_
        refine go_iload_n K dX5_mostEvenSets_149 3 rfl rfl ?_
        refine go_dup2 K dX5_mostEvenSets_150 rfl rfl ?_
        obtain ⟨g14, h⟩ := gd_e h
        refine go_cald K (Nat.le_of_ble_eq_true rfl) sh_416 g14 rfl dX5_mostEvenSets_151 ?_
        refine go_iconst (v := (1 : Int32)) K dX5_mostEvenSets_152 (by decide) ?_
        refine go_iadd K dX5_mostEvenSets_153 ?_
        obtain ⟨g15, h⟩ := gd_e h
        refine go_cast K (Nat.le_of_ble_eq_true rfl) sh_416 g15 rfl dX5_mostEvenSets_154 ?_
        exact hj155 _ _ _ h
      have hl84 : ∀ (n84 : Nat) (v2 : Int32) (v3 : Int32) (v6 : Int32) (C : CM), X5_mostEvenSets_l84 t (fun v2 v3 C => (X5_mostEvenSets_j136 t (fun v2 v3 C => X5_mostEvenSets_l29 t (fun v2 C => (X5_mostEvenSets_j161 t v2 C)) n29 v2 v3 C) (fun v2 C => (X5_mostEvenSets_j161 t v2 C)) v2 v3 C)) n84 v2 v3 v6 C = some (res, C') → GO pM l eM (3) sM mM aM bM meM cM (MQ bM (va_Qi (fun (r' : Int32) (u : CM × OM) => r' = res ∧ u = (C', O)) (wB G) (Fr G)) aM sM 0 0 (Fr G)) G 7 (C, O) 84 [(0, .ref (gB G + 414)), (1, .ref (gB G + t)), (2, .int v2), (3, .int v3), (6, .int v6)] [] := by
        intro n84
        induction n84 with
        | zero =>
          intro v2 v3 v6 C h
          rw [X5_mostEvenSets_l84] at h
          cases h
        | succ n84 ih84 =>
          have hj130 : ∀ (v2 : Int32) (v3 : Int32) (v6 : Int32) (C : CM), X5_mostEvenSets_j130 t (fun v2 v3 v6 C => X5_mostEvenSets_l84 t (fun v2 v3 C => (X5_mostEvenSets_j136 t (fun v2 v3 C => X5_mostEvenSets_l29 t (fun v2 C => (X5_mostEvenSets_j161 t v2 C)) n29 v2 v3 C) (fun v2 C => (X5_mostEvenSets_j161 t v2 C)) v2 v3 C)) n84 v2 v3 v6 C) (fun v2 v3 C => (X5_mostEvenSets_j136 t (fun v2 v3 C => X5_mostEvenSets_l29 t (fun v2 C => (X5_mostEvenSets_j161 t v2 C)) n29 v2 v3 C) (fun v2 C => (X5_mostEvenSets_j161 t v2 C)) v2 v3 C)) v2 v3 v6 C = some (res, C') → GO pM l eM (3) sM mM aM bM meM cM (MQ bM (va_Qi (fun (r' : Int32) (u : CM × OM) => r' = res ∧ u = (C', O)) (wB G) (Fr G)) aM sM 0 0 (Fr G)) G 7 (C, O) 130 [(0, .ref (gB G + 414)), (1, .ref (gB G + t)), (2, .int v2), (3, .int v3), (6, .int v6)] [] := by
            intro v2 v3 v6 C h
            rw [X5_mostEvenSets_j130] at h
            refine go_iinc K dX5_mostEvenSets_130 4 rfl (v := (v6 + (1 : Int32))) rfl (by decide) (lv' := [(6, .int (v6 + (1 : Int32))), (0, .ref (gB G + 414)), (1, .ref (gB G + t)), (2, .int v2), (3, .int v3)]) rfl ?_
            refine go_goto (tgt := 84) K dX5_mostEvenSets_133 (by decide) ?_
            exact go_sub [1, 2, 3, 4, 0] rfl (ih84 _ _ _ _ h)
          intro v2 v3 v6 C h
          rw [X5_mostEvenSets_l84] at h
          refine go_iload K dX5_mostEvenSets_84 4 rfl ?_
          refine go_aload_n K dX5_mostEvenSets_86 1 rfl rfl ?_
          refine gf_X7 K ht 0 (by decide) kf_X5_18 (v := .int (C t 0)) rfl dX5_mostEvenSets_87 ?_
          refine go_icmp_ge (tgt := 136) K dX5_mostEvenSets_90 (by decide) (fun c7 => ?_) (fun c7 => ?_)
          · replace h := ite_t h c7
            exact go_sub [0, 1, 2, 3] rfl (hj136 _ _ _ h)
          replace h := ite_f h c7
          refine go_iload_n K dX5_mostEvenSets_93 3 rfl rfl ?_
          refine go_iload K dX5_mostEvenSets_94 4 rfl ?_
          refine go_ishr K dX5_mostEvenSets_96 ?_
          refine go_iconst (v := (1 : Int32)) K dX5_mostEvenSets_97 (by decide) ?_
          refine go_iand K dX5_mostEvenSets_98 ?_
          refine go_if_eq (tgt := 130) K dX5_mostEvenSets_99 (by decide) (fun c8 => ?_) (fun c8 => ?_)
          · replace h := ite_t h c8
            exact hj130 _ _ _ _ h
          replace h := ite_f h c8
          refine go_aload_n K dX5_mostEvenSets_102 0 rfl rfl ?_
          refine gf_X5 K 1 (by decide) kf_X5_15 (v := .ref (gB G + 416)) rfl dX5_mostEvenSets_103 ?_
          refine go_iload_n K dX5_mostEvenSets_106 3 rfl rfl ?_
          refine go_aload_n K dX5_mostEvenSets_107 0 rfl rfl ?_
          refine gf_X5 K 1 (by decide) kf_X5_15 (v := .ref (gB G + 416)) rfl dX5_mostEvenSets_108 ?_
          refine go_iload_n K dX5_mostEvenSets_111 3 rfl rfl ?_
          obtain ⟨g9, h⟩ := gd_e h
          refine go_cald K (Nat.le_of_ble_eq_true rfl) sh_416 g9 rfl dX5_mostEvenSets_112 ?_
          refine go_aload_n K dX5_mostEvenSets_113 0 rfl rfl ?_
          refine gf_X5 K 1 (by decide) kf_X5_15 (v := .ref (gB G + 416)) rfl dX5_mostEvenSets_114 ?_
          refine go_iload_n K dX5_mostEvenSets_117 3 rfl rfl ?_
          refine go_iconst (v := (1 : Int32)) K dX5_mostEvenSets_118 (by decide) ?_
          refine go_iload K dX5_mostEvenSets_119 4 rfl ?_
          refine go_ishl K dX5_mostEvenSets_121 ?_
          refine go_iconst (v := (-1 : Int32)) K dX5_mostEvenSets_122 (by decide) ?_
          refine go_ixor K dX5_mostEvenSets_123 ?_
          refine go_iand K dX5_mostEvenSets_124 ?_
          obtain ⟨g10, h⟩ := gd_e h
          refine go_cald K (Nat.le_of_ble_eq_true rfl) sh_416 g10 rfl dX5_mostEvenSets_125 ?_
          refine go_cSI K (c_J9_max_7cf53 l G _ _ _ _ rfl) cf_J9_max_7cf53 kt_J9_max_7cf53 km_X5_42 (by decide) rfl rfl (Nat.le_of_ble_eq_true rfl) dX5_mostEvenSets_126 ?_
          obtain ⟨g11, h⟩ := gd_e h
          refine go_cast K (Nat.le_of_ble_eq_true rfl) sh_416 g11 rfl dX5_mostEvenSets_129 ?_
          exact hj130 _ _ _ _ h
      intro v2 v3 C h
      rw [X5_mostEvenSets_l29] at h
      refine go_iload_n K dX5_mostEvenSets_29 3 rfl rfl ?_
      refine go_iload_n K dX5_mostEvenSets_30 2 rfl rfl ?_
      refine go_icmp_ge (tgt := 161) K dX5_mostEvenSets_31 (by decide) (fun c1 => ?_) (fun c1 => ?_)
      · replace h := ite_t h c1
        exact go_sub [0, 2] rfl (hj161 _ _ h)
      replace h := ite_f h c1
      refine go_iload_n K dX5_mostEvenSets_34 3 rfl rfl ?_
      refine go_cSI K (c_J6_numberOfTrailingZeros_0f7a4 l G _ _ _ rfl) cf_J6_numberOfTrailingZeros_0f7a4 kt_J6_numberOfTrailingZeros_0f7a4 km_X5_30 (by decide) rfl rfl (Nat.le_of_ble_eq_true rfl) dX5_mostEvenSets_35 ?_
      refine go_istore K dX5_mostEvenSets_38 (by decide) (lv' := [(4, .int (f_J6_numberOfTrailingZeros_0f7a4 v3)), (0, .ref (gB G + 414)), (1, .ref (gB G + t)), (2, .int v2), (3, .int v3)]) rfl ?_
      refine go_aload_n K dX5_mostEvenSets_40 2 rfl rfl ?_
      refine go_iload K dX5_mostEvenSets_41 0 rfl ?_
      obtain ⟨r2, e2, h⟩ := bnd_e h
      refine go_cVI K (c_X7_owedTogether l G ht _ _ _ _ e2) cf_X7_owedTogether cv_X7_owedTogether km_X5_36 (rv_X7 ht) (by decide) rfl rfl (Nat.le_of_ble_eq_true rfl) dX5_mostEvenSets_43 ?_
      refine go_aload_n K dX5_mostEvenSets_46 2 rfl rfl ?_
      refine go_iload K dX5_mostEvenSets_47 0 rfl ?_
      obtain ⟨r3, e3, h⟩ := bnd_e h
      refine go_cVI K (c_X7_owesTogether l G ht _ _ _ _ e3) cf_X7_owesTogether cv_X7_owesTogether km_X5_39 (rv_X7 ht) (by decide) rfl rfl (Nat.le_of_ble_eq_true rfl) dX5_mostEvenSets_49 ?_
      refine go_isub K dX5_mostEvenSets_52 ?_
      refine go_istore K dX5_mostEvenSets_53 (by decide) (lv' := [(5, .int (r2 - r3)), (4, .int (f_J6_numberOfTrailingZeros_0f7a4 v3)), (0, .ref (gB G + 414)), (1, .ref (gB G + t)), (2, .int v2), (3, .int v3)]) rfl ?_
      refine go_aload_n K dX5_mostEvenSets_55 2 rfl rfl ?_
      refine gf_X5 K 0 (by decide) kf_X5_11 (v := .ref (gB G + 415)) rfl dX5_mostEvenSets_56 ?_
      refine go_iload_n K dX5_mostEvenSets_59 5 rfl rfl ?_
      refine go_aload_n K dX5_mostEvenSets_60 2 rfl rfl ?_
      refine gf_X5 K 0 (by decide) kf_X5_11 (v := .ref (gB G + 415)) rfl dX5_mostEvenSets_61 ?_
      refine go_iload_n K dX5_mostEvenSets_64 5 rfl rfl ?_
      refine go_iload_n K dX5_mostEvenSets_65 5 rfl rfl ?_
      refine go_iconst (v := (1 : Int32)) K dX5_mostEvenSets_66 (by decide) ?_
      refine go_isub K dX5_mostEvenSets_67 ?_
      refine go_iand K dX5_mostEvenSets_68 ?_
      obtain ⟨g4, h⟩ := gd_e h
      refine go_cald K (Nat.le_of_ble_eq_true rfl) sh_415 g4 rfl dX5_mostEvenSets_69 ?_
      refine go_iload K dX5_mostEvenSets_70 0 rfl ?_
      refine go_iadd K dX5_mostEvenSets_72 ?_
      obtain ⟨g5, h⟩ := gd_e h
      refine go_cast K (Nat.le_of_ble_eq_true rfl) sh_415 g5 rfl dX5_mostEvenSets_73 ?_
      refine go_aload_n K dX5_mostEvenSets_74 2 rfl rfl ?_
      refine gf_X5 K 1 (by decide) kf_X5_15 (v := .ref (gB G + 416)) rfl dX5_mostEvenSets_75 ?_
      refine go_iload_n K dX5_mostEvenSets_78 5 rfl rfl ?_
      refine go_iconst (v := (0 : Int32)) K dX5_mostEvenSets_79 (by decide) ?_
      obtain ⟨g6, h⟩ := gd_e h
      refine go_cast K (Nat.le_of_ble_eq_true rfl) sh_416 g6 rfl dX5_mostEvenSets_80 ?_
      refine go_iconst (v := (0 : Int32)) K dX5_mostEvenSets_81 (by decide) ?_
      refine go_istore K dX5_mostEvenSets_82 (by decide) (lv' := [(6, .int (0 : Int32)), (5, .int (r2 - r3)), (4, .int (f_J6_numberOfTrailingZeros_0f7a4 v3)), (0, .ref (gB G + 414)), (1, .ref (gB G + t)), (2, .int v2), (3, .int v3)]) rfl ?_
      exact go_sub [3, 4, 5, 6, 0] rfl (hl84 FU _ _ _ _ h)
  rw [f_X5_mostEvenSets] at h
  refine go_sipush (v := (128 : Int32)) K dX5_mostEvenSets_0 (by decide) ?_
  refine go_iconst (v := (1 : Int32)) K dX5_mostEvenSets_3 (by decide) ?_
  refine go_aload_n K dX5_mostEvenSets_4 1 rfl rfl ?_
  refine gf_X7 K ht 0 (by decide) kf_X5_18 (v := .int (C t 0)) rfl dX5_mostEvenSets_5 ?_
  refine go_ishl K dX5_mostEvenSets_8 ?_
  refine go_cSI K (c_J9_min_7cf53 l G _ _ _ _ rfl) cf_J9_min_7cf53 kt_J9_min_7cf53 km_X5_24 (by decide) rfl rfl (Nat.le_of_ble_eq_true rfl) dX5_mostEvenSets_9 ?_
  refine go_istore_n K dX5_mostEvenSets_12 rfl (by decide) (lv' := [(2, .int (f_J9_min_7cf53 (128 : Int32) ((1 : Int32) <<< ((C t 0) &&& 31)))), (0, .ref (gB G + 414)), (1, .ref (gB G + t))]) rfl ?_
  refine go_aload_n K dX5_mostEvenSets_13 1 rfl rfl ?_
  refine gf_X5 K 0 (by decide) kf_X5_11 (v := .ref (gB G + 415)) rfl dX5_mostEvenSets_14 ?_
  refine go_iconst (v := (0 : Int32)) K dX5_mostEvenSets_17 (by decide) ?_
  refine go_iconst (v := (0 : Int32)) K dX5_mostEvenSets_18 (by decide) ?_
  refine go_cast K (Nat.le_of_ble_eq_true rfl) sh_415 (in_k (k := 0) (by decide) (by decide)) rfl dX5_mostEvenSets_19 ?_
  refine go_aload_n K dX5_mostEvenSets_20 1 rfl rfl ?_
  refine gf_X5 K 1 (by decide) kf_X5_15 (v := .ref (gB G + 416)) rfl dX5_mostEvenSets_21 ?_
  refine go_iconst (v := (0 : Int32)) K dX5_mostEvenSets_24 (by decide) ?_
  refine go_iconst (v := (0 : Int32)) K dX5_mostEvenSets_25 (by decide) ?_
  refine go_cast K (Nat.le_of_ble_eq_true rfl) sh_416 (in_k (k := 0) (by decide) (by decide)) rfl dX5_mostEvenSets_26 ?_
  refine go_iconst (v := (1 : Int32)) K dX5_mostEvenSets_27 (by decide) ?_
  refine go_istore_n K dX5_mostEvenSets_28 rfl (by decide) (lv' := [(3, .int (1 : Int32)), (2, .int (f_J9_min_7cf53 (128 : Int32) ((1 : Int32) <<< ((C t 0) &&& 31)))), (0, .ref (gB G + 414)), (1, .ref (gB G + t))]) rfl ?_
  exact go_sub [2, 3, 1, 0] rfl (hl29 FU _ _ _ h)
noncomputable def X5_paidWith_j48 (t : Nat) (rc : Int32 → Int32 → Int32 → Int32 → CM → Option Int32) (v2 : Int32) (v3 : Int32) (v4 : Int32) (v5 : Int32) (C : CM) : Option Int32 := (rc v2 v3 v4 (v5 + (1 : Int32)) C)
noncomputable def X5_paidWith_l18 (t : Nat) : Nat → Int32 → Int32 → Int32 → Int32 → CM → Option Int32
  | 0, _, _, _, _, _ => none
  | n + 1, v2, v3, v4, v5, C => (if (C t 0) ≤ v5 then (some v4) else (if ((v2 >>> (v5 &&& 31)) &&& (1 : Int32)) = 0 then (X5_paidWith_j48 t (fun v2 v3 v4 v5 C => X5_paidWith_l18 t n v2 v3 v4 v5 C) v2 v3 v4 v5 C) else (bnd (f_X7_owed t v5 v3 C) (fun r4 => (X5_paidWith_j48 t (fun v2 v3 v4 v5 C => X5_paidWith_l18 t n v2 v3 v4 v5 C) v2 v3 (v4 + r4) v5 C)))))
noncomputable def f_X5_paidWith (t : Nat) (v2 : Int32) (v3 : Int32) (C : CM) : Option Int32 := (gd (inb ((v2 ||| ((1 : Int32) <<< (v3 &&& 31))) &&& (127 : Int32)) 128) (X5_paidWith_l18 t FU v2 v3 (C 416 ((v2 ||| ((1 : Int32) <<< (v3 &&& 31))) &&& (127 : Int32)).toNatClampNeg) (0 : Int32) C))
theorem cf_X5_paidWith : CF yX5_paidWith cX5_paidWith 6 (Option.some Jvm.ClassFile.FieldType.int) 3 := ⟨kc_X5_paidWith, kj_X5, ⟨by decide +kernel, by decide +kernel, by decide +kernel⟩, by decide⟩
theorem cv_X5_paidWith : CFv yX5_paidWith := ⟨ki_X5_paidWith, ks_X5_paidWith⟩
set_option maxHeartbeats 4000000 in
set_option maxRecDepth 100000 in
theorem c_X5_paidWith (l : Launch) (G : GT) {t : Nat} (ht : StAt t) (v2 : Int32) (v3 : Int32) (C : CM) (O : OM) (res : Int32) (h : f_X5_paidWith t v2 v3 C = some res) : MI l G yX5_paidWith cX5_paidWith 6 (Option.some Jvm.ClassFile.FieldType.int) (2) [.ref (gB G + 414), .ref (gB G + t), .int v2, .int v3] (C, O) res (C, O) := by
  unfold MI
  refine met_in RX5 (by decide +kernel) rfl [(0, .ref (gB G + 414)), (1, .ref (gB G + t)), (2, .int v2), (3, .int v3)] rfl (Nat.le_of_ble_eq_true rfl) ?_
  intro pM eM sM mM aM bM meM cM K hr
  have hl18 : ∀ (n18 : Nat) (v2 : Int32) (v3 : Int32) (v4 : Int32) (v5 : Int32), X5_paidWith_l18 t n18 v2 v3 v4 v5 C = some res → GO pM l eM (2) sM mM aM bM meM cM (MQ bM (va_Qi (fun (r' : Int32) (u : CM × OM) => r' = res ∧ u = (C, O)) (wB G) (Fr G)) aM sM 0 0 (Fr G)) G 6 (C, O) 18 [(1, .ref (gB G + t)), (2, .int v2), (3, .int v3), (4, .int v4), (5, .int v5)] [] := by
    intro n18
    induction n18 with
    | zero =>
      intro v2 v3 v4 v5 h
      rw [X5_paidWith_l18] at h
      cases h
    | succ n18 ih18 =>
      have hj48 : ∀ (v2 : Int32) (v3 : Int32) (v4 : Int32) (v5 : Int32), X5_paidWith_j48 t (fun v2 v3 v4 v5 C => X5_paidWith_l18 t n18 v2 v3 v4 v5 C) v2 v3 v4 v5 C = some res → GO pM l eM (2) sM mM aM bM meM cM (MQ bM (va_Qi (fun (r' : Int32) (u : CM × OM) => r' = res ∧ u = (C, O)) (wB G) (Fr G)) aM sM 0 0 (Fr G)) G 6 (C, O) 48 [(1, .ref (gB G + t)), (2, .int v2), (3, .int v3), (4, .int v4), (5, .int v5)] [] := by
        intro v2 v3 v4 v5 h
        rw [X5_paidWith_j48] at h
        refine go_iinc K dX5_paidWith_48 4 rfl (v := (v5 + (1 : Int32))) rfl (by decide) (lv' := [(5, .int (v5 + (1 : Int32))), (1, .ref (gB G + t)), (2, .int v2), (3, .int v3), (4, .int v4)]) rfl ?_
        refine go_goto (tgt := 18) K dX5_paidWith_51 (by decide) ?_
        exact go_sub [1, 2, 3, 4, 0] rfl (ih18 _ _ _ _ h)
      intro v2 v3 v4 v5 h
      rw [X5_paidWith_l18] at h
      refine go_iload K dX5_paidWith_18 4 rfl ?_
      refine go_aload_n K dX5_paidWith_20 0 rfl rfl ?_
      refine gf_X7 K ht 0 (by decide) kf_X5_18 (v := .int (C t 0)) rfl dX5_paidWith_21 ?_
      refine go_icmp_ge (tgt := 54) K dX5_paidWith_24 (by decide) (fun c2 => ?_) (fun c2 => ?_)
      · replace h := ite_t h c2
        refine go_iload K dX5_paidWith_54 3 rfl ?_
        exact go_iret K hr (Option.some.inj h) rfl dX5_paidWith_56
      replace h := ite_f h c2
      refine go_iload_n K dX5_paidWith_27 1 rfl rfl ?_
      refine go_iload K dX5_paidWith_28 4 rfl ?_
      refine go_ishr K dX5_paidWith_30 ?_
      refine go_iconst (v := (1 : Int32)) K dX5_paidWith_31 (by decide) ?_
      refine go_iand K dX5_paidWith_32 ?_
      refine go_if_eq (tgt := 48) K dX5_paidWith_33 (by decide) (fun c3 => ?_) (fun c3 => ?_)
      · replace h := ite_t h c3
        exact hj48 _ _ _ _ h
      replace h := ite_f h c3
      refine go_iload K dX5_paidWith_36 3 rfl ?_
      refine go_aload_n K dX5_paidWith_38 0 rfl rfl ?_
      refine go_iload K dX5_paidWith_39 4 rfl ?_
      refine go_iload_n K dX5_paidWith_41 2 rfl rfl ?_
      obtain ⟨r4, e4, h⟩ := bnd_e h
      refine go_cVI K (c_X7_owed l G ht _ _ _ _ _ e4) cf_X7_owed cv_X7_owed km_X5_54 (rv_X7 ht) (by decide) rfl rfl (Nat.le_of_ble_eq_true rfl) dX5_paidWith_42 ?_
      refine go_iadd K dX5_paidWith_45 ?_
      refine go_istore K dX5_paidWith_46 (by decide) (lv' := [(4, .int (v4 + r4)), (1, .ref (gB G + t)), (2, .int v2), (3, .int v3), (5, .int v5)]) rfl ?_
      exact go_sub [1, 2, 3, 0, 4] rfl (hj48 _ _ _ _ h)
  rw [f_X5_paidWith] at h
  refine go_aload_n K dX5_paidWith_0 0 rfl rfl ?_
  refine gf_X5 K 1 (by decide) kf_X5_15 (v := .ref (gB G + 416)) rfl dX5_paidWith_1 ?_
  refine go_iload_n K dX5_paidWith_4 2 rfl rfl ?_
  refine go_iconst (v := (1 : Int32)) K dX5_paidWith_5 (by decide) ?_
  refine go_iload_n K dX5_paidWith_6 3 rfl rfl ?_
  refine go_ishl K dX5_paidWith_7 ?_
  refine go_ior K dX5_paidWith_8 ?_
  refine go_bipush (v := (127 : Int32)) K dX5_paidWith_9 (by decide) ?_
  refine go_iand K dX5_paidWith_11 ?_
  obtain ⟨g1, h⟩ := gd_e h
  refine go_cald K (Nat.le_of_ble_eq_true rfl) sh_416 g1 rfl dX5_paidWith_12 ?_
  refine go_istore K dX5_paidWith_13 (by decide) (lv' := [(4, .int (C 416 ((v2 ||| ((1 : Int32) <<< (v3 &&& 31))) &&& (127 : Int32)).toNatClampNeg)), (0, .ref (gB G + 414)), (1, .ref (gB G + t)), (2, .int v2), (3, .int v3)]) rfl ?_
  refine go_iconst (v := (0 : Int32)) K dX5_paidWith_15 (by decide) ?_
  refine go_istore K dX5_paidWith_16 (by decide) (lv' := [(5, .int (0 : Int32)), (4, .int (C 416 ((v2 ||| ((1 : Int32) <<< (v3 &&& 31))) &&& (127 : Int32)).toNatClampNeg)), (0, .ref (gB G + 414)), (1, .ref (gB G + t)), (2, .int v2), (3, .int v3)]) rfl ?_
  exact go_sub [3, 4, 5, 1, 0] rfl (hl18 FU _ _ _ _ h)
noncomputable def X5_weighOrders_j88 (t : Nat) (rc : Int32 → CM → Option CM) (v3 : Int32) (C : CM) : Option CM := (rc (v3 + (-1 : Int32)) C)
noncomputable def X5_weighOrders_j82 (t : Nat) (rc : Int32 → Int32 → CM → Option CM) (k88 : Int32 → CM → Option CM) (v3 : Int32) (v4 : Int32) (C : CM) : Option CM := (rc v3 (v4 + (1 : Int32)) C)
noncomputable def X5_weighOrders_l41 (t : Nat) (k88 : Int32 → CM → Option CM) : Nat → Int32 → Int32 → CM → Option CM
  | 0, _, _, _ => none
  | n + 1, v3, v4, C => (if (C t 0) ≤ v4 then (k88 v3 C) else (if ((v3 >>> (v4 &&& 31)) &&& (1 : Int32)) = 0 then (gd (inb v3 128) (bnd (f_X5_paidWith t v3 v4 C) (fun r7 => (gd (inb v3 128) (X5_weighOrders_j82 t (fun v3 v4 C => X5_weighOrders_l41 t k88 n v3 v4 C) k88 v3 v4 (up2 C 416 v3.toNatClampNeg (f_J9_min_7cf53 (C 416 v3.toNatClampNeg) r7))))))) else (X5_weighOrders_j82 t (fun v3 v4 C => X5_weighOrders_l41 t k88 n v3 v4 C) k88 v3 v4 C)))
noncomputable def X5_weighOrders_l26 (t : Nat) : Nat → Int32 → CM → Option CM
  | 0, _, _ => none
  | n + 1, v3, C => (if v3 < 0 then (some C) else (gd (inb v3 128) (X5_weighOrders_l41 t (fun v3 C => (X5_weighOrders_j88 t (fun v3 C => X5_weighOrders_l26 t n v3 C) v3 C)) FU v3 (0 : Int32) (up2 C 416 v3.toNatClampNeg (2147483647 : Int32)))))
noncomputable def f_X5_weighOrders (t : Nat) (C : CM) : Option CM := (gd (inb ((f_J9_min_7cf53 (128 : Int32) ((1 : Int32) <<< ((C t 0) &&& 31))) - (1 : Int32)) 128) (X5_weighOrders_l26 t FU (((f_J9_min_7cf53 (128 : Int32) ((1 : Int32) <<< ((C t 0) &&& 31))) - (1 : Int32)) - (1 : Int32)) (up2 C 416 ((f_J9_min_7cf53 (128 : Int32) ((1 : Int32) <<< ((C t 0) &&& 31))) - (1 : Int32)).toNatClampNeg (0 : Int32))))
theorem cf_X5_weighOrders : CF yX5_weighOrders cX5_weighOrders 5 (Option.none : Option Jvm.ClassFile.FieldType) 1 := ⟨kc_X5_weighOrders, kj_X5, ⟨by decide +kernel, by decide +kernel, by decide +kernel⟩, by decide⟩
theorem cv_X5_weighOrders : CFv yX5_weighOrders := ⟨ki_X5_weighOrders, ks_X5_weighOrders⟩
set_option maxHeartbeats 4000000 in
set_option maxRecDepth 100000 in
theorem c_X5_weighOrders (l : Launch) (G : GT) {t : Nat} (ht : StAt t) (C : CM) (O : OM) (C' : CM) (h : f_X5_weighOrders t C = some C') : MV l G yX5_weighOrders cX5_weighOrders 5 (Option.none : Option Jvm.ClassFile.FieldType) (3) [.ref (gB G + 414), .ref (gB G + t)] (C, O) (C', O) := by
  unfold MV
  refine met_in RX5 (by decide +kernel) rfl [(0, .ref (gB G + 414)), (1, .ref (gB G + t))] rfl (Nat.le_of_ble_eq_true rfl) ?_
  intro pM eM sM mM aM bM meM cM K hr
  have hl26 : ∀ (n26 : Nat) (v3 : Int32) (C : CM), X5_weighOrders_l26 t n26 v3 C = some C' → GO pM l eM (3) sM mM aM bM meM cM (MQ bM (va_Qv (fun (u : CM × OM) => u = (C', O)) (wB G) (Fr G)) aM sM 0 0 (Fr G)) G 5 (C, O) 26 [(0, .ref (gB G + 414)), (1, .ref (gB G + t)), (3, .int v3)] [] := by
    intro n26
    induction n26 with
    | zero =>
      intro v3 C h
      rw [X5_weighOrders_l26] at h
      cases h
    | succ n26 ih26 =>
      have hj88 : ∀ (v3 : Int32) (C : CM), X5_weighOrders_j88 t (fun v3 C => X5_weighOrders_l26 t n26 v3 C) v3 C = some C' → GO pM l eM (3) sM mM aM bM meM cM (MQ bM (va_Qv (fun (u : CM × OM) => u = (C', O)) (wB G) (Fr G)) aM sM 0 0 (Fr G)) G 5 (C, O) 88 [(0, .ref (gB G + 414)), (1, .ref (gB G + t)), (3, .int v3)] [] := by
        intro v3 C h
        rw [X5_weighOrders_j88] at h
        refine go_iinc K dX5_weighOrders_88 2 rfl (v := (v3 + (-1 : Int32))) rfl (by decide) (lv' := [(3, .int (v3 + (-1 : Int32))), (0, .ref (gB G + 414)), (1, .ref (gB G + t))]) rfl ?_
        refine go_goto (tgt := 26) K dX5_weighOrders_91 (by decide) ?_
        exact go_sub [1, 2, 0] rfl (ih26 _ _ h)
      have hl41 : ∀ (n41 : Nat) (v3 : Int32) (v4 : Int32) (C : CM), X5_weighOrders_l41 t (fun v3 C => (X5_weighOrders_j88 t (fun v3 C => X5_weighOrders_l26 t n26 v3 C) v3 C)) n41 v3 v4 C = some C' → GO pM l eM (3) sM mM aM bM meM cM (MQ bM (va_Qv (fun (u : CM × OM) => u = (C', O)) (wB G) (Fr G)) aM sM 0 0 (Fr G)) G 5 (C, O) 41 [(0, .ref (gB G + 414)), (1, .ref (gB G + t)), (3, .int v3), (4, .int v4)] [] := by
        intro n41
        induction n41 with
        | zero =>
          intro v3 v4 C h
          rw [X5_weighOrders_l41] at h
          cases h
        | succ n41 ih41 =>
          have hj82 : ∀ (v3 : Int32) (v4 : Int32) (C : CM), X5_weighOrders_j82 t (fun v3 v4 C => X5_weighOrders_l41 t (fun v3 C => (X5_weighOrders_j88 t (fun v3 C => X5_weighOrders_l26 t n26 v3 C) v3 C)) n41 v3 v4 C) (fun v3 C => (X5_weighOrders_j88 t (fun v3 C => X5_weighOrders_l26 t n26 v3 C) v3 C)) v3 v4 C = some C' → GO pM l eM (3) sM mM aM bM meM cM (MQ bM (va_Qv (fun (u : CM × OM) => u = (C', O)) (wB G) (Fr G)) aM sM 0 0 (Fr G)) G 5 (C, O) 82 [(0, .ref (gB G + 414)), (1, .ref (gB G + t)), (3, .int v3), (4, .int v4)] [] := by
            intro v3 v4 C h
            rw [X5_weighOrders_j82] at h
            refine go_iinc K dX5_weighOrders_82 3 rfl (v := (v4 + (1 : Int32))) rfl (by decide) (lv' := [(4, .int (v4 + (1 : Int32))), (0, .ref (gB G + 414)), (1, .ref (gB G + t)), (3, .int v3)]) rfl ?_
            refine go_goto (tgt := 41) K dX5_weighOrders_85 (by decide) ?_
            exact go_sub [1, 2, 3, 0] rfl (ih41 _ _ _ h)
          intro v3 v4 C h
          rw [X5_weighOrders_l41] at h
          refine go_iload K dX5_weighOrders_41 3 rfl ?_
          refine go_aload_n K dX5_weighOrders_43 1 rfl rfl ?_
          refine gf_X7 K ht 0 (by decide) kf_X5_18 (v := .int (C t 0)) rfl dX5_weighOrders_44 ?_
          refine go_icmp_ge (tgt := 88) K dX5_weighOrders_47 (by decide) (fun c4 => ?_) (fun c4 => ?_)
          · replace h := ite_t h c4
            exact go_sub [0, 1, 2] rfl (hj88 _ _ h)
          replace h := ite_f h c4
          refine go_iload_n K dX5_weighOrders_50 2 rfl rfl ?_
          refine go_iload K dX5_weighOrders_51 3 rfl ?_
          refine go_ishr K dX5_weighOrders_53 ?_
          refine go_iconst (v := (1 : Int32)) K dX5_weighOrders_54 (by decide) ?_
          refine go_iand K dX5_weighOrders_55 ?_
          refine go_if_ne (tgt := 82) K dX5_weighOrders_56 (by decide) (fun c5 => ?_) (fun c5 => ?_)
          · replace h := ite_f h c5
            exact hj82 _ _ _ h
          replace h := ite_t h c5
          refine go_aload_n K dX5_weighOrders_59 0 rfl rfl ?_
          refine gf_X5 K 1 (by decide) kf_X5_15 (v := .ref (gB G + 416)) rfl dX5_weighOrders_60 ?_
          refine go_iload_n K dX5_weighOrders_63 2 rfl rfl ?_
          refine go_aload_n K dX5_weighOrders_64 0 rfl rfl ?_
          refine gf_X5 K 1 (by decide) kf_X5_15 (v := .ref (gB G + 416)) rfl dX5_weighOrders_65 ?_
          refine go_iload_n K dX5_weighOrders_68 2 rfl rfl ?_
          obtain ⟨g6, h⟩ := gd_e h
          refine go_cald K (Nat.le_of_ble_eq_true rfl) sh_416 g6 rfl dX5_weighOrders_69 ?_
          refine go_aload_n K dX5_weighOrders_70 0 rfl rfl ?_
          refine go_aload_n K dX5_weighOrders_71 1 rfl rfl ?_
          refine go_iload_n K dX5_weighOrders_72 2 rfl rfl ?_
          refine go_iload K dX5_weighOrders_73 3 rfl ?_
          obtain ⟨r7, e7, h⟩ := bnd_e h
          refine go_cVI K (c_X5_paidWith l G ht _ _ _ _ _ e7) cf_X5_paidWith cv_X5_paidWith km_X5_46 rv_X5 (by decide) rfl rfl (Nat.le_of_ble_eq_true rfl) dX5_weighOrders_75 ?_
          refine go_cSI K (c_J9_min_7cf53 l G _ _ _ _ rfl) cf_J9_min_7cf53 kt_J9_min_7cf53 km_X5_24 (by decide) rfl rfl (Nat.le_of_ble_eq_true rfl) dX5_weighOrders_78 ?_
          obtain ⟨g8, h⟩ := gd_e h
          refine go_cast K (Nat.le_of_ble_eq_true rfl) sh_416 g8 rfl dX5_weighOrders_81 ?_
          exact hj82 _ _ _ h
      intro v3 C h
      rw [X5_weighOrders_l26] at h
      refine go_iload_n K dX5_weighOrders_26 2 rfl rfl ?_
      refine go_if_lt (tgt := 94) K dX5_weighOrders_27 (by decide) (fun c2 => ?_) (fun c2 => ?_)
      · replace h := ite_t h c2
        exact go_vret K hr (congrArg (fun z => (z, O)) (Option.some.inj h)) dX5_weighOrders_94
      replace h := ite_f h c2
      refine go_aload_n K dX5_weighOrders_30 0 rfl rfl ?_
      refine gf_X5 K 1 (by decide) kf_X5_15 (v := .ref (gB G + 416)) rfl dX5_weighOrders_31 ?_
      refine go_iload_n K dX5_weighOrders_34 2 rfl rfl ?_
      refine go_ldc K kk_X5_45 dX5_weighOrders_35 ?_
      obtain ⟨g3, h⟩ := gd_e h
      refine go_cast K (Nat.le_of_ble_eq_true rfl) sh_416 g3 rfl dX5_weighOrders_37 ?_
      refine go_iconst (v := (0 : Int32)) K dX5_weighOrders_38 (by decide) ?_
      refine go_istore K dX5_weighOrders_39 (by decide) (lv' := [(4, .int (0 : Int32)), (0, .ref (gB G + 414)), (1, .ref (gB G + t)), (3, .int v3)]) rfl ?_
      exact go_sub [1, 2, 3, 0] rfl (hl41 FU _ _ _ h)
  rw [f_X5_weighOrders] at h
  refine go_sipush (v := (128 : Int32)) K dX5_weighOrders_0 (by decide) ?_
  refine go_iconst (v := (1 : Int32)) K dX5_weighOrders_3 (by decide) ?_
  refine go_aload_n K dX5_weighOrders_4 1 rfl rfl ?_
  refine gf_X7 K ht 0 (by decide) kf_X5_18 (v := .int (C t 0)) rfl dX5_weighOrders_5 ?_
  refine go_ishl K dX5_weighOrders_8 ?_
  refine go_cSI K (c_J9_min_7cf53 l G _ _ _ _ rfl) cf_J9_min_7cf53 kt_J9_min_7cf53 km_X5_24 (by decide) rfl rfl (Nat.le_of_ble_eq_true rfl) dX5_weighOrders_9 ?_
  refine go_iconst (v := (1 : Int32)) K dX5_weighOrders_12 (by decide) ?_
  refine go_isub K dX5_weighOrders_13 ?_
  refine go_istore_n K dX5_weighOrders_14 rfl (by decide) (lv' := [(2, .int ((f_J9_min_7cf53 (128 : Int32) ((1 : Int32) <<< ((C t 0) &&& 31))) - (1 : Int32))), (0, .ref (gB G + 414)), (1, .ref (gB G + t))]) rfl ?_
  refine go_aload_n K dX5_weighOrders_15 1 rfl rfl ?_
  refine gf_X5 K 1 (by decide) kf_X5_15 (v := .ref (gB G + 416)) rfl dX5_weighOrders_16 ?_
  refine go_iload_n K dX5_weighOrders_19 0 rfl rfl ?_
  refine go_iconst (v := (0 : Int32)) K dX5_weighOrders_20 (by decide) ?_
  obtain ⟨g1, h⟩ := gd_e h
  refine go_cast K (Nat.le_of_ble_eq_true rfl) sh_416 g1 rfl dX5_weighOrders_21 ?_
  refine go_iload_n K dX5_weighOrders_22 0 rfl rfl ?_
  refine go_iconst (v := (1 : Int32)) K dX5_weighOrders_23 (by decide) ?_
  refine go_isub K dX5_weighOrders_24 ?_
  refine go_istore_n K dX5_weighOrders_25 rfl (by decide) (lv' := [(3, .int (((f_J9_min_7cf53 (128 : Int32) ((1 : Int32) <<< ((C t 0) &&& 31))) - (1 : Int32)) - (1 : Int32))), (2, .int ((f_J9_min_7cf53 (128 : Int32) ((1 : Int32) <<< ((C t 0) &&& 31))) - (1 : Int32))), (0, .ref (gB G + 414)), (1, .ref (gB G + t))]) rfl ?_
  exact go_sub [2, 3, 0] rfl (hl26 FU _ _ h)
noncomputable def f_X5_leastPaid (C : CM) : Option Int32 := (some (C 416 0))
theorem cf_X5_leastPaid : CF yX5_leastPaid cX5_leastPaid 1 (Option.some Jvm.ClassFile.FieldType.int) 0 := ⟨kc_X5_leastPaid, kj_X5, ⟨by decide +kernel, by decide +kernel, by decide +kernel⟩, by decide⟩
theorem cv_X5_leastPaid : CFv yX5_leastPaid := ⟨ki_X5_leastPaid, ks_X5_leastPaid⟩
set_option maxHeartbeats 4000000 in
set_option maxRecDepth 100000 in
theorem c_X5_leastPaid (l : Launch) (G : GT) (C : CM) (O : OM) (res : Int32) (h : f_X5_leastPaid C = some res) : MI l G yX5_leastPaid cX5_leastPaid 1 (Option.some Jvm.ClassFile.FieldType.int) (1) [.ref (gB G + 414)] (C, O) res (C, O) := by
  unfold MI
  refine met_in RX5 (by decide +kernel) rfl [(0, .ref (gB G + 414))] rfl (Nat.le_of_ble_eq_true rfl) ?_
  intro pM eM sM mM aM bM meM cM K hr
  rw [f_X5_leastPaid] at h
  refine go_aload_n K dX5_leastPaid_0 0 rfl rfl ?_
  refine gf_X5 K 1 (by decide) kf_X5_15 (v := .ref (gB G + 416)) rfl dX5_leastPaid_1 ?_
  refine go_iconst (v := (0 : Int32)) K dX5_leastPaid_4 (by decide) ?_
  refine go_cald K (Nat.le_of_ble_eq_true rfl) sh_416 (in_k (k := 0) (by decide) (by decide)) rfl dX5_leastPaid_5 ?_
  exact go_iret K hr (Option.some.inj h) rfl dX5_leastPaid_6
noncomputable def X5_nextDoor_j51 (t : Nat) (rc : Int32 → Int32 → CM → Option Int32) (v2 : Int32) (v3 : Int32) (C : CM) : Option Int32 := (rc v2 (v3 + (1 : Int32)) C)
noncomputable def X5_nextDoor_j23 (t : Nat) (rc : Int32 → Int32 → CM → Option Int32) (v2 : Int32) (v3 : Int32) (t0 : Int32) (C : CM) : Option Int32 := (if t0 = 0 then (X5_nextDoor_j51 t rc v2 v3 C) else (bnd (f_X5_paidWith t v2 v3 C) (fun r4 => (gd (inb (v2 &&& (127 : Int32)) 128) (if r4 = (C 416 (v2 &&& (127 : Int32)).toNatClampNeg) then (some v3) else (X5_nextDoor_j51 t rc v2 v3 C))))))
noncomputable def X5_nextDoor_l2 (t : Nat) : Nat → Int32 → Int32 → CM → Option Int32
  | 0, _, _, _ => none
  | n + 1, v2, v3, C => (if (C t 0) ≤ v3 then (some (-1 : Int32)) else (if ((v2 >>> (v3 &&& 31)) &&& (1 : Int32)) = 0 then (X5_nextDoor_j23 t (fun v2 v3 C => X5_nextDoor_l2 t n v2 v3 C) v2 v3 (1 : Int32) C) else (X5_nextDoor_j23 t (fun v2 v3 C => X5_nextDoor_l2 t n v2 v3 C) v2 v3 (0 : Int32) C)))
noncomputable def f_X5_nextDoor (t : Nat) (v2 : Int32) (C : CM) : Option Int32 := (X5_nextDoor_l2 t FU v2 (0 : Int32) C)
theorem cf_X5_nextDoor : CF yX5_nextDoor cX5_nextDoor 5 (Option.some Jvm.ClassFile.FieldType.int) 2 := ⟨kc_X5_nextDoor, kj_X5, ⟨by decide +kernel, by decide +kernel, by decide +kernel⟩, by decide⟩
theorem cv_X5_nextDoor : CFv yX5_nextDoor := ⟨ki_X5_nextDoor, ks_X5_nextDoor⟩
set_option maxHeartbeats 4000000 in
set_option maxRecDepth 100000 in
theorem c_X5_nextDoor (l : Launch) (G : GT) {t : Nat} (ht : StAt t) (v2 : Int32) (C : CM) (O : OM) (res : Int32) (h : f_X5_nextDoor t v2 C = some res) : MI l G yX5_nextDoor cX5_nextDoor 5 (Option.some Jvm.ClassFile.FieldType.int) (3) [.ref (gB G + 414), .ref (gB G + t), .int v2] (C, O) res (C, O) := by
  unfold MI
  refine met_in RX5 (by decide +kernel) rfl [(0, .ref (gB G + 414)), (1, .ref (gB G + t)), (2, .int v2)] rfl (Nat.le_of_ble_eq_true rfl) ?_
  intro pM eM sM mM aM bM meM cM K hr
  have hl2 : ∀ (n2 : Nat) (v2 : Int32) (v3 : Int32), X5_nextDoor_l2 t n2 v2 v3 C = some res → GO pM l eM (3) sM mM aM bM meM cM (MQ bM (va_Qi (fun (r' : Int32) (u : CM × OM) => r' = res ∧ u = (C, O)) (wB G) (Fr G)) aM sM 0 0 (Fr G)) G 5 (C, O) 2 [(0, .ref (gB G + 414)), (1, .ref (gB G + t)), (2, .int v2), (3, .int v3)] [] := by
    intro n2
    induction n2 with
    | zero =>
      intro v2 v3 h
      rw [X5_nextDoor_l2] at h
      cases h
    | succ n2 ih2 =>
      have hj51 : ∀ (v2 : Int32) (v3 : Int32), X5_nextDoor_j51 t (fun v2 v3 C => X5_nextDoor_l2 t n2 v2 v3 C) v2 v3 C = some res → GO pM l eM (3) sM mM aM bM meM cM (MQ bM (va_Qi (fun (r' : Int32) (u : CM × OM) => r' = res ∧ u = (C, O)) (wB G) (Fr G)) aM sM 0 0 (Fr G)) G 5 (C, O) 51 [(0, .ref (gB G + 414)), (1, .ref (gB G + t)), (2, .int v2), (3, .int v3)] [] := by
        intro v2 v3 h
        rw [X5_nextDoor_j51] at h
        refine go_iinc K dX5_nextDoor_51 3 rfl (v := (v3 + (1 : Int32))) rfl (by decide) (lv' := [(3, .int (v3 + (1 : Int32))), (0, .ref (gB G + 414)), (1, .ref (gB G + t)), (2, .int v2)]) rfl ?_
        refine go_goto (tgt := 2) K dX5_nextDoor_54 (by decide) ?_
        exact go_sub [1, 2, 3, 0] rfl (ih2 _ _ h)
      have hj23 : ∀ (v2 : Int32) (v3 : Int32) (t0 : Int32), X5_nextDoor_j23 t (fun v2 v3 C => X5_nextDoor_l2 t n2 v2 v3 C) v2 v3 t0 C = some res → GO pM l eM (3) sM mM aM bM meM cM (MQ bM (va_Qi (fun (r' : Int32) (u : CM × OM) => r' = res ∧ u = (C, O)) (wB G) (Fr G)) aM sM 0 0 (Fr G)) G 5 (C, O) 23 [(0, .ref (gB G + 414)), (1, .ref (gB G + t)), (2, .int v2), (3, .int v3)] [.int t0] := by
        intro v2 v3 t0 h
        rw [X5_nextDoor_j23] at h
        refine go_istore K dX5_nextDoor_23 (by decide) (lv' := [(4, .int t0), (0, .ref (gB G + 414)), (1, .ref (gB G + t)), (2, .int v2), (3, .int v3)]) rfl ?_
        refine go_iload K dX5_nextDoor_25 0 rfl ?_
        refine go_if_eq (tgt := 51) K dX5_nextDoor_27 (by decide) (fun c3 => ?_) (fun c3 => ?_)
        · replace h := ite_t h c3
          exact go_sub [1, 2, 3, 4] rfl (hj51 _ _ h)
        replace h := ite_f h c3
        refine go_aload_n K dX5_nextDoor_30 1 rfl rfl ?_
        refine go_aload_n K dX5_nextDoor_31 2 rfl rfl ?_
        refine go_iload_n K dX5_nextDoor_32 3 rfl rfl ?_
        refine go_iload_n K dX5_nextDoor_33 4 rfl rfl ?_
        obtain ⟨r4, e4, h⟩ := bnd_e h
        refine go_cVI K (c_X5_paidWith l G ht _ _ _ _ _ e4) cf_X5_paidWith cv_X5_paidWith km_X5_46 rv_X5 (by decide) rfl rfl (Nat.le_of_ble_eq_true rfl) dX5_nextDoor_34 ?_
        refine go_aload_n K dX5_nextDoor_37 1 rfl rfl ?_
        refine gf_X5 K 1 (by decide) kf_X5_15 (v := .ref (gB G + 416)) rfl dX5_nextDoor_38 ?_
        refine go_iload_n K dX5_nextDoor_41 3 rfl rfl ?_
        refine go_bipush (v := (127 : Int32)) K dX5_nextDoor_42 (by decide) ?_
        refine go_iand K dX5_nextDoor_44 ?_
        obtain ⟨g5, h⟩ := gd_e h
        refine go_cald K (Nat.le_of_ble_eq_true rfl) sh_416 g5 rfl dX5_nextDoor_45 ?_
        refine go_icmp_ne (tgt := 51) K dX5_nextDoor_46 (by decide) (fun c6 => ?_) (fun c6 => ?_)
        · replace h := ite_f h c6
          exact go_sub [1, 2, 3, 4] rfl (hj51 _ _ h)
        replace h := ite_t h c6
        refine go_iload_n K dX5_nextDoor_49 4 rfl rfl ?_
        exact go_iret K hr (Option.some.inj h) rfl dX5_nextDoor_50
      intro v2 v3 h
      rw [X5_nextDoor_l2] at h
      refine go_iload_n K dX5_nextDoor_2 3 rfl rfl ?_
      refine go_aload_n K dX5_nextDoor_3 1 rfl rfl ?_
      refine gf_X7 K ht 0 (by decide) kf_X5_18 (v := .int (C t 0)) rfl dX5_nextDoor_4 ?_
      refine go_icmp_ge (tgt := 57) K dX5_nextDoor_7 (by decide) (fun c1 => ?_) (fun c1 => ?_)
      · replace h := ite_t h c1
        refine go_iconst (v := (-1 : Int32)) K dX5_nextDoor_57 (by decide) ?_
        exact go_iret K hr (Option.some.inj h) rfl dX5_nextDoor_58
      replace h := ite_f h c1
      refine go_iload_n K dX5_nextDoor_10 2 rfl rfl ?_
      refine go_iload_n K dX5_nextDoor_11 3 rfl rfl ?_
      refine go_ishr K dX5_nextDoor_12 ?_
      refine go_iconst (v := (1 : Int32)) K dX5_nextDoor_13 (by decide) ?_
      refine go_iand K dX5_nextDoor_14 ?_
      refine go_if_ne (tgt := 22) K dX5_nextDoor_15 (by decide) (fun c2 => ?_) (fun c2 => ?_)
      · replace h := ite_f h c2
        refine go_iconst (v := (0 : Int32)) K dX5_nextDoor_22 (by decide) ?_
        exact hj23 _ _ _ h
      replace h := ite_t h c2
      refine go_iconst (v := (1 : Int32)) K dX5_nextDoor_18 (by decide) ?_
      refine go_goto (tgt := 23) K dX5_nextDoor_19 (by decide) ?_
      exact hj23 _ _ _ h
  rw [f_X5_nextDoor] at h
  refine go_iconst (v := (0 : Int32)) K dX5_nextDoor_0 (by decide) ?_
  refine go_istore_n K dX5_nextDoor_1 rfl (by decide) (lv' := [(3, .int (0 : Int32)), (0, .ref (gB G + 414)), (1, .ref (gB G + t)), (2, .int v2)]) rfl ?_
  exact go_sub [1, 2, 3, 0] rfl (hl2 FU _ _ h)
noncomputable def X5_door_j46 (t : Nat) (rc : Int32 → Int32 → Int32 → Int32 → CM → Option Int32) (v2 : Int32) (v4 : Int32) (v5 : Int32) (t0 : Int32) (t1 : Int32) (C : CM) : Option Int32 := (rc v2 (t1 ||| t0) v4 (v5 + (1 : Int32)) C)
noncomputable def X5_door_l8 (t : Nat) : Nat → Int32 → Int32 → Int32 → Int32 → CM → Option Int32
  | 0, _, _, _, _, _ => none
  | n + 1, v2, v3, v4, v5, C => (if v2 < v5 then (some v4) else (if (C t 0) ≤ v5 then (some v4) else (bnd (f_X5_nextDoor t v3 C) (fun r3 => (if r3 = (-1 : Int32) then (X5_door_j46 t (fun v2 v3 v4 v5 C => X5_door_l8 t n v2 v3 v4 v5 C) v2 r3 v5 (0 : Int32) v3 C) else (X5_door_j46 t (fun v2 v3 v4 v5 C => X5_door_l8 t n v2 v3 v4 v5 C) v2 r3 v5 ((1 : Int32) <<< (r3 &&& 31)) v3 C))))))
noncomputable def f_X5_door (t : Nat) (v2 : Int32) (C : CM) : Option Int32 := (X5_door_l8 t FU v2 (0 : Int32) (-1 : Int32) (0 : Int32) C)
theorem cf_X5_door : CF yX5_door cX5_door 6 (Option.some Jvm.ClassFile.FieldType.int) 2 := ⟨kc_X5_door, kj_X5, ⟨by decide +kernel, by decide +kernel, by decide +kernel⟩, by decide⟩
theorem cv_X5_door : CFv yX5_door := ⟨ki_X5_door, ks_X5_door⟩
set_option maxHeartbeats 4000000 in
set_option maxRecDepth 100000 in
theorem c_X5_door (l : Launch) (G : GT) {t : Nat} (ht : StAt t) (v2 : Int32) (C : CM) (O : OM) (res : Int32) (h : f_X5_door t v2 C = some res) : MI l G yX5_door cX5_door 6 (Option.some Jvm.ClassFile.FieldType.int) (4) [.ref (gB G + 414), .ref (gB G + t), .int v2] (C, O) res (C, O) := by
  unfold MI
  refine met_in RX5 (by decide +kernel) rfl [(0, .ref (gB G + 414)), (1, .ref (gB G + t)), (2, .int v2)] rfl (Nat.le_of_ble_eq_true rfl) ?_
  intro pM eM sM mM aM bM meM cM K hr
  have hl8 : ∀ (n8 : Nat) (v2 : Int32) (v3 : Int32) (v4 : Int32) (v5 : Int32), X5_door_l8 t n8 v2 v3 v4 v5 C = some res → GO pM l eM (4) sM mM aM bM meM cM (MQ bM (va_Qi (fun (r' : Int32) (u : CM × OM) => r' = res ∧ u = (C, O)) (wB G) (Fr G)) aM sM 0 0 (Fr G)) G 6 (C, O) 8 [(0, .ref (gB G + 414)), (1, .ref (gB G + t)), (2, .int v2), (3, .int v3), (4, .int v4), (5, .int v5)] [] := by
    intro n8
    induction n8 with
    | zero =>
      intro v2 v3 v4 v5 h
      rw [X5_door_l8] at h
      cases h
    | succ n8 ih8 =>
      have hj46 : ∀ (v2 : Int32) (v4 : Int32) (v5 : Int32) (t0 : Int32) (t1 : Int32), X5_door_j46 t (fun v2 v3 v4 v5 C => X5_door_l8 t n8 v2 v3 v4 v5 C) v2 v4 v5 t0 t1 C = some res → GO pM l eM (4) sM mM aM bM meM cM (MQ bM (va_Qi (fun (r' : Int32) (u : CM × OM) => r' = res ∧ u = (C, O)) (wB G) (Fr G)) aM sM 0 0 (Fr G)) G 6 (C, O) 46 [(0, .ref (gB G + 414)), (1, .ref (gB G + t)), (2, .int v2), (4, .int v4), (5, .int v5)] [.int t0, .int t1] := by
        intro v2 v4 v5 t0 t1 h
        rw [X5_door_j46] at h
        refine go_ior K dX5_door_46 ?_
        refine go_istore_n K dX5_door_47 rfl (by decide) (lv' := [(3, .int (t1 ||| t0)), (0, .ref (gB G + 414)), (1, .ref (gB G + t)), (2, .int v2), (4, .int v4), (5, .int v5)]) rfl ?_
        refine go_iinc K dX5_door_48 5 rfl (v := (v5 + (1 : Int32))) rfl (by decide) (lv' := [(5, .int (v5 + (1 : Int32))), (3, .int (t1 ||| t0)), (0, .ref (gB G + 414)), (1, .ref (gB G + t)), (2, .int v2), (4, .int v4)]) rfl ?_
        refine go_goto (tgt := 8) K dX5_door_51 (by decide) ?_
        exact go_sub [2, 3, 4, 1, 5, 0] rfl (ih8 _ _ _ _ h)
      intro v2 v3 v4 v5 h
      rw [X5_door_l8] at h
      refine go_iload K dX5_door_8 5 rfl ?_
      refine go_iload_n K dX5_door_10 2 rfl rfl ?_
      refine go_icmp_gt (tgt := 54) K dX5_door_11 (by decide) (fun c1 => ?_) (fun c1 => ?_)
      · replace h := ite_t h c1
        refine go_iload K dX5_door_54 4 rfl ?_
        exact go_iret K hr (Option.some.inj h) rfl dX5_door_56
      replace h := ite_f h c1
      refine go_iload K dX5_door_14 5 rfl ?_
      refine go_aload_n K dX5_door_16 1 rfl rfl ?_
      refine gf_X7 K ht 0 (by decide) kf_X5_18 (v := .int (C t 0)) rfl dX5_door_17 ?_
      refine go_icmp_ge (tgt := 54) K dX5_door_20 (by decide) (fun c2 => ?_) (fun c2 => ?_)
      · replace h := ite_t h c2
        refine go_iload K dX5_door_54 4 rfl ?_
        exact go_iret K hr (Option.some.inj h) rfl dX5_door_56
      replace h := ite_f h c2
      refine go_aload_n K dX5_door_23 0 rfl rfl ?_
      refine go_aload_n K dX5_door_24 1 rfl rfl ?_
      refine go_iload_n K dX5_door_25 3 rfl rfl ?_
      obtain ⟨r3, e3, h⟩ := bnd_e h
      refine go_cVI K (c_X5_nextDoor l G ht _ _ _ _ e3) cf_X5_nextDoor cv_X5_nextDoor km_X5_50 rv_X5 (by decide) rfl rfl (Nat.le_of_ble_eq_true rfl) dX5_door_26 ?_
      refine go_istore K dX5_door_29 (by decide) (lv' := [(4, .int r3), (0, .ref (gB G + 414)), (1, .ref (gB G + t)), (2, .int v2), (3, .int v3), (5, .int v5)]) rfl ?_
      refine go_iload_n K dX5_door_31 4 rfl rfl ?_
      refine go_iload K dX5_door_32 0 rfl ?_
      refine go_iconst (v := (-1 : Int32)) K dX5_door_34 (by decide) ?_
      refine go_icmp_ne (tgt := 42) K dX5_door_35 (by decide) (fun c4 => ?_) (fun c4 => ?_)
      rotate_left
      · replace h := ite_t h c4
        refine go_iconst (v := (0 : Int32)) K dX5_door_38 (by decide) ?_
        refine go_goto (tgt := 46) K dX5_door_39 (by decide) ?_
        exact go_sub [1, 2, 3, 0, 5] rfl (hj46 _ _ _ _ _ h)
      replace h := ite_f h c4
      refine go_iconst (v := (1 : Int32)) K dX5_door_42 (by decide) ?_
      refine go_iload K dX5_door_43 0 rfl ?_
      refine go_ishl K dX5_door_45 ?_
      exact go_sub [1, 2, 3, 0, 5] rfl (hj46 _ _ _ _ _ h)
  rw [f_X5_door] at h
  refine go_iconst (v := (0 : Int32)) K dX5_door_0 (by decide) ?_
  refine go_istore_n K dX5_door_1 rfl (by decide) (lv' := [(3, .int (0 : Int32)), (0, .ref (gB G + 414)), (1, .ref (gB G + t)), (2, .int v2)]) rfl ?_
  refine go_iconst (v := (-1 : Int32)) K dX5_door_2 (by decide) ?_
  refine go_istore K dX5_door_3 (by decide) (lv' := [(4, .int (-1 : Int32)), (3, .int (0 : Int32)), (0, .ref (gB G + 414)), (1, .ref (gB G + t)), (2, .int v2)]) rfl ?_
  refine go_iconst (v := (0 : Int32)) K dX5_door_5 (by decide) ?_
  refine go_istore K dX5_door_6 (by decide) (lv' := [(5, .int (0 : Int32)), (4, .int (-1 : Int32)), (3, .int (0 : Int32)), (0, .ref (gB G + 414)), (1, .ref (gB G + t)), (2, .int v2)]) rfl ?_
  exact go_sub [3, 4, 5, 2, 1, 0] rfl (hl8 FU _ _ _ _ h)
noncomputable def f_X2_bend (t : Nat) (v2 : Int32) (v3 : Int32) (C : CM) : Option CM := (if (f_X11_within v2 (0 : Int32) (9 : Int32)) = 0 then (some C) else (gd (inb v2 10) (gd (inb v2 10) (if (f_X11_within (C 418 v2.toNatClampNeg) (0 : Int32) (4 : Int32)) = 0 then (some C) else (if (f_X11_within (C 419 v2.toNatClampNeg) (0 : Int32) (4 : Int32)) = 0 then (some C) else (gd (inb (C 418 v2.toNatClampNeg) 5) (bnd (f_X7_owed t (C 418 v2.toNatClampNeg) (C 419 v2.toNatClampNeg) C) (fun r7 => (gd (inb (C 418 v2.toNatClampNeg) 5) (gd (inb (C 419 v2.toNatClampNeg) 5) (bnd (f_X7_owed t (C 419 v2.toNatClampNeg) (C 418 v2.toNatClampNeg) (up2 C 421 (C 418 v2.toNatClampNeg).toNatClampNeg ((C 421 (C 418 v2.toNatClampNeg).toNatClampNeg) + (v3 * r7)))) (fun r10 => (gd (inb (C 419 v2.toNatClampNeg) 5) (some (up2 (up2 C 421 (C 418 v2.toNatClampNeg).toNatClampNeg ((C 421 (C 418 v2.toNatClampNeg).toNatClampNeg) + (v3 * r7))) 421 (C 419 v2.toNatClampNeg).toNatClampNeg (((up2 C 421 (C 418 v2.toNatClampNeg).toNatClampNeg ((C 421 (C 418 v2.toNatClampNeg).toNatClampNeg) + (v3 * r7))) 421 (C 419 v2.toNatClampNeg).toNatClampNeg) + (v3 * r10)))))))))))))))))
theorem cf_X2_bend : CF yX2_bend cX2_bend 6 (Option.none : Option Jvm.ClassFile.FieldType) 3 := ⟨kc_X2_bend, kj_X2, ⟨by decide +kernel, by decide +kernel, by decide +kernel⟩, by decide⟩
theorem cv_X2_bend : CFv yX2_bend := ⟨ki_X2_bend, ks_X2_bend⟩
set_option maxHeartbeats 4000000 in
set_option maxRecDepth 100000 in
theorem c_X2_bend (l : Launch) (G : GT) {t : Nat} (ht : StAt t) (v2 : Int32) (v3 : Int32) (C : CM) (O : OM) (C' : CM) (h : f_X2_bend t v2 v3 C = some C') : MV l G yX2_bend cX2_bend 6 (Option.none : Option Jvm.ClassFile.FieldType) (2) [.ref (gB G + 417), .ref (gB G + t), .int v2, .int v3] (C, O) (C', O) := by
  unfold MV
  refine met_in RX2 (by decide +kernel) rfl [(0, .ref (gB G + 417)), (1, .ref (gB G + t)), (2, .int v2), (3, .int v3)] rfl (Nat.le_of_ble_eq_true rfl) ?_
  intro pM eM sM mM aM bM meM cM K hr
  rw [f_X2_bend] at h
  refine go_iload_n K dX2_bend_0 2 rfl rfl ?_
  refine go_iconst (v := (0 : Int32)) K dX2_bend_1 (by decide) ?_
  refine go_bipush (v := (9 : Int32)) K dX2_bend_2 (by decide) ?_
  refine go_cNI K (c_X11_within l G _ _ _ _ _ _ rfl) cf_X11_within kt_X11_within (List.mem_of_getElem? (i := 20) rfl) (by decide) rfl rfl (Nat.le_of_ble_eq_true rfl) dX2_bend_4 ?_
  refine go_if_eq (tgt := 86) K dX2_bend_7 (by decide) (fun c1 => ?_) (fun c1 => ?_)
  · replace h := ite_t h c1
    exact go_vret K hr (congrArg (fun z => (z, O)) (Option.some.inj h)) dX2_bend_86
  replace h := ite_f h c1
  refine go_aload_n K dX2_bend_10 0 rfl rfl ?_
  refine gf_X2 K 2 (by decide) kf_X2_11 (v := .ref (gB G + 418)) rfl dX2_bend_11 ?_
  refine go_iload_n K dX2_bend_14 2 rfl rfl ?_
  obtain ⟨g2, h⟩ := gd_e h
  refine go_cald K (Nat.le_of_ble_eq_true rfl) sh_418 g2 rfl dX2_bend_15 ?_
  refine go_istore K dX2_bend_16 (by decide) (lv' := [(4, .int (C 418 v2.toNatClampNeg)), (0, .ref (gB G + 417)), (1, .ref (gB G + t)), (2, .int v2), (3, .int v3)]) rfl ?_
  refine go_aload_n K dX2_bend_18 1 rfl rfl ?_
  refine gf_X2 K 3 (by decide) kf_X2_15 (v := .ref (gB G + 419)) rfl dX2_bend_19 ?_
  refine go_iload_n K dX2_bend_22 3 rfl rfl ?_
  obtain ⟨g3, h⟩ := gd_e h
  refine go_cald K (Nat.le_of_ble_eq_true rfl) sh_419 g3 rfl dX2_bend_23 ?_
  refine go_istore K dX2_bend_24 (by decide) (lv' := [(5, .int (C 419 v2.toNatClampNeg)), (4, .int (C 418 v2.toNatClampNeg)), (0, .ref (gB G + 417)), (1, .ref (gB G + t)), (2, .int v2), (3, .int v3)]) rfl ?_
  refine go_iload K dX2_bend_26 1 rfl ?_
  refine go_iconst (v := (0 : Int32)) K dX2_bend_28 (by decide) ?_
  refine go_iconst (v := (4 : Int32)) K dX2_bend_29 (by decide) ?_
  refine go_cNI K (c_X11_within l G _ _ _ _ _ _ rfl) cf_X11_within kt_X11_within (List.mem_of_getElem? (i := 20) rfl) (by decide) rfl rfl (Nat.le_of_ble_eq_true rfl) dX2_bend_30 ?_
  refine go_if_eq (tgt := 86) K dX2_bend_33 (by decide) (fun c4 => ?_) (fun c4 => ?_)
  · replace h := ite_t h c4
    exact go_vret K hr (congrArg (fun z => (z, O)) (Option.some.inj h)) dX2_bend_86
  replace h := ite_f h c4
  refine go_iload K dX2_bend_36 0 rfl ?_
  refine go_iconst (v := (0 : Int32)) K dX2_bend_38 (by decide) ?_
  refine go_iconst (v := (4 : Int32)) K dX2_bend_39 (by decide) ?_
  refine go_cNI K (c_X11_within l G _ _ _ _ _ _ rfl) cf_X11_within kt_X11_within (List.mem_of_getElem? (i := 20) rfl) (by decide) rfl rfl (Nat.le_of_ble_eq_true rfl) dX2_bend_40 ?_
  refine go_if_eq (tgt := 86) K dX2_bend_43 (by decide) (fun c5 => ?_) (fun c5 => ?_)
  · replace h := ite_t h c5
    exact go_vret K hr (congrArg (fun z => (z, O)) (Option.some.inj h)) dX2_bend_86
  replace h := ite_f h c5
  refine go_aload_n K dX2_bend_46 2 rfl rfl ?_
  refine gf_X2 K 5 (by decide) kf_X2_21 (v := .ref (gB G + 421)) rfl dX2_bend_47 ?_
  refine go_iload K dX2_bend_50 1 rfl ?_
  refine go_dup2 K dX2_bend_52 rfl rfl ?_
  obtain ⟨g6, h⟩ := gd_e h
  refine go_cald K (Nat.le_of_ble_eq_true rfl) sh_421 g6 rfl dX2_bend_53 ?_
  refine go_iload_n K dX2_bend_54 5 rfl rfl ?_
  refine go_aload_n K dX2_bend_55 3 rfl rfl ?_
  refine go_iload K dX2_bend_56 1 rfl ?_
  refine go_iload K dX2_bend_58 0 rfl ?_
  obtain ⟨r7, e7, h⟩ := bnd_e h
  refine go_cVI K (c_X7_owed l G ht _ _ _ _ _ e7) cf_X7_owed cv_X7_owed km_X2_66 (rv_X7 ht) (by decide) rfl rfl (Nat.le_of_ble_eq_true rfl) dX2_bend_60 ?_
  refine go_imul K dX2_bend_63 ?_
  refine go_iadd K dX2_bend_64 ?_
  obtain ⟨g8, h⟩ := gd_e h
  refine go_cast K (Nat.le_of_ble_eq_true rfl) sh_421 g8 rfl dX2_bend_65 ?_
  refine go_aload_n K dX2_bend_66 2 rfl rfl ?_
  refine gf_X2 K 5 (by decide) kf_X2_21 (v := .ref (gB G + 421)) rfl dX2_bend_67 ?_
  refine go_iload K dX2_bend_70 0 rfl ?_
  refine go_dup2 K dX2_bend_72 rfl rfl ?_
  obtain ⟨g9, h⟩ := gd_e h
  refine go_cald K (Nat.le_of_ble_eq_true rfl) sh_421 g9 rfl dX2_bend_73 ?_
  refine go_iload_n K dX2_bend_74 5 rfl rfl ?_
  refine go_aload_n K dX2_bend_75 3 rfl rfl ?_
  refine go_iload K dX2_bend_76 0 rfl ?_
  refine go_iload K dX2_bend_78 1 rfl ?_
  obtain ⟨r10, e10, h⟩ := bnd_e h
  refine go_cVI K (c_X7_owed l G ht _ _ _ _ _ e10) cf_X7_owed cv_X7_owed km_X2_66 (rv_X7 ht) (by decide) rfl rfl (Nat.le_of_ble_eq_true rfl) dX2_bend_80 ?_
  refine go_imul K dX2_bend_83 ?_
  refine go_iadd K dX2_bend_84 ?_
  obtain ⟨g11, h⟩ := gd_e h
  refine go_cast K (Nat.le_of_ble_eq_true rfl) sh_421 g11 rfl dX2_bend_85 ?_
  exact go_vret K hr (congrArg (fun z => (z, O)) (Option.some.inj h)) dX2_bend_86
noncomputable def X2_count_l12 : Nat → Int32 → Int32 → CM → Option CM
  | 0, _, _, _ => none
  | n + 1, v1, v2, C => (if (C 417 1) ≤ v2 then (some C) else (if (10 : Int32) ≤ v2 then (some C) else (gd (inb v2 10) (gd (inb v2 10) (X2_count_l12 n v1 (v2 + (1 : Int32)) (up2 C 420 v2.toNatClampNeg ((C 420 v2.toNatClampNeg) + ((v1 >>> (v2 &&& 31)) &&& (1 : Int32)))))))))
noncomputable def f_X2_count (v1 : Int32) (C : CM) : Option CM := (X2_count_l12 FU v1 (0 : Int32) (up2 C 417 0 ((C 417 0) + (1 : Int32))))
theorem cf_X2_count : CF yX2_count cX2_count 3 (Option.none : Option Jvm.ClassFile.FieldType) 1 := ⟨kc_X2_count, kj_X2, ⟨by decide +kernel, by decide +kernel, by decide +kernel⟩, by decide⟩
theorem cv_X2_count : CFv yX2_count := ⟨ki_X2_count, ks_X2_count⟩
set_option maxHeartbeats 4000000 in
set_option maxRecDepth 100000 in
theorem c_X2_count (l : Launch) (G : GT) (v1 : Int32) (C : CM) (O : OM) (C' : CM) (h : f_X2_count v1 C = some C') : MV l G yX2_count cX2_count 3 (Option.none : Option Jvm.ClassFile.FieldType) (1) [.ref (gB G + 417), .int v1] (C, O) (C', O) := by
  unfold MV
  refine met_in RX2 (by decide +kernel) rfl [(0, .ref (gB G + 417)), (1, .int v1)] rfl (Nat.le_of_ble_eq_true rfl) ?_
  intro pM eM sM mM aM bM meM cM K hr
  have hl12 : ∀ (n12 : Nat) (v1 : Int32) (v2 : Int32) (C : CM), X2_count_l12 n12 v1 v2 C = some C' → GO pM l eM (1) sM mM aM bM meM cM (MQ bM (va_Qv (fun (u : CM × OM) => u = (C', O)) (wB G) (Fr G)) aM sM 0 0 (Fr G)) G 3 (C, O) 12 [(0, .ref (gB G + 417)), (1, .int v1), (2, .int v2)] [] := by
    intro n12
    induction n12 with
    | zero =>
      intro v1 v2 C h
      rw [X2_count_l12] at h
      cases h
    | succ n12 ih12 =>
      intro v1 v2 C h
      rw [X2_count_l12] at h
      refine go_iload_n K dX2_count_12 2 rfl rfl ?_
      refine go_aload_n K dX2_count_13 0 rfl rfl ?_
      refine gf_X2 K 1 (by decide) kf_X2_43 (v := .int (C 417 1)) rfl dX2_count_14 ?_
      refine go_icmp_ge (tgt := 46) K dX2_count_17 (by decide) (fun c1 => ?_) (fun c1 => ?_)
      · replace h := ite_t h c1
        exact go_vret K hr (congrArg (fun z => (z, O)) (Option.some.inj h)) dX2_count_46
      replace h := ite_f h c1
      refine go_iload_n K dX2_count_20 2 rfl rfl ?_
      refine go_bipush (v := (10 : Int32)) K dX2_count_21 (by decide) ?_
      refine go_icmp_ge (tgt := 46) K dX2_count_23 (by decide) (fun c2 => ?_) (fun c2 => ?_)
      · replace h := ite_t h c2
        exact go_vret K hr (congrArg (fun z => (z, O)) (Option.some.inj h)) dX2_count_46
      replace h := ite_f h c2
      refine go_aload_n K dX2_count_26 0 rfl rfl ?_
      refine gf_X2 K 4 (by decide) kf_X2_18 (v := .ref (gB G + 420)) rfl dX2_count_27 ?_
      refine go_iload_n K dX2_count_30 2 rfl rfl ?_
      refine go_dup2 K dX2_count_31 rfl rfl ?_
      obtain ⟨g3, h⟩ := gd_e h
      refine go_cald K (Nat.le_of_ble_eq_true rfl) sh_420 g3 rfl dX2_count_32 ?_
      refine go_iload_n K dX2_count_33 1 rfl rfl ?_
      refine go_iload_n K dX2_count_34 2 rfl rfl ?_
      refine go_ishr K dX2_count_35 ?_
      refine go_iconst (v := (1 : Int32)) K dX2_count_36 (by decide) ?_
      refine go_iand K dX2_count_37 ?_
      refine go_iadd K dX2_count_38 ?_
      obtain ⟨g4, h⟩ := gd_e h
      refine go_cast K (Nat.le_of_ble_eq_true rfl) sh_420 g4 rfl dX2_count_39 ?_
      refine go_iinc K dX2_count_40 2 rfl (v := (v2 + (1 : Int32))) rfl (by decide) (lv' := [(2, .int (v2 + (1 : Int32))), (0, .ref (gB G + 417)), (1, .int v1)]) rfl ?_
      refine go_goto (tgt := 12) K dX2_count_43 (by decide) ?_
      exact go_sub [1, 2, 0] rfl (ih12 _ _ _ h)
  rw [f_X2_count] at h
  refine go_aload_n K dX2_count_0 0 rfl rfl ?_
  refine go_dup K dX2_count_1 rfl ?_
  refine gf_X2 K 0 (by decide) kf_X2_24 (v := .int (C 417 0)) rfl dX2_count_2 ?_
  refine go_iconst (v := (1 : Int32)) K dX2_count_5 (by decide) ?_
  refine go_iadd K dX2_count_6 ?_
  refine pf_X2 K 0 (by decide) kf_X2_24 rfl rfl rfl dX2_count_7 ?_
  refine go_iconst (v := (0 : Int32)) K dX2_count_10 (by decide) ?_
  refine go_istore_n K dX2_count_11 rfl (by decide) (lv' := [(2, .int (0 : Int32)), (0, .ref (gB G + 417)), (1, .int v1)]) rfl ?_
  exact go_sub [1, 2, 0] rfl (hl12 FU _ _ _ h)
noncomputable def X2_explains_j34 (a : Nat) (rc : Int32 → CM → Option Int32) (v2 : Int32) (C : CM) : Option Int32 := (rc (v2 + (1 : Int32)) C)
noncomputable def X2_explains_l2 (a : Nat) : Nat → Int32 → CM → Option Int32
  | 0, _, _ => none
  | n + 1, v2, C => (if (5 : Int32) ≤ v2 then (some (1 : Int32)) else (if (5 : Int32) ≤ v2 then (some (1 : Int32)) else (gd (inb v2 5) (if (C a v2.toNatClampNeg) = (-1 : Int32) then (X2_explains_j34 a (fun v2 C => X2_explains_l2 a n v2 C) v2 C) else (gd (inb v2 5) (gd (inb v2 5) (if (C a v2.toNatClampNeg) = (C 421 v2.toNatClampNeg) then (X2_explains_j34 a (fun v2 C => X2_explains_l2 a n v2 C) v2 C) else (some (0 : Int32)))))))))
noncomputable def f_X2_explains (a : Nat) (C : CM) : Option Int32 := (X2_explains_l2 a FU (0 : Int32) C)
theorem cf_X2_explains : CF yX2_explains cX2_explains 3 (Option.some Jvm.ClassFile.FieldType.boolean) 1 := ⟨kc_X2_explains, kj_X2, ⟨by decide +kernel, by decide +kernel, by decide +kernel⟩, by decide⟩
theorem cv_X2_explains : CFv yX2_explains := ⟨ki_X2_explains, ks_X2_explains⟩
set_option maxHeartbeats 4000000 in
set_option maxRecDepth 100000 in
theorem c_X2_explains (l : Launch) (G : GT) {a : Nat} (ha : a < NN) (hsa : SH a = (20, 5)) (C : CM) (O : OM) (res : Int32) (h : f_X2_explains a C = some res) : MI l G yX2_explains cX2_explains 3 (Option.some Jvm.ClassFile.FieldType.boolean) (1) [.ref (gB G + 417), .ref (gB G + a)] (C, O) res (C, O) := by
  unfold MI
  refine met_in RX2 (by decide +kernel) rfl [(0, .ref (gB G + 417)), (1, .ref (gB G + a))] rfl (Nat.le_of_ble_eq_true rfl) ?_
  intro pM eM sM mM aM bM meM cM K hr
  have hl2 : ∀ (n2 : Nat) (v2 : Int32), X2_explains_l2 a n2 v2 C = some res → GO pM l eM (1) sM mM aM bM meM cM (MQ bM (va_Qi (fun (r' : Int32) (u : CM × OM) => r' = res ∧ u = (C, O)) (wB G) (Fr G)) aM sM 0 0 (Fr G)) G 3 (C, O) 2 [(0, .ref (gB G + 417)), (1, .ref (gB G + a)), (2, .int v2)] [] := by
    intro n2
    induction n2 with
    | zero =>
      intro v2 h
      rw [X2_explains_l2] at h
      cases h
    | succ n2 ih2 =>
      have hj34 : ∀ (v2 : Int32), X2_explains_j34 a (fun v2 C => X2_explains_l2 a n2 v2 C) v2 C = some res → GO pM l eM (1) sM mM aM bM meM cM (MQ bM (va_Qi (fun (r' : Int32) (u : CM × OM) => r' = res ∧ u = (C, O)) (wB G) (Fr G)) aM sM 0 0 (Fr G)) G 3 (C, O) 34 [(0, .ref (gB G + 417)), (1, .ref (gB G + a)), (2, .int v2)] [] := by
        intro v2 h
        rw [X2_explains_j34] at h
        refine go_iinc K dX2_explains_34 2 rfl (v := (v2 + (1 : Int32))) rfl (by decide) (lv' := [(2, .int (v2 + (1 : Int32))), (0, .ref (gB G + 417)), (1, .ref (gB G + a))]) rfl ?_
        refine go_goto (tgt := 2) K dX2_explains_37 (by decide) ?_
        exact go_sub [1, 2, 0] rfl (ih2 _ h)
      intro v2 h
      rw [X2_explains_l2] at h
      refine go_iload_n K dX2_explains_2 2 rfl rfl ?_
      refine go_iconst (v := (5 : Int32)) K dX2_explains_3 (by decide) ?_
      refine go_icmp_ge (tgt := 40) K dX2_explains_4 (by decide) (fun c1 => ?_) (fun c1 => ?_)
      · replace h := ite_t h c1
        refine go_iconst (v := (1 : Int32)) K dX2_explains_40 (by decide) ?_
        exact go_zret K hr (by decide) (Option.some.inj h) rfl dX2_explains_41
      replace h := ite_f h c1
      refine go_iload_n K dX2_explains_7 2 rfl rfl ?_
      refine go_aload_n K dX2_explains_8 1 rfl rfl ?_
      refine go_clen K ha hsa (v := (5 : Int32)) rfl dX2_explains_9 ?_
      refine go_icmp_ge (tgt := 40) K dX2_explains_10 (by decide) (fun c2 => ?_) (fun c2 => ?_)
      · replace h := ite_t h c2
        refine go_iconst (v := (1 : Int32)) K dX2_explains_40 (by decide) ?_
        exact go_zret K hr (by decide) (Option.some.inj h) rfl dX2_explains_41
      replace h := ite_f h c2
      refine go_aload_n K dX2_explains_13 1 rfl rfl ?_
      refine go_iload_n K dX2_explains_14 2 rfl rfl ?_
      obtain ⟨g3, h⟩ := gd_e h
      refine go_cald K ha hsa g3 rfl dX2_explains_15 ?_
      refine go_iconst (v := (-1 : Int32)) K dX2_explains_16 (by decide) ?_
      refine go_icmp_eq (tgt := 34) K dX2_explains_17 (by decide) (fun c4 => ?_) (fun c4 => ?_)
      · replace h := ite_t h c4
        exact hj34 _ h
      replace h := ite_f h c4
      refine go_aload_n K dX2_explains_20 1 rfl rfl ?_
      refine go_iload_n K dX2_explains_21 2 rfl rfl ?_
      obtain ⟨g5, h⟩ := gd_e h
      refine go_cald K ha hsa g5 rfl dX2_explains_22 ?_
      refine go_aload_n K dX2_explains_23 0 rfl rfl ?_
      refine gf_X2 K 5 (by decide) kf_X2_21 (v := .ref (gB G + 421)) rfl dX2_explains_24 ?_
      refine go_iload_n K dX2_explains_27 2 rfl rfl ?_
      obtain ⟨g6, h⟩ := gd_e h
      refine go_cald K (Nat.le_of_ble_eq_true rfl) sh_421 g6 rfl dX2_explains_28 ?_
      refine go_icmp_eq (tgt := 34) K dX2_explains_29 (by decide) (fun c7 => ?_) (fun c7 => ?_)
      · replace h := ite_t h c7
        exact hj34 _ h
      replace h := ite_f h c7
      refine go_iconst (v := (0 : Int32)) K dX2_explains_32 (by decide) ?_
      exact go_zret K hr (by decide) (Option.some.inj h) rfl dX2_explains_33
  rw [f_X2_explains] at h
  refine go_iconst (v := (0 : Int32)) K dX2_explains_0 (by decide) ?_
  refine go_istore_n K dX2_explains_1 rfl (by decide) (lv' := [(2, .int (0 : Int32)), (0, .ref (gB G + 417)), (1, .ref (gB G + a))]) rfl ?_
  exact go_sub [1, 2, 0] rfl (hl2 FU _ h)
noncomputable def X2_listTwos_j80 (rc : Int32 → Int32 → CM → Option CM) (v1 : Int32) (v2 : Int32) (C : CM) : Option CM := (rc v1 (v2 + (1 : Int32)) C)
noncomputable def X2_listTwos_j74 (rc : Int32 → Int32 → Int32 → CM → Option CM) (k80 : Int32 → Int32 → CM → Option CM) (v1 : Int32) (v2 : Int32) (v3 : Int32) (C : CM) : Option CM := (rc v1 v2 (v3 + (1 : Int32)) C)
noncomputable def X2_listTwos_l16 (k80 : Int32 → Int32 → CM → Option CM) : Nat → Int32 → Int32 → Int32 → CM → Option CM
  | 0, _, _, _, _ => none
  | n + 1, v1, v2, v3, C => (if v1 ≤ v3 then (k80 v1 v2 C) else (if (f_X11_within (C 417 1) (0 : Int32) (9 : Int32)) = 0 then (X2_listTwos_j74 (fun v1 v2 v3 C => X2_listTwos_l16 k80 n v1 v2 v3 C) k80 v1 v2 v3 C) else (gd (inb (C 417 1) 10) (gd (inb ((up2 C 418 (C 417 1).toNatClampNeg v2) 417 1) 10) (gd (inb ((up2 (up2 C 418 (C 417 1).toNatClampNeg v2) 419 ((up2 C 418 (C 417 1).toNatClampNeg v2) 417 1).toNatClampNeg v3) 417 1) 10) (X2_listTwos_j74 (fun v1 v2 v3 C => X2_listTwos_l16 k80 n v1 v2 v3 C) k80 v1 v2 v3 (up2 (up2 (up2 (up2 C 418 (C 417 1).toNatClampNeg v2) 419 ((up2 C 418 (C 417 1).toNatClampNeg v2) 417 1).toNatClampNeg v3) 420 ((up2 (up2 C 418 (C 417 1).toNatClampNeg v2) 419 ((up2 C 418 (C 417 1).toNatClampNeg v2) 417 1).toNatClampNeg v3) 417 1).toNatClampNeg (0 : Int32)) 417 1 (((up2 (up2 (up2 C 418 (C 417 1).toNatClampNeg v2) 419 ((up2 C 418 (C 417 1).toNatClampNeg v2) 417 1).toNatClampNeg v3) 420 ((up2 (up2 C 418 (C 417 1).toNatClampNeg v2) 419 ((up2 C 418 (C 417 1).toNatClampNeg v2) 417 1).toNatClampNeg v3) 417 1).toNatClampNeg (0 : Int32)) 417 1) + (1 : Int32)))))))))
noncomputable def X2_listTwos_l7 : Nat → Int32 → Int32 → CM → Option CM
  | 0, _, _, _ => none
  | n + 1, v1, v2, C => (if v1 ≤ v2 then (some C) else (X2_listTwos_l16 (fun v1 v2 C => (X2_listTwos_j80 (fun v1 v2 C => X2_listTwos_l7 n v1 v2 C) v1 v2 C)) FU v1 v2 (v2 + (1 : Int32)) C))
noncomputable def f_X2_listTwos (v1 : Int32) (C : CM) : Option CM := (X2_listTwos_l7 FU v1 (0 : Int32) (up2 C 417 1 (0 : Int32)))
theorem cf_X2_listTwos : CF yX2_listTwos cX2_listTwos 4 (Option.none : Option Jvm.ClassFile.FieldType) 1 := ⟨kc_X2_listTwos, kj_X2, ⟨by decide +kernel, by decide +kernel, by decide +kernel⟩, by decide⟩
theorem cv_X2_listTwos : CFv yX2_listTwos := ⟨ki_X2_listTwos, ks_X2_listTwos⟩
set_option maxHeartbeats 4000000 in
set_option maxRecDepth 100000 in
theorem c_X2_listTwos (l : Launch) (G : GT) (v1 : Int32) (C : CM) (O : OM) (C' : CM) (h : f_X2_listTwos v1 C = some C') : MV l G yX2_listTwos cX2_listTwos 4 (Option.none : Option Jvm.ClassFile.FieldType) (2) [.ref (gB G + 417), .int v1] (C, O) (C', O) := by
  unfold MV
  refine met_in RX2 (by decide +kernel) rfl [(0, .ref (gB G + 417)), (1, .int v1)] rfl (Nat.le_of_ble_eq_true rfl) ?_
  intro pM eM sM mM aM bM meM cM K hr
  have hl7 : ∀ (n7 : Nat) (v1 : Int32) (v2 : Int32) (C : CM), X2_listTwos_l7 n7 v1 v2 C = some C' → GO pM l eM (2) sM mM aM bM meM cM (MQ bM (va_Qv (fun (u : CM × OM) => u = (C', O)) (wB G) (Fr G)) aM sM 0 0 (Fr G)) G 4 (C, O) 7 [(0, .ref (gB G + 417)), (1, .int v1), (2, .int v2)] [] := by
    intro n7
    induction n7 with
    | zero =>
      intro v1 v2 C h
      rw [X2_listTwos_l7] at h
      cases h
    | succ n7 ih7 =>
      have hj80 : ∀ (v1 : Int32) (v2 : Int32) (C : CM), X2_listTwos_j80 (fun v1 v2 C => X2_listTwos_l7 n7 v1 v2 C) v1 v2 C = some C' → GO pM l eM (2) sM mM aM bM meM cM (MQ bM (va_Qv (fun (u : CM × OM) => u = (C', O)) (wB G) (Fr G)) aM sM 0 0 (Fr G)) G 4 (C, O) 80 [(0, .ref (gB G + 417)), (1, .int v1), (2, .int v2)] [] := by
        intro v1 v2 C h
        rw [X2_listTwos_j80] at h
        refine go_iinc K dX2_listTwos_80 2 rfl (v := (v2 + (1 : Int32))) rfl (by decide) (lv' := [(2, .int (v2 + (1 : Int32))), (0, .ref (gB G + 417)), (1, .int v1)]) rfl ?_
        refine go_goto (tgt := 7) K dX2_listTwos_83 (by decide) ?_
        exact go_sub [1, 2, 0] rfl (ih7 _ _ _ h)
      have hl16 : ∀ (n16 : Nat) (v1 : Int32) (v2 : Int32) (v3 : Int32) (C : CM), X2_listTwos_l16 (fun v1 v2 C => (X2_listTwos_j80 (fun v1 v2 C => X2_listTwos_l7 n7 v1 v2 C) v1 v2 C)) n16 v1 v2 v3 C = some C' → GO pM l eM (2) sM mM aM bM meM cM (MQ bM (va_Qv (fun (u : CM × OM) => u = (C', O)) (wB G) (Fr G)) aM sM 0 0 (Fr G)) G 4 (C, O) 16 [(0, .ref (gB G + 417)), (1, .int v1), (2, .int v2), (3, .int v3)] [] := by
        intro n16
        induction n16 with
        | zero =>
          intro v1 v2 v3 C h
          rw [X2_listTwos_l16] at h
          cases h
        | succ n16 ih16 =>
          have hj74 : ∀ (v1 : Int32) (v2 : Int32) (v3 : Int32) (C : CM), X2_listTwos_j74 (fun v1 v2 v3 C => X2_listTwos_l16 (fun v1 v2 C => (X2_listTwos_j80 (fun v1 v2 C => X2_listTwos_l7 n7 v1 v2 C) v1 v2 C)) n16 v1 v2 v3 C) (fun v1 v2 C => (X2_listTwos_j80 (fun v1 v2 C => X2_listTwos_l7 n7 v1 v2 C) v1 v2 C)) v1 v2 v3 C = some C' → GO pM l eM (2) sM mM aM bM meM cM (MQ bM (va_Qv (fun (u : CM × OM) => u = (C', O)) (wB G) (Fr G)) aM sM 0 0 (Fr G)) G 4 (C, O) 74 [(0, .ref (gB G + 417)), (1, .int v1), (2, .int v2), (3, .int v3)] [] := by
            intro v1 v2 v3 C h
            rw [X2_listTwos_j74] at h
            refine go_iinc K dX2_listTwos_74 3 rfl (v := (v3 + (1 : Int32))) rfl (by decide) (lv' := [(3, .int (v3 + (1 : Int32))), (0, .ref (gB G + 417)), (1, .int v1), (2, .int v2)]) rfl ?_
            refine go_goto (tgt := 16) K dX2_listTwos_77 (by decide) ?_
            exact go_sub [1, 2, 3, 0] rfl (ih16 _ _ _ _ h)
          intro v1 v2 v3 C h
          rw [X2_listTwos_l16] at h
          refine go_iload_n K dX2_listTwos_16 3 rfl rfl ?_
          refine go_iload_n K dX2_listTwos_17 1 rfl rfl ?_
          refine go_icmp_ge (tgt := 80) K dX2_listTwos_18 (by decide) (fun c2 => ?_) (fun c2 => ?_)
          · replace h := ite_t h c2
            exact go_sub [0, 1, 2] rfl (hj80 _ _ _ h)
          replace h := ite_f h c2
          refine go_aload_n K dX2_listTwos_21 0 rfl rfl ?_
          refine gf_X2 K 1 (by decide) kf_X2_43 (v := .int (C 417 1)) rfl dX2_listTwos_22 ?_
          refine go_iconst (v := (0 : Int32)) K dX2_listTwos_25 (by decide) ?_
          refine go_bipush (v := (9 : Int32)) K dX2_listTwos_26 (by decide) ?_
          refine go_cNI K (c_X11_within l G _ _ _ _ _ _ rfl) cf_X11_within kt_X11_within (List.mem_of_getElem? (i := 20) rfl) (by decide) rfl rfl (Nat.le_of_ble_eq_true rfl) dX2_listTwos_28 ?_
          refine go_if_eq (tgt := 74) K dX2_listTwos_31 (by decide) (fun c3 => ?_) (fun c3 => ?_)
          · replace h := ite_t h c3
            exact hj74 _ _ _ _ h
          replace h := ite_f h c3
          refine go_aload_n K dX2_listTwos_34 0 rfl rfl ?_
          refine gf_X2 K 2 (by decide) kf_X2_11 (v := .ref (gB G + 418)) rfl dX2_listTwos_35 ?_
          refine go_aload_n K dX2_listTwos_38 0 rfl rfl ?_
          refine gf_X2 K 1 (by decide) kf_X2_43 (v := .int (C 417 1)) rfl dX2_listTwos_39 ?_
          refine go_iload_n K dX2_listTwos_42 2 rfl rfl ?_
          obtain ⟨g4, h⟩ := gd_e h
          refine go_cast K (Nat.le_of_ble_eq_true rfl) sh_418 g4 rfl dX2_listTwos_43 ?_
          refine go_aload_n K dX2_listTwos_44 0 rfl rfl ?_
          refine gf_X2 K 3 (by decide) kf_X2_15 (v := .ref (gB G + 419)) rfl dX2_listTwos_45 ?_
          refine go_aload_n K dX2_listTwos_48 0 rfl rfl ?_
          refine gf_X2 K 1 (by decide) kf_X2_43 (v := .int ((up2 C 418 (C 417 1).toNatClampNeg v2) 417 1)) rfl dX2_listTwos_49 ?_
          refine go_iload_n K dX2_listTwos_52 3 rfl rfl ?_
          obtain ⟨g5, h⟩ := gd_e h
          refine go_cast K (Nat.le_of_ble_eq_true rfl) sh_419 g5 rfl dX2_listTwos_53 ?_
          refine go_aload_n K dX2_listTwos_54 0 rfl rfl ?_
          refine gf_X2 K 4 (by decide) kf_X2_18 (v := .ref (gB G + 420)) rfl dX2_listTwos_55 ?_
          refine go_aload_n K dX2_listTwos_58 0 rfl rfl ?_
          refine gf_X2 K 1 (by decide) kf_X2_43 (v := .int ((up2 (up2 C 418 (C 417 1).toNatClampNeg v2) 419 ((up2 C 418 (C 417 1).toNatClampNeg v2) 417 1).toNatClampNeg v3) 417 1)) rfl dX2_listTwos_59 ?_
          refine go_iconst (v := (0 : Int32)) K dX2_listTwos_62 (by decide) ?_
          obtain ⟨g6, h⟩ := gd_e h
          refine go_cast K (Nat.le_of_ble_eq_true rfl) sh_420 g6 rfl dX2_listTwos_63 ?_
          refine go_aload_n K dX2_listTwos_64 0 rfl rfl ?_
          refine go_dup K dX2_listTwos_65 rfl ?_
          refine gf_X2 K 1 (by decide) kf_X2_43 (v := .int ((up2 (up2 (up2 C 418 (C 417 1).toNatClampNeg v2) 419 ((up2 C 418 (C 417 1).toNatClampNeg v2) 417 1).toNatClampNeg v3) 420 ((up2 (up2 C 418 (C 417 1).toNatClampNeg v2) 419 ((up2 C 418 (C 417 1).toNatClampNeg v2) 417 1).toNatClampNeg v3) 417 1).toNatClampNeg (0 : Int32)) 417 1)) rfl dX2_listTwos_66 ?_
          refine go_iconst (v := (1 : Int32)) K dX2_listTwos_69 (by decide) ?_
          refine go_iadd K dX2_listTwos_70 ?_
          refine pf_X2 K 1 (by decide) kf_X2_43 rfl rfl rfl dX2_listTwos_71 ?_
          exact hj74 _ _ _ _ h
      intro v1 v2 C h
      rw [X2_listTwos_l7] at h
      refine go_iload_n K dX2_listTwos_7 2 rfl rfl ?_
      refine go_iload_n K dX2_listTwos_8 1 rfl rfl ?_
      refine go_icmp_ge (tgt := 86) K dX2_listTwos_9 (by decide) (fun c1 => ?_) (fun c1 => ?_)
      · replace h := ite_t h c1
        exact go_vret K hr (congrArg (fun z => (z, O)) (Option.some.inj h)) dX2_listTwos_86
      replace h := ite_f h c1
      refine go_iload_n K dX2_listTwos_12 2 rfl rfl ?_
      refine go_iconst (v := (1 : Int32)) K dX2_listTwos_13 (by decide) ?_
      refine go_iadd K dX2_listTwos_14 ?_
      refine go_istore_n K dX2_listTwos_15 rfl (by decide) (lv' := [(3, .int (v2 + (1 : Int32))), (0, .ref (gB G + 417)), (1, .int v1), (2, .int v2)]) rfl ?_
      exact go_sub [1, 2, 3, 0] rfl (hl16 FU _ _ _ _ h)
  rw [f_X2_listTwos] at h
  refine go_aload_n K dX2_listTwos_0 0 rfl rfl ?_
  refine go_iconst (v := (0 : Int32)) K dX2_listTwos_1 (by decide) ?_
  refine pf_X2 K 1 (by decide) kf_X2_43 rfl rfl rfl dX2_listTwos_2 ?_
  refine go_iconst (v := (0 : Int32)) K dX2_listTwos_5 (by decide) ?_
  refine go_istore_n K dX2_listTwos_6 rfl (by decide) (lv' := [(2, .int (0 : Int32)), (0, .ref (gB G + 417)), (1, .int v1)]) rfl ?_
  exact go_sub [1, 2, 0] rfl (hl7 FU _ _ _ h)
