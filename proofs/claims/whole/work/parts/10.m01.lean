noncomputable def f_X7_bends (s : Nat) (v1 : Int32) (v2 : Int32) (C : CM) : Option CM := (if (f_X7_has s v1 C) = 0 then (some C) else (gd (inb v1 7) (gd (inb v1 7) (some (up2 C (s + 1) v1.toNatClampNeg ((C (s + 1) v1.toNatClampNeg) - v2))))))
theorem cf_X7_bends : CF yX7_bends cX7_bends 3 (Option.none : Option Jvm.ClassFile.FieldType) 2 := ⟨kc_X7_bends, kj_X7, ⟨by decide +kernel, by decide +kernel, by decide +kernel⟩, by decide⟩
theorem cv_X7_bends : CFv yX7_bends := ⟨ki_X7_bends, ks_X7_bends⟩
set_option maxHeartbeats 4000000 in
set_option maxRecDepth 100000 in
theorem c_X7_bends (l : Launch) (G : GT) {s : Nat} (hs : StAt s) (v1 : Int32) (v2 : Int32) (C : CM) (O : OM) (C' : CM) (h : f_X7_bends s v1 v2 C = some C') : MV l G yX7_bends cX7_bends 3 (Option.none : Option Jvm.ClassFile.FieldType) (2) [.ref (gB G + s), .int v1, .int v2] (C, O) (C', O) := by
  unfold MV
  refine met_in RX7 (by decide +kernel) rfl [(0, .ref (gB G + s)), (1, .int v1), (2, .int v2)] rfl (Nat.le_of_ble_eq_true rfl) ?_
  intro pM eM sM mM aM bM meM cM K hr
  rw [f_X7_bends] at h
  refine go_aload_n K dX7_bends_0 0 rfl rfl ?_
  refine go_iload_n K dX7_bends_1 1 rfl rfl ?_
  refine go_cVI K (c_X7_has l G hs _ _ _ _ rfl) cf_X7_has cv_X7_has km_X7_49 (rv_X7 hs) (by decide) rfl rfl (Nat.le_of_ble_eq_true rfl) dX7_bends_2 ?_
  refine go_if_eq (tgt := 18) K dX7_bends_5 (by decide) (fun c1 => ?_) (fun c1 => ?_)
  · replace h := ite_t h c1
    exact go_vret K hr (congrArg (fun z => (z, O)) (Option.some.inj h)) dX7_bends_18
  replace h := ite_f h c1
  refine go_aload_n K dX7_bends_8 0 rfl rfl ?_
  refine gf_X7 K hs 5 (by decide) kf_X7_15 (v := .ref (gB G + (s + 1))) rfl dX7_bends_9 ?_
  refine go_iload_n K dX7_bends_12 1 rfl rfl ?_
  refine go_dup2 K dX7_bends_13 rfl rfl ?_
  obtain ⟨g2, h⟩ := gd_e h
  refine go_cald K (st_lt hs 1 (by decide)) (hs.2.2.1) g2 rfl dX7_bends_14 ?_
  refine go_iload_n K dX7_bends_15 2 rfl rfl ?_
  refine go_isub K dX7_bends_16 ?_
  obtain ⟨g3, h⟩ := gd_e h
  refine go_cast K (st_lt hs 1 (by decide)) (hs.2.2.1) g3 rfl dX7_bends_17 ?_
  exact go_vret K hr (congrArg (fun z => (z, O)) (Option.some.inj h)) dX7_bends_18
noncomputable def f_X7_walks (s : Nat) (v1 : Int32) (v2 : Int32) (C : CM) : Option CM := (if (f_X7_has s v1 C) = 0 then (some C) else (gd (inb v1 7) (bnd (f_J9_floorMod_7cf53 ((C (s + 2) v1.toNatClampNeg) + v2) (8 : Int32)) (fun r3 => (gd (inb v1 7) (some (up2 C (s + 2) v1.toNatClampNeg r3)))))))
theorem cf_X7_walks : CF yX7_walks cX7_walks 3 (Option.none : Option Jvm.ClassFile.FieldType) 2 := ⟨kc_X7_walks, kj_X7, ⟨by decide +kernel, by decide +kernel, by decide +kernel⟩, by decide⟩
theorem cv_X7_walks : CFv yX7_walks := ⟨ki_X7_walks, ks_X7_walks⟩
set_option maxHeartbeats 4000000 in
set_option maxRecDepth 100000 in
theorem c_X7_walks (l : Launch) (G : GT) {s : Nat} (hs : StAt s) (v1 : Int32) (v2 : Int32) (C : CM) (O : OM) (C' : CM) (h : f_X7_walks s v1 v2 C = some C') : MV l G yX7_walks cX7_walks 3 (Option.none : Option Jvm.ClassFile.FieldType) (2) [.ref (gB G + s), .int v1, .int v2] (C, O) (C', O) := by
  unfold MV
  refine met_in RX7 (by decide +kernel) rfl [(0, .ref (gB G + s)), (1, .int v1), (2, .int v2)] rfl (Nat.le_of_ble_eq_true rfl) ?_
  intro pM eM sM mM aM bM meM cM K hr
  rw [f_X7_walks] at h
  refine go_aload_n K dX7_walks_0 0 rfl rfl ?_
  refine go_iload_n K dX7_walks_1 1 rfl rfl ?_
  refine go_cVI K (c_X7_has l G hs _ _ _ _ rfl) cf_X7_has cv_X7_has km_X7_49 (rv_X7 hs) (by decide) rfl rfl (Nat.le_of_ble_eq_true rfl) dX7_walks_2 ?_
  refine go_if_eq (tgt := 27) K dX7_walks_5 (by decide) (fun c1 => ?_) (fun c1 => ?_)
  · replace h := ite_t h c1
    exact go_vret K hr (congrArg (fun z => (z, O)) (Option.some.inj h)) dX7_walks_27
  replace h := ite_f h c1
  refine go_aload_n K dX7_walks_8 0 rfl rfl ?_
  refine gf_X7 K hs 6 (by decide) kf_X7_19 (v := .ref (gB G + (s + 2))) rfl dX7_walks_9 ?_
  refine go_iload_n K dX7_walks_12 1 rfl rfl ?_
  refine go_aload_n K dX7_walks_13 0 rfl rfl ?_
  refine gf_X7 K hs 6 (by decide) kf_X7_19 (v := .ref (gB G + (s + 2))) rfl dX7_walks_14 ?_
  refine go_iload_n K dX7_walks_17 1 rfl rfl ?_
  obtain ⟨g2, h⟩ := gd_e h
  refine go_cald K (st_lt hs 2 (by decide)) (hs.2.2.2.1) g2 rfl dX7_walks_18 ?_
  refine go_iload_n K dX7_walks_19 2 rfl rfl ?_
  refine go_iadd K dX7_walks_20 ?_
  refine go_bipush (v := (8 : Int32)) K dX7_walks_21 (by decide) ?_
  obtain ⟨r3, e3, h⟩ := bnd_e h
  refine go_cSI K (c_J9_floorMod_7cf53 l G _ _ _ _ e3) cf_J9_floorMod_7cf53 kt_J9_floorMod_7cf53 km_X7_81 (by decide) rfl rfl (Nat.le_of_ble_eq_true rfl) dX7_walks_23 ?_
  obtain ⟨g4, h⟩ := gd_e h
  refine go_cast K (st_lt hs 2 (by decide)) (hs.2.2.2.1) g4 rfl dX7_walks_26 ?_
  exact go_vret K hr (congrArg (fun z => (z, O)) (Option.some.inj h)) dX7_walks_27
noncomputable def X7_forgives_j51 (s : Nat) (rc : Int32 → Int32 → CM → Option (Int32 × CM)) (v1 : Int32) (v2 : Int32) (v3 : Int32) (C : CM) : Option (Int32 × CM) := (bnd (f_X7_owed s v2 v3 C) (fun r6 => (bnd (f_X7_setOwed s v2 v3 (0 : Int32) C) (fun C7 => (rc (v1 + r6) (v2 + (1 : Int32)) C7)))))
noncomputable def X7_forgives_j45 (s : Nat) (rc : Int32 → Int32 → Int32 → Int32 → CM → Option (Int32 × CM)) (k51 : Int32 → Int32 → Int32 → CM → Option (Int32 × CM)) (v1 : Int32) (v2 : Int32) (v3 : Int32) (v4 : Int32) (C : CM) : Option (Int32 × CM) := (rc v1 v2 v3 (v4 + (1 : Int32)) C)
noncomputable def X7_forgives_l17 (s : Nat) (k51 : Int32 → Int32 → Int32 → CM → Option (Int32 × CM)) : Nat → Int32 → Int32 → Int32 → Int32 → CM → Option (Int32 × CM)
  | 0, _, _, _, _, _ => none
  | n + 1, v1, v2, v3, v4, C => (if (C s 0) ≤ v4 then (k51 v1 v2 v3 C) else (bnd (f_X7_owed s v2 v4 C) (fun r3 => (bnd (f_X7_owed s v2 v3 C) (fun r4 => (if r3 ≤ r4 then (X7_forgives_j45 s (fun v1 v2 v3 v4 C => X7_forgives_l17 s k51 n v1 v2 v3 v4 C) k51 v1 v2 v3 v4 C) else (X7_forgives_j45 s (fun v1 v2 v3 v4 C => X7_forgives_l17 s k51 n v1 v2 v3 v4 C) k51 v1 v2 v4 v4 C)))))))
noncomputable def X7_forgives_l4 (s : Nat) : Nat → Int32 → Int32 → CM → Option (Int32 × CM)
  | 0, _, _, _ => none
  | n + 1, v1, v2, C => (if (C s 0) ≤ v2 then (some (v1, C)) else (X7_forgives_l17 s (fun v1 v2 v3 C => (X7_forgives_j51 s (fun v1 v2 C => X7_forgives_l4 s n v1 v2 C) v1 v2 v3 C)) FU v1 v2 (0 : Int32) (1 : Int32) C))
noncomputable def f_X7_forgives (s : Nat) (C : CM) : Option (Int32 × CM) := (X7_forgives_l4 s FU (0 : Int32) (0 : Int32) C)
theorem cf_X7_forgives : CF yX7_forgives cX7_forgives 5 (Option.some Jvm.ClassFile.FieldType.int) 0 := ⟨kc_X7_forgives, kj_X7, ⟨by decide +kernel, by decide +kernel, by decide +kernel⟩, by decide⟩
theorem cv_X7_forgives : CFv yX7_forgives := ⟨ki_X7_forgives, ks_X7_forgives⟩
set_option maxHeartbeats 4000000 in
set_option maxRecDepth 100000 in
theorem c_X7_forgives (l : Launch) (G : GT) {s : Nat} (hs : StAt s) (C : CM) (O : OM) (res : Int32) (C' : CM) (h : f_X7_forgives s C = some (res, C')) : MI l G yX7_forgives cX7_forgives 5 (Option.some Jvm.ClassFile.FieldType.int) (4) [.ref (gB G + s)] (C, O) res (C', O) := by
  unfold MI
  refine met_in RX7 (by decide +kernel) rfl [(0, .ref (gB G + s))] rfl (Nat.le_of_ble_eq_true rfl) ?_
  intro pM eM sM mM aM bM meM cM K hr
  have hl4 : ∀ (n4 : Nat) (v1 : Int32) (v2 : Int32) (C : CM), X7_forgives_l4 s n4 v1 v2 C = some (res, C') → GO pM l eM (4) sM mM aM bM meM cM (MQ bM (va_Qi (fun (r' : Int32) (u : CM × OM) => r' = res ∧ u = (C', O)) (wB G) (Fr G)) aM sM 0 0 (Fr G)) G 5 (C, O) 4 [(0, .ref (gB G + s)), (1, .int v1), (2, .int v2)] [] := by
    intro n4
    induction n4 with
    | zero =>
      intro v1 v2 C h
      rw [X7_forgives_l4] at h
      cases h
    | succ n4 ih4 =>
      have hj51 : ∀ (v1 : Int32) (v2 : Int32) (v3 : Int32) (C : CM), X7_forgives_j51 s (fun v1 v2 C => X7_forgives_l4 s n4 v1 v2 C) v1 v2 v3 C = some (res, C') → GO pM l eM (4) sM mM aM bM meM cM (MQ bM (va_Qi (fun (r' : Int32) (u : CM × OM) => r' = res ∧ u = (C', O)) (wB G) (Fr G)) aM sM 0 0 (Fr G)) G 5 (C, O) 51 [(0, .ref (gB G + s)), (1, .int v1), (2, .int v2), (3, .int v3)] [] := by
        intro v1 v2 v3 C h
        rw [X7_forgives_j51] at h
        refine go_iload_n K dX7_forgives_51 1 rfl rfl ?_
        refine go_aload_n K dX7_forgives_52 0 rfl rfl ?_
        refine go_iload_n K dX7_forgives_53 2 rfl rfl ?_
        refine go_iload_n K dX7_forgives_54 3 rfl rfl ?_
        obtain ⟨r6, e6, h⟩ := bnd_e h
        refine go_cVI K (c_X7_owed l G hs _ _ _ _ _ e6) cf_X7_owed cv_X7_owed km_X7_64 (rv_X7 hs) (by decide) rfl rfl (Nat.le_of_ble_eq_true rfl) dX7_forgives_55 ?_
        refine go_iadd K dX7_forgives_58 ?_
        refine go_istore_n K dX7_forgives_59 rfl (by decide) (lv' := [(1, .int (v1 + r6)), (0, .ref (gB G + s)), (2, .int v2), (3, .int v3)]) rfl ?_
        refine go_aload_n K dX7_forgives_60 1 rfl rfl ?_
        refine go_iload_n K dX7_forgives_61 2 rfl rfl ?_
        refine go_iload_n K dX7_forgives_62 3 rfl rfl ?_
        refine go_iconst (v := (0 : Int32)) K dX7_forgives_63 (by decide) ?_
        obtain ⟨C7, e7, h⟩ := bnd_e h
        refine go_cVV K (c_X7_setOwed l G hs _ _ _ _ _ _ e7) cf_X7_setOwed cv_X7_setOwed km_X7_86 (rv_X7 hs) (by decide) rfl rfl (Nat.le_of_ble_eq_true rfl) dX7_forgives_64 ?_
        refine go_iinc K dX7_forgives_67 2 rfl (v := (v2 + (1 : Int32))) rfl (by decide) (lv' := [(2, .int (v2 + (1 : Int32))), (1, .int (v1 + r6)), (0, .ref (gB G + s)), (3, .int v3)]) rfl ?_
        refine go_goto (tgt := 4) K dX7_forgives_70 (by decide) ?_
        exact go_sub [2, 1, 0] rfl (ih4 _ _ _ h)
      have hl17 : ∀ (n17 : Nat) (v1 : Int32) (v2 : Int32) (v3 : Int32) (v4 : Int32) (C : CM), X7_forgives_l17 s (fun v1 v2 v3 C => (X7_forgives_j51 s (fun v1 v2 C => X7_forgives_l4 s n4 v1 v2 C) v1 v2 v3 C)) n17 v1 v2 v3 v4 C = some (res, C') → GO pM l eM (4) sM mM aM bM meM cM (MQ bM (va_Qi (fun (r' : Int32) (u : CM × OM) => r' = res ∧ u = (C', O)) (wB G) (Fr G)) aM sM 0 0 (Fr G)) G 5 (C, O) 17 [(0, .ref (gB G + s)), (1, .int v1), (2, .int v2), (3, .int v3), (4, .int v4)] [] := by
        intro n17
        induction n17 with
        | zero =>
          intro v1 v2 v3 v4 C h
          rw [X7_forgives_l17] at h
          cases h
        | succ n17 ih17 =>
          have hj45 : ∀ (v1 : Int32) (v2 : Int32) (v3 : Int32) (v4 : Int32) (C : CM), X7_forgives_j45 s (fun v1 v2 v3 v4 C => X7_forgives_l17 s (fun v1 v2 v3 C => (X7_forgives_j51 s (fun v1 v2 C => X7_forgives_l4 s n4 v1 v2 C) v1 v2 v3 C)) n17 v1 v2 v3 v4 C) (fun v1 v2 v3 C => (X7_forgives_j51 s (fun v1 v2 C => X7_forgives_l4 s n4 v1 v2 C) v1 v2 v3 C)) v1 v2 v3 v4 C = some (res, C') → GO pM l eM (4) sM mM aM bM meM cM (MQ bM (va_Qi (fun (r' : Int32) (u : CM × OM) => r' = res ∧ u = (C', O)) (wB G) (Fr G)) aM sM 0 0 (Fr G)) G 5 (C, O) 45 [(0, .ref (gB G + s)), (1, .int v1), (2, .int v2), (3, .int v3), (4, .int v4)] [] := by
            intro v1 v2 v3 v4 C h
            rw [X7_forgives_j45] at h
            refine go_iinc K dX7_forgives_45 4 rfl (v := (v4 + (1 : Int32))) rfl (by decide) (lv' := [(4, .int (v4 + (1 : Int32))), (0, .ref (gB G + s)), (1, .int v1), (2, .int v2), (3, .int v3)]) rfl ?_
            refine go_goto (tgt := 17) K dX7_forgives_48 (by decide) ?_
            exact go_sub [1, 2, 3, 4, 0] rfl (ih17 _ _ _ _ _ h)
          intro v1 v2 v3 v4 C h
          rw [X7_forgives_l17] at h
          refine go_iload K dX7_forgives_17 4 rfl ?_
          refine go_aload_n K dX7_forgives_19 0 rfl rfl ?_
          refine gf_X7 K hs 0 (by decide) kf_X7_31 (v := .int (C s 0)) rfl dX7_forgives_20 ?_
          refine go_icmp_ge (tgt := 51) K dX7_forgives_23 (by decide) (fun c2 => ?_) (fun c2 => ?_)
          · replace h := ite_t h c2
            exact go_sub [0, 1, 2, 3] rfl (hj51 _ _ _ _ h)
          replace h := ite_f h c2
          refine go_aload_n K dX7_forgives_26 0 rfl rfl ?_
          refine go_iload_n K dX7_forgives_27 2 rfl rfl ?_
          refine go_iload K dX7_forgives_28 4 rfl ?_
          obtain ⟨r3, e3, h⟩ := bnd_e h
          refine go_cVI K (c_X7_owed l G hs _ _ _ _ _ e3) cf_X7_owed cv_X7_owed km_X7_64 (rv_X7 hs) (by decide) rfl rfl (Nat.le_of_ble_eq_true rfl) dX7_forgives_30 ?_
          refine go_aload_n K dX7_forgives_33 0 rfl rfl ?_
          refine go_iload_n K dX7_forgives_34 2 rfl rfl ?_
          refine go_iload_n K dX7_forgives_35 3 rfl rfl ?_
          obtain ⟨r4, e4, h⟩ := bnd_e h
          refine go_cVI K (c_X7_owed l G hs _ _ _ _ _ e4) cf_X7_owed cv_X7_owed km_X7_64 (rv_X7 hs) (by decide) rfl rfl (Nat.le_of_ble_eq_true rfl) dX7_forgives_36 ?_
          refine go_icmp_le (tgt := 45) K dX7_forgives_39 (by decide) (fun c5 => ?_) (fun c5 => ?_)
          · replace h := ite_t h c5
            exact hj45 _ _ _ _ _ h
          replace h := ite_f h c5
          refine go_iload K dX7_forgives_42 4 rfl ?_
          refine go_istore_n K dX7_forgives_44 rfl (by decide) (lv' := [(3, .int v4), (0, .ref (gB G + s)), (1, .int v1), (2, .int v2), (4, .int v4)]) rfl ?_
          exact go_sub [1, 2, 3, 0, 4] rfl (hj45 _ _ _ _ _ h)
      intro v1 v2 C h
      rw [X7_forgives_l4] at h
      refine go_iload_n K dX7_forgives_4 2 rfl rfl ?_
      refine go_aload_n K dX7_forgives_5 0 rfl rfl ?_
      refine gf_X7 K hs 0 (by decide) kf_X7_31 (v := .int (C s 0)) rfl dX7_forgives_6 ?_
      refine go_icmp_ge (tgt := 73) K dX7_forgives_9 (by decide) (fun c1 => ?_) (fun c1 => ?_)
      · replace h := ite_t h c1
        refine go_iload_n K dX7_forgives_73 1 rfl rfl ?_
        exact go_iret K hr (Prod.mk.inj (Option.some.inj h)).1 (congrArg (fun z => (z, O)) (Prod.mk.inj (Option.some.inj h)).2) dX7_forgives_74
      replace h := ite_f h c1
      refine go_iconst (v := (0 : Int32)) K dX7_forgives_12 (by decide) ?_
      refine go_istore_n K dX7_forgives_13 rfl (by decide) (lv' := [(3, .int (0 : Int32)), (0, .ref (gB G + s)), (1, .int v1), (2, .int v2)]) rfl ?_
      refine go_iconst (v := (1 : Int32)) K dX7_forgives_14 (by decide) ?_
      refine go_istore K dX7_forgives_15 (by decide) (lv' := [(4, .int (1 : Int32)), (3, .int (0 : Int32)), (0, .ref (gB G + s)), (1, .int v1), (2, .int v2)]) rfl ?_
      exact go_sub [2, 3, 4, 1, 0] rfl (hl17 FU _ _ _ _ _ h)
  rw [f_X7_forgives] at h
  refine go_iconst (v := (0 : Int32)) K dX7_forgives_0 (by decide) ?_
  refine go_istore_n K dX7_forgives_1 rfl (by decide) (lv' := [(1, .int (0 : Int32)), (0, .ref (gB G + s))]) rfl ?_
  refine go_iconst (v := (0 : Int32)) K dX7_forgives_2 (by decide) ?_
  refine go_istore_n K dX7_forgives_3 rfl (by decide) (lv' := [(2, .int (0 : Int32)), (1, .int (0 : Int32)), (0, .ref (gB G + s))]) rfl ?_
  exact go_sub [2, 1, 0] rfl (hl4 FU _ _ _ h)
noncomputable def f_X7_clearable (s : Nat) (v1 : Int32) (v2 : Int32) (v3 : Int32) (C : CM) : Option Int32 := (bnd (f_X7_meet s v1 v2 C) (fun r1 => (if r1 = 0 then (some (0 : Int32)) else (bnd (f_X7_meet s v2 v3 C) (fun r3 => (if r3 = 0 then (some (0 : Int32)) else (bnd (f_X7_meet s v3 v1 C) (fun r5 => (if r5 = 0 then (some (0 : Int32)) else (bnd (f_X7_owed s v1 v2 C) (fun r7 => (bnd (f_X7_owed s v2 v3 C) (fun r8 => (bnd (f_X7_owed s v3 v1 C) (fun r9 => (some (f_J9_min_7cf53 r7 (f_J9_min_7cf53 r8 r9))))))))))))))))))
theorem cf_X7_clearable : CF yX7_clearable cX7_clearable 4 (Option.some Jvm.ClassFile.FieldType.int) 3 := ⟨kc_X7_clearable, kj_X7, ⟨by decide +kernel, by decide +kernel, by decide +kernel⟩, by decide⟩
theorem cv_X7_clearable : CFv yX7_clearable := ⟨ki_X7_clearable, ks_X7_clearable⟩
set_option maxHeartbeats 4000000 in
set_option maxRecDepth 100000 in
theorem c_X7_clearable (l : Launch) (G : GT) {s : Nat} (hs : StAt s) (v1 : Int32) (v2 : Int32) (v3 : Int32) (C : CM) (O : OM) (res : Int32) (h : f_X7_clearable s v1 v2 v3 C = some res) : MI l G yX7_clearable cX7_clearable 4 (Option.some Jvm.ClassFile.FieldType.int) (4) [.ref (gB G + s), .int v1, .int v2, .int v3] (C, O) res (C, O) := by
  unfold MI
  refine met_in RX7 (by decide +kernel) rfl [(0, .ref (gB G + s)), (1, .int v1), (2, .int v2), (3, .int v3)] rfl (Nat.le_of_ble_eq_true rfl) ?_
  intro pM eM sM mM aM bM meM cM K hr
  rw [f_X7_clearable] at h
  refine go_aload_n K dX7_clearable_0 0 rfl rfl ?_
  refine go_iload_n K dX7_clearable_1 1 rfl rfl ?_
  refine go_iload_n K dX7_clearable_2 2 rfl rfl ?_
  obtain ⟨r1, e1, h⟩ := bnd_e h
  refine go_cVI K (c_X7_meet l G hs _ _ _ _ _ e1) cf_X7_meet cv_X7_meet km_X7_90 (rv_X7 hs) (by decide) rfl rfl (Nat.le_of_ble_eq_true rfl) dX7_clearable_3 ?_
  refine go_if_eq (tgt := 27) K dX7_clearable_6 (by decide) (fun c2 => ?_) (fun c2 => ?_)
  · replace h := ite_t h c2
    refine go_iconst (v := (0 : Int32)) K dX7_clearable_27 (by decide) ?_
    exact go_iret K hr (Option.some.inj h) rfl dX7_clearable_28
  replace h := ite_f h c2
  refine go_aload_n K dX7_clearable_9 0 rfl rfl ?_
  refine go_iload_n K dX7_clearable_10 2 rfl rfl ?_
  refine go_iload_n K dX7_clearable_11 3 rfl rfl ?_
  obtain ⟨r3, e3, h⟩ := bnd_e h
  refine go_cVI K (c_X7_meet l G hs _ _ _ _ _ e3) cf_X7_meet cv_X7_meet km_X7_90 (rv_X7 hs) (by decide) rfl rfl (Nat.le_of_ble_eq_true rfl) dX7_clearable_12 ?_
  refine go_if_eq (tgt := 27) K dX7_clearable_15 (by decide) (fun c4 => ?_) (fun c4 => ?_)
  · replace h := ite_t h c4
    refine go_iconst (v := (0 : Int32)) K dX7_clearable_27 (by decide) ?_
    exact go_iret K hr (Option.some.inj h) rfl dX7_clearable_28
  replace h := ite_f h c4
  refine go_aload_n K dX7_clearable_18 0 rfl rfl ?_
  refine go_iload_n K dX7_clearable_19 3 rfl rfl ?_
  refine go_iload_n K dX7_clearable_20 1 rfl rfl ?_
  obtain ⟨r5, e5, h⟩ := bnd_e h
  refine go_cVI K (c_X7_meet l G hs _ _ _ _ _ e5) cf_X7_meet cv_X7_meet km_X7_90 (rv_X7 hs) (by decide) rfl rfl (Nat.le_of_ble_eq_true rfl) dX7_clearable_21 ?_
  refine go_if_ne (tgt := 29) K dX7_clearable_24 (by decide) (fun c6 => ?_) (fun c6 => ?_)
  rotate_left
  · replace h := ite_t h c6
    refine go_iconst (v := (0 : Int32)) K dX7_clearable_27 (by decide) ?_
    exact go_iret K hr (Option.some.inj h) rfl dX7_clearable_28
  replace h := ite_f h c6
  refine go_aload_n K dX7_clearable_29 0 rfl rfl ?_
  refine go_iload_n K dX7_clearable_30 1 rfl rfl ?_
  refine go_iload_n K dX7_clearable_31 2 rfl rfl ?_
  obtain ⟨r7, e7, h⟩ := bnd_e h
  refine go_cVI K (c_X7_owed l G hs _ _ _ _ _ e7) cf_X7_owed cv_X7_owed km_X7_64 (rv_X7 hs) (by decide) rfl rfl (Nat.le_of_ble_eq_true rfl) dX7_clearable_32 ?_
  refine go_aload_n K dX7_clearable_35 0 rfl rfl ?_
  refine go_iload_n K dX7_clearable_36 2 rfl rfl ?_
  refine go_iload_n K dX7_clearable_37 3 rfl rfl ?_
  obtain ⟨r8, e8, h⟩ := bnd_e h
  refine go_cVI K (c_X7_owed l G hs _ _ _ _ _ e8) cf_X7_owed cv_X7_owed km_X7_64 (rv_X7 hs) (by decide) rfl rfl (Nat.le_of_ble_eq_true rfl) dX7_clearable_38 ?_
  refine go_aload_n K dX7_clearable_41 0 rfl rfl ?_
  refine go_iload_n K dX7_clearable_42 3 rfl rfl ?_
  refine go_iload_n K dX7_clearable_43 1 rfl rfl ?_
  obtain ⟨r9, e9, h⟩ := bnd_e h
  refine go_cVI K (c_X7_owed l G hs _ _ _ _ _ e9) cf_X7_owed cv_X7_owed km_X7_64 (rv_X7 hs) (by decide) rfl rfl (Nat.le_of_ble_eq_true rfl) dX7_clearable_44 ?_
  refine go_cSI K (c_J9_min_7cf53 l G _ _ _ _ rfl) cf_J9_min_7cf53 kt_J9_min_7cf53 km_X7_93 (by decide) rfl rfl (Nat.le_of_ble_eq_true rfl) dX7_clearable_47 ?_
  refine go_cSI K (c_J9_min_7cf53 l G _ _ _ _ rfl) cf_J9_min_7cf53 kt_J9_min_7cf53 km_X7_93 (by decide) rfl rfl (Nat.le_of_ble_eq_true rfl) dX7_clearable_50 ?_
  exact go_iret K hr (Option.some.inj h) rfl dX7_clearable_53
noncomputable def f_X7_clears (s : Nat) (v1 : Int32) (v2 : Int32) (v3 : Int32) (v4 : Int32) (C : CM) : Option CM := (bnd (f_X7_owed s v1 v2 C) (fun r1 => (bnd (f_X7_setOwed s v1 v2 (r1 - v4) C) (fun C2 => (bnd (f_X7_owed s v2 v3 C2) (fun r3 => (bnd (f_X7_setOwed s v2 v3 (r3 - v4) C2) (fun C4 => (bnd (f_X7_owed s v3 v1 C4) (fun r5 => (bnd (f_X7_setOwed s v3 v1 (r5 - v4) C4) (fun C6 => (some C6)))))))))))))
theorem cf_X7_clears : CF yX7_clears cX7_clears 5 (Option.none : Option Jvm.ClassFile.FieldType) 4 := ⟨kc_X7_clears, kj_X7, ⟨by decide +kernel, by decide +kernel, by decide +kernel⟩, by decide⟩
theorem cv_X7_clears : CFv yX7_clears := ⟨ki_X7_clears, ks_X7_clears⟩
set_option maxHeartbeats 4000000 in
set_option maxRecDepth 100000 in
theorem c_X7_clears (l : Launch) (G : GT) {s : Nat} (hs : StAt s) (v1 : Int32) (v2 : Int32) (v3 : Int32) (v4 : Int32) (C : CM) (O : OM) (C' : CM) (h : f_X7_clears s v1 v2 v3 v4 C = some C') : MV l G yX7_clears cX7_clears 5 (Option.none : Option Jvm.ClassFile.FieldType) (4) [.ref (gB G + s), .int v1, .int v2, .int v3, .int v4] (C, O) (C', O) := by
  unfold MV
  refine met_in RX7 (by decide +kernel) rfl [(0, .ref (gB G + s)), (1, .int v1), (2, .int v2), (3, .int v3), (4, .int v4)] rfl (Nat.le_of_ble_eq_true rfl) ?_
  intro pM eM sM mM aM bM meM cM K hr
  rw [f_X7_clears] at h
  refine go_aload_n K dX7_clears_0 0 rfl rfl ?_
  refine go_iload_n K dX7_clears_1 1 rfl rfl ?_
  refine go_iload_n K dX7_clears_2 2 rfl rfl ?_
  refine go_aload_n K dX7_clears_3 0 rfl rfl ?_
  refine go_iload_n K dX7_clears_4 1 rfl rfl ?_
  refine go_iload_n K dX7_clears_5 2 rfl rfl ?_
  obtain ⟨r1, e1, h⟩ := bnd_e h
  refine go_cVI K (c_X7_owed l G hs _ _ _ _ _ e1) cf_X7_owed cv_X7_owed km_X7_64 (rv_X7 hs) (by decide) rfl rfl (Nat.le_of_ble_eq_true rfl) dX7_clears_6 ?_
  refine go_iload K dX7_clears_9 4 rfl ?_
  refine go_isub K dX7_clears_11 ?_
  obtain ⟨C2, e2, h⟩ := bnd_e h
  refine go_cVV K (c_X7_setOwed l G hs _ _ _ _ _ _ e2) cf_X7_setOwed cv_X7_setOwed km_X7_86 (rv_X7 hs) (by decide) rfl rfl (Nat.le_of_ble_eq_true rfl) dX7_clears_12 ?_
  refine go_aload_n K dX7_clears_15 0 rfl rfl ?_
  refine go_iload_n K dX7_clears_16 2 rfl rfl ?_
  refine go_iload_n K dX7_clears_17 3 rfl rfl ?_
  refine go_aload_n K dX7_clears_18 0 rfl rfl ?_
  refine go_iload_n K dX7_clears_19 2 rfl rfl ?_
  refine go_iload_n K dX7_clears_20 3 rfl rfl ?_
  obtain ⟨r3, e3, h⟩ := bnd_e h
  refine go_cVI K (c_X7_owed l G hs _ _ _ _ _ e3) cf_X7_owed cv_X7_owed km_X7_64 (rv_X7 hs) (by decide) rfl rfl (Nat.le_of_ble_eq_true rfl) dX7_clears_21 ?_
  refine go_iload K dX7_clears_24 4 rfl ?_
  refine go_isub K dX7_clears_26 ?_
  obtain ⟨C4, e4, h⟩ := bnd_e h
  refine go_cVV K (c_X7_setOwed l G hs _ _ _ _ _ _ e4) cf_X7_setOwed cv_X7_setOwed km_X7_86 (rv_X7 hs) (by decide) rfl rfl (Nat.le_of_ble_eq_true rfl) dX7_clears_27 ?_
  refine go_aload_n K dX7_clears_30 0 rfl rfl ?_
  refine go_iload_n K dX7_clears_31 3 rfl rfl ?_
  refine go_iload_n K dX7_clears_32 1 rfl rfl ?_
  refine go_aload_n K dX7_clears_33 0 rfl rfl ?_
  refine go_iload_n K dX7_clears_34 3 rfl rfl ?_
  refine go_iload_n K dX7_clears_35 1 rfl rfl ?_
  obtain ⟨r5, e5, h⟩ := bnd_e h
  refine go_cVI K (c_X7_owed l G hs _ _ _ _ _ e5) cf_X7_owed cv_X7_owed km_X7_64 (rv_X7 hs) (by decide) rfl rfl (Nat.le_of_ble_eq_true rfl) dX7_clears_36 ?_
  refine go_iload K dX7_clears_39 4 rfl ?_
  refine go_isub K dX7_clears_41 ?_
  obtain ⟨C6, e6, h⟩ := bnd_e h
  refine go_cVV K (c_X7_setOwed l G hs _ _ _ _ _ _ e6) cf_X7_setOwed cv_X7_setOwed km_X7_86 (rv_X7 hs) (by decide) rfl rfl (Nat.le_of_ble_eq_true rfl) dX7_clears_42 ?_
  exact go_vret K hr (congrArg (fun z => (z, O)) (Option.some.inj h)) dX7_clears_45
noncomputable def f_X7_hoursToCome (s : Nat) (C : CM) : Int32 := ((((((9999 : Int32) - (C s 1)) * (10 : Int32)) + (10 : Int32)) - (1 : Int32)) - (C s 2))
theorem cf_X7_hoursToCome : CF yX7_hoursToCome cX7_hoursToCome 1 (Option.some Jvm.ClassFile.FieldType.int) 0 := ⟨kc_X7_hoursToCome, kj_X7, ⟨by decide +kernel, by decide +kernel, by decide +kernel⟩, by decide⟩
theorem cv_X7_hoursToCome : CFv yX7_hoursToCome := ⟨ki_X7_hoursToCome, ks_X7_hoursToCome⟩
set_option maxHeartbeats 4000000 in
set_option maxRecDepth 100000 in
theorem c_X7_hoursToCome (l : Launch) (G : GT) {s : Nat} (hs : StAt s) (C : CM) (O : OM) (res : Int32) (h : f_X7_hoursToCome s C = res) : MI l G yX7_hoursToCome cX7_hoursToCome 1 (Option.some Jvm.ClassFile.FieldType.int) (1) [.ref (gB G + s)] (C, O) res (C, O) := by
  unfold MI
  refine met_in RX7 (by decide +kernel) rfl [(0, .ref (gB G + s))] rfl (Nat.le_of_ble_eq_true rfl) ?_
  intro pM eM sM mM aM bM meM cM K hr
  rw [f_X7_hoursToCome] at h
  refine go_sipush (v := (9999 : Int32)) K dX7_hoursToCome_0 (by decide) ?_
  refine go_aload_n K dX7_hoursToCome_3 0 rfl rfl ?_
  refine gf_X7 K hs 1 (by decide) kf_X7_34 (v := .int (C s 1)) rfl dX7_hoursToCome_4 ?_
  refine go_isub K dX7_hoursToCome_7 ?_
  refine go_bipush (v := (10 : Int32)) K dX7_hoursToCome_8 (by decide) ?_
  refine go_imul K dX7_hoursToCome_10 ?_
  refine go_bipush (v := (10 : Int32)) K dX7_hoursToCome_11 (by decide) ?_
  refine go_iadd K dX7_hoursToCome_13 ?_
  refine go_iconst (v := (1 : Int32)) K dX7_hoursToCome_14 (by decide) ?_
  refine go_isub K dX7_hoursToCome_15 ?_
  refine go_aload_n K dX7_hoursToCome_16 0 rfl rfl ?_
  refine gf_X7 K hs 2 (by decide) kf_X7_37 (v := .int (C s 2)) rfl dX7_hoursToCome_17 ?_
  refine go_isub K dX7_hoursToCome_20 ?_
  exact go_iret K hr h rfl dX7_hoursToCome_21
noncomputable def f_X7_sleeps (s : Nat) (v1 : Int32) (v2 : Int32) (C : CM) : Option CM := (if (f_X7_has s v1 C) = 0 then (some C) else (gd (inb v1 7) (gd (inb v1 7) (gd (inb v1 7) (some (up2 (up2 C (s + 1) v1.toNatClampNeg v2) (s + 3) v1.toNatClampNeg (f_J9_max_7cf53 (0 : Int32) (((up2 C (s + 1) v1.toNatClampNeg v2) (s + 3) v1.toNatClampNeg) - (1 : Int32)))))))))
theorem cf_X7_sleeps : CF yX7_sleeps cX7_sleeps 3 (Option.none : Option Jvm.ClassFile.FieldType) 2 := ⟨kc_X7_sleeps, kj_X7, ⟨by decide +kernel, by decide +kernel, by decide +kernel⟩, by decide⟩
theorem cv_X7_sleeps : CFv yX7_sleeps := ⟨ki_X7_sleeps, ks_X7_sleeps⟩
set_option maxHeartbeats 4000000 in
set_option maxRecDepth 100000 in
theorem c_X7_sleeps (l : Launch) (G : GT) {s : Nat} (hs : StAt s) (v1 : Int32) (v2 : Int32) (C : CM) (O : OM) (C' : CM) (h : f_X7_sleeps s v1 v2 C = some C') : MV l G yX7_sleeps cX7_sleeps 3 (Option.none : Option Jvm.ClassFile.FieldType) (2) [.ref (gB G + s), .int v1, .int v2] (C, O) (C', O) := by
  unfold MV
  refine met_in RX7 (by decide +kernel) rfl [(0, .ref (gB G + s)), (1, .int v1), (2, .int v2)] rfl (Nat.le_of_ble_eq_true rfl) ?_
  intro pM eM sM mM aM bM meM cM K hr
  rw [f_X7_sleeps] at h
  refine go_aload_n K dX7_sleeps_0 0 rfl rfl ?_
  refine go_iload_n K dX7_sleeps_1 1 rfl rfl ?_
  refine go_cVI K (c_X7_has l G hs _ _ _ _ rfl) cf_X7_has cv_X7_has km_X7_49 (rv_X7 hs) (by decide) rfl rfl (Nat.le_of_ble_eq_true rfl) dX7_sleeps_2 ?_
  refine go_if_eq (tgt := 33) K dX7_sleeps_5 (by decide) (fun c1 => ?_) (fun c1 => ?_)
  · replace h := ite_t h c1
    exact go_vret K hr (congrArg (fun z => (z, O)) (Option.some.inj h)) dX7_sleeps_33
  replace h := ite_f h c1
  refine go_aload_n K dX7_sleeps_8 0 rfl rfl ?_
  refine gf_X7 K hs 5 (by decide) kf_X7_15 (v := .ref (gB G + (s + 1))) rfl dX7_sleeps_9 ?_
  refine go_iload_n K dX7_sleeps_12 1 rfl rfl ?_
  refine go_iload_n K dX7_sleeps_13 2 rfl rfl ?_
  obtain ⟨g2, h⟩ := gd_e h
  refine go_cast K (st_lt hs 1 (by decide)) (hs.2.2.1) g2 rfl dX7_sleeps_14 ?_
  refine go_aload_n K dX7_sleeps_15 0 rfl rfl ?_
  refine gf_X7 K hs 7 (by decide) kf_X7_22 (v := .ref (gB G + (s + 3))) rfl dX7_sleeps_16 ?_
  refine go_iload_n K dX7_sleeps_19 1 rfl rfl ?_
  refine go_iconst (v := (0 : Int32)) K dX7_sleeps_20 (by decide) ?_
  refine go_aload_n K dX7_sleeps_21 0 rfl rfl ?_
  refine gf_X7 K hs 7 (by decide) kf_X7_22 (v := .ref (gB G + (s + 3))) rfl dX7_sleeps_22 ?_
  refine go_iload_n K dX7_sleeps_25 1 rfl rfl ?_
  obtain ⟨g3, h⟩ := gd_e h
  refine go_cald K (st_lt hs 3 (by decide)) (hs.2.2.2.2.1) g3 rfl dX7_sleeps_26 ?_
  refine go_iconst (v := (1 : Int32)) K dX7_sleeps_27 (by decide) ?_
  refine go_isub K dX7_sleeps_28 ?_
  refine go_cSI K (c_J9_max_7cf53 l G _ _ _ _ rfl) cf_J9_max_7cf53 kt_J9_max_7cf53 km_X7_96 (by decide) rfl rfl (Nat.le_of_ble_eq_true rfl) dX7_sleeps_29 ?_
  obtain ⟨g4, h⟩ := gd_e h
  refine go_cast K (st_lt hs 3 (by decide)) (hs.2.2.2.2.1) g4 rfl dX7_sleeps_32 ?_
  exact go_vret K hr (congrArg (fun z => (z, O)) (Option.some.inj h)) dX7_sleeps_33
noncomputable def X7_write_j35 (s : Nat) (v1 : Int32) (v2 : Int32) (C : CM) : Option CM := (if ((C s 4) * (3 : Int32)) < (0 : Int32) then (some C) else (if (90 : Int32) ≤ (((C s 4) * (3 : Int32)) + (2 : Int32)) then (some C) else (gd (inb ((C s 4) * (3 : Int32)) 90) (gd (inb (((C s 4) * (3 : Int32)) + (1 : Int32)) 90) (gd (inb (((C s 4) * (3 : Int32)) + (2 : Int32)) 90) (some (up2 (up2 (up2 (up2 C (s + 5) ((C s 4) * (3 : Int32)).toNatClampNeg (C s 1)) (s + 5) (((C s 4) * (3 : Int32)) + (1 : Int32)).toNatClampNeg v1) (s + 5) (((C s 4) * (3 : Int32)) + (2 : Int32)).toNatClampNeg v2) s 4 (((up2 (up2 (up2 C (s + 5) ((C s 4) * (3 : Int32)).toNatClampNeg (C s 1)) (s + 5) (((C s 4) * (3 : Int32)) + (1 : Int32)).toNatClampNeg v1) (s + 5) (((C s 4) * (3 : Int32)) + (2 : Int32)).toNatClampNeg v2) s 4) + (1 : Int32)))))))))
noncomputable def f_X7_write (s : Nat) (v1 : Int32) (v2 : Int32) (C : CM) : Option CM := (if (C s 4) < (30 : Int32) then (X7_write_j35 s v1 v2 C) else (X7_write_j35 s v1 v2 (up2 (rowC C (s + 5) (va_cpy (C (s + 5)) (C (s + 5)) 3 0 87)) s 4 (29 : Int32))))
theorem cf_X7_write : CF yX7_write cX7_write 4 (Option.none : Option Jvm.ClassFile.FieldType) 2 := ⟨kc_X7_write, kj_X7, ⟨by decide +kernel, by decide +kernel, by decide +kernel⟩, by decide⟩
theorem cv_X7_write : CFv yX7_write := ⟨ki_X7_write, ks_X7_write⟩
set_option maxHeartbeats 4000000 in
set_option maxRecDepth 100000 in
theorem c_X7_write (l : Launch) (G : GT) {s : Nat} (hs : StAt s) (v1 : Int32) (v2 : Int32) (C : CM) (O : OM) (C' : CM) (h : f_X7_write s v1 v2 C = some C') : MV l G yX7_write cX7_write 4 (Option.none : Option Jvm.ClassFile.FieldType) (1) [.ref (gB G + s), .int v1, .int v2] (C, O) (C', O) := by
  unfold MV
  refine met_in RX7 (by decide +kernel) rfl [(0, .ref (gB G + s)), (1, .int v1), (2, .int v2)] rfl (Nat.le_of_ble_eq_true rfl) ?_
  intro pM eM sM mM aM bM meM cM K hr
  have hj35 : ∀ (v1 : Int32) (v2 : Int32) (C : CM), X7_write_j35 s v1 v2 C = some C' → GO pM l eM (1) sM mM aM bM meM cM (MQ bM (va_Qv (fun (u : CM × OM) => u = (C', O)) (wB G) (Fr G)) aM sM 0 0 (Fr G)) G 4 (C, O) 35 [(0, .ref (gB G + s)), (1, .int v1), (2, .int v2)] [] := by
    intro v1 v2 C h
    rw [X7_write_j35] at h
    refine go_aload_n K dX7_write_35 0 rfl rfl ?_
    refine gf_X7 K hs 4 (by decide) kf_X7_40 (v := .int (C s 4)) rfl dX7_write_36 ?_
    refine go_iconst (v := (3 : Int32)) K dX7_write_39 (by decide) ?_
    refine go_imul K dX7_write_40 ?_
    refine go_istore_n K dX7_write_41 rfl (by decide) (lv' := [(3, .int ((C s 4) * (3 : Int32))), (0, .ref (gB G + s)), (1, .int v1), (2, .int v2)]) rfl ?_
    refine go_iconst (v := (0 : Int32)) K dX7_write_42 (by decide) ?_
    refine go_iload_n K dX7_write_43 0 rfl rfl ?_
    refine go_icmp_gt (tgt := 96) K dX7_write_44 (by decide) (fun c2 => ?_) (fun c2 => ?_)
    · replace h := ite_t h c2
      exact go_vret K hr (congrArg (fun z => (z, O)) (Option.some.inj h)) dX7_write_96
    replace h := ite_f h c2
    refine go_iload_n K dX7_write_47 0 rfl rfl ?_
    refine go_iconst (v := (2 : Int32)) K dX7_write_48 (by decide) ?_
    refine go_iadd K dX7_write_49 ?_
    refine go_aload_n K dX7_write_50 1 rfl rfl ?_
    refine gf_X7 K hs 9 (by decide) kf_X7_28 (v := .ref (gB G + (s + 5))) rfl dX7_write_51 ?_
    refine go_clen K (st_lt hs 5 (by decide)) (hs.2.2.2.2.2.2) (v := (90 : Int32)) rfl dX7_write_54 ?_
    refine go_icmp_ge (tgt := 96) K dX7_write_55 (by decide) (fun c3 => ?_) (fun c3 => ?_)
    · replace h := ite_t h c3
      exact go_vret K hr (congrArg (fun z => (z, O)) (Option.some.inj h)) dX7_write_96
    replace h := ite_f h c3
    refine go_aload_n K dX7_write_58 1 rfl rfl ?_
    refine gf_X7 K hs 9 (by decide) kf_X7_28 (v := .ref (gB G + (s + 5))) rfl dX7_write_59 ?_
    refine go_iload_n K dX7_write_62 0 rfl rfl ?_
    refine go_aload_n K dX7_write_63 1 rfl rfl ?_
    refine gf_X7 K hs 1 (by decide) kf_X7_34 (v := .int (C s 1)) rfl dX7_write_64 ?_
    obtain ⟨g4, h⟩ := gd_e h
    refine go_cast K (st_lt hs 5 (by decide)) (hs.2.2.2.2.2.2) g4 rfl dX7_write_67 ?_
    refine go_aload_n K dX7_write_68 1 rfl rfl ?_
    refine gf_X7 K hs 9 (by decide) kf_X7_28 (v := .ref (gB G + (s + 5))) rfl dX7_write_69 ?_
    refine go_iload_n K dX7_write_72 0 rfl rfl ?_
    refine go_iconst (v := (1 : Int32)) K dX7_write_73 (by decide) ?_
    refine go_iadd K dX7_write_74 ?_
    refine go_iload_n K dX7_write_75 2 rfl rfl ?_
    obtain ⟨g5, h⟩ := gd_e h
    refine go_cast K (st_lt hs 5 (by decide)) (hs.2.2.2.2.2.2) g5 rfl dX7_write_76 ?_
    refine go_aload_n K dX7_write_77 1 rfl rfl ?_
    refine gf_X7 K hs 9 (by decide) kf_X7_28 (v := .ref (gB G + (s + 5))) rfl dX7_write_78 ?_
    refine go_iload_n K dX7_write_81 0 rfl rfl ?_
    refine go_iconst (v := (2 : Int32)) K dX7_write_82 (by decide) ?_
    refine go_iadd K dX7_write_83 ?_
    refine go_iload_n K dX7_write_84 3 rfl rfl ?_
    obtain ⟨g6, h⟩ := gd_e h
    refine go_cast K (st_lt hs 5 (by decide)) (hs.2.2.2.2.2.2) g6 rfl dX7_write_85 ?_
    refine go_aload_n K dX7_write_86 1 rfl rfl ?_
    refine go_dup K dX7_write_87 rfl ?_
    refine gf_X7 K hs 4 (by decide) kf_X7_40 (v := .int ((up2 (up2 (up2 C (s + 5) ((C s 4) * (3 : Int32)).toNatClampNeg (C s 1)) (s + 5) (((C s 4) * (3 : Int32)) + (1 : Int32)).toNatClampNeg v1) (s + 5) (((C s 4) * (3 : Int32)) + (2 : Int32)).toNatClampNeg v2) s 4)) rfl dX7_write_88 ?_
    refine go_iconst (v := (1 : Int32)) K dX7_write_91 (by decide) ?_
    refine go_iadd K dX7_write_92 ?_
    refine pf_X7 K hs 4 (by decide) kf_X7_40 rfl rfl rfl dX7_write_93 ?_
    exact go_vret K hr (congrArg (fun z => (z, O)) (Option.some.inj h)) dX7_write_96
  rw [f_X7_write] at h
  refine go_aload_n K dX7_write_0 0 rfl rfl ?_
  refine gf_X7 K hs 4 (by decide) kf_X7_40 (v := .int (C s 4)) rfl dX7_write_1 ?_
  refine go_bipush (v := (30 : Int32)) K dX7_write_4 (by decide) ?_
  refine go_icmp_lt (tgt := 35) K dX7_write_6 (by decide) (fun c1 => ?_) (fun c1 => ?_)
  · replace h := ite_t h c1
    exact hj35 _ _ _ h
  replace h := ite_f h c1
  refine go_aload_n K dX7_write_9 0 rfl rfl ?_
  refine gf_X7 K hs 9 (by decide) kf_X7_28 (v := .ref (gB G + (s + 5))) rfl dX7_write_10 ?_
  refine go_iconst (v := (3 : Int32)) K dX7_write_13 (by decide) ?_
  refine go_aload_n K dX7_write_14 0 rfl rfl ?_
  refine gf_X7 K hs 9 (by decide) kf_X7_28 (v := .ref (gB G + (s + 5))) rfl dX7_write_15 ?_
  refine go_iconst (v := (0 : Int32)) K dX7_write_18 (by decide) ?_
  refine go_aload_n K dX7_write_19 0 rfl rfl ?_
  refine gf_X7 K hs 9 (by decide) kf_X7_28 (v := .ref (gB G + (s + 5))) rfl dX7_write_20 ?_
  refine go_clen K (st_lt hs 5 (by decide)) (hs.2.2.2.2.2.2) (v := (90 : Int32)) rfl dX7_write_23 ?_
  refine go_iconst (v := (3 : Int32)) K dX7_write_24 (by decide) ?_
  refine go_isub K dX7_write_25 ?_
  refine go_fold (y := (87 : Int32)) (by decide) ?_
  refine go_copy K (st_lt hs 5 (by decide)) (hs.2.2.2.2.2.2) (st_lt hs 5 (by decide)) (hs.2.2.2.2.2.2) (sp := (3 : Int32)) (dp := (0 : Int32)) (n := (87 : Int32)) (by decide) (by decide) (by decide) (sp' := 3) (dp' := 0) (n' := 87) (by decide) (by decide) (by decide) (by decide) (by decide) km_X7_43 (Nat.succ_pos _) (Nat.le_of_ble_eq_true rfl) dX7_write_26 ?_
  refine go_aload_n K dX7_write_29 0 rfl rfl ?_
  refine go_bipush (v := (29 : Int32)) K dX7_write_30 (by decide) ?_
  refine pf_X7 K hs 4 (by decide) kf_X7_40 rfl rfl rfl dX7_write_32 ?_
  exact hj35 _ _ _ h
noncomputable def X7_ruins_l27 (s : Nat) : Nat → Int32 → Int32 → CM → Option CM
  | 0, _, _, _ => none
  | n + 1, v1, v2, C => (if (C s 0) ≤ v2 then (some C) else (bnd (f_X7_setOwed s v1 v2 (0 : Int32) C) (fun C6 => (X7_ruins_l27 s n v1 (v2 + (1 : Int32)) C6))))
noncomputable def f_X7_ruins (s : Nat) (v1 : Int32) (C : CM) : Option CM := (if (f_X7_has s v1 C) = 0 then (some C) else (bnd (f_X7_owesTogether s v1 C) (fun r2 => (bnd (f_X7_write s v1 r2 C) (fun C3 => (gd (inb v1 7) (X7_ruins_l27 s FU v1 (0 : Int32) (up2 C3 (s + 3) v1.toNatClampNeg (3 : Int32)))))))))
theorem cf_X7_ruins : CF yX7_ruins cX7_ruins 3 (Option.none : Option Jvm.ClassFile.FieldType) 1 := ⟨kc_X7_ruins, kj_X7, ⟨by decide +kernel, by decide +kernel, by decide +kernel⟩, by decide⟩
theorem cv_X7_ruins : CFv yX7_ruins := ⟨ki_X7_ruins, ks_X7_ruins⟩
set_option maxHeartbeats 4000000 in
set_option maxRecDepth 100000 in
theorem c_X7_ruins (l : Launch) (G : GT) {s : Nat} (hs : StAt s) (v1 : Int32) (C : CM) (O : OM) (C' : CM) (h : f_X7_ruins s v1 C = some C') : MV l G yX7_ruins cX7_ruins 3 (Option.none : Option Jvm.ClassFile.FieldType) (4) [.ref (gB G + s), .int v1] (C, O) (C', O) := by
  unfold MV
  refine met_in RX7 (by decide +kernel) rfl [(0, .ref (gB G + s)), (1, .int v1)] rfl (Nat.le_of_ble_eq_true rfl) ?_
  intro pM eM sM mM aM bM meM cM K hr
  have hl27 : ∀ (n27 : Nat) (v1 : Int32) (v2 : Int32) (C : CM), X7_ruins_l27 s n27 v1 v2 C = some C' → GO pM l eM (4) sM mM aM bM meM cM (MQ bM (va_Qv (fun (u : CM × OM) => u = (C', O)) (wB G) (Fr G)) aM sM 0 0 (Fr G)) G 3 (C, O) 27 [(0, .ref (gB G + s)), (1, .int v1), (2, .int v2)] [] := by
    intro n27
    induction n27 with
    | zero =>
      intro v1 v2 C h
      rw [X7_ruins_l27] at h
      cases h
    | succ n27 ih27 =>
      intro v1 v2 C h
      rw [X7_ruins_l27] at h
      refine go_iload_n K dX7_ruins_27 2 rfl rfl ?_
      refine go_aload_n K dX7_ruins_28 0 rfl rfl ?_
      refine gf_X7 K hs 0 (by decide) kf_X7_31 (v := .int (C s 0)) rfl dX7_ruins_29 ?_
      refine go_icmp_ge (tgt := 48) K dX7_ruins_32 (by decide) (fun c5 => ?_) (fun c5 => ?_)
      · replace h := ite_t h c5
        exact go_vret K hr (congrArg (fun z => (z, O)) (Option.some.inj h)) dX7_ruins_48
      replace h := ite_f h c5
      refine go_aload_n K dX7_ruins_35 0 rfl rfl ?_
      refine go_iload_n K dX7_ruins_36 1 rfl rfl ?_
      refine go_iload_n K dX7_ruins_37 2 rfl rfl ?_
      refine go_iconst (v := (0 : Int32)) K dX7_ruins_38 (by decide) ?_
      obtain ⟨C6, e6, h⟩ := bnd_e h
      refine go_cVV K (c_X7_setOwed l G hs _ _ _ _ _ _ e6) cf_X7_setOwed cv_X7_setOwed km_X7_86 (rv_X7 hs) (by decide) rfl rfl (Nat.le_of_ble_eq_true rfl) dX7_ruins_39 ?_
      refine go_iinc K dX7_ruins_42 2 rfl (v := (v2 + (1 : Int32))) rfl (by decide) (lv' := [(2, .int (v2 + (1 : Int32))), (0, .ref (gB G + s)), (1, .int v1)]) rfl ?_
      refine go_goto (tgt := 27) K dX7_ruins_45 (by decide) ?_
      exact go_sub [1, 2, 0] rfl (ih27 _ _ _ h)
  rw [f_X7_ruins] at h
  refine go_aload_n K dX7_ruins_0 0 rfl rfl ?_
  refine go_iload_n K dX7_ruins_1 1 rfl rfl ?_
  refine go_cVI K (c_X7_has l G hs _ _ _ _ rfl) cf_X7_has cv_X7_has km_X7_49 (rv_X7 hs) (by decide) rfl rfl (Nat.le_of_ble_eq_true rfl) dX7_ruins_2 ?_
  refine go_if_eq (tgt := 48) K dX7_ruins_5 (by decide) (fun c1 => ?_) (fun c1 => ?_)
  · replace h := ite_t h c1
    exact go_vret K hr (congrArg (fun z => (z, O)) (Option.some.inj h)) dX7_ruins_48
  replace h := ite_f h c1
  refine go_aload_n K dX7_ruins_8 0 rfl rfl ?_
  refine go_iload_n K dX7_ruins_9 1 rfl rfl ?_
  refine go_aload_n K dX7_ruins_10 0 rfl rfl ?_
  refine go_iload_n K dX7_ruins_11 1 rfl rfl ?_
  obtain ⟨r2, e2, h⟩ := bnd_e h
  refine go_cVI K (c_X7_owesTogether l G hs _ _ _ _ e2) cf_X7_owesTogether cv_X7_owesTogether km_X7_99 (rv_X7 hs) (by decide) rfl rfl (Nat.le_of_ble_eq_true rfl) dX7_ruins_12 ?_
  obtain ⟨C3, e3, h⟩ := bnd_e h
  refine go_cVV K (c_X7_write l G hs _ _ _ _ _ e3) cf_X7_write cv_X7_write km_X7_102 (rv_X7 hs) (by decide) rfl rfl (Nat.le_of_ble_eq_true rfl) dX7_ruins_15 ?_
  refine go_aload_n K dX7_ruins_18 0 rfl rfl ?_
  refine gf_X7 K hs 7 (by decide) kf_X7_22 (v := .ref (gB G + (s + 3))) rfl dX7_ruins_19 ?_
  refine go_iload_n K dX7_ruins_22 1 rfl rfl ?_
  refine go_iconst (v := (3 : Int32)) K dX7_ruins_23 (by decide) ?_
  obtain ⟨g4, h⟩ := gd_e h
  refine go_cast K (st_lt hs 3 (by decide)) (hs.2.2.2.2.1) g4 rfl dX7_ruins_24 ?_
  refine go_iconst (v := (0 : Int32)) K dX7_ruins_25 (by decide) ?_
  refine go_istore_n K dX7_ruins_26 rfl (by decide) (lv' := [(2, .int (0 : Int32)), (0, .ref (gB G + s)), (1, .int v1)]) rfl ?_
  exact go_sub [1, 2, 0] rfl (hl27 FU _ _ _ h)
noncomputable def f_X7_booked (s : Nat) (v1 : Int32) (v2 : Int32) (C : CM) : Option Int32 := (if (f_X11_within v1 (0 : Int32) ((f_J9_min_7cf53 (C s 4) (30 : Int32)) - (1 : Int32))) = 0 then (some (-1 : Int32)) else (if (f_X11_within v2 (0 : Int32) (2 : Int32)) = 0 then (some (-1 : Int32)) else (gd (inb ((v1 * (3 : Int32)) + v2) 90) (some (C (s + 5) ((v1 * (3 : Int32)) + v2).toNatClampNeg)))))
theorem cf_X7_booked : CF yX7_booked cX7_booked 4 (Option.some Jvm.ClassFile.FieldType.int) 2 := ⟨kc_X7_booked, kj_X7, ⟨by decide +kernel, by decide +kernel, by decide +kernel⟩, by decide⟩
theorem cv_X7_booked : CFv yX7_booked := ⟨ki_X7_booked, ks_X7_booked⟩
set_option maxHeartbeats 4000000 in
set_option maxRecDepth 100000 in
theorem c_X7_booked (l : Launch) (G : GT) {s : Nat} (hs : StAt s) (v1 : Int32) (v2 : Int32) (C : CM) (O : OM) (res : Int32) (h : f_X7_booked s v1 v2 C = some res) : MI l G yX7_booked cX7_booked 4 (Option.some Jvm.ClassFile.FieldType.int) (2) [.ref (gB G + s), .int v1, .int v2] (C, O) res (C, O) := by
  unfold MI
  refine met_in RX7 (by decide +kernel) rfl [(0, .ref (gB G + s)), (1, .int v1), (2, .int v2)] rfl (Nat.le_of_ble_eq_true rfl) ?_
  intro pM eM sM mM aM bM meM cM K hr
  rw [f_X7_booked] at h
  refine go_iload_n K dX7_booked_0 1 rfl rfl ?_
  refine go_iconst (v := (0 : Int32)) K dX7_booked_1 (by decide) ?_
  refine go_aload_n K dX7_booked_2 0 rfl rfl ?_
  refine gf_X7 K hs 4 (by decide) kf_X7_40 (v := .int (C s 4)) rfl dX7_booked_3 ?_
  refine go_bipush (v := (30 : Int32)) K dX7_booked_6 (by decide) ?_
  refine go_cSI K (c_J9_min_7cf53 l G _ _ _ _ rfl) cf_J9_min_7cf53 kt_J9_min_7cf53 km_X7_93 (by decide) rfl rfl (Nat.le_of_ble_eq_true rfl) dX7_booked_8 ?_
  refine go_iconst (v := (1 : Int32)) K dX7_booked_11 (by decide) ?_
  refine go_isub K dX7_booked_12 ?_
  refine go_cNI K (c_X11_within l G _ _ _ _ _ _ rfl) cf_X11_within kt_X11_within (List.mem_of_getElem? (i := 10) rfl) (by decide) rfl rfl (Nat.le_of_ble_eq_true rfl) dX7_booked_13 ?_
  refine go_istore_n K dX7_booked_16 rfl (by decide) (lv' := [(3, .int (f_X11_within v1 (0 : Int32) ((f_J9_min_7cf53 (C s 4) (30 : Int32)) - (1 : Int32)))), (0, .ref (gB G + s)), (1, .int v1), (2, .int v2)]) rfl ?_
  refine go_iload_n K dX7_booked_17 0 rfl rfl ?_
  refine go_if_eq (tgt := 43) K dX7_booked_18 (by decide) (fun c1 => ?_) (fun c1 => ?_)
  · replace h := ite_t h c1
    refine go_iconst (v := (-1 : Int32)) K dX7_booked_43 (by decide) ?_
    exact go_iret K hr (Option.some.inj h) rfl dX7_booked_44
  replace h := ite_f h c1
  refine go_iload_n K dX7_booked_21 3 rfl rfl ?_
  refine go_iconst (v := (0 : Int32)) K dX7_booked_22 (by decide) ?_
  refine go_iconst (v := (2 : Int32)) K dX7_booked_23 (by decide) ?_
  refine go_cNI K (c_X11_within l G _ _ _ _ _ _ rfl) cf_X11_within kt_X11_within (List.mem_of_getElem? (i := 10) rfl) (by decide) rfl rfl (Nat.le_of_ble_eq_true rfl) dX7_booked_24 ?_
  refine go_if_eq (tgt := 43) K dX7_booked_27 (by decide) (fun c2 => ?_) (fun c2 => ?_)
  · replace h := ite_t h c2
    refine go_iconst (v := (-1 : Int32)) K dX7_booked_43 (by decide) ?_
    exact go_iret K hr (Option.some.inj h) rfl dX7_booked_44
  replace h := ite_f h c2
  refine go_aload_n K dX7_booked_30 1 rfl rfl ?_
  refine gf_X7 K hs 9 (by decide) kf_X7_28 (v := .ref (gB G + (s + 5))) rfl dX7_booked_31 ?_
  refine go_iload_n K dX7_booked_34 2 rfl rfl ?_
  refine go_iconst (v := (3 : Int32)) K dX7_booked_35 (by decide) ?_
  refine go_imul K dX7_booked_36 ?_
  refine go_iload_n K dX7_booked_37 3 rfl rfl ?_
  refine go_iadd K dX7_booked_38 ?_
  obtain ⟨g3, h⟩ := gd_e h
  refine go_cald K (st_lt hs 5 (by decide)) (hs.2.2.2.2.2.2) g3 rfl dX7_booked_39 ?_
  refine go_goto (tgt := 44) K dX7_booked_40 (by decide) ?_
  exact go_iret K hr (Option.some.inj h) rfl dX7_booked_44
noncomputable def X7_draw_j14 (s : Nat) (t0 : Int32) (C : CM) : Option (Int32 × CM) := (some (t0, (up2 C s 3 (irm (((C s 3) * (299 : Int32)) + (199 : Int32)) (30323 : Int32)))))
noncomputable def f_X7_draw (s : Nat) (v1 : Int32) (C : CM) : Option (Int32 × CM) := (if v1 ≤ 0 then (X7_draw_j14 s (0 : Int32) C) else (gd (¬ v1 = 0) (X7_draw_j14 s (irm (C s 3) v1) C)))
theorem cf_X7_draw : CF yX7_draw cX7_draw 3 (Option.some Jvm.ClassFile.FieldType.int) 1 := ⟨kc_X7_draw, kj_X7, ⟨by decide +kernel, by decide +kernel, by decide +kernel⟩, by decide⟩
theorem cv_X7_draw : CFv yX7_draw := ⟨ki_X7_draw, ks_X7_draw⟩
set_option maxHeartbeats 4000000 in
set_option maxRecDepth 100000 in
theorem c_X7_draw (l : Launch) (G : GT) {s : Nat} (hs : StAt s) (v1 : Int32) (C : CM) (O : OM) (res : Int32) (C' : CM) (h : f_X7_draw s v1 C = some (res, C')) : MI l G yX7_draw cX7_draw 3 (Option.some Jvm.ClassFile.FieldType.int) (1) [.ref (gB G + s), .int v1] (C, O) res (C', O) := by
  unfold MI
  refine met_in RX7 (by decide +kernel) rfl [(0, .ref (gB G + s)), (1, .int v1)] rfl (Nat.le_of_ble_eq_true rfl) ?_
  intro pM eM sM mM aM bM meM cM K hr
  have hj14 : ∀ (t0 : Int32) (C : CM), X7_draw_j14 s t0 C = some (res, C') → GO pM l eM (1) sM mM aM bM meM cM (MQ bM (va_Qi (fun (r' : Int32) (u : CM × OM) => r' = res ∧ u = (C', O)) (wB G) (Fr G)) aM sM 0 0 (Fr G)) G 3 (C, O) 14 [(0, .ref (gB G + s))] [.int t0] := by
    intro t0 C h
    rw [X7_draw_j14] at h
    refine go_istore_n K dX7_draw_14 rfl (by decide) (lv' := [(2, .int t0), (0, .ref (gB G + s))]) rfl ?_
    refine go_aload_n K dX7_draw_15 1 rfl rfl ?_
    refine go_aload_n K dX7_draw_16 1 rfl rfl ?_
    refine gf_X7 K hs 3 (by decide) kf_X7_9 (v := .int (C s 3)) rfl dX7_draw_17 ?_
    refine go_sipush (v := (299 : Int32)) K dX7_draw_20 (by decide) ?_
    refine go_imul K dX7_draw_23 ?_
    refine go_sipush (v := (199 : Int32)) K dX7_draw_24 (by decide) ?_
    refine go_iadd K dX7_draw_27 ?_
    refine go_sipush (v := (30323 : Int32)) K dX7_draw_28 (by decide) ?_
    refine go_irem K dX7_draw_31 (by decide) ?_
    refine go_fold (y := (irm (((C s 3) * (299 : Int32)) + (199 : Int32)) (30323 : Int32))) rfl ?_
    refine pf_X7 K hs 3 (by decide) kf_X7_9 rfl rfl rfl dX7_draw_32 ?_
    refine go_iload_n K dX7_draw_35 0 rfl rfl ?_
    exact go_iret K hr (Prod.mk.inj (Option.some.inj h)).1 (congrArg (fun z => (z, O)) (Prod.mk.inj (Option.some.inj h)).2) dX7_draw_36
  rw [f_X7_draw] at h
  refine go_iload_n K dX7_draw_0 1 rfl rfl ?_
  refine go_if_le (tgt := 13) K dX7_draw_1 (by decide) (fun c1 => ?_) (fun c1 => ?_)
  · replace h := ite_t h c1
    refine go_iconst (v := (0 : Int32)) K dX7_draw_13 (by decide) ?_
    exact go_sub [0] rfl (hj14 _ _ h)
  replace h := ite_f h c1
  refine go_aload_n K dX7_draw_4 0 rfl rfl ?_
  refine gf_X7 K hs 3 (by decide) kf_X7_9 (v := .int (C s 3)) rfl dX7_draw_5 ?_
  refine go_iload_n K dX7_draw_8 1 rfl rfl ?_
  obtain ⟨g2, h⟩ := gd_e h
  refine go_irem K dX7_draw_9 g2 ?_
  refine go_fold (y := (irm (C s 3) v1)) rfl ?_
  refine go_goto (tgt := 14) K dX7_draw_10 (by decide) ?_
  exact go_sub [0] rfl (hj14 _ _ h)
noncomputable def X6_empty_l12 (s : Nat) : Nat → Int32 → CM → Option CM
  | 0, _, _ => none
  | n + 1, v1, C => (if (4 : Int32) ≤ v1 then (some C) else (gd (inb v1 4) (gd (inb v1 4) (X6_empty_l12 s n (v1 + (1 : Int32)) (up2 (up2 C (s + 2) v1.toNatClampNeg (0 : Int32)) (s + 3) v1.toNatClampNeg (0 : Int32))))))
noncomputable def f_X6_empty (s : Nat) (C : CM) : Option CM := (X6_empty_l12 s FU (0 : Int32) (up2 (up2 C s 5 (0 : Int32)) s 6 (0 : Int32)))
theorem cf_X6_empty : CF yX6_empty cX6_empty 2 (Option.none : Option Jvm.ClassFile.FieldType) 0 := ⟨kc_X6_empty, kj_X6, ⟨by decide +kernel, by decide +kernel, by decide +kernel⟩, by decide⟩
theorem cv_X6_empty : CFv yX6_empty := ⟨ki_X6_empty, ks_X6_empty⟩
set_option maxHeartbeats 4000000 in
set_option maxRecDepth 100000 in
theorem c_X6_empty (l : Launch) (G : GT) {s : Nat} (hs : ScAt s) (C : CM) (O : OM) (C' : CM) (h : f_X6_empty s C = some C') : MV l G yX6_empty cX6_empty 2 (Option.none : Option Jvm.ClassFile.FieldType) (1) [.ref (gB G + s)] (C, O) (C', O) := by
  unfold MV
  refine met_in RX6 (by decide +kernel) rfl [(0, .ref (gB G + s))] rfl (Nat.le_of_ble_eq_true rfl) ?_
  intro pM eM sM mM aM bM meM cM K hr
  have hl12 : ∀ (n12 : Nat) (v1 : Int32) (C : CM), X6_empty_l12 s n12 v1 C = some C' → GO pM l eM (1) sM mM aM bM meM cM (MQ bM (va_Qv (fun (u : CM × OM) => u = (C', O)) (wB G) (Fr G)) aM sM 0 0 (Fr G)) G 2 (C, O) 12 [(0, .ref (gB G + s)), (1, .int v1)] [] := by
    intro n12
    induction n12 with
    | zero =>
      intro v1 C h
      rw [X6_empty_l12] at h
      cases h
    | succ n12 ih12 =>
      intro v1 C h
      rw [X6_empty_l12] at h
      refine go_iload_n K dX6_empty_12 1 rfl rfl ?_
      refine go_iconst (v := (4 : Int32)) K dX6_empty_13 (by decide) ?_
      refine go_icmp_ge (tgt := 37) K dX6_empty_14 (by decide) (fun c1 => ?_) (fun c1 => ?_)
      · replace h := ite_t h c1
        exact go_vret K hr (congrArg (fun z => (z, O)) (Option.some.inj h)) dX6_empty_37
      replace h := ite_f h c1
      refine go_aload_n K dX6_empty_17 0 rfl rfl ?_
      refine gf_X6 K hs 1 (by decide) kf_X6_15 (v := .ref (gB G + (s + 2))) rfl dX6_empty_18 ?_
      refine go_iload_n K dX6_empty_21 1 rfl rfl ?_
      refine go_iconst (v := (0 : Int32)) K dX6_empty_22 (by decide) ?_
      obtain ⟨g2, h⟩ := gd_e h
      refine go_cast K (sc_lt hs 2 (by decide)) (hs.2.2.2.1) g2 rfl dX6_empty_23 ?_
      refine go_aload_n K dX6_empty_24 0 rfl rfl ?_
      refine gf_X6 K hs 2 (by decide) kf_X6_18 (v := .ref (gB G + (s + 3))) rfl dX6_empty_25 ?_
      refine go_iload_n K dX6_empty_28 1 rfl rfl ?_
      refine go_iconst (v := (0 : Int32)) K dX6_empty_29 (by decide) ?_
      obtain ⟨g3, h⟩ := gd_e h
      refine go_cast K (sc_lt hs 3 (by decide)) (hs.2.2.2.2.1) g3 rfl dX6_empty_30 ?_
      refine go_iinc K dX6_empty_31 1 rfl (v := (v1 + (1 : Int32))) rfl (by decide) (lv' := [(1, .int (v1 + (1 : Int32))), (0, .ref (gB G + s))]) rfl ?_
      refine go_goto (tgt := 12) K dX6_empty_34 (by decide) ?_
      exact go_sub [1, 0] rfl (ih12 _ _ h)
  rw [f_X6_empty] at h
  refine go_aload_n K dX6_empty_0 0 rfl rfl ?_
  refine go_iconst (v := (0 : Int32)) K dX6_empty_1 (by decide) ?_
  refine pf_X6 K hs 5 (by decide) kf_X6_27 rfl rfl rfl dX6_empty_2 ?_
  refine go_aload_n K dX6_empty_5 0 rfl rfl ?_
  refine go_iconst (v := (0 : Int32)) K dX6_empty_6 (by decide) ?_
  refine pf_X6 K hs 6 (by decide) kf_X6_31 rfl rfl rfl dX6_empty_7 ?_
  refine go_iconst (v := (0 : Int32)) K dX6_empty_10 (by decide) ?_
  refine go_istore_n K dX6_empty_11 rfl (by decide) (lv' := [(1, .int (0 : Int32)), (0, .ref (gB G + s))]) rfl ?_
  exact go_sub [1, 0] rfl (hl12 FU _ _ h)
noncomputable def f_X6_copyFrom (s t : Nat) (C : CM) : Option CM := (some (rowC (rowC (rowC (rowC (rowC (up2 (up2 C s 5 (C t 5)) s 6 ((up2 C s 5 (C t 5)) t 6)) (s + 1) (va_cpy ((up2 (up2 C s 5 (C t 5)) s 6 ((up2 C s 5 (C t 5)) t 6)) (t + 1)) ((up2 (up2 C s 5 (C t 5)) s 6 ((up2 C s 5 (C t 5)) t 6)) (s + 1)) 0 0 300)) (s + 2) (va_cpy ((rowC (up2 (up2 C s 5 (C t 5)) s 6 ((up2 C s 5 (C t 5)) t 6)) (s + 1) (va_cpy ((up2 (up2 C s 5 (C t 5)) s 6 ((up2 C s 5 (C t 5)) t 6)) (t + 1)) ((up2 (up2 C s 5 (C t 5)) s 6 ((up2 C s 5 (C t 5)) t 6)) (s + 1)) 0 0 300)) (t + 2)) ((rowC (up2 (up2 C s 5 (C t 5)) s 6 ((up2 C s 5 (C t 5)) t 6)) (s + 1) (va_cpy ((up2 (up2 C s 5 (C t 5)) s 6 ((up2 C s 5 (C t 5)) t 6)) (t + 1)) ((up2 (up2 C s 5 (C t 5)) s 6 ((up2 C s 5 (C t 5)) t 6)) (s + 1)) 0 0 300)) (s + 2)) 0 0 4)) (s + 3) (va_cpy ((rowC (rowC (up2 (up2 C s 5 (C t 5)) s 6 ((up2 C s 5 (C t 5)) t 6)) (s + 1) (va_cpy ((up2 (up2 C s 5 (C t 5)) s 6 ((up2 C s 5 (C t 5)) t 6)) (t + 1)) ((up2 (up2 C s 5 (C t 5)) s 6 ((up2 C s 5 (C t 5)) t 6)) (s + 1)) 0 0 300)) (s + 2) (va_cpy ((rowC (up2 (up2 C s 5 (C t 5)) s 6 ((up2 C s 5 (C t 5)) t 6)) (s + 1) (va_cpy ((up2 (up2 C s 5 (C t 5)) s 6 ((up2 C s 5 (C t 5)) t 6)) (t + 1)) ((up2 (up2 C s 5 (C t 5)) s 6 ((up2 C s 5 (C t 5)) t 6)) (s + 1)) 0 0 300)) (t + 2)) ((rowC (up2 (up2 C s 5 (C t 5)) s 6 ((up2 C s 5 (C t 5)) t 6)) (s + 1) (va_cpy ((up2 (up2 C s 5 (C t 5)) s 6 ((up2 C s 5 (C t 5)) t 6)) (t + 1)) ((up2 (up2 C s 5 (C t 5)) s 6 ((up2 C s 5 (C t 5)) t 6)) (s + 1)) 0 0 300)) (s + 2)) 0 0 4)) (t + 3)) ((rowC (rowC (up2 (up2 C s 5 (C t 5)) s 6 ((up2 C s 5 (C t 5)) t 6)) (s + 1) (va_cpy ((up2 (up2 C s 5 (C t 5)) s 6 ((up2 C s 5 (C t 5)) t 6)) (t + 1)) ((up2 (up2 C s 5 (C t 5)) s 6 ((up2 C s 5 (C t 5)) t 6)) (s + 1)) 0 0 300)) (s + 2) (va_cpy ((rowC (up2 (up2 C s 5 (C t 5)) s 6 ((up2 C s 5 (C t 5)) t 6)) (s + 1) (va_cpy ((up2 (up2 C s 5 (C t 5)) s 6 ((up2 C s 5 (C t 5)) t 6)) (t + 1)) ((up2 (up2 C s 5 (C t 5)) s 6 ((up2 C s 5 (C t 5)) t 6)) (s + 1)) 0 0 300)) (t + 2)) ((rowC (up2 (up2 C s 5 (C t 5)) s 6 ((up2 C s 5 (C t 5)) t 6)) (s + 1) (va_cpy ((up2 (up2 C s 5 (C t 5)) s 6 ((up2 C s 5 (C t 5)) t 6)) (t + 1)) ((up2 (up2 C s 5 (C t 5)) s 6 ((up2 C s 5 (C t 5)) t 6)) (s + 1)) 0 0 300)) (s + 2)) 0 0 4)) (s + 3)) 0 0 4)) (s + 4) (va_cpy ((rowC (rowC (rowC (up2 (up2 C s 5 (C t 5)) s 6 ((up2 C s 5 (C t 5)) t 6)) (s + 1) (va_cpy ((up2 (up2 C s 5 (C t 5)) s 6 ((up2 C s 5 (C t 5)) t 6)) (t + 1)) ((up2 (up2 C s 5 (C t 5)) s 6 ((up2 C s 5 (C t 5)) t 6)) (s + 1)) 0 0 300)) (s + 2) (va_cpy ((rowC (up2 (up2 C s 5 (C t 5)) s 6 ((up2 C s 5 (C t 5)) t 6)) (s + 1) (va_cpy ((up2 (up2 C s 5 (C t 5)) s 6 ((up2 C s 5 (C t 5)) t 6)) (t + 1)) ((up2 (up2 C s 5 (C t 5)) s 6 ((up2 C s 5 (C t 5)) t 6)) (s + 1)) 0 0 300)) (t + 2)) ((rowC (up2 (up2 C s 5 (C t 5)) s 6 ((up2 C s 5 (C t 5)) t 6)) (s + 1) (va_cpy ((up2 (up2 C s 5 (C t 5)) s 6 ((up2 C s 5 (C t 5)) t 6)) (t + 1)) ((up2 (up2 C s 5 (C t 5)) s 6 ((up2 C s 5 (C t 5)) t 6)) (s + 1)) 0 0 300)) (s + 2)) 0 0 4)) (s + 3) (va_cpy ((rowC (rowC (up2 (up2 C s 5 (C t 5)) s 6 ((up2 C s 5 (C t 5)) t 6)) (s + 1) (va_cpy ((up2 (up2 C s 5 (C t 5)) s 6 ((up2 C s 5 (C t 5)) t 6)) (t + 1)) ((up2 (up2 C s 5 (C t 5)) s 6 ((up2 C s 5 (C t 5)) t 6)) (s + 1)) 0 0 300)) (s + 2) (va_cpy ((rowC (up2 (up2 C s 5 (C t 5)) s 6 ((up2 C s 5 (C t 5)) t 6)) (s + 1) (va_cpy ((up2 (up2 C s 5 (C t 5)) s 6 ((up2 C s 5 (C t 5)) t 6)) (t + 1)) ((up2 (up2 C s 5 (C t 5)) s 6 ((up2 C s 5 (C t 5)) t 6)) (s + 1)) 0 0 300)) (t + 2)) ((rowC (up2 (up2 C s 5 (C t 5)) s 6 ((up2 C s 5 (C t 5)) t 6)) (s + 1) (va_cpy ((up2 (up2 C s 5 (C t 5)) s 6 ((up2 C s 5 (C t 5)) t 6)) (t + 1)) ((up2 (up2 C s 5 (C t 5)) s 6 ((up2 C s 5 (C t 5)) t 6)) (s + 1)) 0 0 300)) (s + 2)) 0 0 4)) (t + 3)) ((rowC (rowC (up2 (up2 C s 5 (C t 5)) s 6 ((up2 C s 5 (C t 5)) t 6)) (s + 1) (va_cpy ((up2 (up2 C s 5 (C t 5)) s 6 ((up2 C s 5 (C t 5)) t 6)) (t + 1)) ((up2 (up2 C s 5 (C t 5)) s 6 ((up2 C s 5 (C t 5)) t 6)) (s + 1)) 0 0 300)) (s + 2) (va_cpy ((rowC (up2 (up2 C s 5 (C t 5)) s 6 ((up2 C s 5 (C t 5)) t 6)) (s + 1) (va_cpy ((up2 (up2 C s 5 (C t 5)) s 6 ((up2 C s 5 (C t 5)) t 6)) (t + 1)) ((up2 (up2 C s 5 (C t 5)) s 6 ((up2 C s 5 (C t 5)) t 6)) (s + 1)) 0 0 300)) (t + 2)) ((rowC (up2 (up2 C s 5 (C t 5)) s 6 ((up2 C s 5 (C t 5)) t 6)) (s + 1) (va_cpy ((up2 (up2 C s 5 (C t 5)) s 6 ((up2 C s 5 (C t 5)) t 6)) (t + 1)) ((up2 (up2 C s 5 (C t 5)) s 6 ((up2 C s 5 (C t 5)) t 6)) (s + 1)) 0 0 300)) (s + 2)) 0 0 4)) (s + 3)) 0 0 4)) (t + 4)) ((rowC (rowC (rowC (up2 (up2 C s 5 (C t 5)) s 6 ((up2 C s 5 (C t 5)) t 6)) (s + 1) (va_cpy ((up2 (up2 C s 5 (C t 5)) s 6 ((up2 C s 5 (C t 5)) t 6)) (t + 1)) ((up2 (up2 C s 5 (C t 5)) s 6 ((up2 C s 5 (C t 5)) t 6)) (s + 1)) 0 0 300)) (s + 2) (va_cpy ((rowC (up2 (up2 C s 5 (C t 5)) s 6 ((up2 C s 5 (C t 5)) t 6)) (s + 1) (va_cpy ((up2 (up2 C s 5 (C t 5)) s 6 ((up2 C s 5 (C t 5)) t 6)) (t + 1)) ((up2 (up2 C s 5 (C t 5)) s 6 ((up2 C s 5 (C t 5)) t 6)) (s + 1)) 0 0 300)) (t + 2)) ((rowC (up2 (up2 C s 5 (C t 5)) s 6 ((up2 C s 5 (C t 5)) t 6)) (s + 1) (va_cpy ((up2 (up2 C s 5 (C t 5)) s 6 ((up2 C s 5 (C t 5)) t 6)) (t + 1)) ((up2 (up2 C s 5 (C t 5)) s 6 ((up2 C s 5 (C t 5)) t 6)) (s + 1)) 0 0 300)) (s + 2)) 0 0 4)) (s + 3) (va_cpy ((rowC (rowC (up2 (up2 C s 5 (C t 5)) s 6 ((up2 C s 5 (C t 5)) t 6)) (s + 1) (va_cpy ((up2 (up2 C s 5 (C t 5)) s 6 ((up2 C s 5 (C t 5)) t 6)) (t + 1)) ((up2 (up2 C s 5 (C t 5)) s 6 ((up2 C s 5 (C t 5)) t 6)) (s + 1)) 0 0 300)) (s + 2) (va_cpy ((rowC (up2 (up2 C s 5 (C t 5)) s 6 ((up2 C s 5 (C t 5)) t 6)) (s + 1) (va_cpy ((up2 (up2 C s 5 (C t 5)) s 6 ((up2 C s 5 (C t 5)) t 6)) (t + 1)) ((up2 (up2 C s 5 (C t 5)) s 6 ((up2 C s 5 (C t 5)) t 6)) (s + 1)) 0 0 300)) (t + 2)) ((rowC (up2 (up2 C s 5 (C t 5)) s 6 ((up2 C s 5 (C t 5)) t 6)) (s + 1) (va_cpy ((up2 (up2 C s 5 (C t 5)) s 6 ((up2 C s 5 (C t 5)) t 6)) (t + 1)) ((up2 (up2 C s 5 (C t 5)) s 6 ((up2 C s 5 (C t 5)) t 6)) (s + 1)) 0 0 300)) (s + 2)) 0 0 4)) (t + 3)) ((rowC (rowC (up2 (up2 C s 5 (C t 5)) s 6 ((up2 C s 5 (C t 5)) t 6)) (s + 1) (va_cpy ((up2 (up2 C s 5 (C t 5)) s 6 ((up2 C s 5 (C t 5)) t 6)) (t + 1)) ((up2 (up2 C s 5 (C t 5)) s 6 ((up2 C s 5 (C t 5)) t 6)) (s + 1)) 0 0 300)) (s + 2) (va_cpy ((rowC (up2 (up2 C s 5 (C t 5)) s 6 ((up2 C s 5 (C t 5)) t 6)) (s + 1) (va_cpy ((up2 (up2 C s 5 (C t 5)) s 6 ((up2 C s 5 (C t 5)) t 6)) (t + 1)) ((up2 (up2 C s 5 (C t 5)) s 6 ((up2 C s 5 (C t 5)) t 6)) (s + 1)) 0 0 300)) (t + 2)) ((rowC (up2 (up2 C s 5 (C t 5)) s 6 ((up2 C s 5 (C t 5)) t 6)) (s + 1) (va_cpy ((up2 (up2 C s 5 (C t 5)) s 6 ((up2 C s 5 (C t 5)) t 6)) (t + 1)) ((up2 (up2 C s 5 (C t 5)) s 6 ((up2 C s 5 (C t 5)) t 6)) (s + 1)) 0 0 300)) (s + 2)) 0 0 4)) (s + 3)) 0 0 4)) (s + 4)) 0 0 24)) (s + 5) (va_cpy ((rowC (rowC (rowC (rowC (up2 (up2 C s 5 (C t 5)) s 6 ((up2 C s 5 (C t 5)) t 6)) (s + 1) (va_cpy ((up2 (up2 C s 5 (C t 5)) s 6 ((up2 C s 5 (C t 5)) t 6)) (t + 1)) ((up2 (up2 C s 5 (C t 5)) s 6 ((up2 C s 5 (C t 5)) t 6)) (s + 1)) 0 0 300)) (s + 2) (va_cpy ((rowC (up2 (up2 C s 5 (C t 5)) s 6 ((up2 C s 5 (C t 5)) t 6)) (s + 1) (va_cpy ((up2 (up2 C s 5 (C t 5)) s 6 ((up2 C s 5 (C t 5)) t 6)) (t + 1)) ((up2 (up2 C s 5 (C t 5)) s 6 ((up2 C s 5 (C t 5)) t 6)) (s + 1)) 0 0 300)) (t + 2)) ((rowC (up2 (up2 C s 5 (C t 5)) s 6 ((up2 C s 5 (C t 5)) t 6)) (s + 1) (va_cpy ((up2 (up2 C s 5 (C t 5)) s 6 ((up2 C s 5 (C t 5)) t 6)) (t + 1)) ((up2 (up2 C s 5 (C t 5)) s 6 ((up2 C s 5 (C t 5)) t 6)) (s + 1)) 0 0 300)) (s + 2)) 0 0 4)) (s + 3) (va_cpy ((rowC (rowC (up2 (up2 C s 5 (C t 5)) s 6 ((up2 C s 5 (C t 5)) t 6)) (s + 1) (va_cpy ((up2 (up2 C s 5 (C t 5)) s 6 ((up2 C s 5 (C t 5)) t 6)) (t + 1)) ((up2 (up2 C s 5 (C t 5)) s 6 ((up2 C s 5 (C t 5)) t 6)) (s + 1)) 0 0 300)) (s + 2) (va_cpy ((rowC (up2 (up2 C s 5 (C t 5)) s 6 ((up2 C s 5 (C t 5)) t 6)) (s + 1) (va_cpy ((up2 (up2 C s 5 (C t 5)) s 6 ((up2 C s 5 (C t 5)) t 6)) (t + 1)) ((up2 (up2 C s 5 (C t 5)) s 6 ((up2 C s 5 (C t 5)) t 6)) (s + 1)) 0 0 300)) (t + 2)) ((rowC (up2 (up2 C s 5 (C t 5)) s 6 ((up2 C s 5 (C t 5)) t 6)) (s + 1) (va_cpy ((up2 (up2 C s 5 (C t 5)) s 6 ((up2 C s 5 (C t 5)) t 6)) (t + 1)) ((up2 (up2 C s 5 (C t 5)) s 6 ((up2 C s 5 (C t 5)) t 6)) (s + 1)) 0 0 300)) (s + 2)) 0 0 4)) (t + 3)) ((rowC (rowC (up2 (up2 C s 5 (C t 5)) s 6 ((up2 C s 5 (C t 5)) t 6)) (s + 1) (va_cpy ((up2 (up2 C s 5 (C t 5)) s 6 ((up2 C s 5 (C t 5)) t 6)) (t + 1)) ((up2 (up2 C s 5 (C t 5)) s 6 ((up2 C s 5 (C t 5)) t 6)) (s + 1)) 0 0 300)) (s + 2) (va_cpy ((rowC (up2 (up2 C s 5 (C t 5)) s 6 ((up2 C s 5 (C t 5)) t 6)) (s + 1) (va_cpy ((up2 (up2 C s 5 (C t 5)) s 6 ((up2 C s 5 (C t 5)) t 6)) (t + 1)) ((up2 (up2 C s 5 (C t 5)) s 6 ((up2 C s 5 (C t 5)) t 6)) (s + 1)) 0 0 300)) (t + 2)) ((rowC (up2 (up2 C s 5 (C t 5)) s 6 ((up2 C s 5 (C t 5)) t 6)) (s + 1) (va_cpy ((up2 (up2 C s 5 (C t 5)) s 6 ((up2 C s 5 (C t 5)) t 6)) (t + 1)) ((up2 (up2 C s 5 (C t 5)) s 6 ((up2 C s 5 (C t 5)) t 6)) (s + 1)) 0 0 300)) (s + 2)) 0 0 4)) (s + 3)) 0 0 4)) (s + 4) (va_cpy ((rowC (rowC (rowC (up2 (up2 C s 5 (C t 5)) s 6 ((up2 C s 5 (C t 5)) t 6)) (s + 1) (va_cpy ((up2 (up2 C s 5 (C t 5)) s 6 ((up2 C s 5 (C t 5)) t 6)) (t + 1)) ((up2 (up2 C s 5 (C t 5)) s 6 ((up2 C s 5 (C t 5)) t 6)) (s + 1)) 0 0 300)) (s + 2) (va_cpy ((rowC (up2 (up2 C s 5 (C t 5)) s 6 ((up2 C s 5 (C t 5)) t 6)) (s + 1) (va_cpy ((up2 (up2 C s 5 (C t 5)) s 6 ((up2 C s 5 (C t 5)) t 6)) (t + 1)) ((up2 (up2 C s 5 (C t 5)) s 6 ((up2 C s 5 (C t 5)) t 6)) (s + 1)) 0 0 300)) (t + 2)) ((rowC (up2 (up2 C s 5 (C t 5)) s 6 ((up2 C s 5 (C t 5)) t 6)) (s + 1) (va_cpy ((up2 (up2 C s 5 (C t 5)) s 6 ((up2 C s 5 (C t 5)) t 6)) (t + 1)) ((up2 (up2 C s 5 (C t 5)) s 6 ((up2 C s 5 (C t 5)) t 6)) (s + 1)) 0 0 300)) (s + 2)) 0 0 4)) (s + 3) (va_cpy ((rowC (rowC (up2 (up2 C s 5 (C t 5)) s 6 ((up2 C s 5 (C t 5)) t 6)) (s + 1) (va_cpy ((up2 (up2 C s 5 (C t 5)) s 6 ((up2 C s 5 (C t 5)) t 6)) (t + 1)) ((up2 (up2 C s 5 (C t 5)) s 6 ((up2 C s 5 (C t 5)) t 6)) (s + 1)) 0 0 300)) (s + 2) (va_cpy ((rowC (up2 (up2 C s 5 (C t 5)) s 6 ((up2 C s 5 (C t 5)) t 6)) (s + 1) (va_cpy ((up2 (up2 C s 5 (C t 5)) s 6 ((up2 C s 5 (C t 5)) t 6)) (t + 1)) ((up2 (up2 C s 5 (C t 5)) s 6 ((up2 C s 5 (C t 5)) t 6)) (s + 1)) 0 0 300)) (t + 2)) ((rowC (up2 (up2 C s 5 (C t 5)) s 6 ((up2 C s 5 (C t 5)) t 6)) (s + 1) (va_cpy ((up2 (up2 C s 5 (C t 5)) s 6 ((up2 C s 5 (C t 5)) t 6)) (t + 1)) ((up2 (up2 C s 5 (C t 5)) s 6 ((up2 C s 5 (C t 5)) t 6)) (s + 1)) 0 0 300)) (s + 2)) 0 0 4)) (t + 3)) ((rowC (rowC (up2 (up2 C s 5 (C t 5)) s 6 ((up2 C s 5 (C t 5)) t 6)) (s + 1) (va_cpy ((up2 (up2 C s 5 (C t 5)) s 6 ((up2 C s 5 (C t 5)) t 6)) (t + 1)) ((up2 (up2 C s 5 (C t 5)) s 6 ((up2 C s 5 (C t 5)) t 6)) (s + 1)) 0 0 300)) (s + 2) (va_cpy ((rowC (up2 (up2 C s 5 (C t 5)) s 6 ((up2 C s 5 (C t 5)) t 6)) (s + 1) (va_cpy ((up2 (up2 C s 5 (C t 5)) s 6 ((up2 C s 5 (C t 5)) t 6)) (t + 1)) ((up2 (up2 C s 5 (C t 5)) s 6 ((up2 C s 5 (C t 5)) t 6)) (s + 1)) 0 0 300)) (t + 2)) ((rowC (up2 (up2 C s 5 (C t 5)) s 6 ((up2 C s 5 (C t 5)) t 6)) (s + 1) (va_cpy ((up2 (up2 C s 5 (C t 5)) s 6 ((up2 C s 5 (C t 5)) t 6)) (t + 1)) ((up2 (up2 C s 5 (C t 5)) s 6 ((up2 C s 5 (C t 5)) t 6)) (s + 1)) 0 0 300)) (s + 2)) 0 0 4)) (s + 3)) 0 0 4)) (t + 4)) ((rowC (rowC (rowC (up2 (up2 C s 5 (C t 5)) s 6 ((up2 C s 5 (C t 5)) t 6)) (s + 1) (va_cpy ((up2 (up2 C s 5 (C t 5)) s 6 ((up2 C s 5 (C t 5)) t 6)) (t + 1)) ((up2 (up2 C s 5 (C t 5)) s 6 ((up2 C s 5 (C t 5)) t 6)) (s + 1)) 0 0 300)) (s + 2) (va_cpy ((rowC (up2 (up2 C s 5 (C t 5)) s 6 ((up2 C s 5 (C t 5)) t 6)) (s + 1) (va_cpy ((up2 (up2 C s 5 (C t 5)) s 6 ((up2 C s 5 (C t 5)) t 6)) (t + 1)) ((up2 (up2 C s 5 (C t 5)) s 6 ((up2 C s 5 (C t 5)) t 6)) (s + 1)) 0 0 300)) (t + 2)) ((rowC (up2 (up2 C s 5 (C t 5)) s 6 ((up2 C s 5 (C t 5)) t 6)) (s + 1) (va_cpy ((up2 (up2 C s 5 (C t 5)) s 6 ((up2 C s 5 (C t 5)) t 6)) (t + 1)) ((up2 (up2 C s 5 (C t 5)) s 6 ((up2 C s 5 (C t 5)) t 6)) (s + 1)) 0 0 300)) (s + 2)) 0 0 4)) (s + 3) (va_cpy ((rowC (rowC (up2 (up2 C s 5 (C t 5)) s 6 ((up2 C s 5 (C t 5)) t 6)) (s + 1) (va_cpy ((up2 (up2 C s 5 (C t 5)) s 6 ((up2 C s 5 (C t 5)) t 6)) (t + 1)) ((up2 (up2 C s 5 (C t 5)) s 6 ((up2 C s 5 (C t 5)) t 6)) (s + 1)) 0 0 300)) (s + 2) (va_cpy ((rowC (up2 (up2 C s 5 (C t 5)) s 6 ((up2 C s 5 (C t 5)) t 6)) (s + 1) (va_cpy ((up2 (up2 C s 5 (C t 5)) s 6 ((up2 C s 5 (C t 5)) t 6)) (t + 1)) ((up2 (up2 C s 5 (C t 5)) s 6 ((up2 C s 5 (C t 5)) t 6)) (s + 1)) 0 0 300)) (t + 2)) ((rowC (up2 (up2 C s 5 (C t 5)) s 6 ((up2 C s 5 (C t 5)) t 6)) (s + 1) (va_cpy ((up2 (up2 C s 5 (C t 5)) s 6 ((up2 C s 5 (C t 5)) t 6)) (t + 1)) ((up2 (up2 C s 5 (C t 5)) s 6 ((up2 C s 5 (C t 5)) t 6)) (s + 1)) 0 0 300)) (s + 2)) 0 0 4)) (t + 3)) ((rowC (rowC (up2 (up2 C s 5 (C t 5)) s 6 ((up2 C s 5 (C t 5)) t 6)) (s + 1) (va_cpy ((up2 (up2 C s 5 (C t 5)) s 6 ((up2 C s 5 (C t 5)) t 6)) (t + 1)) ((up2 (up2 C s 5 (C t 5)) s 6 ((up2 C s 5 (C t 5)) t 6)) (s + 1)) 0 0 300)) (s + 2) (va_cpy ((rowC (up2 (up2 C s 5 (C t 5)) s 6 ((up2 C s 5 (C t 5)) t 6)) (s + 1) (va_cpy ((up2 (up2 C s 5 (C t 5)) s 6 ((up2 C s 5 (C t 5)) t 6)) (t + 1)) ((up2 (up2 C s 5 (C t 5)) s 6 ((up2 C s 5 (C t 5)) t 6)) (s + 1)) 0 0 300)) (t + 2)) ((rowC (up2 (up2 C s 5 (C t 5)) s 6 ((up2 C s 5 (C t 5)) t 6)) (s + 1) (va_cpy ((up2 (up2 C s 5 (C t 5)) s 6 ((up2 C s 5 (C t 5)) t 6)) (t + 1)) ((up2 (up2 C s 5 (C t 5)) s 6 ((up2 C s 5 (C t 5)) t 6)) (s + 1)) 0 0 300)) (s + 2)) 0 0 4)) (s + 3)) 0 0 4)) (s + 4)) 0 0 24)) (t + 5)) ((rowC (rowC (rowC (rowC (up2 (up2 C s 5 (C t 5)) s 6 ((up2 C s 5 (C t 5)) t 6)) (s + 1) (va_cpy ((up2 (up2 C s 5 (C t 5)) s 6 ((up2 C s 5 (C t 5)) t 6)) (t + 1)) ((up2 (up2 C s 5 (C t 5)) s 6 ((up2 C s 5 (C t 5)) t 6)) (s + 1)) 0 0 300)) (s + 2) (va_cpy ((rowC (up2 (up2 C s 5 (C t 5)) s 6 ((up2 C s 5 (C t 5)) t 6)) (s + 1) (va_cpy ((up2 (up2 C s 5 (C t 5)) s 6 ((up2 C s 5 (C t 5)) t 6)) (t + 1)) ((up2 (up2 C s 5 (C t 5)) s 6 ((up2 C s 5 (C t 5)) t 6)) (s + 1)) 0 0 300)) (t + 2)) ((rowC (up2 (up2 C s 5 (C t 5)) s 6 ((up2 C s 5 (C t 5)) t 6)) (s + 1) (va_cpy ((up2 (up2 C s 5 (C t 5)) s 6 ((up2 C s 5 (C t 5)) t 6)) (t + 1)) ((up2 (up2 C s 5 (C t 5)) s 6 ((up2 C s 5 (C t 5)) t 6)) (s + 1)) 0 0 300)) (s + 2)) 0 0 4)) (s + 3) (va_cpy ((rowC (rowC (up2 (up2 C s 5 (C t 5)) s 6 ((up2 C s 5 (C t 5)) t 6)) (s + 1) (va_cpy ((up2 (up2 C s 5 (C t 5)) s 6 ((up2 C s 5 (C t 5)) t 6)) (t + 1)) ((up2 (up2 C s 5 (C t 5)) s 6 ((up2 C s 5 (C t 5)) t 6)) (s + 1)) 0 0 300)) (s + 2) (va_cpy ((rowC (up2 (up2 C s 5 (C t 5)) s 6 ((up2 C s 5 (C t 5)) t 6)) (s + 1) (va_cpy ((up2 (up2 C s 5 (C t 5)) s 6 ((up2 C s 5 (C t 5)) t 6)) (t + 1)) ((up2 (up2 C s 5 (C t 5)) s 6 ((up2 C s 5 (C t 5)) t 6)) (s + 1)) 0 0 300)) (t + 2)) ((rowC (up2 (up2 C s 5 (C t 5)) s 6 ((up2 C s 5 (C t 5)) t 6)) (s + 1) (va_cpy ((up2 (up2 C s 5 (C t 5)) s 6 ((up2 C s 5 (C t 5)) t 6)) (t + 1)) ((up2 (up2 C s 5 (C t 5)) s 6 ((up2 C s 5 (C t 5)) t 6)) (s + 1)) 0 0 300)) (s + 2)) 0 0 4)) (t + 3)) ((rowC (rowC (up2 (up2 C s 5 (C t 5)) s 6 ((up2 C s 5 (C t 5)) t 6)) (s + 1) (va_cpy ((up2 (up2 C s 5 (C t 5)) s 6 ((up2 C s 5 (C t 5)) t 6)) (t + 1)) ((up2 (up2 C s 5 (C t 5)) s 6 ((up2 C s 5 (C t 5)) t 6)) (s + 1)) 0 0 300)) (s + 2) (va_cpy ((rowC (up2 (up2 C s 5 (C t 5)) s 6 ((up2 C s 5 (C t 5)) t 6)) (s + 1) (va_cpy ((up2 (up2 C s 5 (C t 5)) s 6 ((up2 C s 5 (C t 5)) t 6)) (t + 1)) ((up2 (up2 C s 5 (C t 5)) s 6 ((up2 C s 5 (C t 5)) t 6)) (s + 1)) 0 0 300)) (t + 2)) ((rowC (up2 (up2 C s 5 (C t 5)) s 6 ((up2 C s 5 (C t 5)) t 6)) (s + 1) (va_cpy ((up2 (up2 C s 5 (C t 5)) s 6 ((up2 C s 5 (C t 5)) t 6)) (t + 1)) ((up2 (up2 C s 5 (C t 5)) s 6 ((up2 C s 5 (C t 5)) t 6)) (s + 1)) 0 0 300)) (s + 2)) 0 0 4)) (s + 3)) 0 0 4)) (s + 4) (va_cpy ((rowC (rowC (rowC (up2 (up2 C s 5 (C t 5)) s 6 ((up2 C s 5 (C t 5)) t 6)) (s + 1) (va_cpy ((up2 (up2 C s 5 (C t 5)) s 6 ((up2 C s 5 (C t 5)) t 6)) (t + 1)) ((up2 (up2 C s 5 (C t 5)) s 6 ((up2 C s 5 (C t 5)) t 6)) (s + 1)) 0 0 300)) (s + 2) (va_cpy ((rowC (up2 (up2 C s 5 (C t 5)) s 6 ((up2 C s 5 (C t 5)) t 6)) (s + 1) (va_cpy ((up2 (up2 C s 5 (C t 5)) s 6 ((up2 C s 5 (C t 5)) t 6)) (t + 1)) ((up2 (up2 C s 5 (C t 5)) s 6 ((up2 C s 5 (C t 5)) t 6)) (s + 1)) 0 0 300)) (t + 2)) ((rowC (up2 (up2 C s 5 (C t 5)) s 6 ((up2 C s 5 (C t 5)) t 6)) (s + 1) (va_cpy ((up2 (up2 C s 5 (C t 5)) s 6 ((up2 C s 5 (C t 5)) t 6)) (t + 1)) ((up2 (up2 C s 5 (C t 5)) s 6 ((up2 C s 5 (C t 5)) t 6)) (s + 1)) 0 0 300)) (s + 2)) 0 0 4)) (s + 3) (va_cpy ((rowC (rowC (up2 (up2 C s 5 (C t 5)) s 6 ((up2 C s 5 (C t 5)) t 6)) (s + 1) (va_cpy ((up2 (up2 C s 5 (C t 5)) s 6 ((up2 C s 5 (C t 5)) t 6)) (t + 1)) ((up2 (up2 C s 5 (C t 5)) s 6 ((up2 C s 5 (C t 5)) t 6)) (s + 1)) 0 0 300)) (s + 2) (va_cpy ((rowC (up2 (up2 C s 5 (C t 5)) s 6 ((up2 C s 5 (C t 5)) t 6)) (s + 1) (va_cpy ((up2 (up2 C s 5 (C t 5)) s 6 ((up2 C s 5 (C t 5)) t 6)) (t + 1)) ((up2 (up2 C s 5 (C t 5)) s 6 ((up2 C s 5 (C t 5)) t 6)) (s + 1)) 0 0 300)) (t + 2)) ((rowC (up2 (up2 C s 5 (C t 5)) s 6 ((up2 C s 5 (C t 5)) t 6)) (s + 1) (va_cpy ((up2 (up2 C s 5 (C t 5)) s 6 ((up2 C s 5 (C t 5)) t 6)) (t + 1)) ((up2 (up2 C s 5 (C t 5)) s 6 ((up2 C s 5 (C t 5)) t 6)) (s + 1)) 0 0 300)) (s + 2)) 0 0 4)) (t + 3)) ((rowC (rowC (up2 (up2 C s 5 (C t 5)) s 6 ((up2 C s 5 (C t 5)) t 6)) (s + 1) (va_cpy ((up2 (up2 C s 5 (C t 5)) s 6 ((up2 C s 5 (C t 5)) t 6)) (t + 1)) ((up2 (up2 C s 5 (C t 5)) s 6 ((up2 C s 5 (C t 5)) t 6)) (s + 1)) 0 0 300)) (s + 2) (va_cpy ((rowC (up2 (up2 C s 5 (C t 5)) s 6 ((up2 C s 5 (C t 5)) t 6)) (s + 1) (va_cpy ((up2 (up2 C s 5 (C t 5)) s 6 ((up2 C s 5 (C t 5)) t 6)) (t + 1)) ((up2 (up2 C s 5 (C t 5)) s 6 ((up2 C s 5 (C t 5)) t 6)) (s + 1)) 0 0 300)) (t + 2)) ((rowC (up2 (up2 C s 5 (C t 5)) s 6 ((up2 C s 5 (C t 5)) t 6)) (s + 1) (va_cpy ((up2 (up2 C s 5 (C t 5)) s 6 ((up2 C s 5 (C t 5)) t 6)) (t + 1)) ((up2 (up2 C s 5 (C t 5)) s 6 ((up2 C s 5 (C t 5)) t 6)) (s + 1)) 0 0 300)) (s + 2)) 0 0 4)) (s + 3)) 0 0 4)) (t + 4)) ((rowC (rowC (rowC (up2 (up2 C s 5 (C t 5)) s 6 ((up2 C s 5 (C t 5)) t 6)) (s + 1) (va_cpy ((up2 (up2 C s 5 (C t 5)) s 6 ((up2 C s 5 (C t 5)) t 6)) (t + 1)) ((up2 (up2 C s 5 (C t 5)) s 6 ((up2 C s 5 (C t 5)) t 6)) (s + 1)) 0 0 300)) (s + 2) (va_cpy ((rowC (up2 (up2 C s 5 (C t 5)) s 6 ((up2 C s 5 (C t 5)) t 6)) (s + 1) (va_cpy ((up2 (up2 C s 5 (C t 5)) s 6 ((up2 C s 5 (C t 5)) t 6)) (t + 1)) ((up2 (up2 C s 5 (C t 5)) s 6 ((up2 C s 5 (C t 5)) t 6)) (s + 1)) 0 0 300)) (t + 2)) ((rowC (up2 (up2 C s 5 (C t 5)) s 6 ((up2 C s 5 (C t 5)) t 6)) (s + 1) (va_cpy ((up2 (up2 C s 5 (C t 5)) s 6 ((up2 C s 5 (C t 5)) t 6)) (t + 1)) ((up2 (up2 C s 5 (C t 5)) s 6 ((up2 C s 5 (C t 5)) t 6)) (s + 1)) 0 0 300)) (s + 2)) 0 0 4)) (s + 3) (va_cpy ((rowC (rowC (up2 (up2 C s 5 (C t 5)) s 6 ((up2 C s 5 (C t 5)) t 6)) (s + 1) (va_cpy ((up2 (up2 C s 5 (C t 5)) s 6 ((up2 C s 5 (C t 5)) t 6)) (t + 1)) ((up2 (up2 C s 5 (C t 5)) s 6 ((up2 C s 5 (C t 5)) t 6)) (s + 1)) 0 0 300)) (s + 2) (va_cpy ((rowC (up2 (up2 C s 5 (C t 5)) s 6 ((up2 C s 5 (C t 5)) t 6)) (s + 1) (va_cpy ((up2 (up2 C s 5 (C t 5)) s 6 ((up2 C s 5 (C t 5)) t 6)) (t + 1)) ((up2 (up2 C s 5 (C t 5)) s 6 ((up2 C s 5 (C t 5)) t 6)) (s + 1)) 0 0 300)) (t + 2)) ((rowC (up2 (up2 C s 5 (C t 5)) s 6 ((up2 C s 5 (C t 5)) t 6)) (s + 1) (va_cpy ((up2 (up2 C s 5 (C t 5)) s 6 ((up2 C s 5 (C t 5)) t 6)) (t + 1)) ((up2 (up2 C s 5 (C t 5)) s 6 ((up2 C s 5 (C t 5)) t 6)) (s + 1)) 0 0 300)) (s + 2)) 0 0 4)) (t + 3)) ((rowC (rowC (up2 (up2 C s 5 (C t 5)) s 6 ((up2 C s 5 (C t 5)) t 6)) (s + 1) (va_cpy ((up2 (up2 C s 5 (C t 5)) s 6 ((up2 C s 5 (C t 5)) t 6)) (t + 1)) ((up2 (up2 C s 5 (C t 5)) s 6 ((up2 C s 5 (C t 5)) t 6)) (s + 1)) 0 0 300)) (s + 2) (va_cpy ((rowC (up2 (up2 C s 5 (C t 5)) s 6 ((up2 C s 5 (C t 5)) t 6)) (s + 1) (va_cpy ((up2 (up2 C s 5 (C t 5)) s 6 ((up2 C s 5 (C t 5)) t 6)) (t + 1)) ((up2 (up2 C s 5 (C t 5)) s 6 ((up2 C s 5 (C t 5)) t 6)) (s + 1)) 0 0 300)) (t + 2)) ((rowC (up2 (up2 C s 5 (C t 5)) s 6 ((up2 C s 5 (C t 5)) t 6)) (s + 1) (va_cpy ((up2 (up2 C s 5 (C t 5)) s 6 ((up2 C s 5 (C t 5)) t 6)) (t + 1)) ((up2 (up2 C s 5 (C t 5)) s 6 ((up2 C s 5 (C t 5)) t 6)) (s + 1)) 0 0 300)) (s + 2)) 0 0 4)) (s + 3)) 0 0 4)) (s + 4)) 0 0 24)) (s + 5)) 0 0 72)))
theorem cf_X6_copyFrom : CF yX6_copyFrom cX6_copyFrom 2 (Option.none : Option Jvm.ClassFile.FieldType) 1 := ⟨kc_X6_copyFrom, kj_X6, ⟨by decide +kernel, by decide +kernel, by decide +kernel⟩, by decide⟩
theorem cv_X6_copyFrom : CFv yX6_copyFrom := ⟨ki_X6_copyFrom, ks_X6_copyFrom⟩
set_option maxHeartbeats 4000000 in
set_option maxRecDepth 100000 in
theorem c_X6_copyFrom (l : Launch) (G : GT) {t : Nat} {s : Nat} (hs : ScAt s) (ht : ScAt t) (C : CM) (O : OM) (C' : CM) (h : f_X6_copyFrom s t C = some C') : MV l G yX6_copyFrom cX6_copyFrom 2 (Option.none : Option Jvm.ClassFile.FieldType) (1) [.ref (gB G + s), .ref (gB G + t)] (C, O) (C', O) := by
  unfold MV
  refine met_in RX6 (by decide +kernel) rfl [(0, .ref (gB G + s)), (1, .ref (gB G + t))] rfl (Nat.le_of_ble_eq_true rfl) ?_
  intro pM eM sM mM aM bM meM cM K hr
  rw [f_X6_copyFrom] at h
  refine go_aload_n K dX6_copyFrom_0 0 rfl rfl ?_
  refine go_aload_n K dX6_copyFrom_1 1 rfl rfl ?_
  refine gf_X6 K ht 5 (by decide) kf_X6_27 (v := .int (C t 5)) rfl dX6_copyFrom_2 ?_
  refine pf_X6 K hs 5 (by decide) kf_X6_27 rfl rfl rfl dX6_copyFrom_5 ?_
  refine go_aload_n K dX6_copyFrom_8 0 rfl rfl ?_
  refine go_aload_n K dX6_copyFrom_9 1 rfl rfl ?_
  refine gf_X6 K ht 6 (by decide) kf_X6_31 (v := .int ((up2 C s 5 (C t 5)) t 6)) rfl dX6_copyFrom_10 ?_
  refine pf_X6 K hs 6 (by decide) kf_X6_31 rfl rfl rfl dX6_copyFrom_13 ?_
  refine go_aload_n K dX6_copyFrom_16 1 rfl rfl ?_
  refine gf_X6 K ht 0 (by decide) kf_X6_9 (v := .ref (gB G + (t + 1))) rfl dX6_copyFrom_17 ?_
  refine go_iconst (v := (0 : Int32)) K dX6_copyFrom_20 (by decide) ?_
  refine go_aload_n K dX6_copyFrom_21 0 rfl rfl ?_
  refine gf_X6 K hs 0 (by decide) kf_X6_9 (v := .ref (gB G + (s + 1))) rfl dX6_copyFrom_22 ?_
  refine go_iconst (v := (0 : Int32)) K dX6_copyFrom_25 (by decide) ?_
  refine go_aload_n K dX6_copyFrom_26 0 rfl rfl ?_
  refine gf_X6 K hs 0 (by decide) kf_X6_9 (v := .ref (gB G + (s + 1))) rfl dX6_copyFrom_27 ?_
  refine go_clen K (sc_lt hs 1 (by decide)) (hs.2.2.1) (v := (300 : Int32)) rfl dX6_copyFrom_30 ?_
  refine go_copy K (sc_lt ht 1 (by decide)) (ht.2.2.1) (sc_lt hs 1 (by decide)) (hs.2.2.1) (sp := (0 : Int32)) (dp := (0 : Int32)) (n := (300 : Int32)) (by decide) (by decide) (by decide) (sp' := 0) (dp' := 0) (n' := 300) (by decide) (by decide) (by decide) (by decide) (by decide) km_X6_34 (Nat.succ_pos _) (Nat.le_of_ble_eq_true rfl) dX6_copyFrom_31 ?_
  refine go_aload_n K dX6_copyFrom_34 1 rfl rfl ?_
  refine gf_X6 K ht 1 (by decide) kf_X6_15 (v := .ref (gB G + (t + 2))) rfl dX6_copyFrom_35 ?_
  refine go_iconst (v := (0 : Int32)) K dX6_copyFrom_38 (by decide) ?_
  refine go_aload_n K dX6_copyFrom_39 0 rfl rfl ?_
  refine gf_X6 K hs 1 (by decide) kf_X6_15 (v := .ref (gB G + (s + 2))) rfl dX6_copyFrom_40 ?_
  refine go_iconst (v := (0 : Int32)) K dX6_copyFrom_43 (by decide) ?_
  refine go_aload_n K dX6_copyFrom_44 0 rfl rfl ?_
  refine gf_X6 K hs 1 (by decide) kf_X6_15 (v := .ref (gB G + (s + 2))) rfl dX6_copyFrom_45 ?_
  refine go_clen K (sc_lt hs 2 (by decide)) (hs.2.2.2.1) (v := (4 : Int32)) rfl dX6_copyFrom_48 ?_
  refine go_copy K (sc_lt ht 2 (by decide)) (ht.2.2.2.1) (sc_lt hs 2 (by decide)) (hs.2.2.2.1) (sp := (0 : Int32)) (dp := (0 : Int32)) (n := (4 : Int32)) (by decide) (by decide) (by decide) (sp' := 0) (dp' := 0) (n' := 4) (by decide) (by decide) (by decide) (by decide) (by decide) km_X6_34 (Nat.succ_pos _) (Nat.le_of_ble_eq_true rfl) dX6_copyFrom_49 ?_
  refine go_aload_n K dX6_copyFrom_52 1 rfl rfl ?_
  refine gf_X6 K ht 2 (by decide) kf_X6_18 (v := .ref (gB G + (t + 3))) rfl dX6_copyFrom_53 ?_
  refine go_iconst (v := (0 : Int32)) K dX6_copyFrom_56 (by decide) ?_
  refine go_aload_n K dX6_copyFrom_57 0 rfl rfl ?_
  refine gf_X6 K hs 2 (by decide) kf_X6_18 (v := .ref (gB G + (s + 3))) rfl dX6_copyFrom_58 ?_
  refine go_iconst (v := (0 : Int32)) K dX6_copyFrom_61 (by decide) ?_
  refine go_aload_n K dX6_copyFrom_62 0 rfl rfl ?_
  refine gf_X6 K hs 2 (by decide) kf_X6_18 (v := .ref (gB G + (s + 3))) rfl dX6_copyFrom_63 ?_
  refine go_clen K (sc_lt hs 3 (by decide)) (hs.2.2.2.2.1) (v := (4 : Int32)) rfl dX6_copyFrom_66 ?_
  refine go_copy K (sc_lt ht 3 (by decide)) (ht.2.2.2.2.1) (sc_lt hs 3 (by decide)) (hs.2.2.2.2.1) (sp := (0 : Int32)) (dp := (0 : Int32)) (n := (4 : Int32)) (by decide) (by decide) (by decide) (sp' := 0) (dp' := 0) (n' := 4) (by decide) (by decide) (by decide) (by decide) (by decide) km_X6_34 (Nat.succ_pos _) (Nat.le_of_ble_eq_true rfl) dX6_copyFrom_67 ?_
  refine go_aload_n K dX6_copyFrom_70 1 rfl rfl ?_
  refine gf_X6 K ht 3 (by decide) kf_X6_21 (v := .ref (gB G + (t + 4))) rfl dX6_copyFrom_71 ?_
  refine go_iconst (v := (0 : Int32)) K dX6_copyFrom_74 (by decide) ?_
  refine go_aload_n K dX6_copyFrom_75 0 rfl rfl ?_
  refine gf_X6 K hs 3 (by decide) kf_X6_21 (v := .ref (gB G + (s + 4))) rfl dX6_copyFrom_76 ?_
  refine go_iconst (v := (0 : Int32)) K dX6_copyFrom_79 (by decide) ?_
  refine go_aload_n K dX6_copyFrom_80 0 rfl rfl ?_
  refine gf_X6 K hs 3 (by decide) kf_X6_21 (v := .ref (gB G + (s + 4))) rfl dX6_copyFrom_81 ?_
  refine go_clen K (sc_lt hs 4 (by decide)) (hs.2.2.2.2.2.1) (v := (24 : Int32)) rfl dX6_copyFrom_84 ?_
  refine go_copy K (sc_lt ht 4 (by decide)) (ht.2.2.2.2.2.1) (sc_lt hs 4 (by decide)) (hs.2.2.2.2.2.1) (sp := (0 : Int32)) (dp := (0 : Int32)) (n := (24 : Int32)) (by decide) (by decide) (by decide) (sp' := 0) (dp' := 0) (n' := 24) (by decide) (by decide) (by decide) (by decide) (by decide) km_X6_34 (Nat.succ_pos _) (Nat.le_of_ble_eq_true rfl) dX6_copyFrom_85 ?_
  refine go_aload_n K dX6_copyFrom_88 1 rfl rfl ?_
  refine gf_X6 K ht 4 (by decide) kf_X6_24 (v := .ref (gB G + (t + 5))) rfl dX6_copyFrom_89 ?_
  refine go_iconst (v := (0 : Int32)) K dX6_copyFrom_92 (by decide) ?_
  refine go_aload_n K dX6_copyFrom_93 0 rfl rfl ?_
  refine gf_X6 K hs 4 (by decide) kf_X6_24 (v := .ref (gB G + (s + 5))) rfl dX6_copyFrom_94 ?_
  refine go_iconst (v := (0 : Int32)) K dX6_copyFrom_97 (by decide) ?_
  refine go_aload_n K dX6_copyFrom_98 0 rfl rfl ?_
  refine gf_X6 K hs 4 (by decide) kf_X6_24 (v := .ref (gB G + (s + 5))) rfl dX6_copyFrom_99 ?_
  refine go_clen K (sc_lt hs 5 (by decide)) (hs.2.2.2.2.2.2) (v := (72 : Int32)) rfl dX6_copyFrom_102 ?_
  refine go_copy K (sc_lt ht 5 (by decide)) (ht.2.2.2.2.2.2) (sc_lt hs 5 (by decide)) (hs.2.2.2.2.2.2) (sp := (0 : Int32)) (dp := (0 : Int32)) (n := (72 : Int32)) (by decide) (by decide) (by decide) (sp' := 0) (dp' := 0) (n' := 72) (by decide) (by decide) (by decide) (by decide) (by decide) km_X6_34 (Nat.succ_pos _) (Nat.le_of_ble_eq_true rfl) dX6_copyFrom_103 ?_
  exact go_vret K hr (congrArg (fun z => (z, O)) (Option.some.inj h)) dX6_copyFrom_106
noncomputable def f_X11_isLaw (v0 : Int32) : Int32 := (if v0 < (128 : Int32) then (0 : Int32) else (if (131 : Int32) < v0 then (0 : Int32) else (1 : Int32)))
theorem cf_X11_isLaw : CF yX11_isLaw cX11_isLaw 1 (Option.some Jvm.ClassFile.FieldType.boolean) 1 := ⟨kc_X11_isLaw, kj_X11, ⟨by decide +kernel, by decide +kernel, by decide +kernel⟩, by decide⟩
set_option maxHeartbeats 4000000 in
set_option maxRecDepth 100000 in
theorem c_X11_isLaw (l : Launch) (G : GT) (v0 : Int32) (C : CM) (O : OM) (res : Int32) (h : f_X11_isLaw v0 = res) : MI l G yX11_isLaw cX11_isLaw 1 (Option.some Jvm.ClassFile.FieldType.boolean) (1) [.int v0] (C, O) res (C, O) := by
  unfold MI
  refine met_in RX11 (by decide +kernel) rfl [(0, .int v0)] rfl (Nat.le_of_ble_eq_true rfl) ?_
  intro pM eM sM mM aM bM meM cM K hr
  rw [f_X11_isLaw] at h
  refine go_sipush (v := (128 : Int32)) K dX11_isLaw_0 (by decide) ?_
  refine go_iload_n K dX11_isLaw_3 0 rfl rfl ?_
  refine go_icmp_gt (tgt := 18) K dX11_isLaw_4 (by decide) (fun c1 => ?_) (fun c1 => ?_)
  · replace h := ite_t h c1
    refine go_iconst (v := (0 : Int32)) K dX11_isLaw_18 (by decide) ?_
    exact go_zret K hr (by decide) h rfl dX11_isLaw_19
  replace h := ite_f h c1
  refine go_iload_n K dX11_isLaw_7 0 rfl rfl ?_
  refine go_sipush (v := (131 : Int32)) K dX11_isLaw_8 (by decide) ?_
  refine go_icmp_gt (tgt := 18) K dX11_isLaw_11 (by decide) (fun c2 => ?_) (fun c2 => ?_)
  · replace h := ite_t h c2
    refine go_iconst (v := (0 : Int32)) K dX11_isLaw_18 (by decide) ?_
    exact go_zret K hr (by decide) h rfl dX11_isLaw_19
  replace h := ite_f h c2
  refine go_iconst (v := (1 : Int32)) K dX11_isLaw_14 (by decide) ?_
  refine go_goto (tgt := 19) K dX11_isLaw_15 (by decide) ?_
  exact go_zret K hr (by decide) h rfl dX11_isLaw_19
noncomputable def X6_begin_j33 (s : Nat) (v1 : Int32) (C : CM) : Option CM := (if (f_X11_isLaw v1) = 0 then (some C) else (gd (inb (v1 - (128 : Int32)) 4) (gd (inb (v1 - (128 : Int32)) 4) (some (up2 (up2 C (s + 2) (v1 - (128 : Int32)).toNatClampNeg (C s 5)) (s + 3) (v1 - (128 : Int32)).toNatClampNeg ((up2 C (s + 2) (v1 - (128 : Int32)).toNatClampNeg (C s 5)) s 5))))))
noncomputable def f_X6_begin (s : Nat) (v1 : Int32) (C : CM) : Option CM := (if (f_X11_within (C s 6) (0 : Int32) (23 : Int32)) = 0 then (X6_begin_j33 s v1 C) else (gd (inb (C s 6) 24) (X6_begin_j33 s v1 (up2 (up2 C (s + 4) (C s 6).toNatClampNeg v1) s 6 (((up2 C (s + 4) (C s 6).toNatClampNeg v1) s 6) + (1 : Int32))))))
theorem cf_X6_begin : CF yX6_begin cX6_begin 2 (Option.none : Option Jvm.ClassFile.FieldType) 1 := ⟨kc_X6_begin, kj_X6, ⟨by decide +kernel, by decide +kernel, by decide +kernel⟩, by decide⟩
theorem cv_X6_begin : CFv yX6_begin := ⟨ki_X6_begin, ks_X6_begin⟩
set_option maxHeartbeats 4000000 in
set_option maxRecDepth 100000 in
theorem c_X6_begin (l : Launch) (G : GT) {s : Nat} (hs : ScAt s) (v1 : Int32) (C : CM) (O : OM) (C' : CM) (h : f_X6_begin s v1 C = some C') : MV l G yX6_begin cX6_begin 2 (Option.none : Option Jvm.ClassFile.FieldType) (2) [.ref (gB G + s), .int v1] (C, O) (C', O) := by
  unfold MV
  refine met_in RX6 (by decide +kernel) rfl [(0, .ref (gB G + s)), (1, .int v1)] rfl (Nat.le_of_ble_eq_true rfl) ?_
  intro pM eM sM mM aM bM meM cM K hr
  have hj33 : ∀ (v1 : Int32) (C : CM), X6_begin_j33 s v1 C = some C' → GO pM l eM (2) sM mM aM bM meM cM (MQ bM (va_Qv (fun (u : CM × OM) => u = (C', O)) (wB G) (Fr G)) aM sM 0 0 (Fr G)) G 2 (C, O) 33 [(0, .ref (gB G + s)), (1, .int v1)] [] := by
    intro v1 C h
    rw [X6_begin_j33] at h
    refine go_iload_n K dX6_begin_33 1 rfl rfl ?_
    refine go_cNI K (c_X11_isLaw l G _ _ _ _ rfl) cf_X11_isLaw kt_X11_isLaw (List.mem_of_getElem? (i := 11) rfl) (by decide) rfl rfl (Nat.le_of_ble_eq_true rfl) dX6_begin_34 ?_
    refine go_if_eq (tgt := 68) K dX6_begin_37 (by decide) (fun c2 => ?_) (fun c2 => ?_)
    · replace h := ite_t h c2
      exact go_vret K hr (congrArg (fun z => (z, O)) (Option.some.inj h)) dX6_begin_68
    replace h := ite_f h c2
    refine go_aload_n K dX6_begin_40 0 rfl rfl ?_
    refine gf_X6 K hs 1 (by decide) kf_X6_15 (v := .ref (gB G + (s + 2))) rfl dX6_begin_41 ?_
    refine go_iload_n K dX6_begin_44 1 rfl rfl ?_
    refine go_sipush (v := (128 : Int32)) K dX6_begin_45 (by decide) ?_
    refine go_isub K dX6_begin_48 ?_
    refine go_aload_n K dX6_begin_49 0 rfl rfl ?_
    refine gf_X6 K hs 5 (by decide) kf_X6_27 (v := .int (C s 5)) rfl dX6_begin_50 ?_
    obtain ⟨g3, h⟩ := gd_e h
    refine go_cast K (sc_lt hs 2 (by decide)) (hs.2.2.2.1) g3 rfl dX6_begin_53 ?_
    refine go_aload_n K dX6_begin_54 0 rfl rfl ?_
    refine gf_X6 K hs 2 (by decide) kf_X6_18 (v := .ref (gB G + (s + 3))) rfl dX6_begin_55 ?_
    refine go_iload_n K dX6_begin_58 1 rfl rfl ?_
    refine go_sipush (v := (128 : Int32)) K dX6_begin_59 (by decide) ?_
    refine go_isub K dX6_begin_62 ?_
    refine go_aload_n K dX6_begin_63 0 rfl rfl ?_
    refine gf_X6 K hs 5 (by decide) kf_X6_27 (v := .int ((up2 C (s + 2) (v1 - (128 : Int32)).toNatClampNeg (C s 5)) s 5)) rfl dX6_begin_64 ?_
    obtain ⟨g4, h⟩ := gd_e h
    refine go_cast K (sc_lt hs 3 (by decide)) (hs.2.2.2.2.1) g4 rfl dX6_begin_67 ?_
    exact go_vret K hr (congrArg (fun z => (z, O)) (Option.some.inj h)) dX6_begin_68
  rw [f_X6_begin] at h
  refine go_aload_n K dX6_begin_0 0 rfl rfl ?_
  refine gf_X6 K hs 6 (by decide) kf_X6_31 (v := .int (C s 6)) rfl dX6_begin_1 ?_
  refine go_iconst (v := (0 : Int32)) K dX6_begin_4 (by decide) ?_
  refine go_bipush (v := (23 : Int32)) K dX6_begin_5 (by decide) ?_
  refine go_cNI K (c_X11_within l G _ _ _ _ _ _ rfl) cf_X11_within kt_X11_within (List.mem_of_getElem? (i := 12) rfl) (by decide) rfl rfl (Nat.le_of_ble_eq_true rfl) dX6_begin_7 ?_
  refine go_if_eq (tgt := 33) K dX6_begin_10 (by decide) (fun c1 => ?_) (fun c1 => ?_)
  · replace h := ite_t h c1
    exact hj33 _ _ h
  replace h := ite_f h c1
  refine go_aload_n K dX6_begin_13 0 rfl rfl ?_
  refine gf_X6 K hs 3 (by decide) kf_X6_21 (v := .ref (gB G + (s + 4))) rfl dX6_begin_14 ?_
  refine go_aload_n K dX6_begin_17 0 rfl rfl ?_
  refine gf_X6 K hs 6 (by decide) kf_X6_31 (v := .int (C s 6)) rfl dX6_begin_18 ?_
  refine go_iload_n K dX6_begin_21 1 rfl rfl ?_
  obtain ⟨g5, h⟩ := gd_e h
  refine go_cast K (sc_lt hs 4 (by decide)) (hs.2.2.2.2.2.1) g5 rfl dX6_begin_22 ?_
  refine go_aload_n K dX6_begin_23 0 rfl rfl ?_
  refine go_dup K dX6_begin_24 rfl ?_
  refine gf_X6 K hs 6 (by decide) kf_X6_31 (v := .int ((up2 C (s + 4) (C s 6).toNatClampNeg v1) s 6)) rfl dX6_begin_25 ?_
  refine go_iconst (v := (1 : Int32)) K dX6_begin_28 (by decide) ?_
  refine go_iadd K dX6_begin_29 ?_
  refine pf_X6 K hs 6 (by decide) kf_X6_31 rfl rfl rfl dX6_begin_30 ?_
  exact hj33 _ _ h
noncomputable def f_X6_endLaw (s : Nat) (v1 : Int32) (C : CM) : Option CM := (if (f_X11_isLaw v1) = 0 then (some C) else (gd (inb (v1 - (128 : Int32)) 4) (some (up2 C (s + 3) (v1 - (128 : Int32)).toNatClampNeg (C s 5)))))
theorem cf_X6_endLaw : CF yX6_endLaw cX6_endLaw 2 (Option.none : Option Jvm.ClassFile.FieldType) 1 := ⟨kc_X6_endLaw, kj_X6, ⟨by decide +kernel, by decide +kernel, by decide +kernel⟩, by decide⟩
theorem cv_X6_endLaw : CFv yX6_endLaw := ⟨ki_X6_endLaw, ks_X6_endLaw⟩
set_option maxHeartbeats 4000000 in
set_option maxRecDepth 100000 in
theorem c_X6_endLaw (l : Launch) (G : GT) {s : Nat} (hs : ScAt s) (v1 : Int32) (C : CM) (O : OM) (C' : CM) (h : f_X6_endLaw s v1 C = some C') : MV l G yX6_endLaw cX6_endLaw 2 (Option.none : Option Jvm.ClassFile.FieldType) (2) [.ref (gB G + s), .int v1] (C, O) (C', O) := by
  unfold MV
  refine met_in RX6 (by decide +kernel) rfl [(0, .ref (gB G + s)), (1, .int v1)] rfl (Nat.le_of_ble_eq_true rfl) ?_
  intro pM eM sM mM aM bM meM cM K hr
  rw [f_X6_endLaw] at h
  refine go_iload_n K dX6_endLaw_0 1 rfl rfl ?_
  refine go_cNI K (c_X11_isLaw l G _ _ _ _ rfl) cf_X11_isLaw kt_X11_isLaw (List.mem_of_getElem? (i := 11) rfl) (by decide) rfl rfl (Nat.le_of_ble_eq_true rfl) dX6_endLaw_1 ?_
  refine go_if_eq (tgt := 21) K dX6_endLaw_4 (by decide) (fun c1 => ?_) (fun c1 => ?_)
  · replace h := ite_t h c1
    exact go_vret K hr (congrArg (fun z => (z, O)) (Option.some.inj h)) dX6_endLaw_21
  replace h := ite_f h c1
  refine go_aload_n K dX6_endLaw_7 0 rfl rfl ?_
  refine gf_X6 K hs 2 (by decide) kf_X6_18 (v := .ref (gB G + (s + 3))) rfl dX6_endLaw_8 ?_
  refine go_iload_n K dX6_endLaw_11 1 rfl rfl ?_
  refine go_sipush (v := (128 : Int32)) K dX6_endLaw_12 (by decide) ?_
  refine go_isub K dX6_endLaw_15 ?_
  refine go_aload_n K dX6_endLaw_16 0 rfl rfl ?_
  refine gf_X6 K hs 5 (by decide) kf_X6_27 (v := .int (C s 5)) rfl dX6_endLaw_17 ?_
  obtain ⟨g2, h⟩ := gd_e h
  refine go_cast K (sc_lt hs 3 (by decide)) (hs.2.2.2.2.1) g2 rfl dX6_endLaw_20 ?_
  exact go_vret K hr (congrArg (fun z => (z, O)) (Option.some.inj h)) dX6_endLaw_21
