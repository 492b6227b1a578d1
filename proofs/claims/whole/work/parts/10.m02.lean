noncomputable def f_X6_tellNumber (s : Nat) (v1 : Int32) (v2 : Int32) (C : CM) : Option CM := (if (f_X11_within v1 (0 : Int32) (2 : Int32)) = 0 then (some C) else (if (f_X11_within ((((C s 6) - (1 : Int32)) * (3 : Int32)) + v1) (0 : Int32) (71 : Int32)) = 0 then (some C) else (gd (inb ((((C s 6) - (1 : Int32)) * (3 : Int32)) + v1) 72) (some (up2 C (s + 5) ((((C s 6) - (1 : Int32)) * (3 : Int32)) + v1).toNatClampNeg v2)))))
theorem cf_X6_tellNumber : CF yX6_tellNumber cX6_tellNumber 4 (Option.none : Option Jvm.ClassFile.FieldType) 2 := ⟨kc_X6_tellNumber, kj_X6, ⟨by decide +kernel, by decide +kernel, by decide +kernel⟩, by decide⟩
theorem cv_X6_tellNumber : CFv yX6_tellNumber := ⟨ki_X6_tellNumber, ks_X6_tellNumber⟩
set_option maxHeartbeats 4000000 in
set_option maxRecDepth 100000 in
theorem c_X6_tellNumber (l : Launch) (G : GT) {s : Nat} (hs : ScAt s) (v1 : Int32) (v2 : Int32) (C : CM) (O : OM) (C' : CM) (h : f_X6_tellNumber s v1 v2 C = some C') : MV l G yX6_tellNumber cX6_tellNumber 4 (Option.none : Option Jvm.ClassFile.FieldType) (2) [.ref (gB G + s), .int v1, .int v2] (C, O) (C', O) := by
  unfold MV
  refine met_in RX6 (by decide +kernel) rfl [(0, .ref (gB G + s)), (1, .int v1), (2, .int v2)] rfl (Nat.le_of_ble_eq_true rfl) ?_
  intro pM eM sM mM aM bM meM cM K hr
  rw [f_X6_tellNumber] at h
  refine go_aload_n K dX6_tellNumber_0 0 rfl rfl ?_
  refine gf_X6 K hs 6 (by decide) kf_X6_31 (v := .int (C s 6)) rfl dX6_tellNumber_1 ?_
  refine go_iconst (v := (1 : Int32)) K dX6_tellNumber_4 (by decide) ?_
  refine go_isub K dX6_tellNumber_5 ?_
  refine go_iconst (v := (3 : Int32)) K dX6_tellNumber_6 (by decide) ?_
  refine go_imul K dX6_tellNumber_7 ?_
  refine go_iload_n K dX6_tellNumber_8 1 rfl rfl ?_
  refine go_iadd K dX6_tellNumber_9 ?_
  refine go_istore_n K dX6_tellNumber_10 rfl (by decide) (lv' := [(3, .int ((((C s 6) - (1 : Int32)) * (3 : Int32)) + v1)), (0, .ref (gB G + s)), (1, .int v1), (2, .int v2)]) rfl ?_
  refine go_iload_n K dX6_tellNumber_11 2 rfl rfl ?_
  refine go_iconst (v := (0 : Int32)) K dX6_tellNumber_12 (by decide) ?_
  refine go_iconst (v := (2 : Int32)) K dX6_tellNumber_13 (by decide) ?_
  refine go_cNI K (c_X11_within l G _ _ _ _ _ _ rfl) cf_X11_within kt_X11_within (List.mem_of_getElem? (i := 12) rfl) (by decide) rfl rfl (Nat.le_of_ble_eq_true rfl) dX6_tellNumber_14 ?_
  refine go_if_eq (tgt := 42) K dX6_tellNumber_17 (by decide) (fun c1 => ?_) (fun c1 => ?_)
  · replace h := ite_t h c1
    exact go_vret K hr (congrArg (fun z => (z, O)) (Option.some.inj h)) dX6_tellNumber_42
  replace h := ite_f h c1
  refine go_iload_n K dX6_tellNumber_20 0 rfl rfl ?_
  refine go_iconst (v := (0 : Int32)) K dX6_tellNumber_21 (by decide) ?_
  refine go_aload_n K dX6_tellNumber_22 1 rfl rfl ?_
  refine gf_X6 K hs 4 (by decide) kf_X6_24 (v := .ref (gB G + (s + 5))) rfl dX6_tellNumber_23 ?_
  refine go_clen K (sc_lt hs 5 (by decide)) (hs.2.2.2.2.2.2) (v := (72 : Int32)) rfl dX6_tellNumber_26 ?_
  refine go_iconst (v := (1 : Int32)) K dX6_tellNumber_27 (by decide) ?_
  refine go_isub K dX6_tellNumber_28 ?_
  refine go_fold (y := (71 : Int32)) (by decide) ?_
  refine go_cNI K (c_X11_within l G _ _ _ _ _ _ rfl) cf_X11_within kt_X11_within (List.mem_of_getElem? (i := 12) rfl) (by decide) rfl rfl (Nat.le_of_ble_eq_true rfl) dX6_tellNumber_29 ?_
  refine go_if_eq (tgt := 42) K dX6_tellNumber_32 (by decide) (fun c2 => ?_) (fun c2 => ?_)
  · replace h := ite_t h c2
    exact go_vret K hr (congrArg (fun z => (z, O)) (Option.some.inj h)) dX6_tellNumber_42
  replace h := ite_f h c2
  refine go_aload_n K dX6_tellNumber_35 1 rfl rfl ?_
  refine gf_X6 K hs 4 (by decide) kf_X6_24 (v := .ref (gB G + (s + 5))) rfl dX6_tellNumber_36 ?_
  refine go_iload_n K dX6_tellNumber_39 0 rfl rfl ?_
  refine go_iload_n K dX6_tellNumber_40 3 rfl rfl ?_
  obtain ⟨g3, h⟩ := gd_e h
  refine go_cast K (sc_lt hs 5 (by decide)) (hs.2.2.2.2.2.2) g3 rfl dX6_tellNumber_41 ?_
  exact go_vret K hr (congrArg (fun z => (z, O)) (Option.some.inj h)) dX6_tellNumber_42
noncomputable def X6_emit_j44 (s : Nat) (C : CM) : Option (Int32 × CM) := (some (((C s 5) - (1 : Int32)), C))
noncomputable def f_X6_emit (s : Nat) (v1 : Int32) (v2 : Int32) (C : CM) : Option (Int32 × CM) := (if (f_X11_within (C s 5) (0 : Int32) (299 : Int32)) = 0 then (X6_emit_j44 s C) else (gd (inb (C s 5) 300) (X6_emit_j44 s (up2 (up2 C (s + 1) (C s 5).toNatClampNeg ((v2 * (256 : Int32)) + v1)) s 5 (((up2 C (s + 1) (C s 5).toNatClampNeg ((v2 * (256 : Int32)) + v1)) s 5) + (1 : Int32))))))
theorem cf_X6_emit : CF yX6_emit cX6_emit 3 (Option.some Jvm.ClassFile.FieldType.int) 2 := ⟨kc_X6_emit, kj_X6, ⟨by decide +kernel, by decide +kernel, by decide +kernel⟩, by decide⟩
theorem cv_X6_emit : CFv yX6_emit := ⟨ki_X6_emit, ks_X6_emit⟩
set_option maxHeartbeats 4000000 in
set_option maxRecDepth 100000 in
theorem c_X6_emit (l : Launch) (G : GT) {s : Nat} (hs : ScAt s) (v1 : Int32) (v2 : Int32) (C : CM) (O : OM) (res : Int32) (C' : CM) (h : f_X6_emit s v1 v2 C = some (res, C')) : MI l G yX6_emit cX6_emit 3 (Option.some Jvm.ClassFile.FieldType.int) (2) [.ref (gB G + s), .int v1, .int v2] (C, O) res (C', O) := by
  unfold MI
  refine met_in RX6 (by decide +kernel) rfl [(0, .ref (gB G + s)), (1, .int v1), (2, .int v2)] rfl (Nat.le_of_ble_eq_true rfl) ?_
  intro pM eM sM mM aM bM meM cM K hr
  have hj44 : ∀ (C : CM), X6_emit_j44 s C = some (res, C') → GO pM l eM (2) sM mM aM bM meM cM (MQ bM (va_Qi (fun (r' : Int32) (u : CM × OM) => r' = res ∧ u = (C', O)) (wB G) (Fr G)) aM sM 0 0 (Fr G)) G 3 (C, O) 44 [(0, .ref (gB G + s))] [] := by
    intro C h
    rw [X6_emit_j44] at h
    refine go_aload_n K dX6_emit_44 0 rfl rfl ?_
    refine gf_X6 K hs 5 (by decide) kf_X6_27 (v := .int (C s 5)) rfl dX6_emit_45 ?_
    refine go_iconst (v := (1 : Int32)) K dX6_emit_48 (by decide) ?_
    refine go_isub K dX6_emit_49 ?_
    exact go_iret K hr (Prod.mk.inj (Option.some.inj h)).1 (congrArg (fun z => (z, O)) (Prod.mk.inj (Option.some.inj h)).2) dX6_emit_50
  rw [f_X6_emit] at h
  refine go_aload_n K dX6_emit_0 0 rfl rfl ?_
  refine gf_X6 K hs 5 (by decide) kf_X6_27 (v := .int (C s 5)) rfl dX6_emit_1 ?_
  refine go_iconst (v := (0 : Int32)) K dX6_emit_4 (by decide) ?_
  refine go_aload_n K dX6_emit_5 0 rfl rfl ?_
  refine gf_X6 K hs 0 (by decide) kf_X6_9 (v := .ref (gB G + (s + 1))) rfl dX6_emit_6 ?_
  refine go_clen K (sc_lt hs 1 (by decide)) (hs.2.2.1) (v := (300 : Int32)) rfl dX6_emit_9 ?_
  refine go_iconst (v := (1 : Int32)) K dX6_emit_10 (by decide) ?_
  refine go_isub K dX6_emit_11 ?_
  refine go_fold (y := (299 : Int32)) (by decide) ?_
  refine go_cNI K (c_X11_within l G _ _ _ _ _ _ rfl) cf_X11_within kt_X11_within (List.mem_of_getElem? (i := 12) rfl) (by decide) rfl rfl (Nat.le_of_ble_eq_true rfl) dX6_emit_12 ?_
  refine go_if_eq (tgt := 44) K dX6_emit_15 (by decide) (fun c1 => ?_) (fun c1 => ?_)
  · replace h := ite_t h c1
    exact go_sub [0] rfl (hj44 _ h)
  replace h := ite_f h c1
  refine go_aload_n K dX6_emit_18 0 rfl rfl ?_
  refine gf_X6 K hs 0 (by decide) kf_X6_9 (v := .ref (gB G + (s + 1))) rfl dX6_emit_19 ?_
  refine go_aload_n K dX6_emit_22 0 rfl rfl ?_
  refine gf_X6 K hs 5 (by decide) kf_X6_27 (v := .int (C s 5)) rfl dX6_emit_23 ?_
  refine go_iload_n K dX6_emit_26 2 rfl rfl ?_
  refine go_sipush (v := (256 : Int32)) K dX6_emit_27 (by decide) ?_
  refine go_imul K dX6_emit_30 ?_
  refine go_iload_n K dX6_emit_31 1 rfl rfl ?_
  refine go_iadd K dX6_emit_32 ?_
  obtain ⟨g2, h⟩ := gd_e h
  refine go_cast K (sc_lt hs 1 (by decide)) (hs.2.2.1) g2 rfl dX6_emit_33 ?_
  refine go_aload_n K dX6_emit_34 0 rfl rfl ?_
  refine go_dup K dX6_emit_35 rfl ?_
  refine gf_X6 K hs 5 (by decide) kf_X6_27 (v := .int ((up2 C (s + 1) (C s 5).toNatClampNeg ((v2 * (256 : Int32)) + v1)) s 5)) rfl dX6_emit_36 ?_
  refine go_iconst (v := (1 : Int32)) K dX6_emit_39 (by decide) ?_
  refine go_iadd K dX6_emit_40 ?_
  refine pf_X6 K hs 5 (by decide) kf_X6_27 rfl rfl rfl dX6_emit_41 ?_
  exact go_sub [0] rfl (hj44 _ h)
noncomputable def f_X6_leadHere (s : Nat) (v1 : Int32) (C : CM) : Option CM := (if (f_X11_within v1 (0 : Int32) ((C s 5) - (1 : Int32))) = 0 then (some C) else (gd (inb v1 300) (gd (inb v1 300) (some (up2 C (s + 1) v1.toNatClampNeg (((C s 5) * (256 : Int32)) + (irm (C (s + 1) v1.toNatClampNeg) (256 : Int32))))))))
theorem cf_X6_leadHere : CF yX6_leadHere cX6_leadHere 2 (Option.none : Option Jvm.ClassFile.FieldType) 1 := ⟨kc_X6_leadHere, kj_X6, ⟨by decide +kernel, by decide +kernel, by decide +kernel⟩, by decide⟩
theorem cv_X6_leadHere : CFv yX6_leadHere := ⟨ki_X6_leadHere, ks_X6_leadHere⟩
set_option maxHeartbeats 4000000 in
set_option maxRecDepth 100000 in
theorem c_X6_leadHere (l : Launch) (G : GT) {s : Nat} (hs : ScAt s) (v1 : Int32) (C : CM) (O : OM) (C' : CM) (h : f_X6_leadHere s v1 C = some C') : MV l G yX6_leadHere cX6_leadHere 2 (Option.none : Option Jvm.ClassFile.FieldType) (2) [.ref (gB G + s), .int v1] (C, O) (C', O) := by
  unfold MV
  refine met_in RX6 (by decide +kernel) rfl [(0, .ref (gB G + s)), (1, .int v1)] rfl (Nat.le_of_ble_eq_true rfl) ?_
  intro pM eM sM mM aM bM meM cM K hr
  rw [f_X6_leadHere] at h
  refine go_iload_n K dX6_leadHere_0 1 rfl rfl ?_
  refine go_iconst (v := (0 : Int32)) K dX6_leadHere_1 (by decide) ?_
  refine go_aload_n K dX6_leadHere_2 0 rfl rfl ?_
  refine gf_X6 K hs 5 (by decide) kf_X6_27 (v := .int (C s 5)) rfl dX6_leadHere_3 ?_
  refine go_iconst (v := (1 : Int32)) K dX6_leadHere_6 (by decide) ?_
  refine go_isub K dX6_leadHere_7 ?_
  refine go_cNI K (c_X11_within l G _ _ _ _ _ _ rfl) cf_X11_within kt_X11_within (List.mem_of_getElem? (i := 12) rfl) (by decide) rfl rfl (Nat.le_of_ble_eq_true rfl) dX6_leadHere_8 ?_
  refine go_if_eq (tgt := 39) K dX6_leadHere_11 (by decide) (fun c1 => ?_) (fun c1 => ?_)
  · replace h := ite_t h c1
    exact go_vret K hr (congrArg (fun z => (z, O)) (Option.some.inj h)) dX6_leadHere_39
  replace h := ite_f h c1
  refine go_aload_n K dX6_leadHere_14 0 rfl rfl ?_
  refine gf_X6 K hs 0 (by decide) kf_X6_9 (v := .ref (gB G + (s + 1))) rfl dX6_leadHere_15 ?_
  refine go_iload_n K dX6_leadHere_18 1 rfl rfl ?_
  refine go_aload_n K dX6_leadHere_19 0 rfl rfl ?_
  refine gf_X6 K hs 5 (by decide) kf_X6_27 (v := .int (C s 5)) rfl dX6_leadHere_20 ?_
  refine go_sipush (v := (256 : Int32)) K dX6_leadHere_23 (by decide) ?_
  refine go_imul K dX6_leadHere_26 ?_
  refine go_aload_n K dX6_leadHere_27 0 rfl rfl ?_
  refine gf_X6 K hs 0 (by decide) kf_X6_9 (v := .ref (gB G + (s + 1))) rfl dX6_leadHere_28 ?_
  refine go_iload_n K dX6_leadHere_31 1 rfl rfl ?_
  obtain ⟨g2, h⟩ := gd_e h
  refine go_cald K (sc_lt hs 1 (by decide)) (hs.2.2.1) g2 rfl dX6_leadHere_32 ?_
  refine go_sipush (v := (256 : Int32)) K dX6_leadHere_33 (by decide) ?_
  refine go_irem K dX6_leadHere_36 (by decide) ?_
  refine go_fold (y := (irm (C (s + 1) v1.toNatClampNeg) (256 : Int32))) rfl ?_
  refine go_iadd K dX6_leadHere_37 ?_
  obtain ⟨g3, h⟩ := gd_e h
  refine go_cast K (sc_lt hs 1 (by decide)) (hs.2.2.1) g3 rfl dX6_leadHere_38 ?_
  exact go_vret K hr (congrArg (fun z => (z, O)) (Option.some.inj h)) dX6_leadHere_39
noncomputable def f_X6_deed (s : Nat) (v1 : Int32) (C : CM) : Option Int32 := (if (f_X11_within v1 (0 : Int32) (23 : Int32)) = 0 then (some (0 : Int32)) else (gd (inb v1 24) (some (C (s + 4) v1.toNatClampNeg))))
theorem cf_X6_deed : CF yX6_deed cX6_deed 2 (Option.some Jvm.ClassFile.FieldType.int) 1 := ⟨kc_X6_deed, kj_X6, ⟨by decide +kernel, by decide +kernel, by decide +kernel⟩, by decide⟩
theorem cv_X6_deed : CFv yX6_deed := ⟨ki_X6_deed, ks_X6_deed⟩
set_option maxHeartbeats 4000000 in
set_option maxRecDepth 100000 in
theorem c_X6_deed (l : Launch) (G : GT) {s : Nat} (hs : ScAt s) (v1 : Int32) (C : CM) (O : OM) (res : Int32) (h : f_X6_deed s v1 C = some res) : MI l G yX6_deed cX6_deed 2 (Option.some Jvm.ClassFile.FieldType.int) (2) [.ref (gB G + s), .int v1] (C, O) res (C, O) := by
  unfold MI
  refine met_in RX6 (by decide +kernel) rfl [(0, .ref (gB G + s)), (1, .int v1)] rfl (Nat.le_of_ble_eq_true rfl) ?_
  intro pM eM sM mM aM bM meM cM K hr
  rw [f_X6_deed] at h
  refine go_iload_n K dX6_deed_0 1 rfl rfl ?_
  refine go_iconst (v := (0 : Int32)) K dX6_deed_1 (by decide) ?_
  refine go_bipush (v := (23 : Int32)) K dX6_deed_2 (by decide) ?_
  refine go_cNI K (c_X11_within l G _ _ _ _ _ _ rfl) cf_X11_within kt_X11_within (List.mem_of_getElem? (i := 12) rfl) (by decide) rfl rfl (Nat.le_of_ble_eq_true rfl) dX6_deed_4 ?_
  refine go_if_eq (tgt := 19) K dX6_deed_7 (by decide) (fun c1 => ?_) (fun c1 => ?_)
  · replace h := ite_t h c1
    refine go_iconst (v := (0 : Int32)) K dX6_deed_19 (by decide) ?_
    exact go_iret K hr (Option.some.inj h) rfl dX6_deed_20
  replace h := ite_f h c1
  refine go_aload_n K dX6_deed_10 0 rfl rfl ?_
  refine gf_X6 K hs 3 (by decide) kf_X6_21 (v := .ref (gB G + (s + 4))) rfl dX6_deed_11 ?_
  refine go_iload_n K dX6_deed_14 1 rfl rfl ?_
  obtain ⟨g2, h⟩ := gd_e h
  refine go_cald K (sc_lt hs 4 (by decide)) (hs.2.2.2.2.2.1) g2 rfl dX6_deed_15 ?_
  refine go_goto (tgt := 20) K dX6_deed_16 (by decide) ?_
  exact go_iret K hr (Option.some.inj h) rfl dX6_deed_20
noncomputable def X6_number_j24 (s : Nat) (v1 : Int32) (v2 : Int32) (t0 : Int32) (C : CM) : Option Int32 := (if t0 = 0 then (some (-1 : Int32)) else (gd (inb ((v1 * (3 : Int32)) + v2) 72) (some (C (s + 5) ((v1 * (3 : Int32)) + v2).toNatClampNeg))))
noncomputable def X6_number_j23 (s : Nat) (v1 : Int32) (v2 : Int32) (C : CM) : Option Int32 := (X6_number_j24 s v1 v2 (0 : Int32) C)
noncomputable def f_X6_number (s : Nat) (v1 : Int32) (v2 : Int32) (C : CM) : Option Int32 := (if (f_X11_within v1 (0 : Int32) (23 : Int32)) = 0 then (X6_number_j23 s v1 v2 C) else (if (f_X11_within v2 (0 : Int32) (2 : Int32)) = 0 then (X6_number_j23 s v1 v2 C) else (X6_number_j24 s v1 v2 (1 : Int32) C)))
theorem cf_X6_number : CF yX6_number cX6_number 4 (Option.some Jvm.ClassFile.FieldType.int) 2 := ⟨kc_X6_number, kj_X6, ⟨by decide +kernel, by decide +kernel, by decide +kernel⟩, by decide⟩
theorem cv_X6_number : CFv yX6_number := ⟨ki_X6_number, ks_X6_number⟩
set_option maxHeartbeats 4000000 in
set_option maxRecDepth 100000 in
theorem c_X6_number (l : Launch) (G : GT) {s : Nat} (hs : ScAt s) (v1 : Int32) (v2 : Int32) (C : CM) (O : OM) (res : Int32) (h : f_X6_number s v1 v2 C = some res) : MI l G yX6_number cX6_number 4 (Option.some Jvm.ClassFile.FieldType.int) (2) [.ref (gB G + s), .int v1, .int v2] (C, O) res (C, O) := by
  unfold MI
  refine met_in RX6 (by decide +kernel) rfl [(0, .ref (gB G + s)), (1, .int v1), (2, .int v2)] rfl (Nat.le_of_ble_eq_true rfl) ?_
  intro pM eM sM mM aM bM meM cM K hr
  have hj24 : ∀ (v1 : Int32) (v2 : Int32) (t0 : Int32), X6_number_j24 s v1 v2 t0 C = some res → GO pM l eM (2) sM mM aM bM meM cM (MQ bM (va_Qi (fun (r' : Int32) (u : CM × OM) => r' = res ∧ u = (C, O)) (wB G) (Fr G)) aM sM 0 0 (Fr G)) G 4 (C, O) 24 [(0, .ref (gB G + s)), (1, .int v1), (2, .int v2)] [.int t0] := by
    intro v1 v2 t0 h
    rw [X6_number_j24] at h
    refine go_istore_n K dX6_number_24 rfl (by decide) (lv' := [(3, .int t0), (0, .ref (gB G + s)), (1, .int v1), (2, .int v2)]) rfl ?_
    refine go_iload_n K dX6_number_25 0 rfl rfl ?_
    refine go_if_eq (tgt := 42) K dX6_number_26 (by decide) (fun c2 => ?_) (fun c2 => ?_)
    · replace h := ite_t h c2
      refine go_iconst (v := (-1 : Int32)) K dX6_number_42 (by decide) ?_
      exact go_iret K hr (Option.some.inj h) rfl dX6_number_43
    replace h := ite_f h c2
    refine go_aload_n K dX6_number_29 1 rfl rfl ?_
    refine gf_X6 K hs 4 (by decide) kf_X6_24 (v := .ref (gB G + (s + 5))) rfl dX6_number_30 ?_
    refine go_iload_n K dX6_number_33 2 rfl rfl ?_
    refine go_iconst (v := (3 : Int32)) K dX6_number_34 (by decide) ?_
    refine go_imul K dX6_number_35 ?_
    refine go_iload_n K dX6_number_36 3 rfl rfl ?_
    refine go_iadd K dX6_number_37 ?_
    obtain ⟨g3, h⟩ := gd_e h
    refine go_cald K (sc_lt hs 5 (by decide)) (hs.2.2.2.2.2.2) g3 rfl dX6_number_38 ?_
    refine go_goto (tgt := 43) K dX6_number_39 (by decide) ?_
    exact go_iret K hr (Option.some.inj h) rfl dX6_number_43
  have hj23 : ∀ (v1 : Int32) (v2 : Int32), X6_number_j23 s v1 v2 C = some res → GO pM l eM (2) sM mM aM bM meM cM (MQ bM (va_Qi (fun (r' : Int32) (u : CM × OM) => r' = res ∧ u = (C, O)) (wB G) (Fr G)) aM sM 0 0 (Fr G)) G 4 (C, O) 23 [(0, .ref (gB G + s)), (1, .int v1), (2, .int v2)] [] := by
    intro v1 v2 h
    rw [X6_number_j23] at h
    refine go_iconst (v := (0 : Int32)) K dX6_number_23 (by decide) ?_
    exact hj24 _ _ _ h
  rw [f_X6_number] at h
  refine go_iload_n K dX6_number_0 1 rfl rfl ?_
  refine go_iconst (v := (0 : Int32)) K dX6_number_1 (by decide) ?_
  refine go_bipush (v := (23 : Int32)) K dX6_number_2 (by decide) ?_
  refine go_cNI K (c_X11_within l G _ _ _ _ _ _ rfl) cf_X11_within kt_X11_within (List.mem_of_getElem? (i := 12) rfl) (by decide) rfl rfl (Nat.le_of_ble_eq_true rfl) dX6_number_4 ?_
  refine go_if_eq (tgt := 23) K dX6_number_7 (by decide) (fun c1 => ?_) (fun c1 => ?_)
  · replace h := ite_t h c1
    exact hj23 _ _ h
  replace h := ite_f h c1
  refine go_iload_n K dX6_number_10 2 rfl rfl ?_
  refine go_iconst (v := (0 : Int32)) K dX6_number_11 (by decide) ?_
  refine go_iconst (v := (2 : Int32)) K dX6_number_12 (by decide) ?_
  refine go_cNI K (c_X11_within l G _ _ _ _ _ _ rfl) cf_X11_within kt_X11_within (List.mem_of_getElem? (i := 12) rfl) (by decide) rfl rfl (Nat.le_of_ble_eq_true rfl) dX6_number_13 ?_
  refine go_if_eq (tgt := 23) K dX6_number_16 (by decide) (fun c4 => ?_) (fun c4 => ?_)
  · replace h := ite_t h c4
    exact hj23 _ _ h
  replace h := ite_f h c4
  refine go_iconst (v := (1 : Int32)) K dX6_number_19 (by decide) ?_
  refine go_goto (tgt := 24) K dX6_number_20 (by decide) ?_
  exact hj24 _ _ _ h
noncomputable def f_X6_has (s : Nat) (v1 : Int32) (C : CM) : Option Int32 := (if (f_X11_isLaw v1) = 0 then (some (0 : Int32)) else (gd (inb (v1 - (128 : Int32)) 4) (gd (inb (v1 - (128 : Int32)) 4) (if (C (s + 3) (v1 - (128 : Int32)).toNatClampNeg) ≤ (C (s + 2) (v1 - (128 : Int32)).toNatClampNeg) then (some (0 : Int32)) else (some (1 : Int32))))))
theorem cf_X6_has : CF yX6_has cX6_has 2 (Option.some Jvm.ClassFile.FieldType.boolean) 1 := ⟨kc_X6_has, kj_X6, ⟨by decide +kernel, by decide +kernel, by decide +kernel⟩, by decide⟩
theorem cv_X6_has : CFv yX6_has := ⟨ki_X6_has, ks_X6_has⟩
set_option maxHeartbeats 4000000 in
set_option maxRecDepth 100000 in
theorem c_X6_has (l : Launch) (G : GT) {s : Nat} (hs : ScAt s) (v1 : Int32) (C : CM) (O : OM) (res : Int32) (h : f_X6_has s v1 C = some res) : MI l G yX6_has cX6_has 2 (Option.some Jvm.ClassFile.FieldType.boolean) (2) [.ref (gB G + s), .int v1] (C, O) res (C, O) := by
  unfold MI
  refine met_in RX6 (by decide +kernel) rfl [(0, .ref (gB G + s)), (1, .int v1)] rfl (Nat.le_of_ble_eq_true rfl) ?_
  intro pM eM sM mM aM bM meM cM K hr
  rw [f_X6_has] at h
  refine go_iload_n K dX6_has_0 1 rfl rfl ?_
  refine go_cNI K (c_X11_isLaw l G _ _ _ _ rfl) cf_X11_isLaw kt_X11_isLaw (List.mem_of_getElem? (i := 11) rfl) (by decide) rfl rfl (Nat.le_of_ble_eq_true rfl) dX6_has_1 ?_
  refine go_if_eq (tgt := 34) K dX6_has_4 (by decide) (fun c1 => ?_) (fun c1 => ?_)
  · replace h := ite_t h c1
    refine go_iconst (v := (0 : Int32)) K dX6_has_34 (by decide) ?_
    exact go_zret K hr (by decide) (Option.some.inj h) rfl dX6_has_35
  replace h := ite_f h c1
  refine go_aload_n K dX6_has_7 0 rfl rfl ?_
  refine gf_X6 K hs 1 (by decide) kf_X6_15 (v := .ref (gB G + (s + 2))) rfl dX6_has_8 ?_
  refine go_iload_n K dX6_has_11 1 rfl rfl ?_
  refine go_sipush (v := (128 : Int32)) K dX6_has_12 (by decide) ?_
  refine go_isub K dX6_has_15 ?_
  obtain ⟨g2, h⟩ := gd_e h
  refine go_cald K (sc_lt hs 2 (by decide)) (hs.2.2.2.1) g2 rfl dX6_has_16 ?_
  refine go_aload_n K dX6_has_17 0 rfl rfl ?_
  refine gf_X6 K hs 2 (by decide) kf_X6_18 (v := .ref (gB G + (s + 3))) rfl dX6_has_18 ?_
  refine go_iload_n K dX6_has_21 1 rfl rfl ?_
  refine go_sipush (v := (128 : Int32)) K dX6_has_22 (by decide) ?_
  refine go_isub K dX6_has_25 ?_
  obtain ⟨g3, h⟩ := gd_e h
  refine go_cald K (sc_lt hs 3 (by decide)) (hs.2.2.2.2.1) g3 rfl dX6_has_26 ?_
  refine go_icmp_ge (tgt := 34) K dX6_has_27 (by decide) (fun c4 => ?_) (fun c4 => ?_)
  · replace h := ite_t h c4
    refine go_iconst (v := (0 : Int32)) K dX6_has_34 (by decide) ?_
    exact go_zret K hr (by decide) (Option.some.inj h) rfl dX6_has_35
  replace h := ite_f h c4
  refine go_iconst (v := (1 : Int32)) K dX6_has_30 (by decide) ?_
  refine go_goto (tgt := 35) K dX6_has_31 (by decide) ?_
  exact go_zret K hr (by decide) (Option.some.inj h) rfl dX6_has_35
noncomputable def f_X6_start (s : Nat) (v1 : Int32) (C : CM) : Option Int32 := (if (f_X11_isLaw v1) = 0 then (some (0 : Int32)) else (gd (inb (v1 - (128 : Int32)) 4) (some (C (s + 2) (v1 - (128 : Int32)).toNatClampNeg))))
theorem cf_X6_start : CF yX6_start cX6_start 2 (Option.some Jvm.ClassFile.FieldType.int) 1 := ⟨kc_X6_start, kj_X6, ⟨by decide +kernel, by decide +kernel, by decide +kernel⟩, by decide⟩
theorem cv_X6_start : CFv yX6_start := ⟨ki_X6_start, ks_X6_start⟩
set_option maxHeartbeats 4000000 in
set_option maxRecDepth 100000 in
theorem c_X6_start (l : Launch) (G : GT) {s : Nat} (hs : ScAt s) (v1 : Int32) (C : CM) (O : OM) (res : Int32) (h : f_X6_start s v1 C = some res) : MI l G yX6_start cX6_start 2 (Option.some Jvm.ClassFile.FieldType.int) (2) [.ref (gB G + s), .int v1] (C, O) res (C, O) := by
  unfold MI
  refine met_in RX6 (by decide +kernel) rfl [(0, .ref (gB G + s)), (1, .int v1)] rfl (Nat.le_of_ble_eq_true rfl) ?_
  intro pM eM sM mM aM bM meM cM K hr
  rw [f_X6_start] at h
  refine go_iload_n K dX6_start_0 1 rfl rfl ?_
  refine go_cNI K (c_X11_isLaw l G _ _ _ _ rfl) cf_X11_isLaw kt_X11_isLaw (List.mem_of_getElem? (i := 11) rfl) (by decide) rfl rfl (Nat.le_of_ble_eq_true rfl) dX6_start_1 ?_
  refine go_if_eq (tgt := 20) K dX6_start_4 (by decide) (fun c1 => ?_) (fun c1 => ?_)
  · replace h := ite_t h c1
    refine go_iconst (v := (0 : Int32)) K dX6_start_20 (by decide) ?_
    exact go_iret K hr (Option.some.inj h) rfl dX6_start_21
  replace h := ite_f h c1
  refine go_aload_n K dX6_start_7 0 rfl rfl ?_
  refine gf_X6 K hs 1 (by decide) kf_X6_15 (v := .ref (gB G + (s + 2))) rfl dX6_start_8 ?_
  refine go_iload_n K dX6_start_11 1 rfl rfl ?_
  refine go_sipush (v := (128 : Int32)) K dX6_start_12 (by decide) ?_
  refine go_isub K dX6_start_15 ?_
  obtain ⟨g2, h⟩ := gd_e h
  refine go_cald K (sc_lt hs 2 (by decide)) (hs.2.2.2.1) g2 rfl dX6_start_16 ?_
  refine go_goto (tgt := 21) K dX6_start_17 (by decide) ?_
  exact go_iret K hr (Option.some.inj h) rfl dX6_start_21
noncomputable def f_X6_stop (s : Nat) (v1 : Int32) (C : CM) : Option Int32 := (if (f_X11_isLaw v1) = 0 then (some (0 : Int32)) else (gd (inb (v1 - (128 : Int32)) 4) (some (C (s + 3) (v1 - (128 : Int32)).toNatClampNeg))))
theorem cf_X6_stop : CF yX6_stop cX6_stop 2 (Option.some Jvm.ClassFile.FieldType.int) 1 := ⟨kc_X6_stop, kj_X6, ⟨by decide +kernel, by decide +kernel, by decide +kernel⟩, by decide⟩
theorem cv_X6_stop : CFv yX6_stop := ⟨ki_X6_stop, ks_X6_stop⟩
set_option maxHeartbeats 4000000 in
set_option maxRecDepth 100000 in
theorem c_X6_stop (l : Launch) (G : GT) {s : Nat} (hs : ScAt s) (v1 : Int32) (C : CM) (O : OM) (res : Int32) (h : f_X6_stop s v1 C = some res) : MI l G yX6_stop cX6_stop 2 (Option.some Jvm.ClassFile.FieldType.int) (2) [.ref (gB G + s), .int v1] (C, O) res (C, O) := by
  unfold MI
  refine met_in RX6 (by decide +kernel) rfl [(0, .ref (gB G + s)), (1, .int v1)] rfl (Nat.le_of_ble_eq_true rfl) ?_
  intro pM eM sM mM aM bM meM cM K hr
  rw [f_X6_stop] at h
  refine go_iload_n K dX6_stop_0 1 rfl rfl ?_
  refine go_cNI K (c_X11_isLaw l G _ _ _ _ rfl) cf_X11_isLaw kt_X11_isLaw (List.mem_of_getElem? (i := 11) rfl) (by decide) rfl rfl (Nat.le_of_ble_eq_true rfl) dX6_stop_1 ?_
  refine go_if_eq (tgt := 20) K dX6_stop_4 (by decide) (fun c1 => ?_) (fun c1 => ?_)
  · replace h := ite_t h c1
    refine go_iconst (v := (0 : Int32)) K dX6_stop_20 (by decide) ?_
    exact go_iret K hr (Option.some.inj h) rfl dX6_stop_21
  replace h := ite_f h c1
  refine go_aload_n K dX6_stop_7 0 rfl rfl ?_
  refine gf_X6 K hs 2 (by decide) kf_X6_18 (v := .ref (gB G + (s + 3))) rfl dX6_stop_8 ?_
  refine go_iload_n K dX6_stop_11 1 rfl rfl ?_
  refine go_sipush (v := (128 : Int32)) K dX6_stop_12 (by decide) ?_
  refine go_isub K dX6_stop_15 ?_
  obtain ⟨g2, h⟩ := gd_e h
  refine go_cald K (sc_lt hs 3 (by decide)) (hs.2.2.2.2.1) g2 rfl dX6_stop_16 ?_
  refine go_goto (tgt := 21) K dX6_stop_17 (by decide) ?_
  exact go_iret K hr (Option.some.inj h) rfl dX6_stop_21
noncomputable def f_X6_step (s : Nat) (v1 : Int32) (C : CM) : Option Int32 := (if (f_X11_within v1 (0 : Int32) (299 : Int32)) = 0 then (some (0 : Int32)) else (gd (inb v1 300) (some (C (s + 1) v1.toNatClampNeg))))
theorem cf_X6_step : CF yX6_step cX6_step 2 (Option.some Jvm.ClassFile.FieldType.int) 1 := ⟨kc_X6_step, kj_X6, ⟨by decide +kernel, by decide +kernel, by decide +kernel⟩, by decide⟩
theorem cv_X6_step : CFv yX6_step := ⟨ki_X6_step, ks_X6_step⟩
set_option maxHeartbeats 4000000 in
set_option maxRecDepth 100000 in
theorem c_X6_step (l : Launch) (G : GT) {s : Nat} (hs : ScAt s) (v1 : Int32) (C : CM) (O : OM) (res : Int32) (h : f_X6_step s v1 C = some res) : MI l G yX6_step cX6_step 2 (Option.some Jvm.ClassFile.FieldType.int) (2) [.ref (gB G + s), .int v1] (C, O) res (C, O) := by
  unfold MI
  refine met_in RX6 (by decide +kernel) rfl [(0, .ref (gB G + s)), (1, .int v1)] rfl (Nat.le_of_ble_eq_true rfl) ?_
  intro pM eM sM mM aM bM meM cM K hr
  rw [f_X6_step] at h
  refine go_iload_n K dX6_step_0 1 rfl rfl ?_
  refine go_iconst (v := (0 : Int32)) K dX6_step_1 (by decide) ?_
  refine go_aload_n K dX6_step_2 0 rfl rfl ?_
  refine gf_X6 K hs 0 (by decide) kf_X6_9 (v := .ref (gB G + (s + 1))) rfl dX6_step_3 ?_
  refine go_clen K (sc_lt hs 1 (by decide)) (hs.2.2.1) (v := (300 : Int32)) rfl dX6_step_6 ?_
  refine go_iconst (v := (1 : Int32)) K dX6_step_7 (by decide) ?_
  refine go_isub K dX6_step_8 ?_
  refine go_fold (y := (299 : Int32)) (by decide) ?_
  refine go_cNI K (c_X11_within l G _ _ _ _ _ _ rfl) cf_X11_within kt_X11_within (List.mem_of_getElem? (i := 12) rfl) (by decide) rfl rfl (Nat.le_of_ble_eq_true rfl) dX6_step_9 ?_
  refine go_if_eq (tgt := 24) K dX6_step_12 (by decide) (fun c1 => ?_) (fun c1 => ?_)
  · replace h := ite_t h c1
    refine go_iconst (v := (0 : Int32)) K dX6_step_24 (by decide) ?_
    exact go_iret K hr (Option.some.inj h) rfl dX6_step_25
  replace h := ite_f h c1
  refine go_aload_n K dX6_step_15 0 rfl rfl ?_
  refine gf_X6 K hs 0 (by decide) kf_X6_9 (v := .ref (gB G + (s + 1))) rfl dX6_step_16 ?_
  refine go_iload_n K dX6_step_19 1 rfl rfl ?_
  obtain ⟨g2, h⟩ := gd_e h
  refine go_cald K (sc_lt hs 1 (by decide)) (hs.2.2.1) g2 rfl dX6_step_20 ?_
  refine go_goto (tgt := 25) K dX6_step_21 (by decide) ?_
  exact go_iret K hr (Option.some.inj h) rfl dX6_step_25
noncomputable def X8_add_j47 (rc : Int32 → Int32 → CM → Option CM) (v1 : Int32) (v2 : Int32) (C : CM) : Option CM := (rc v1 (v2 + (-8 : Int32)) C)
noncomputable def X8_add_l3 : Nat → Int32 → Int32 → CM → Option CM
  | 0, _, _, _ => none
  | n + 1, v1, v2, C => (if v2 < 0 then (some C) else (if (f_X11_within (C 404 1) (0 : Int32) (299 : Int32)) = 0 then (X8_add_j47 (fun v1 v2 C => X8_add_l3 n v1 v2 C) v1 v2 C) else (gd (inb (C 404 1) 300) (X8_add_j47 (fun v1 v2 C => X8_add_l3 n v1 v2 C) v1 v2 (up2 (up2 C 405 (C 404 1).toNatClampNeg ((v1 >>> (v2 &&& 31)) &&& (255 : Int32))) 404 1 (((up2 C 405 (C 404 1).toNatClampNeg ((v1 >>> (v2 &&& 31)) &&& (255 : Int32))) 404 1) + (1 : Int32)))))))
noncomputable def f_X8_add (v1 : Int32) (C : CM) : Option CM := (X8_add_l3 FU v1 (24 : Int32) C)
theorem cf_X8_add : CF yX8_add cX8_add 3 (Option.none : Option Jvm.ClassFile.FieldType) 1 := ⟨kc_X8_add, kj_X8, ⟨by decide +kernel, by decide +kernel, by decide +kernel⟩, by decide⟩
theorem cv_X8_add : CFv yX8_add := ⟨ki_X8_add, ks_X8_add⟩
set_option maxHeartbeats 4000000 in
set_option maxRecDepth 100000 in
theorem c_X8_add (l : Launch) (G : GT) (v1 : Int32) (C : CM) (O : OM) (C' : CM) (h : f_X8_add v1 C = some C') : MV l G yX8_add cX8_add 3 (Option.none : Option Jvm.ClassFile.FieldType) (2) [.ref (gB G + 404), .int v1] (C, O) (C', O) := by
  unfold MV
  refine met_in RX8 (by decide +kernel) rfl [(0, .ref (gB G + 404)), (1, .int v1)] rfl (Nat.le_of_ble_eq_true rfl) ?_
  intro pM eM sM mM aM bM meM cM K hr
  have hl3 : ∀ (n3 : Nat) (v1 : Int32) (v2 : Int32) (C : CM), X8_add_l3 n3 v1 v2 C = some C' → GO pM l eM (2) sM mM aM bM meM cM (MQ bM (va_Qv (fun (u : CM × OM) => u = (C', O)) (wB G) (Fr G)) aM sM 0 0 (Fr G)) G 3 (C, O) 3 [(0, .ref (gB G + 404)), (1, .int v1), (2, .int v2)] [] := by
    intro n3
    induction n3 with
    | zero =>
      intro v1 v2 C h
      rw [X8_add_l3] at h
      cases h
    | succ n3 ih3 =>
      have hj47 : ∀ (v1 : Int32) (v2 : Int32) (C : CM), X8_add_j47 (fun v1 v2 C => X8_add_l3 n3 v1 v2 C) v1 v2 C = some C' → GO pM l eM (2) sM mM aM bM meM cM (MQ bM (va_Qv (fun (u : CM × OM) => u = (C', O)) (wB G) (Fr G)) aM sM 0 0 (Fr G)) G 3 (C, O) 47 [(0, .ref (gB G + 404)), (1, .int v1), (2, .int v2)] [] := by
        intro v1 v2 C h
        rw [X8_add_j47] at h
        refine go_iinc K dX8_add_47 2 rfl (v := (v2 + (-8 : Int32))) rfl (by decide) (lv' := [(2, .int (v2 + (-8 : Int32))), (0, .ref (gB G + 404)), (1, .int v1)]) rfl ?_
        refine go_goto (tgt := 3) K dX8_add_50 (by decide) ?_
        exact go_sub [1, 2, 0] rfl (ih3 _ _ _ h)
      intro v1 v2 C h
      rw [X8_add_l3] at h
      refine go_iload_n K dX8_add_3 2 rfl rfl ?_
      refine go_if_lt (tgt := 53) K dX8_add_4 (by decide) (fun c1 => ?_) (fun c1 => ?_)
      · replace h := ite_t h c1
        exact go_vret K hr (congrArg (fun z => (z, O)) (Option.some.inj h)) dX8_add_53
      replace h := ite_f h c1
      refine go_aload_n K dX8_add_7 0 rfl rfl ?_
      refine gf_X8 K 1 (by decide) kf_X8_15 (v := .int (C 404 1)) rfl dX8_add_8 ?_
      refine go_iconst (v := (0 : Int32)) K dX8_add_11 (by decide) ?_
      refine go_sipush (v := (299 : Int32)) K dX8_add_12 (by decide) ?_
      refine go_cNI K (c_X11_within l G _ _ _ _ _ _ rfl) cf_X11_within kt_X11_within (List.mem_of_getElem? (i := 17) rfl) (by decide) rfl rfl (Nat.le_of_ble_eq_true rfl) dX8_add_15 ?_
      refine go_if_eq (tgt := 47) K dX8_add_18 (by decide) (fun c2 => ?_) (fun c2 => ?_)
      · replace h := ite_t h c2
        exact hj47 _ _ _ h
      replace h := ite_f h c2
      refine go_aload_n K dX8_add_21 0 rfl rfl ?_
      refine gf_X8 K 0 (by decide) kf_X8_9 (v := .ref (gB G + 405)) rfl dX8_add_22 ?_
      refine go_aload_n K dX8_add_25 0 rfl rfl ?_
      refine gf_X8 K 1 (by decide) kf_X8_15 (v := .int (C 404 1)) rfl dX8_add_26 ?_
      refine go_iload_n K dX8_add_29 1 rfl rfl ?_
      refine go_iload_n K dX8_add_30 2 rfl rfl ?_
      refine go_ishr K dX8_add_31 ?_
      refine go_sipush (v := (255 : Int32)) K dX8_add_32 (by decide) ?_
      refine go_iand K dX8_add_35 ?_
      obtain ⟨g3, h⟩ := gd_e h
      refine go_cast K (Nat.le_of_ble_eq_true rfl) sh_405 g3 rfl dX8_add_36 ?_
      refine go_aload_n K dX8_add_37 0 rfl rfl ?_
      refine go_dup K dX8_add_38 rfl ?_
      refine gf_X8 K 1 (by decide) kf_X8_15 (v := .int ((up2 C 405 (C 404 1).toNatClampNeg ((v1 >>> (v2 &&& 31)) &&& (255 : Int32))) 404 1)) rfl dX8_add_39 ?_
      refine go_iconst (v := (1 : Int32)) K dX8_add_42 (by decide) ?_
      refine go_iadd K dX8_add_43 ?_
      refine pf_X8 K 1 (by decide) kf_X8_15 rfl rfl rfl dX8_add_44 ?_
      exact hj47 _ _ _ h
  rw [f_X8_add] at h
  refine go_bipush (v := (24 : Int32)) K dX8_add_0 (by decide) ?_
  refine go_istore_n K dX8_add_2 rfl (by decide) (lv' := [(2, .int (24 : Int32)), (0, .ref (gB G + 404)), (1, .int v1)]) rfl ?_
  exact go_sub [1, 2, 0] rfl (hl3 FU _ _ _ h)
noncomputable def f_X8_byteAt (v1 : Int32) (C : CM) : Option Int32 := (if v1 < (0 : Int32) then (some (0 : Int32)) else (if (C 404 1) ≤ v1 then (some (0 : Int32)) else (if (300 : Int32) ≤ v1 then (some (0 : Int32)) else (gd (inb v1 300) (some (C 405 v1.toNatClampNeg))))))
theorem cf_X8_byteAt : CF yX8_byteAt cX8_byteAt 2 (Option.some Jvm.ClassFile.FieldType.int) 1 := ⟨kc_X8_byteAt, kj_X8, ⟨by decide +kernel, by decide +kernel, by decide +kernel⟩, by decide⟩
theorem cv_X8_byteAt : CFv yX8_byteAt := ⟨ki_X8_byteAt, ks_X8_byteAt⟩
set_option maxHeartbeats 4000000 in
set_option maxRecDepth 100000 in
theorem c_X8_byteAt (l : Launch) (G : GT) (v1 : Int32) (C : CM) (O : OM) (res : Int32) (h : f_X8_byteAt v1 C = some res) : MI l G yX8_byteAt cX8_byteAt 2 (Option.some Jvm.ClassFile.FieldType.int) (1) [.ref (gB G + 404), .int v1] (C, O) res (C, O) := by
  unfold MI
  refine met_in RX8 (by decide +kernel) rfl [(0, .ref (gB G + 404)), (1, .int v1)] rfl (Nat.le_of_ble_eq_true rfl) ?_
  intro pM eM sM mM aM bM meM cM K hr
  rw [f_X8_byteAt] at h
  refine go_iconst (v := (0 : Int32)) K dX8_byteAt_0 (by decide) ?_
  refine go_iload_n K dX8_byteAt_1 1 rfl rfl ?_
  refine go_icmp_gt (tgt := 29) K dX8_byteAt_2 (by decide) (fun c1 => ?_) (fun c1 => ?_)
  · replace h := ite_t h c1
    refine go_iconst (v := (0 : Int32)) K dX8_byteAt_29 (by decide) ?_
    exact go_iret K hr (Option.some.inj h) rfl dX8_byteAt_30
  replace h := ite_f h c1
  refine go_iload_n K dX8_byteAt_5 1 rfl rfl ?_
  refine go_aload_n K dX8_byteAt_6 0 rfl rfl ?_
  refine gf_X8 K 1 (by decide) kf_X8_15 (v := .int (C 404 1)) rfl dX8_byteAt_7 ?_
  refine go_icmp_ge (tgt := 29) K dX8_byteAt_10 (by decide) (fun c2 => ?_) (fun c2 => ?_)
  · replace h := ite_t h c2
    refine go_iconst (v := (0 : Int32)) K dX8_byteAt_29 (by decide) ?_
    exact go_iret K hr (Option.some.inj h) rfl dX8_byteAt_30
  replace h := ite_f h c2
  refine go_iload_n K dX8_byteAt_13 1 rfl rfl ?_
  refine go_sipush (v := (300 : Int32)) K dX8_byteAt_14 (by decide) ?_
  refine go_icmp_ge (tgt := 29) K dX8_byteAt_17 (by decide) (fun c3 => ?_) (fun c3 => ?_)
  · replace h := ite_t h c3
    refine go_iconst (v := (0 : Int32)) K dX8_byteAt_29 (by decide) ?_
    exact go_iret K hr (Option.some.inj h) rfl dX8_byteAt_30
  replace h := ite_f h c3
  refine go_aload_n K dX8_byteAt_20 0 rfl rfl ?_
  refine gf_X8 K 0 (by decide) kf_X8_9 (v := .ref (gB G + 405)) rfl dX8_byteAt_21 ?_
  refine go_iload_n K dX8_byteAt_24 1 rfl rfl ?_
  obtain ⟨g4, h⟩ := gd_e h
  refine go_cald K (Nat.le_of_ble_eq_true rfl) sh_405 g4 rfl dX8_byteAt_25 ?_
  refine go_goto (tgt := 30) K dX8_byteAt_26 (by decide) ?_
  exact go_iret K hr (Option.some.inj h) rfl dX8_byteAt_30
noncomputable def f_X8_isDigit (v0 : Int32) : Int32 := (if v0 < (48 : Int32) then (0 : Int32) else (if (57 : Int32) < v0 then (0 : Int32) else (1 : Int32)))
theorem cf_X8_isDigit : CF yX8_isDigit cX8_isDigit 1 (Option.some Jvm.ClassFile.FieldType.boolean) 1 := ⟨kc_X8_isDigit, kj_X8, ⟨by decide +kernel, by decide +kernel, by decide +kernel⟩, by decide⟩
set_option maxHeartbeats 4000000 in
set_option maxRecDepth 100000 in
theorem c_X8_isDigit (l : Launch) (G : GT) (v0 : Int32) (C : CM) (O : OM) (res : Int32) (h : f_X8_isDigit v0 = res) : MI l G yX8_isDigit cX8_isDigit 1 (Option.some Jvm.ClassFile.FieldType.boolean) (1) [.int v0] (C, O) res (C, O) := by
  unfold MI
  refine met_in RX8 (by decide +kernel) rfl [(0, .int v0)] rfl (Nat.le_of_ble_eq_true rfl) ?_
  intro pM eM sM mM aM bM meM cM K hr
  rw [f_X8_isDigit] at h
  refine go_bipush (v := (48 : Int32)) K dX8_isDigit_0 (by decide) ?_
  refine go_iload_n K dX8_isDigit_2 0 rfl rfl ?_
  refine go_icmp_gt (tgt := 16) K dX8_isDigit_3 (by decide) (fun c1 => ?_) (fun c1 => ?_)
  · replace h := ite_t h c1
    refine go_iconst (v := (0 : Int32)) K dX8_isDigit_16 (by decide) ?_
    exact go_zret K hr (by decide) h rfl dX8_isDigit_17
  replace h := ite_f h c1
  refine go_iload_n K dX8_isDigit_6 0 rfl rfl ?_
  refine go_bipush (v := (57 : Int32)) K dX8_isDigit_7 (by decide) ?_
  refine go_icmp_gt (tgt := 16) K dX8_isDigit_9 (by decide) (fun c2 => ?_) (fun c2 => ?_)
  · replace h := ite_t h c2
    refine go_iconst (v := (0 : Int32)) K dX8_isDigit_16 (by decide) ?_
    exact go_zret K hr (by decide) h rfl dX8_isDigit_17
  replace h := ite_f h c2
  refine go_iconst (v := (1 : Int32)) K dX8_isDigit_12 (by decide) ?_
  refine go_goto (tgt := 17) K dX8_isDigit_13 (by decide) ?_
  exact go_zret K hr (by decide) h rfl dX8_isDigit_17
noncomputable def X8_isLetter_j24 : Int32 := (1 : Int32)
noncomputable def X8_isLetter_j12 (v0 : Int32) : Int32 := (if v0 < (65 : Int32) then (0 : Int32) else (if (90 : Int32) < v0 then (0 : Int32) else (X8_isLetter_j24)))
noncomputable def f_X8_isLetter (v0 : Int32) : Int32 := (if v0 < (97 : Int32) then (X8_isLetter_j12 v0) else (if v0 ≤ (122 : Int32) then (X8_isLetter_j24) else (X8_isLetter_j12 v0)))
theorem cf_X8_isLetter : CF yX8_isLetter cX8_isLetter 1 (Option.some Jvm.ClassFile.FieldType.boolean) 1 := ⟨kc_X8_isLetter, kj_X8, ⟨by decide +kernel, by decide +kernel, by decide +kernel⟩, by decide⟩
set_option maxHeartbeats 4000000 in
set_option maxRecDepth 100000 in
theorem c_X8_isLetter (l : Launch) (G : GT) (v0 : Int32) (C : CM) (O : OM) (res : Int32) (h : f_X8_isLetter v0 = res) : MI l G yX8_isLetter cX8_isLetter 1 (Option.some Jvm.ClassFile.FieldType.boolean) (1) [.int v0] (C, O) res (C, O) := by
  unfold MI
  refine met_in RX8 (by decide +kernel) rfl [(0, .int v0)] rfl (Nat.le_of_ble_eq_true rfl) ?_
  intro pM eM sM mM aM bM meM cM K hr
  have hj24 : X8_isLetter_j24 = res → GO pM l eM (1) sM mM aM bM meM cM (MQ bM (va_Qi (fun (r' : Int32) (u : CM × OM) => r' = res ∧ u = (C, O)) (wB G) (Fr G)) aM sM 0 0 (Fr G)) G 1 (C, O) 24 [] [] := by
    intro h
    rw [X8_isLetter_j24] at h
    refine go_iconst (v := (1 : Int32)) K dX8_isLetter_24 (by decide) ?_
    refine go_goto (tgt := 29) K dX8_isLetter_25 (by decide) ?_
    exact go_zret K hr (by decide) h rfl dX8_isLetter_29
  have hj12 : ∀ (v0 : Int32), X8_isLetter_j12 v0 = res → GO pM l eM (1) sM mM aM bM meM cM (MQ bM (va_Qi (fun (r' : Int32) (u : CM × OM) => r' = res ∧ u = (C, O)) (wB G) (Fr G)) aM sM 0 0 (Fr G)) G 1 (C, O) 12 [(0, .int v0)] [] := by
    intro v0 h
    rw [X8_isLetter_j12] at h
    refine go_bipush (v := (65 : Int32)) K dX8_isLetter_12 (by decide) ?_
    refine go_iload_n K dX8_isLetter_14 0 rfl rfl ?_
    refine go_icmp_gt (tgt := 28) K dX8_isLetter_15 (by decide) (fun c2 => ?_) (fun c2 => ?_)
    · replace h := ite_t h c2
      refine go_iconst (v := (0 : Int32)) K dX8_isLetter_28 (by decide) ?_
      exact go_zret K hr (by decide) h rfl dX8_isLetter_29
    replace h := ite_f h c2
    refine go_iload_n K dX8_isLetter_18 0 rfl rfl ?_
    refine go_bipush (v := (90 : Int32)) K dX8_isLetter_19 (by decide) ?_
    refine go_icmp_gt (tgt := 28) K dX8_isLetter_21 (by decide) (fun c3 => ?_) (fun c3 => ?_)
    rotate_left
    · replace h := ite_f h c3
      exact go_sub [] rfl (hj24 h)
    replace h := ite_t h c3
    refine go_iconst (v := (0 : Int32)) K dX8_isLetter_28 (by decide) ?_
    exact go_zret K hr (by decide) h rfl dX8_isLetter_29
  rw [f_X8_isLetter] at h
  refine go_bipush (v := (97 : Int32)) K dX8_isLetter_0 (by decide) ?_
  refine go_iload_n K dX8_isLetter_2 0 rfl rfl ?_
  refine go_icmp_gt (tgt := 12) K dX8_isLetter_3 (by decide) (fun c1 => ?_) (fun c1 => ?_)
  · replace h := ite_t h c1
    exact hj12 _ h
  replace h := ite_f h c1
  refine go_iload_n K dX8_isLetter_6 0 rfl rfl ?_
  refine go_bipush (v := (122 : Int32)) K dX8_isLetter_7 (by decide) ?_
  refine go_icmp_le (tgt := 24) K dX8_isLetter_9 (by decide) (fun c4 => ?_) (fun c4 => ?_)
  · replace h := ite_t h c4
    exact go_sub [] rfl (hj24 h)
  replace h := ite_f h c4
  exact hj12 _ h
noncomputable def X8_takeNumber_l5 : Nat → CM → Option CM
  | 0, _ => none
  | n + 1, C => (if (C 404 1) ≤ (C 404 5) then (some C) else (bnd (f_X8_byteAt (C 404 5) C) (fun r2 => (if (f_X8_isDigit r2) = 0 then (some C) else (bnd (f_X8_byteAt (C 404 5) C) (fun r4 => (X8_takeNumber_l5 n (up2 (up2 C 404 3 (f_J9_min_7cf53 ((((C 404 3) * (10 : Int32)) + r4) - (48 : Int32)) (10000 : Int32))) 404 5 (((up2 C 404 3 (f_J9_min_7cf53 ((((C 404 3) * (10 : Int32)) + r4) - (48 : Int32)) (10000 : Int32))) 404 5) + (1 : Int32))))))))))
noncomputable def f_X8_takeNumber (C : CM) : Option CM := (X8_takeNumber_l5 FU (up2 C 404 2 (2 : Int32)))
theorem cf_X8_takeNumber : CF yX8_takeNumber cX8_takeNumber 1 (Option.none : Option Jvm.ClassFile.FieldType) 0 := ⟨kc_X8_takeNumber, kj_X8, ⟨by decide +kernel, by decide +kernel, by decide +kernel⟩, by decide⟩
theorem cv_X8_takeNumber : CFv yX8_takeNumber := ⟨ki_X8_takeNumber, ks_X8_takeNumber⟩
set_option maxHeartbeats 4000000 in
set_option maxRecDepth 100000 in
theorem c_X8_takeNumber (l : Launch) (G : GT) (C : CM) (O : OM) (C' : CM) (h : f_X8_takeNumber C = some C') : MV l G yX8_takeNumber cX8_takeNumber 1 (Option.none : Option Jvm.ClassFile.FieldType) (2) [.ref (gB G + 404)] (C, O) (C', O) := by
  unfold MV
  refine met_in RX8 (by decide +kernel) rfl [(0, .ref (gB G + 404))] rfl (Nat.le_of_ble_eq_true rfl) ?_
  intro pM eM sM mM aM bM meM cM K hr
  have hl5 : ∀ (n5 : Nat) (C : CM), X8_takeNumber_l5 n5 C = some C' → GO pM l eM (2) sM mM aM bM meM cM (MQ bM (va_Qv (fun (u : CM × OM) => u = (C', O)) (wB G) (Fr G)) aM sM 0 0 (Fr G)) G 1 (C, O) 5 [(0, .ref (gB G + 404))] [] := by
    intro n5
    induction n5 with
    | zero =>
      intro C h
      rw [X8_takeNumber_l5] at h
      cases h
    | succ n5 ih5 =>
      intro C h
      rw [X8_takeNumber_l5] at h
      refine go_aload_n K dX8_takeNumber_5 0 rfl rfl ?_
      refine gf_X8 K 5 (by decide) kf_X8_23 (v := .int (C 404 5)) rfl dX8_takeNumber_6 ?_
      refine go_aload_n K dX8_takeNumber_9 0 rfl rfl ?_
      refine gf_X8 K 1 (by decide) kf_X8_15 (v := .int (C 404 1)) rfl dX8_takeNumber_10 ?_
      refine go_icmp_ge (tgt := 72) K dX8_takeNumber_13 (by decide) (fun c1 => ?_) (fun c1 => ?_)
      · replace h := ite_t h c1
        exact go_vret K hr (congrArg (fun z => (z, O)) (Option.some.inj h)) dX8_takeNumber_72
      replace h := ite_f h c1
      refine go_aload_n K dX8_takeNumber_16 0 rfl rfl ?_
      refine go_aload_n K dX8_takeNumber_17 0 rfl rfl ?_
      refine gf_X8 K 5 (by decide) kf_X8_23 (v := .int (C 404 5)) rfl dX8_takeNumber_18 ?_
      obtain ⟨r2, e2, h⟩ := bnd_e h
      refine go_cVI K (c_X8_byteAt l G _ _ _ _ e2) cf_X8_byteAt cv_X8_byteAt km_X8_29 rv_X8 (by decide) rfl rfl (Nat.le_of_ble_eq_true rfl) dX8_takeNumber_21 ?_
      refine go_cSI K (c_X8_isDigit l G _ _ _ _ rfl) cf_X8_isDigit kt_X8_isDigit km_X8_49 (by decide) rfl rfl (Nat.le_of_ble_eq_true rfl) dX8_takeNumber_24 ?_
      refine go_if_eq (tgt := 72) K dX8_takeNumber_27 (by decide) (fun c3 => ?_) (fun c3 => ?_)
      · replace h := ite_t h c3
        exact go_vret K hr (congrArg (fun z => (z, O)) (Option.some.inj h)) dX8_takeNumber_72
      replace h := ite_f h c3
      refine go_aload_n K dX8_takeNumber_30 0 rfl rfl ?_
      refine go_aload_n K dX8_takeNumber_31 0 rfl rfl ?_
      refine gf_X8 K 3 (by decide) kf_X8_36 (v := .int (C 404 3)) rfl dX8_takeNumber_32 ?_
      refine go_bipush (v := (10 : Int32)) K dX8_takeNumber_35 (by decide) ?_
      refine go_imul K dX8_takeNumber_37 ?_
      refine go_aload_n K dX8_takeNumber_38 0 rfl rfl ?_
      refine go_aload_n K dX8_takeNumber_39 0 rfl rfl ?_
      refine gf_X8 K 5 (by decide) kf_X8_23 (v := .int (C 404 5)) rfl dX8_takeNumber_40 ?_
      obtain ⟨r4, e4, h⟩ := bnd_e h
      refine go_cVI K (c_X8_byteAt l G _ _ _ _ e4) cf_X8_byteAt cv_X8_byteAt km_X8_29 rv_X8 (by decide) rfl rfl (Nat.le_of_ble_eq_true rfl) dX8_takeNumber_43 ?_
      refine go_iadd K dX8_takeNumber_46 ?_
      refine go_bipush (v := (48 : Int32)) K dX8_takeNumber_47 (by decide) ?_
      refine go_isub K dX8_takeNumber_49 ?_
      refine go_sipush (v := (10000 : Int32)) K dX8_takeNumber_50 (by decide) ?_
      refine go_cSI K (c_J9_min_7cf53 l G _ _ _ _ rfl) cf_J9_min_7cf53 kt_J9_min_7cf53 km_X8_70 (by decide) rfl rfl (Nat.le_of_ble_eq_true rfl) dX8_takeNumber_53 ?_
      refine pf_X8 K 3 (by decide) kf_X8_36 rfl rfl rfl dX8_takeNumber_56 ?_
      refine go_aload_n K dX8_takeNumber_59 0 rfl rfl ?_
      refine go_dup K dX8_takeNumber_60 rfl ?_
      refine gf_X8 K 5 (by decide) kf_X8_23 (v := .int ((up2 C 404 3 (f_J9_min_7cf53 ((((C 404 3) * (10 : Int32)) + r4) - (48 : Int32)) (10000 : Int32))) 404 5)) rfl dX8_takeNumber_61 ?_
      refine go_iconst (v := (1 : Int32)) K dX8_takeNumber_64 (by decide) ?_
      refine go_iadd K dX8_takeNumber_65 ?_
      refine pf_X8 K 5 (by decide) kf_X8_23 rfl rfl rfl dX8_takeNumber_66 ?_
      refine go_goto (tgt := 5) K dX8_takeNumber_69 (by decide) ?_
      exact ih5 _ h
  rw [f_X8_takeNumber] at h
  refine go_aload_n K dX8_takeNumber_0 0 rfl rfl ?_
  refine go_iconst (v := (2 : Int32)) K dX8_takeNumber_1 (by decide) ?_
  refine pf_X8 K 2 (by decide) kf_X8_39 rfl rfl rfl dX8_takeNumber_2 ?_
  exact hl5 FU _ h
noncomputable def X8_takeSign_j101 (t0 : Int32) (C : CM) : Option CM := (some (up2 C 404 2 t0))
noncomputable def X8_takeSign_j85 (v1 : Int32) (C : CM) : Option CM := (if (ixs1 ((v1.toUInt32 % 65536).toInt32)) < 0 then (X8_takeSign_j101 (0 : Int32) C) else (X8_takeSign_j101 v1 C))
noncomputable def X8_takeSign_j57 (v1 : Int32) (v2 : Int32) (C : CM) : Option CM := (if v1 = (62 : Int32) then (if v2 = 0 then (X8_takeSign_j85 v1 C) else (some (up2 (up2 C 404 2 (5 : Int32)) 404 5 (((up2 C 404 2 (5 : Int32)) 404 5) + (1 : Int32))))) else (X8_takeSign_j85 v1 C))
noncomputable def X8_takeSign_j28 (v1 : Int32) (t0 : Int32) (C : CM) : Option CM := (if v1 = (60 : Int32) then (if t0 = 0 then (X8_takeSign_j57 v1 t0 C) else (some (up2 (up2 C 404 2 (4 : Int32)) 404 5 (((up2 C 404 2 (4 : Int32)) 404 5) + (1 : Int32))))) else (X8_takeSign_j57 v1 t0 C))
noncomputable def f_X8_takeSign (v1 : Int32) (C : CM) : Option CM := (bnd (f_X8_byteAt ((up2 C 404 5 ((C 404 5) + (1 : Int32))) 404 5) (up2 C 404 5 ((C 404 5) + (1 : Int32)))) (fun r1 => (if r1 = (61 : Int32) then (X8_takeSign_j28 v1 (1 : Int32) (up2 C 404 5 ((C 404 5) + (1 : Int32)))) else (X8_takeSign_j28 v1 (0 : Int32) (up2 C 404 5 ((C 404 5) + (1 : Int32)))))))
theorem cf_X8_takeSign : CF yX8_takeSign cX8_takeSign 3 (Option.none : Option Jvm.ClassFile.FieldType) 1 := ⟨kc_X8_takeSign, kj_X8, ⟨by decide +kernel, by decide +kernel, by decide +kernel⟩, by decide⟩
theorem cv_X8_takeSign : CFv yX8_takeSign := ⟨ki_X8_takeSign, ks_X8_takeSign⟩
set_option maxHeartbeats 4000000 in
set_option maxRecDepth 100000 in
theorem c_X8_takeSign (l : Launch) (G : GT) (v1 : Int32) (C : CM) (O : OM) (C' : CM) (h : f_X8_takeSign v1 C = some C') : MV l G yX8_takeSign cX8_takeSign 3 (Option.none : Option Jvm.ClassFile.FieldType) (7) [.ref (gB G + 404), .int v1] (C, O) (C', O) := by
  unfold MV
  refine met_in RX8 (by decide +kernel) rfl [(0, .ref (gB G + 404)), (1, .int v1)] rfl (Nat.le_of_ble_eq_true rfl) ?_
  intro pM eM sM mM aM bM meM cM K hr
  have hj101 : ∀ (t0 : Int32) (C : CM), X8_takeSign_j101 t0 C = some C' → GO pM l eM (7) sM mM aM bM meM cM (MQ bM (va_Qv (fun (u : CM × OM) => u = (C', O)) (wB G) (Fr G)) aM sM 0 0 (Fr G)) G 3 (C, O) 101 [] [.int t0, .ref (gB G + 404)] := by
    intro t0 C h
    rw [X8_takeSign_j101] at h
    refine pf_X8 K 2 (by decide) kf_X8_39 rfl rfl rfl dX8_takeSign_101 ?_
    exact go_vret K hr (congrArg (fun z => (z, O)) (Option.some.inj h)) dX8_takeSign_104
  have hj85 : ∀ (v1 : Int32) (C : CM), X8_takeSign_j85 v1 C = some C' → GO pM l eM (7) sM mM aM bM meM cM (MQ bM (va_Qv (fun (u : CM × OM) => u = (C', O)) (wB G) (Fr G)) aM sM 0 0 (Fr G)) G 3 (C, O) 85 [(0, .ref (gB G + 404)), (1, .int v1)] [] := by
    intro v1 C h
    rw [X8_takeSign_j85] at h
    refine go_aload_n K dX8_takeSign_85 0 rfl rfl ?_
    refine go_ldcS1 K dX8_takeSign_86 ?_
    refine go_iload_n K dX8_takeSign_88 1 rfl rfl ?_
    refine go_i2c K dX8_takeSign_89 ?_
    refine go_indexOf1 K km_X8_78 (by decide) (Nat.le_of_ble_eq_true rfl) dX8_takeSign_90 ?_
    refine go_if_lt (tgt := 100) K dX8_takeSign_93 (by decide) (fun c5 => ?_) (fun c5 => ?_)
    · replace h := ite_t h c5
      refine go_iconst (v := (0 : Int32)) K dX8_takeSign_100 (by decide) ?_
      exact go_sub [] rfl (hj101 _ _ h)
    replace h := ite_f h c5
    refine go_iload_n K dX8_takeSign_96 1 rfl rfl ?_
    refine go_goto (tgt := 101) K dX8_takeSign_97 (by decide) ?_
    exact go_sub [] rfl (hj101 _ _ h)
  have hj57 : ∀ (v1 : Int32) (v2 : Int32) (C : CM), X8_takeSign_j57 v1 v2 C = some C' → GO pM l eM (7) sM mM aM bM meM cM (MQ bM (va_Qv (fun (u : CM × OM) => u = (C', O)) (wB G) (Fr G)) aM sM 0 0 (Fr G)) G 3 (C, O) 57 [(0, .ref (gB G + 404)), (1, .int v1), (2, .int v2)] [] := by
    intro v1 v2 C h
    rw [X8_takeSign_j57] at h
    refine go_iload_n K dX8_takeSign_57 1 rfl rfl ?_
    refine go_bipush (v := (62 : Int32)) K dX8_takeSign_58 (by decide) ?_
    refine go_icmp_ne (tgt := 85) K dX8_takeSign_60 (by decide) (fun c4 => ?_) (fun c4 => ?_)
    · replace h := ite_f h c4
      exact go_sub [0, 1] rfl (hj85 _ _ h)
    replace h := ite_t h c4
    refine go_iload_n K dX8_takeSign_63 2 rfl rfl ?_
    refine go_if_eq (tgt := 85) K dX8_takeSign_64 (by decide) (fun c6 => ?_) (fun c6 => ?_)
    · replace h := ite_t h c6
      exact go_sub [0, 1] rfl (hj85 _ _ h)
    replace h := ite_f h c6
    refine go_aload_n K dX8_takeSign_67 0 rfl rfl ?_
    refine go_iconst (v := (5 : Int32)) K dX8_takeSign_68 (by decide) ?_
    refine pf_X8 K 2 (by decide) kf_X8_39 rfl rfl rfl dX8_takeSign_69 ?_
    refine go_aload_n K dX8_takeSign_72 0 rfl rfl ?_
    refine go_dup K dX8_takeSign_73 rfl ?_
    refine gf_X8 K 5 (by decide) kf_X8_23 (v := .int ((up2 C 404 2 (5 : Int32)) 404 5)) rfl dX8_takeSign_74 ?_
    refine go_iconst (v := (1 : Int32)) K dX8_takeSign_77 (by decide) ?_
    refine go_iadd K dX8_takeSign_78 ?_
    refine pf_X8 K 5 (by decide) kf_X8_23 rfl rfl rfl dX8_takeSign_79 ?_
    refine go_goto (tgt := 104) K dX8_takeSign_82 (by decide) ?_
    exact go_vret K hr (congrArg (fun z => (z, O)) (Option.some.inj h)) dX8_takeSign_104
  have hj28 : ∀ (v1 : Int32) (t0 : Int32) (C : CM), X8_takeSign_j28 v1 t0 C = some C' → GO pM l eM (7) sM mM aM bM meM cM (MQ bM (va_Qv (fun (u : CM × OM) => u = (C', O)) (wB G) (Fr G)) aM sM 0 0 (Fr G)) G 3 (C, O) 28 [(0, .ref (gB G + 404)), (1, .int v1)] [.int t0] := by
    intro v1 t0 C h
    rw [X8_takeSign_j28] at h
    refine go_istore_n K dX8_takeSign_28 rfl (by decide) (lv' := [(2, .int t0), (0, .ref (gB G + 404)), (1, .int v1)]) rfl ?_
    refine go_iload_n K dX8_takeSign_29 2 rfl rfl ?_
    refine go_bipush (v := (60 : Int32)) K dX8_takeSign_30 (by decide) ?_
    refine go_icmp_ne (tgt := 57) K dX8_takeSign_32 (by decide) (fun c3 => ?_) (fun c3 => ?_)
    · replace h := ite_f h c3
      exact go_sub [1, 2, 0] rfl (hj57 _ _ _ h)
    replace h := ite_t h c3
    refine go_iload_n K dX8_takeSign_35 0 rfl rfl ?_
    refine go_if_eq (tgt := 57) K dX8_takeSign_36 (by decide) (fun c7 => ?_) (fun c7 => ?_)
    · replace h := ite_t h c7
      exact go_sub [1, 2, 0] rfl (hj57 _ _ _ h)
    replace h := ite_f h c7
    refine go_aload_n K dX8_takeSign_39 1 rfl rfl ?_
    refine go_iconst (v := (4 : Int32)) K dX8_takeSign_40 (by decide) ?_
    refine pf_X8 K 2 (by decide) kf_X8_39 rfl rfl rfl dX8_takeSign_41 ?_
    refine go_aload_n K dX8_takeSign_44 1 rfl rfl ?_
    refine go_dup K dX8_takeSign_45 rfl ?_
    refine gf_X8 K 5 (by decide) kf_X8_23 (v := .int ((up2 C 404 2 (4 : Int32)) 404 5)) rfl dX8_takeSign_46 ?_
    refine go_iconst (v := (1 : Int32)) K dX8_takeSign_49 (by decide) ?_
    refine go_iadd K dX8_takeSign_50 ?_
    refine pf_X8 K 5 (by decide) kf_X8_23 rfl rfl rfl dX8_takeSign_51 ?_
    refine go_goto (tgt := 104) K dX8_takeSign_54 (by decide) ?_
    exact go_vret K hr (congrArg (fun z => (z, O)) (Option.some.inj h)) dX8_takeSign_104
  rw [f_X8_takeSign] at h
  refine go_aload_n K dX8_takeSign_0 0 rfl rfl ?_
  refine go_dup K dX8_takeSign_1 rfl ?_
  refine gf_X8 K 5 (by decide) kf_X8_23 (v := .int (C 404 5)) rfl dX8_takeSign_2 ?_
  refine go_iconst (v := (1 : Int32)) K dX8_takeSign_5 (by decide) ?_
  refine go_iadd K dX8_takeSign_6 ?_
  refine pf_X8 K 5 (by decide) kf_X8_23 rfl rfl rfl dX8_takeSign_7 ?_
  refine go_aload_n K dX8_takeSign_10 0 rfl rfl ?_
  refine go_aload_n K dX8_takeSign_11 0 rfl rfl ?_
  refine gf_X8 K 5 (by decide) kf_X8_23 (v := .int ((up2 C 404 5 ((C 404 5) + (1 : Int32))) 404 5)) rfl dX8_takeSign_12 ?_
  obtain ⟨r1, e1, h⟩ := bnd_e h
  refine go_cVI K (c_X8_byteAt l G _ _ _ _ e1) cf_X8_byteAt cv_X8_byteAt km_X8_29 rv_X8 (by decide) rfl rfl (Nat.le_of_ble_eq_true rfl) dX8_takeSign_15 ?_
  refine go_bipush (v := (61 : Int32)) K dX8_takeSign_18 (by decide) ?_
  refine go_icmp_ne (tgt := 27) K dX8_takeSign_20 (by decide) (fun c2 => ?_) (fun c2 => ?_)
  · replace h := ite_f h c2
    refine go_iconst (v := (0 : Int32)) K dX8_takeSign_27 (by decide) ?_
    exact hj28 _ _ _ h
  replace h := ite_t h c2
  refine go_iconst (v := (1 : Int32)) K dX8_takeSign_23 (by decide) ?_
  refine go_goto (tgt := 28) K dX8_takeSign_24 (by decide) ?_
  exact hj28 _ _ _ h
noncomputable def X8_takeWord_j140 (rc : Int32 → Int32 → Int32 → CM → Option CM) (v1 : Int32) (v2 : Int32) (v3 : Int32) (C : CM) : Option CM := (rc v1 v2 (v3 + (1 : Int32)) C)
noncomputable def X8_takeWord_j112 (rc : Int32 → Int32 → Int32 → CM → Option CM) (v1 : Int32) (v3 : Int32) (t0 : Int32) (C : CM) : Option CM := (X8_takeWord_j140 rc v1 t0 v3 C)
noncomputable def X8_takeWord_j109 (rc : Int32 → Int32 → Int32 → CM → Option CM) (v1 : Int32) (v3 : Int32) (C : CM) : Option CM := (X8_takeWord_j112 rc v1 v3 (301 : Int32) C)
noncomputable def X8_takeWord_l54 : Nat → Int32 → Int32 → Int32 → CM → Option CM
  | 0, _, _, _, _ => none
  | n + 1, v1, v2, v3, C => (if (147 : Int32) ≤ v3 then (some C) else (if (C 404 2) = 0 then (gd (inb v3 147) (if (chs0 v3) = (32 : Int32) then (if v2 = (C 404 5) then (X8_takeWord_j140 (fun v1 v2 v3 C => X8_takeWord_l54 n v1 v2 v3 C) v1 v2 v3 (up2 C 404 2 v1)) else (X8_takeWord_j140 (fun v1 v2 v3 C => X8_takeWord_l54 n v1 v2 v3 C) (v1 + (1 : Int32)) (C 404 4) v3 C)) else (if (C 404 5) ≤ v2 then (X8_takeWord_j109 (fun v1 v2 v3 C => X8_takeWord_l54 n v1 v2 v3 C) v1 v3 C) else (bnd (f_X8_byteAt v2 C) (fun r10 => (if r10 = (chs0 v3) then (X8_takeWord_j112 (fun v1 v2 v3 C => X8_takeWord_l54 n v1 v2 v3 C) v1 v3 (v2 + (1 : Int32)) C) else (X8_takeWord_j109 (fun v1 v2 v3 C => X8_takeWord_l54 n v1 v2 v3 C) v1 v3 C))))))) else (some C)))
noncomputable def X8_takeWord_j38 (C : CM) : Option CM := (X8_takeWord_l54 FU (128 : Int32) ((up2 C 404 2 (0 : Int32)) 404 4) (0 : Int32) (up2 C 404 2 (0 : Int32)))
noncomputable def X8_takeWord_l0 (k38 : CM → Option CM) : Nat → CM → Option CM
  | 0, _ => none
  | n + 1, C => (if (C 404 1) ≤ (C 404 5) then (k38 C) else (bnd (f_X8_byteAt (C 404 5) C) (fun r2 => (if (f_X8_isLetter r2) = 0 then (k38 C) else (X8_takeWord_l0 k38 n (up2 C 404 5 ((C 404 5) + (1 : Int32))))))))
noncomputable def f_X8_takeWord (C : CM) : Option CM := (X8_takeWord_l0 (fun C => (X8_takeWord_j38 C)) FU C)
theorem cf_X8_takeWord : CF yX8_takeWord cX8_takeWord 5 (Option.none : Option Jvm.ClassFile.FieldType) 0 := ⟨kc_X8_takeWord, kj_X8, ⟨by decide +kernel, by decide +kernel, by decide +kernel⟩, by decide⟩
theorem cv_X8_takeWord : CFv yX8_takeWord := ⟨ki_X8_takeWord, ks_X8_takeWord⟩
set_option maxHeartbeats 4000000 in
set_option maxRecDepth 100000 in
theorem c_X8_takeWord (l : Launch) (G : GT) (C : CM) (O : OM) (C' : CM) (h : f_X8_takeWord C = some C') : MV l G yX8_takeWord cX8_takeWord 5 (Option.none : Option Jvm.ClassFile.FieldType) (7) [.ref (gB G + 404)] (C, O) (C', O) := by
  unfold MV
  refine met_in RX8 (by decide +kernel) rfl [(0, .ref (gB G + 404))] rfl (Nat.le_of_ble_eq_true rfl) ?_
  intro pM eM sM mM aM bM meM cM K hr
  have hl54 : ∀ (n54 : Nat) (v1 : Int32) (v2 : Int32) (v3 : Int32) (C : CM), X8_takeWord_l54 n54 v1 v2 v3 C = some C' → GO pM l eM (7) sM mM aM bM meM cM (MQ bM (va_Qv (fun (u : CM × OM) => u = (C', O)) (wB G) (Fr G)) aM sM 0 0 (Fr G)) G 5 (C, O) 54 [(0, .ref (gB G + 404)), (1, .int v1), (2, .int v2), (3, .int v3)] [] := by
    intro n54
    induction n54 with
    | zero =>
      intro v1 v2 v3 C h
      rw [X8_takeWord_l54] at h
      cases h
    | succ n54 ih54 =>
      have hj140 : ∀ (v1 : Int32) (v2 : Int32) (v3 : Int32) (C : CM), X8_takeWord_j140 (fun v1 v2 v3 C => X8_takeWord_l54 n54 v1 v2 v3 C) v1 v2 v3 C = some C' → GO pM l eM (7) sM mM aM bM meM cM (MQ bM (va_Qv (fun (u : CM × OM) => u = (C', O)) (wB G) (Fr G)) aM sM 0 0 (Fr G)) G 5 (C, O) 140 [(0, .ref (gB G + 404)), (1, .int v1), (2, .int v2), (3, .int v3)] [] := by
        intro v1 v2 v3 C h
        rw [X8_takeWord_j140] at h
        refine go_iinc K dX8_takeWord_140 3 rfl (v := (v3 + (1 : Int32))) rfl (by decide) (lv' := [(3, .int (v3 + (1 : Int32))), (0, .ref (gB G + 404)), (1, .int v1), (2, .int v2)]) rfl ?_
        refine go_goto (tgt := 54) K dX8_takeWord_143 (by decide) ?_
        exact go_sub [1, 2, 3, 0] rfl (ih54 _ _ _ _ h)
      have hj112 : ∀ (v1 : Int32) (v3 : Int32) (t0 : Int32) (C : CM), X8_takeWord_j112 (fun v1 v2 v3 C => X8_takeWord_l54 n54 v1 v2 v3 C) v1 v3 t0 C = some C' → GO pM l eM (7) sM mM aM bM meM cM (MQ bM (va_Qv (fun (u : CM × OM) => u = (C', O)) (wB G) (Fr G)) aM sM 0 0 (Fr G)) G 5 (C, O) 112 [(0, .ref (gB G + 404)), (1, .int v1), (3, .int v3)] [.int t0] := by
        intro v1 v3 t0 C h
        rw [X8_takeWord_j112] at h
        refine go_istore_n K dX8_takeWord_112 rfl (by decide) (lv' := [(2, .int t0), (0, .ref (gB G + 404)), (1, .int v1), (3, .int v3)]) rfl ?_
        refine go_goto (tgt := 140) K dX8_takeWord_113 (by decide) ?_
        exact go_sub [1, 2, 0, 3] rfl (hj140 _ _ _ _ h)
      have hj109 : ∀ (v1 : Int32) (v3 : Int32) (C : CM), X8_takeWord_j109 (fun v1 v2 v3 C => X8_takeWord_l54 n54 v1 v2 v3 C) v1 v3 C = some C' → GO pM l eM (7) sM mM aM bM meM cM (MQ bM (va_Qv (fun (u : CM × OM) => u = (C', O)) (wB G) (Fr G)) aM sM 0 0 (Fr G)) G 5 (C, O) 109 [(0, .ref (gB G + 404)), (1, .int v1), (3, .int v3)] [] := by
        intro v1 v3 C h
        rw [X8_takeWord_j109] at h
        refine go_sipush (v := (301 : Int32)) K dX8_takeWord_109 (by decide) ?_
        exact hj112 _ _ _ _ h
      intro v1 v2 v3 C h
      rw [X8_takeWord_l54] at h
      refine go_iload_n K dX8_takeWord_54 3 rfl rfl ?_
      refine go_ldcS0 K dX8_takeWord_55 ?_
      refine go_slen0 K km_X8_61 (by decide) (Nat.le_of_ble_eq_true rfl) dX8_takeWord_57 ?_
      refine go_icmp_ge (tgt := 146) K dX8_takeWord_60 (by decide) (fun c4 => ?_) (fun c4 => ?_)
      · replace h := ite_t h c4
        exact go_vret K hr (congrArg (fun z => (z, O)) (Option.some.inj h)) dX8_takeWord_146
      replace h := ite_f h c4
      refine go_aload_n K dX8_takeWord_63 0 rfl rfl ?_
      refine gf_X8 K 2 (by decide) kf_X8_39 (v := .int (C 404 2)) rfl dX8_takeWord_64 ?_
      refine go_if_ne (tgt := 146) K dX8_takeWord_67 (by decide) (fun c5 => ?_) (fun c5 => ?_)
      · replace h := ite_f h c5
        exact go_vret K hr (congrArg (fun z => (z, O)) (Option.some.inj h)) dX8_takeWord_146
      replace h := ite_t h c5
      refine go_ldcS0 K dX8_takeWord_70 ?_
      refine go_iload_n K dX8_takeWord_72 3 rfl rfl ?_
      obtain ⟨g6, h⟩ := gd_e h
      refine go_charAt0 K g6 km_X8_66 (by decide) (Nat.le_of_ble_eq_true rfl) dX8_takeWord_73 ?_
      refine go_istore K dX8_takeWord_76 (by decide) (lv' := [(4, .int (chs0 v3)), (0, .ref (gB G + 404)), (1, .int v1), (2, .int v2), (3, .int v3)]) rfl ?_
      refine go_iload K dX8_takeWord_78 0 rfl ?_
      refine go_bipush (v := (32 : Int32)) K dX8_takeWord_80 (by decide) ?_
      refine go_icmp_eq (tgt := 116) K dX8_takeWord_82 (by decide) (fun c7 => ?_) (fun c7 => ?_)
      · replace h := ite_t h c7
        refine go_iload_n K dX8_takeWord_116 3 rfl rfl ?_
        refine go_aload_n K dX8_takeWord_117 1 rfl rfl ?_
        refine gf_X8 K 5 (by decide) kf_X8_23 (v := .int (C 404 5)) rfl dX8_takeWord_118 ?_
        refine go_icmp_ne (tgt := 132) K dX8_takeWord_121 (by decide) (fun c8 => ?_) (fun c8 => ?_)
        · replace h := ite_f h c8
          refine go_iinc K dX8_takeWord_132 2 rfl (v := (v1 + (1 : Int32))) rfl (by decide) (lv' := [(1, .int (v1 + (1 : Int32))), (4, .int (chs0 v3)), (0, .ref (gB G + 404)), (2, .int v2), (3, .int v3)]) rfl ?_
          refine go_aload_n K dX8_takeWord_135 2 rfl rfl ?_
          refine gf_X8 K 4 (by decide) kf_X8_33 (v := .int (C 404 4)) rfl dX8_takeWord_136 ?_
          refine go_istore_n K dX8_takeWord_139 rfl (by decide) (lv' := [(2, .int (C 404 4)), (1, .int (v1 + (1 : Int32))), (4, .int (chs0 v3)), (0, .ref (gB G + 404)), (3, .int v3)]) rfl ?_
          exact go_sub [3, 1, 0, 4] rfl (hj140 _ _ _ _ h)
        replace h := ite_t h c8
        refine go_aload_n K dX8_takeWord_124 1 rfl rfl ?_
        refine go_iload_n K dX8_takeWord_125 2 rfl rfl ?_
        refine pf_X8 K 2 (by decide) kf_X8_39 rfl rfl rfl dX8_takeWord_126 ?_
        refine go_goto (tgt := 140) K dX8_takeWord_129 (by decide) ?_
        exact go_sub [1, 2, 3, 4] rfl (hj140 _ _ _ _ h)
      replace h := ite_f h c7
      refine go_iload_n K dX8_takeWord_85 3 rfl rfl ?_
      refine go_aload_n K dX8_takeWord_86 1 rfl rfl ?_
      refine gf_X8 K 5 (by decide) kf_X8_23 (v := .int (C 404 5)) rfl dX8_takeWord_87 ?_
      refine go_icmp_ge (tgt := 109) K dX8_takeWord_90 (by decide) (fun c9 => ?_) (fun c9 => ?_)
      · replace h := ite_t h c9
        exact go_sub [1, 2, 4] rfl (hj109 _ _ _ h)
      replace h := ite_f h c9
      refine go_aload_n K dX8_takeWord_93 1 rfl rfl ?_
      refine go_iload_n K dX8_takeWord_94 3 rfl rfl ?_
      obtain ⟨r10, e10, h⟩ := bnd_e h
      refine go_cVI K (c_X8_byteAt l G _ _ _ _ e10) cf_X8_byteAt cv_X8_byteAt km_X8_29 rv_X8 (by decide) rfl rfl (Nat.le_of_ble_eq_true rfl) dX8_takeWord_95 ?_
      refine go_iload K dX8_takeWord_98 0 rfl ?_
      refine go_icmp_ne (tgt := 109) K dX8_takeWord_100 (by decide) (fun c11 => ?_) (fun c11 => ?_)
      · replace h := ite_f h c11
        exact go_sub [1, 2, 4] rfl (hj109 _ _ _ h)
      replace h := ite_t h c11
      refine go_iload_n K dX8_takeWord_103 3 rfl rfl ?_
      refine go_iconst (v := (1 : Int32)) K dX8_takeWord_104 (by decide) ?_
      refine go_iadd K dX8_takeWord_105 ?_
      refine go_goto (tgt := 112) K dX8_takeWord_106 (by decide) ?_
      exact go_sub [1, 2, 4] rfl (hj112 _ _ _ _ h)
  have hj38 : ∀ (C : CM), X8_takeWord_j38 C = some C' → GO pM l eM (7) sM mM aM bM meM cM (MQ bM (va_Qv (fun (u : CM × OM) => u = (C', O)) (wB G) (Fr G)) aM sM 0 0 (Fr G)) G 5 (C, O) 38 [(0, .ref (gB G + 404))] [] := by
    intro C h
    rw [X8_takeWord_j38] at h
    refine go_aload_n K dX8_takeWord_38 0 rfl rfl ?_
    refine go_iconst (v := (0 : Int32)) K dX8_takeWord_39 (by decide) ?_
    refine pf_X8 K 2 (by decide) kf_X8_39 rfl rfl rfl dX8_takeWord_40 ?_
    refine go_sipush (v := (128 : Int32)) K dX8_takeWord_43 (by decide) ?_
    refine go_istore_n K dX8_takeWord_46 rfl (by decide) (lv' := [(1, .int (128 : Int32)), (0, .ref (gB G + 404))]) rfl ?_
    refine go_aload_n K dX8_takeWord_47 1 rfl rfl ?_
    refine gf_X8 K 4 (by decide) kf_X8_33 (v := .int ((up2 C 404 2 (0 : Int32)) 404 4)) rfl dX8_takeWord_48 ?_
    refine go_istore_n K dX8_takeWord_51 rfl (by decide) (lv' := [(2, .int ((up2 C 404 2 (0 : Int32)) 404 4)), (1, .int (128 : Int32)), (0, .ref (gB G + 404))]) rfl ?_
    refine go_iconst (v := (0 : Int32)) K dX8_takeWord_52 (by decide) ?_
    refine go_istore_n K dX8_takeWord_53 rfl (by decide) (lv' := [(3, .int (0 : Int32)), (2, .int ((up2 C 404 2 (0 : Int32)) 404 4)), (1, .int (128 : Int32)), (0, .ref (gB G + 404))]) rfl ?_
    exact go_sub [3, 2, 1, 0] rfl (hl54 FU _ _ _ _ h)
  have hl0 : ∀ (n0 : Nat) (C : CM), X8_takeWord_l0 (fun C => (X8_takeWord_j38 C)) n0 C = some C' → GO pM l eM (7) sM mM aM bM meM cM (MQ bM (va_Qv (fun (u : CM × OM) => u = (C', O)) (wB G) (Fr G)) aM sM 0 0 (Fr G)) G 5 (C, O) 0 [(0, .ref (gB G + 404))] [] := by
    intro n0
    induction n0 with
    | zero =>
      intro C h
      rw [X8_takeWord_l0] at h
      cases h
    | succ n0 ih0 =>
      intro C h
      rw [X8_takeWord_l0] at h
      refine go_aload_n K dX8_takeWord_0 0 rfl rfl ?_
      refine gf_X8 K 5 (by decide) kf_X8_23 (v := .int (C 404 5)) rfl dX8_takeWord_1 ?_
      refine go_aload_n K dX8_takeWord_4 0 rfl rfl ?_
      refine gf_X8 K 1 (by decide) kf_X8_15 (v := .int (C 404 1)) rfl dX8_takeWord_5 ?_
      refine go_icmp_ge (tgt := 38) K dX8_takeWord_8 (by decide) (fun c1 => ?_) (fun c1 => ?_)
      · replace h := ite_t h c1
        exact hj38 _ h
      replace h := ite_f h c1
      refine go_aload_n K dX8_takeWord_11 0 rfl rfl ?_
      refine go_aload_n K dX8_takeWord_12 0 rfl rfl ?_
      refine gf_X8 K 5 (by decide) kf_X8_23 (v := .int (C 404 5)) rfl dX8_takeWord_13 ?_
      obtain ⟨r2, e2, h⟩ := bnd_e h
      refine go_cVI K (c_X8_byteAt l G _ _ _ _ e2) cf_X8_byteAt cv_X8_byteAt km_X8_29 rv_X8 (by decide) rfl rfl (Nat.le_of_ble_eq_true rfl) dX8_takeWord_16 ?_
      refine go_cSI K (c_X8_isLetter l G _ _ _ _ rfl) cf_X8_isLetter kt_X8_isLetter km_X8_42 (by decide) rfl rfl (Nat.le_of_ble_eq_true rfl) dX8_takeWord_19 ?_
      refine go_if_eq (tgt := 38) K dX8_takeWord_22 (by decide) (fun c3 => ?_) (fun c3 => ?_)
      · replace h := ite_t h c3
        exact hj38 _ h
      replace h := ite_f h c3
      refine go_aload_n K dX8_takeWord_25 0 rfl rfl ?_
      refine go_dup K dX8_takeWord_26 rfl ?_
      refine gf_X8 K 5 (by decide) kf_X8_23 (v := .int (C 404 5)) rfl dX8_takeWord_27 ?_
      refine go_iconst (v := (1 : Int32)) K dX8_takeWord_30 (by decide) ?_
      refine go_iadd K dX8_takeWord_31 ?_
      refine pf_X8 K 5 (by decide) kf_X8_23 rfl rfl rfl dX8_takeWord_32 ?_
      refine go_goto (tgt := 0) K dX8_takeWord_35 (by decide) ?_
      exact ih0 _ h
  rw [f_X8_takeWord] at h
  exact hl0 FU _ h
noncomputable def X8_next_j50 (C : CM) : Option CM := (bnd (f_X8_byteAt ((up2 (up2 C 404 4 (C 404 5)) 404 3 (0 : Int32)) 404 5) (up2 (up2 C 404 4 (C 404 5)) 404 3 (0 : Int32))) (fun r6 => (if ((up2 (up2 C 404 4 (C 404 5)) 404 3 (0 : Int32)) 404 5) < ((up2 (up2 C 404 4 (C 404 5)) 404 3 (0 : Int32)) 404 1) then (if (f_X8_isLetter r6) = 0 then (if (f_X8_isDigit r6) = 0 then (bnd (f_X8_takeSign r6 (up2 (up2 C 404 4 (C 404 5)) 404 3 (0 : Int32))) (fun C10 => (some C10))) else (bnd (f_X8_takeNumber (up2 (up2 C 404 4 (C 404 5)) 404 3 (0 : Int32))) (fun C11 => (some C11)))) else (bnd (f_X8_takeWord (up2 (up2 C 404 4 (C 404 5)) 404 3 (0 : Int32))) (fun C12 => (some C12)))) else (some (up2 (up2 (up2 C 404 4 (C 404 5)) 404 3 (0 : Int32)) 404 2 (1 : Int32))))))
noncomputable def X8_next_j37 (rc : CM → Option CM) (k50 : CM → Option CM) (C : CM) : Option CM := (rc (up2 C 404 5 ((C 404 5) + (1 : Int32))))
noncomputable def X8_next_l0 (k50 : CM → Option CM) : Nat → CM → Option CM
  | 0, _ => none
  | n + 1, C => (if (C 404 1) ≤ (C 404 5) then (k50 C) else (bnd (f_X8_byteAt (C 404 5) C) (fun r2 => (if r2 = (32 : Int32) then (X8_next_j37 (fun C => X8_next_l0 k50 n C) k50 C) else (bnd (f_X8_byteAt (C 404 5) C) (fun r4 => (if r4 = (10 : Int32) then (X8_next_j37 (fun C => X8_next_l0 k50 n C) k50 C) else (k50 C))))))))
noncomputable def f_X8_next (C : CM) : Option CM := (X8_next_l0 (fun C => (X8_next_j50 C)) FU C)
theorem cf_X8_next : CF yX8_next cX8_next 2 (Option.none : Option Jvm.ClassFile.FieldType) 0 := ⟨kc_X8_next, kj_X8, ⟨by decide +kernel, by decide +kernel, by decide +kernel⟩, by decide⟩
theorem cv_X8_next : CFv yX8_next := ⟨ki_X8_next, ks_X8_next⟩
set_option maxHeartbeats 4000000 in
set_option maxRecDepth 100000 in
theorem c_X8_next (l : Launch) (G : GT) (C : CM) (O : OM) (C' : CM) (h : f_X8_next C = some C') : MV l G yX8_next cX8_next 2 (Option.none : Option Jvm.ClassFile.FieldType) (8) [.ref (gB G + 404)] (C, O) (C', O) := by
  unfold MV
  refine met_in RX8 (by decide +kernel) rfl [(0, .ref (gB G + 404))] rfl (Nat.le_of_ble_eq_true rfl) ?_
  intro pM eM sM mM aM bM meM cM K hr
  have hj50 : ∀ (C : CM), X8_next_j50 C = some C' → GO pM l eM (8) sM mM aM bM meM cM (MQ bM (va_Qv (fun (u : CM × OM) => u = (C', O)) (wB G) (Fr G)) aM sM 0 0 (Fr G)) G 2 (C, O) 50 [(0, .ref (gB G + 404))] [] := by
    intro C h
    rw [X8_next_j50] at h
    refine go_aload_n K dX8_next_50 0 rfl rfl ?_
    refine go_aload_n K dX8_next_51 0 rfl rfl ?_
    refine gf_X8 K 5 (by decide) kf_X8_23 (v := .int (C 404 5)) rfl dX8_next_52 ?_
    refine pf_X8 K 4 (by decide) kf_X8_33 rfl rfl rfl dX8_next_55 ?_
    refine go_aload_n K dX8_next_58 0 rfl rfl ?_
    refine go_iconst (v := (0 : Int32)) K dX8_next_59 (by decide) ?_
    refine pf_X8 K 3 (by decide) kf_X8_36 rfl rfl rfl dX8_next_60 ?_
    refine go_aload_n K dX8_next_63 0 rfl rfl ?_
    refine go_aload_n K dX8_next_64 0 rfl rfl ?_
    refine gf_X8 K 5 (by decide) kf_X8_23 (v := .int ((up2 (up2 C 404 4 (C 404 5)) 404 3 (0 : Int32)) 404 5)) rfl dX8_next_65 ?_
    obtain ⟨r6, e6, h⟩ := bnd_e h
    refine go_cVI K (c_X8_byteAt l G _ _ _ _ e6) cf_X8_byteAt cv_X8_byteAt km_X8_29 rv_X8 (by decide) rfl rfl (Nat.le_of_ble_eq_true rfl) dX8_next_68 ?_
    refine go_istore_n K dX8_next_71 rfl (by decide) (lv' := [(1, .int r6), (0, .ref (gB G + 404))]) rfl ?_
    refine go_aload_n K dX8_next_72 1 rfl rfl ?_
    refine gf_X8 K 5 (by decide) kf_X8_23 (v := .int ((up2 (up2 C 404 4 (C 404 5)) 404 3 (0 : Int32)) 404 5)) rfl dX8_next_73 ?_
    refine go_aload_n K dX8_next_76 1 rfl rfl ?_
    refine gf_X8 K 1 (by decide) kf_X8_15 (v := .int ((up2 (up2 C 404 4 (C 404 5)) 404 3 (0 : Int32)) 404 1)) rfl dX8_next_77 ?_
    refine go_icmp_lt (tgt := 91) K dX8_next_80 (by decide) (fun c7 => ?_) (fun c7 => ?_)
    rotate_left
    · replace h := ite_f h c7
      refine go_aload_n K dX8_next_83 1 rfl rfl ?_
      refine go_iconst (v := (1 : Int32)) K dX8_next_84 (by decide) ?_
      refine pf_X8 K 2 (by decide) kf_X8_39 rfl rfl rfl dX8_next_85 ?_
      refine go_goto (tgt := 124) K dX8_next_88 (by decide) ?_
      exact go_vret K hr (congrArg (fun z => (z, O)) (Option.some.inj h)) dX8_next_124
    replace h := ite_t h c7
    refine go_iload_n K dX8_next_91 0 rfl rfl ?_
    refine go_cSI K (c_X8_isLetter l G _ _ _ _ rfl) cf_X8_isLetter kt_X8_isLetter km_X8_42 (by decide) rfl rfl (Nat.le_of_ble_eq_true rfl) dX8_next_92 ?_
    refine go_if_eq (tgt := 105) K dX8_next_95 (by decide) (fun c8 => ?_) (fun c8 => ?_)
    rotate_left
    · replace h := ite_f h c8
      refine go_aload_n K dX8_next_98 1 rfl rfl ?_
      obtain ⟨C12, e12, h⟩ := bnd_e h
      refine go_cVV K (c_X8_takeWord l G _ _ _ e12) cf_X8_takeWord cv_X8_takeWord km_X8_46 rv_X8 (by decide) rfl rfl (Nat.le_of_ble_eq_true rfl) dX8_next_99 ?_
      refine go_goto (tgt := 124) K dX8_next_102 (by decide) ?_
      exact go_vret K hr (congrArg (fun z => (z, O)) (Option.some.inj h)) dX8_next_124
    replace h := ite_t h c8
    refine go_iload_n K dX8_next_105 0 rfl rfl ?_
    refine go_cSI K (c_X8_isDigit l G _ _ _ _ rfl) cf_X8_isDigit kt_X8_isDigit km_X8_49 (by decide) rfl rfl (Nat.le_of_ble_eq_true rfl) dX8_next_106 ?_
    refine go_if_eq (tgt := 119) K dX8_next_109 (by decide) (fun c9 => ?_) (fun c9 => ?_)
    · replace h := ite_t h c9
      refine go_aload_n K dX8_next_119 1 rfl rfl ?_
      refine go_iload_n K dX8_next_120 0 rfl rfl ?_
      obtain ⟨C10, e10, h⟩ := bnd_e h
      refine go_cVV K (c_X8_takeSign l G _ _ _ _ e10) cf_X8_takeSign cv_X8_takeSign km_X8_55 rv_X8 (by decide) rfl rfl (Nat.le_of_ble_eq_true rfl) dX8_next_121 ?_
      exact go_vret K hr (congrArg (fun z => (z, O)) (Option.some.inj h)) dX8_next_124
    replace h := ite_f h c9
    refine go_aload_n K dX8_next_112 1 rfl rfl ?_
    obtain ⟨C11, e11, h⟩ := bnd_e h
    refine go_cVV K (c_X8_takeNumber l G _ _ _ e11) cf_X8_takeNumber cv_X8_takeNumber km_X8_52 rv_X8 (by decide) rfl rfl (Nat.le_of_ble_eq_true rfl) dX8_next_113 ?_
    refine go_goto (tgt := 124) K dX8_next_116 (by decide) ?_
    exact go_vret K hr (congrArg (fun z => (z, O)) (Option.some.inj h)) dX8_next_124
  have hl0 : ∀ (n0 : Nat) (C : CM), X8_next_l0 (fun C => (X8_next_j50 C)) n0 C = some C' → GO pM l eM (8) sM mM aM bM meM cM (MQ bM (va_Qv (fun (u : CM × OM) => u = (C', O)) (wB G) (Fr G)) aM sM 0 0 (Fr G)) G 2 (C, O) 0 [(0, .ref (gB G + 404))] [] := by
    intro n0
    induction n0 with
    | zero =>
      intro C h
      rw [X8_next_l0] at h
      cases h
    | succ n0 ih0 =>
      have hj37 : ∀ (C : CM), X8_next_j37 (fun C => X8_next_l0 (fun C => (X8_next_j50 C)) n0 C) (fun C => (X8_next_j50 C)) C = some C' → GO pM l eM (8) sM mM aM bM meM cM (MQ bM (va_Qv (fun (u : CM × OM) => u = (C', O)) (wB G) (Fr G)) aM sM 0 0 (Fr G)) G 2 (C, O) 37 [(0, .ref (gB G + 404))] [] := by
        intro C h
        rw [X8_next_j37] at h
        refine go_aload_n K dX8_next_37 0 rfl rfl ?_
        refine go_dup K dX8_next_38 rfl ?_
        refine gf_X8 K 5 (by decide) kf_X8_23 (v := .int (C 404 5)) rfl dX8_next_39 ?_
        refine go_iconst (v := (1 : Int32)) K dX8_next_42 (by decide) ?_
        refine go_iadd K dX8_next_43 ?_
        refine pf_X8 K 5 (by decide) kf_X8_23 rfl rfl rfl dX8_next_44 ?_
        refine go_goto (tgt := 0) K dX8_next_47 (by decide) ?_
        exact ih0 _ h
      intro C h
      rw [X8_next_l0] at h
      refine go_aload_n K dX8_next_0 0 rfl rfl ?_
      refine gf_X8 K 5 (by decide) kf_X8_23 (v := .int (C 404 5)) rfl dX8_next_1 ?_
      refine go_aload_n K dX8_next_4 0 rfl rfl ?_
      refine gf_X8 K 1 (by decide) kf_X8_15 (v := .int (C 404 1)) rfl dX8_next_5 ?_
      refine go_icmp_ge (tgt := 50) K dX8_next_8 (by decide) (fun c1 => ?_) (fun c1 => ?_)
      · replace h := ite_t h c1
        exact hj50 _ h
      replace h := ite_f h c1
      refine go_aload_n K dX8_next_11 0 rfl rfl ?_
      refine go_aload_n K dX8_next_12 0 rfl rfl ?_
      refine gf_X8 K 5 (by decide) kf_X8_23 (v := .int (C 404 5)) rfl dX8_next_13 ?_
      obtain ⟨r2, e2, h⟩ := bnd_e h
      refine go_cVI K (c_X8_byteAt l G _ _ _ _ e2) cf_X8_byteAt cv_X8_byteAt km_X8_29 rv_X8 (by decide) rfl rfl (Nat.le_of_ble_eq_true rfl) dX8_next_16 ?_
      refine go_bipush (v := (32 : Int32)) K dX8_next_19 (by decide) ?_
      refine go_icmp_eq (tgt := 37) K dX8_next_21 (by decide) (fun c3 => ?_) (fun c3 => ?_)
      · replace h := ite_t h c3
        exact hj37 _ h
      replace h := ite_f h c3
      refine go_aload_n K dX8_next_24 0 rfl rfl ?_
      refine go_aload_n K dX8_next_25 0 rfl rfl ?_
      refine gf_X8 K 5 (by decide) kf_X8_23 (v := .int (C 404 5)) rfl dX8_next_26 ?_
      obtain ⟨r4, e4, h⟩ := bnd_e h
      refine go_cVI K (c_X8_byteAt l G _ _ _ _ e4) cf_X8_byteAt cv_X8_byteAt km_X8_29 rv_X8 (by decide) rfl rfl (Nat.le_of_ble_eq_true rfl) dX8_next_29 ?_
      refine go_bipush (v := (10 : Int32)) K dX8_next_32 (by decide) ?_
      refine go_icmp_ne (tgt := 50) K dX8_next_34 (by decide) (fun c5 => ?_) (fun c5 => ?_)
      · replace h := ite_f h c5
        exact hj50 _ h
      replace h := ite_t h c5
      exact hj37 _ h
  rw [f_X8_next] at h
  exact hl0 FU _ h
