noncomputable def f_J9_max_7cf53 (v0 : Int32) (v1 : Int32) : Int32 := (if v0 < v1 then v1 else v0)
theorem cf_J9_max_7cf53 : CF yJ9_max_7cf53 cJ9_max_7cf53 2 (Option.some Jvm.ClassFile.FieldType.int) 2 := ⟨kc_J9_max_7cf53, kj_J9, ⟨by decide +kernel, by decide +kernel, by decide +kernel⟩, by decide⟩
set_option maxHeartbeats 4000000 in
set_option maxRecDepth 100000 in
theorem c_J9_max_7cf53 (l : Launch) (G : GT) (v0 : Int32) (v1 : Int32) (M : CM × OM) (res : Int32) (h : f_J9_max_7cf53 v0 v1 = res) : MI l G yJ9_max_7cf53 cJ9_max_7cf53 2 (Option.some Jvm.ClassFile.FieldType.int) (1) [.int v0, .int v1] M res M := by
  unfold MI
  refine met_in RJ9 (by decide +kernel) rfl [(0, .int v0), (1, .int v1)] rfl (Nat.le_of_ble_eq_true rfl) ?_
  intro pM eM sM mM aM bM meM cM K hr
  rw [f_J9_max_7cf53] at h
  refine go_iload_n K dJ9_max_7cf53_0 0 rfl rfl ?_
  refine go_iload_n K dJ9_max_7cf53_1 1 rfl rfl ?_
  refine go_icmp_lt (tgt := 9) K dJ9_max_7cf53_2 (by decide) (fun c1 => ?_) (fun c1 => ?_)
  · replace h := ite_t h c1
    refine go_iload_n K dJ9_max_7cf53_9 1 rfl rfl ?_
    exact go_iret K hr h rfl dJ9_max_7cf53_10
  replace h := ite_f h c1
  refine go_iload_n K dJ9_max_7cf53_5 0 rfl rfl ?_
  refine go_goto (tgt := 10) K dJ9_max_7cf53_6 (by decide) ?_
  exact go_iret K hr h rfl dJ9_max_7cf53_10
noncomputable def f_J9_min_7cf53 (v0 : Int32) (v1 : Int32) : Int32 := (if v1 < v0 then v1 else v0)
theorem cf_J9_min_7cf53 : CF yJ9_min_7cf53 cJ9_min_7cf53 2 (Option.some Jvm.ClassFile.FieldType.int) 2 := ⟨kc_J9_min_7cf53, kj_J9, ⟨by decide +kernel, by decide +kernel, by decide +kernel⟩, by decide⟩
set_option maxHeartbeats 4000000 in
set_option maxRecDepth 100000 in
theorem c_J9_min_7cf53 (l : Launch) (G : GT) (v0 : Int32) (v1 : Int32) (M : CM × OM) (res : Int32) (h : f_J9_min_7cf53 v0 v1 = res) : MI l G yJ9_min_7cf53 cJ9_min_7cf53 2 (Option.some Jvm.ClassFile.FieldType.int) (1) [.int v0, .int v1] M res M := by
  unfold MI
  refine met_in RJ9 (by decide +kernel) rfl [(0, .int v0), (1, .int v1)] rfl (Nat.le_of_ble_eq_true rfl) ?_
  intro pM eM sM mM aM bM meM cM K hr
  rw [f_J9_min_7cf53] at h
  refine go_iload_n K dJ9_min_7cf53_0 0 rfl rfl ?_
  refine go_iload_n K dJ9_min_7cf53_1 1 rfl rfl ?_
  refine go_icmp_gt (tgt := 9) K dJ9_min_7cf53_2 (by decide) (fun c1 => ?_) (fun c1 => ?_)
  · replace h := ite_t h c1
    refine go_iload_n K dJ9_min_7cf53_9 1 rfl rfl ?_
    exact go_iret K hr h rfl dJ9_min_7cf53_10
  replace h := ite_f h c1
  refine go_iload_n K dJ9_min_7cf53_5 0 rfl rfl ?_
  refine go_goto (tgt := 10) K dJ9_min_7cf53_6 (by decide) ?_
  exact go_iret K hr h rfl dJ9_min_7cf53_10
noncomputable def f_J0_coder_7d493 (q : Nat) : Option Int32 := (if (1 : Int32) = 0 then (some (1 : Int32)) else (some (0 : Int32)))
theorem cf_J0_coder_7d493 : CF yJ0_coder_7d493 cJ0_coder_7d493 1 (Option.some Jvm.ClassFile.FieldType.byte) 0 := ⟨kc_J0_coder_7d493, kj_J0, ⟨by decide +kernel, by decide +kernel, by decide +kernel⟩, by decide⟩
theorem cv_J0_coder_7d493 : CFv yJ0_coder_7d493 := ⟨ki_J0_coder_7d493, ks_J0_coder_7d493⟩
set_option maxHeartbeats 4000000 in
set_option maxRecDepth 100000 in
theorem c_J0_coder_7d493 (l : Launch) (G : GT) {q : Nat} (hq : q < 2) (M : CM × OM) (res : Int32) (h : f_J0_coder_7d493 q = some res) : MI l G yJ0_coder_7d493 cJ0_coder_7d493 1 (Option.some Jvm.ClassFile.FieldType.byte) (1) [.ref (G.2.2.2.1 q)] M res M := by
  unfold MI
  refine met_in RJ0 (by decide +kernel) rfl [(0, .ref (G.2.2.2.1 q))] rfl (Nat.le_of_ble_eq_true rfl) ?_
  intro pM eM sM mM aM bM meM cM K hr
  rw [f_J0_coder_7d493] at h
  refine gs_cs K kf_J0_38 dJ0_coder_7d493_0 ?_
  refine go_if_eq (tgt := 13) K dJ0_coder_7d493_3 (by decide) (fun c1 => ?_) (fun c1 => ?_)
  · replace h := ite_t h c1
    refine go_iconst (v := (1 : Int32)) K dJ0_coder_7d493_13 (by decide) ?_
    exact go_zret K hr (by decide) (Option.some.inj h) rfl dJ0_coder_7d493_14
  replace h := ite_f h c1
  refine go_aload_n K dJ0_coder_7d493_6 0 rfl rfl ?_
  refine gs_coder K hq kf_J0_15 dJ0_coder_7d493_7 ?_
  refine go_goto (tgt := 14) K dJ0_coder_7d493_10 (by decide) ?_
  exact go_zret K hr (by decide) (Option.some.inj h) rfl dJ0_coder_7d493_14
noncomputable def f_J0_length_8abf5 (q : Nat) : Option Int32 := (bnd (f_J0_coder_7d493 q) (fun r1 => (some ((nI (strL.getD q 0)) >>> (r1 &&& 31)))))
theorem cf_J0_length_8abf5 : CF yJ0_length_8abf5 cJ0_length_8abf5 1 (Option.some Jvm.ClassFile.FieldType.int) 0 := ⟨kc_J0_length_8abf5, kj_J0, ⟨by decide +kernel, by decide +kernel, by decide +kernel⟩, by decide⟩
theorem cv_J0_length_8abf5 : CFv yJ0_length_8abf5 := ⟨ki_J0_length_8abf5, ks_J0_length_8abf5⟩
set_option maxHeartbeats 4000000 in
set_option maxRecDepth 100000 in
theorem c_J0_length_8abf5 (l : Launch) (G : GT) {q : Nat} (hq : q < 2) (M : CM × OM) (res : Int32) (h : f_J0_length_8abf5 q = some res) : MI l G yJ0_length_8abf5 cJ0_length_8abf5 1 (Option.some Jvm.ClassFile.FieldType.int) (2) [.ref (G.2.2.2.1 q)] M res M := by
  unfold MI
  refine met_in RJ0 (by decide +kernel) rfl [(0, .ref (G.2.2.2.1 q))] rfl (Nat.le_of_ble_eq_true rfl) ?_
  intro pM eM sM mM aM bM meM cM K hr
  rw [f_J0_length_8abf5] at h
  refine go_aload_n K dJ0_length_8abf5_0 0 rfl rfl ?_
  refine gs_val K hq kf_J0_9 dJ0_length_8abf5_1 ?_
  refine gs_alen K hq dJ0_length_8abf5_4 ?_
  refine go_aload_n K dJ0_length_8abf5_5 0 rfl rfl ?_
  obtain ⟨r1, e1, h⟩ := bnd_e h
  refine go_cVIs K (c_J0_coder_7d493 l G hq _ _ e1) cf_J0_coder_7d493 cv_J0_coder_7d493 km_J0_335 hq (by decide) rfl rfl (Nat.le_of_ble_eq_true rfl) dJ0_length_8abf5_6 rfl ?_
  refine go_ishr K dJ0_length_8abf5_9 ?_
  exact go_iret K hr (Option.some.inj h) rfl dJ0_length_8abf5_10
noncomputable def f_J0_isLatin1_aae02 (q : Nat) : Option Int32 := (if (1 : Int32) = 0 then (some (0 : Int32)) else (if (0 : Int32) = 0 then (some (1 : Int32)) else (some (0 : Int32))))
theorem cf_J0_isLatin1_aae02 : CF yJ0_isLatin1_aae02 cJ0_isLatin1_aae02 1 (Option.some Jvm.ClassFile.FieldType.boolean) 0 := ⟨kc_J0_isLatin1_aae02, kj_J0, ⟨by decide +kernel, by decide +kernel, by decide +kernel⟩, by decide⟩
theorem cv_J0_isLatin1_aae02 : CFv yJ0_isLatin1_aae02 := ⟨ki_J0_isLatin1_aae02, ks_J0_isLatin1_aae02⟩
set_option maxHeartbeats 4000000 in
set_option maxRecDepth 100000 in
theorem c_J0_isLatin1_aae02 (l : Launch) (G : GT) {q : Nat} (hq : q < 2) (M : CM × OM) (res : Int32) (h : f_J0_isLatin1_aae02 q = some res) : MI l G yJ0_isLatin1_aae02 cJ0_isLatin1_aae02 1 (Option.some Jvm.ClassFile.FieldType.boolean) (1) [.ref (G.2.2.2.1 q)] M res M := by
  unfold MI
  refine met_in RJ0 (by decide +kernel) rfl [(0, .ref (G.2.2.2.1 q))] rfl (Nat.le_of_ble_eq_true rfl) ?_
  intro pM eM sM mM aM bM meM cM K hr
  rw [f_J0_isLatin1_aae02] at h
  refine gs_cs K kf_J0_38 dJ0_isLatin1_aae02_0 ?_
  refine go_if_eq (tgt := 17) K dJ0_isLatin1_aae02_3 (by decide) (fun c1 => ?_) (fun c1 => ?_)
  · replace h := ite_t h c1
    refine go_iconst (v := (0 : Int32)) K dJ0_isLatin1_aae02_17 (by decide) ?_
    exact go_zret K hr (by decide) (Option.some.inj h) rfl dJ0_isLatin1_aae02_18
  replace h := ite_f h c1
  refine go_aload_n K dJ0_isLatin1_aae02_6 0 rfl rfl ?_
  refine gs_coder K hq kf_J0_15 dJ0_isLatin1_aae02_7 ?_
  refine go_if_ne (tgt := 17) K dJ0_isLatin1_aae02_10 (by decide) (fun c2 => ?_) (fun c2 => ?_)
  · replace h := ite_f h c2
    refine go_iconst (v := (0 : Int32)) K dJ0_isLatin1_aae02_17 (by decide) ?_
    exact go_zret K hr (by decide) (Option.some.inj h) rfl dJ0_isLatin1_aae02_18
  replace h := ite_t h c2
  refine go_iconst (v := (1 : Int32)) K dJ0_isLatin1_aae02_13 (by decide) ?_
  refine go_goto (tgt := 18) K dJ0_isLatin1_aae02_14 (by decide) ?_
  exact go_zret K hr (by decide) (Option.some.inj h) rfl dJ0_isLatin1_aae02_18
noncomputable def J3_checkIndex_8e157_j9 (v0 : Int32) (v1 : Int32) : Option Int32 := none
noncomputable def f_J3_checkIndex_8e157 (v0 : Int32) (v1 : Int32) : Option Int32 := (if v0 < 0 then (J3_checkIndex_8e157_j9 v0 v1) else (if v0 < v1 then (some v0) else (J3_checkIndex_8e157_j9 v0 v1)))
theorem cf_J3_checkIndex_8e157 : CF yJ3_checkIndex_8e157 cJ3_checkIndex_8e157 3 (Option.some Jvm.ClassFile.FieldType.int) 3 := ⟨kc_J3_checkIndex_8e157, kj_J3, ⟨by decide +kernel, by decide +kernel, by decide +kernel⟩, by decide⟩
set_option maxHeartbeats 4000000 in
set_option maxRecDepth 100000 in
theorem c_J3_checkIndex_8e157 (l : Launch) (G : GT) {fv : Value} (hfv : fv = .null ∨ ∃ a, fv = .ref a) (v0 : Int32) (v1 : Int32) (M : CM × OM) (res : Int32) (h : f_J3_checkIndex_8e157 v0 v1 = some res) : MI l G yJ3_checkIndex_8e157 cJ3_checkIndex_8e157 3 (Option.some Jvm.ClassFile.FieldType.int) (1) [.int v0, .int v1, fv] M res M := by
  unfold MI
  refine met_in RJ3 (by decide +kernel) rfl [(0, .int v0), (1, .int v1), (2, fv)] rfl (by rcases hfv with rfl | ⟨a, rfl⟩ <;> exact Nat.le_of_ble_eq_true rfl) ?_
  intro pM eM sM mM aM bM meM cM K hr
  have hj9 : ∀ (v0 : Int32) (v1 : Int32), J3_checkIndex_8e157_j9 v0 v1 = some res → GO pM l eM (1) sM mM aM bM meM cM (MQ bM (va_Qi (fun (r' : Int32) (u : CM × OM) => r' = res ∧ u = M) (wB G) (Fr G)) aM sM 0 0 (Fr G)) G 3 M 9 [(0, .int v0), (1, .int v1), (2, fv)] [] := by
    intro v0 v1 h
    rw [J3_checkIndex_8e157_j9] at h
    cases h
  rw [f_J3_checkIndex_8e157] at h
  refine go_iload_n K dJ3_checkIndex_8e157_0 0 rfl rfl ?_
  refine go_if_lt (tgt := 9) K dJ3_checkIndex_8e157_1 (by decide) (fun c1 => ?_) (fun c1 => ?_)
  · replace h := ite_t h c1
    exact hj9 _ _ h
  replace h := ite_f h c1
  refine go_iload_n K dJ3_checkIndex_8e157_4 0 rfl rfl ?_
  refine go_iload_n K dJ3_checkIndex_8e157_5 1 rfl rfl ?_
  refine go_icmp_lt (tgt := 16) K dJ3_checkIndex_8e157_6 (by decide) (fun c2 => ?_) (fun c2 => ?_)
  rotate_left
  · replace h := ite_f h c2
    exact hj9 _ _ h
  replace h := ite_t h c2
  refine go_iload_n K dJ3_checkIndex_8e157_16 0 rfl rfl ?_
  exact go_iret K hr (Option.some.inj h) rfl dJ3_checkIndex_8e157_17
noncomputable def f_J0_checkIndex_df160 (v0 : Int32) (v1 : Int32) : Option Unit := (bnd (f_J3_checkIndex_8e157 v0 v1) (fun r1 => (some ())))
theorem cf_J0_checkIndex_df160 : CF yJ0_checkIndex_df160 cJ0_checkIndex_df160 2 (Option.none : Option Jvm.ClassFile.FieldType) 2 := ⟨kc_J0_checkIndex_df160, kj_J0, ⟨by decide +kernel, by decide +kernel, by decide +kernel⟩, by decide⟩
set_option maxHeartbeats 4000000 in
set_option maxRecDepth 100000 in
theorem c_J0_checkIndex_df160 (l : Launch) (G : GT) (v0 : Int32) (v1 : Int32) (M : CM × OM) {uu : Unit} (h : f_J0_checkIndex_df160 v0 v1 = some uu) : MV l G yJ0_checkIndex_df160 cJ0_checkIndex_df160 2 (Option.none : Option Jvm.ClassFile.FieldType) (2) [.int v0, .int v1] M M := by
  unfold MV
  refine met_in RJ0 (by decide +kernel) rfl [(0, .int v0), (1, .int v1)] rfl (Nat.le_of_ble_eq_true rfl) ?_
  intro pM eM sM mM aM bM meM cM K hr
  rw [f_J0_checkIndex_df160] at h
  refine go_iload_n K dJ0_checkIndex_df160_0 0 rfl rfl ?_
  refine go_iload_n K dJ0_checkIndex_df160_1 1 rfl rfl ?_
  refine gs_fmt K kf_J0_1053 dJ0_checkIndex_df160_2 (fun fv hfv => ?_)
  obtain ⟨r1, e1, h⟩ := bnd_e h
  refine go_cSI K (c_J3_checkIndex_8e157 l G hfv _ _ _ _ e1) cf_J3_checkIndex_8e157 kt_J3_checkIndex_8e157 km_J0_1059 (by decide) rfl rfl (Nat.le_of_ble_eq_true rfl) dJ0_checkIndex_df160_5 ?_
  refine go_pop K dJ0_checkIndex_df160_8 rfl ?_
  exact go_vret K hr rfl dJ0_checkIndex_df160_9
noncomputable def f_J1_charAt_3b067 (q : Nat) (v1 : Int32) : Option Int32 := (bnd (f_J0_checkIndex_df160 v1 (nI (strL.getD q 0))) (fun _ => (gd (inb v1 (strL.getD q 0)) (gd (narrow .char (.int (((((strB.getD q []).getD v1.toNatClampNeg 0) &&& (255 : Int32)).toUInt32 % 65536).toInt32)) = .int (((((strB.getD q []).getD v1.toNatClampNeg 0) &&& (255 : Int32)).toUInt32 % 65536).toInt32)) (some (((((strB.getD q []).getD v1.toNatClampNeg 0) &&& (255 : Int32)).toUInt32 % 65536).toInt32))))))
theorem cf_J1_charAt_3b067 : CF yJ1_charAt_3b067 cJ1_charAt_3b067 2 (Option.some Jvm.ClassFile.FieldType.char) 2 := ⟨kc_J1_charAt_3b067, kj_J1, ⟨by decide +kernel, by decide +kernel, by decide +kernel⟩, by decide⟩
set_option maxHeartbeats 4000000 in
set_option maxRecDepth 100000 in
theorem c_J1_charAt_3b067 (l : Launch) (G : GT) {q : Nat} (hq : q < 2) (v1 : Int32) (M : CM × OM) (res : Int32) (h : f_J1_charAt_3b067 q v1 = some res) : MI l G yJ1_charAt_3b067 cJ1_charAt_3b067 2 (Option.some Jvm.ClassFile.FieldType.char) (3) [.ref (G.2.2.2.2 q), .int v1] M res M := by
  unfold MI
  refine met_in RJ1 (by decide +kernel) rfl [(0, .ref (G.2.2.2.2 q)), (1, .int v1)] rfl (Nat.le_of_ble_eq_true rfl) ?_
  intro pM eM sM mM aM bM meM cM K hr
  rw [f_J1_charAt_3b067] at h
  refine go_iload_n K dJ1_charAt_3b067_0 1 rfl rfl ?_
  refine go_aload_n K dJ1_charAt_3b067_1 0 rfl rfl ?_
  refine gs_alen K hq dJ1_charAt_3b067_2 ?_
  obtain ⟨u1, e1, h⟩ := bnd_e h
  refine go_cSV K (c_J0_checkIndex_df160 l G _ _ _ e1) cf_J0_checkIndex_df160 kt_J0_checkIndex_df160 km_J1_9 (by decide) rfl rfl (Nat.le_of_ble_eq_true rfl) dJ1_charAt_3b067_3 ?_
  refine go_aload_n K dJ1_charAt_3b067_6 0 rfl rfl ?_
  refine go_iload_n K dJ1_charAt_3b067_7 1 rfl rfl ?_
  obtain ⟨g2, h⟩ := gd_e h
  refine gs_bald K hq g2 dJ1_charAt_3b067_8 ?_
  refine go_sipush (v := (255 : Int32)) K dJ1_charAt_3b067_9 (by decide) ?_
  refine go_iand K dJ1_charAt_3b067_12 ?_
  refine go_i2c K dJ1_charAt_3b067_13 ?_
  obtain ⟨g3, h⟩ := gd_e h
  exact go_zret K hr g3 (Option.some.inj h) rfl dJ1_charAt_3b067_14
noncomputable def f_J0_charAt_5068e (q : Nat) (v1 : Int32) : Option Int32 := (bnd (f_J0_isLatin1_aae02 q) (fun r1 => (if r1 = 0 then none else (bnd (f_J1_charAt_3b067 q v1) (fun r3 => (gd (narrow .char (.int r3) = .int r3) (some r3)))))))
theorem cf_J0_charAt_5068e : CF yJ0_charAt_5068e cJ0_charAt_5068e 2 (Option.some Jvm.ClassFile.FieldType.char) 1 := ⟨kc_J0_charAt_5068e, kj_J0, ⟨by decide +kernel, by decide +kernel, by decide +kernel⟩, by decide⟩
theorem cv_J0_charAt_5068e : CFv yJ0_charAt_5068e := ⟨ki_J0_charAt_5068e, ks_J0_charAt_5068e⟩
set_option maxHeartbeats 4000000 in
set_option maxRecDepth 100000 in
theorem c_J0_charAt_5068e (l : Launch) (G : GT) {q : Nat} (hq : q < 2) (v1 : Int32) (M : CM × OM) (res : Int32) (h : f_J0_charAt_5068e q v1 = some res) : MI l G yJ0_charAt_5068e cJ0_charAt_5068e 2 (Option.some Jvm.ClassFile.FieldType.char) (4) [.ref (G.2.2.2.1 q), .int v1] M res M := by
  unfold MI
  refine met_in RJ0 (by decide +kernel) rfl [(0, .ref (G.2.2.2.1 q)), (1, .int v1)] rfl (Nat.le_of_ble_eq_true rfl) ?_
  intro pM eM sM mM aM bM meM cM K hr
  rw [f_J0_charAt_5068e] at h
  refine go_aload_n K dJ0_charAt_5068e_0 0 rfl rfl ?_
  obtain ⟨r1, e1, h⟩ := bnd_e h
  refine go_cVIs K (c_J0_isLatin1_aae02 l G hq _ _ e1) cf_J0_isLatin1_aae02 cv_J0_isLatin1_aae02 km_J0_492 hq (by decide) rfl rfl (Nat.le_of_ble_eq_true rfl) dJ0_charAt_5068e_1 rfl ?_
  refine go_if_eq (tgt := 16) K dJ0_charAt_5068e_4 (by decide) (fun c2 => ?_) (fun c2 => ?_)
  · replace h := ite_t h c2
    refine go_aload_n K dJ0_charAt_5068e_16 0 rfl rfl ?_
    refine gs_val K hq kf_J0_9 dJ0_charAt_5068e_17 ?_
    refine go_iload_n K dJ0_charAt_5068e_20 1 rfl rfl ?_
    cases h
  replace h := ite_f h c2
  refine go_aload_n K dJ0_charAt_5068e_7 0 rfl rfl ?_
  refine gs_val K hq kf_J0_9 dJ0_charAt_5068e_8 ?_
  refine go_iload_n K dJ0_charAt_5068e_11 1 rfl rfl ?_
  obtain ⟨r3, e3, h⟩ := bnd_e h
  refine go_cSI K (c_J1_charAt_3b067 l G hq _ _ _ e3) cf_J1_charAt_3b067 kt_J1_charAt_3b067 km_J0_495 (by decide) rfl rfl (Nat.le_of_ble_eq_true rfl) dJ0_charAt_5068e_12 ?_
  obtain ⟨g4, h⟩ := gd_e h
  exact go_zret K hr g4 (Option.some.inj h) rfl dJ0_charAt_5068e_15
noncomputable def f_J1_canEncode_9a6ad (v0 : Int32) : Int32 := (if v0 < 0 then (0 : Int32) else (if (255 : Int32) < v0 then (0 : Int32) else (1 : Int32)))
theorem cf_J1_canEncode_9a6ad : CF yJ1_canEncode_9a6ad cJ1_canEncode_9a6ad 1 (Option.some Jvm.ClassFile.FieldType.boolean) 1 := ⟨kc_J1_canEncode_9a6ad, kj_J1, ⟨by decide +kernel, by decide +kernel, by decide +kernel⟩, by decide⟩
set_option maxHeartbeats 4000000 in
set_option maxRecDepth 100000 in
theorem c_J1_canEncode_9a6ad (l : Launch) (G : GT) (v0 : Int32) (M : CM × OM) (res : Int32) (h : f_J1_canEncode_9a6ad v0 = res) : MI l G yJ1_canEncode_9a6ad cJ1_canEncode_9a6ad 1 (Option.some Jvm.ClassFile.FieldType.boolean) (1) [.int v0] M res M := by
  unfold MI
  refine met_in RJ1 (by decide +kernel) rfl [(0, .int v0)] rfl (Nat.le_of_ble_eq_true rfl) ?_
  intro pM eM sM mM aM bM meM cM K hr
  rw [f_J1_canEncode_9a6ad] at h
  refine go_iload_n K dJ1_canEncode_9a6ad_0 0 rfl rfl ?_
  refine go_if_lt (tgt := 15) K dJ1_canEncode_9a6ad_1 (by decide) (fun c1 => ?_) (fun c1 => ?_)
  · replace h := ite_t h c1
    refine go_iconst (v := (0 : Int32)) K dJ1_canEncode_9a6ad_15 (by decide) ?_
    exact go_zret K hr (by decide) h rfl dJ1_canEncode_9a6ad_16
  replace h := ite_f h c1
  refine go_iload_n K dJ1_canEncode_9a6ad_4 0 rfl rfl ?_
  refine go_sipush (v := (255 : Int32)) K dJ1_canEncode_9a6ad_5 (by decide) ?_
  refine go_icmp_gt (tgt := 15) K dJ1_canEncode_9a6ad_8 (by decide) (fun c2 => ?_) (fun c2 => ?_)
  · replace h := ite_t h c2
    refine go_iconst (v := (0 : Int32)) K dJ1_canEncode_9a6ad_15 (by decide) ?_
    exact go_zret K hr (by decide) h rfl dJ1_canEncode_9a6ad_16
  replace h := ite_f h c2
  refine go_iconst (v := (1 : Int32)) K dJ1_canEncode_9a6ad_11 (by decide) ?_
  refine go_goto (tgt := 16) K dJ1_canEncode_9a6ad_12 (by decide) ?_
  exact go_zret K hr (by decide) h rfl dJ1_canEncode_9a6ad_16
noncomputable def J1_indexOfChar_4cfef_l7 (q : Nat) : Nat → Int32 → Int32 → Int32 → Option Int32
  | 0, _, _, _ => none
  | n + 1, v3, v4, v5 => (if v3 ≤ v5 then (some (-1 : Int32)) else (gd (inb v5 (strL.getD q 0)) (if ((strB.getD q []).getD v5.toNatClampNeg 0) = v4 then (some v5) else (J1_indexOfChar_4cfef_l7 q n v3 v4 (v5 + (1 : Int32))))))
noncomputable def f_J1_indexOfChar_4cfef (q : Nat) (v1 : Int32) (v2 : Int32) (v3 : Int32) : Option Int32 := (J1_indexOfChar_4cfef_l7 q FU v3 v1.toInt8.toInt32 v2)
theorem cf_J1_indexOfChar_4cfef : CF yJ1_indexOfChar_4cfef cJ1_indexOfChar_4cfef 6 (Option.some Jvm.ClassFile.FieldType.int) 4 := ⟨kc_J1_indexOfChar_4cfef, kj_J1, ⟨by decide +kernel, by decide +kernel, by decide +kernel⟩, by decide⟩
set_option maxHeartbeats 4000000 in
set_option maxRecDepth 100000 in
theorem c_J1_indexOfChar_4cfef (l : Launch) (G : GT) {q : Nat} (hq : q < 2) (v1 : Int32) (v2 : Int32) (v3 : Int32) (M : CM × OM) (res : Int32) (h : f_J1_indexOfChar_4cfef q v1 v2 v3 = some res) : MI l G yJ1_indexOfChar_4cfef cJ1_indexOfChar_4cfef 6 (Option.some Jvm.ClassFile.FieldType.int) (1) [.ref (G.2.2.2.2 q), .int v1, .int v2, .int v3] M res M := by
  unfold MI
  refine met_in RJ1 (by decide +kernel) rfl [(0, .ref (G.2.2.2.2 q)), (1, .int v1), (2, .int v2), (3, .int v3)] rfl (Nat.le_of_ble_eq_true rfl) ?_
  intro pM eM sM mM aM bM meM cM K hr
  have hl7 : ∀ (n7 : Nat) (v3 : Int32) (v4 : Int32) (v5 : Int32), J1_indexOfChar_4cfef_l7 q n7 v3 v4 v5 = some res → GO pM l eM (1) sM mM aM bM meM cM (MQ bM (va_Qi (fun (r' : Int32) (u : CM × OM) => r' = res ∧ u = M) (wB G) (Fr G)) aM sM 0 0 (Fr G)) G 6 M 7 [(0, .ref (G.2.2.2.2 q)), (3, .int v3), (4, .int v4), (5, .int v5)] [] := by
    intro n7
    induction n7 with
    | zero =>
      intro v3 v4 v5 h
      rw [J1_indexOfChar_4cfef_l7] at h
      cases h
    | succ n7 ih7 =>
      intro v3 v4 v5 h
      rw [J1_indexOfChar_4cfef_l7] at h
      refine go_iload K dJ1_indexOfChar_4cfef_7 3 rfl ?_
      refine go_iload_n K dJ1_indexOfChar_4cfef_9 1 rfl rfl ?_
      refine go_icmp_ge (tgt := 31) K dJ1_indexOfChar_4cfef_10 (by decide) (fun c1 => ?_) (fun c1 => ?_)
      · replace h := ite_t h c1
        refine go_iconst (v := (-1 : Int32)) K dJ1_indexOfChar_4cfef_31 (by decide) ?_
        exact go_iret K hr (Option.some.inj h) rfl dJ1_indexOfChar_4cfef_32
      replace h := ite_f h c1
      refine go_aload_n K dJ1_indexOfChar_4cfef_13 0 rfl rfl ?_
      refine go_iload K dJ1_indexOfChar_4cfef_14 3 rfl ?_
      obtain ⟨g2, h⟩ := gd_e h
      refine gs_bald K hq g2 dJ1_indexOfChar_4cfef_16 ?_
      refine go_iload K dJ1_indexOfChar_4cfef_17 2 rfl ?_
      refine go_icmp_ne (tgt := 25) K dJ1_indexOfChar_4cfef_19 (by decide) (fun c3 => ?_) (fun c3 => ?_)
      rotate_left
      · replace h := ite_t h c3
        refine go_iload K dJ1_indexOfChar_4cfef_22 3 rfl ?_
        exact go_iret K hr (Option.some.inj h) rfl dJ1_indexOfChar_4cfef_24
      replace h := ite_f h c3
      refine go_iinc K dJ1_indexOfChar_4cfef_25 3 rfl (v := (v5 + (1 : Int32))) rfl (by decide) (lv' := [(5, .int (v5 + (1 : Int32))), (0, .ref (G.2.2.2.2 q)), (3, .int v3), (4, .int v4)]) rfl ?_
      refine go_goto (tgt := 7) K dJ1_indexOfChar_4cfef_28 (by decide) ?_
      exact go_sub [1, 2, 3, 0] rfl (ih7 _ _ _ h)
  rw [f_J1_indexOfChar_4cfef] at h
  refine go_iload_n K dJ1_indexOfChar_4cfef_0 1 rfl rfl ?_
  refine go_i2b K dJ1_indexOfChar_4cfef_1 ?_
  refine go_istore K dJ1_indexOfChar_4cfef_2 (by decide) (lv' := [(4, .int v1.toInt8.toInt32), (0, .ref (G.2.2.2.2 q)), (1, .int v1), (2, .int v2), (3, .int v3)]) rfl ?_
  refine go_iload_n K dJ1_indexOfChar_4cfef_4 3 rfl rfl ?_
  refine go_istore K dJ1_indexOfChar_4cfef_5 (by decide) (lv' := [(5, .int v2), (4, .int v1.toInt8.toInt32), (0, .ref (G.2.2.2.2 q)), (1, .int v1), (2, .int v2), (3, .int v3)]) rfl ?_
  exact go_sub [2, 5, 1, 0] rfl (hl7 FU _ _ _ h)
noncomputable def f_J1_indexOf_4cfef (q : Nat) (v1 : Int32) (v2 : Int32) (v3 : Int32) : Option Int32 := (if (f_J1_canEncode_9a6ad v1) = 0 then (some (-1 : Int32)) else (if (f_J9_max_7cf53 v2 (0 : Int32)) < (f_J9_min_7cf53 v3 (nI (strL.getD q 0))) then (bnd (f_J1_indexOfChar_4cfef q v1 (f_J9_max_7cf53 v2 (0 : Int32)) (f_J9_min_7cf53 v3 (nI (strL.getD q 0)))) (fun r3 => (some r3))) else (some (-1 : Int32))))
theorem cf_J1_indexOf_4cfef : CF yJ1_indexOf_4cfef cJ1_indexOf_4cfef 4 (Option.some Jvm.ClassFile.FieldType.int) 4 := ⟨kc_J1_indexOf_4cfef, kj_J1, ⟨by decide +kernel, by decide +kernel, by decide +kernel⟩, by decide⟩
set_option maxHeartbeats 4000000 in
set_option maxRecDepth 100000 in
theorem c_J1_indexOf_4cfef (l : Launch) (G : GT) {q : Nat} (hq : q < 2) (v1 : Int32) (v2 : Int32) (v3 : Int32) (M : CM × OM) (res : Int32) (h : f_J1_indexOf_4cfef q v1 v2 v3 = some res) : MI l G yJ1_indexOf_4cfef cJ1_indexOf_4cfef 4 (Option.some Jvm.ClassFile.FieldType.int) (2) [.ref (G.2.2.2.2 q), .int v1, .int v2, .int v3] M res M := by
  unfold MI
  refine met_in RJ1 (by decide +kernel) rfl [(0, .ref (G.2.2.2.2 q)), (1, .int v1), (2, .int v2), (3, .int v3)] rfl (Nat.le_of_ble_eq_true rfl) ?_
  intro pM eM sM mM aM bM meM cM K hr
  rw [f_J1_indexOf_4cfef] at h
  refine go_iload_n K dJ1_indexOf_4cfef_0 1 rfl rfl ?_
  refine go_cSI K (c_J1_canEncode_9a6ad l G _ _ _ rfl) cf_J1_canEncode_9a6ad kt_J1_canEncode_9a6ad km_J1_88 (by decide) rfl rfl (Nat.le_of_ble_eq_true rfl) dJ1_indexOf_4cfef_1 ?_
  refine go_if_ne (tgt := 9) K dJ1_indexOf_4cfef_4 (by decide) (fun c1 => ?_) (fun c1 => ?_)
  rotate_left
  · replace h := ite_t h c1
    refine go_iconst (v := (-1 : Int32)) K dJ1_indexOf_4cfef_7 (by decide) ?_
    exact go_iret K hr (Option.some.inj h) rfl dJ1_indexOf_4cfef_8
  replace h := ite_f h c1
  refine go_iload_n K dJ1_indexOf_4cfef_9 2 rfl rfl ?_
  refine go_iconst (v := (0 : Int32)) K dJ1_indexOf_4cfef_10 (by decide) ?_
  refine go_cSI K (c_J9_max_7cf53 l G _ _ _ _ rfl) cf_J9_max_7cf53 kt_J9_max_7cf53 km_J1_92 (by decide) rfl rfl (Nat.le_of_ble_eq_true rfl) dJ1_indexOf_4cfef_11 ?_
  refine go_istore_n K dJ1_indexOf_4cfef_14 rfl (by decide) (lv' := [(2, .int (f_J9_max_7cf53 v2 (0 : Int32))), (0, .ref (G.2.2.2.2 q)), (1, .int v1), (3, .int v3)]) rfl ?_
  refine go_iload_n K dJ1_indexOf_4cfef_15 3 rfl rfl ?_
  refine go_aload_n K dJ1_indexOf_4cfef_16 1 rfl rfl ?_
  refine gs_alen K hq dJ1_indexOf_4cfef_17 ?_
  refine go_cSI K (c_J9_min_7cf53 l G _ _ _ _ rfl) cf_J9_min_7cf53 kt_J9_min_7cf53 km_J1_38 (by decide) rfl rfl (Nat.le_of_ble_eq_true rfl) dJ1_indexOf_4cfef_18 ?_
  refine go_istore_n K dJ1_indexOf_4cfef_21 rfl (by decide) (lv' := [(3, .int (f_J9_min_7cf53 v3 (nI (strL.getD q 0)))), (2, .int (f_J9_max_7cf53 v2 (0 : Int32))), (0, .ref (G.2.2.2.2 q)), (1, .int v1)]) rfl ?_
  refine go_iload_n K dJ1_indexOf_4cfef_22 1 rfl rfl ?_
  refine go_iload_n K dJ1_indexOf_4cfef_23 0 rfl rfl ?_
  refine go_icmp_lt (tgt := 29) K dJ1_indexOf_4cfef_24 (by decide) (fun c2 => ?_) (fun c2 => ?_)
  rotate_left
  · replace h := ite_f h c2
    refine go_iconst (v := (-1 : Int32)) K dJ1_indexOf_4cfef_27 (by decide) ?_
    exact go_iret K hr (Option.some.inj h) rfl dJ1_indexOf_4cfef_28
  replace h := ite_t h c2
  refine go_aload_n K dJ1_indexOf_4cfef_29 2 rfl rfl ?_
  refine go_iload_n K dJ1_indexOf_4cfef_30 3 rfl rfl ?_
  refine go_iload_n K dJ1_indexOf_4cfef_31 1 rfl rfl ?_
  refine go_iload_n K dJ1_indexOf_4cfef_32 0 rfl rfl ?_
  obtain ⟨r3, e3, h⟩ := bnd_e h
  refine go_cSI K (c_J1_indexOfChar_4cfef l G hq _ _ _ _ _ e3) cf_J1_indexOfChar_4cfef kt_J1_indexOfChar_4cfef km_J1_95 (by decide) rfl rfl (Nat.le_of_ble_eq_true rfl) dJ1_indexOf_4cfef_33 ?_
  exact go_iret K hr (Option.some.inj h) rfl dJ1_indexOf_4cfef_36
noncomputable def f_J0_indexOf_7cf53 (q : Nat) (v1 : Int32) (v2 : Int32) : Option Int32 := (bnd (f_J0_isLatin1_aae02 q) (fun r1 => (if r1 = 0 then (bnd (f_J0_length_8abf5 q) (fun r3 => none)) else (bnd (f_J0_length_8abf5 q) (fun r4 => (bnd (f_J1_indexOf_4cfef q v1 v2 r4) (fun r5 => (some r5))))))))
theorem cf_J0_indexOf_7cf53 : CF yJ0_indexOf_7cf53 cJ0_indexOf_7cf53 3 (Option.some Jvm.ClassFile.FieldType.int) 2 := ⟨kc_J0_indexOf_7cf53, kj_J0, ⟨by decide +kernel, by decide +kernel, by decide +kernel⟩, by decide⟩
theorem cv_J0_indexOf_7cf53 : CFv yJ0_indexOf_7cf53 := ⟨ki_J0_indexOf_7cf53, ks_J0_indexOf_7cf53⟩
set_option maxHeartbeats 4000000 in
set_option maxRecDepth 100000 in
theorem c_J0_indexOf_7cf53 (l : Launch) (G : GT) {q : Nat} (hq : q < 2) (v1 : Int32) (v2 : Int32) (M : CM × OM) (res : Int32) (h : f_J0_indexOf_7cf53 q v1 v2 = some res) : MI l G yJ0_indexOf_7cf53 cJ0_indexOf_7cf53 3 (Option.some Jvm.ClassFile.FieldType.int) (3) [.ref (G.2.2.2.1 q), .int v1, .int v2] M res M := by
  unfold MI
  refine met_in RJ0 (by decide +kernel) rfl [(0, .ref (G.2.2.2.1 q)), (1, .int v1), (2, .int v2)] rfl (Nat.le_of_ble_eq_true rfl) ?_
  intro pM eM sM mM aM bM meM cM K hr
  rw [f_J0_indexOf_7cf53] at h
  refine go_aload_n K dJ0_indexOf_7cf53_0 0 rfl rfl ?_
  obtain ⟨r1, e1, h⟩ := bnd_e h
  refine go_cVIs K (c_J0_isLatin1_aae02 l G hq _ _ e1) cf_J0_isLatin1_aae02 cv_J0_isLatin1_aae02 km_J0_492 hq (by decide) rfl rfl (Nat.le_of_ble_eq_true rfl) dJ0_indexOf_7cf53_1 rfl ?_
  refine go_if_eq (tgt := 23) K dJ0_indexOf_7cf53_4 (by decide) (fun c2 => ?_) (fun c2 => ?_)
  · replace h := ite_t h c2
    refine go_aload_n K dJ0_indexOf_7cf53_23 0 rfl rfl ?_
    refine gs_val K hq kf_J0_9 dJ0_indexOf_7cf53_24 ?_
    refine go_iload_n K dJ0_indexOf_7cf53_27 1 rfl rfl ?_
    refine go_iload_n K dJ0_indexOf_7cf53_28 2 rfl rfl ?_
    refine go_aload_n K dJ0_indexOf_7cf53_29 0 rfl rfl ?_
    obtain ⟨r3, e3, h⟩ := bnd_e h
    refine go_cVIs K (c_J0_length_8abf5 l G hq _ _ e3) cf_J0_length_8abf5 cv_J0_length_8abf5 km_J0_505 hq (by decide) rfl rfl (Nat.le_of_ble_eq_true rfl) dJ0_indexOf_7cf53_30 rfl ?_
    cases h
  replace h := ite_f h c2
  refine go_aload_n K dJ0_indexOf_7cf53_7 0 rfl rfl ?_
  refine gs_val K hq kf_J0_9 dJ0_indexOf_7cf53_8 ?_
  refine go_iload_n K dJ0_indexOf_7cf53_11 1 rfl rfl ?_
  refine go_iload_n K dJ0_indexOf_7cf53_12 2 rfl rfl ?_
  refine go_aload_n K dJ0_indexOf_7cf53_13 0 rfl rfl ?_
  obtain ⟨r4, e4, h⟩ := bnd_e h
  refine go_cVIs K (c_J0_length_8abf5 l G hq _ _ e4) cf_J0_length_8abf5 cv_J0_length_8abf5 km_J0_505 hq (by decide) rfl rfl (Nat.le_of_ble_eq_true rfl) dJ0_indexOf_7cf53_14 rfl ?_
  obtain ⟨r5, e5, h⟩ := bnd_e h
  refine go_cSI K (c_J1_indexOf_4cfef l G hq _ _ _ _ _ e5) cf_J1_indexOf_4cfef kt_J1_indexOf_4cfef km_J0_637 (by decide) rfl rfl (Nat.le_of_ble_eq_true rfl) dJ0_indexOf_7cf53_17 ?_
  refine go_goto (tgt := 36) K dJ0_indexOf_7cf53_20 (by decide) ?_
  exact go_iret K hr (Option.some.inj h) rfl dJ0_indexOf_7cf53_36
noncomputable def f_J0_indexOf_0f7a4 (q : Nat) (v1 : Int32) : Option Int32 := (bnd (f_J0_indexOf_7cf53 q v1 (0 : Int32)) (fun r1 => (some r1)))
theorem cf_J0_indexOf_0f7a4 : CF yJ0_indexOf_0f7a4 cJ0_indexOf_0f7a4 2 (Option.some Jvm.ClassFile.FieldType.int) 1 := ⟨kc_J0_indexOf_0f7a4, kj_J0, ⟨by decide +kernel, by decide +kernel, by decide +kernel⟩, by decide⟩
theorem cv_J0_indexOf_0f7a4 : CFv yJ0_indexOf_0f7a4 := ⟨ki_J0_indexOf_0f7a4, ks_J0_indexOf_0f7a4⟩
set_option maxHeartbeats 4000000 in
set_option maxRecDepth 100000 in
theorem c_J0_indexOf_0f7a4 (l : Launch) (G : GT) {q : Nat} (hq : q < 2) (v1 : Int32) (M : CM × OM) (res : Int32) (h : f_J0_indexOf_0f7a4 q v1 = some res) : MI l G yJ0_indexOf_0f7a4 cJ0_indexOf_0f7a4 2 (Option.some Jvm.ClassFile.FieldType.int) (4) [.ref (G.2.2.2.1 q), .int v1] M res M := by
  unfold MI
  refine met_in RJ0 (by decide +kernel) rfl [(0, .ref (G.2.2.2.1 q)), (1, .int v1)] rfl (Nat.le_of_ble_eq_true rfl) ?_
  intro pM eM sM mM aM bM meM cM K hr
  rw [f_J0_indexOf_0f7a4] at h
  refine go_aload_n K dJ0_indexOf_0f7a4_0 0 rfl rfl ?_
  refine go_iload_n K dJ0_indexOf_0f7a4_1 1 rfl rfl ?_
  refine go_iconst (v := (0 : Int32)) K dJ0_indexOf_0f7a4_2 (by decide) ?_
  obtain ⟨r1, e1, h⟩ := bnd_e h
  refine go_cVIs K (c_J0_indexOf_7cf53 l G hq _ _ _ _ e1) cf_J0_indexOf_7cf53 cv_J0_indexOf_7cf53 km_J0_633 hq (by decide) rfl rfl (Nat.le_of_ble_eq_true rfl) dJ0_indexOf_0f7a4_3 rfl ?_
  exact go_iret K hr (Option.some.inj h) rfl dJ0_indexOf_0f7a4_6
