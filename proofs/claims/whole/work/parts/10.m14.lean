noncomputable def X12_clause_j17 (O : OM) : Option OM := (bnd (f_X12_errs (1 : Int32) O) (fun O2 => (some O2)))
noncomputable def X12_clause_j155 (O : OM) : Option OM := (if (O.1 446 19) = 0 then (bnd (f_X12_clauseIsOver O) (fun O14 => (some O14))) else (some O))
noncomputable def X12_clause_j73 (O : OM) : Option OM := (if (O.1 446 19) ≤ 0 then (gd (inb (O.1 446 30) 24) (gd (inb ((oup O 463 (O.1 446 30).toNatClampNeg (O.1 446 31)).1 446 30) 24) (bnd (f_X12_next (oup (oup O 463 (O.1 446 30).toNatClampNeg (O.1 446 31)) 464 ((oup O 463 (O.1 446 30).toNatClampNeg (O.1 446 31)).1 446 30).toNatClampNeg ((oup O 463 (O.1 446 30).toNatClampNeg (O.1 446 31)).1 446 37))) (fun O9 => (if (3 : Int32) < (O9.1 446 31) then (bnd (f_X12_doing O9) (fun O11 => (if (O11.1 446 19) = 0 then (if (f_X12_isSign (59 : Int32) O11) = 0 then (bnd (f_X12_errs (1 : Int32) O11) (fun O16 => (X12_clause_j155 O16))) else (X12_clause_j155 O11)) else (X12_clause_j155 O11)))) else (bnd (f_X12_opensFrame (1 : Int32) O9) (fun O17 => (some (oup O17 446 28 (1 : Int32)))))))))) else (some O))
noncomputable def X12_clause_j58 (O : OM) : Option OM := (if (O.1 446 30) = (24 : Int32) then (bnd (f_X12_errs (6 : Int32) O) (fun O18 => (X12_clause_j73 O18))) else (X12_clause_j73 O))
noncomputable def f_X12_clause (O : OM) : Option OM := (if (O.1 446 17) = (1 : Int32) then (if (O.1 446 18) ≤ (11 : Int32) then (if (3 : Int32) < ((oup O 446 31 (O.1 446 18)).1 446 31) then (X12_clause_j58 (oup O 446 31 (O.1 446 18))) else (bnd (f_X12_wasTold ((oup O 446 31 (O.1 446 18)).1 446 31) (oup O 446 31 (O.1 446 18))) (fun r19 => (if r19 = 0 then (X12_clause_j58 (oup O 446 31 (O.1 446 18))) else (bnd (f_X12_errs (4 : Int32) (oup O 446 31 (O.1 446 18))) (fun O21 => (X12_clause_j73 O21))))))) else (X12_clause_j17 O)) else (X12_clause_j17 O))
theorem cf_X12_clause : CF yX12_clause cX12_clause 1 (Option.none : Option Jvm.ClassFile.FieldType) 0 := ⟨kc_X12_clause, kj_X12, ⟨by decide +kernel, by decide +kernel, by decide +kernel⟩, by decide⟩
theorem cv_X12_clause : CFv yX12_clause := ⟨ki_X12_clause, ks_X12_clause⟩
set_option maxHeartbeats 4000000 in
set_option maxRecDepth 100000 in
theorem c_X12_clause (l : Launch) (G : GT) (C : CM) (O : OM) (O' : OM) (h : f_X12_clause O = some O') : MV l G yX12_clause cX12_clause 1 (Option.none : Option Jvm.ClassFile.FieldType) (7) [.ref (gB G + 446)] (C, O) (C, O') := by
  unfold MV
  refine met_in RX12 (by decide +kernel) rfl [(0, .ref (gB G + 446))] rfl (Nat.le_of_ble_eq_true rfl) ?_
  intro pM eM sM mM aM bM meM cM K hr
  have hj17 : ∀ (O : OM), X12_clause_j17 O = some O' → GO pM l eM (7) sM mM aM bM meM cM (MQ bM (va_Qv (fun (u : CM × OM) => u = (C, O')) (wB G) (Fr G)) aM sM 0 0 (Fr G)) G 1 (C, O) 17 [(0, .ref (gB G + 446))] [] := by
    intro O h
    rw [X12_clause_j17] at h
    refine go_aload_n K dX12_clause_17 0 rfl rfl ?_
    refine go_iconst (v := (1 : Int32)) K dX12_clause_18 (by decide) ?_
    obtain ⟨O2, e2, h⟩ := bnd_e h
    refine go_cVV K (c_X12_errs l G _ _ _ _ e2) cf_X12_errs cv_X12_errs km_X12_230 rv_X12 (by decide) rfl rfl (Nat.le_of_ble_eq_true rfl) dX12_clause_19 ?_
    exact go_vret K hr (congrArg (fun z => (C, z)) (Option.some.inj h)) dX12_clause_22
  have hj155 : ∀ (O : OM), X12_clause_j155 O = some O' → GO pM l eM (7) sM mM aM bM meM cM (MQ bM (va_Qv (fun (u : CM × OM) => u = (C, O')) (wB G) (Fr G)) aM sM 0 0 (Fr G)) G 1 (C, O) 155 [(0, .ref (gB G + 446))] [] := by
    intro O h
    rw [X12_clause_j155] at h
    refine go_aload_n K dX12_clause_155 0 rfl rfl ?_
    refine gf_X12 K 19 (by decide) kf_X12_215 (v := .int (O.1 446 19)) rfl dX12_clause_156 ?_
    refine go_if_ne (tgt := 166) K dX12_clause_159 (by decide) (fun c13 => ?_) (fun c13 => ?_)
    · replace h := ite_f h c13
      exact go_vret K hr (congrArg (fun z => (C, z)) (Option.some.inj h)) dX12_clause_166
    replace h := ite_t h c13
    refine go_aload_n K dX12_clause_162 0 rfl rfl ?_
    obtain ⟨O14, e14, h⟩ := bnd_e h
    refine go_cVV K (c_X12_clauseIsOver l G _ _ _ e14) cf_X12_clauseIsOver cv_X12_clauseIsOver km_X12_296 rv_X12 (by decide) rfl rfl (Nat.le_of_ble_eq_true rfl) dX12_clause_163 ?_
    exact go_vret K hr (congrArg (fun z => (C, z)) (Option.some.inj h)) dX12_clause_166
  have hj73 : ∀ (O : OM), X12_clause_j73 O = some O' → GO pM l eM (7) sM mM aM bM meM cM (MQ bM (va_Qv (fun (u : CM × OM) => u = (C, O')) (wB G) (Fr G)) aM sM 0 0 (Fr G)) G 1 (C, O) 73 [(0, .ref (gB G + 446))] [] := by
    intro O h
    rw [X12_clause_j73] at h
    refine go_aload_n K dX12_clause_73 0 rfl rfl ?_
    refine gf_X12 K 19 (by decide) kf_X12_215 (v := .int (O.1 446 19)) rfl dX12_clause_74 ?_
    refine go_if_le (tgt := 81) K dX12_clause_77 (by decide) (fun c6 => ?_) (fun c6 => ?_)
    rotate_left
    · replace h := ite_f h c6
      exact go_vret K hr (congrArg (fun z => (C, z)) (Option.some.inj h)) dX12_clause_80
    replace h := ite_t h c6
    refine go_aload_n K dX12_clause_81 0 rfl rfl ?_
    refine gf_X12 K 32 (by decide) kf_X12_66 (v := .ref (gB G + 463)) rfl dX12_clause_82 ?_
    refine go_aload_n K dX12_clause_85 0 rfl rfl ?_
    refine gf_X12 K 30 (by decide) kf_X12_299 (v := .int (O.1 446 30)) rfl dX12_clause_86 ?_
    refine go_aload_n K dX12_clause_89 0 rfl rfl ?_
    refine gf_X12 K 31 (by decide) kf_X12_268 (v := .int (O.1 446 31)) rfl dX12_clause_90 ?_
    obtain ⟨g7, h⟩ := gd_e h
    refine go_mast K (Nat.le_of_ble_eq_true rfl) sh_463 g7 rfl dX12_clause_93 ?_
    refine go_aload_n K dX12_clause_94 0 rfl rfl ?_
    refine gf_X12 K 33 (by decide) kf_X12_69 (v := .ref (gB G + 464)) rfl dX12_clause_95 ?_
    refine go_aload_n K dX12_clause_98 0 rfl rfl ?_
    refine gf_X12 K 30 (by decide) kf_X12_299 (v := .int ((oup O 463 (O.1 446 30).toNatClampNeg (O.1 446 31)).1 446 30)) rfl dX12_clause_99 ?_
    refine go_aload_n K dX12_clause_102 0 rfl rfl ?_
    refine gf_X12 K 37 (by decide) kf_X12_221 (v := .int ((oup O 463 (O.1 446 30).toNatClampNeg (O.1 446 31)).1 446 37)) rfl dX12_clause_103 ?_
    obtain ⟨g8, h⟩ := gd_e h
    refine go_mast K (Nat.le_of_ble_eq_true rfl) sh_464 g8 rfl dX12_clause_106 ?_
    refine go_aload_n K dX12_clause_107 0 rfl rfl ?_
    obtain ⟨O9, e9, h⟩ := bnd_e h
    refine go_cVV K (c_X12_next l G _ _ _ e9) cf_X12_next cv_X12_next km_X12_236 rv_X12 (by decide) rfl rfl (Nat.le_of_ble_eq_true rfl) dX12_clause_108 ?_
    refine go_aload_n K dX12_clause_111 0 rfl rfl ?_
    refine gf_X12 K 31 (by decide) kf_X12_268 (v := .int (O9.1 446 31)) rfl dX12_clause_112 ?_
    refine go_iconst (v := (3 : Int32)) K dX12_clause_115 (by decide) ?_
    refine go_icmp_gt (tgt := 130) K dX12_clause_116 (by decide) (fun c10 => ?_) (fun c10 => ?_)
    rotate_left
    · replace h := ite_f h c10
      refine go_aload_n K dX12_clause_119 0 rfl rfl ?_
      refine go_iconst (v := (1 : Int32)) K dX12_clause_120 (by decide) ?_
      obtain ⟨O17, e17, h⟩ := bnd_e h
      refine go_cVV K (c_X12_opensFrame l G _ _ _ _ e17) cf_X12_opensFrame cv_X12_opensFrame km_X12_233 rv_X12 (by decide) rfl rfl (Nat.le_of_ble_eq_true rfl) dX12_clause_121 ?_
      refine go_aload_n K dX12_clause_124 0 rfl rfl ?_
      refine go_iconst (v := (1 : Int32)) K dX12_clause_125 (by decide) ?_
      refine pf_X12 K 28 (by decide) kf_X12_258 rfl rfl rfl dX12_clause_126 ?_
      exact go_vret K hr (congrArg (fun z => (C, z)) (Option.some.inj h)) dX12_clause_129
    replace h := ite_t h c10
    refine go_aload_n K dX12_clause_130 0 rfl rfl ?_
    obtain ⟨O11, e11, h⟩ := bnd_e h
    refine go_cVV K (c_X12_doing l G _ _ _ e11) cf_X12_doing cv_X12_doing km_X12_313 rv_X12 (by decide) rfl rfl (Nat.le_of_ble_eq_true rfl) dX12_clause_131 ?_
    refine go_aload_n K dX12_clause_134 0 rfl rfl ?_
    refine gf_X12 K 19 (by decide) kf_X12_215 (v := .int (O11.1 446 19)) rfl dX12_clause_135 ?_
    refine go_if_ne (tgt := 155) K dX12_clause_138 (by decide) (fun c12 => ?_) (fun c12 => ?_)
    · replace h := ite_f h c12
      exact hj155 _ h
    replace h := ite_t h c12
    refine go_aload_n K dX12_clause_141 0 rfl rfl ?_
    refine go_bipush (v := (59 : Int32)) K dX12_clause_142 (by decide) ?_
    refine go_cVI K (c_X12_isSign l G _ _ _ _ rfl) cf_X12_isSign cv_X12_isSign km_X12_275 rv_X12 (by decide) rfl rfl (Nat.le_of_ble_eq_true rfl) dX12_clause_144 ?_
    refine go_if_ne (tgt := 155) K dX12_clause_147 (by decide) (fun c15 => ?_) (fun c15 => ?_)
    · replace h := ite_f h c15
      exact hj155 _ h
    replace h := ite_t h c15
    refine go_aload_n K dX12_clause_150 0 rfl rfl ?_
    refine go_iconst (v := (1 : Int32)) K dX12_clause_151 (by decide) ?_
    obtain ⟨O16, e16, h⟩ := bnd_e h
    refine go_cVV K (c_X12_errs l G _ _ _ _ e16) cf_X12_errs cv_X12_errs km_X12_230 rv_X12 (by decide) rfl rfl (Nat.le_of_ble_eq_true rfl) dX12_clause_152 ?_
    exact hj155 _ h
  have hj58 : ∀ (O : OM), X12_clause_j58 O = some O' → GO pM l eM (7) sM mM aM bM meM cM (MQ bM (va_Qv (fun (u : CM × OM) => u = (C, O')) (wB G) (Fr G)) aM sM 0 0 (Fr G)) G 1 (C, O) 58 [(0, .ref (gB G + 446))] [] := by
    intro O h
    rw [X12_clause_j58] at h
    refine go_aload_n K dX12_clause_58 0 rfl rfl ?_
    refine gf_X12 K 30 (by decide) kf_X12_299 (v := .int (O.1 446 30)) rfl dX12_clause_59 ?_
    refine go_bipush (v := (24 : Int32)) K dX12_clause_62 (by decide) ?_
    refine go_icmp_ne (tgt := 73) K dX12_clause_64 (by decide) (fun c5 => ?_) (fun c5 => ?_)
    · replace h := ite_f h c5
      exact hj73 _ h
    replace h := ite_t h c5
    refine go_aload_n K dX12_clause_67 0 rfl rfl ?_
    refine go_bipush (v := (6 : Int32)) K dX12_clause_68 (by decide) ?_
    obtain ⟨O18, e18, h⟩ := bnd_e h
    refine go_cVV K (c_X12_errs l G _ _ _ _ e18) cf_X12_errs cv_X12_errs km_X12_230 rv_X12 (by decide) rfl rfl (Nat.le_of_ble_eq_true rfl) dX12_clause_70 ?_
    exact hj73 _ h
  rw [f_X12_clause] at h
  refine go_aload_n K dX12_clause_0 0 rfl rfl ?_
  refine gf_X12 K 17 (by decide) kf_X12_199 (v := .int (O.1 446 17)) rfl dX12_clause_1 ?_
  refine go_iconst (v := (1 : Int32)) K dX12_clause_4 (by decide) ?_
  refine go_icmp_ne (tgt := 17) K dX12_clause_5 (by decide) (fun c1 => ?_) (fun c1 => ?_)
  · replace h := ite_f h c1
    exact hj17 _ h
  replace h := ite_t h c1
  refine go_aload_n K dX12_clause_8 0 rfl rfl ?_
  refine gf_X12 K 18 (by decide) kf_X12_211 (v := .int (O.1 446 18)) rfl dX12_clause_9 ?_
  refine go_bipush (v := (11 : Int32)) K dX12_clause_12 (by decide) ?_
  refine go_icmp_le (tgt := 23) K dX12_clause_14 (by decide) (fun c3 => ?_) (fun c3 => ?_)
  rotate_left
  · replace h := ite_f h c3
    exact hj17 _ h
  replace h := ite_t h c3
  refine go_aload_n K dX12_clause_23 0 rfl rfl ?_
  refine go_aload_n K dX12_clause_24 0 rfl rfl ?_
  refine gf_X12 K 18 (by decide) kf_X12_211 (v := .int (O.1 446 18)) rfl dX12_clause_25 ?_
  refine pf_X12 K 31 (by decide) kf_X12_268 rfl rfl rfl dX12_clause_28 ?_
  refine go_aload_n K dX12_clause_31 0 rfl rfl ?_
  refine gf_X12 K 31 (by decide) kf_X12_268 (v := .int ((oup O 446 31 (O.1 446 18)).1 446 31)) rfl dX12_clause_32 ?_
  refine go_iconst (v := (3 : Int32)) K dX12_clause_35 (by decide) ?_
  refine go_icmp_gt (tgt := 58) K dX12_clause_36 (by decide) (fun c4 => ?_) (fun c4 => ?_)
  · replace h := ite_t h c4
    exact hj58 _ h
  replace h := ite_f h c4
  refine go_aload_n K dX12_clause_39 0 rfl rfl ?_
  refine go_aload_n K dX12_clause_40 0 rfl rfl ?_
  refine gf_X12 K 31 (by decide) kf_X12_268 (v := .int ((oup O 446 31 (O.1 446 18)).1 446 31)) rfl dX12_clause_41 ?_
  obtain ⟨r19, e19, h⟩ := bnd_e h
  refine go_cVI K (c_X12_wasTold l G _ _ _ _ e19) cf_X12_wasTold cv_X12_wasTold km_X12_310 rv_X12 (by decide) rfl rfl (Nat.le_of_ble_eq_true rfl) dX12_clause_44 ?_
  refine go_if_eq (tgt := 58) K dX12_clause_47 (by decide) (fun c20 => ?_) (fun c20 => ?_)
  · replace h := ite_t h c20
    exact hj58 _ h
  replace h := ite_f h c20
  refine go_aload_n K dX12_clause_50 0 rfl rfl ?_
  refine go_iconst (v := (4 : Int32)) K dX12_clause_51 (by decide) ?_
  obtain ⟨O21, e21, h⟩ := bnd_e h
  refine go_cVV K (c_X12_errs l G _ _ _ _ e21) cf_X12_errs cv_X12_errs km_X12_230 rv_X12 (by decide) rfl rfl (Nat.le_of_ble_eq_true rfl) dX12_clause_52 ?_
  refine go_goto (tgt := 73) K dX12_clause_55 (by decide) ?_
  exact hj73 _ h
noncomputable def X12_text_j394 (v1 : Int32) (O : OM) : Option (Int32 × OM) := (some (v1, (oup O 447 1 ((O.1 447 1) + (1 : Int32)))))
noncomputable def X12_text_j386 (rc : Int32 → Int32 → OM → Option (Int32 × OM)) (k394 : Int32 → OM → Option (Int32 × OM)) (v1 : Int32) (v2 : Int32) (t0 : Int32) (t1 : Int32) (t2 : Int32) (O : OM) : Option (Int32 × OM) := (gd (inb t2 1600) (rc v1 (v2 + (1 : Int32)) (oup O 457 t2.toNatClampNeg (t1 + t0))))
noncomputable def X12_text_j377 (rc : Int32 → Int32 → OM → Option (Int32 × OM)) (k394 : Int32 → OM → Option (Int32 × OM)) (v1 : Int32) (v2 : Int32) (t0 : Int32) (t1 : Int32) (O : OM) : Option (Int32 × OM) := (X12_text_j386 rc k394 v1 v2 ((400 : Int32) * v1) t0 t1 O)
noncomputable def X12_text_l318 (k394 : Int32 → OM → Option (Int32 × OM)) : Nat → Int32 → Int32 → OM → Option (Int32 × OM)
  | 0, _, _, _ => none
  | n + 1, v1, v2, O => (if (O.1 446 37) ≤ v2 then (k394 v1 O) else (gd (inb v2 400) (gd (inb (((400 : Int32) * v1) + v2) 1600) (gd (inb v2 400) (if (O.1 468 v2.toNatClampNeg) = (404 : Int32) then (X12_text_j377 (fun v1 v2 O => X12_text_l318 k394 n v1 v2 O) k394 v1 v2 ((oup O 456 (((400 : Int32) * v1) + v2).toNatClampNeg (O.1 468 v2.toNatClampNeg)).1 469 v2.toNatClampNeg) (((400 : Int32) * v1) + v2) (oup O 456 (((400 : Int32) * v1) + v2).toNatClampNeg (O.1 468 v2.toNatClampNeg))) else (if (O.1 468 v2.toNatClampNeg) = (409 : Int32) then (X12_text_j377 (fun v1 v2 O => X12_text_l318 k394 n v1 v2 O) k394 v1 v2 ((oup O 456 (((400 : Int32) * v1) + v2).toNatClampNeg (O.1 468 v2.toNatClampNeg)).1 469 v2.toNatClampNeg) (((400 : Int32) * v1) + v2) (oup O 456 (((400 : Int32) * v1) + v2).toNatClampNeg (O.1 468 v2.toNatClampNeg))) else (X12_text_j386 (fun v1 v2 O => X12_text_l318 k394 n v1 v2 O) k394 v1 v2 (0 : Int32) ((oup O 456 (((400 : Int32) * v1) + v2).toNatClampNeg (O.1 468 v2.toNatClampNeg)).1 469 v2.toNatClampNeg) (((400 : Int32) * v1) + v2) (oup O 456 (((400 : Int32) * v1) + v2).toNatClampNeg (O.1 468 v2.toNatClampNeg)))))))))
noncomputable def X12_text_j316 (v1 : Int32) (O : OM) : Option (Int32 × OM) := (X12_text_l318 (fun v1 O => (X12_text_j394 v1 O)) FU v1 (0 : Int32) O)
noncomputable def X12_text_l211 (k316 : Int32 → OM → Option (Int32 × OM)) : Nat → Int32 → Int32 → OM → Option (Int32 × OM)
  | 0, _, _, _ => none
  | n + 1, v1, v2, O => (if (O.1 446 30) ≤ v2 then (k316 v1 O) else (gd (inb v2 24) (gd (inb (((24 : Int32) * v1) + v2) 96) (gd (inb v2 24) (gd (inb (((24 : Int32) * v1) + v2) 96) (gd (inb v2 24) (gd (inb (((24 : Int32) * v1) + v2) 96) (gd (inb v2 24) (gd (inb (((24 : Int32) * v1) + v2) 96) (gd (inb v2 24) (gd (inb (((24 : Int32) * v1) + v2) 96) (X12_text_l211 k316 n v1 (v2 + (1 : Int32)) (oup (oup (oup (oup (oup O 451 (((24 : Int32) * v1) + v2).toNatClampNeg (O.1 463 v2.toNatClampNeg)) 452 (((24 : Int32) * v1) + v2).toNatClampNeg (((400 : Int32) * v1) + ((oup O 451 (((24 : Int32) * v1) + v2).toNatClampNeg (O.1 463 v2.toNatClampNeg)).1 464 v2.toNatClampNeg))) 453 (((24 : Int32) * v1) + v2).toNatClampNeg ((oup (oup O 451 (((24 : Int32) * v1) + v2).toNatClampNeg (O.1 463 v2.toNatClampNeg)) 452 (((24 : Int32) * v1) + v2).toNatClampNeg (((400 : Int32) * v1) + ((oup O 451 (((24 : Int32) * v1) + v2).toNatClampNeg (O.1 463 v2.toNatClampNeg)).1 464 v2.toNatClampNeg))).1 465 v2.toNatClampNeg)) 454 (((24 : Int32) * v1) + v2).toNatClampNeg ((oup (oup (oup O 451 (((24 : Int32) * v1) + v2).toNatClampNeg (O.1 463 v2.toNatClampNeg)) 452 (((24 : Int32) * v1) + v2).toNatClampNeg (((400 : Int32) * v1) + ((oup O 451 (((24 : Int32) * v1) + v2).toNatClampNeg (O.1 463 v2.toNatClampNeg)).1 464 v2.toNatClampNeg))) 453 (((24 : Int32) * v1) + v2).toNatClampNeg ((oup (oup O 451 (((24 : Int32) * v1) + v2).toNatClampNeg (O.1 463 v2.toNatClampNeg)) 452 (((24 : Int32) * v1) + v2).toNatClampNeg (((400 : Int32) * v1) + ((oup O 451 (((24 : Int32) * v1) + v2).toNatClampNeg (O.1 463 v2.toNatClampNeg)).1 464 v2.toNatClampNeg))).1 465 v2.toNatClampNeg)).1 466 v2.toNatClampNeg)) 455 (((24 : Int32) * v1) + v2).toNatClampNeg ((oup (oup (oup (oup O 451 (((24 : Int32) * v1) + v2).toNatClampNeg (O.1 463 v2.toNatClampNeg)) 452 (((24 : Int32) * v1) + v2).toNatClampNeg (((400 : Int32) * v1) + ((oup O 451 (((24 : Int32) * v1) + v2).toNatClampNeg (O.1 463 v2.toNatClampNeg)).1 464 v2.toNatClampNeg))) 453 (((24 : Int32) * v1) + v2).toNatClampNeg ((oup (oup O 451 (((24 : Int32) * v1) + v2).toNatClampNeg (O.1 463 v2.toNatClampNeg)) 452 (((24 : Int32) * v1) + v2).toNatClampNeg (((400 : Int32) * v1) + ((oup O 451 (((24 : Int32) * v1) + v2).toNatClampNeg (O.1 463 v2.toNatClampNeg)).1 464 v2.toNatClampNeg))).1 465 v2.toNatClampNeg)) 454 (((24 : Int32) * v1) + v2).toNatClampNeg ((oup (oup (oup O 451 (((24 : Int32) * v1) + v2).toNatClampNeg (O.1 463 v2.toNatClampNeg)) 452 (((24 : Int32) * v1) + v2).toNatClampNeg (((400 : Int32) * v1) + ((oup O 451 (((24 : Int32) * v1) + v2).toNatClampNeg (O.1 463 v2.toNatClampNeg)).1 464 v2.toNatClampNeg))) 453 (((24 : Int32) * v1) + v2).toNatClampNeg ((oup (oup O 451 (((24 : Int32) * v1) + v2).toNatClampNeg (O.1 463 v2.toNatClampNeg)) 452 (((24 : Int32) * v1) + v2).toNatClampNeg (((400 : Int32) * v1) + ((oup O 451 (((24 : Int32) * v1) + v2).toNatClampNeg (O.1 463 v2.toNatClampNeg)).1 464 v2.toNatClampNeg))).1 465 v2.toNatClampNeg)).1 466 v2.toNatClampNeg)).1 467 v2.toNatClampNeg))))))))))))))
noncomputable def X12_text_j167 (O : OM) : Option (Int32 × OM) := (if ((oup (oup O 446 4 (O.1 446 19)) 446 5 ((oup O 446 4 (O.1 446 19)).1 446 20)).1 446 19) ≤ 0 then (gd (inb ((oup (oup O 446 4 (O.1 446 19)) 446 5 ((oup O 446 4 (O.1 446 19)).1 446 20)).1 447 1) 4) (X12_text_l211 (fun v1 O => (X12_text_j316 v1 O)) FU ((oup (oup O 446 4 (O.1 446 19)) 446 5 ((oup O 446 4 (O.1 446 19)).1 446 20)).1 447 1) (0 : Int32) (oup (oup (oup O 446 4 (O.1 446 19)) 446 5 ((oup O 446 4 (O.1 446 19)).1 446 20)) 450 ((oup (oup O 446 4 (O.1 446 19)) 446 5 ((oup O 446 4 (O.1 446 19)).1 446 20)).1 447 1).toNatClampNeg ((oup (oup O 446 4 (O.1 446 19)) 446 5 ((oup O 446 4 (O.1 446 19)).1 446 20)).1 446 30)))) else (some ((-1 : Int32), (oup (oup O 446 4 (O.1 446 19)) 446 5 ((oup O 446 4 (O.1 446 19)).1 446 20)))))
noncomputable def X12_text_j96 (rc : OM → Option (Int32 × OM)) (k167 : OM → Option (Int32 × OM)) (O : OM) : Option (Int32 × OM) := (if (O.1 446 28) = (0 : Int32) then (bnd (f_X12_asks O) (fun O6 => (rc O6))) else (if (O.1 446 28) = (1 : Int32) then (bnd (f_X12_begins O) (fun O8 => (rc O8))) else (if (O.1 446 28) = (2 : Int32) then (bnd (f_X12_goesOn O) (fun O10 => (rc O10))) else (if (O.1 446 28) = (3 : Int32) then (bnd (f_X12_asksOn O) (fun O12 => (rc O12))) else (bnd (f_X12_clause O) (fun O13 => (rc O13)))))))
noncomputable def X12_text_l74 (k167 : OM → Option (Int32 × OM)) : Nat → OM → Option (Int32 × OM)
  | 0, _ => none
  | n + 1, O => (if (O.1 446 19) = 0 then (if (O.1 446 28) = (4 : Int32) then (if (O.1 446 17) = 0 then (k167 O) else (X12_text_j96 (fun O => X12_text_l74 k167 n O) k167 O)) else (X12_text_j96 (fun O => X12_text_l74 k167 n O) k167 O)) else (k167 O))
noncomputable def f_X12_text (O : OM) : Option (Int32 × OM) := (if (O.1 447 1) = (4 : Int32) then (some ((-1 : Int32), O)) else (bnd (f_X12_next (oup (oup (oup (oup (oup (oup (oup (oup (oup (oup (oup O 446 14 (O.1 446 3)) 446 3 (0 : Int32)) 446 15 (0 : Int32)) 446 19 (0 : Int32)) 446 20 (-1 : Int32)) 446 21 (0 : Int32)) 446 22 (0 : Int32)) 446 25 (0 : Int32)) 446 28 (4 : Int32)) 446 30 (0 : Int32)) 446 37 (0 : Int32))) (fun O2 => (X12_text_l74 (fun O => (X12_text_j167 O)) FU O2))))
theorem cf_X12_text : CF yX12_text cX12_text 4 (Option.some Jvm.ClassFile.FieldType.int) 0 := ⟨kc_X12_text, kj_X12, ⟨by decide +kernel, by decide +kernel, by decide +kernel⟩, by decide⟩
theorem cv_X12_text : CFv yX12_text := ⟨ki_X12_text, ks_X12_text⟩
set_option maxHeartbeats 4000000 in
set_option maxRecDepth 100000 in
theorem c_X12_text (l : Launch) (G : GT) (C : CM) (O : OM) (res : Int32) (O' : OM) (h : f_X12_text O = some (res, O')) : MI l G yX12_text cX12_text 4 (Option.some Jvm.ClassFile.FieldType.int) (8) [.ref (gB G + 446)] (C, O) res (C, O') := by
  unfold MI
  refine met_in RX12 (by decide +kernel) rfl [(0, .ref (gB G + 446))] rfl (Nat.le_of_ble_eq_true rfl) ?_
  intro pM eM sM mM aM bM meM cM K hr
  have hj394 : ∀ (v1 : Int32) (O : OM), X12_text_j394 v1 O = some (res, O') → GO pM l eM (8) sM mM aM bM meM cM (MQ bM (va_Qi (fun (r' : Int32) (u : CM × OM) => r' = res ∧ u = (C, O')) (wB G) (Fr G)) aM sM 0 0 (Fr G)) G 4 (C, O) 394 [(0, .ref (gB G + 446)), (1, .int v1)] [] := by
    intro v1 O h
    rw [X12_text_j394] at h
    refine go_aload_n K dX12_text_394 0 rfl rfl ?_
    refine gf_X12 K 0 (by decide) kf_X12_7 (v := .ref (gB G + 447)) rfl dX12_text_395 ?_
    refine go_iconst (v := (1 : Int32)) K dX12_text_398 (by decide) ?_
    refine go_dup2 K dX12_text_399 rfl rfl ?_
    refine go_mald K (Nat.le_of_ble_eq_true rfl) sh_447 (in_k (k := 1) (by decide) (by decide)) rfl dX12_text_400 ?_
    refine go_iconst (v := (1 : Int32)) K dX12_text_401 (by decide) ?_
    refine go_iadd K dX12_text_402 ?_
    refine go_mast K (Nat.le_of_ble_eq_true rfl) sh_447 (in_k (k := 1) (by decide) (by decide)) rfl dX12_text_403 ?_
    refine go_iload_n K dX12_text_404 1 rfl rfl ?_
    exact go_iret K hr (Prod.mk.inj (Option.some.inj h)).1 (congrArg (fun z => (C, z)) (Prod.mk.inj (Option.some.inj h)).2) dX12_text_405
  have hl318 : ∀ (n318 : Nat) (v1 : Int32) (v2 : Int32) (O : OM), X12_text_l318 (fun v1 O => (X12_text_j394 v1 O)) n318 v1 v2 O = some (res, O') → GO pM l eM (8) sM mM aM bM meM cM (MQ bM (va_Qi (fun (r' : Int32) (u : CM × OM) => r' = res ∧ u = (C, O')) (wB G) (Fr G)) aM sM 0 0 (Fr G)) G 4 (C, O) 318 [(0, .ref (gB G + 446)), (1, .int v1), (2, .int v2)] [] := by
    intro n318
    induction n318 with
    | zero =>
      intro v1 v2 O h
      rw [X12_text_l318] at h
      cases h
    | succ n318 ih318 =>
      have hj386 : ∀ (v1 : Int32) (v2 : Int32) (t0 : Int32) (t1 : Int32) (t2 : Int32) (O : OM), X12_text_j386 (fun v1 v2 O => X12_text_l318 (fun v1 O => (X12_text_j394 v1 O)) n318 v1 v2 O) (fun v1 O => (X12_text_j394 v1 O)) v1 v2 t0 t1 t2 O = some (res, O') → GO pM l eM (8) sM mM aM bM meM cM (MQ bM (va_Qi (fun (r' : Int32) (u : CM × OM) => r' = res ∧ u = (C, O')) (wB G) (Fr G)) aM sM 0 0 (Fr G)) G 4 (C, O) 386 [(0, .ref (gB G + 446)), (1, .int v1), (2, .int v2)] [.int t0, .int t1, .int t2, .ref (gB G + 457)] := by
        intro v1 v2 t0 t1 t2 O h
        rw [X12_text_j386] at h
        refine go_iadd K dX12_text_386 ?_
        obtain ⟨g33, h⟩ := gd_e h
        refine go_mast K (Nat.le_of_ble_eq_true rfl) sh_457 g33 rfl dX12_text_387 ?_
        refine go_iinc K dX12_text_388 2 rfl (v := (v2 + (1 : Int32))) rfl (by decide) (lv' := [(2, .int (v2 + (1 : Int32))), (0, .ref (gB G + 446)), (1, .int v1)]) rfl ?_
        refine go_goto (tgt := 318) K dX12_text_391 (by decide) ?_
        exact go_sub [1, 2, 0] rfl (ih318 _ _ _ h)
      have hj377 : ∀ (v1 : Int32) (v2 : Int32) (t0 : Int32) (t1 : Int32) (O : OM), X12_text_j377 (fun v1 v2 O => X12_text_l318 (fun v1 O => (X12_text_j394 v1 O)) n318 v1 v2 O) (fun v1 O => (X12_text_j394 v1 O)) v1 v2 t0 t1 O = some (res, O') → GO pM l eM (8) sM mM aM bM meM cM (MQ bM (va_Qi (fun (r' : Int32) (u : CM × OM) => r' = res ∧ u = (C, O')) (wB G) (Fr G)) aM sM 0 0 (Fr G)) G 4 (C, O) 377 [(0, .ref (gB G + 446)), (1, .int v1), (2, .int v2)] [.int t0, .int t1, .ref (gB G + 457)] := by
        intro v1 v2 t0 t1 O h
        rw [X12_text_j377] at h
        refine go_sipush (v := (400 : Int32)) K dX12_text_377 (by decide) ?_
        refine go_iload_n K dX12_text_380 1 rfl rfl ?_
        refine go_imul K dX12_text_381 ?_
        refine go_goto (tgt := 386) K dX12_text_382 (by decide) ?_
        exact hj386 _ _ _ _ _ _ h
      intro v1 v2 O h
      rw [X12_text_l318] at h
      refine go_iload_n K dX12_text_318 2 rfl rfl ?_
      refine go_aload_n K dX12_text_319 0 rfl rfl ?_
      refine gf_X12 K 37 (by decide) kf_X12_221 (v := .int (O.1 446 37)) rfl dX12_text_320 ?_
      refine go_icmp_ge (tgt := 394) K dX12_text_323 (by decide) (fun c28 => ?_) (fun c28 => ?_)
      · replace h := ite_t h c28
        exact go_sub [0, 1] rfl (hj394 _ _ h)
      replace h := ite_f h c28
      refine go_aload_n K dX12_text_326 0 rfl rfl ?_
      refine gf_X12 K 38 (by decide) kf_X12_81 (v := .ref (gB G + 468)) rfl dX12_text_327 ?_
      refine go_iload_n K dX12_text_330 2 rfl rfl ?_
      obtain ⟨g29, h⟩ := gd_e h
      refine go_mald K (Nat.le_of_ble_eq_true rfl) sh_468 g29 rfl dX12_text_331 ?_
      refine go_istore_n K dX12_text_332 rfl (by decide) (lv' := [(3, .int (O.1 468 v2.toNatClampNeg)), (0, .ref (gB G + 446)), (1, .int v1), (2, .int v2)]) rfl ?_
      refine go_aload_n K dX12_text_333 1 rfl rfl ?_
      refine gf_X12 K 12 (by decide) kf_X12_45 (v := .ref (gB G + 456)) rfl dX12_text_334 ?_
      refine go_sipush (v := (400 : Int32)) K dX12_text_337 (by decide) ?_
      refine go_iload_n K dX12_text_340 2 rfl rfl ?_
      refine go_imul K dX12_text_341 ?_
      refine go_iload_n K dX12_text_342 3 rfl rfl ?_
      refine go_iadd K dX12_text_343 ?_
      refine go_iload_n K dX12_text_344 0 rfl rfl ?_
      obtain ⟨g30, h⟩ := gd_e h
      refine go_mast K (Nat.le_of_ble_eq_true rfl) sh_456 g30 rfl dX12_text_345 ?_
      refine go_aload_n K dX12_text_346 1 rfl rfl ?_
      refine gf_X12 K 13 (by decide) kf_X12_48 (v := .ref (gB G + 457)) rfl dX12_text_347 ?_
      refine go_sipush (v := (400 : Int32)) K dX12_text_350 (by decide) ?_
      refine go_iload_n K dX12_text_353 2 rfl rfl ?_
      refine go_imul K dX12_text_354 ?_
      refine go_iload_n K dX12_text_355 3 rfl rfl ?_
      refine go_iadd K dX12_text_356 ?_
      refine go_aload_n K dX12_text_357 1 rfl rfl ?_
      refine gf_X12 K 39 (by decide) kf_X12_84 (v := .ref (gB G + 469)) rfl dX12_text_358 ?_
      refine go_iload_n K dX12_text_361 3 rfl rfl ?_
      obtain ⟨g31, h⟩ := gd_e h
      refine go_mald K (Nat.le_of_ble_eq_true rfl) sh_469 g31 rfl dX12_text_362 ?_
      refine go_iload_n K dX12_text_363 0 rfl rfl ?_
      refine go_sipush (v := (404 : Int32)) K dX12_text_364 (by decide) ?_
      refine go_icmp_eq (tgt := 377) K dX12_text_367 (by decide) (fun c32 => ?_) (fun c32 => ?_)
      · replace h := ite_t h c32
        exact go_sub [1, 2, 3] rfl (hj377 _ _ _ _ _ h)
      replace h := ite_f h c32
      refine go_iload_n K dX12_text_370 0 rfl rfl ?_
      refine go_sipush (v := (409 : Int32)) K dX12_text_371 (by decide) ?_
      refine go_icmp_ne (tgt := 385) K dX12_text_374 (by decide) (fun c34 => ?_) (fun c34 => ?_)
      rotate_left
      · replace h := ite_t h c34
        exact go_sub [1, 2, 3] rfl (hj377 _ _ _ _ _ h)
      replace h := ite_f h c34
      refine go_iconst (v := (0 : Int32)) K dX12_text_385 (by decide) ?_
      exact go_sub [1, 2, 3] rfl (hj386 _ _ _ _ _ _ h)
  have hj316 : ∀ (v1 : Int32) (O : OM), X12_text_j316 v1 O = some (res, O') → GO pM l eM (8) sM mM aM bM meM cM (MQ bM (va_Qi (fun (r' : Int32) (u : CM × OM) => r' = res ∧ u = (C, O')) (wB G) (Fr G)) aM sM 0 0 (Fr G)) G 4 (C, O) 316 [(0, .ref (gB G + 446)), (1, .int v1)] [] := by
    intro v1 O h
    rw [X12_text_j316] at h
    refine go_iconst (v := (0 : Int32)) K dX12_text_316 (by decide) ?_
    refine go_istore_n K dX12_text_317 rfl (by decide) (lv' := [(2, .int (0 : Int32)), (0, .ref (gB G + 446)), (1, .int v1)]) rfl ?_
    exact go_sub [1, 2, 0] rfl (hl318 FU _ _ _ h)
  have hl211 : ∀ (n211 : Nat) (v1 : Int32) (v2 : Int32) (O : OM), X12_text_l211 (fun v1 O => (X12_text_j316 v1 O)) n211 v1 v2 O = some (res, O') → GO pM l eM (8) sM mM aM bM meM cM (MQ bM (va_Qi (fun (r' : Int32) (u : CM × OM) => r' = res ∧ u = (C, O')) (wB G) (Fr G)) aM sM 0 0 (Fr G)) G 4 (C, O) 211 [(0, .ref (gB G + 446)), (1, .int v1), (2, .int v2)] [] := by
    intro n211
    induction n211 with
    | zero =>
      intro v1 v2 O h
      rw [X12_text_l211] at h
      cases h
    | succ n211 ih211 =>
      intro v1 v2 O h
      rw [X12_text_l211] at h
      refine go_iload_n K dX12_text_211 2 rfl rfl ?_
      refine go_aload_n K dX12_text_212 0 rfl rfl ?_
      refine gf_X12 K 30 (by decide) kf_X12_299 (v := .int (O.1 446 30)) rfl dX12_text_213 ?_
      refine go_icmp_ge (tgt := 316) K dX12_text_216 (by decide) (fun c17 => ?_) (fun c17 => ?_)
      · replace h := ite_t h c17
        exact go_sub [0, 1] rfl (hj316 _ _ h)
      replace h := ite_f h c17
      refine go_aload_n K dX12_text_219 0 rfl rfl ?_
      refine gf_X12 K 7 (by decide) kf_X12_30 (v := .ref (gB G + 451)) rfl dX12_text_220 ?_
      refine go_bipush (v := (24 : Int32)) K dX12_text_223 (by decide) ?_
      refine go_iload_n K dX12_text_225 1 rfl rfl ?_
      refine go_imul K dX12_text_226 ?_
      refine go_iload_n K dX12_text_227 2 rfl rfl ?_
      refine go_iadd K dX12_text_228 ?_
      refine go_aload_n K dX12_text_229 0 rfl rfl ?_
      refine gf_X12 K 32 (by decide) kf_X12_66 (v := .ref (gB G + 463)) rfl dX12_text_230 ?_
      refine go_iload_n K dX12_text_233 2 rfl rfl ?_
      obtain ⟨g18, h⟩ := gd_e h
      refine go_mald K (Nat.le_of_ble_eq_true rfl) sh_463 g18 rfl dX12_text_234 ?_
      obtain ⟨g19, h⟩ := gd_e h
      refine go_mast K (Nat.le_of_ble_eq_true rfl) sh_451 g19 rfl dX12_text_235 ?_
      refine go_aload_n K dX12_text_236 0 rfl rfl ?_
      refine gf_X12 K 8 (by decide) kf_X12_33 (v := .ref (gB G + 452)) rfl dX12_text_237 ?_
      refine go_bipush (v := (24 : Int32)) K dX12_text_240 (by decide) ?_
      refine go_iload_n K dX12_text_242 1 rfl rfl ?_
      refine go_imul K dX12_text_243 ?_
      refine go_iload_n K dX12_text_244 2 rfl rfl ?_
      refine go_iadd K dX12_text_245 ?_
      refine go_sipush (v := (400 : Int32)) K dX12_text_246 (by decide) ?_
      refine go_iload_n K dX12_text_249 1 rfl rfl ?_
      refine go_imul K dX12_text_250 ?_
      refine go_aload_n K dX12_text_251 0 rfl rfl ?_
      refine gf_X12 K 33 (by decide) kf_X12_69 (v := .ref (gB G + 464)) rfl dX12_text_252 ?_
      refine go_iload_n K dX12_text_255 2 rfl rfl ?_
      obtain ⟨g20, h⟩ := gd_e h
      refine go_mald K (Nat.le_of_ble_eq_true rfl) sh_464 g20 rfl dX12_text_256 ?_
      refine go_iadd K dX12_text_257 ?_
      obtain ⟨g21, h⟩ := gd_e h
      refine go_mast K (Nat.le_of_ble_eq_true rfl) sh_452 g21 rfl dX12_text_258 ?_
      refine go_aload_n K dX12_text_259 0 rfl rfl ?_
      refine gf_X12 K 9 (by decide) kf_X12_36 (v := .ref (gB G + 453)) rfl dX12_text_260 ?_
      refine go_bipush (v := (24 : Int32)) K dX12_text_263 (by decide) ?_
      refine go_iload_n K dX12_text_265 1 rfl rfl ?_
      refine go_imul K dX12_text_266 ?_
      refine go_iload_n K dX12_text_267 2 rfl rfl ?_
      refine go_iadd K dX12_text_268 ?_
      refine go_aload_n K dX12_text_269 0 rfl rfl ?_
      refine gf_X12 K 34 (by decide) kf_X12_72 (v := .ref (gB G + 465)) rfl dX12_text_270 ?_
      refine go_iload_n K dX12_text_273 2 rfl rfl ?_
      obtain ⟨g22, h⟩ := gd_e h
      refine go_mald K (Nat.le_of_ble_eq_true rfl) sh_465 g22 rfl dX12_text_274 ?_
      obtain ⟨g23, h⟩ := gd_e h
      refine go_mast K (Nat.le_of_ble_eq_true rfl) sh_453 g23 rfl dX12_text_275 ?_
      refine go_aload_n K dX12_text_276 0 rfl rfl ?_
      refine gf_X12 K 10 (by decide) kf_X12_39 (v := .ref (gB G + 454)) rfl dX12_text_277 ?_
      refine go_bipush (v := (24 : Int32)) K dX12_text_280 (by decide) ?_
      refine go_iload_n K dX12_text_282 1 rfl rfl ?_
      refine go_imul K dX12_text_283 ?_
      refine go_iload_n K dX12_text_284 2 rfl rfl ?_
      refine go_iadd K dX12_text_285 ?_
      refine go_aload_n K dX12_text_286 0 rfl rfl ?_
      refine gf_X12 K 35 (by decide) kf_X12_75 (v := .ref (gB G + 466)) rfl dX12_text_287 ?_
      refine go_iload_n K dX12_text_290 2 rfl rfl ?_
      obtain ⟨g24, h⟩ := gd_e h
      refine go_mald K (Nat.le_of_ble_eq_true rfl) sh_466 g24 rfl dX12_text_291 ?_
      obtain ⟨g25, h⟩ := gd_e h
      refine go_mast K (Nat.le_of_ble_eq_true rfl) sh_454 g25 rfl dX12_text_292 ?_
      refine go_aload_n K dX12_text_293 0 rfl rfl ?_
      refine gf_X12 K 11 (by decide) kf_X12_42 (v := .ref (gB G + 455)) rfl dX12_text_294 ?_
      refine go_bipush (v := (24 : Int32)) K dX12_text_297 (by decide) ?_
      refine go_iload_n K dX12_text_299 1 rfl rfl ?_
      refine go_imul K dX12_text_300 ?_
      refine go_iload_n K dX12_text_301 2 rfl rfl ?_
      refine go_iadd K dX12_text_302 ?_
      refine go_aload_n K dX12_text_303 0 rfl rfl ?_
      refine gf_X12 K 36 (by decide) kf_X12_78 (v := .ref (gB G + 467)) rfl dX12_text_304 ?_
      refine go_iload_n K dX12_text_307 2 rfl rfl ?_
      obtain ⟨g26, h⟩ := gd_e h
      refine go_mald K (Nat.le_of_ble_eq_true rfl) sh_467 g26 rfl dX12_text_308 ?_
      obtain ⟨g27, h⟩ := gd_e h
      refine go_mast K (Nat.le_of_ble_eq_true rfl) sh_455 g27 rfl dX12_text_309 ?_
      refine go_iinc K dX12_text_310 2 rfl (v := (v2 + (1 : Int32))) rfl (by decide) (lv' := [(2, .int (v2 + (1 : Int32))), (0, .ref (gB G + 446)), (1, .int v1)]) rfl ?_
      refine go_goto (tgt := 211) K dX12_text_313 (by decide) ?_
      exact go_sub [1, 2, 0] rfl (ih211 _ _ _ h)
  have hj167 : ∀ (O : OM), X12_text_j167 O = some (res, O') → GO pM l eM (8) sM mM aM bM meM cM (MQ bM (va_Qi (fun (r' : Int32) (u : CM × OM) => r' = res ∧ u = (C, O')) (wB G) (Fr G)) aM sM 0 0 (Fr G)) G 4 (C, O) 167 [(0, .ref (gB G + 446))] [] := by
    intro O h
    rw [X12_text_j167] at h
    refine go_aload_n K dX12_text_167 0 rfl rfl ?_
    refine go_aload_n K dX12_text_168 0 rfl rfl ?_
    refine gf_X12 K 19 (by decide) kf_X12_215 (v := .int (O.1 446 19)) rfl dX12_text_169 ?_
    refine pf_X12 K 4 (by decide) kf_X12_20 rfl rfl rfl dX12_text_172 ?_
    refine go_aload_n K dX12_text_175 0 rfl rfl ?_
    refine go_aload_n K dX12_text_176 0 rfl rfl ?_
    refine gf_X12 K 20 (by decide) kf_X12_218 (v := .int ((oup O 446 4 (O.1 446 19)).1 446 20)) rfl dX12_text_177 ?_
    refine pf_X12 K 5 (by decide) kf_X12_24 rfl rfl rfl dX12_text_180 ?_
    refine go_aload_n K dX12_text_183 0 rfl rfl ?_
    refine gf_X12 K 19 (by decide) kf_X12_215 (v := .int ((oup (oup O 446 4 (O.1 446 19)) 446 5 ((oup O 446 4 (O.1 446 19)).1 446 20)).1 446 19)) rfl dX12_text_184 ?_
    refine go_if_le (tgt := 192) K dX12_text_187 (by decide) (fun c15 => ?_) (fun c15 => ?_)
    rotate_left
    · replace h := ite_f h c15
      refine go_iconst (v := (-1 : Int32)) K dX12_text_190 (by decide) ?_
      exact go_iret K hr (Prod.mk.inj (Option.some.inj h)).1 (congrArg (fun z => (C, z)) (Prod.mk.inj (Option.some.inj h)).2) dX12_text_191
    replace h := ite_t h c15
    refine go_aload_n K dX12_text_192 0 rfl rfl ?_
    refine gf_X12 K 0 (by decide) kf_X12_7 (v := .ref (gB G + 447)) rfl dX12_text_193 ?_
    refine go_iconst (v := (1 : Int32)) K dX12_text_196 (by decide) ?_
    refine go_mald K (Nat.le_of_ble_eq_true rfl) sh_447 (in_k (k := 1) (by decide) (by decide)) rfl dX12_text_197 ?_
    refine go_istore_n K dX12_text_198 rfl (by decide) (lv' := [(1, .int ((oup (oup O 446 4 (O.1 446 19)) 446 5 ((oup O 446 4 (O.1 446 19)).1 446 20)).1 447 1)), (0, .ref (gB G + 446))]) rfl ?_
    refine go_aload_n K dX12_text_199 1 rfl rfl ?_
    refine gf_X12 K 6 (by decide) kf_X12_27 (v := .ref (gB G + 450)) rfl dX12_text_200 ?_
    refine go_iload_n K dX12_text_203 0 rfl rfl ?_
    refine go_aload_n K dX12_text_204 1 rfl rfl ?_
    refine gf_X12 K 30 (by decide) kf_X12_299 (v := .int ((oup (oup O 446 4 (O.1 446 19)) 446 5 ((oup O 446 4 (O.1 446 19)).1 446 20)).1 446 30)) rfl dX12_text_205 ?_
    obtain ⟨g16, h⟩ := gd_e h
    refine go_mast K (Nat.le_of_ble_eq_true rfl) sh_450 g16 rfl dX12_text_208 ?_
    refine go_iconst (v := (0 : Int32)) K dX12_text_209 (by decide) ?_
    refine go_istore_n K dX12_text_210 rfl (by decide) (lv' := [(2, .int (0 : Int32)), (1, .int ((oup (oup O 446 4 (O.1 446 19)) 446 5 ((oup O 446 4 (O.1 446 19)).1 446 20)).1 447 1)), (0, .ref (gB G + 446))]) rfl ?_
    exact go_sub [2, 1, 0] rfl (hl211 FU _ _ _ h)
  have hl74 : ∀ (n74 : Nat) (O : OM), X12_text_l74 (fun O => (X12_text_j167 O)) n74 O = some (res, O') → GO pM l eM (8) sM mM aM bM meM cM (MQ bM (va_Qi (fun (r' : Int32) (u : CM × OM) => r' = res ∧ u = (C, O')) (wB G) (Fr G)) aM sM 0 0 (Fr G)) G 4 (C, O) 74 [(0, .ref (gB G + 446))] [] := by
    intro n74
    induction n74 with
    | zero =>
      intro O h
      rw [X12_text_l74] at h
      cases h
    | succ n74 ih74 =>
      have hj96 : ∀ (O : OM), X12_text_j96 (fun O => X12_text_l74 (fun O => (X12_text_j167 O)) n74 O) (fun O => (X12_text_j167 O)) O = some (res, O') → GO pM l eM (8) sM mM aM bM meM cM (MQ bM (va_Qi (fun (r' : Int32) (u : CM × OM) => r' = res ∧ u = (C, O')) (wB G) (Fr G)) aM sM 0 0 (Fr G)) G 4 (C, O) 96 [(0, .ref (gB G + 446))] [] := by
        intro O h
        rw [X12_text_j96] at h
        refine go_aload_n K dX12_text_96 0 rfl rfl ?_
        refine gf_X12 K 28 (by decide) kf_X12_258 (v := .int (O.1 446 28)) rfl dX12_text_97 ?_
        by_cases c5 : (O.1 446 28) = (0 : Int32)
        · refine go_tableIn K dX12_text_100 (by rw [c5]; decide) (by rw [c5]; decide) (off := 32) (by rw [c5]; decide) (tgt := 132) (by decide) ?_
          replace h := ite_t h c5
          refine go_aload_n K dX12_text_132 0 rfl rfl ?_
          obtain ⟨O6, e6, h⟩ := bnd_e h
          refine go_cVV K (c_X12_asks l G _ _ _ e6) cf_X12_asks cv_X12_asks km_X12_316 rv_X12 (by decide) rfl rfl (Nat.le_of_ble_eq_true rfl) dX12_text_133 ?_
          refine go_goto (tgt := 74) K dX12_text_136 (by decide) ?_
          exact ih74 _ h
        replace h := ite_f h c5
        by_cases c7 : (O.1 446 28) = (1 : Int32)
        · refine go_tableIn K dX12_text_100 (by rw [c7]; decide) (by rw [c7]; decide) (off := 39) (by rw [c7]; decide) (tgt := 139) (by decide) ?_
          replace h := ite_t h c7
          refine go_aload_n K dX12_text_139 0 rfl rfl ?_
          obtain ⟨O8, e8, h⟩ := bnd_e h
          refine go_cVV K (c_X12_begins l G _ _ _ e8) cf_X12_begins cv_X12_begins km_X12_319 rv_X12 (by decide) rfl rfl (Nat.le_of_ble_eq_true rfl) dX12_text_140 ?_
          refine go_goto (tgt := 74) K dX12_text_143 (by decide) ?_
          exact ih74 _ h
        replace h := ite_f h c7
        by_cases c9 : (O.1 446 28) = (2 : Int32)
        · refine go_tableIn K dX12_text_100 (by rw [c9]; decide) (by rw [c9]; decide) (off := 46) (by rw [c9]; decide) (tgt := 146) (by decide) ?_
          replace h := ite_t h c9
          refine go_aload_n K dX12_text_146 0 rfl rfl ?_
          obtain ⟨O10, e10, h⟩ := bnd_e h
          refine go_cVV K (c_X12_goesOn l G _ _ _ e10) cf_X12_goesOn cv_X12_goesOn km_X12_322 rv_X12 (by decide) rfl rfl (Nat.le_of_ble_eq_true rfl) dX12_text_147 ?_
          refine go_goto (tgt := 74) K dX12_text_150 (by decide) ?_
          exact ih74 _ h
        replace h := ite_f h c9
        by_cases c11 : (O.1 446 28) = (3 : Int32)
        · refine go_tableIn K dX12_text_100 (by rw [c11]; decide) (by rw [c11]; decide) (off := 53) (by rw [c11]; decide) (tgt := 153) (by decide) ?_
          replace h := ite_t h c11
          refine go_aload_n K dX12_text_153 0 rfl rfl ?_
          obtain ⟨O12, e12, h⟩ := bnd_e h
          refine go_cVV K (c_X12_asksOn l G _ _ _ e12) cf_X12_asksOn cv_X12_asksOn km_X12_325 rv_X12 (by decide) rfl rfl (Nat.le_of_ble_eq_true rfl) dX12_text_154 ?_
          refine go_goto (tgt := 74) K dX12_text_157 (by decide) ?_
          exact ih74 _ h
        replace h := ite_f h c11
        have c5 := sw_ne c5 (k := 0) (by decide)
        have c7 := sw_ne c7 (k := 1) (by decide)
        have c9 := sw_ne c9 (k := 2) (by decide)
        have c11 := sw_ne c11 (k := 3) (by decide)
        refine go_tableOut (tgt := 160) K dX12_text_100 (show ((O.1 446 28)).toInt < 0 ∨ 3 < ((O.1 446 28)).toInt from by omega) (by decide) ?_
        refine go_aload_n K dX12_text_160 0 rfl rfl ?_
        obtain ⟨O13, e13, h⟩ := bnd_e h
        refine go_cVV K (c_X12_clause l G _ _ _ e13) cf_X12_clause cv_X12_clause km_X12_328 rv_X12 (by decide) rfl rfl (Nat.le_of_ble_eq_true rfl) dX12_text_161 ?_
        refine go_goto (tgt := 74) K dX12_text_164 (by decide) ?_
        exact ih74 _ h
      intro O h
      rw [X12_text_l74] at h
      refine go_aload_n K dX12_text_74 0 rfl rfl ?_
      refine gf_X12 K 19 (by decide) kf_X12_215 (v := .int (O.1 446 19)) rfl dX12_text_75 ?_
      refine go_if_ne (tgt := 167) K dX12_text_78 (by decide) (fun c3 => ?_) (fun c3 => ?_)
      · replace h := ite_f h c3
        exact hj167 _ h
      replace h := ite_t h c3
      refine go_aload_n K dX12_text_81 0 rfl rfl ?_
      refine gf_X12 K 28 (by decide) kf_X12_258 (v := .int (O.1 446 28)) rfl dX12_text_82 ?_
      refine go_iconst (v := (4 : Int32)) K dX12_text_85 (by decide) ?_
      refine go_icmp_ne (tgt := 96) K dX12_text_86 (by decide) (fun c4 => ?_) (fun c4 => ?_)
      · replace h := ite_f h c4
        exact hj96 _ h
      replace h := ite_t h c4
      refine go_aload_n K dX12_text_89 0 rfl rfl ?_
      refine gf_X12 K 17 (by decide) kf_X12_199 (v := .int (O.1 446 17)) rfl dX12_text_90 ?_
      refine go_if_eq (tgt := 167) K dX12_text_93 (by decide) (fun c14 => ?_) (fun c14 => ?_)
      · replace h := ite_t h c14
        exact hj167 _ h
      replace h := ite_f h c14
      exact hj96 _ h
  rw [f_X12_text] at h
  refine go_aload_n K dX12_text_0 0 rfl rfl ?_
  refine gf_X12 K 0 (by decide) kf_X12_7 (v := .ref (gB G + 447)) rfl dX12_text_1 ?_
  refine go_iconst (v := (1 : Int32)) K dX12_text_4 (by decide) ?_
  refine go_mald K (Nat.le_of_ble_eq_true rfl) sh_447 (in_k (k := 1) (by decide) (by decide)) rfl dX12_text_5 ?_
  refine go_iconst (v := (4 : Int32)) K dX12_text_6 (by decide) ?_
  refine go_icmp_ne (tgt := 12) K dX12_text_7 (by decide) (fun c1 => ?_) (fun c1 => ?_)
  rotate_left
  · replace h := ite_t h c1
    refine go_iconst (v := (-1 : Int32)) K dX12_text_10 (by decide) ?_
    exact go_iret K hr (Prod.mk.inj (Option.some.inj h)).1 (congrArg (fun z => (C, z)) (Prod.mk.inj (Option.some.inj h)).2) dX12_text_11
  replace h := ite_f h c1
  refine go_aload_n K dX12_text_12 0 rfl rfl ?_
  refine go_aload_n K dX12_text_13 0 rfl rfl ?_
  refine gf_X12 K 3 (by decide) kf_X12_119 (v := .int (O.1 446 3)) rfl dX12_text_14 ?_
  refine pf_X12 K 14 (by decide) kf_X12_193 rfl rfl rfl dX12_text_17 ?_
  refine go_aload_n K dX12_text_20 0 rfl rfl ?_
  refine go_iconst (v := (0 : Int32)) K dX12_text_21 (by decide) ?_
  refine pf_X12 K 3 (by decide) kf_X12_119 rfl rfl rfl dX12_text_22 ?_
  refine go_aload_n K dX12_text_25 0 rfl rfl ?_
  refine go_iconst (v := (0 : Int32)) K dX12_text_26 (by decide) ?_
  refine pf_X12 K 15 (by decide) kf_X12_190 rfl rfl rfl dX12_text_27 ?_
  refine go_aload_n K dX12_text_30 0 rfl rfl ?_
  refine go_iconst (v := (0 : Int32)) K dX12_text_31 (by decide) ?_
  refine pf_X12 K 19 (by decide) kf_X12_215 rfl rfl rfl dX12_text_32 ?_
  refine go_aload_n K dX12_text_35 0 rfl rfl ?_
  refine go_iconst (v := (-1 : Int32)) K dX12_text_36 (by decide) ?_
  refine pf_X12 K 20 (by decide) kf_X12_218 rfl rfl rfl dX12_text_37 ?_
  refine go_aload_n K dX12_text_40 0 rfl rfl ?_
  refine go_iconst (v := (0 : Int32)) K dX12_text_41 (by decide) ?_
  refine pf_X12 K 21 (by decide) kf_X12_227 rfl rfl rfl dX12_text_42 ?_
  refine go_aload_n K dX12_text_45 0 rfl rfl ?_
  refine go_iconst (v := (0 : Int32)) K dX12_text_46 (by decide) ?_
  refine pf_X12 K 22 (by decide) kf_X12_224 rfl rfl rfl dX12_text_47 ?_
  refine go_aload_n K dX12_text_50 0 rfl rfl ?_
  refine go_iconst (v := (0 : Int32)) K dX12_text_51 (by decide) ?_
  refine pf_X12 K 25 (by decide) kf_X12_239 rfl rfl rfl dX12_text_52 ?_
  refine go_aload_n K dX12_text_55 0 rfl rfl ?_
  refine go_iconst (v := (4 : Int32)) K dX12_text_56 (by decide) ?_
  refine pf_X12 K 28 (by decide) kf_X12_258 rfl rfl rfl dX12_text_57 ?_
  refine go_aload_n K dX12_text_60 0 rfl rfl ?_
  refine go_iconst (v := (0 : Int32)) K dX12_text_61 (by decide) ?_
  refine pf_X12 K 30 (by decide) kf_X12_299 rfl rfl rfl dX12_text_62 ?_
  refine go_aload_n K dX12_text_65 0 rfl rfl ?_
  refine go_iconst (v := (0 : Int32)) K dX12_text_66 (by decide) ?_
  refine pf_X12 K 37 (by decide) kf_X12_221 rfl rfl rfl dX12_text_67 ?_
  refine go_aload_n K dX12_text_70 0 rfl rfl ?_
  obtain ⟨O2, e2, h⟩ := bnd_e h
  refine go_cVV K (c_X12_next l G _ _ _ e2) cf_X12_next cv_X12_next km_X12_236 rv_X12 (by decide) rfl rfl (Nat.le_of_ble_eq_true rfl) dX12_text_71 ?_
  exact hl74 FU _ h
noncomputable def f_X12_fault (v1 : Int32) (O : OM) : Int32 := (if v1 = 0 then (O.1 446 4) else (if v1 = (1 : Int32) then (O.1 446 5) else (-1 : Int32)))
theorem cf_X12_fault : CF yX12_fault cX12_fault 2 (Option.some Jvm.ClassFile.FieldType.int) 1 := ⟨kc_X12_fault, kj_X12, ⟨by decide +kernel, by decide +kernel, by decide +kernel⟩, by decide⟩
theorem cv_X12_fault : CFv yX12_fault := ⟨ki_X12_fault, ks_X12_fault⟩
set_option maxHeartbeats 4000000 in
set_option maxRecDepth 100000 in
theorem c_X12_fault (l : Launch) (G : GT) (v1 : Int32) (C : CM) (O : OM) (res : Int32) (h : f_X12_fault v1 O = res) : MI l G yX12_fault cX12_fault 2 (Option.some Jvm.ClassFile.FieldType.int) (1) [.ref (gB G + 446), .int v1] (C, O) res (C, O) := by
  unfold MI
  refine met_in RX12 (by decide +kernel) rfl [(0, .ref (gB G + 446)), (1, .int v1)] rfl (Nat.le_of_ble_eq_true rfl) ?_
  intro pM eM sM mM aM bM meM cM K hr
  rw [f_X12_fault] at h
  refine go_iload_n K dX12_fault_0 1 rfl rfl ?_
  refine go_if_ne (tgt := 11) K dX12_fault_1 (by decide) (fun c1 => ?_) (fun c1 => ?_)
  rotate_left
  · replace h := ite_t h c1
    refine go_aload_n K dX12_fault_4 0 rfl rfl ?_
    refine gf_X12 K 4 (by decide) kf_X12_20 (v := .int (O.1 446 4)) rfl dX12_fault_5 ?_
    refine go_goto (tgt := 24) K dX12_fault_8 (by decide) ?_
    exact go_iret K hr h rfl dX12_fault_24
  replace h := ite_f h c1
  refine go_iload_n K dX12_fault_11 1 rfl rfl ?_
  refine go_iconst (v := (1 : Int32)) K dX12_fault_12 (by decide) ?_
  refine go_icmp_ne (tgt := 23) K dX12_fault_13 (by decide) (fun c2 => ?_) (fun c2 => ?_)
  · replace h := ite_f h c2
    refine go_iconst (v := (-1 : Int32)) K dX12_fault_23 (by decide) ?_
    exact go_iret K hr h rfl dX12_fault_24
  replace h := ite_t h c2
  refine go_aload_n K dX12_fault_16 0 rfl rfl ?_
  refine gf_X12 K 5 (by decide) kf_X12_24 (v := .int (O.1 446 5)) rfl dX12_fault_17 ?_
  refine go_goto (tgt := 24) K dX12_fault_20 (by decide) ?_
  exact go_iret K hr h rfl dX12_fault_24
noncomputable def X12_laysNow_l2 : Nat → Int32 → OM → Option OM
  | 0, _, _ => none
  | n + 1, v1, O => (if (164 : Int32) ≤ v1 then (some O) else (gd (inb ((40 : Int32) + v1) 5130) (gd (inb v1 164) (X12_laysNow_l2 n (v1 + (1 : Int32)) (oup O 470 v1.toNatClampNeg (O.1 447 ((40 : Int32) + v1).toNatClampNeg))))))
noncomputable def f_X12_laysNow (O : OM) : Option OM := (X12_laysNow_l2 FU (0 : Int32) O)
theorem cf_X12_laysNow : CF yX12_laysNow cX12_laysNow 2 (Option.none : Option Jvm.ClassFile.FieldType) 0 := ⟨kc_X12_laysNow, kj_X12, ⟨by decide +kernel, by decide +kernel, by decide +kernel⟩, by decide⟩
theorem cv_X12_laysNow : CFv yX12_laysNow := ⟨ki_X12_laysNow, ks_X12_laysNow⟩
set_option maxHeartbeats 4000000 in
set_option maxRecDepth 100000 in
theorem c_X12_laysNow (l : Launch) (G : GT) (C : CM) (O : OM) (O' : OM) (h : f_X12_laysNow O = some O') : MV l G yX12_laysNow cX12_laysNow 2 (Option.none : Option Jvm.ClassFile.FieldType) (1) [.ref (gB G + 446)] (C, O) (C, O') := by
  unfold MV
  refine met_in RX12 (by decide +kernel) rfl [(0, .ref (gB G + 446))] rfl (Nat.le_of_ble_eq_true rfl) ?_
  intro pM eM sM mM aM bM meM cM K hr
  have hl2 : ∀ (n2 : Nat) (v1 : Int32) (O : OM), X12_laysNow_l2 n2 v1 O = some O' → GO pM l eM (1) sM mM aM bM meM cM (MQ bM (va_Qv (fun (u : CM × OM) => u = (C, O')) (wB G) (Fr G)) aM sM 0 0 (Fr G)) G 2 (C, O) 2 [(0, .ref (gB G + 446)), (1, .int v1)] [] := by
    intro n2
    induction n2 with
    | zero =>
      intro v1 O h
      rw [X12_laysNow_l2] at h
      cases h
    | succ n2 ih2 =>
      intro v1 O h
      rw [X12_laysNow_l2] at h
      refine go_iload_n K dX12_laysNow_2 1 rfl rfl ?_
      refine go_sipush (v := (164 : Int32)) K dX12_laysNow_3 (by decide) ?_
      refine go_icmp_ge (tgt := 30) K dX12_laysNow_6 (by decide) (fun c1 => ?_) (fun c1 => ?_)
      · replace h := ite_t h c1
        exact go_vret K hr (congrArg (fun z => (C, z)) (Option.some.inj h)) dX12_laysNow_30
      replace h := ite_f h c1
      refine go_aload_n K dX12_laysNow_9 0 rfl rfl ?_
      refine gf_X12 K 40 (by decide) kf_X12_87 (v := .ref (gB G + 470)) rfl dX12_laysNow_10 ?_
      refine go_iload_n K dX12_laysNow_13 1 rfl rfl ?_
      refine go_aload_n K dX12_laysNow_14 0 rfl rfl ?_
      refine gf_X12 K 0 (by decide) kf_X12_7 (v := .ref (gB G + 447)) rfl dX12_laysNow_15 ?_
      refine go_bipush (v := (40 : Int32)) K dX12_laysNow_18 (by decide) ?_
      refine go_iload_n K dX12_laysNow_20 1 rfl rfl ?_
      refine go_iadd K dX12_laysNow_21 ?_
      obtain ⟨g2, h⟩ := gd_e h
      refine go_mald K (Nat.le_of_ble_eq_true rfl) sh_447 g2 rfl dX12_laysNow_22 ?_
      obtain ⟨g3, h⟩ := gd_e h
      refine go_mast K (Nat.le_of_ble_eq_true rfl) sh_470 g3 rfl dX12_laysNow_23 ?_
      refine go_iinc K dX12_laysNow_24 1 rfl (v := (v1 + (1 : Int32))) rfl (by decide) (lv' := [(1, .int (v1 + (1 : Int32))), (0, .ref (gB G + 446))]) rfl ?_
      refine go_goto (tgt := 2) K dX12_laysNow_27 (by decide) ?_
      exact go_sub [1, 0] rfl (ih2 _ _ h)
  rw [f_X12_laysNow] at h
  refine go_iconst (v := (0 : Int32)) K dX12_laysNow_0 (by decide) ?_
  refine go_istore_n K dX12_laysNow_1 rfl (by decide) (lv' := [(1, .int (0 : Int32)), (0, .ref (gB G + 446))]) rfl ?_
  exact go_sub [1, 0] rfl (hl2 FU _ _ h)
noncomputable def X12_keepsNow_l2 : Nat → Int32 → OM → Option OM
  | 0, _, _ => none
  | n + 1, v1, O => (if (164 : Int32) ≤ v1 then (some O) else (gd (inb v1 164) (gd (inb ((40 : Int32) + v1) 5130) (X12_keepsNow_l2 n (v1 + (1 : Int32)) (oup O 447 ((40 : Int32) + v1).toNatClampNeg (O.1 470 v1.toNatClampNeg))))))
noncomputable def f_X12_keepsNow (O : OM) : Option OM := (X12_keepsNow_l2 FU (0 : Int32) O)
theorem cf_X12_keepsNow : CF yX12_keepsNow cX12_keepsNow 2 (Option.none : Option Jvm.ClassFile.FieldType) 0 := ⟨kc_X12_keepsNow, kj_X12, ⟨by decide +kernel, by decide +kernel, by decide +kernel⟩, by decide⟩
theorem cv_X12_keepsNow : CFv yX12_keepsNow := ⟨ki_X12_keepsNow, ks_X12_keepsNow⟩
set_option maxHeartbeats 4000000 in
set_option maxRecDepth 100000 in
theorem c_X12_keepsNow (l : Launch) (G : GT) (C : CM) (O : OM) (O' : OM) (h : f_X12_keepsNow O = some O') : MV l G yX12_keepsNow cX12_keepsNow 2 (Option.none : Option Jvm.ClassFile.FieldType) (1) [.ref (gB G + 446)] (C, O) (C, O') := by
  unfold MV
  refine met_in RX12 (by decide +kernel) rfl [(0, .ref (gB G + 446))] rfl (Nat.le_of_ble_eq_true rfl) ?_
  intro pM eM sM mM aM bM meM cM K hr
  have hl2 : ∀ (n2 : Nat) (v1 : Int32) (O : OM), X12_keepsNow_l2 n2 v1 O = some O' → GO pM l eM (1) sM mM aM bM meM cM (MQ bM (va_Qv (fun (u : CM × OM) => u = (C, O')) (wB G) (Fr G)) aM sM 0 0 (Fr G)) G 2 (C, O) 2 [(0, .ref (gB G + 446)), (1, .int v1)] [] := by
    intro n2
    induction n2 with
    | zero =>
      intro v1 O h
      rw [X12_keepsNow_l2] at h
      cases h
    | succ n2 ih2 =>
      intro v1 O h
      rw [X12_keepsNow_l2] at h
      refine go_iload_n K dX12_keepsNow_2 1 rfl rfl ?_
      refine go_sipush (v := (164 : Int32)) K dX12_keepsNow_3 (by decide) ?_
      refine go_icmp_ge (tgt := 30) K dX12_keepsNow_6 (by decide) (fun c1 => ?_) (fun c1 => ?_)
      · replace h := ite_t h c1
        exact go_vret K hr (congrArg (fun z => (C, z)) (Option.some.inj h)) dX12_keepsNow_30
      replace h := ite_f h c1
      refine go_aload_n K dX12_keepsNow_9 0 rfl rfl ?_
      refine gf_X12 K 0 (by decide) kf_X12_7 (v := .ref (gB G + 447)) rfl dX12_keepsNow_10 ?_
      refine go_bipush (v := (40 : Int32)) K dX12_keepsNow_13 (by decide) ?_
      refine go_iload_n K dX12_keepsNow_15 1 rfl rfl ?_
      refine go_iadd K dX12_keepsNow_16 ?_
      refine go_aload_n K dX12_keepsNow_17 0 rfl rfl ?_
      refine gf_X12 K 40 (by decide) kf_X12_87 (v := .ref (gB G + 470)) rfl dX12_keepsNow_18 ?_
      refine go_iload_n K dX12_keepsNow_21 1 rfl rfl ?_
      obtain ⟨g2, h⟩ := gd_e h
      refine go_mald K (Nat.le_of_ble_eq_true rfl) sh_470 g2 rfl dX12_keepsNow_22 ?_
      obtain ⟨g3, h⟩ := gd_e h
      refine go_mast K (Nat.le_of_ble_eq_true rfl) sh_447 g3 rfl dX12_keepsNow_23 ?_
      refine go_iinc K dX12_keepsNow_24 1 rfl (v := (v1 + (1 : Int32))) rfl (by decide) (lv' := [(1, .int (v1 + (1 : Int32))), (0, .ref (gB G + 446))]) rfl ?_
      refine go_goto (tgt := 2) K dX12_keepsNow_27 (by decide) ?_
      exact go_sub [1, 0] rfl (ih2 _ _ h)
  rw [f_X12_keepsNow] at h
  refine go_iconst (v := (0 : Int32)) K dX12_keepsNow_0 (by decide) ?_
  refine go_istore_n K dX12_keepsNow_1 rfl (by decide) (lv' := [(1, .int (0 : Int32)), (0, .ref (gB G + 446))]) rfl ?_
  exact go_sub [1, 0] rfl (hl2 FU _ _ h)
noncomputable def f_X12_debtAt (v0 : Int32) (v1 : Int32) : Int32 := (((21 : Int32) + ((7 : Int32) * v0)) + v1)
theorem cf_X12_debtAt : CF yX12_debtAt cX12_debtAt 2 (Option.some Jvm.ClassFile.FieldType.int) 2 := ⟨kc_X12_debtAt, kj_X12, ⟨by decide +kernel, by decide +kernel, by decide +kernel⟩, by decide⟩
set_option maxHeartbeats 4000000 in
set_option maxRecDepth 100000 in
theorem c_X12_debtAt (l : Launch) (G : GT) (v0 : Int32) (v1 : Int32) (C : CM) (O : OM) (res : Int32) (h : f_X12_debtAt v0 v1 = res) : MI l G yX12_debtAt cX12_debtAt 2 (Option.some Jvm.ClassFile.FieldType.int) (1) [.int v0, .int v1] (C, O) res (C, O) := by
  unfold MI
  refine met_in RX12 (by decide +kernel) rfl [(0, .int v0), (1, .int v1)] rfl (Nat.le_of_ble_eq_true rfl) ?_
  intro pM eM sM mM aM bM meM cM K hr
  rw [f_X12_debtAt] at h
  refine go_bipush (v := (21 : Int32)) K dX12_debtAt_0 (by decide) ?_
  refine go_bipush (v := (7 : Int32)) K dX12_debtAt_2 (by decide) ?_
  refine go_iload_n K dX12_debtAt_4 0 rfl rfl ?_
  refine go_imul K dX12_debtAt_5 ?_
  refine go_iadd K dX12_debtAt_6 ?_
  refine go_iload_n K dX12_debtAt_7 1 rfl rfl ?_
  refine go_iadd K dX12_debtAt_8 ?_
  exact go_iret K hr h rfl dX12_debtAt_9
noncomputable def f_X12_bound (v0 : Int64) : Int64 := (if (lg_cmp v0 (1000000 : Int64)) ≤ 0 then (if 0 ≤ (lg_cmp v0 (-1000000 : Int64)) then v0 else (-1000000 : Int64)) else (1000000 : Int64))
theorem cf_X12_bound : CF yX12_bound cX12_bound 2 (Option.some Jvm.ClassFile.FieldType.long) 1 := ⟨kc_X12_bound, kj_X12, ⟨by decide +kernel, by decide +kernel, by decide +kernel⟩, by decide⟩
set_option maxHeartbeats 4000000 in
set_option maxRecDepth 100000 in
theorem c_X12_bound (l : Launch) (G : GT) (v0 : Int64) (C : CM) (O : OM) (res : Int64) (h : f_X12_bound v0 = res) : MJ l G yX12_bound cX12_bound 2 (Option.some Jvm.ClassFile.FieldType.long) (1) [.long v0] (C, O) res (C, O) := by
  unfold MJ
  refine met_in RX12 (by decide +kernel) rfl [(0, .long v0)] rfl (Nat.le_of_ble_eq_true rfl) ?_
  intro pM eM sM mM aM bM meM cM K hr
  rw [f_X12_bound] at h
  refine go_lload_n K dX12_bound_0 0 rfl rfl ?_
  refine go_ldc2 K kk_X12_331 dX12_bound_1 ?_
  refine go_lcmp K dX12_bound_4 ?_
  refine go_if_le (tgt := 14) K dX12_bound_5 (by decide) (fun c1 => ?_) (fun c1 => ?_)
  rotate_left
  · replace h := ite_f h c1
    refine go_ldc2 K kk_X12_331 dX12_bound_8 ?_
    refine go_goto (tgt := 29) K dX12_bound_11 (by decide) ?_
    exact go_lret K hr h rfl dX12_bound_29
  replace h := ite_t h c1
  refine go_lload_n K dX12_bound_14 0 rfl rfl ?_
  refine go_ldc2 K kk_X12_333 dX12_bound_15 ?_
  refine go_lcmp K dX12_bound_18 ?_
  refine go_if_ge (tgt := 28) K dX12_bound_19 (by decide) (fun c2 => ?_) (fun c2 => ?_)
  · replace h := ite_t h c2
    refine go_lload_n K dX12_bound_28 0 rfl rfl ?_
    exact go_lret K hr h rfl dX12_bound_29
  replace h := ite_f h c2
  refine go_ldc2 K kk_X12_333 dX12_bound_22 ?_
  refine go_goto (tgt := 29) K dX12_bound_25 (by decide) ?_
  exact go_lret K hr h rfl dX12_bound_29
noncomputable def X12_owedBy_j42 (O : OM) : Option Int64 := (some (0 : Int64))
noncomputable def f_X12_owedBy (v1 : Int64) (v3 : Int64) (O : OM) : Option Int64 := (if (lg_cmp v1 (0 : Int64)) < 0 then (X12_owedBy_j42 O) else (if (lg_cmp v3 (0 : Int64)) < 0 then (X12_owedBy_j42 O) else (if 0 ≤ (lg_cmp v1 ((O.1 447 0).toInt64)) then (X12_owedBy_j42 O) else (if 0 ≤ (lg_cmp v3 ((O.1 447 0).toInt64)) then (X12_owedBy_j42 O) else (if (lg_cmp v1 v3) = 0 then (X12_owedBy_j42 O) else (gd (inb (f_X12_debtAt v1.toInt32 v3.toInt32) 164) (some ((O.1 470 (f_X12_debtAt v1.toInt32 v3.toInt32).toNatClampNeg).toInt64))))))))
theorem cf_X12_owedBy : CF yX12_owedBy cX12_owedBy 6 (Option.some Jvm.ClassFile.FieldType.long) 2 := ⟨kc_X12_owedBy, kj_X12, ⟨by decide +kernel, by decide +kernel, by decide +kernel⟩, by decide⟩
theorem cv_X12_owedBy : CFv yX12_owedBy := ⟨ki_X12_owedBy, ks_X12_owedBy⟩
set_option maxHeartbeats 4000000 in
set_option maxRecDepth 100000 in
theorem c_X12_owedBy (l : Launch) (G : GT) (v1 : Int64) (v3 : Int64) (C : CM) (O : OM) (res : Int64) (h : f_X12_owedBy v1 v3 O = some res) : MJ l G yX12_owedBy cX12_owedBy 6 (Option.some Jvm.ClassFile.FieldType.long) (2) [.ref (gB G + 446), .long v1, .long v3] (C, O) res (C, O) := by
  unfold MJ
  refine met_in RX12 (by decide +kernel) rfl [(0, .ref (gB G + 446)), (1, .long v1), (3, .long v3)] rfl (Nat.le_of_ble_eq_true rfl) ?_
  intro pM eM sM mM aM bM meM cM K hr
  have hj42 : X12_owedBy_j42 O = some res → GO pM l eM (2) sM mM aM bM meM cM (MQ bM (va_Ql (fun (r' : Int64) (u : CM × OM) => r' = res ∧ u = (C, O)) (wB G) (Fr G)) aM sM 0 0 (Fr G)) G 6 (C, O) 42 [] [] := by
    intro h
    rw [X12_owedBy_j42] at h
    refine go_lconst (v := (0 : Int64)) K dX12_owedBy_42 (by decide) ?_
    refine go_goto (tgt := 59) K dX12_owedBy_43 (by decide) ?_
    exact go_lret K hr (Option.some.inj h) rfl dX12_owedBy_59
  rw [f_X12_owedBy] at h
  refine go_aload_n K dX12_owedBy_0 0 rfl rfl ?_
  refine gf_X12 K 0 (by decide) kf_X12_7 (v := .ref (gB G + 447)) rfl dX12_owedBy_1 ?_
  refine go_iconst (v := (0 : Int32)) K dX12_owedBy_4 (by decide) ?_
  refine go_mald K (Nat.le_of_ble_eq_true rfl) sh_447 (in_k (k := 0) (by decide) (by decide)) rfl dX12_owedBy_5 ?_
  refine go_istore K dX12_owedBy_6 (by decide) (lv' := [(5, .int (O.1 447 0)), (0, .ref (gB G + 446)), (1, .long v1), (3, .long v3)]) rfl ?_
  refine go_lload_n K dX12_owedBy_8 2 rfl rfl ?_
  refine go_lconst (v := (0 : Int64)) K dX12_owedBy_9 (by decide) ?_
  refine go_lcmp K dX12_owedBy_10 ?_
  refine go_if_lt (tgt := 42) K dX12_owedBy_11 (by decide) (fun c1 => ?_) (fun c1 => ?_)
  · replace h := ite_t h c1
    exact go_sub [] rfl (hj42 h)
  replace h := ite_f h c1
  refine go_lload_n K dX12_owedBy_14 3 rfl rfl ?_
  refine go_lconst (v := (0 : Int64)) K dX12_owedBy_15 (by decide) ?_
  refine go_lcmp K dX12_owedBy_16 ?_
  refine go_if_lt (tgt := 42) K dX12_owedBy_17 (by decide) (fun c2 => ?_) (fun c2 => ?_)
  · replace h := ite_t h c2
    exact go_sub [] rfl (hj42 h)
  replace h := ite_f h c2
  refine go_lload_n K dX12_owedBy_20 2 rfl rfl ?_
  refine go_iload K dX12_owedBy_21 0 rfl ?_
  refine go_i2l K dX12_owedBy_23 ?_
  refine go_lcmp K dX12_owedBy_24 ?_
  refine go_if_ge (tgt := 42) K dX12_owedBy_25 (by decide) (fun c3 => ?_) (fun c3 => ?_)
  · replace h := ite_t h c3
    exact go_sub [] rfl (hj42 h)
  replace h := ite_f h c3
  refine go_lload_n K dX12_owedBy_28 3 rfl rfl ?_
  refine go_iload K dX12_owedBy_29 0 rfl ?_
  refine go_i2l K dX12_owedBy_31 ?_
  refine go_lcmp K dX12_owedBy_32 ?_
  refine go_if_ge (tgt := 42) K dX12_owedBy_33 (by decide) (fun c4 => ?_) (fun c4 => ?_)
  · replace h := ite_t h c4
    exact go_sub [] rfl (hj42 h)
  replace h := ite_f h c4
  refine go_lload_n K dX12_owedBy_36 2 rfl rfl ?_
  refine go_lload_n K dX12_owedBy_37 3 rfl rfl ?_
  refine go_lcmp K dX12_owedBy_38 ?_
  refine go_if_ne (tgt := 46) K dX12_owedBy_39 (by decide) (fun c5 => ?_) (fun c5 => ?_)
  rotate_left
  · replace h := ite_t h c5
    exact go_sub [] rfl (hj42 h)
  replace h := ite_f h c5
  refine go_aload_n K dX12_owedBy_46 1 rfl rfl ?_
  refine gf_X12 K 40 (by decide) kf_X12_87 (v := .ref (gB G + 470)) rfl dX12_owedBy_47 ?_
  refine go_lload_n K dX12_owedBy_50 2 rfl rfl ?_
  refine go_l2i K dX12_owedBy_51 ?_
  refine go_lload_n K dX12_owedBy_52 3 rfl rfl ?_
  refine go_l2i K dX12_owedBy_53 ?_
  refine go_cSI K (c_X12_debtAt l G _ _ _ _ _ rfl) cf_X12_debtAt kt_X12_debtAt km_X12_335 (by decide) rfl rfl (Nat.le_of_ble_eq_true rfl) dX12_owedBy_54 ?_
  obtain ⟨g6, h⟩ := gd_e h
  refine go_mald K (Nat.le_of_ble_eq_true rfl) sh_470 g6 rfl dX12_owedBy_57 ?_
  refine go_i2l K dX12_owedBy_58 ?_
  exact go_lret K hr (Option.some.inj h) rfl dX12_owedBy_59
noncomputable def f_X12_worked (v1 : Int32) (v2 : Int64) (v4 : Int64) (O : OM) : Option Int64 := (if v1 = (35 : Int32) then (if (lg_cmp v2 v4) = 0 then (some (0 : Int64)) else (some (1 : Int64))) else (if v1 = (42 : Int32) then (some (f_X12_bound (v2 * v4))) else (if v1 = (43 : Int32) then (some (f_X12_bound (v2 + v4))) else (if v1 = (45 : Int32) then (some (f_X12_bound (v2 - v4))) else (if v1 = (47 : Int32) then (if (lg_cmp v4 (0 : Int64)) = 0 then (some (0 : Int64)) else (gd (¬ v4 = 0) (some (v2 / v4)))) else (if v1 = (60 : Int32) then (if 0 ≤ (lg_cmp v2 v4) then (some (0 : Int64)) else (some (1 : Int64))) else (if v1 = (61 : Int32) then (if (lg_cmp v2 v4) = 0 then (some (1 : Int64)) else (some (0 : Int64))) else (if v1 = (62 : Int32) then (if (lg_cmp v2 v4) ≤ 0 then (some (0 : Int64)) else (some (1 : Int64))) else (if v1 = (300 : Int32) then (if 0 < (lg_cmp v2 v4) then (some (0 : Int64)) else (some (1 : Int64))) else (if v1 = (301 : Int32) then (if (lg_cmp v2 v4) < 0 then (some (0 : Int64)) else (some (1 : Int64))) else (if v1 = (403 : Int32) then (bnd (f_X12_owedBy v2 v4 O) (fun r20 => (some r20))) else (if v1 = (406 : Int32) then (some (v2 * v4)) else (if (lg_cmp (v2 + v4) (0 : Int64)) ≤ 0 then (some (0 : Int64)) else (some (1 : Int64)))))))))))))))
theorem cf_X12_worked : CF yX12_worked cX12_worked 6 (Option.some Jvm.ClassFile.FieldType.long) 3 := ⟨kc_X12_worked, kj_X12, ⟨by decide +kernel, by decide +kernel, by decide +kernel⟩, by decide⟩
theorem cv_X12_worked : CFv yX12_worked := ⟨ki_X12_worked, ks_X12_worked⟩
set_option maxHeartbeats 4000000 in
set_option maxRecDepth 100000 in
theorem c_X12_worked (l : Launch) (G : GT) (v1 : Int32) (v2 : Int64) (v4 : Int64) (C : CM) (O : OM) (res : Int64) (h : f_X12_worked v1 v2 v4 O = some res) : MJ l G yX12_worked cX12_worked 6 (Option.some Jvm.ClassFile.FieldType.long) (3) [.ref (gB G + 446), .int v1, .long v2, .long v4] (C, O) res (C, O) := by
  unfold MJ
  refine met_in RX12 (by decide +kernel) rfl [(0, .ref (gB G + 446)), (1, .int v1), (2, .long v2), (4, .long v4)] rfl (Nat.le_of_ble_eq_true rfl) ?_
  intro pM eM sM mM aM bM meM cM K hr
  rw [f_X12_worked] at h
  refine go_iload_n K dX12_worked_0 1 rfl rfl ?_
  by_cases c1 : v1 = (35 : Int32)
  · refine go_lookup K dX12_worked_1 (by decide) (off := 186) (by rw [c1]; decide) (tgt := 187) (by decide) ?_
    replace h := ite_t h c1
    refine go_lload_n K dX12_worked_187 2 rfl rfl ?_
    refine go_lload K dX12_worked_188 3 rfl ?_
    refine go_lcmp K dX12_worked_190 ?_
    refine go_if_eq (tgt := 198) K dX12_worked_191 (by decide) (fun c2 => ?_) (fun c2 => ?_)
    · replace h := ite_t h c2
      refine go_lconst (v := (0 : Int64)) K dX12_worked_198 (by decide) ?_
      exact go_lret K hr (Option.some.inj h) rfl dX12_worked_199
    replace h := ite_f h c2
    refine go_lconst (v := (1 : Int64)) K dX12_worked_194 (by decide) ?_
    refine go_goto (tgt := 199) K dX12_worked_195 (by decide) ?_
    exact go_lret K hr (Option.some.inj h) rfl dX12_worked_199
  replace h := ite_f h c1
  by_cases c3 : v1 = (42 : Int32)
  · refine go_lookup K dX12_worked_1 (by decide) (off := 123) (by rw [c3]; decide) (tgt := 124) (by decide) ?_
    replace h := ite_t h c3
    refine go_lload_n K dX12_worked_124 2 rfl rfl ?_
    refine go_lload K dX12_worked_125 3 rfl ?_
    refine go_lmul K dX12_worked_127 ?_
    refine go_cSJ K (c_X12_bound l G _ _ _ _ rfl) cf_X12_bound kt_X12_bound km_X12_338 (by decide) rfl rfl (Nat.le_of_ble_eq_true rfl) dX12_worked_128 ?_
    exact go_lret K hr (Option.some.inj h) rfl dX12_worked_131
  replace h := ite_f h c3
  by_cases c4 : v1 = (43 : Int32)
  · refine go_lookup K dX12_worked_1 (by decide) (off := 107) (by rw [c4]; decide) (tgt := 108) (by decide) ?_
    replace h := ite_t h c4
    refine go_lload_n K dX12_worked_108 2 rfl rfl ?_
    refine go_lload K dX12_worked_109 3 rfl ?_
    refine go_ladd K dX12_worked_111 ?_
    refine go_cSJ K (c_X12_bound l G _ _ _ _ rfl) cf_X12_bound kt_X12_bound km_X12_338 (by decide) rfl rfl (Nat.le_of_ble_eq_true rfl) dX12_worked_112 ?_
    exact go_lret K hr (Option.some.inj h) rfl dX12_worked_115
  replace h := ite_f h c4
  by_cases c5 : v1 = (45 : Int32)
  · refine go_lookup K dX12_worked_1 (by decide) (off := 115) (by rw [c5]; decide) (tgt := 116) (by decide) ?_
    replace h := ite_t h c5
    refine go_lload_n K dX12_worked_116 2 rfl rfl ?_
    refine go_lload K dX12_worked_117 3 rfl ?_
    refine go_lsub K dX12_worked_119 ?_
    refine go_cSJ K (c_X12_bound l G _ _ _ _ rfl) cf_X12_bound kt_X12_bound km_X12_338 (by decide) rfl rfl (Nat.le_of_ble_eq_true rfl) dX12_worked_120 ?_
    exact go_lret K hr (Option.some.inj h) rfl dX12_worked_123
  replace h := ite_f h c5
  by_cases c6 : v1 = (47 : Int32)
  · refine go_lookup K dX12_worked_1 (by decide) (off := 131) (by rw [c6]; decide) (tgt := 132) (by decide) ?_
    replace h := ite_t h c6
    refine go_lload K dX12_worked_132 3 rfl ?_
    refine go_lconst (v := (0 : Int64)) K dX12_worked_134 (by decide) ?_
    refine go_lcmp K dX12_worked_135 ?_
    refine go_if_ne (tgt := 143) K dX12_worked_136 (by decide) (fun c7 => ?_) (fun c7 => ?_)
    rotate_left
    · replace h := ite_t h c7
      refine go_lconst (v := (0 : Int64)) K dX12_worked_139 (by decide) ?_
      refine go_goto (tgt := 147) K dX12_worked_140 (by decide) ?_
      exact go_lret K hr (Option.some.inj h) rfl dX12_worked_147
    replace h := ite_f h c7
    refine go_lload_n K dX12_worked_143 2 rfl rfl ?_
    refine go_lload K dX12_worked_144 3 rfl ?_
    obtain ⟨g8, h⟩ := gd_e h
    refine go_ldiv K dX12_worked_146 g8 ?_
    exact go_lret K hr (Option.some.inj h) rfl dX12_worked_147
  replace h := ite_f h c6
  by_cases c9 : v1 = (60 : Int32)
  · refine go_lookup K dX12_worked_1 (by decide) (off := 147) (by rw [c9]; decide) (tgt := 148) (by decide) ?_
    replace h := ite_t h c9
    refine go_lload_n K dX12_worked_148 2 rfl rfl ?_
    refine go_lload K dX12_worked_149 3 rfl ?_
    refine go_lcmp K dX12_worked_151 ?_
    refine go_if_ge (tgt := 159) K dX12_worked_152 (by decide) (fun c10 => ?_) (fun c10 => ?_)
    · replace h := ite_t h c10
      refine go_lconst (v := (0 : Int64)) K dX12_worked_159 (by decide) ?_
      exact go_lret K hr (Option.some.inj h) rfl dX12_worked_160
    replace h := ite_f h c10
    refine go_lconst (v := (1 : Int64)) K dX12_worked_155 (by decide) ?_
    refine go_goto (tgt := 160) K dX12_worked_156 (by decide) ?_
    exact go_lret K hr (Option.some.inj h) rfl dX12_worked_160
  replace h := ite_f h c9
  by_cases c11 : v1 = (61 : Int32)
  · refine go_lookup K dX12_worked_1 (by decide) (off := 173) (by rw [c11]; decide) (tgt := 174) (by decide) ?_
    replace h := ite_t h c11
    refine go_lload_n K dX12_worked_174 2 rfl rfl ?_
    refine go_lload K dX12_worked_175 3 rfl ?_
    refine go_lcmp K dX12_worked_177 ?_
    refine go_if_ne (tgt := 185) K dX12_worked_178 (by decide) (fun c12 => ?_) (fun c12 => ?_)
    · replace h := ite_f h c12
      refine go_lconst (v := (0 : Int64)) K dX12_worked_185 (by decide) ?_
      exact go_lret K hr (Option.some.inj h) rfl dX12_worked_186
    replace h := ite_t h c12
    refine go_lconst (v := (1 : Int64)) K dX12_worked_181 (by decide) ?_
    refine go_goto (tgt := 186) K dX12_worked_182 (by decide) ?_
    exact go_lret K hr (Option.some.inj h) rfl dX12_worked_186
  replace h := ite_f h c11
  by_cases c13 : v1 = (62 : Int32)
  · refine go_lookup K dX12_worked_1 (by decide) (off := 160) (by rw [c13]; decide) (tgt := 161) (by decide) ?_
    replace h := ite_t h c13
    refine go_lload_n K dX12_worked_161 2 rfl rfl ?_
    refine go_lload K dX12_worked_162 3 rfl ?_
    refine go_lcmp K dX12_worked_164 ?_
    refine go_if_le (tgt := 172) K dX12_worked_165 (by decide) (fun c14 => ?_) (fun c14 => ?_)
    · replace h := ite_t h c14
      refine go_lconst (v := (0 : Int64)) K dX12_worked_172 (by decide) ?_
      exact go_lret K hr (Option.some.inj h) rfl dX12_worked_173
    replace h := ite_f h c14
    refine go_lconst (v := (1 : Int64)) K dX12_worked_168 (by decide) ?_
    refine go_goto (tgt := 173) K dX12_worked_169 (by decide) ?_
    exact go_lret K hr (Option.some.inj h) rfl dX12_worked_173
  replace h := ite_f h c13
  by_cases c15 : v1 = (300 : Int32)
  · refine go_lookup K dX12_worked_1 (by decide) (off := 199) (by rw [c15]; decide) (tgt := 200) (by decide) ?_
    replace h := ite_t h c15
    refine go_lload_n K dX12_worked_200 2 rfl rfl ?_
    refine go_lload K dX12_worked_201 3 rfl ?_
    refine go_lcmp K dX12_worked_203 ?_
    refine go_if_gt (tgt := 211) K dX12_worked_204 (by decide) (fun c16 => ?_) (fun c16 => ?_)
    · replace h := ite_t h c16
      refine go_lconst (v := (0 : Int64)) K dX12_worked_211 (by decide) ?_
      exact go_lret K hr (Option.some.inj h) rfl dX12_worked_212
    replace h := ite_f h c16
    refine go_lconst (v := (1 : Int64)) K dX12_worked_207 (by decide) ?_
    refine go_goto (tgt := 212) K dX12_worked_208 (by decide) ?_
    exact go_lret K hr (Option.some.inj h) rfl dX12_worked_212
  replace h := ite_f h c15
  by_cases c17 : v1 = (301 : Int32)
  · refine go_lookup K dX12_worked_1 (by decide) (off := 212) (by rw [c17]; decide) (tgt := 213) (by decide) ?_
    replace h := ite_t h c17
    refine go_lload_n K dX12_worked_213 2 rfl rfl ?_
    refine go_lload K dX12_worked_214 3 rfl ?_
    refine go_lcmp K dX12_worked_216 ?_
    refine go_if_lt (tgt := 224) K dX12_worked_217 (by decide) (fun c18 => ?_) (fun c18 => ?_)
    · replace h := ite_t h c18
      refine go_lconst (v := (0 : Int64)) K dX12_worked_224 (by decide) ?_
      exact go_lret K hr (Option.some.inj h) rfl dX12_worked_225
    replace h := ite_f h c18
    refine go_lconst (v := (1 : Int64)) K dX12_worked_220 (by decide) ?_
    refine go_goto (tgt := 225) K dX12_worked_221 (by decide) ?_
    exact go_lret K hr (Option.some.inj h) rfl dX12_worked_225
  replace h := ite_f h c17
  by_cases c19 : v1 = (403 : Int32)
  · refine go_lookup K dX12_worked_1 (by decide) (off := 225) (by rw [c19]; decide) (tgt := 226) (by decide) ?_
    replace h := ite_t h c19
    refine go_aload_n K dX12_worked_226 0 rfl rfl ?_
    refine go_lload_n K dX12_worked_227 2 rfl rfl ?_
    refine go_lload K dX12_worked_228 3 rfl ?_
    obtain ⟨r20, e20, h⟩ := bnd_e h
    refine go_cVJ K (c_X12_owedBy l G _ _ _ _ _ e20) cf_X12_owedBy cv_X12_owedBy km_X12_342 rv_X12 (by decide) rfl rfl (Nat.le_of_ble_eq_true rfl) dX12_worked_230 ?_
    exact go_lret K hr (Option.some.inj h) rfl dX12_worked_233
  replace h := ite_f h c19
  by_cases c21 : v1 = (406 : Int32)
  · refine go_lookup K dX12_worked_1 (by decide) (off := 233) (by rw [c21]; decide) (tgt := 234) (by decide) ?_
    replace h := ite_t h c21
    refine go_lload_n K dX12_worked_234 2 rfl rfl ?_
    refine go_lload K dX12_worked_235 3 rfl ?_
    refine go_lmul K dX12_worked_237 ?_
    exact go_lret K hr (Option.some.inj h) rfl dX12_worked_238
  replace h := ite_f h c21
  have c1 := sw_ne c1 (k := 35) (by decide)
  have c3 := sw_ne c3 (k := 42) (by decide)
  have c4 := sw_ne c4 (k := 43) (by decide)
  have c5 := sw_ne c5 (k := 45) (by decide)
  have c6 := sw_ne c6 (k := 47) (by decide)
  have c9 := sw_ne c9 (k := 60) (by decide)
  have c11 := sw_ne c11 (k := 61) (by decide)
  have c13 := sw_ne c13 (k := 62) (by decide)
  have c15 := sw_ne c15 (k := 300) (by decide)
  have c17 := sw_ne c17 (k := 301) (by decide)
  have c19 := sw_ne c19 (k := 403) (by decide)
  have c21 := sw_ne c21 (k := 406) (by decide)
  refine go_lookup K dX12_worked_1 (by decide) (off := 238) (show Op.lookupswitch.offset [(35, 186), (42, 123), (43, 107), (45, 115), (47, 131), (60, 147), (61, 173), (62, 160), (300, 199), (301, 212), (403, 225), (406, 233)] (238) (v1).toInt = 238 from by simp only [Op.lookupswitch.offset_cons, Op.lookupswitch.offset_nil]; rw [if_neg (fun q => c1 q.symm), if_neg (fun q => c3 q.symm), if_neg (fun q => c4 q.symm), if_neg (fun q => c5 q.symm), if_neg (fun q => c6 q.symm), if_neg (fun q => c9 q.symm), if_neg (fun q => c11 q.symm), if_neg (fun q => c13 q.symm), if_neg (fun q => c15 q.symm), if_neg (fun q => c17 q.symm), if_neg (fun q => c19 q.symm), if_neg (fun q => c21 q.symm)]) (tgt := 239) (by decide) ?_
  refine go_lload_n K dX12_worked_239 2 rfl rfl ?_
  refine go_lload K dX12_worked_240 3 rfl ?_
  refine go_ladd K dX12_worked_242 ?_
  refine go_lconst (v := (0 : Int64)) K dX12_worked_243 (by decide) ?_
  refine go_lcmp K dX12_worked_244 ?_
  refine go_if_le (tgt := 252) K dX12_worked_245 (by decide) (fun c22 => ?_) (fun c22 => ?_)
  · replace h := ite_t h c22
    refine go_lconst (v := (0 : Int64)) K dX12_worked_252 (by decide) ?_
    exact go_lret K hr (Option.some.inj h) rfl dX12_worked_253
  replace h := ite_f h c22
  refine go_lconst (v := (1 : Int64)) K dX12_worked_248 (by decide) ?_
  refine go_goto (tgt := 253) K dX12_worked_249 (by decide) ?_
  exact go_lret K hr (Option.some.inj h) rfl dX12_worked_253
