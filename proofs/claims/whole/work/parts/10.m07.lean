noncomputable def X4_readPart_j38 (rec : Nat → Int32 → CM → Option CM) (v1 : Int32) (C : CM) : Option CM := (bnd (rec 3 v1 C) (fun C2 => (some C2)))
noncomputable def f_X4_readPart (rec : Nat → Int32 → CM → Option CM) (v1 : Int32) (C : CM) : Option CM := (if (f_X4_is (40 : Int32) C) = 0 then (if (f_X4_is (45 : Int32) C) = 0 then (if (f_X4_is (155 : Int32) C) = 0 then (if (f_X4_is (156 : Int32) C) = 0 then (if (f_X4_is (2 : Int32) C) = 0 then (if (f_X11_within (C 404 2) (139 : Int32) (148 : Int32)) = 0 then (bnd (f_X4_fail (1 : Int32) C) (fun C13 => (some C13))) else (if (f_X4_isOfLaw (C 404 2) C) = 0 then (bnd (f_X4_fail (5 : Int32) C) (fun C12 => (some C12))) else (if (C 406 1) = 0 then (bnd2 (f_X6_emit 407 (C 404 2) (0 : Int32) C) (fun r10 C10 => (bnd (f_X8_next C10) (fun C11 => (some C11))))) else (some C)))) else (if (C 404 3) ≤ (9999 : Int32) then (bnd2 (f_X6_emit 407 (2 : Int32) (C 404 3) C) (fun r15 C15 => (bnd (f_X8_next C15) (fun C16 => (some C16))))) else (bnd (f_X4_fail (2 : Int32) C) (fun C17 => (some C17))))) else (X4_readPart_j38 rec v1 C)) else (X4_readPart_j38 rec v1 C)) else (X4_readPart_j38 rec v1 C)) else (X4_readPart_j38 rec v1 C))
set_option maxHeartbeats 4000000 in
set_option maxRecDepth 100000 in
theorem c_X4_readPart_open (l : Launch) (G : GT) (O : OM) (hh : Nat) (hge : 20 ≤ hh) (rec : Nat → Int32 → CM → Option CM) (hrec0 : ∀ (d : Int32) (C C' : CM), rec 0 d C = some C' → MV l G yX4_readSum cX4_readSum 4 (Option.none : Option Jvm.ClassFile.FieldType) hh [.ref (gB G + 406), .int d] (C, O) (C', O)) (hrec1 : ∀ (d : Int32) (C C' : CM), rec 1 d C = some C' → MV l G yX4_readProduct cX4_readProduct 4 (Option.none : Option Jvm.ClassFile.FieldType) hh [.ref (gB G + 406), .int d] (C, O) (C', O)) (hrec2 : ∀ (d : Int32) (C C' : CM), rec 2 d C = some C' → MV l G yX4_readPart cX4_readPart 2 (Option.none : Option Jvm.ClassFile.FieldType) hh [.ref (gB G + 406), .int d] (C, O) (C', O)) (hrec3 : ∀ (d : Int32) (C C' : CM), rec 3 d C = some C' → MV l G yX4_readNested cX4_readNested 3 (Option.none : Option Jvm.ClassFile.FieldType) hh [.ref (gB G + 406), .int d] (C, O) (C', O)) (hrec4 : ∀ (d : Int32) (C C' : CM), rec 4 d C = some C' → MV l G yX4_readChoice cX4_readChoice 4 (Option.none : Option Jvm.ClassFile.FieldType) hh [.ref (gB G + 406), .int d] (C, O) (C', O)) (hrec5 : ∀ (d : Int32) (C C' : CM), rec 5 d C = some C' → MV l G yX4_readEither cX4_readEither 3 (Option.none : Option Jvm.ClassFile.FieldType) hh [.ref (gB G + 406), .int d] (C, O) (C', O)) (hrec6 : ∀ (d : Int32) (C C' : CM), rec 6 d C = some C' → MV l G yX4_readBoth cX4_readBoth 3 (Option.none : Option Jvm.ClassFile.FieldType) hh [.ref (gB G + 406), .int d] (C, O) (C', O)) (hrec7 : ∀ (d : Int32) (C C' : CM), rec 7 d C = some C' → MV l G yX4_readAsk cX4_readAsk 3 (Option.none : Option Jvm.ClassFile.FieldType) hh [.ref (gB G + 406), .int d] (C, O) (C', O)) (v1 : Int32) (C C' : CM) (h : f_X4_readPart rec v1 C = some C') : MV l G yX4_readPart cX4_readPart 2 (Option.none : Option Jvm.ClassFile.FieldType) (hh + 1) [.ref (gB G + 406), .int v1] (C, O) (C', O) := by
  unfold MV
  refine met_in RX4 (by decide +kernel) rfl [(0, .ref (gB G + 406)), (1, .int v1)] rfl (Nat.le_of_ble_eq_true rfl) ?_
  intro pM eM sM mM aM bM meM cM K hr
  have hj38 : ∀ (v1 : Int32) (C : CM), X4_readPart_j38 rec v1 C = some C' → GO pM l eM (hh + 1) sM mM aM bM meM cM (MQ bM (va_Qv (fun (u : CM × OM) => u = (C', O)) (wB G) (Fr G)) aM sM 0 0 (Fr G)) G 2 (C, O) 38 [(0, .ref (gB G + 406)), (1, .int v1)] [] := by
    intro v1 C h
    rw [X4_readPart_j38] at h
    refine go_aload_n K dX4_readPart_38 0 rfl rfl ?_
    refine go_iload_n K dX4_readPart_39 1 rfl rfl ?_
    obtain ⟨C2, e2, h⟩ := bnd_e h
    refine go_cVV K (hrec3 _ _ _ e2) cf_X4_readNested cv_X4_readNested km_X4_109 rv_X4 (Nat.lt_succ_self _) rfl rfl (Nat.le_of_ble_eq_true rfl) dX4_readPart_40 ?_
    refine go_goto (tgt := 180) K dX4_readPart_43 (by decide) ?_
    exact go_vret K hr (congrArg (fun z => (z, O)) (Option.some.inj h)) dX4_readPart_180
  rw [f_X4_readPart] at h
  refine go_aload_n K dX4_readPart_0 0 rfl rfl ?_
  refine go_bipush (v := (40 : Int32)) K dX4_readPart_1 (by decide) ?_
  refine go_cVI K (c_X4_is l G _ _ _ _ rfl) cf_X4_is cv_X4_is km_X4_37 rv_X4 (Nat.lt_of_lt_of_le (by decide : 1 < 20) (by omega)) rfl rfl (Nat.le_of_ble_eq_true rfl) dX4_readPart_3 ?_
  refine go_if_ne (tgt := 38) K dX4_readPart_6 (by decide) (fun c1 => ?_) (fun c1 => ?_)
  · replace h := ite_f h c1
    exact hj38 _ _ h
  replace h := ite_t h c1
  refine go_aload_n K dX4_readPart_9 0 rfl rfl ?_
  refine go_bipush (v := (45 : Int32)) K dX4_readPart_10 (by decide) ?_
  refine go_cVI K (c_X4_is l G _ _ _ _ rfl) cf_X4_is cv_X4_is km_X4_37 rv_X4 (Nat.lt_of_lt_of_le (by decide : 1 < 20) (by omega)) rfl rfl (Nat.le_of_ble_eq_true rfl) dX4_readPart_12 ?_
  refine go_if_ne (tgt := 38) K dX4_readPart_15 (by decide) (fun c3 => ?_) (fun c3 => ?_)
  · replace h := ite_f h c3
    exact hj38 _ _ h
  replace h := ite_t h c3
  refine go_aload_n K dX4_readPart_18 0 rfl rfl ?_
  refine go_sipush (v := (155 : Int32)) K dX4_readPart_19 (by decide) ?_
  refine go_cVI K (c_X4_is l G _ _ _ _ rfl) cf_X4_is cv_X4_is km_X4_37 rv_X4 (Nat.lt_of_lt_of_le (by decide : 1 < 20) (by omega)) rfl rfl (Nat.le_of_ble_eq_true rfl) dX4_readPart_22 ?_
  refine go_if_ne (tgt := 38) K dX4_readPart_25 (by decide) (fun c4 => ?_) (fun c4 => ?_)
  · replace h := ite_f h c4
    exact hj38 _ _ h
  replace h := ite_t h c4
  refine go_aload_n K dX4_readPart_28 0 rfl rfl ?_
  refine go_sipush (v := (156 : Int32)) K dX4_readPart_29 (by decide) ?_
  refine go_cVI K (c_X4_is l G _ _ _ _ rfl) cf_X4_is cv_X4_is km_X4_37 rv_X4 (Nat.lt_of_lt_of_le (by decide : 1 < 20) (by omega)) rfl rfl (Nat.le_of_ble_eq_true rfl) dX4_readPart_32 ?_
  refine go_if_eq (tgt := 46) K dX4_readPart_35 (by decide) (fun c5 => ?_) (fun c5 => ?_)
  rotate_left
  · replace h := ite_f h c5
    exact hj38 _ _ h
  replace h := ite_t h c5
  refine go_aload_n K dX4_readPart_46 0 rfl rfl ?_
  refine go_iconst (v := (2 : Int32)) K dX4_readPart_47 (by decide) ?_
  refine go_cVI K (c_X4_is l G _ _ _ _ rfl) cf_X4_is cv_X4_is km_X4_37 rv_X4 (Nat.lt_of_lt_of_le (by decide : 1 < 20) (by omega)) rfl rfl (Nat.le_of_ble_eq_true rfl) dX4_readPart_48 ?_
  refine go_if_eq (tgt := 101) K dX4_readPart_51 (by decide) (fun c6 => ?_) (fun c6 => ?_)
  rotate_left
  · replace h := ite_f h c6
    refine go_aload_n K dX4_readPart_54 0 rfl rfl ?_
    refine gf_X4 K 3 (by decide) kf_X4_25 (v := .ref (gB G + 404)) rfl dX4_readPart_55 ?_
    refine gf_X8 K 3 (by decide) kf_X4_92 (v := .int (C 404 3)) rfl dX4_readPart_58 ?_
    refine go_sipush (v := (9999 : Int32)) K dX4_readPart_61 (by decide) ?_
    refine go_icmp_le (tgt := 75) K dX4_readPart_64 (by decide) (fun c14 => ?_) (fun c14 => ?_)
    rotate_left
    · replace h := ite_f h c14
      refine go_aload_n K dX4_readPart_67 0 rfl rfl ?_
      refine go_iconst (v := (2 : Int32)) K dX4_readPart_68 (by decide) ?_
      obtain ⟨C17, e17, h⟩ := bnd_e h
      refine go_cVV K (c_X4_fail l G _ _ _ _ e17) cf_X4_fail cv_X4_fail km_X4_53 rv_X4 (Nat.lt_of_lt_of_le (by decide : 1 < 20) (by omega)) rfl rfl (Nat.le_of_ble_eq_true rfl) dX4_readPart_69 ?_
      refine go_goto (tgt := 180) K dX4_readPart_72 (by decide) ?_
      exact go_vret K hr (congrArg (fun z => (z, O)) (Option.some.inj h)) dX4_readPart_180
    replace h := ite_t h c14
    refine go_aload_n K dX4_readPart_75 0 rfl rfl ?_
    refine gf_X4 K 0 (by decide) kf_X4_12 (v := .ref (gB G + 407)) rfl dX4_readPart_76 ?_
    refine go_iconst (v := (2 : Int32)) K dX4_readPart_79 (by decide) ?_
    refine go_aload_n K dX4_readPart_80 0 rfl rfl ?_
    refine gf_X4 K 3 (by decide) kf_X4_25 (v := .ref (gB G + 404)) rfl dX4_readPart_81 ?_
    refine gf_X8 K 3 (by decide) kf_X4_92 (v := .int (C 404 3)) rfl dX4_readPart_84 ?_
    obtain ⟨r15, C15, e15, h⟩ := bnd2_e h
    refine go_cVI K (c_X6_emit l G sc_407 _ _ _ _ _ _ e15) cf_X6_emit cv_X6_emit km_X4_102 (rv_X6 sc_407) (Nat.lt_of_lt_of_le (by decide : 2 < 20) (by omega)) rfl rfl (Nat.le_of_ble_eq_true rfl) dX4_readPart_87 ?_
    refine go_pop K dX4_readPart_90 rfl ?_
    refine go_aload_n K dX4_readPart_91 0 rfl rfl ?_
    refine gf_X4 K 3 (by decide) kf_X4_25 (v := .ref (gB G + 404)) rfl dX4_readPart_92 ?_
    obtain ⟨C16, e16, h⟩ := bnd_e h
    refine go_cVV K (c_X8_next l G _ _ _ e16) cf_X8_next cv_X8_next km_X4_50 rv_X8 (Nat.lt_of_lt_of_le (by decide : 8 < 20) (by omega)) rfl rfl (Nat.le_of_ble_eq_true rfl) dX4_readPart_95 ?_
    refine go_goto (tgt := 180) K dX4_readPart_98 (by decide) ?_
    exact go_vret K hr (congrArg (fun z => (z, O)) (Option.some.inj h)) dX4_readPart_180
  replace h := ite_t h c6
  refine go_aload_n K dX4_readPart_101 0 rfl rfl ?_
  refine gf_X4 K 3 (by decide) kf_X4_25 (v := .ref (gB G + 404)) rfl dX4_readPart_102 ?_
  refine gf_X8 K 2 (by decide) kf_X4_44 (v := .int (C 404 2)) rfl dX4_readPart_105 ?_
  refine go_sipush (v := (139 : Int32)) K dX4_readPart_108 (by decide) ?_
  refine go_sipush (v := (148 : Int32)) K dX4_readPart_111 (by decide) ?_
  refine go_cNI K (c_X11_within l G _ _ _ _ _ _ rfl) cf_X11_within kt_X11_within (List.mem_of_getElem? (i := 18) rfl) (Nat.lt_of_lt_of_le (by decide : 1 < 20) (by omega)) rfl rfl (Nat.le_of_ble_eq_true rfl) dX4_readPart_114 ?_
  refine go_if_ne (tgt := 128) K dX4_readPart_117 (by decide) (fun c7 => ?_) (fun c7 => ?_)
  rotate_left
  · replace h := ite_t h c7
    refine go_aload_n K dX4_readPart_120 0 rfl rfl ?_
    refine go_iconst (v := (1 : Int32)) K dX4_readPart_121 (by decide) ?_
    obtain ⟨C13, e13, h⟩ := bnd_e h
    refine go_cVV K (c_X4_fail l G _ _ _ _ e13) cf_X4_fail cv_X4_fail km_X4_53 rv_X4 (Nat.lt_of_lt_of_le (by decide : 1 < 20) (by omega)) rfl rfl (Nat.le_of_ble_eq_true rfl) dX4_readPart_122 ?_
    refine go_goto (tgt := 180) K dX4_readPart_125 (by decide) ?_
    exact go_vret K hr (congrArg (fun z => (z, O)) (Option.some.inj h)) dX4_readPart_180
  replace h := ite_f h c7
  refine go_aload_n K dX4_readPart_128 0 rfl rfl ?_
  refine go_aload_n K dX4_readPart_129 0 rfl rfl ?_
  refine gf_X4 K 3 (by decide) kf_X4_25 (v := .ref (gB G + 404)) rfl dX4_readPart_130 ?_
  refine gf_X8 K 2 (by decide) kf_X4_44 (v := .int (C 404 2)) rfl dX4_readPart_133 ?_
  refine go_cVI K (c_X4_isOfLaw l G _ _ _ _ rfl) cf_X4_isOfLaw cv_X4_isOfLaw km_X4_112 rv_X4 (Nat.lt_of_lt_of_le (by decide : 1 < 20) (by omega)) rfl rfl (Nat.le_of_ble_eq_true rfl) dX4_readPart_136 ?_
  refine go_if_ne (tgt := 150) K dX4_readPart_139 (by decide) (fun c8 => ?_) (fun c8 => ?_)
  rotate_left
  · replace h := ite_t h c8
    refine go_aload_n K dX4_readPart_142 0 rfl rfl ?_
    refine go_iconst (v := (5 : Int32)) K dX4_readPart_143 (by decide) ?_
    obtain ⟨C12, e12, h⟩ := bnd_e h
    refine go_cVV K (c_X4_fail l G _ _ _ _ e12) cf_X4_fail cv_X4_fail km_X4_53 rv_X4 (Nat.lt_of_lt_of_le (by decide : 1 < 20) (by omega)) rfl rfl (Nat.le_of_ble_eq_true rfl) dX4_readPart_144 ?_
    refine go_goto (tgt := 180) K dX4_readPart_147 (by decide) ?_
    exact go_vret K hr (congrArg (fun z => (z, O)) (Option.some.inj h)) dX4_readPart_180
  replace h := ite_f h c8
  refine go_aload_n K dX4_readPart_150 0 rfl rfl ?_
  refine gf_X4 K 1 (by decide) kf_X4_18 (v := .int (C 406 1)) rfl dX4_readPart_151 ?_
  refine go_if_ne (tgt := 180) K dX4_readPart_154 (by decide) (fun c9 => ?_) (fun c9 => ?_)
  · replace h := ite_f h c9
    exact go_vret K hr (congrArg (fun z => (z, O)) (Option.some.inj h)) dX4_readPart_180
  replace h := ite_t h c9
  refine go_aload_n K dX4_readPart_157 0 rfl rfl ?_
  refine gf_X4 K 0 (by decide) kf_X4_12 (v := .ref (gB G + 407)) rfl dX4_readPart_158 ?_
  refine go_aload_n K dX4_readPart_161 0 rfl rfl ?_
  refine gf_X4 K 3 (by decide) kf_X4_25 (v := .ref (gB G + 404)) rfl dX4_readPart_162 ?_
  refine gf_X8 K 2 (by decide) kf_X4_44 (v := .int (C 404 2)) rfl dX4_readPart_165 ?_
  refine go_iconst (v := (0 : Int32)) K dX4_readPart_168 (by decide) ?_
  obtain ⟨r10, C10, e10, h⟩ := bnd2_e h
  refine go_cVI K (c_X6_emit l G sc_407 _ _ _ _ _ _ e10) cf_X6_emit cv_X6_emit km_X4_102 (rv_X6 sc_407) (Nat.lt_of_lt_of_le (by decide : 2 < 20) (by omega)) rfl rfl (Nat.le_of_ble_eq_true rfl) dX4_readPart_169 ?_
  refine go_pop K dX4_readPart_172 rfl ?_
  refine go_aload_n K dX4_readPart_173 0 rfl rfl ?_
  refine gf_X4 K 3 (by decide) kf_X4_25 (v := .ref (gB G + 404)) rfl dX4_readPart_174 ?_
  obtain ⟨C11, e11, h⟩ := bnd_e h
  refine go_cVV K (c_X8_next l G _ _ _ e11) cf_X8_next cv_X8_next km_X4_50 rv_X8 (Nat.lt_of_lt_of_le (by decide : 8 < 20) (by omega)) rfl rfl (Nat.le_of_ble_eq_true rfl) dX4_readPart_177 ?_
  exact go_vret K hr (congrArg (fun z => (z, O)) (Option.some.inj h)) dX4_readPart_180
noncomputable def f_X4_readNested (rec : Nat → Int32 → CM → Option CM) (v1 : Int32) (C : CM) : Option CM := (if v1 < (8 : Int32) then (bnd (f_X8_next C) (fun C2 => (if (C 404 2) = (40 : Int32) then (bnd (rec 0 (v1 + (1 : Int32)) C2) (fun C4 => (bnd (f_X4_expect (41 : Int32) C4) (fun C5 => (some C5))))) else (if (C 404 2) = (45 : Int32) then (bnd (rec 2 (v1 + (1 : Int32)) C2) (fun C7 => (bnd2 (f_X6_emit 407 (3 : Int32) (0 : Int32) C7) (fun r8 C8 => (some C8))))) else (if (C 404 2) = (155 : Int32) then (bnd (rec 2 (v1 + (1 : Int32)) C2) (fun C10 => (bnd (f_X4_expect (150 : Int32) C10) (fun C11 => (bnd (rec 2 (v1 + (1 : Int32)) C11) (fun C12 => (bnd2 (f_X6_emit 407 (155 : Int32) (0 : Int32) C12) (fun r13 C13 => (some C13))))))))) else (bnd (rec 4 (v1 + (1 : Int32)) C2) (fun C14 => (some C14)))))))) else (bnd (f_X4_fail (3 : Int32) C) (fun C15 => (some C15))))
set_option maxHeartbeats 4000000 in
set_option maxRecDepth 100000 in
theorem c_X4_readNested_open (l : Launch) (G : GT) (O : OM) (hh : Nat) (hge : 20 ≤ hh) (rec : Nat → Int32 → CM → Option CM) (hrec0 : ∀ (d : Int32) (C C' : CM), rec 0 d C = some C' → MV l G yX4_readSum cX4_readSum 4 (Option.none : Option Jvm.ClassFile.FieldType) hh [.ref (gB G + 406), .int d] (C, O) (C', O)) (hrec1 : ∀ (d : Int32) (C C' : CM), rec 1 d C = some C' → MV l G yX4_readProduct cX4_readProduct 4 (Option.none : Option Jvm.ClassFile.FieldType) hh [.ref (gB G + 406), .int d] (C, O) (C', O)) (hrec2 : ∀ (d : Int32) (C C' : CM), rec 2 d C = some C' → MV l G yX4_readPart cX4_readPart 2 (Option.none : Option Jvm.ClassFile.FieldType) hh [.ref (gB G + 406), .int d] (C, O) (C', O)) (hrec3 : ∀ (d : Int32) (C C' : CM), rec 3 d C = some C' → MV l G yX4_readNested cX4_readNested 3 (Option.none : Option Jvm.ClassFile.FieldType) hh [.ref (gB G + 406), .int d] (C, O) (C', O)) (hrec4 : ∀ (d : Int32) (C C' : CM), rec 4 d C = some C' → MV l G yX4_readChoice cX4_readChoice 4 (Option.none : Option Jvm.ClassFile.FieldType) hh [.ref (gB G + 406), .int d] (C, O) (C', O)) (hrec5 : ∀ (d : Int32) (C C' : CM), rec 5 d C = some C' → MV l G yX4_readEither cX4_readEither 3 (Option.none : Option Jvm.ClassFile.FieldType) hh [.ref (gB G + 406), .int d] (C, O) (C', O)) (hrec6 : ∀ (d : Int32) (C C' : CM), rec 6 d C = some C' → MV l G yX4_readBoth cX4_readBoth 3 (Option.none : Option Jvm.ClassFile.FieldType) hh [.ref (gB G + 406), .int d] (C, O) (C', O)) (hrec7 : ∀ (d : Int32) (C C' : CM), rec 7 d C = some C' → MV l G yX4_readAsk cX4_readAsk 3 (Option.none : Option Jvm.ClassFile.FieldType) hh [.ref (gB G + 406), .int d] (C, O) (C', O)) (v1 : Int32) (C C' : CM) (h : f_X4_readNested rec v1 C = some C') : MV l G yX4_readNested cX4_readNested 3 (Option.none : Option Jvm.ClassFile.FieldType) (hh + 1) [.ref (gB G + 406), .int v1] (C, O) (C', O) := by
  unfold MV
  refine met_in RX4 (by decide +kernel) rfl [(0, .ref (gB G + 406)), (1, .int v1)] rfl (Nat.le_of_ble_eq_true rfl) ?_
  intro pM eM sM mM aM bM meM cM K hr
  rw [f_X4_readNested] at h
  refine go_aload_n K dX4_readNested_0 0 rfl rfl ?_
  refine gf_X4 K 3 (by decide) kf_X4_25 (v := .ref (gB G + 404)) rfl dX4_readNested_1 ?_
  refine gf_X8 K 2 (by decide) kf_X4_44 (v := .int (C 404 2)) rfl dX4_readNested_4 ?_
  refine go_istore_n K dX4_readNested_7 rfl (by decide) (lv' := [(2, .int (C 404 2)), (0, .ref (gB G + 406)), (1, .int v1)]) rfl ?_
  refine go_iload_n K dX4_readNested_8 2 rfl rfl ?_
  refine go_bipush (v := (8 : Int32)) K dX4_readNested_9 (by decide) ?_
  refine go_icmp_lt (tgt := 20) K dX4_readNested_11 (by decide) (fun c1 => ?_) (fun c1 => ?_)
  rotate_left
  · replace h := ite_f h c1
    refine go_aload_n K dX4_readNested_14 1 rfl rfl ?_
    refine go_iconst (v := (3 : Int32)) K dX4_readNested_15 (by decide) ?_
    obtain ⟨C15, e15, h⟩ := bnd_e h
    refine go_cVV K (c_X4_fail l G _ _ _ _ e15) cf_X4_fail cv_X4_fail km_X4_53 rv_X4 (Nat.lt_of_lt_of_le (by decide : 1 < 20) (by omega)) rfl rfl (Nat.le_of_ble_eq_true rfl) dX4_readNested_16 ?_
    exact go_vret K hr (congrArg (fun z => (z, O)) (Option.some.inj h)) dX4_readNested_19
  replace h := ite_t h c1
  refine go_aload_n K dX4_readNested_20 1 rfl rfl ?_
  refine gf_X4 K 3 (by decide) kf_X4_25 (v := .ref (gB G + 404)) rfl dX4_readNested_21 ?_
  obtain ⟨C2, e2, h⟩ := bnd_e h
  refine go_cVV K (c_X8_next l G _ _ _ e2) cf_X8_next cv_X8_next km_X4_50 rv_X8 (Nat.lt_of_lt_of_le (by decide : 8 < 20) (by omega)) rfl rfl (Nat.le_of_ble_eq_true rfl) dX4_readNested_24 ?_
  refine go_iload_n K dX4_readNested_27 0 rfl rfl ?_
  by_cases c3 : (C 404 2) = (40 : Int32)
  · refine go_lookup K dX4_readNested_28 (by decide) (off := 36) (by rw [c3]; decide) (tgt := 64) (by decide) ?_
    replace h := ite_t h c3
    refine go_aload_n K dX4_readNested_64 1 rfl rfl ?_
    refine go_iload_n K dX4_readNested_65 2 rfl rfl ?_
    refine go_iconst (v := (1 : Int32)) K dX4_readNested_66 (by decide) ?_
    refine go_iadd K dX4_readNested_67 ?_
    obtain ⟨C4, e4, h⟩ := bnd_e h
    refine go_cVV K (hrec0 _ _ _ e4) cf_X4_readSum cv_X4_readSum km_X4_76 rv_X4 (Nat.lt_succ_self _) rfl rfl (Nat.le_of_ble_eq_true rfl) dX4_readNested_68 ?_
    refine go_aload_n K dX4_readNested_71 1 rfl rfl ?_
    refine go_bipush (v := (41 : Int32)) K dX4_readNested_72 (by decide) ?_
    obtain ⟨C5, e5, h⟩ := bnd_e h
    refine go_cVV K (c_X4_expect l G _ _ _ _ e5) cf_X4_expect cv_X4_expect km_X4_85 rv_X4 (Nat.lt_of_lt_of_le (by decide : 9 < 20) (by omega)) rfl rfl (Nat.le_of_ble_eq_true rfl) dX4_readNested_74 ?_
    refine go_goto (tgt := 143) K dX4_readNested_77 (by decide) ?_
    exact go_vret K hr (congrArg (fun z => (z, O)) (Option.some.inj h)) dX4_readNested_143
  replace h := ite_f h c3
  by_cases c6 : (C 404 2) = (45 : Int32)
  · refine go_lookup K dX4_readNested_28 (by decide) (off := 52) (by rw [c6]; decide) (tgt := 80) (by decide) ?_
    replace h := ite_t h c6
    refine go_aload_n K dX4_readNested_80 1 rfl rfl ?_
    refine go_iload_n K dX4_readNested_81 2 rfl rfl ?_
    refine go_iconst (v := (1 : Int32)) K dX4_readNested_82 (by decide) ?_
    refine go_iadd K dX4_readNested_83 ?_
    obtain ⟨C7, e7, h⟩ := bnd_e h
    refine go_cVV K (hrec2 _ _ _ e7) cf_X4_readPart cv_X4_readPart km_X4_106 rv_X4 (Nat.lt_succ_self _) rfl rfl (Nat.le_of_ble_eq_true rfl) dX4_readNested_84 ?_
    refine go_aload_n K dX4_readNested_87 1 rfl rfl ?_
    refine gf_X4 K 0 (by decide) kf_X4_12 (v := .ref (gB G + 407)) rfl dX4_readNested_88 ?_
    refine go_iconst (v := (3 : Int32)) K dX4_readNested_91 (by decide) ?_
    refine go_iconst (v := (0 : Int32)) K dX4_readNested_92 (by decide) ?_
    obtain ⟨r8, C8, e8, h⟩ := bnd2_e h
    refine go_cVI K (c_X6_emit l G sc_407 _ _ _ _ _ _ e8) cf_X6_emit cv_X6_emit km_X4_102 (rv_X6 sc_407) (Nat.lt_of_lt_of_le (by decide : 2 < 20) (by omega)) rfl rfl (Nat.le_of_ble_eq_true rfl) dX4_readNested_93 ?_
    refine go_pop K dX4_readNested_96 rfl ?_
    refine go_goto (tgt := 143) K dX4_readNested_97 (by decide) ?_
    exact go_vret K hr (congrArg (fun z => (z, O)) (Option.some.inj h)) dX4_readNested_143
  replace h := ite_f h c6
  by_cases c9 : (C 404 2) = (155 : Int32)
  · refine go_lookup K dX4_readNested_28 (by decide) (off := 72) (by rw [c9]; decide) (tgt := 100) (by decide) ?_
    replace h := ite_t h c9
    refine go_aload_n K dX4_readNested_100 1 rfl rfl ?_
    refine go_iload_n K dX4_readNested_101 2 rfl rfl ?_
    refine go_iconst (v := (1 : Int32)) K dX4_readNested_102 (by decide) ?_
    refine go_iadd K dX4_readNested_103 ?_
    obtain ⟨C10, e10, h⟩ := bnd_e h
    refine go_cVV K (hrec2 _ _ _ e10) cf_X4_readPart cv_X4_readPart km_X4_106 rv_X4 (Nat.lt_succ_self _) rfl rfl (Nat.le_of_ble_eq_true rfl) dX4_readNested_104 ?_
    refine go_aload_n K dX4_readNested_107 1 rfl rfl ?_
    refine go_sipush (v := (150 : Int32)) K dX4_readNested_108 (by decide) ?_
    obtain ⟨C11, e11, h⟩ := bnd_e h
    refine go_cVV K (c_X4_expect l G _ _ _ _ e11) cf_X4_expect cv_X4_expect km_X4_85 rv_X4 (Nat.lt_of_lt_of_le (by decide : 9 < 20) (by omega)) rfl rfl (Nat.le_of_ble_eq_true rfl) dX4_readNested_111 ?_
    refine go_aload_n K dX4_readNested_114 1 rfl rfl ?_
    refine go_iload_n K dX4_readNested_115 2 rfl rfl ?_
    refine go_iconst (v := (1 : Int32)) K dX4_readNested_116 (by decide) ?_
    refine go_iadd K dX4_readNested_117 ?_
    obtain ⟨C12, e12, h⟩ := bnd_e h
    refine go_cVV K (hrec2 _ _ _ e12) cf_X4_readPart cv_X4_readPart km_X4_106 rv_X4 (Nat.lt_succ_self _) rfl rfl (Nat.le_of_ble_eq_true rfl) dX4_readNested_118 ?_
    refine go_aload_n K dX4_readNested_121 1 rfl rfl ?_
    refine gf_X4 K 0 (by decide) kf_X4_12 (v := .ref (gB G + 407)) rfl dX4_readNested_122 ?_
    refine go_sipush (v := (155 : Int32)) K dX4_readNested_125 (by decide) ?_
    refine go_iconst (v := (0 : Int32)) K dX4_readNested_128 (by decide) ?_
    obtain ⟨r13, C13, e13, h⟩ := bnd2_e h
    refine go_cVI K (c_X6_emit l G sc_407 _ _ _ _ _ _ e13) cf_X6_emit cv_X6_emit km_X4_102 (rv_X6 sc_407) (Nat.lt_of_lt_of_le (by decide : 2 < 20) (by omega)) rfl rfl (Nat.le_of_ble_eq_true rfl) dX4_readNested_129 ?_
    refine go_pop K dX4_readNested_132 rfl ?_
    refine go_goto (tgt := 143) K dX4_readNested_133 (by decide) ?_
    exact go_vret K hr (congrArg (fun z => (z, O)) (Option.some.inj h)) dX4_readNested_143
  replace h := ite_f h c9
  have c3 := sw_ne c3 (k := 40) (by decide)
  have c6 := sw_ne c6 (k := 45) (by decide)
  have c9 := sw_ne c9 (k := 155) (by decide)
  refine go_lookup K dX4_readNested_28 (by decide) (off := 108) (show Op.lookupswitch.offset [(40, 36), (45, 52), (155, 72)] (108) ((C 404 2)).toInt = 108 from by simp only [Op.lookupswitch.offset_cons, Op.lookupswitch.offset_nil]; rw [if_neg (fun q => c3 q.symm), if_neg (fun q => c6 q.symm), if_neg (fun q => c9 q.symm)]) (tgt := 136) (by decide) ?_
  refine go_aload_n K dX4_readNested_136 1 rfl rfl ?_
  refine go_iload_n K dX4_readNested_137 2 rfl rfl ?_
  refine go_iconst (v := (1 : Int32)) K dX4_readNested_138 (by decide) ?_
  refine go_iadd K dX4_readNested_139 ?_
  obtain ⟨C14, e14, h⟩ := bnd_e h
  refine go_cVV K (hrec4 _ _ _ e14) cf_X4_readChoice cv_X4_readChoice km_X4_115 rv_X4 (Nat.lt_succ_self _) rfl rfl (Nat.le_of_ble_eq_true rfl) dX4_readNested_140 ?_
  exact go_vret K hr (congrArg (fun z => (z, O)) (Option.some.inj h)) dX4_readNested_143
noncomputable def f_X4_readChoice (rec : Nat → Int32 → CM → Option CM) (v1 : Int32) (C : CM) : Option CM := (bnd (rec 5 v1 C) (fun C1 => (bnd (f_X4_expect (157 : Int32) C1) (fun C2 => (bnd2 (f_X6_emit 407 (157 : Int32) (0 : Int32) C2) (fun r3 C3 => (bnd (rec 0 v1 C3) (fun C4 => (bnd (f_X4_expect (158 : Int32) C4) (fun C5 => (bnd2 (f_X6_emit 407 (158 : Int32) (0 : Int32) C5) (fun r6 C6 => (bnd (f_X6_leadHere 407 r3 C6) (fun C7 => (bnd (rec 0 v1 C7) (fun C8 => (bnd (f_X4_expect (159 : Int32) C8) (fun C9 => (bnd (f_X6_leadHere 407 r6 C9) (fun C10 => (some C10)))))))))))))))))))))
set_option maxHeartbeats 4000000 in
set_option maxRecDepth 100000 in
theorem c_X4_readChoice_open (l : Launch) (G : GT) (O : OM) (hh : Nat) (hge : 20 ≤ hh) (rec : Nat → Int32 → CM → Option CM) (hrec0 : ∀ (d : Int32) (C C' : CM), rec 0 d C = some C' → MV l G yX4_readSum cX4_readSum 4 (Option.none : Option Jvm.ClassFile.FieldType) hh [.ref (gB G + 406), .int d] (C, O) (C', O)) (hrec1 : ∀ (d : Int32) (C C' : CM), rec 1 d C = some C' → MV l G yX4_readProduct cX4_readProduct 4 (Option.none : Option Jvm.ClassFile.FieldType) hh [.ref (gB G + 406), .int d] (C, O) (C', O)) (hrec2 : ∀ (d : Int32) (C C' : CM), rec 2 d C = some C' → MV l G yX4_readPart cX4_readPart 2 (Option.none : Option Jvm.ClassFile.FieldType) hh [.ref (gB G + 406), .int d] (C, O) (C', O)) (hrec3 : ∀ (d : Int32) (C C' : CM), rec 3 d C = some C' → MV l G yX4_readNested cX4_readNested 3 (Option.none : Option Jvm.ClassFile.FieldType) hh [.ref (gB G + 406), .int d] (C, O) (C', O)) (hrec4 : ∀ (d : Int32) (C C' : CM), rec 4 d C = some C' → MV l G yX4_readChoice cX4_readChoice 4 (Option.none : Option Jvm.ClassFile.FieldType) hh [.ref (gB G + 406), .int d] (C, O) (C', O)) (hrec5 : ∀ (d : Int32) (C C' : CM), rec 5 d C = some C' → MV l G yX4_readEither cX4_readEither 3 (Option.none : Option Jvm.ClassFile.FieldType) hh [.ref (gB G + 406), .int d] (C, O) (C', O)) (hrec6 : ∀ (d : Int32) (C C' : CM), rec 6 d C = some C' → MV l G yX4_readBoth cX4_readBoth 3 (Option.none : Option Jvm.ClassFile.FieldType) hh [.ref (gB G + 406), .int d] (C, O) (C', O)) (hrec7 : ∀ (d : Int32) (C C' : CM), rec 7 d C = some C' → MV l G yX4_readAsk cX4_readAsk 3 (Option.none : Option Jvm.ClassFile.FieldType) hh [.ref (gB G + 406), .int d] (C, O) (C', O)) (v1 : Int32) (C C' : CM) (h : f_X4_readChoice rec v1 C = some C') : MV l G yX4_readChoice cX4_readChoice 4 (Option.none : Option Jvm.ClassFile.FieldType) (hh + 1) [.ref (gB G + 406), .int v1] (C, O) (C', O) := by
  unfold MV
  refine met_in RX4 (by decide +kernel) rfl [(0, .ref (gB G + 406)), (1, .int v1)] rfl (Nat.le_of_ble_eq_true rfl) ?_
  intro pM eM sM mM aM bM meM cM K hr
  rw [f_X4_readChoice] at h
  refine go_aload_n K dX4_readChoice_0 0 rfl rfl ?_
  refine go_iload_n K dX4_readChoice_1 1 rfl rfl ?_
  obtain ⟨C1, e1, h⟩ := bnd_e h
  refine go_cVV K (hrec5 _ _ _ e1) cf_X4_readEither cv_X4_readEither km_X4_118 rv_X4 (Nat.lt_succ_self _) rfl rfl (Nat.le_of_ble_eq_true rfl) dX4_readChoice_2 ?_
  refine go_aload_n K dX4_readChoice_5 0 rfl rfl ?_
  refine go_sipush (v := (157 : Int32)) K dX4_readChoice_6 (by decide) ?_
  obtain ⟨C2, e2, h⟩ := bnd_e h
  refine go_cVV K (c_X4_expect l G _ _ _ _ e2) cf_X4_expect cv_X4_expect km_X4_85 rv_X4 (Nat.lt_of_lt_of_le (by decide : 9 < 20) (by omega)) rfl rfl (Nat.le_of_ble_eq_true rfl) dX4_readChoice_9 ?_
  refine go_aload_n K dX4_readChoice_12 0 rfl rfl ?_
  refine gf_X4 K 0 (by decide) kf_X4_12 (v := .ref (gB G + 407)) rfl dX4_readChoice_13 ?_
  refine go_sipush (v := (157 : Int32)) K dX4_readChoice_16 (by decide) ?_
  refine go_iconst (v := (0 : Int32)) K dX4_readChoice_19 (by decide) ?_
  obtain ⟨r3, C3, e3, h⟩ := bnd2_e h
  refine go_cVI K (c_X6_emit l G sc_407 _ _ _ _ _ _ e3) cf_X6_emit cv_X6_emit km_X4_102 (rv_X6 sc_407) (Nat.lt_of_lt_of_le (by decide : 2 < 20) (by omega)) rfl rfl (Nat.le_of_ble_eq_true rfl) dX4_readChoice_20 ?_
  refine go_istore_n K dX4_readChoice_23 rfl (by decide) (lv' := [(2, .int r3), (0, .ref (gB G + 406)), (1, .int v1)]) rfl ?_
  refine go_aload_n K dX4_readChoice_24 1 rfl rfl ?_
  refine go_iload_n K dX4_readChoice_25 2 rfl rfl ?_
  obtain ⟨C4, e4, h⟩ := bnd_e h
  refine go_cVV K (hrec0 _ _ _ e4) cf_X4_readSum cv_X4_readSum km_X4_76 rv_X4 (Nat.lt_succ_self _) rfl rfl (Nat.le_of_ble_eq_true rfl) dX4_readChoice_26 ?_
  refine go_aload_n K dX4_readChoice_29 1 rfl rfl ?_
  refine go_sipush (v := (158 : Int32)) K dX4_readChoice_30 (by decide) ?_
  obtain ⟨C5, e5, h⟩ := bnd_e h
  refine go_cVV K (c_X4_expect l G _ _ _ _ e5) cf_X4_expect cv_X4_expect km_X4_85 rv_X4 (Nat.lt_of_lt_of_le (by decide : 9 < 20) (by omega)) rfl rfl (Nat.le_of_ble_eq_true rfl) dX4_readChoice_33 ?_
  refine go_aload_n K dX4_readChoice_36 1 rfl rfl ?_
  refine gf_X4 K 0 (by decide) kf_X4_12 (v := .ref (gB G + 407)) rfl dX4_readChoice_37 ?_
  refine go_sipush (v := (158 : Int32)) K dX4_readChoice_40 (by decide) ?_
  refine go_iconst (v := (0 : Int32)) K dX4_readChoice_43 (by decide) ?_
  obtain ⟨r6, C6, e6, h⟩ := bnd2_e h
  refine go_cVI K (c_X6_emit l G sc_407 _ _ _ _ _ _ e6) cf_X6_emit cv_X6_emit km_X4_102 (rv_X6 sc_407) (Nat.lt_of_lt_of_le (by decide : 2 < 20) (by omega)) rfl rfl (Nat.le_of_ble_eq_true rfl) dX4_readChoice_44 ?_
  refine go_istore_n K dX4_readChoice_47 rfl (by decide) (lv' := [(3, .int r6), (2, .int r3), (0, .ref (gB G + 406)), (1, .int v1)]) rfl ?_
  refine go_aload_n K dX4_readChoice_48 2 rfl rfl ?_
  refine gf_X4 K 0 (by decide) kf_X4_12 (v := .ref (gB G + 407)) rfl dX4_readChoice_49 ?_
  refine go_iload_n K dX4_readChoice_52 1 rfl rfl ?_
  obtain ⟨C7, e7, h⟩ := bnd_e h
  refine go_cVV K (c_X6_leadHere l G sc_407 _ _ _ _ e7) cf_X6_leadHere cv_X6_leadHere km_X4_121 (rv_X6 sc_407) (Nat.lt_of_lt_of_le (by decide : 2 < 20) (by omega)) rfl rfl (Nat.le_of_ble_eq_true rfl) dX4_readChoice_53 ?_
  refine go_aload_n K dX4_readChoice_56 2 rfl rfl ?_
  refine go_iload_n K dX4_readChoice_57 3 rfl rfl ?_
  obtain ⟨C8, e8, h⟩ := bnd_e h
  refine go_cVV K (hrec0 _ _ _ e8) cf_X4_readSum cv_X4_readSum km_X4_76 rv_X4 (Nat.lt_succ_self _) rfl rfl (Nat.le_of_ble_eq_true rfl) dX4_readChoice_58 ?_
  refine go_aload_n K dX4_readChoice_61 2 rfl rfl ?_
  refine go_sipush (v := (159 : Int32)) K dX4_readChoice_62 (by decide) ?_
  obtain ⟨C9, e9, h⟩ := bnd_e h
  refine go_cVV K (c_X4_expect l G _ _ _ _ e9) cf_X4_expect cv_X4_expect km_X4_85 rv_X4 (Nat.lt_of_lt_of_le (by decide : 9 < 20) (by omega)) rfl rfl (Nat.le_of_ble_eq_true rfl) dX4_readChoice_65 ?_
  refine go_aload_n K dX4_readChoice_68 2 rfl rfl ?_
  refine gf_X4 K 0 (by decide) kf_X4_12 (v := .ref (gB G + 407)) rfl dX4_readChoice_69 ?_
  refine go_iload_n K dX4_readChoice_72 0 rfl rfl ?_
  obtain ⟨C10, e10, h⟩ := bnd_e h
  refine go_cVV K (c_X6_leadHere l G sc_407 _ _ _ _ e10) cf_X6_leadHere cv_X6_leadHere km_X4_121 (rv_X6 sc_407) (Nat.lt_of_lt_of_le (by decide : 2 < 20) (by omega)) rfl rfl (Nat.le_of_ble_eq_true rfl) dX4_readChoice_73 ?_
  exact go_vret K hr (congrArg (fun z => (z, O)) (Option.some.inj h)) dX4_readChoice_76
noncomputable def X4_readEither_l7 (rec : Nat → Int32 → CM → Option CM) : Nat → Int32 → Int32 → CM → Option CM
  | 0, _, _, _ => none
  | n + 1, v1, v2, C => (if (300 : Int32) ≤ v2 then (some C) else (if (f_X4_is (153 : Int32) C) = 0 then (some C) else (bnd (f_X8_next C) (fun C4 => (bnd (rec 6 v1 C4) (fun C5 => (bnd2 (f_X6_emit 407 (153 : Int32) (0 : Int32) C5) (fun r6 C6 => (X4_readEither_l7 rec n v1 (v2 + (1 : Int32)) C6)))))))))
noncomputable def f_X4_readEither (rec : Nat → Int32 → CM → Option CM) (v1 : Int32) (C : CM) : Option CM := (bnd (rec 6 v1 C) (fun C1 => (X4_readEither_l7 rec FU v1 (0 : Int32) C1)))
set_option maxHeartbeats 4000000 in
set_option maxRecDepth 100000 in
theorem c_X4_readEither_open (l : Launch) (G : GT) (O : OM) (hh : Nat) (hge : 20 ≤ hh) (rec : Nat → Int32 → CM → Option CM) (hrec0 : ∀ (d : Int32) (C C' : CM), rec 0 d C = some C' → MV l G yX4_readSum cX4_readSum 4 (Option.none : Option Jvm.ClassFile.FieldType) hh [.ref (gB G + 406), .int d] (C, O) (C', O)) (hrec1 : ∀ (d : Int32) (C C' : CM), rec 1 d C = some C' → MV l G yX4_readProduct cX4_readProduct 4 (Option.none : Option Jvm.ClassFile.FieldType) hh [.ref (gB G + 406), .int d] (C, O) (C', O)) (hrec2 : ∀ (d : Int32) (C C' : CM), rec 2 d C = some C' → MV l G yX4_readPart cX4_readPart 2 (Option.none : Option Jvm.ClassFile.FieldType) hh [.ref (gB G + 406), .int d] (C, O) (C', O)) (hrec3 : ∀ (d : Int32) (C C' : CM), rec 3 d C = some C' → MV l G yX4_readNested cX4_readNested 3 (Option.none : Option Jvm.ClassFile.FieldType) hh [.ref (gB G + 406), .int d] (C, O) (C', O)) (hrec4 : ∀ (d : Int32) (C C' : CM), rec 4 d C = some C' → MV l G yX4_readChoice cX4_readChoice 4 (Option.none : Option Jvm.ClassFile.FieldType) hh [.ref (gB G + 406), .int d] (C, O) (C', O)) (hrec5 : ∀ (d : Int32) (C C' : CM), rec 5 d C = some C' → MV l G yX4_readEither cX4_readEither 3 (Option.none : Option Jvm.ClassFile.FieldType) hh [.ref (gB G + 406), .int d] (C, O) (C', O)) (hrec6 : ∀ (d : Int32) (C C' : CM), rec 6 d C = some C' → MV l G yX4_readBoth cX4_readBoth 3 (Option.none : Option Jvm.ClassFile.FieldType) hh [.ref (gB G + 406), .int d] (C, O) (C', O)) (hrec7 : ∀ (d : Int32) (C C' : CM), rec 7 d C = some C' → MV l G yX4_readAsk cX4_readAsk 3 (Option.none : Option Jvm.ClassFile.FieldType) hh [.ref (gB G + 406), .int d] (C, O) (C', O)) (v1 : Int32) (C C' : CM) (h : f_X4_readEither rec v1 C = some C') : MV l G yX4_readEither cX4_readEither 3 (Option.none : Option Jvm.ClassFile.FieldType) (hh + 1) [.ref (gB G + 406), .int v1] (C, O) (C', O) := by
  unfold MV
  refine met_in RX4 (by decide +kernel) rfl [(0, .ref (gB G + 406)), (1, .int v1)] rfl (Nat.le_of_ble_eq_true rfl) ?_
  intro pM eM sM mM aM bM meM cM K hr
  have hl7 : ∀ (n7 : Nat) (v1 : Int32) (v2 : Int32) (C : CM), X4_readEither_l7 rec n7 v1 v2 C = some C' → GO pM l eM (hh + 1) sM mM aM bM meM cM (MQ bM (va_Qv (fun (u : CM × OM) => u = (C', O)) (wB G) (Fr G)) aM sM 0 0 (Fr G)) G 3 (C, O) 7 [(0, .ref (gB G + 406)), (1, .int v1), (2, .int v2)] [] := by
    intro n7
    induction n7 with
    | zero =>
      intro v1 v2 C h
      rw [X4_readEither_l7] at h
      cases h
    | succ n7 ih7 =>
      intro v1 v2 C h
      rw [X4_readEither_l7] at h
      refine go_iload_n K dX4_readEither_7 2 rfl rfl ?_
      refine go_sipush (v := (300 : Int32)) K dX4_readEither_8 (by decide) ?_
      refine go_icmp_ge (tgt := 54) K dX4_readEither_11 (by decide) (fun c2 => ?_) (fun c2 => ?_)
      · replace h := ite_t h c2
        exact go_vret K hr (congrArg (fun z => (z, O)) (Option.some.inj h)) dX4_readEither_54
      replace h := ite_f h c2
      refine go_aload_n K dX4_readEither_14 0 rfl rfl ?_
      refine go_sipush (v := (153 : Int32)) K dX4_readEither_15 (by decide) ?_
      refine go_cVI K (c_X4_is l G _ _ _ _ rfl) cf_X4_is cv_X4_is km_X4_37 rv_X4 (Nat.lt_of_lt_of_le (by decide : 1 < 20) (by omega)) rfl rfl (Nat.le_of_ble_eq_true rfl) dX4_readEither_18 ?_
      refine go_if_eq (tgt := 54) K dX4_readEither_21 (by decide) (fun c3 => ?_) (fun c3 => ?_)
      · replace h := ite_t h c3
        exact go_vret K hr (congrArg (fun z => (z, O)) (Option.some.inj h)) dX4_readEither_54
      replace h := ite_f h c3
      refine go_aload_n K dX4_readEither_24 0 rfl rfl ?_
      refine gf_X4 K 3 (by decide) kf_X4_25 (v := .ref (gB G + 404)) rfl dX4_readEither_25 ?_
      obtain ⟨C4, e4, h⟩ := bnd_e h
      refine go_cVV K (c_X8_next l G _ _ _ e4) cf_X8_next cv_X8_next km_X4_50 rv_X8 (Nat.lt_of_lt_of_le (by decide : 8 < 20) (by omega)) rfl rfl (Nat.le_of_ble_eq_true rfl) dX4_readEither_28 ?_
      refine go_aload_n K dX4_readEither_31 0 rfl rfl ?_
      refine go_iload_n K dX4_readEither_32 1 rfl rfl ?_
      obtain ⟨C5, e5, h⟩ := bnd_e h
      refine go_cVV K (hrec6 _ _ _ e5) cf_X4_readBoth cv_X4_readBoth km_X4_124 rv_X4 (Nat.lt_succ_self _) rfl rfl (Nat.le_of_ble_eq_true rfl) dX4_readEither_33 ?_
      refine go_aload_n K dX4_readEither_36 0 rfl rfl ?_
      refine gf_X4 K 0 (by decide) kf_X4_12 (v := .ref (gB G + 407)) rfl dX4_readEither_37 ?_
      refine go_sipush (v := (153 : Int32)) K dX4_readEither_40 (by decide) ?_
      refine go_iconst (v := (0 : Int32)) K dX4_readEither_43 (by decide) ?_
      obtain ⟨r6, C6, e6, h⟩ := bnd2_e h
      refine go_cVI K (c_X6_emit l G sc_407 _ _ _ _ _ _ e6) cf_X6_emit cv_X6_emit km_X4_102 (rv_X6 sc_407) (Nat.lt_of_lt_of_le (by decide : 2 < 20) (by omega)) rfl rfl (Nat.le_of_ble_eq_true rfl) dX4_readEither_44 ?_
      refine go_pop K dX4_readEither_47 rfl ?_
      refine go_iinc K dX4_readEither_48 2 rfl (v := (v2 + (1 : Int32))) rfl (by decide) (lv' := [(2, .int (v2 + (1 : Int32))), (0, .ref (gB G + 406)), (1, .int v1)]) rfl ?_
      refine go_goto (tgt := 7) K dX4_readEither_51 (by decide) ?_
      exact go_sub [1, 2, 0] rfl (ih7 _ _ _ h)
  rw [f_X4_readEither] at h
  refine go_aload_n K dX4_readEither_0 0 rfl rfl ?_
  refine go_iload_n K dX4_readEither_1 1 rfl rfl ?_
  obtain ⟨C1, e1, h⟩ := bnd_e h
  refine go_cVV K (hrec6 _ _ _ e1) cf_X4_readBoth cv_X4_readBoth km_X4_124 rv_X4 (Nat.lt_succ_self _) rfl rfl (Nat.le_of_ble_eq_true rfl) dX4_readEither_2 ?_
  refine go_iconst (v := (0 : Int32)) K dX4_readEither_5 (by decide) ?_
  refine go_istore_n K dX4_readEither_6 rfl (by decide) (lv' := [(2, .int (0 : Int32)), (0, .ref (gB G + 406)), (1, .int v1)]) rfl ?_
  exact go_sub [1, 2, 0] rfl (hl7 FU _ _ _ h)
noncomputable def X4_readBoth_l7 (rec : Nat → Int32 → CM → Option CM) : Nat → Int32 → Int32 → CM → Option CM
  | 0, _, _, _ => none
  | n + 1, v1, v2, C => (if (300 : Int32) ≤ v2 then (some C) else (if (f_X4_is (152 : Int32) C) = 0 then (some C) else (bnd (f_X8_next C) (fun C4 => (bnd (rec 7 v1 C4) (fun C5 => (bnd2 (f_X6_emit 407 (152 : Int32) (0 : Int32) C5) (fun r6 C6 => (X4_readBoth_l7 rec n v1 (v2 + (1 : Int32)) C6)))))))))
noncomputable def f_X4_readBoth (rec : Nat → Int32 → CM → Option CM) (v1 : Int32) (C : CM) : Option CM := (bnd (rec 7 v1 C) (fun C1 => (X4_readBoth_l7 rec FU v1 (0 : Int32) C1)))
set_option maxHeartbeats 4000000 in
set_option maxRecDepth 100000 in
theorem c_X4_readBoth_open (l : Launch) (G : GT) (O : OM) (hh : Nat) (hge : 20 ≤ hh) (rec : Nat → Int32 → CM → Option CM) (hrec0 : ∀ (d : Int32) (C C' : CM), rec 0 d C = some C' → MV l G yX4_readSum cX4_readSum 4 (Option.none : Option Jvm.ClassFile.FieldType) hh [.ref (gB G + 406), .int d] (C, O) (C', O)) (hrec1 : ∀ (d : Int32) (C C' : CM), rec 1 d C = some C' → MV l G yX4_readProduct cX4_readProduct 4 (Option.none : Option Jvm.ClassFile.FieldType) hh [.ref (gB G + 406), .int d] (C, O) (C', O)) (hrec2 : ∀ (d : Int32) (C C' : CM), rec 2 d C = some C' → MV l G yX4_readPart cX4_readPart 2 (Option.none : Option Jvm.ClassFile.FieldType) hh [.ref (gB G + 406), .int d] (C, O) (C', O)) (hrec3 : ∀ (d : Int32) (C C' : CM), rec 3 d C = some C' → MV l G yX4_readNested cX4_readNested 3 (Option.none : Option Jvm.ClassFile.FieldType) hh [.ref (gB G + 406), .int d] (C, O) (C', O)) (hrec4 : ∀ (d : Int32) (C C' : CM), rec 4 d C = some C' → MV l G yX4_readChoice cX4_readChoice 4 (Option.none : Option Jvm.ClassFile.FieldType) hh [.ref (gB G + 406), .int d] (C, O) (C', O)) (hrec5 : ∀ (d : Int32) (C C' : CM), rec 5 d C = some C' → MV l G yX4_readEither cX4_readEither 3 (Option.none : Option Jvm.ClassFile.FieldType) hh [.ref (gB G + 406), .int d] (C, O) (C', O)) (hrec6 : ∀ (d : Int32) (C C' : CM), rec 6 d C = some C' → MV l G yX4_readBoth cX4_readBoth 3 (Option.none : Option Jvm.ClassFile.FieldType) hh [.ref (gB G + 406), .int d] (C, O) (C', O)) (hrec7 : ∀ (d : Int32) (C C' : CM), rec 7 d C = some C' → MV l G yX4_readAsk cX4_readAsk 3 (Option.none : Option Jvm.ClassFile.FieldType) hh [.ref (gB G + 406), .int d] (C, O) (C', O)) (v1 : Int32) (C C' : CM) (h : f_X4_readBoth rec v1 C = some C') : MV l G yX4_readBoth cX4_readBoth 3 (Option.none : Option Jvm.ClassFile.FieldType) (hh + 1) [.ref (gB G + 406), .int v1] (C, O) (C', O) := by
  unfold MV
  refine met_in RX4 (by decide +kernel) rfl [(0, .ref (gB G + 406)), (1, .int v1)] rfl (Nat.le_of_ble_eq_true rfl) ?_
  intro pM eM sM mM aM bM meM cM K hr
  have hl7 : ∀ (n7 : Nat) (v1 : Int32) (v2 : Int32) (C : CM), X4_readBoth_l7 rec n7 v1 v2 C = some C' → GO pM l eM (hh + 1) sM mM aM bM meM cM (MQ bM (va_Qv (fun (u : CM × OM) => u = (C', O)) (wB G) (Fr G)) aM sM 0 0 (Fr G)) G 3 (C, O) 7 [(0, .ref (gB G + 406)), (1, .int v1), (2, .int v2)] [] := by
    intro n7
    induction n7 with
    | zero =>
      intro v1 v2 C h
      rw [X4_readBoth_l7] at h
      cases h
    | succ n7 ih7 =>
      intro v1 v2 C h
      rw [X4_readBoth_l7] at h
      refine go_iload_n K dX4_readBoth_7 2 rfl rfl ?_
      refine go_sipush (v := (300 : Int32)) K dX4_readBoth_8 (by decide) ?_
      refine go_icmp_ge (tgt := 54) K dX4_readBoth_11 (by decide) (fun c2 => ?_) (fun c2 => ?_)
      · replace h := ite_t h c2
        exact go_vret K hr (congrArg (fun z => (z, O)) (Option.some.inj h)) dX4_readBoth_54
      replace h := ite_f h c2
      refine go_aload_n K dX4_readBoth_14 0 rfl rfl ?_
      refine go_sipush (v := (152 : Int32)) K dX4_readBoth_15 (by decide) ?_
      refine go_cVI K (c_X4_is l G _ _ _ _ rfl) cf_X4_is cv_X4_is km_X4_37 rv_X4 (Nat.lt_of_lt_of_le (by decide : 1 < 20) (by omega)) rfl rfl (Nat.le_of_ble_eq_true rfl) dX4_readBoth_18 ?_
      refine go_if_eq (tgt := 54) K dX4_readBoth_21 (by decide) (fun c3 => ?_) (fun c3 => ?_)
      · replace h := ite_t h c3
        exact go_vret K hr (congrArg (fun z => (z, O)) (Option.some.inj h)) dX4_readBoth_54
      replace h := ite_f h c3
      refine go_aload_n K dX4_readBoth_24 0 rfl rfl ?_
      refine gf_X4 K 3 (by decide) kf_X4_25 (v := .ref (gB G + 404)) rfl dX4_readBoth_25 ?_
      obtain ⟨C4, e4, h⟩ := bnd_e h
      refine go_cVV K (c_X8_next l G _ _ _ e4) cf_X8_next cv_X8_next km_X4_50 rv_X8 (Nat.lt_of_lt_of_le (by decide : 8 < 20) (by omega)) rfl rfl (Nat.le_of_ble_eq_true rfl) dX4_readBoth_28 ?_
      refine go_aload_n K dX4_readBoth_31 0 rfl rfl ?_
      refine go_iload_n K dX4_readBoth_32 1 rfl rfl ?_
      obtain ⟨C5, e5, h⟩ := bnd_e h
      refine go_cVV K (hrec7 _ _ _ e5) cf_X4_readAsk cv_X4_readAsk km_X4_127 rv_X4 (Nat.lt_succ_self _) rfl rfl (Nat.le_of_ble_eq_true rfl) dX4_readBoth_33 ?_
      refine go_aload_n K dX4_readBoth_36 0 rfl rfl ?_
      refine gf_X4 K 0 (by decide) kf_X4_12 (v := .ref (gB G + 407)) rfl dX4_readBoth_37 ?_
      refine go_sipush (v := (152 : Int32)) K dX4_readBoth_40 (by decide) ?_
      refine go_iconst (v := (0 : Int32)) K dX4_readBoth_43 (by decide) ?_
      obtain ⟨r6, C6, e6, h⟩ := bnd2_e h
      refine go_cVI K (c_X6_emit l G sc_407 _ _ _ _ _ _ e6) cf_X6_emit cv_X6_emit km_X4_102 (rv_X6 sc_407) (Nat.lt_of_lt_of_le (by decide : 2 < 20) (by omega)) rfl rfl (Nat.le_of_ble_eq_true rfl) dX4_readBoth_44 ?_
      refine go_pop K dX4_readBoth_47 rfl ?_
      refine go_iinc K dX4_readBoth_48 2 rfl (v := (v2 + (1 : Int32))) rfl (by decide) (lv' := [(2, .int (v2 + (1 : Int32))), (0, .ref (gB G + 406)), (1, .int v1)]) rfl ?_
      refine go_goto (tgt := 7) K dX4_readBoth_51 (by decide) ?_
      exact go_sub [1, 2, 0] rfl (ih7 _ _ _ h)
  rw [f_X4_readBoth] at h
  refine go_aload_n K dX4_readBoth_0 0 rfl rfl ?_
  refine go_iload_n K dX4_readBoth_1 1 rfl rfl ?_
  obtain ⟨C1, e1, h⟩ := bnd_e h
  refine go_cVV K (hrec7 _ _ _ e1) cf_X4_readAsk cv_X4_readAsk km_X4_127 rv_X4 (Nat.lt_succ_self _) rfl rfl (Nat.le_of_ble_eq_true rfl) dX4_readBoth_2 ?_
  refine go_iconst (v := (0 : Int32)) K dX4_readBoth_5 (by decide) ?_
  refine go_istore_n K dX4_readBoth_6 rfl (by decide) (lv' := [(2, .int (0 : Int32)), (0, .ref (gB G + 406)), (1, .int v1)]) rfl ?_
  exact go_sub [1, 2, 0] rfl (hl7 FU _ _ _ h)
noncomputable def f_X4_isComparison (v0 : Int32) : Int32 := (if v0 = (4 : Int32) then (1 : Int32) else (if v0 = (5 : Int32) then (1 : Int32) else (if v0 = (35 : Int32) then (1 : Int32) else (if v0 = (60 : Int32) then (1 : Int32) else (if v0 = (61 : Int32) then (1 : Int32) else (if v0 = (62 : Int32) then (1 : Int32) else (0 : Int32)))))))
theorem cf_X4_isComparison : CF yX4_isComparison cX4_isComparison 1 (Option.some Jvm.ClassFile.FieldType.boolean) 1 := ⟨kc_X4_isComparison, kj_X4, ⟨by decide +kernel, by decide +kernel, by decide +kernel⟩, by decide⟩
set_option maxHeartbeats 4000000 in
set_option maxRecDepth 100000 in
theorem c_X4_isComparison (l : Launch) (G : GT) (v0 : Int32) (C : CM) (O : OM) (res : Int32) (h : f_X4_isComparison v0 = res) : MI l G yX4_isComparison cX4_isComparison 1 (Option.some Jvm.ClassFile.FieldType.boolean) (1) [.int v0] (C, O) res (C, O) := by
  unfold MI
  refine met_in RX4 (by decide +kernel) rfl [(0, .int v0)] rfl (Nat.le_of_ble_eq_true rfl) ?_
  intro pM eM sM mM aM bM meM cM K hr
  rw [f_X4_isComparison] at h
  refine go_iload_n K dX4_isComparison_0 0 rfl rfl ?_
  by_cases c1 : v0 = (4 : Int32)
  · refine go_lookup K dX4_isComparison_1 (by decide) (off := 59) (by rw [c1]; decide) (tgt := 60) (by decide) ?_
    replace h := ite_t h c1
    refine go_iconst (v := (1 : Int32)) K dX4_isComparison_60 (by decide) ?_
    exact go_zret K hr (by decide) h rfl dX4_isComparison_61
  replace h := ite_f h c1
  by_cases c2 : v0 = (5 : Int32)
  · refine go_lookup K dX4_isComparison_1 (by decide) (off := 59) (by rw [c2]; decide) (tgt := 60) (by decide) ?_
    replace h := ite_t h c2
    refine go_iconst (v := (1 : Int32)) K dX4_isComparison_60 (by decide) ?_
    exact go_zret K hr (by decide) h rfl dX4_isComparison_61
  replace h := ite_f h c2
  by_cases c3 : v0 = (35 : Int32)
  · refine go_lookup K dX4_isComparison_1 (by decide) (off := 59) (by rw [c3]; decide) (tgt := 60) (by decide) ?_
    replace h := ite_t h c3
    refine go_iconst (v := (1 : Int32)) K dX4_isComparison_60 (by decide) ?_
    exact go_zret K hr (by decide) h rfl dX4_isComparison_61
  replace h := ite_f h c3
  by_cases c4 : v0 = (60 : Int32)
  · refine go_lookup K dX4_isComparison_1 (by decide) (off := 59) (by rw [c4]; decide) (tgt := 60) (by decide) ?_
    replace h := ite_t h c4
    refine go_iconst (v := (1 : Int32)) K dX4_isComparison_60 (by decide) ?_
    exact go_zret K hr (by decide) h rfl dX4_isComparison_61
  replace h := ite_f h c4
  by_cases c5 : v0 = (61 : Int32)
  · refine go_lookup K dX4_isComparison_1 (by decide) (off := 59) (by rw [c5]; decide) (tgt := 60) (by decide) ?_
    replace h := ite_t h c5
    refine go_iconst (v := (1 : Int32)) K dX4_isComparison_60 (by decide) ?_
    exact go_zret K hr (by decide) h rfl dX4_isComparison_61
  replace h := ite_f h c5
  by_cases c6 : v0 = (62 : Int32)
  · refine go_lookup K dX4_isComparison_1 (by decide) (off := 59) (by rw [c6]; decide) (tgt := 60) (by decide) ?_
    replace h := ite_t h c6
    refine go_iconst (v := (1 : Int32)) K dX4_isComparison_60 (by decide) ?_
    exact go_zret K hr (by decide) h rfl dX4_isComparison_61
  replace h := ite_f h c6
  have c1 := sw_ne c1 (k := 4) (by decide)
  have c2 := sw_ne c2 (k := 5) (by decide)
  have c3 := sw_ne c3 (k := 35) (by decide)
  have c4 := sw_ne c4 (k := 60) (by decide)
  have c5 := sw_ne c5 (k := 61) (by decide)
  have c6 := sw_ne c6 (k := 62) (by decide)
  refine go_lookup K dX4_isComparison_1 (by decide) (off := 61) (show Op.lookupswitch.offset [(4, 59), (5, 59), (35, 59), (60, 59), (61, 59), (62, 59)] (61) (v0).toInt = 61 from by simp only [Op.lookupswitch.offset_cons, Op.lookupswitch.offset_nil]; rw [if_neg (fun q => c1 q.symm), if_neg (fun q => c2 q.symm), if_neg (fun q => c3 q.symm), if_neg (fun q => c4 q.symm), if_neg (fun q => c5 q.symm), if_neg (fun q => c6 q.symm)]) (tgt := 62) (by decide) ?_
  refine go_iconst (v := (0 : Int32)) K dX4_isComparison_62 (by decide) ?_
  exact go_zret K hr (by decide) h rfl dX4_isComparison_63
noncomputable def X4_readAsk_j24 (rec : Nat → Int32 → CM → Option CM) (v1 : Int32) (C : CM) : Option CM := (if (f_X4_is (154 : Int32) C) = 0 then (bnd (rec 0 v1 C) (fun C3 => (if (f_X4_isComparison (C3 404 2)) = 0 then (bnd (f_X4_fail (1 : Int32) C3) (fun C9 => (some C9))) else (if (C3 406 1) = 0 then (bnd (f_X8_next C3) (fun C6 => (bnd (rec 0 v1 C6) (fun C7 => (bnd2 (f_X6_emit 407 (C3 404 2) (0 : Int32) C7) (fun r8 C8 => (some C8))))))) else (some C3))))) else (bnd (f_X8_next C) (fun C10 => (bnd (rec 7 (v1 + (1 : Int32)) C10) (fun C11 => (bnd2 (f_X6_emit 407 (154 : Int32) (0 : Int32) C11) (fun r12 C12 => (some C12))))))))
noncomputable def f_X4_readAsk (rec : Nat → Int32 → CM → Option CM) (v1 : Int32) (C : CM) : Option CM := (if (f_X4_is (154 : Int32) C) = 0 then (X4_readAsk_j24 rec v1 C) else (if v1 < (8 : Int32) then (X4_readAsk_j24 rec v1 C) else (bnd (f_X4_fail (3 : Int32) C) (fun C14 => (some C14)))))
set_option maxHeartbeats 4000000 in
set_option maxRecDepth 100000 in
theorem c_X4_readAsk_open (l : Launch) (G : GT) (O : OM) (hh : Nat) (hge : 20 ≤ hh) (rec : Nat → Int32 → CM → Option CM) (hrec0 : ∀ (d : Int32) (C C' : CM), rec 0 d C = some C' → MV l G yX4_readSum cX4_readSum 4 (Option.none : Option Jvm.ClassFile.FieldType) hh [.ref (gB G + 406), .int d] (C, O) (C', O)) (hrec1 : ∀ (d : Int32) (C C' : CM), rec 1 d C = some C' → MV l G yX4_readProduct cX4_readProduct 4 (Option.none : Option Jvm.ClassFile.FieldType) hh [.ref (gB G + 406), .int d] (C, O) (C', O)) (hrec2 : ∀ (d : Int32) (C C' : CM), rec 2 d C = some C' → MV l G yX4_readPart cX4_readPart 2 (Option.none : Option Jvm.ClassFile.FieldType) hh [.ref (gB G + 406), .int d] (C, O) (C', O)) (hrec3 : ∀ (d : Int32) (C C' : CM), rec 3 d C = some C' → MV l G yX4_readNested cX4_readNested 3 (Option.none : Option Jvm.ClassFile.FieldType) hh [.ref (gB G + 406), .int d] (C, O) (C', O)) (hrec4 : ∀ (d : Int32) (C C' : CM), rec 4 d C = some C' → MV l G yX4_readChoice cX4_readChoice 4 (Option.none : Option Jvm.ClassFile.FieldType) hh [.ref (gB G + 406), .int d] (C, O) (C', O)) (hrec5 : ∀ (d : Int32) (C C' : CM), rec 5 d C = some C' → MV l G yX4_readEither cX4_readEither 3 (Option.none : Option Jvm.ClassFile.FieldType) hh [.ref (gB G + 406), .int d] (C, O) (C', O)) (hrec6 : ∀ (d : Int32) (C C' : CM), rec 6 d C = some C' → MV l G yX4_readBoth cX4_readBoth 3 (Option.none : Option Jvm.ClassFile.FieldType) hh [.ref (gB G + 406), .int d] (C, O) (C', O)) (hrec7 : ∀ (d : Int32) (C C' : CM), rec 7 d C = some C' → MV l G yX4_readAsk cX4_readAsk 3 (Option.none : Option Jvm.ClassFile.FieldType) hh [.ref (gB G + 406), .int d] (C, O) (C', O)) (v1 : Int32) (C C' : CM) (h : f_X4_readAsk rec v1 C = some C') : MV l G yX4_readAsk cX4_readAsk 3 (Option.none : Option Jvm.ClassFile.FieldType) (hh + 1) [.ref (gB G + 406), .int v1] (C, O) (C', O) := by
  unfold MV
  refine met_in RX4 (by decide +kernel) rfl [(0, .ref (gB G + 406)), (1, .int v1)] rfl (Nat.le_of_ble_eq_true rfl) ?_
  intro pM eM sM mM aM bM meM cM K hr
  have hj24 : ∀ (v1 : Int32) (C : CM), X4_readAsk_j24 rec v1 C = some C' → GO pM l eM (hh + 1) sM mM aM bM meM cM (MQ bM (va_Qv (fun (u : CM × OM) => u = (C', O)) (wB G) (Fr G)) aM sM 0 0 (Fr G)) G 3 (C, O) 24 [(0, .ref (gB G + 406)), (1, .int v1)] [] := by
    intro v1 C h
    rw [X4_readAsk_j24] at h
    refine go_aload_n K dX4_readAsk_24 0 rfl rfl ?_
    refine go_sipush (v := (154 : Int32)) K dX4_readAsk_25 (by decide) ?_
    refine go_cVI K (c_X4_is l G _ _ _ _ rfl) cf_X4_is cv_X4_is km_X4_37 rv_X4 (Nat.lt_of_lt_of_le (by decide : 1 < 20) (by omega)) rfl rfl (Nat.le_of_ble_eq_true rfl) dX4_readAsk_28 ?_
    refine go_if_eq (tgt := 63) K dX4_readAsk_31 (by decide) (fun c2 => ?_) (fun c2 => ?_)
    rotate_left
    · replace h := ite_f h c2
      refine go_aload_n K dX4_readAsk_34 0 rfl rfl ?_
      refine gf_X4 K 3 (by decide) kf_X4_25 (v := .ref (gB G + 404)) rfl dX4_readAsk_35 ?_
      obtain ⟨C10, e10, h⟩ := bnd_e h
      refine go_cVV K (c_X8_next l G _ _ _ e10) cf_X8_next cv_X8_next km_X4_50 rv_X8 (Nat.lt_of_lt_of_le (by decide : 8 < 20) (by omega)) rfl rfl (Nat.le_of_ble_eq_true rfl) dX4_readAsk_38 ?_
      refine go_aload_n K dX4_readAsk_41 0 rfl rfl ?_
      refine go_iload_n K dX4_readAsk_42 1 rfl rfl ?_
      refine go_iconst (v := (1 : Int32)) K dX4_readAsk_43 (by decide) ?_
      refine go_iadd K dX4_readAsk_44 ?_
      obtain ⟨C11, e11, h⟩ := bnd_e h
      refine go_cVV K (hrec7 _ _ _ e11) cf_X4_readAsk cv_X4_readAsk km_X4_127 rv_X4 (Nat.lt_succ_self _) rfl rfl (Nat.le_of_ble_eq_true rfl) dX4_readAsk_45 ?_
      refine go_aload_n K dX4_readAsk_48 0 rfl rfl ?_
      refine gf_X4 K 0 (by decide) kf_X4_12 (v := .ref (gB G + 407)) rfl dX4_readAsk_49 ?_
      refine go_sipush (v := (154 : Int32)) K dX4_readAsk_52 (by decide) ?_
      refine go_iconst (v := (0 : Int32)) K dX4_readAsk_55 (by decide) ?_
      obtain ⟨r12, C12, e12, h⟩ := bnd2_e h
      refine go_cVI K (c_X6_emit l G sc_407 _ _ _ _ _ _ e12) cf_X6_emit cv_X6_emit km_X4_102 (rv_X6 sc_407) (Nat.lt_of_lt_of_le (by decide : 2 < 20) (by omega)) rfl rfl (Nat.le_of_ble_eq_true rfl) dX4_readAsk_56 ?_
      refine go_pop K dX4_readAsk_59 rfl ?_
      refine go_goto (tgt := 120) K dX4_readAsk_60 (by decide) ?_
      exact go_vret K hr (congrArg (fun z => (z, O)) (Option.some.inj h)) dX4_readAsk_120
    replace h := ite_t h c2
    refine go_aload_n K dX4_readAsk_63 0 rfl rfl ?_
    refine go_iload_n K dX4_readAsk_64 1 rfl rfl ?_
    obtain ⟨C3, e3, h⟩ := bnd_e h
    refine go_cVV K (hrec0 _ _ _ e3) cf_X4_readSum cv_X4_readSum km_X4_76 rv_X4 (Nat.lt_succ_self _) rfl rfl (Nat.le_of_ble_eq_true rfl) dX4_readAsk_65 ?_
    refine go_aload_n K dX4_readAsk_68 0 rfl rfl ?_
    refine gf_X4 K 3 (by decide) kf_X4_25 (v := .ref (gB G + 404)) rfl dX4_readAsk_69 ?_
    refine gf_X8 K 2 (by decide) kf_X4_44 (v := .int (C3 404 2)) rfl dX4_readAsk_72 ?_
    refine go_istore_n K dX4_readAsk_75 rfl (by decide) (lv' := [(2, .int (C3 404 2)), (0, .ref (gB G + 406)), (1, .int v1)]) rfl ?_
    refine go_iload_n K dX4_readAsk_76 0 rfl rfl ?_
    refine go_cSI K (c_X4_isComparison l G _ _ _ _ rfl) cf_X4_isComparison kt_X4_isComparison km_X4_130 (Nat.lt_of_lt_of_le (by decide : 1 < 20) (by omega)) rfl rfl (Nat.le_of_ble_eq_true rfl) dX4_readAsk_77 ?_
    refine go_if_ne (tgt := 91) K dX4_readAsk_80 (by decide) (fun c4 => ?_) (fun c4 => ?_)
    rotate_left
    · replace h := ite_t h c4
      refine go_aload_n K dX4_readAsk_83 1 rfl rfl ?_
      refine go_iconst (v := (1 : Int32)) K dX4_readAsk_84 (by decide) ?_
      obtain ⟨C9, e9, h⟩ := bnd_e h
      refine go_cVV K (c_X4_fail l G _ _ _ _ e9) cf_X4_fail cv_X4_fail km_X4_53 rv_X4 (Nat.lt_of_lt_of_le (by decide : 1 < 20) (by omega)) rfl rfl (Nat.le_of_ble_eq_true rfl) dX4_readAsk_85 ?_
      refine go_goto (tgt := 120) K dX4_readAsk_88 (by decide) ?_
      exact go_vret K hr (congrArg (fun z => (z, O)) (Option.some.inj h)) dX4_readAsk_120
    replace h := ite_f h c4
    refine go_aload_n K dX4_readAsk_91 1 rfl rfl ?_
    refine gf_X4 K 1 (by decide) kf_X4_18 (v := .int (C3 406 1)) rfl dX4_readAsk_92 ?_
    refine go_if_ne (tgt := 120) K dX4_readAsk_95 (by decide) (fun c5 => ?_) (fun c5 => ?_)
    · replace h := ite_f h c5
      exact go_vret K hr (congrArg (fun z => (z, O)) (Option.some.inj h)) dX4_readAsk_120
    replace h := ite_t h c5
    refine go_aload_n K dX4_readAsk_98 1 rfl rfl ?_
    refine gf_X4 K 3 (by decide) kf_X4_25 (v := .ref (gB G + 404)) rfl dX4_readAsk_99 ?_
    obtain ⟨C6, e6, h⟩ := bnd_e h
    refine go_cVV K (c_X8_next l G _ _ _ e6) cf_X8_next cv_X8_next km_X4_50 rv_X8 (Nat.lt_of_lt_of_le (by decide : 8 < 20) (by omega)) rfl rfl (Nat.le_of_ble_eq_true rfl) dX4_readAsk_102 ?_
    refine go_aload_n K dX4_readAsk_105 1 rfl rfl ?_
    refine go_iload_n K dX4_readAsk_106 2 rfl rfl ?_
    obtain ⟨C7, e7, h⟩ := bnd_e h
    refine go_cVV K (hrec0 _ _ _ e7) cf_X4_readSum cv_X4_readSum km_X4_76 rv_X4 (Nat.lt_succ_self _) rfl rfl (Nat.le_of_ble_eq_true rfl) dX4_readAsk_107 ?_
    refine go_aload_n K dX4_readAsk_110 1 rfl rfl ?_
    refine gf_X4 K 0 (by decide) kf_X4_12 (v := .ref (gB G + 407)) rfl dX4_readAsk_111 ?_
    refine go_iload_n K dX4_readAsk_114 0 rfl rfl ?_
    refine go_iconst (v := (0 : Int32)) K dX4_readAsk_115 (by decide) ?_
    obtain ⟨r8, C8, e8, h⟩ := bnd2_e h
    refine go_cVI K (c_X6_emit l G sc_407 _ _ _ _ _ _ e8) cf_X6_emit cv_X6_emit km_X4_102 (rv_X6 sc_407) (Nat.lt_of_lt_of_le (by decide : 2 < 20) (by omega)) rfl rfl (Nat.le_of_ble_eq_true rfl) dX4_readAsk_116 ?_
    refine go_pop K dX4_readAsk_119 rfl ?_
    exact go_vret K hr (congrArg (fun z => (z, O)) (Option.some.inj h)) dX4_readAsk_120
  rw [f_X4_readAsk] at h
  refine go_aload_n K dX4_readAsk_0 0 rfl rfl ?_
  refine go_sipush (v := (154 : Int32)) K dX4_readAsk_1 (by decide) ?_
  refine go_cVI K (c_X4_is l G _ _ _ _ rfl) cf_X4_is cv_X4_is km_X4_37 rv_X4 (Nat.lt_of_lt_of_le (by decide : 1 < 20) (by omega)) rfl rfl (Nat.le_of_ble_eq_true rfl) dX4_readAsk_4 ?_
  refine go_if_eq (tgt := 24) K dX4_readAsk_7 (by decide) (fun c1 => ?_) (fun c1 => ?_)
  · replace h := ite_t h c1
    exact hj24 _ _ h
  replace h := ite_f h c1
  refine go_iload_n K dX4_readAsk_10 1 rfl rfl ?_
  refine go_bipush (v := (8 : Int32)) K dX4_readAsk_11 (by decide) ?_
  refine go_icmp_lt (tgt := 24) K dX4_readAsk_13 (by decide) (fun c13 => ?_) (fun c13 => ?_)
  · replace h := ite_t h c13
    exact hj24 _ _ h
  replace h := ite_f h c13
  refine go_aload_n K dX4_readAsk_16 0 rfl rfl ?_
  refine go_iconst (v := (3 : Int32)) K dX4_readAsk_17 (by decide) ?_
  obtain ⟨C14, e14, h⟩ := bnd_e h
  refine go_cVV K (c_X4_fail l G _ _ _ _ e14) cf_X4_fail cv_X4_fail km_X4_53 rv_X4 (Nat.lt_of_lt_of_le (by decide : 1 < 20) (by omega)) rfl rfl (Nat.le_of_ble_eq_true rfl) dX4_readAsk_18 ?_
  refine go_goto (tgt := 120) K dX4_readAsk_21 (by decide) ?_
  exact go_vret K hr (congrArg (fun z => (z, O)) (Option.some.inj h)) dX4_readAsk_120
noncomputable def RDf : Nat → Nat → Int32 → CM → Option CM
  | 0, _, _, _ => none
  | n + 1, k, d, C => match k with
    | 0 => f_X4_readSum (RDf n) d C
    | 1 => f_X4_readProduct (RDf n) d C
    | 2 => f_X4_readPart (RDf n) d C
    | 3 => f_X4_readNested (RDf n) d C
    | 4 => f_X4_readChoice (RDf n) d C
    | 5 => f_X4_readEither (RDf n) d C
    | 6 => f_X4_readBoth (RDf n) d C
    | _ => f_X4_readAsk (RDf n) d C
set_option maxHeartbeats 4000000 in
theorem c_rec (l : Launch) (G : GT) (O : OM) : ∀ n : Nat, (∀ (d : Int32) (C C' : CM), RDf n 0 d C = some C' → MV l G yX4_readSum cX4_readSum 4 (Option.none : Option Jvm.ClassFile.FieldType) (20 + n) [.ref (gB G + 406), .int d] (C, O) (C', O)) ∧ (∀ (d : Int32) (C C' : CM), RDf n 1 d C = some C' → MV l G yX4_readProduct cX4_readProduct 4 (Option.none : Option Jvm.ClassFile.FieldType) (20 + n) [.ref (gB G + 406), .int d] (C, O) (C', O)) ∧ (∀ (d : Int32) (C C' : CM), RDf n 2 d C = some C' → MV l G yX4_readPart cX4_readPart 2 (Option.none : Option Jvm.ClassFile.FieldType) (20 + n) [.ref (gB G + 406), .int d] (C, O) (C', O)) ∧ (∀ (d : Int32) (C C' : CM), RDf n 3 d C = some C' → MV l G yX4_readNested cX4_readNested 3 (Option.none : Option Jvm.ClassFile.FieldType) (20 + n) [.ref (gB G + 406), .int d] (C, O) (C', O)) ∧ (∀ (d : Int32) (C C' : CM), RDf n 4 d C = some C' → MV l G yX4_readChoice cX4_readChoice 4 (Option.none : Option Jvm.ClassFile.FieldType) (20 + n) [.ref (gB G + 406), .int d] (C, O) (C', O)) ∧ (∀ (d : Int32) (C C' : CM), RDf n 5 d C = some C' → MV l G yX4_readEither cX4_readEither 3 (Option.none : Option Jvm.ClassFile.FieldType) (20 + n) [.ref (gB G + 406), .int d] (C, O) (C', O)) ∧ (∀ (d : Int32) (C C' : CM), RDf n 6 d C = some C' → MV l G yX4_readBoth cX4_readBoth 3 (Option.none : Option Jvm.ClassFile.FieldType) (20 + n) [.ref (gB G + 406), .int d] (C, O) (C', O)) ∧ (∀ (d : Int32) (C C' : CM), RDf n 7 d C = some C' → MV l G yX4_readAsk cX4_readAsk 3 (Option.none : Option Jvm.ClassFile.FieldType) (20 + n) [.ref (gB G + 406), .int d] (C, O) (C', O)) := by
  intro n
  induction n with
  | zero => exact ⟨fun d C C' h => (by rw [RDf] at h; cases h), fun d C C' h => (by rw [RDf] at h; cases h), fun d C C' h => (by rw [RDf] at h; cases h), fun d C C' h => (by rw [RDf] at h; cases h), fun d C C' h => (by rw [RDf] at h; cases h), fun d C C' h => (by rw [RDf] at h; cases h), fun d C C' h => (by rw [RDf] at h; cases h), fun d C C' h => (by rw [RDf] at h; cases h)⟩
  | succ n ih =>
    obtain ⟨i0, i1, i2, i3, i4, i5, i6, i7⟩ := ih
    exact ⟨fun d C C' h => c_X4_readSum_open l G O (20 + n) (by omega) (RDf n) i0 i1 i2 i3 i4 i5 i6 i7 d C C' h, fun d C C' h => c_X4_readProduct_open l G O (20 + n) (by omega) (RDf n) i0 i1 i2 i3 i4 i5 i6 i7 d C C' h, fun d C C' h => c_X4_readPart_open l G O (20 + n) (by omega) (RDf n) i0 i1 i2 i3 i4 i5 i6 i7 d C C' h, fun d C C' h => c_X4_readNested_open l G O (20 + n) (by omega) (RDf n) i0 i1 i2 i3 i4 i5 i6 i7 d C C' h, fun d C C' h => c_X4_readChoice_open l G O (20 + n) (by omega) (RDf n) i0 i1 i2 i3 i4 i5 i6 i7 d C C' h, fun d C C' h => c_X4_readEither_open l G O (20 + n) (by omega) (RDf n) i0 i1 i2 i3 i4 i5 i6 i7 d C C' h, fun d C C' h => c_X4_readBoth_open l G O (20 + n) (by omega) (RDf n) i0 i1 i2 i3 i4 i5 i6 i7 d C C' h, fun d C C' h => c_X4_readAsk_open l G O (20 + n) (by omega) (RDf n) i0 i1 i2 i3 i4 i5 i6 i7 d C C' h⟩
theorem c_rec0 (l : Launch) (G : GT) (n : Nat) (d : Int32) (C : CM) (O : OM) (C' : CM) (h : RDf n 0 d C = some C') : MV l G yX4_readSum cX4_readSum 4 (Option.none : Option Jvm.ClassFile.FieldType) (20 + n) [.ref (gB G + 406), .int d] (C, O) (C', O) := (c_rec l G O n).1 d C C' h
theorem c_rec1 (l : Launch) (G : GT) (n : Nat) (d : Int32) (C : CM) (O : OM) (C' : CM) (h : RDf n 1 d C = some C') : MV l G yX4_readProduct cX4_readProduct 4 (Option.none : Option Jvm.ClassFile.FieldType) (20 + n) [.ref (gB G + 406), .int d] (C, O) (C', O) := (c_rec l G O n).2.1 d C C' h
theorem c_rec2 (l : Launch) (G : GT) (n : Nat) (d : Int32) (C : CM) (O : OM) (C' : CM) (h : RDf n 2 d C = some C') : MV l G yX4_readPart cX4_readPart 2 (Option.none : Option Jvm.ClassFile.FieldType) (20 + n) [.ref (gB G + 406), .int d] (C, O) (C', O) := (c_rec l G O n).2.2.1 d C C' h
theorem c_rec3 (l : Launch) (G : GT) (n : Nat) (d : Int32) (C : CM) (O : OM) (C' : CM) (h : RDf n 3 d C = some C') : MV l G yX4_readNested cX4_readNested 3 (Option.none : Option Jvm.ClassFile.FieldType) (20 + n) [.ref (gB G + 406), .int d] (C, O) (C', O) := (c_rec l G O n).2.2.2.1 d C C' h
theorem c_rec4 (l : Launch) (G : GT) (n : Nat) (d : Int32) (C : CM) (O : OM) (C' : CM) (h : RDf n 4 d C = some C') : MV l G yX4_readChoice cX4_readChoice 4 (Option.none : Option Jvm.ClassFile.FieldType) (20 + n) [.ref (gB G + 406), .int d] (C, O) (C', O) := (c_rec l G O n).2.2.2.2.1 d C C' h
theorem c_rec5 (l : Launch) (G : GT) (n : Nat) (d : Int32) (C : CM) (O : OM) (C' : CM) (h : RDf n 5 d C = some C') : MV l G yX4_readEither cX4_readEither 3 (Option.none : Option Jvm.ClassFile.FieldType) (20 + n) [.ref (gB G + 406), .int d] (C, O) (C', O) := (c_rec l G O n).2.2.2.2.2.1 d C C' h
theorem c_rec6 (l : Launch) (G : GT) (n : Nat) (d : Int32) (C : CM) (O : OM) (C' : CM) (h : RDf n 6 d C = some C') : MV l G yX4_readBoth cX4_readBoth 3 (Option.none : Option Jvm.ClassFile.FieldType) (20 + n) [.ref (gB G + 406), .int d] (C, O) (C', O) := (c_rec l G O n).2.2.2.2.2.2.1 d C C' h
theorem c_rec7 (l : Launch) (G : GT) (n : Nat) (d : Int32) (C : CM) (O : OM) (C' : CM) (h : RDf n 7 d C = some C') : MV l G yX4_readAsk cX4_readAsk 3 (Option.none : Option Jvm.ClassFile.FieldType) (20 + n) [.ref (gB G + 406), .int d] (C, O) (C', O) := (c_rec l G O n).2.2.2.2.2.2.2 d C C' h
noncomputable def X4_readClause_j124 (C : CM) : Option CM := (bnd (f_X4_expect (59 : Int32) C) (fun C8 => (some C8)))
noncomputable def X4_readClause_j55 (v1 : Int32) (C : CM) : Option CM := (if (C 407 6) < (24 : Int32) then (bnd (f_X6_begin 407 v1 C) (fun C4 => (bnd (f_X8_next C4) (fun C5 => (if (f_X11_isLaw v1) = 0 then (bnd (f_X4_readDeed v1 C5) (fun C7 => (X4_readClause_j124 C7))) else (bnd (RDf 100 0 (0 : Int32) (up2 C5 406 4 v1)) (fun C9 => (bnd (f_X6_endLaw 407 v1 C9) (fun C10 => (X4_readClause_j124 C10)))))))))) else (bnd (f_X4_fail (6 : Int32) C) (fun C11 => (some C11))))
noncomputable def f_X4_readClause (C : CM) : Option CM := (if (f_X11_within (C 404 2) (128 : Int32) (139 : Int32)) = 0 then (bnd (f_X4_fail (1 : Int32) C) (fun C15 => (some C15))) else (if (f_X11_isLaw (C 404 2)) = 0 then (X4_readClause_j55 (C 404 2) C) else (bnd (f_X6_has 407 (C 404 2) C) (fun r12 => (if r12 = 0 then (X4_readClause_j55 (C 404 2) C) else (bnd (f_X4_fail (4 : Int32) C) (fun C14 => (some C14))))))))
theorem cf_X4_readClause : CF yX4_readClause cX4_readClause 2 (Option.none : Option Jvm.ClassFile.FieldType) 0 := ⟨kc_X4_readClause, kj_X4, ⟨by decide +kernel, by decide +kernel, by decide +kernel⟩, by decide⟩
theorem cv_X4_readClause : CFv yX4_readClause := ⟨ki_X4_readClause, ks_X4_readClause⟩
set_option maxHeartbeats 4000000 in
set_option maxRecDepth 100000 in
theorem c_X4_readClause (l : Launch) (G : GT) (C : CM) (O : OM) (C' : CM) (h : f_X4_readClause C = some C') : MV l G yX4_readClause cX4_readClause 2 (Option.none : Option Jvm.ClassFile.FieldType) (201) [.ref (gB G + 406)] (C, O) (C', O) := by
  unfold MV
  refine met_in RX4 (by decide +kernel) rfl [(0, .ref (gB G + 406))] rfl (Nat.le_of_ble_eq_true rfl) ?_
  intro pM eM sM mM aM bM meM cM K hr
  have hj124 : ∀ (C : CM), X4_readClause_j124 C = some C' → GO pM l eM (201) sM mM aM bM meM cM (MQ bM (va_Qv (fun (u : CM × OM) => u = (C', O)) (wB G) (Fr G)) aM sM 0 0 (Fr G)) G 2 (C, O) 124 [(0, .ref (gB G + 406))] [] := by
    intro C h
    rw [X4_readClause_j124] at h
    refine go_aload_n K dX4_readClause_124 0 rfl rfl ?_
    refine go_bipush (v := (59 : Int32)) K dX4_readClause_125 (by decide) ?_
    obtain ⟨C8, e8, h⟩ := bnd_e h
    refine go_cVV K (c_X4_expect l G _ _ _ _ e8) cf_X4_expect cv_X4_expect km_X4_85 rv_X4 (by decide) rfl rfl (Nat.le_of_ble_eq_true rfl) dX4_readClause_127 ?_
    exact go_vret K hr (congrArg (fun z => (z, O)) (Option.some.inj h)) dX4_readClause_130
  have hj55 : ∀ (v1 : Int32) (C : CM), X4_readClause_j55 v1 C = some C' → GO pM l eM (201) sM mM aM bM meM cM (MQ bM (va_Qv (fun (u : CM × OM) => u = (C', O)) (wB G) (Fr G)) aM sM 0 0 (Fr G)) G 2 (C, O) 55 [(0, .ref (gB G + 406)), (1, .int v1)] [] := by
    intro v1 C h
    rw [X4_readClause_j55] at h
    refine go_aload_n K dX4_readClause_55 0 rfl rfl ?_
    refine gf_X4 K 0 (by decide) kf_X4_12 (v := .ref (gB G + 407)) rfl dX4_readClause_56 ?_
    refine gf_X6 K sc_407 6 (by decide) kf_X4_67 (v := .int (C 407 6)) rfl dX4_readClause_59 ?_
    refine go_bipush (v := (24 : Int32)) K dX4_readClause_62 (by decide) ?_
    refine go_icmp_lt (tgt := 76) K dX4_readClause_64 (by decide) (fun c3 => ?_) (fun c3 => ?_)
    rotate_left
    · replace h := ite_f h c3
      refine go_aload_n K dX4_readClause_67 0 rfl rfl ?_
      refine go_bipush (v := (6 : Int32)) K dX4_readClause_68 (by decide) ?_
      obtain ⟨C11, e11, h⟩ := bnd_e h
      refine go_cVV K (c_X4_fail l G _ _ _ _ e11) cf_X4_fail cv_X4_fail km_X4_53 rv_X4 (by decide) rfl rfl (Nat.le_of_ble_eq_true rfl) dX4_readClause_70 ?_
      refine go_goto (tgt := 130) K dX4_readClause_73 (by decide) ?_
      exact go_vret K hr (congrArg (fun z => (z, O)) (Option.some.inj h)) dX4_readClause_130
    replace h := ite_t h c3
    refine go_aload_n K dX4_readClause_76 0 rfl rfl ?_
    refine gf_X4 K 0 (by decide) kf_X4_12 (v := .ref (gB G + 407)) rfl dX4_readClause_77 ?_
    refine go_iload_n K dX4_readClause_80 1 rfl rfl ?_
    obtain ⟨C4, e4, h⟩ := bnd_e h
    refine go_cVV K (c_X6_begin l G sc_407 _ _ _ _ e4) cf_X6_begin cv_X6_begin km_X4_70 (rv_X6 sc_407) (by decide) rfl rfl (Nat.le_of_ble_eq_true rfl) dX4_readClause_81 ?_
    refine go_aload_n K dX4_readClause_84 0 rfl rfl ?_
    refine gf_X4 K 3 (by decide) kf_X4_25 (v := .ref (gB G + 404)) rfl dX4_readClause_85 ?_
    obtain ⟨C5, e5, h⟩ := bnd_e h
    refine go_cVV K (c_X8_next l G _ _ _ e5) cf_X8_next cv_X8_next km_X4_50 rv_X8 (by decide) rfl rfl (Nat.le_of_ble_eq_true rfl) dX4_readClause_88 ?_
    refine go_iload_n K dX4_readClause_91 1 rfl rfl ?_
    refine go_cNI K (c_X11_isLaw l G _ _ _ _ rfl) cf_X11_isLaw kt_X11_isLaw (List.mem_of_getElem? (i := 19) rfl) (by decide) rfl rfl (Nat.le_of_ble_eq_true rfl) dX4_readClause_92 ?_
    refine go_if_eq (tgt := 119) K dX4_readClause_95 (by decide) (fun c6 => ?_) (fun c6 => ?_)
    · replace h := ite_t h c6
      refine go_aload_n K dX4_readClause_119 0 rfl rfl ?_
      refine go_iload_n K dX4_readClause_120 1 rfl rfl ?_
      obtain ⟨C7, e7, h⟩ := bnd_e h
      refine go_cVV K (c_X4_readDeed l G _ _ _ _ e7) cf_X4_readDeed cv_X4_readDeed km_X4_82 rv_X4 (by decide) rfl rfl (Nat.le_of_ble_eq_true rfl) dX4_readClause_121 ?_
      exact go_sub [0] rfl (hj124 _ h)
    replace h := ite_f h c6
    refine go_aload_n K dX4_readClause_98 0 rfl rfl ?_
    refine go_iload_n K dX4_readClause_99 1 rfl rfl ?_
    refine pf_X4 K 4 (by decide) kf_X4_73 rfl rfl rfl dX4_readClause_100 ?_
    refine go_aload_n K dX4_readClause_103 0 rfl rfl ?_
    refine go_iconst (v := (0 : Int32)) K dX4_readClause_104 (by decide) ?_
    obtain ⟨C9, e9, h⟩ := bnd_e h
    refine go_cVV K (c_rec0 l G 100 _ _ O _ e9) cf_X4_readSum cv_X4_readSum km_X4_76 rv_X4 (by decide) rfl rfl (Nat.le_of_ble_eq_true rfl) dX4_readClause_105 ?_
    refine go_aload_n K dX4_readClause_108 0 rfl rfl ?_
    refine gf_X4 K 0 (by decide) kf_X4_12 (v := .ref (gB G + 407)) rfl dX4_readClause_109 ?_
    refine go_iload_n K dX4_readClause_112 1 rfl rfl ?_
    obtain ⟨C10, e10, h⟩ := bnd_e h
    refine go_cVV K (c_X6_endLaw l G sc_407 _ _ _ _ e10) cf_X6_endLaw cv_X6_endLaw km_X4_79 (rv_X6 sc_407) (by decide) rfl rfl (Nat.le_of_ble_eq_true rfl) dX4_readClause_113 ?_
    refine go_goto (tgt := 124) K dX4_readClause_116 (by decide) ?_
    exact go_sub [0] rfl (hj124 _ h)
  rw [f_X4_readClause] at h
  refine go_aload_n K dX4_readClause_0 0 rfl rfl ?_
  refine gf_X4 K 3 (by decide) kf_X4_25 (v := .ref (gB G + 404)) rfl dX4_readClause_1 ?_
  refine gf_X8 K 2 (by decide) kf_X4_44 (v := .int (C 404 2)) rfl dX4_readClause_4 ?_
  refine go_istore_n K dX4_readClause_7 rfl (by decide) (lv' := [(1, .int (C 404 2)), (0, .ref (gB G + 406))]) rfl ?_
  refine go_iload_n K dX4_readClause_8 0 rfl rfl ?_
  refine go_sipush (v := (128 : Int32)) K dX4_readClause_9 (by decide) ?_
  refine go_sipush (v := (139 : Int32)) K dX4_readClause_12 (by decide) ?_
  refine go_cNI K (c_X11_within l G _ _ _ _ _ _ rfl) cf_X11_within kt_X11_within (List.mem_of_getElem? (i := 18) rfl) (by decide) rfl rfl (Nat.le_of_ble_eq_true rfl) dX4_readClause_15 ?_
  refine go_if_ne (tgt := 29) K dX4_readClause_18 (by decide) (fun c1 => ?_) (fun c1 => ?_)
  rotate_left
  · replace h := ite_t h c1
    refine go_aload_n K dX4_readClause_21 1 rfl rfl ?_
    refine go_iconst (v := (1 : Int32)) K dX4_readClause_22 (by decide) ?_
    obtain ⟨C15, e15, h⟩ := bnd_e h
    refine go_cVV K (c_X4_fail l G _ _ _ _ e15) cf_X4_fail cv_X4_fail km_X4_53 rv_X4 (by decide) rfl rfl (Nat.le_of_ble_eq_true rfl) dX4_readClause_23 ?_
    refine go_goto (tgt := 130) K dX4_readClause_26 (by decide) ?_
    exact go_vret K hr (congrArg (fun z => (z, O)) (Option.some.inj h)) dX4_readClause_130
  replace h := ite_f h c1
  refine go_iload_n K dX4_readClause_29 0 rfl rfl ?_
  refine go_cNI K (c_X11_isLaw l G _ _ _ _ rfl) cf_X11_isLaw kt_X11_isLaw (List.mem_of_getElem? (i := 19) rfl) (by decide) rfl rfl (Nat.le_of_ble_eq_true rfl) dX4_readClause_30 ?_
  refine go_if_eq (tgt := 55) K dX4_readClause_33 (by decide) (fun c2 => ?_) (fun c2 => ?_)
  · replace h := ite_t h c2
    exact go_sub [1, 0] rfl (hj55 _ _ h)
  replace h := ite_f h c2
  refine go_aload_n K dX4_readClause_36 1 rfl rfl ?_
  refine gf_X4 K 0 (by decide) kf_X4_12 (v := .ref (gB G + 407)) rfl dX4_readClause_37 ?_
  refine go_iload_n K dX4_readClause_40 0 rfl rfl ?_
  obtain ⟨r12, e12, h⟩ := bnd_e h
  refine go_cVI K (c_X6_has l G sc_407 _ _ _ _ e12) cf_X6_has cv_X6_has km_X4_64 (rv_X6 sc_407) (by decide) rfl rfl (Nat.le_of_ble_eq_true rfl) dX4_readClause_41 ?_
  refine go_if_eq (tgt := 55) K dX4_readClause_44 (by decide) (fun c13 => ?_) (fun c13 => ?_)
  · replace h := ite_t h c13
    exact go_sub [1, 0] rfl (hj55 _ _ h)
  replace h := ite_f h c13
  refine go_aload_n K dX4_readClause_47 1 rfl rfl ?_
  refine go_iconst (v := (4 : Int32)) K dX4_readClause_48 (by decide) ?_
  obtain ⟨C14, e14, h⟩ := bnd_e h
  refine go_cVV K (c_X4_fail l G _ _ _ _ e14) cf_X4_fail cv_X4_fail km_X4_53 rv_X4 (by decide) rfl rfl (Nat.le_of_ble_eq_true rfl) dX4_readClause_49 ?_
  refine go_goto (tgt := 130) K dX4_readClause_52 (by decide) ?_
  exact go_vret K hr (congrArg (fun z => (z, O)) (Option.some.inj h)) dX4_readClause_130
noncomputable def X4_read_j57 (C : CM) : Option (Int32 × CM) := (if (C 406 1) = 0 then (some ((1 : Int32), C)) else (some ((0 : Int32), C)))
noncomputable def X4_read_l26 (k57 : CM → Option (Int32 × CM)) : Nat → Int32 → CM → Option (Int32 × CM)
  | 0, _, _ => none
  | n + 1, v1, C => (if (24 : Int32) < v1 then (k57 C) else (if (C 406 1) = 0 then (if (f_X4_is (1 : Int32) C) = 0 then (bnd (f_X4_readClause C) (fun C6 => (X4_read_l26 k57 n (v1 + (1 : Int32)) C6))) else (k57 C)) else (k57 C)))
noncomputable def f_X4_read (C : CM) : Option (Int32 × CM) := (bnd (f_X6_empty 407 (up2 (up2 C 406 1 (0 : Int32)) 406 2 (-1 : Int32))) (fun C1 => (bnd (f_X8_rewind C1) (fun C2 => (X4_read_l26 (fun C => (X4_read_j57 C)) FU (0 : Int32) C2)))))
theorem cf_X4_read : CF yX4_read cX4_read 2 (Option.some Jvm.ClassFile.FieldType.boolean) 0 := ⟨kc_X4_read, kj_X4, ⟨by decide +kernel, by decide +kernel, by decide +kernel⟩, by decide⟩
theorem cv_X4_read : CFv yX4_read := ⟨ki_X4_read, ks_X4_read⟩
set_option maxHeartbeats 4000000 in
set_option maxRecDepth 100000 in
theorem c_X4_read (l : Launch) (G : GT) (C : CM) (O : OM) (res : Int32) (C' : CM) (h : f_X4_read C = some (res, C')) : MI l G yX4_read cX4_read 2 (Option.some Jvm.ClassFile.FieldType.boolean) (202) [.ref (gB G + 406)] (C, O) res (C', O) := by
  unfold MI
  refine met_in RX4 (by decide +kernel) rfl [(0, .ref (gB G + 406))] rfl (Nat.le_of_ble_eq_true rfl) ?_
  intro pM eM sM mM aM bM meM cM K hr
  have hj57 : ∀ (C : CM), X4_read_j57 C = some (res, C') → GO pM l eM (202) sM mM aM bM meM cM (MQ bM (va_Qi (fun (r' : Int32) (u : CM × OM) => r' = res ∧ u = (C', O)) (wB G) (Fr G)) aM sM 0 0 (Fr G)) G 2 (C, O) 57 [(0, .ref (gB G + 406))] [] := by
    intro C h
    rw [X4_read_j57] at h
    refine go_aload_n K dX4_read_57 0 rfl rfl ?_
    refine gf_X4 K 1 (by decide) kf_X4_18 (v := .int (C 406 1)) rfl dX4_read_58 ?_
    refine go_if_ne (tgt := 68) K dX4_read_61 (by decide) (fun c7 => ?_) (fun c7 => ?_)
    · replace h := ite_f h c7
      refine go_iconst (v := (0 : Int32)) K dX4_read_68 (by decide) ?_
      exact go_zret K hr (by decide) (Prod.mk.inj (Option.some.inj h)).1 (congrArg (fun z => (z, O)) (Prod.mk.inj (Option.some.inj h)).2) dX4_read_69
    replace h := ite_t h c7
    refine go_iconst (v := (1 : Int32)) K dX4_read_64 (by decide) ?_
    refine go_goto (tgt := 69) K dX4_read_65 (by decide) ?_
    exact go_zret K hr (by decide) (Prod.mk.inj (Option.some.inj h)).1 (congrArg (fun z => (z, O)) (Prod.mk.inj (Option.some.inj h)).2) dX4_read_69
  have hl26 : ∀ (n26 : Nat) (v1 : Int32) (C : CM), X4_read_l26 (fun C => (X4_read_j57 C)) n26 v1 C = some (res, C') → GO pM l eM (202) sM mM aM bM meM cM (MQ bM (va_Qi (fun (r' : Int32) (u : CM × OM) => r' = res ∧ u = (C', O)) (wB G) (Fr G)) aM sM 0 0 (Fr G)) G 2 (C, O) 26 [(0, .ref (gB G + 406)), (1, .int v1)] [] := by
    intro n26
    induction n26 with
    | zero =>
      intro v1 C h
      rw [X4_read_l26] at h
      cases h
    | succ n26 ih26 =>
      intro v1 C h
      rw [X4_read_l26] at h
      refine go_iload_n K dX4_read_26 1 rfl rfl ?_
      refine go_bipush (v := (24 : Int32)) K dX4_read_27 (by decide) ?_
      refine go_icmp_gt (tgt := 57) K dX4_read_29 (by decide) (fun c3 => ?_) (fun c3 => ?_)
      · replace h := ite_t h c3
        exact go_sub [0] rfl (hj57 _ h)
      replace h := ite_f h c3
      refine go_aload_n K dX4_read_32 0 rfl rfl ?_
      refine gf_X4 K 1 (by decide) kf_X4_18 (v := .int (C 406 1)) rfl dX4_read_33 ?_
      refine go_if_ne (tgt := 57) K dX4_read_36 (by decide) (fun c4 => ?_) (fun c4 => ?_)
      · replace h := ite_f h c4
        exact go_sub [0] rfl (hj57 _ h)
      replace h := ite_t h c4
      refine go_aload_n K dX4_read_39 0 rfl rfl ?_
      refine go_iconst (v := (1 : Int32)) K dX4_read_40 (by decide) ?_
      refine go_cVI K (c_X4_is l G _ _ _ _ rfl) cf_X4_is cv_X4_is km_X4_37 rv_X4 (by decide) rfl rfl (Nat.le_of_ble_eq_true rfl) dX4_read_41 ?_
      refine go_if_ne (tgt := 57) K dX4_read_44 (by decide) (fun c5 => ?_) (fun c5 => ?_)
      · replace h := ite_f h c5
        exact go_sub [0] rfl (hj57 _ h)
      replace h := ite_t h c5
      refine go_aload_n K dX4_read_47 0 rfl rfl ?_
      obtain ⟨C6, e6, h⟩ := bnd_e h
      refine go_cVV K (c_X4_readClause l G _ _ _ e6) cf_X4_readClause cv_X4_readClause km_X4_41 rv_X4 (by decide) rfl rfl (Nat.le_of_ble_eq_true rfl) dX4_read_48 ?_
      refine go_iinc K dX4_read_51 1 rfl (v := (v1 + (1 : Int32))) rfl (by decide) (lv' := [(1, .int (v1 + (1 : Int32))), (0, .ref (gB G + 406))]) rfl ?_
      refine go_goto (tgt := 26) K dX4_read_54 (by decide) ?_
      exact go_sub [1, 0] rfl (ih26 _ _ h)
  rw [f_X4_read] at h
  refine go_aload_n K dX4_read_0 0 rfl rfl ?_
  refine go_iconst (v := (0 : Int32)) K dX4_read_1 (by decide) ?_
  refine pf_X4 K 1 (by decide) kf_X4_18 rfl rfl rfl dX4_read_2 ?_
  refine go_aload_n K dX4_read_5 0 rfl rfl ?_
  refine go_iconst (v := (-1 : Int32)) K dX4_read_6 (by decide) ?_
  refine pf_X4 K 2 (by decide) kf_X4_22 rfl rfl rfl dX4_read_7 ?_
  refine go_aload_n K dX4_read_10 0 rfl rfl ?_
  refine gf_X4 K 0 (by decide) kf_X4_12 (v := .ref (gB G + 407)) rfl dX4_read_11 ?_
  obtain ⟨C1, e1, h⟩ := bnd_e h
  refine go_cVV K (c_X6_empty l G sc_407 _ _ _ e1) cf_X6_empty cv_X6_empty km_X4_29 (rv_X6 sc_407) (by decide) rfl rfl (Nat.le_of_ble_eq_true rfl) dX4_read_14 ?_
  refine go_aload_n K dX4_read_17 0 rfl rfl ?_
  refine gf_X4 K 3 (by decide) kf_X4_25 (v := .ref (gB G + 404)) rfl dX4_read_18 ?_
  obtain ⟨C2, e2, h⟩ := bnd_e h
  refine go_cVV K (c_X8_rewind l G _ _ _ e2) cf_X8_rewind cv_X8_rewind km_X4_32 rv_X8 (by decide) rfl rfl (Nat.le_of_ble_eq_true rfl) dX4_read_21 ?_
  refine go_iconst (v := (0 : Int32)) K dX4_read_24 (by decide) ?_
  refine go_istore_n K dX4_read_25 rfl (by decide) (lv' := [(1, .int (0 : Int32)), (0, .ref (gB G + 406))]) rfl ?_
  exact go_sub [1, 0] rfl (hl26 FU _ _ h)
noncomputable def X11_person_j35 (v1 : Int32) (v2 : Int32) (v3 : Int32) (t0 : Int32) (C : CM) : Option (Int32 × CM) := (if t0 = 0 then (some ((-1 : Int32), C)) else (if (C 6 0) < (7 : Int32) then (bnd (f_X3_tell (C 6 0) v1 v2 v3 C) (fun C4 => (bnd (f_X7_enter 6 C4) (fun C5 => (some ((C 6 0), C5)))))) else (some ((-1 : Int32), C))))
noncomputable def X11_person_j34 (v1 : Int32) (v2 : Int32) (v3 : Int32) (C : CM) : Option (Int32 × CM) := (X11_person_j35 v1 v2 v3 (0 : Int32) C)
noncomputable def f_X11_person (v1 : Int32) (v2 : Int32) (v3 : Int32) (C : CM) : Option (Int32 × CM) := (if (f_X11_within v1 (0 : Int32) (99 : Int32)) = 0 then (X11_person_j34 v1 v2 v3 C) else (if (f_X11_within v2 (0 : Int32) (99 : Int32)) = 0 then (X11_person_j34 v1 v2 v3 C) else (if (f_X11_within v3 (0 : Int32) (7 : Int32)) = 0 then (X11_person_j34 v1 v2 v3 C) else (X11_person_j35 v1 v2 v3 (1 : Int32) C))))
theorem cf_X11_person : CF yX11_person cX11_person 6 (Option.some Jvm.ClassFile.FieldType.int) 3 := ⟨kc_X11_person, kj_X11, ⟨by decide +kernel, by decide +kernel, by decide +kernel⟩, by decide⟩
theorem cv_X11_person : CFv yX11_person := ⟨ki_X11_person, ks_X11_person⟩
set_option maxHeartbeats 4000000 in
set_option maxRecDepth 100000 in
theorem c_X11_person (l : Launch) (G : GT) (v1 : Int32) (v2 : Int32) (v3 : Int32) (C : CM) (O : OM) (res : Int32) (C' : CM) (h : f_X11_person v1 v2 v3 C = some (res, C')) : MI l G yX11_person cX11_person 6 (Option.some Jvm.ClassFile.FieldType.int) (4) [.ref (gB G + 0), .int v1, .int v2, .int v3] (C, O) res (C', O) := by
  unfold MI
  refine met_in RX11 (by decide +kernel) rfl [(0, .ref (gB G + 0)), (1, .int v1), (2, .int v2), (3, .int v3)] rfl (Nat.le_of_ble_eq_true rfl) ?_
  intro pM eM sM mM aM bM meM cM K hr
  have hj35 : ∀ (v1 : Int32) (v2 : Int32) (v3 : Int32) (t0 : Int32) (C : CM), X11_person_j35 v1 v2 v3 t0 C = some (res, C') → GO pM l eM (4) sM mM aM bM meM cM (MQ bM (va_Qi (fun (r' : Int32) (u : CM × OM) => r' = res ∧ u = (C', O)) (wB G) (Fr G)) aM sM 0 0 (Fr G)) G 6 (C, O) 35 [(0, .ref (gB G + 0)), (1, .int v1), (2, .int v2), (3, .int v3)] [.int t0] := by
    intro v1 v2 v3 t0 C h
    rw [X11_person_j35] at h
    refine go_istore K dX11_person_35 (by decide) (lv' := [(4, .int t0), (0, .ref (gB G + 0)), (1, .int v1), (2, .int v2), (3, .int v3)]) rfl ?_
    refine go_aload_n K dX11_person_37 1 rfl rfl ?_
    refine gf_X11 K 1 (by decide) kf_X11_19 (v := .ref (gB G + 5)) rfl dX11_person_38 ?_
    refine gf_X10 K wh_5 0 (by decide) kf_X11_39 (v := .ref (gB G + 6)) rfl dX11_person_41 ?_
    refine gf_X7 K st_6 0 (by decide) kf_X11_97 (v := .int (C 6 0)) rfl dX11_person_44 ?_
    refine go_istore K dX11_person_47 (by decide) (lv' := [(5, .int (C 6 0)), (4, .int t0), (0, .ref (gB G + 0)), (1, .int v1), (2, .int v2), (3, .int v3)]) rfl ?_
    refine go_iload K dX11_person_49 1 rfl ?_
    refine go_if_eq (tgt := 61) K dX11_person_51 (by decide) (fun c2 => ?_) (fun c2 => ?_)
    · replace h := ite_t h c2
      refine go_iconst (v := (-1 : Int32)) K dX11_person_61 (by decide) ?_
      exact go_iret K hr (Prod.mk.inj (Option.some.inj h)).1 (congrArg (fun z => (z, O)) (Prod.mk.inj (Option.some.inj h)).2) dX11_person_62
    replace h := ite_f h c2
    refine go_iload K dX11_person_54 0 rfl ?_
    refine go_bipush (v := (7 : Int32)) K dX11_person_56 (by decide) ?_
    refine go_icmp_lt (tgt := 63) K dX11_person_58 (by decide) (fun c3 => ?_) (fun c3 => ?_)
    rotate_left
    · replace h := ite_f h c3
      refine go_iconst (v := (-1 : Int32)) K dX11_person_61 (by decide) ?_
      exact go_iret K hr (Prod.mk.inj (Option.some.inj h)).1 (congrArg (fun z => (z, O)) (Prod.mk.inj (Option.some.inj h)).2) dX11_person_62
    replace h := ite_t h c3
    refine go_aload_n K dX11_person_63 2 rfl rfl ?_
    refine gf_X11 K 0 (by decide) kf_X11_10 (v := .ref (gB G + 1)) rfl dX11_person_64 ?_
    refine go_iload K dX11_person_67 0 rfl ?_
    refine go_iload_n K dX11_person_69 3 rfl rfl ?_
    refine go_iload_n K dX11_person_70 4 rfl rfl ?_
    refine go_iload_n K dX11_person_71 5 rfl rfl ?_
    obtain ⟨C4, e4, h⟩ := bnd_e h
    refine go_cVV K (c_X3_tell l G _ _ _ _ _ _ _ e4) cf_X3_tell cv_X3_tell km_X11_101 rv_X3 (by decide) rfl rfl (Nat.le_of_ble_eq_true rfl) dX11_person_72 ?_
    refine go_aload_n K dX11_person_75 2 rfl rfl ?_
    refine gf_X11 K 1 (by decide) kf_X11_19 (v := .ref (gB G + 5)) rfl dX11_person_76 ?_
    refine gf_X10 K wh_5 0 (by decide) kf_X11_39 (v := .ref (gB G + 6)) rfl dX11_person_79 ?_
    refine go_aload_n K dX11_person_82 2 rfl rfl ?_
    refine gf_X11 K 0 (by decide) kf_X11_10 (v := .ref (gB G + 1)) rfl dX11_person_83 ?_
    obtain ⟨C5, e5, h⟩ := bnd_e h
    refine go_cVV K (c_X7_enter l G st_6 _ _ _ e5) cf_X7_enter cv_X7_enter km_X11_105 (rv_X7 st_6) (by decide) rfl rfl (Nat.le_of_ble_eq_true rfl) dX11_person_86 ?_
    refine go_iload K dX11_person_89 0 rfl ?_
    exact go_iret K hr (Prod.mk.inj (Option.some.inj h)).1 (congrArg (fun z => (z, O)) (Prod.mk.inj (Option.some.inj h)).2) dX11_person_91
  have hj34 : ∀ (v1 : Int32) (v2 : Int32) (v3 : Int32) (C : CM), X11_person_j34 v1 v2 v3 C = some (res, C') → GO pM l eM (4) sM mM aM bM meM cM (MQ bM (va_Qi (fun (r' : Int32) (u : CM × OM) => r' = res ∧ u = (C', O)) (wB G) (Fr G)) aM sM 0 0 (Fr G)) G 6 (C, O) 34 [(0, .ref (gB G + 0)), (1, .int v1), (2, .int v2), (3, .int v3)] [] := by
    intro v1 v2 v3 C h
    rw [X11_person_j34] at h
    refine go_iconst (v := (0 : Int32)) K dX11_person_34 (by decide) ?_
    exact hj35 _ _ _ _ _ h
  rw [f_X11_person] at h
  refine go_iload_n K dX11_person_0 1 rfl rfl ?_
  refine go_iconst (v := (0 : Int32)) K dX11_person_1 (by decide) ?_
  refine go_bipush (v := (99 : Int32)) K dX11_person_2 (by decide) ?_
  refine go_cSI K (c_X11_within l G _ _ _ _ _ _ rfl) cf_X11_within kt_X11_within km_X11_93 (by decide) rfl rfl (Nat.le_of_ble_eq_true rfl) dX11_person_4 ?_
  refine go_if_eq (tgt := 34) K dX11_person_7 (by decide) (fun c1 => ?_) (fun c1 => ?_)
  · replace h := ite_t h c1
    exact hj34 _ _ _ _ h
  replace h := ite_f h c1
  refine go_iload_n K dX11_person_10 2 rfl rfl ?_
  refine go_iconst (v := (0 : Int32)) K dX11_person_11 (by decide) ?_
  refine go_bipush (v := (99 : Int32)) K dX11_person_12 (by decide) ?_
  refine go_cSI K (c_X11_within l G _ _ _ _ _ _ rfl) cf_X11_within kt_X11_within km_X11_93 (by decide) rfl rfl (Nat.le_of_ble_eq_true rfl) dX11_person_14 ?_
  refine go_if_eq (tgt := 34) K dX11_person_17 (by decide) (fun c6 => ?_) (fun c6 => ?_)
  · replace h := ite_t h c6
    exact hj34 _ _ _ _ h
  replace h := ite_f h c6
  refine go_iload_n K dX11_person_20 3 rfl rfl ?_
  refine go_iconst (v := (0 : Int32)) K dX11_person_21 (by decide) ?_
  refine go_bipush (v := (7 : Int32)) K dX11_person_22 (by decide) ?_
  refine go_cSI K (c_X11_within l G _ _ _ _ _ _ rfl) cf_X11_within kt_X11_within km_X11_93 (by decide) rfl rfl (Nat.le_of_ble_eq_true rfl) dX11_person_24 ?_
  refine go_if_eq (tgt := 34) K dX11_person_27 (by decide) (fun c7 => ?_) (fun c7 => ?_)
  · replace h := ite_t h c7
    exact hj34 _ _ _ _ h
  replace h := ite_f h c7
  refine go_iconst (v := (1 : Int32)) K dX11_person_30 (by decide) ?_
  refine go_goto (tgt := 35) K dX11_person_31 (by decide) ?_
  exact hj35 _ _ _ _ _ h
noncomputable def f_X11_bow (v1 : Int32) (v2 : Int32) (C : CM) : Option (Int32 × CM) := (bnd2 (f_X9_canBow 0 v1 v2 C) (fun r1 C1 => (if r1 = 0 then (some ((-1 : Int32), C1)) else (bnd (f_X10_keepStep 5 C1) (fun C3 => (bnd (f_X9_bows 0 v1 v2 C3) (fun C4 => (bnd (f_X7_leftOf 6 v1 C4) (fun r5 => (some (r5, C4)))))))))))
theorem cf_X11_bow : CF yX11_bow cX11_bow 3 (Option.some Jvm.ClassFile.FieldType.int) 2 := ⟨kc_X11_bow, kj_X11, ⟨by decide +kernel, by decide +kernel, by decide +kernel⟩, by decide⟩
theorem cv_X11_bow : CFv yX11_bow := ⟨ki_X11_bow, ks_X11_bow⟩
set_option maxHeartbeats 4000000 in
set_option maxRecDepth 100000 in
theorem c_X11_bow (l : Launch) (G : GT) (v1 : Int32) (v2 : Int32) (C : CM) (O : OM) (res : Int32) (C' : CM) (h : f_X11_bow v1 v2 C = some (res, C')) : MI l G yX11_bow cX11_bow 3 (Option.some Jvm.ClassFile.FieldType.int) (6) [.ref (gB G + 0), .int v1, .int v2] (C, O) res (C', O) := by
  unfold MI
  refine met_in RX11 (by decide +kernel) rfl [(0, .ref (gB G + 0)), (1, .int v1), (2, .int v2)] rfl (Nat.le_of_ble_eq_true rfl) ?_
  intro pM eM sM mM aM bM meM cM K hr
  rw [f_X11_bow] at h
  refine go_aload_n K dX11_bow_0 0 rfl rfl ?_
  refine gf_X11 K 5 (by decide) kf_X11_46 (v := .ref (gB G + twI 0)) rfl dX11_bow_1 ?_
  refine go_iload_n K dX11_bow_4 1 rfl rfl ?_
  refine go_iload_n K dX11_bow_5 2 rfl rfl ?_
  obtain ⟨r1, C1, e1, h⟩ := bnd2_e h
  refine go_cVI K (c_X9_canBow l G q_0 _ _ _ _ _ _ e1) cf_X9_canBow cv_X9_canBow km_X11_109 (rv_X9 q_0) (by decide) rfl rfl (Nat.le_of_ble_eq_true rfl) dX11_bow_6 ?_
  refine go_if_ne (tgt := 14) K dX11_bow_9 (by decide) (fun c2 => ?_) (fun c2 => ?_)
  rotate_left
  · replace h := ite_t h c2
    refine go_iconst (v := (-1 : Int32)) K dX11_bow_12 (by decide) ?_
    exact go_iret K hr (Prod.mk.inj (Option.some.inj h)).1 (congrArg (fun z => (z, O)) (Prod.mk.inj (Option.some.inj h)).2) dX11_bow_13
  replace h := ite_f h c2
  refine go_aload_n K dX11_bow_14 0 rfl rfl ?_
  refine gf_X11 K 1 (by decide) kf_X11_19 (v := .ref (gB G + 5)) rfl dX11_bow_15 ?_
  obtain ⟨C3, e3, h⟩ := bnd_e h
  refine go_cVV K (c_X10_keepStep l G wh_5 _ _ _ e3) cf_X10_keepStep cv_X10_keepStep km_X11_113 (rv_X10 wh_5) (by decide) rfl rfl (Nat.le_of_ble_eq_true rfl) dX11_bow_18 ?_
  refine go_aload_n K dX11_bow_21 0 rfl rfl ?_
  refine gf_X11 K 5 (by decide) kf_X11_46 (v := .ref (gB G + twI 0)) rfl dX11_bow_22 ?_
  refine go_iload_n K dX11_bow_25 1 rfl rfl ?_
  refine go_iload_n K dX11_bow_26 2 rfl rfl ?_
  obtain ⟨C4, e4, h⟩ := bnd_e h
  refine go_cVV K (c_X9_bows l G q_0 _ _ _ _ _ e4) cf_X9_bows cv_X9_bows km_X11_116 (rv_X9 q_0) (by decide) rfl rfl (Nat.le_of_ble_eq_true rfl) dX11_bow_27 ?_
  refine go_aload_n K dX11_bow_30 0 rfl rfl ?_
  refine gf_X11 K 1 (by decide) kf_X11_19 (v := .ref (gB G + 5)) rfl dX11_bow_31 ?_
  refine gf_X10 K wh_5 0 (by decide) kf_X11_39 (v := .ref (gB G + 6)) rfl dX11_bow_34 ?_
  refine go_iload_n K dX11_bow_37 1 rfl rfl ?_
  obtain ⟨r5, e5, h⟩ := bnd_e h
  refine go_cVI K (c_X7_leftOf l G st_6 _ _ _ _ e5) cf_X7_leftOf cv_X7_leftOf km_X11_120 (rv_X7 st_6) (by decide) rfl rfl (Nat.le_of_ble_eq_true rfl) dX11_bow_38 ?_
  exact go_iret K hr (Prod.mk.inj (Option.some.inj h)).1 (congrArg (fun z => (z, O)) (Prod.mk.inj (Option.some.inj h)).2) dX11_bow_41
