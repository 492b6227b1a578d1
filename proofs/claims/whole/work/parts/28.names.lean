/-! The names of a law, on both sides -/
def FrN (q : Nat) (C C1 : CM) : Prop := ∀ c, c ≠ laI q + 1 → C1 c = C c
theorem FrN.up {q k : Nat} {C C1 : CM} {x : Int32} (h : FrN q C C1) : FrN q C (up2 C1 (laI q + 1) k x) := fun c hc => (up2_ne hc).trans (h c hc)
theorem FrN.refl {q : Nat} {C : CM} : FrN q C C := fun _ _ => rfl
theorem st_la {q : Nat} : stI q ≠ laI q + 1 := by unfold stI laI; split <;> omega
theorem name_ok {q : Nat} {C : CM} {v1 v2 v3 r1 r2 r3 r4 r5 : Int32}
    (h1 : ∀ C1, FrN q C C1 → f_X7_leftOf (stI q) v1 C1 = some r1) (h2 : ∀ C1, FrN q C C1 → f_X3_ageOf v1 C1 = some r2) (h3 : ∀ C1, FrN q C C1 → f_X3_ageOf v2 C1 = some r3)
    (h4 : ∀ C1, FrN q C C1 → f_X7_owed (stI q) v1 v2 C1 = some r4) (h5 : ∀ C1, FrN q C C1 → f_X7_owed (stI q) v2 v1 C1 = some r5) :
    ∃ C', f_X1_name q v1 v2 v3 C = some C' ∧ FrN q C C' ∧ C' (laI q + 1) 0 = C (stI q) 2 ∧ C' (laI q + 1) 1 = r1 ∧ C' (laI q + 1) 2 = C (stI q) 1 ∧ C' (laI q + 1) 3 = v1 ∧ C' (laI q + 1) 4 = r2 ∧ C' (laI q + 1) 5 = v2 ∧ C' (laI q + 1) 6 = r3 ∧ C' (laI q + 1) 7 = r4 ∧ C' (laI q + 1) 8 = r5 ∧ C' (laI q + 1) 9 = v3 := by
  have f1 := (FrN.refl (q := q) (C := C)).up (k := 0) (x := C (stI q) 2)
  have f2 := f1.up (k := 1) (x := r1)
  have e2 := f2 (stI q) st_la
  have f3 := (f2.up (k := 2) (x := C (stI q) 1)).up (k := 3) (x := v1)
  have f4 := (f3.up (k := 4) (x := r2)).up (k := 5) (x := v2)
  have f5 := f4.up (k := 6) (x := r3)
  have f6 := f5.up (k := 7) (x := r4)
  have f7 := (f6.up (k := 8) (x := r5)).up (k := 9) (x := v3)
  refine ⟨_, ?_, f7, ?_⟩
  · unfold f_X1_name
    rw [h1 _ f1, bnd_s, e2, h2 _ f3, bnd_s, h3 _ f4, bnd_s, h4 _ f5, bnd_s, h5 _ f6, bnd_s]
  · simp only [up2_eq]
    refine ⟨?_, ?_, ?_, ?_, ?_, ?_, ?_, ?_, ?_, ?_⟩ <;> simp [upd]
theorem ageY {C : CM} {p : Nat} (h : p < 7) : f_X3_ageOf (nI p) C = some (C 2 p) := by
  have c : f_X11_within (nI p) 0 6 = 1 := by
    unfold f_X11_within
    rw [if_neg (nI_pos (by omega)), show (6 : Int32) = nI 6 from rfl, if_neg (nI_nlt (by omega) (by omega))]
  unfold f_X3_ageOf
  rw [c, if_neg (by decide), gd_p (inbN h (by decide)), nI_clamp (by omega)]
theorem backY {C : CM} {p : Nat} (h : p < 7) : f_X3_backOf (nI p) C = some (C 3 p) := by
  have c : f_X11_within (nI p) 0 6 = 1 := by
    unfold f_X11_within
    rw [if_neg (nI_pos (by omega)), show (6 : Int32) = nI 6 from rfl, if_neg (nI_nlt (by omega) (by omega))]
  unfold f_X3_backOf
  rw [c, if_neg (by decide), gd_p (inbN h (by decide)), nI_clamp (by omega)]
theorem plcY {C : CM} {p : Nat} (h : p < 7) : f_X3_placeOf (nI p) C = some (C 4 p) := by
  have c : f_X11_within (nI p) 0 6 = 1 := by
    unfold f_X11_within
    rw [if_neg (nI_pos (by omega)), show (6 : Int32) = nI 6 from rfl, if_neg (nI_nlt (by omega) (by omega))]
  unfold f_X3_placeOf
  rw [c, if_neg (by decide), gd_p (inbN h (by decide)), nI_clamp (by omega)]
/-- reference's names -/
def FrO1 (r : Nat) (O O1 : OM) : Prop := ∀ c, c ≠ r → O1.1 c = O.1 c
theorem oup_ne {O : OM} {i k j : Nat} {v : Int32} (h : j ≠ i) : (oup O i k v).1 j = O.1 j := up2_ne h
theorem oup_eq {O : OM} {i k : Nat} {v : Int32} : (oup O i k v).1 i = upd (O.1 i) k v := up2_eq
theorem namesR {O : OM} {p : Nat} (hp : p < 7) : ∃ O1, f_X12_names (nI p) O = some O1 ∧ FrO1 471 O O1 ∧ O1.1 471 0 = O.1 470 70 ∧ O1.1 471 1 = O.1 470 71 ∧ O1.1 471 2 = nI p ∧ O1.1 471 3 = O.1 447 (10 + p) ∧ O1.1 471 4 = O.1 470 p := by
  have i1 : (10 : Int32) + nI p = nI (10 + p) := nI_add 10 p
  have i2 : 0 + nI p = nI p := (nI_add 0 p).trans (by rw [Nat.zero_add])
  unfold f_X12_names
  rw [i1, i2, gd_p (inbN (by omega) (by decide)), gd_p (inbN (by omega) (by decide)), nI_clamp (by omega), nI_clamp (by omega)]
  refine ⟨_, rfl, fun c hc => by simp only [oup_ne hc], ?_⟩
  simp only [oup_eq, oup_ne (show (470 : Nat) ≠ 471 by decide), oup_ne (show (447 : Nat) ≠ 471 by decide)]
  refine ⟨?_, ?_, ?_, ?_, ?_⟩ <;> simp [upd]
theorem debtN {p q : Nat} : f_X12_debtAt (nI p) (nI q) = nI (21 + 7 * p + q) := by
  unfold f_X12_debtAt
  rw [show (21 : Int32) = nI 21 from rfl, show (7 : Int32) = nI 7 from rfl, pk_mul, nI_add, nI_add]
theorem namesOfR {O : OM} {p r : Nat} (hp : p < 7) (hr : r < 7) : ∃ O1, f_X12_namesOf (nI p) (nI r) O = some O1 ∧ FrO1 471 O O1 ∧ O1.1 471 0 = O.1 470 70 ∧ O1.1 471 1 = O.1 470 71 ∧ O1.1 471 2 = nI p ∧ O1.1 471 3 = O.1 447 (10 + p) ∧ O1.1 471 4 = O.1 470 p ∧ O1.1 471 5 = nI r ∧ O1.1 471 6 = O.1 447 (10 + r) ∧ O1.1 471 7 = O.1 470 (21 + 7 * p + r) ∧ O1.1 471 8 = O.1 470 (21 + 7 * r + p) := by
  obtain ⟨O1, e, fr, a0, a1, a2, a3, a4⟩ := namesR (O := O) hp
  have i1 : (10 : Int32) + nI r = nI (10 + r) := nI_add 10 r
  have b1 : O1.1 470 = O.1 470 := fr 470 (by decide)
  have b2 : O1.1 447 = O.1 447 := fr 447 (by decide)
  unfold f_X12_namesOf
  rw [e, bnd_s, i1, debtN, debtN, gd_p (inbN (by omega) (by decide)), gd_p (inbN (by omega) (by decide)), gd_p (inbN (by omega) (by decide)), nI_clamp (by omega), nI_clamp (by omega), nI_clamp (by omega)]
  refine ⟨_, rfl, fun c hc => by simp only [oup_ne hc]; exact fr c hc, ?_⟩
  simp only [oup_eq, oup_ne (show (470 : Nat) ≠ 471 by decide), oup_ne (show (447 : Nat) ≠ 471 by decide), b1, b2]
  refine ⟨?_, ?_, ?_, ?_, ?_, ?_, ?_, ?_, ?_⟩ <;> simp [upd, a0, a1, a2, a3, a4]
