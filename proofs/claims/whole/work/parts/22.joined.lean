/-! What two values come to: class's joined and the reference's worked -/
theorem li_lt {x y : Int32} : x.toInt64 < y.toInt64 ↔ x < y := by
  rw [Int64.lt_iff_toInt_lt, Int32.lt_iff_toInt_lt, Int32.toInt_toInt64, Int32.toInt_toInt64]
theorem li_le {x y : Int32} : x.toInt64 ≤ y.toInt64 ↔ x ≤ y := by
  rw [Int64.le_iff_toInt_le, Int32.le_iff_toInt_le, Int32.toInt_toInt64, Int32.toInt_toInt64]
theorem li_eq {x y : Int32} : x.toInt64 = y.toInt64 ↔ x = y := by
  rw [← Int64.toInt_inj, ← Int32.toInt_inj, Int32.toInt_toInt64, Int32.toInt_toInt64]
theorem VR01 (b : Prop) [Decidable b] (t : Bool) : VR t (if b then (0 : Int32) else 1) (if b then (0 : Int64) else 1) := by
  by_cases h : b
  · rw [if_pos h, if_pos h]; exact ⟨by decide, fun _ => Or.inl rfl, by decide, by decide⟩
  · rw [if_neg h, if_neg h]; exact ⟨by decide, fun _ => Or.inr rfl, by decide, by decide⟩
theorem VR10 (b : Prop) [Decidable b] (t : Bool) : VR t (if b then (1 : Int32) else 0) (if b then (1 : Int64) else 0) := by
  by_cases h : b
  · rw [if_pos h, if_pos h]; exact ⟨by decide, fun _ => Or.inr rfl, by decide, by decide⟩
  · rw [if_neg h, if_neg h]; exact ⟨by decide, fun _ => Or.inl rfl, by decide, by decide⟩
theorem cl_bound (Y : Int64) : VR false (f_J9_max_f86c9 (-1000000 : Int64) (f_J9_min_f86c9 (1000000 : Int64) Y)).toInt32 (f_X12_bound Y) := by
  have h1 : (1000000 : Int64).toInt = 1000000 := by decide
  have h2 : (-1000000 : Int64).toInt = -1000000 := by decide
  unfold f_J9_max_f86c9 f_J9_min_f86c9 f_X12_bound
  simp only [lg_cmp_lt, lg_cmp_gt, lg_cmp_le, lg_cmp_ge, Int64.lt_iff_toInt_lt, Int64.le_iff_toInt_le, h1, h2]
  by_cases c1 : Y.toInt < 1000000
  · rw [if_pos c1]
    by_cases c2 : -1000000 < Y.toInt
    · rw [if_pos c2, if_pos (by omega), if_pos (by omega)]
      have e : Y.toInt32.toInt = Y.toInt := by
        rw [Int64.toInt_toInt32]
        exact Int.bmod_eq_of_le (by omega) (by omega)
      exact ⟨by rw [← Int64.toInt_inj, Int32.toInt_toInt64, e], (fun h => by cases h), by omega, by omega⟩
    · rw [if_neg c2, if_pos (by omega)]
      by_cases c3 : -1000000 ≤ Y.toInt
      · have e : Y = -1000000 := by rw [← Int64.toInt_inj, h2]; omega
        rw [if_pos c3, e]
        exact ⟨by decide, (fun h => by cases h), by decide, by decide⟩
      · rw [if_neg c3]
        exact ⟨by decide, (fun h => by cases h), by decide, by decide⟩
  · rw [if_neg c1, h1, if_pos (by decide)]
    by_cases c3 : Y.toInt ≤ 1000000
    · have e : Y = 1000000 := by rw [← Int64.toInt_inj, h1]; omega
      rw [if_pos c3, e]
      exact ⟨by decide, (fun h => by cases h), by decide, by decide⟩
    · rw [if_neg c3]
      exact ⟨by decide, (fun h => by cases h), by decide, by decide⟩
theorem lN0 : (0 : Int64) = (0 : Int32).toInt64 := by decide
theorem quo_bound {a b : Int} (h1 : -1000000 ≤ a) (h2 : a ≤ 1000000) : -1000000 ≤ a.tdiv b ∧ a.tdiv b ≤ 1000000 := by
  have h : (a.tdiv b).natAbs ≤ a.natAbs := by rw [Int.natAbs_tdiv]; exact Nat.div_le_self _ _
  omega
theorem VR_div {x y : Int32} (hx1 : -1000000 ≤ x.toInt) (hx2 : x.toInt ≤ 1000000) (hy1 : -1000000 ≤ y.toInt) (hy2 : y.toInt ≤ 1000000) : (x / y).toInt64 = x.toInt64 / y.toInt64 ∧ -1000000 ≤ (x / y).toInt ∧ (x / y).toInt ≤ 1000000 := by
  obtain ⟨q1, q2⟩ := quo_bound (b := y.toInt) hx1 hx2
  have e1 : (x / y).toInt = x.toInt.tdiv y.toInt := by
    rw [Int32.toInt_div]
    exact Int.bmod_eq_of_le (by omega) (by omega)
  have e2 : (x.toInt64 / y.toInt64).toInt = x.toInt.tdiv y.toInt := by
    rw [Int64.toInt_div, Int32.toInt_toInt64, Int32.toInt_toInt64]
    exact Int.bmod_eq_of_le (by omega) (by omega)
  exact ⟨by rw [← Int64.toInt_inj, Int32.toInt_toInt64, e1, e2], by omega, by omega⟩
