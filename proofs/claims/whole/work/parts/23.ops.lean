theorem VR_w {t : Bool} {x : Int32} {y : Int64} (h : VR t x y) : VR false x y := ⟨h.1, (fun e => by cases e), h.2.2⟩
theorem op_ar {x y : Int32} {x' y' : Int64} {O : OM} (hx : VR false x x') (hy : VR false y y') (k : Nat) (hk : k = 43 ∨ k = 45 ∨ k = 42 ∨ k = 47) : ∃ z z', f_X1_joined (nI k) x y = some z ∧ f_X12_worked (nI k) x' y' O = some z' ∧ VR false z z' := by
  obtain ⟨ex, -, bx1, bx2⟩ := hx
  obtain ⟨ey, -, by1, by2⟩ := hy
  subst ex ey
  rcases hk with rfl | rfl | rfl | rfl
  · exact ⟨_, _, rfl, rfl, cl_bound _⟩
  · exact ⟨_, _, rfl, rfl, cl_bound _⟩
  · exact ⟨_, _, rfl, rfl, cl_bound _⟩
  · have e1 : f_X1_joined (nI 47) x y = (if y = 0 then (X1_joined_j147 (0 : Int64)) else (gd (¬ y = 0) (X1_joined_j147 ((x / y).toInt64)))) := rfl
    have e2 : f_X12_worked (nI 47) x.toInt64 y.toInt64 O = (if (lg_cmp y.toInt64 (0 : Int64)) = 0 then (some (0 : Int64)) else (gd (¬ y.toInt64 = 0) (some (x.toInt64 / y.toInt64)))) := rfl
    rw [e1, e2]
    by_cases c : y = 0
    · subst c
      rw [if_pos rfl, if_pos (by decide)]
      exact ⟨_, _, rfl, rfl, by decide, (fun e => by cases e), by decide, by decide⟩
    · have c2 : ¬ y.toInt64 = 0 := by rw [lN0, li_eq]; exact c
      rw [if_neg c, gd_p c, if_neg (by rw [lg_cmp_eq]; exact c2), gd_p c2]
      obtain ⟨d1, d2, d3⟩ := VR_div bx1 bx2 by1 by2
      refine ⟨_, _, rfl, rfl, ?_⟩
      have hb := cl_bound (x / y).toInt64
      have eb : f_X12_bound (x / y).toInt64 = (x / y).toInt64 := by
        have h1 : (1000000 : Int64).toInt = 1000000 := by decide
        have h2 : (-1000000 : Int64).toInt = -1000000 := by decide
        unfold f_X12_bound
        simp only [lg_cmp_le, lg_cmp_ge, Int64.le_iff_toInt_le, h1, h2, Int32.toInt_toInt64]
        rw [if_pos d3, if_pos d2]
      rw [eb] at hb
      rw [← d1]
      exact hb
theorem op_cm {x y : Int32} {x' y' : Int64} {O : OM} (hx : VR false x x') (hy : VR false y y') (k o : Nat) (hk : (k, o) = (60, 60) ∨ (k, o) = (62, 62) ∨ (k, o) = (61, 61) ∨ (k, o) = (35, 35) ∨ (k, o) = (4, 300) ∨ (k, o) = (5, 301)) : ∃ z z', f_X1_joined (nI k) x y = some z ∧ f_X12_worked (nI o) x' y' O = some z' ∧ VR true z z' := by
  obtain ⟨ex, -, bx1, bx2⟩ := hx
  obtain ⟨ey, -, by1, by2⟩ := hy
  subst ex ey
  have so {α : Type} (b : Prop) [Decidable b] (u v : α) : (if b then some u else some v) = some (if b then u else v) := by split <;> rfl
  rcases hk with h | h | h | h | h | h <;> (injection h with h1 h2; subst h1 h2)
  · refine ⟨_, _, (show f_X1_joined (nI 60) x y = (if y ≤ x then some 0 else some 1) from rfl).trans (so _ _ _), (show f_X12_worked (nI 60) x.toInt64 y.toInt64 O = (if 0 ≤ (lg_cmp x.toInt64 y.toInt64) then (some (0 : Int64)) else (some (1 : Int64))) from rfl).trans (so _ _ _), ?_⟩
    simp only [lg_cmp_ge, li_le]; exact VR01 _ _
  · refine ⟨_, _, (show f_X1_joined (nI 62) x y = (if x ≤ y then some 0 else some 1) from rfl).trans (so _ _ _), (show f_X12_worked (nI 62) x.toInt64 y.toInt64 O = (if (lg_cmp x.toInt64 y.toInt64) ≤ 0 then (some (0 : Int64)) else (some (1 : Int64))) from rfl).trans (so _ _ _), ?_⟩
    simp only [lg_cmp_le, li_le]; exact VR01 _ _
  · refine ⟨_, _, (show f_X1_joined (nI 61) x y = (if x = y then some 1 else some 0) from rfl).trans (so _ _ _), (show f_X12_worked (nI 61) x.toInt64 y.toInt64 O = (if (lg_cmp x.toInt64 y.toInt64) = 0 then (some (1 : Int64)) else (some (0 : Int64))) from rfl).trans (so _ _ _), ?_⟩
    simp only [lg_cmp_eq, li_eq]; exact VR10 _ _
  · refine ⟨_, _, (show f_X1_joined (nI 35) x y = (if x = y then some 0 else some 1) from rfl).trans (so _ _ _), (show f_X12_worked (nI 35) x.toInt64 y.toInt64 O = (if (lg_cmp x.toInt64 y.toInt64) = 0 then (some (0 : Int64)) else (some (1 : Int64))) from rfl).trans (so _ _ _), ?_⟩
    simp only [lg_cmp_eq, li_eq]; exact VR01 _ _
  · refine ⟨_, _, (show f_X1_joined (nI 4) x y = (if y < x then some 0 else some 1) from rfl).trans (so _ _ _), (show f_X12_worked (nI 300) x.toInt64 y.toInt64 O = (if 0 < (lg_cmp x.toInt64 y.toInt64) then (some (0 : Int64)) else (some (1 : Int64))) from rfl).trans (so _ _ _), ?_⟩
    simp only [lg_cmp_gt, li_lt]; exact VR01 _ _
  · refine ⟨_, _, (show f_X1_joined (nI 5) x y = (if x < y then some 0 else some 1) from rfl).trans (so _ _ _), (show f_X12_worked (nI 301) x.toInt64 y.toInt64 O = (if (lg_cmp x.toInt64 y.toInt64) < 0 then (some (0 : Int64)) else (some (1 : Int64))) from rfl).trans (so _ _ _), ?_⟩
    simp only [lg_cmp_lt, li_lt]; exact VR01 _ _
theorem VRt {x : Int32} {x' : Int64} (h : VR true x x') : (x = 0 ∧ x' = 0) ∨ (x = 1 ∧ x' = 1) := by
  obtain ⟨e, h, -⟩ := h
  rcases h rfl with h | h
  · subst h; exact Or.inl ⟨rfl, e⟩
  · subst h; exact Or.inr ⟨rfl, e⟩
theorem VR0 : VR true 0 0 := ⟨by decide, (fun _ => Or.inl rfl), by decide, by decide⟩
theorem VR1 : VR true 1 1 := ⟨by decide, (fun _ => Or.inr rfl), by decide, by decide⟩
theorem op_bo {x y : Int32} {x' y' : Int64} {O : OM} (hx : VR true x x') (hy : VR true y y') (k o : Nat) (hk : (k, o) = (152, 406) ∨ (k, o) = (153, 407)) : ∃ z z', f_X1_joined (nI k) x y = some z ∧ f_X12_worked (nI o) x' y' O = some z' ∧ VR true z z' := by
  rcases hk with h | h <;> (injection h with h1 h2; subst h1 h2) <;> rcases VRt hx with ⟨rfl, rfl⟩ | ⟨rfl, rfl⟩ <;> rcases VRt hy with ⟨rfl, rfl⟩ | ⟨rfl, rfl⟩
  · exact ⟨0, 0, rfl, rfl, VR0⟩
  · exact ⟨0, 0, rfl, rfl, VR0⟩
  · exact ⟨0, 0, rfl, rfl, VR0⟩
  · exact ⟨1, 1, rfl, rfl, VR1⟩
  · exact ⟨0, 0, rfl, rfl, VR0⟩
  · exact ⟨1, 1, rfl, rfl, VR1⟩
  · exact ⟨1, 1, rfl, rfl, VR1⟩
  · exact ⟨1, 1, rfl, rfl, VR1⟩
theorem VR_not {x : Int32} {x' : Int64} (hx : VR true x x') : VR true (1 - x) (1 - x') := by
  rcases VRt hx with ⟨rfl, rfl⟩ | ⟨rfl, rfl⟩
  · exact VR1
  · exact VR0
theorem VR_neg {x : Int32} {x' : Int64} (hx : VR false x x') : VR false (-x) (-x') := by
  obtain ⟨ex, -, bx1, bx2⟩ := hx
  subst ex
  have e1 : (-x).toInt = -x.toInt := by rw [Int32.toInt_neg]; exact Int.bmod_eq_of_le (by omega) (by omega)
  have e2 : (-x.toInt64).toInt = -x.toInt := by rw [Int64.toInt_neg, Int32.toInt_toInt64]; exact Int.bmod_eq_of_le (by omega) (by omega)
  exact ⟨by rw [← Int64.toInt_inj, Int32.toInt_toInt64, e1, e2], (fun e => by cases e), by omega, by omega⟩
theorem VR_nI {k : Nat} (h : k ≤ 1000000) : VR false (nI k) (nI k).toInt64 := ⟨rfl, (fun e => by cases e), by rw [nI_toInt (by omega)]; omega, by rw [nI_toInt (by omega)]; omega⟩
theorem VR_m1 : VR false (-1) (-1 : Int32).toInt64 := ⟨rfl, (fun e => by cases e), by decide, by decide⟩
