/-! Rows of a State against the reference's row w; ranges -/
def VW (s : Nat) (C : CM) (w : Nat → Int32) : Prop := C s 1 = w 70 ∧ C s 2 = w 71 ∧ C s 3 = w 72 ∧ (∀ p, p < 7 → C (s + 1) p = w p) ∧ (∀ p, p < 7 → C (s + 2) p = w (7 + p)) ∧ (∀ p, p < 7 → C (s + 3) p = w (14 + p)) ∧ (∀ i, i < 49 → C (s + 4) i = w (21 + i))
def WOK (w : Nat → Int32) : Prop := (∀ p, p < 7 → ∃ k, k < 100 ∧ w p = nI k) ∧ (∀ p, p < 7 → ∃ k, k < 8 ∧ w (7 + p) = nI k) ∧ (∀ p, p < 7 → ∃ k, k < 4 ∧ w (14 + p) = nI k) ∧ (∀ i, i < 49 → ∃ k, k ≤ 9999 ∧ w (21 + i) = nI k) ∧ (∀ p, p < 7 → w (21 + 8 * p) = 0) ∧ (∃ k, k ≤ 9999 ∧ w 70 = nI k) ∧ (∃ k, k < 10 ∧ w 71 = nI k) ∧ (∃ k, k < 30323 ∧ w 72 = nI k) ∧ (∃ k, k ≤ 30 ∧ w 73 = nI k)
/-- people's number and how they were told -/
def PPL (n : Nat) (C : CM) (A : Nat → Int32) : Prop := n ≤ 7 ∧ A 0 = nI n ∧ ∀ p, p < n → C 2 p = A (10 + p) ∧ C 3 p = A (17 + p) ∧ (∃ k, k < 100 ∧ C 2 p = nI k) ∧ (∃ k, k < 100 ∧ C 3 p = nI k) ∧ (∃ k, k < 8 ∧ C 4 p = nI k)
theorem toInt64_nI {k : Nat} (h : k < 2 ^ 31) : (nI k).toInt64 = lN k := nI_l h
theorem VR_cases {x : Int32} {x' : Int64} (h : VR false x x') {n : Nat} (hn : n ≤ 7) : (x < 0 ∧ x' < 0) ∨ (nI n ≤ x ∧ (nI n).toInt64 ≤ x' ∧ ¬ x' < 0) ∨ ∃ p, p < n ∧ x = nI p ∧ x' = (nI p).toInt64 := by
  obtain ⟨e, -, h1, h2⟩ := h
  subst e
  rcases pk_ix x (n := n) (by omega) with c | c | ⟨j, hj, c⟩
  · left
    exact ⟨c, by rw [lN0, li_lt]; exact c⟩
  · right; left
    refine ⟨c, li_le.mpr c, ?_⟩
    rw [lN0, li_lt]
    intro c2
    rw [Int32.lt_iff_toInt_lt] at c2
    rw [Int32.le_iff_toInt_le, nI_toInt (by omega)] at c
    rw [show (0 : Int32).toInt = 0 from rfl] at c2
    omega
  · right; right
    exact ⟨j, hj, c, by rw [c]⟩
theorem owed_both {q n : Nat} {C : CM} {O : OM} (hn : C (stI q) 0 = nI n) (h7 : n ≤ 7) (hO : O.1 447 0 = nI n) (hv : ∀ i, i < 49 → C (stI q + 4) i = O.1 470 (21 + i)) (hw : WOK (O.1 470)) {x y : Int32} {x' y' : Int64} (hx : VR false x x') (hy : VR false y y') :
    ∃ z z', f_X7_owed (stI q) x y C = some z ∧ f_X12_worked (nI 403) x' y' O = some z' ∧ VR false z z' := by
  have e0 : f_X12_worked (nI 403) x' y' O = bnd (f_X12_owedBy x' y' O) (fun r => some r) := rfl
  rw [e0]
  have z0 : VR false (0 : Int32) (0 : Int64) := ⟨by decide, (fun e => by cases e), by decide, by decide⟩
  unfold f_X12_owedBy X12_owedBy_j42
  simp only [lg_cmp_lt, lg_cmp_ge, lg_cmp_eq, hO]
  rcases VR_cases hx h7 with ⟨a1, a2⟩ | ⟨a1, a2, a3⟩ | ⟨p, hp, a1, a2⟩
  · rw [owedN hn (Or.inl (Or.inl a1)), if_pos a2]
    exact ⟨_, _, rfl, rfl, z0⟩
  · rw [owedN hn (Or.inl (Or.inr a1)), if_neg a3, if_pos a2]
    refine ⟨0, 0, rfl, ?_, z0⟩
    split <;> rfl
  · have nx : ¬ x' < 0 := by
      rw [a2, lN0, li_lt]; exact nI_pos (by omega)
    have nx2 : ¬ (nI n).toInt64 ≤ x' := by
      rw [a2, li_le]; exact nI_ge hp (by omega)
    rcases VR_cases hy h7 with ⟨b1, b2⟩ | ⟨b1, b2, b3⟩ | ⟨r, hr, b1, b2⟩
    · rw [owedN hn (Or.inr (Or.inl b1)), if_neg nx, if_pos b2]
      exact ⟨_, _, rfl, rfl, z0⟩
    · rw [owedN hn (Or.inr (Or.inr b1)), if_neg nx, if_neg b3, if_neg nx2, if_pos b2]
      exact ⟨_, _, rfl, rfl, z0⟩
    · have ny : ¬ y' < 0 := by
        rw [b2, lN0, li_lt]; exact nI_pos (by omega)
      have ny2 : ¬ (nI n).toInt64 ≤ y' := by
        rw [b2, li_le]; exact nI_ge hr (by omega)
      rw [if_neg nx, if_neg ny, if_neg nx2, if_neg ny2, a1, b1, owedY hn h7 hp hr, hv (7 * p + r) (by omega)]
      by_cases c : p = r
      · subst c
        have ed : 21 + (7 * p + p) = 21 + 8 * p := by omega
        rw [if_pos (by rw [a2, b2]), ed, hw.2.2.2.2.1 p (by omega)]
        exact ⟨_, _, rfl, rfl, z0⟩
      · have c2 : ¬ x' = y' := by
          rw [a2, b2, li_eq]; exact fun e => c ((nI_eq (by omega) (by omega)).mp e)
        rw [if_neg c2, a2, b2, Int32.toInt32_toInt64, Int32.toInt32_toInt64, debtN, gd_p (inbN (by omega) (by decide)), nI_clamp (by omega)]
        obtain ⟨k, hk, ek⟩ := hw.2.2.2.1 (7 * p + r) (by omega)
        have ea : 21 + 7 * p + r = 21 + (7 * p + r) := by omega
        rw [ea, ek]
        exact ⟨_, _, rfl, rfl, VR_nI (by omega)⟩
