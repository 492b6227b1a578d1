theorem iteY {P : Prop} [Decidable P] (h : P) : (if P then (1 : Int32) else 0) = 1 := if_pos h
theorem iteN {P : Prop} [Decidable P] (h : ¬ P) : (if P then (1 : Int32) else 0) = 0 := if_neg h
def TW (q n : Nat) (C : CM) (O : OM) : Prop := CX q n C O ∧ VW (stI q) C (O.1 470) ∧ WOK (O.1 470)
theorem isOutR {O : OM} {p : Nat} (h : p < 7) : f_X12_isOut (nI p) O = some (if O.1 470 (14 + p) = 0 then 1 else 0) := by
  have e : (14 : Int32) + nI p = nI (14 + p) := nI_add 14 p
  unfold f_X12_isOut
  rw [e, gd_p (inbN (by omega) (by decide)), nI_clamp (by omega)]
  split <;> rfl
theorem doMeetR {O : OM} {p r : Nat} (h : p < 7) (h2 : r < 7) : f_X12_doMeet (nI p) (nI r) O = some (if O.1 470 (14 + p) = 0 ∧ O.1 470 (14 + r) = 0 ∧ O.1 470 (7 + p) = O.1 470 (7 + r) then 1 else 0) := by
  have e1 : (7 : Int32) + nI p = nI (7 + p) := nI_add 7 p
  have e2 : (7 : Int32) + nI r = nI (7 + r) := nI_add 7 r
  unfold f_X12_doMeet
  rw [isOutR h, bnd_s]
  by_cases c1 : O.1 470 (14 + p) = 0
  · rw [if_pos c1, if_neg (by decide), isOutR h2, bnd_s]
    by_cases c2 : O.1 470 (14 + r) = 0
    · rw [if_pos c2, if_neg (by decide), e1, e2, gd_p (inbN (by omega) (by decide)), gd_p (inbN (by omega) (by decide)), nI_clamp (by omega), nI_clamp (by omega)]
      by_cases c3 : O.1 470 (7 + p) = O.1 470 (7 + r)
      · rw [if_pos c3, if_pos ⟨c1, c2, c3⟩]
      · rw [if_neg c3, if_neg (fun h => c3 h.2.2)]
    · rw [if_neg c2, if_pos rfl, if_neg (fun h => c2 h.2.1)]
  · rw [if_neg c1, if_pos rfl, if_neg (fun h => c1 h.1)]
theorem canBow_both {q n p r : Nat} {C : CM} {O : OM} (h : TW q n C O) (h1 : p < n) (h2 : r < n) :
    ∃ b C1 O1, f_X9_canBow q (nI p) (nI r) C = some (b, C1) ∧ f_X12_canBow (nI p) (nI r) O = some (b, O1) ∧ FrL q C C1 ∧ FrO1 471 O O1 ∧
      (b = 0 ∨ (b = 1 ∧ p ≠ r ∧ ∃ k C2, 1 ≤ k ∧ k ≤ 99 ∧ f_X1_sizeOf q (nI p) (nI r) C = some (nI k, C2) ∧ nI k ≤ O.1 470 p)) := by
  obtain ⟨hx, hv, hw⟩ := h
  have h7 := hx.2.1.1
  have hcx := hx.1
  unfold f_X9_canBow f_X12_canBow
  rw [meetY hcx h7 h1 h2, bnd_s, hv.2.2.2.2.2.1 p (by omega), hv.2.2.2.2.2.1 r (by omega), hv.2.2.2.2.1 p (by omega), hv.2.2.2.2.1 r (by omega)]
  by_cases e : p = r
  · subst e
    rw [iteN (fun h => h.1 rfl), if_pos rfl, if_pos rfl]
    exact ⟨0, C, O, rfl, rfl, FrL.refl, FrO1.refl, Or.inl rfl⟩
  · have e1 : ¬ nI p = nI r := fun h => e ((nI_eq (by omega) (by omega)).mp h)
    rw [if_neg e1, doMeetR (by omega) (by omega), bnd_s]
    by_cases c : O.1 470 (14 + p) = 0 ∧ O.1 470 (14 + r) = 0 ∧ O.1 470 (7 + p) = O.1 470 (7 + r)
    · obtain ⟨k, C2, O2, k1, k2, s1, s2, s3, s4⟩ := size_both hx hv hw h1 h2
      have i2 : 0 + nI p = nI p := (nI_add 0 p).trans (by rw [Nat.zero_add])
      rw [iteY ⟨e, c⟩, if_neg (by decide), iteY c, if_neg (by decide), leftY hcx h7 h1, bnd_s, s1, bnd2_s, i2, gd_p (inbN (by omega) (by decide)), s2, bnd2_s, nI_clamp (by omega), hv.2.2.2.1 p (by omega)]
      by_cases d : O.1 470 p < nI k
      · rw [if_pos d, if_pos d]
        exact ⟨0, C2, O2, rfl, rfl, s3, s4, Or.inl rfl⟩
      · rw [if_neg d, if_neg d]
        exact ⟨1, C2, O2, rfl, rfl, s3, s4, Or.inr ⟨rfl, e, k, C2, k1, k2, rfl, Int32.not_lt.mp d⟩⟩
    · rw [iteN (fun h => c h.2), if_pos rfl, iteN c, if_pos rfl]
      exact ⟨0, C, O, rfl, rfl, FrL.refl, FrO1.refl, Or.inl rfl⟩
