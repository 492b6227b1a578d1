/-! A text played -/
theorem owe01 {v w x : Int32} {C C' : CM} {r : Int32} (h : f_X11_owe v w x C = some (r, C')) : r = 0 ∨ r = 1 := by
  have key : ∀ t0, X11_owe_j35 v w x t0 C = some (r, C') → r = 0 ∨ r = 1 := by
    intro t0 h
    unfold X11_owe_j35 at h
    by_cases c : t0 = 0
    · rw [if_pos c] at h
      exact Or.inl (Prod.mk.inj (Option.some.inj h)).1.symm
    · rw [if_neg c] at h
      cases h1 : f_X7_owed 6 v w C with
      | none => rw [h1] at h; cases h
      | some r3 =>
        rw [h1, bnd_s] at h
        by_cases c2 : r3 = x
        · rw [if_pos c2] at h
          exact Or.inl (Prod.mk.inj (Option.some.inj h)).1.symm
        · rw [if_neg c2] at h
          cases h2 : f_X10_keepStep 5 C with
          | none => rw [h2] at h; cases h
          | some C5 =>
            rw [h2, bnd_s] at h
            cases h3 : f_X7_setOwed 6 v w x C5 with
            | none => rw [h3] at h; cases h
            | some C6 =>
              rw [h3, bnd_s] at h
              exact Or.inr (Prod.mk.inj (Option.some.inj h)).1.symm
  unfold f_X11_owe X11_owe_j34 at h
  by_cases c : f_X7_areTwo 6 v w C = 0
  · rw [if_pos c] at h; exact key _ h
  · rw [if_neg c] at h
    by_cases c2 : f_X11_within x 0 9999 = 0
    · rw [if_pos c2] at h; exact key _ h
    · rw [if_neg c2] at h; exact key _ h
theorem numY {sc i j : Nat} {C : CM} (hi : i < 24) (hj : j < 3) : f_X6_number sc (nI i) (nI j) C = some (C (sc + 5) (3 * i + j)) := by
  have e : nI i * 3 + nI j = nI (3 * i + j) := by rw [show (3 : Int32) = nI 3 from rfl, pk_mul, nI_add, Nat.mul_comm]
  unfold f_X6_number X6_number_j24
  rw [show (23 : Int32) = nI 23 from rfl, wi5 (show i ≤ 23 by omega) (by decide), if_neg n10, show (2 : Int32) = nI 2 from rfl, wi5 (show j ≤ 2 by omega) (by decide), if_neg n10, if_neg n10, e, gd_p (inbN (by omega) (by decide)), nI_clamp (by omega)]
theorem deedY {sc i : Nat} {C : CM} (hi : i < 24) : f_X6_deed sc (nI i) C = some (C (sc + 4) i) := by
  unfold f_X6_deed
  rw [show (23 : Int32) = nI 23 from rfl, wi5 (show i ≤ 23 by omega) (by decide), if_neg n10, gd_p (inbN hi (by decide)), nI_clamp (by omega)]
theorem hours_l {t sc : Nat} : ∀ d i m1 m2 C O, RelT t C O → i + d ≤ 60 → d < m1 → d < m2 → ∃ r C1 O1, X11_play_l190 sc m1 (nI (i + d)) (nI i) C = some (r, C1) ∧ X12_hours_l2 m2 (nI (i + d)) (nI i) O = some (r, O1) ∧ RelT t C1 O1 := by
  intro d
  induction d with
  | zero =>
    intro i m1 m2 C O h hi hm1 hm2
    obtain ⟨m1, rfl⟩ : ∃ j, m1 = j + 1 := ⟨m1 - 1, by omega⟩
    obtain ⟨m2, rfl⟩ : ∃ j, m2 = j + 1 := ⟨m2 - 1, by omega⟩
    rw [X11_play_l190, X12_hours_l2, Nat.add_zero, if_pos (Int32.le_refl _), if_pos (Int32.le_refl _)]
    exact ⟨_, _, _, rfl, rfl, h⟩
  | succ d ih =>
    intro i m1 m2 C O h hi hm1 hm2
    obtain ⟨m1, rfl⟩ : ∃ j, m1 = j + 1 := ⟨m1 - 1, by omega⟩
    obtain ⟨m2, rfl⟩ : ∃ j, m2 = j + 1 := ⟨m2 - 1, by omega⟩
    obtain ⟨r, C1, O1, a1, a2, a3⟩ := opt_hour t C O h 1
    rw [X11_play_l190, X12_hours_l2, if_neg (nI_ge (by omega) (by omega)), if_neg (nI_ge (by omega) (by omega)), a1, a2, bnd2_s, bnd2_s]
    by_cases c : r = -1
    · rw [if_pos c, if_pos c]; exact ⟨_, _, _, rfl, rfl, a3⟩
    · rw [if_neg c, if_neg c, nI_1, show i + (d + 1) = i + 1 + d by omega]
      exact ih (i + 1) m1 m2 C1 O1 a3 (by omega) (by omega) (by omega)
theorem play_l {t j : Nat} (hj : j < t) (ht : t ≤ 4) : ∀ d i m1 m2 C O, RelT t C O → i + d = 24 → d < m1 → d < m2 → ∃ r C1 O1, X11_played_l19 m1 (422 + 6 * j) (nI i) C = some (r, C1) ∧ X12_played_l21 m2 (nI j) (nI i) O = some (r, O1) ∧ RelT t C1 O1 := by
  intro d
  induction d with
  | zero =>
    intro i m1 m2 C O h hi hm1 hm2
    obtain ⟨m1, rfl⟩ : ∃ j, m1 = j + 1 := ⟨m1 - 1, by omega⟩
    obtain ⟨m2, rfl⟩ : ∃ j, m2 = j + 1 := ⟨m2 - 1, by omega⟩
    obtain ⟨n, m, e, n', t', m', e', h'⟩ := h
    obtain ⟨nc, q1, q2, q3, -⟩ := h'.2.2.2.1 j hj
    rw [X11_played_l19, X12_played_l21, q2, gd_p (inbN (by omega) (by decide)), nI_clamp (by omega), q3, if_pos (nI_le (by omega) (by omega)), if_pos (nI_le (by omega) (by omega))]
    exact ⟨_, _, _, rfl, rfl, h'.relT⟩
  | succ d ih =>
    intro i m1 m2 C O h hi hm1 hm2
    obtain ⟨m1, rfl⟩ : ∃ j, m1 = j + 1 := ⟨m1 - 1, by omega⟩
    obtain ⟨m2, rfl⟩ : ∃ j, m2 = j + 1 := ⟨m2 - 1, by omega⟩
    have hT : TextR j C O := by
      obtain ⟨n, m, e, n', t', m', e', h'⟩ := h
      exact h'.2.2.2.1 j hj
    obtain ⟨nc, q1, q2, q3, q4, -⟩ := hT
    by_cases hnc : nc ≤ i
    · rw [X11_played_l19, X12_played_l21, q2, gd_p (inbN (by omega) (by decide)), nI_clamp (by omega), q3, if_pos (nI_le hnc (by omega)), if_pos (nI_le hnc (by omega))]
      exact ⟨_, _, _, rfl, rfl, h⟩
    obtain ⟨w, w1, w2, w3, w4, w5⟩ := q4 i (by omega)
    have e24 : (24 : Int32) * nI j + nI i = nI (24 * j + i) := by rw [show (24 : Int32) = nI 24 from rfl, pk_mul, nI_add]
    have hin : 24 * j + i < 96 := by omega
    have next : ∀ C1 O1, RelT t C1 O1 → ∃ r C2 O2, X11_played_l19 m1 (422 + 6 * j) (nI (i + 1)) C1 = some (r, C2) ∧ X12_played_l21 m2 (nI j) (nI (i + 1)) O1 = some (r, O2) ∧ RelT t C2 O2 := fun C1 O1 h1 => ih (i + 1) m1 m2 C1 O1 h1 (by omega) (by omega) (by omega)
    have m0 : f_X6_number (422 + 6 * j) (nI i) 0 C = some (C (422 + 6 * j + 5) (3 * i + 0)) := numY (j := 0) (by omega) (by decide)
    have m1' : f_X6_number (422 + 6 * j) (nI i) 1 C = some (C (422 + 6 * j + 5) (3 * i + 1)) := numY (j := 1) (by omega) (by decide)
    have m2' : f_X6_number (422 + 6 * j) (nI i) 2 C = some (C (422 + 6 * j + 5) (3 * i + 2)) := numY (j := 2) (by omega) (by decide)
    rw [X11_played_l19, X12_played_l21, q2, gd_p (inbN (show j < 4 by omega) (by decide)), nI_clamp (show j < 2 ^ 31 by omega), q3, if_neg (nI_ge (by omega) (by omega)), if_neg (nI_ge (by omega) (by omega)), deedY (by omega), bnd_s, w2, e24, gd_p (inbN hin (show 96 < 2 ^ 31 by decide)), gd_p (inbN hin (show 96 < 2 ^ 31 by decide)), gd_p (inbN hin (show 96 < 2 ^ 31 by decide)), gd_p (inbN hin (show 96 < 2 ^ 31 by decide)), nI_clamp (show 24 * j + i < 2 ^ 31 by omega), w3]
    unfold f_X11_play
    rw [m0, bnd_s, m1', bnd_s, m2', bnd_s, deedY (by omega), bnd_s, w2]
    unfold X12_played_j135 X12_played_j157 X12_played_j193 X12_played_j214 X12_played_j238 X12_played_j256 X12_played_j272 X11_played_j49
    have u0 : used w 0 = true → C (422 + 6 * j + 5) (3 * i + 0) = O.1 453 (24 * j + i) := w4 0 (by decide)
    have u1 : used w 1 = true → C (422 + 6 * j + 5) (3 * i + 1) = O.1 454 (24 * j + i) := w4 1 (by decide)
    have u2 : used w 2 = true → C (422 + 6 * j + 5) (3 * i + 2) = O.1 455 (24 * j + i) := w4 2 (by decide)
    clear m0 m1' m2' w4
    generalize C (422 + 6 * j + 5) (3 * i + 0) = c0 at *
    generalize C (422 + 6 * j + 5) (3 * i + 1) = c1 at *
    generalize C (422 + 6 * j + 5) (3 * i + 2) = c2 at *
    have fin : ∀ (r : Int32) (C1 : CM) (O1 : OM), RelT t C1 O1 → ∃ r' C2 O2, (bnd2 (if r = -1 then some ((0 : Int32), C1) else some ((1 : Int32), C1)) fun r7 C7 => if r7 = 0 then some (nI i, C7) else X11_played_l19 m1 (422 + 6 * j) (nI i + 1) C7) = some (r', C2) ∧
        (if r = -1 then if (0 : Int32) = 0 then some (nI i, O1) else X12_played_l21 m2 (nI j) (nI i + 1) O1 else if (1 : Int32) = 0 then some (nI i, O1) else X12_played_l21 m2 (nI j) (nI i + 1) O1) = some (r', O2) ∧ RelT t C2 O2 := by
      intro r C1 O1 h1
      by_cases c : r = -1
      · rw [if_pos c, if_pos c, bnd2_s, if_pos rfl, if_pos rfl]
        exact ⟨_, _, _, rfl, rfl, h1⟩
      · rw [if_neg c, if_neg c, bnd2_s, if_neg n10, if_neg n10, nI_1]
        exact next C1 O1 h1
    have fin2 : ∀ (r : Int32) (C1 : CM) (O1 : OM), RelT t C1 O1 → ∃ r' C2 O2, (if r = 0 then some (nI i, C1) else X11_played_l19 m1 (422 + 6 * j) (nI i + 1) C1) = some (r', C2) ∧
        (if r = 0 then some (nI i, O1) else X12_played_l21 m2 (nI j) (nI i + 1) O1) = some (r', O2) ∧ RelT t C2 O2 := by
      intro r C1 O1 h1
      by_cases c : r = 0
      · rw [if_pos c, if_pos c]
        exact ⟨_, _, _, rfl, rfl, h1⟩
      · rw [if_neg c, if_neg c, nI_1]
        exact next C1 O1 h1
    rcases (show w = 0 ∨ w = 1 ∨ w = 2 ∨ w = 3 ∨ w = 4 ∨ w = 5 ∨ w = 6 ∨ w = 7 ∨ w = 8 ∨ w = 9 ∨ w = 10 ∨ w = 11 by omega) with rfl | rfl | rfl | rfl | rfl | rfl | rfl | rfl | rfl | rfl | rfl | rfl
    · rw [if_neg (show ¬ f_X11_isLaw (nI (128 + 0)) = 0 by decide), if_neg (show ¬ nI 0 = (4 : Int32) by decide), if_neg (show ¬ nI 0 = (5 : Int32) by decide), if_neg (show ¬ nI 0 = (6 : Int32) by decide), if_neg (show ¬ nI 0 = (7 : Int32) by decide), if_neg (show ¬ nI 0 = (8 : Int32) by decide), if_neg (show ¬ nI 0 = (9 : Int32) by decide), if_neg (show ¬ nI 0 = (10 : Int32) by decide), if_neg (show ¬ nI 0 = (11 : Int32) by decide), if_neg n10, nI_1]
      exact next C O h
    · rw [if_neg (show ¬ f_X11_isLaw (nI (128 + 1)) = 0 by decide), if_neg (show ¬ nI 1 = (4 : Int32) by decide), if_neg (show ¬ nI 1 = (5 : Int32) by decide), if_neg (show ¬ nI 1 = (6 : Int32) by decide), if_neg (show ¬ nI 1 = (7 : Int32) by decide), if_neg (show ¬ nI 1 = (8 : Int32) by decide), if_neg (show ¬ nI 1 = (9 : Int32) by decide), if_neg (show ¬ nI 1 = (10 : Int32) by decide), if_neg (show ¬ nI 1 = (11 : Int32) by decide), if_neg n10, nI_1]
      exact next C O h
    · rw [if_neg (show ¬ f_X11_isLaw (nI (128 + 2)) = 0 by decide), if_neg (show ¬ nI 2 = (4 : Int32) by decide), if_neg (show ¬ nI 2 = (5 : Int32) by decide), if_neg (show ¬ nI 2 = (6 : Int32) by decide), if_neg (show ¬ nI 2 = (7 : Int32) by decide), if_neg (show ¬ nI 2 = (8 : Int32) by decide), if_neg (show ¬ nI 2 = (9 : Int32) by decide), if_neg (show ¬ nI 2 = (10 : Int32) by decide), if_neg (show ¬ nI 2 = (11 : Int32) by decide), if_neg n10, nI_1]
      exact next C O h
    · rw [if_neg (show ¬ f_X11_isLaw (nI (128 + 3)) = 0 by decide), if_neg (show ¬ nI 3 = (4 : Int32) by decide), if_neg (show ¬ nI 3 = (5 : Int32) by decide), if_neg (show ¬ nI 3 = (6 : Int32) by decide), if_neg (show ¬ nI 3 = (7 : Int32) by decide), if_neg (show ¬ nI 3 = (8 : Int32) by decide), if_neg (show ¬ nI 3 = (9 : Int32) by decide), if_neg (show ¬ nI 3 = (10 : Int32) by decide), if_neg (show ¬ nI 3 = (11 : Int32) by decide), if_neg n10, nI_1]
      exact next C O h
    · rw [if_pos (show f_X11_isLaw (nI (128 + 4)) = 0 by decide), if_pos (show nI (128 + 4) = (132 : Int32) by decide), if_pos (show nI 4 = (4 : Int32) by decide), ← u0 rfl, ← u1 rfl, ← u2 rfl]
      obtain ⟨r, C1, O1, a1, a2, a3⟩ := opt_person t C O h c0 c1 c2
      rw [a1, a2, bnd2_s, bnd2_s]
      exact fin r C1 O1 a3
    · rw [if_pos (show f_X11_isLaw (nI (128 + 5)) = 0 by decide), if_neg (show ¬ nI (128 + 5) = (132 : Int32) by decide), if_pos (show nI (128 + 5) = (133 : Int32) by decide), if_neg (show ¬ nI 5 = (4 : Int32) by decide), if_pos (show nI 5 = (5 : Int32) by decide), ← u0 rfl, ← u1 rfl]
      obtain ⟨r, C1, O1, a1, a2, a3⟩ := opt_bow t C O h c0 c1
      rw [a1, a2, bnd2_s, bnd2_s]
      exact fin r C1 O1 a3
    · rw [if_pos (show f_X11_isLaw (nI (128 + 6)) = 0 by decide), if_neg (show ¬ nI (128 + 6) = (132 : Int32) by decide), if_neg (show ¬ nI (128 + 6) = (133 : Int32) by decide), if_pos (show nI (128 + 6) = (134 : Int32) by decide), if_neg (show ¬ nI 6 = (4 : Int32) by decide), if_neg (show ¬ nI 6 = (5 : Int32) by decide), if_pos (show nI 6 = (6 : Int32) by decide), ← u0 rfl, ← u1 rfl, ← u2 rfl]
      obtain ⟨r, C1, O1, a1, a2, a3⟩ := opt_owe t C O h c0 c1 c2
      rw [a1, a2, bnd2_s, bnd2_s, gd_p (owe01 a1), bnd2_s]
      exact fin2 r C1 O1 a3
    · rw [if_pos (show f_X11_isLaw (nI (128 + 7)) = 0 by decide), if_neg (show ¬ nI (128 + 7) = (132 : Int32) by decide), if_neg (show ¬ nI (128 + 7) = (133 : Int32) by decide), if_neg (show ¬ nI (128 + 7) = (134 : Int32) by decide), if_pos (show nI (128 + 7) = (135 : Int32) by decide), if_neg (show ¬ nI 7 = (4 : Int32) by decide), if_neg (show ¬ nI 7 = (5 : Int32) by decide), if_neg (show ¬ nI 7 = (6 : Int32) by decide), if_pos (show nI 7 = (7 : Int32) by decide), ← u0 rfl]
      obtain ⟨r, C1, O1, a1, a2, a3⟩ := opt_walk t C O h c0 1
      rw [a1, a2, bnd2_s, bnd2_s]
      exact fin r C1 O1 a3
    · rw [if_pos (show f_X11_isLaw (nI (128 + 8)) = 0 by decide), if_neg (show ¬ nI (128 + 8) = (132 : Int32) by decide), if_neg (show ¬ nI (128 + 8) = (133 : Int32) by decide), if_neg (show ¬ nI (128 + 8) = (134 : Int32) by decide), if_neg (show ¬ nI (128 + 8) = (135 : Int32) by decide), if_pos (show nI (128 + 8) = (136 : Int32) by decide), if_neg (show ¬ nI 8 = (4 : Int32) by decide), if_neg (show ¬ nI 8 = (5 : Int32) by decide), if_neg (show ¬ nI 8 = (6 : Int32) by decide), if_neg (show ¬ nI 8 = (7 : Int32) by decide), if_pos (show nI 8 = (8 : Int32) by decide), ← u0 rfl]
      obtain ⟨r, C1, O1, a1, a2, a3⟩ := opt_walk t C O h c0 (-1)
      rw [a1, a2, bnd2_s, bnd2_s]
      exact fin r C1 O1 a3
    · rw [if_pos (show f_X11_isLaw (nI (128 + 9)) = 0 by decide), if_neg (show ¬ nI (128 + 9) = (132 : Int32) by decide), if_neg (show ¬ nI (128 + 9) = (133 : Int32) by decide), if_neg (show ¬ nI (128 + 9) = (134 : Int32) by decide), if_neg (show ¬ nI (128 + 9) = (135 : Int32) by decide), if_neg (show ¬ nI (128 + 9) = (136 : Int32) by decide), if_pos (show nI (128 + 9) = (137 : Int32) by decide), if_neg (show ¬ nI 9 = (4 : Int32) by decide), if_neg (show ¬ nI 9 = (5 : Int32) by decide), if_neg (show ¬ nI 9 = (6 : Int32) by decide), if_neg (show ¬ nI 9 = (7 : Int32) by decide), if_neg (show ¬ nI 9 = (8 : Int32) by decide), if_pos (show nI 9 = (9 : Int32) by decide), ← u0 rfl, ← u1 rfl, ← u2 rfl]
      obtain ⟨r, C1, O1, a1, a2, a3⟩ := opt_clear t C O h c0 c1 c2
      rw [a1, a2, bnd2_s, bnd2_s]
      exact fin r C1 O1 a3
    · rw [if_pos (show f_X11_isLaw (nI (128 + 10)) = 0 by decide), if_neg (show ¬ nI (128 + 10) = (132 : Int32) by decide), if_neg (show ¬ nI (128 + 10) = (133 : Int32) by decide), if_neg (show ¬ nI (128 + 10) = (134 : Int32) by decide), if_neg (show ¬ nI (128 + 10) = (135 : Int32) by decide), if_neg (show ¬ nI (128 + 10) = (136 : Int32) by decide), if_neg (show ¬ nI (128 + 10) = (137 : Int32) by decide), if_pos (show nI (128 + 10) = (138 : Int32) by decide), if_neg (show ¬ nI 10 = (4 : Int32) by decide), if_neg (show ¬ nI 10 = (5 : Int32) by decide), if_neg (show ¬ nI 10 = (6 : Int32) by decide), if_neg (show ¬ nI 10 = (7 : Int32) by decide), if_neg (show ¬ nI 10 = (8 : Int32) by decide), if_neg (show ¬ nI 10 = (9 : Int32) by decide), if_pos (show nI 10 = (10 : Int32) by decide)]
      obtain ⟨r, C1, O1, a1, a2, a3⟩ := opt_feast t C O h 
      rw [a1, a2, bnd2_s, bnd2_s]
      exact fin r C1 O1 a3
    · rw [if_pos (show f_X11_isLaw (nI (128 + 11)) = 0 by decide), if_neg (show ¬ nI (128 + 11) = (132 : Int32) by decide), if_neg (show ¬ nI (128 + 11) = (133 : Int32) by decide), if_neg (show ¬ nI (128 + 11) = (134 : Int32) by decide), if_neg (show ¬ nI (128 + 11) = (135 : Int32) by decide), if_neg (show ¬ nI (128 + 11) = (136 : Int32) by decide), if_neg (show ¬ nI (128 + 11) = (137 : Int32) by decide), if_neg (show ¬ nI (128 + 11) = (138 : Int32) by decide), if_pos (show nI (128 + 11) = (139 : Int32) by decide), if_neg (show ¬ nI 11 = (4 : Int32) by decide), if_neg (show ¬ nI 11 = (5 : Int32) by decide), if_neg (show ¬ nI 11 = (6 : Int32) by decide), if_neg (show ¬ nI 11 = (7 : Int32) by decide), if_neg (show ¬ nI 11 = (8 : Int32) by decide), if_neg (show ¬ nI 11 = (9 : Int32) by decide), if_neg (show ¬ nI 11 = (10 : Int32) by decide), if_pos (show nI 11 = (11 : Int32) by decide), ← u0 rfl]
      obtain ⟨v, hv, ev⟩ := w5 rfl
      rw [← u0 rfl] at ev
      subst ev
      obtain ⟨r, C1, O1, a1, a2, a3⟩ := hours_l (sc := 422 + 6 * j) v 0 FU FU C O h (by omega) (by unfold FU; omega) (by unfold FU; omega)
      rw [Nat.zero_add] at a1 a2
      unfold f_X12_hours
      rw [show (X11_play_l190 (422 + 6 * j) FU (nI v) 0 C) = some (r, C1) from a1, show (X12_hours_l2 FU (nI v) 0 O) = some (r, O1) from a2, bnd2_s, bnd2_s]
      exact fin2 r C1 O1 a3
theorem opp_played : op_played Rel := by
  intro C O h v
  obtain ⟨n, t, m, e, n', t', m', e', h'⟩ := h
  have ht : C 5 2 = nI t := h'.1.2.1.2.2.1
  have hA : O.1 447 1 = nI t := h'.1.2.1.2.2.2.1
  have ht4 := h'.1.1.2.1
  unfold f_X11_played f_X12_played f_X11_isText
  rw [ht, hA, in_eq]
  rcases wi_n (n := t) (by omega) v with ⟨w1, -⟩ | ⟨j, hj, rfl, w1⟩
  · rw [w1, gd_p (Or.inl rfl), bnd_s, if_pos rfl, if_pos rfl]
    exact ⟨_, _, _, rfl, rfl, h'.rel⟩
  · rw [w1, gd_p (Or.inr rfl), bnd_s, if_neg n10, if_neg n10]
    obtain ⟨sc, s1, -, s3⟩ := scriptY (v := nI j) ht4 (Or.inr ⟨j, hj, rfl⟩)
    have esc : sc = 422 + 6 * j := by
      rcases s3 with ⟨v1, -⟩ | ⟨i, hi, v1, v2⟩
      · exact absurd v1 (nm1_ne (by omega))
      · have : j = i := (nI_eq (by omega) (by omega)).mp v1
        rw [v2, this]
    obtain ⟨r, C1, O1, a1, a2, a3⟩ := play_l hj ht4 24 0 FU FU C O h'.relT (by omega) (by unfold FU; omega) (by unfold FU; omega)
    rw [s1, bnd_s, esc]
    exact ⟨r, C1, O1, a1, a2, a3.rel⟩
