/-! The reader: a deed -/
section
variable {L : Nat} {b : Nat → Nat} {s0 nc : Nat} {C : CM} {O : OM}
theorem DS.told (h : DS L b s0 C O) {x y z : Int32} : DS L b s0 C (oup (oup (oup O 465 nc x) 466 nc y) 467 nc z) := ((h.row (c := 465) (by decide) (by decide)).row (c := 466) (by decide) (by decide)).row (c := 467) (by decide) (by decide)
theorem deed_3 (hnc : nc < 24) (h6 : C 407 6 = nI (nc + 1)) (h30 : O.1 446 30 = nI nc) (h : DS L b s0 C O) {lo h1 h2 h3 w1 w2 : Nat} (k0 : lo ≤ h1) (k1 : h1 ≤ 9999) (k2 : h2 ≤ 9999) (k3 : h3 ≤ 9999) (hw1 : w1 < 32) (hw2 : w2 < 32) :
    ∃ C1 O1, (bnd (f_X4_readNumber (nI 0) (nI lo) (nI h1) C) (fun C2 => bnd (f_X4_expect (nI (128 + w1)) C2) (fun C3 => bnd (f_X4_readNumber (nI 1) (nI 0) (nI h2) C3) (fun C4 => bnd (f_X4_expect (nI (128 + w2)) C4) (fun C5 => bnd (f_X4_readNumber (nI 2) (nI 0) (nI h3) C5) (fun C6 => some C6)))))) = some C1 ∧
      (bnd2 (f_X12_number (nI lo) (nI h1) O) (fun r2 O2 => bnd2 (f_X12_numberBehind (nI (wm w1)) (nI 0) (nI h2) O2) (fun r3 O3 => bnd2 (f_X12_numberBehind (nI (wm w2)) (nI 0) (nI h3) O3) (fun r4 O4 => X12_doing_j193 r2 r3 r4 O4)))) = some O1 ∧
      DS L b s0 C1 O1 ∧ DX nc C O C1 O1 ∧ (C1 406 1 = 0 → ∀ j, j < 3 → C1 412 (3 * nc + j) = O1.1 (465 + j) nc) := by
  obtain ⟨C2, O2, x, a1, a2, a3, a4, a5⟩ := num_d (i := 0) (by decide) hnc k0 k1 h6 h
  obtain ⟨C3, C4, O4, y, b1, b2, b3, b4, b5, b6⟩ := beh_d (i := 1) hw1 (by decide) hnc k2 (by rw [a4.1 407 (by decide) (by decide) (by decide)]; exact h6) a3
  obtain ⟨C5, C6, O6, z, c1, c2, c3, c4, c5, c6⟩ := beh_d (i := 2) hw2 (by decide) hnc k3 (by rw [b5.1 407 (by decide) (by decide) (by decide), a4.1 407 (by decide) (by decide) (by decide)]; exact h6) b4
  have h30' : O6.1 446 30 = nI nc := by rw [c5.2.2.2.2.2.1 30 (by decide), b5.2.2.2.2.2.1 30 (by decide), a4.2.2.2.2.2.1 30 (by decide)]; exact h30
  refine ⟨C6, _, by rw [a1, bnd_s, b1, bnd_s, b2, bnd_s, c1, bnd_s, c2, bnd_s], by rw [a2, bnd2_s, b3, bnd2_s, c3, bnd2_s, j193_v h30' hnc], c4.told, (((a4.x (by omega)).trans (b5.x (by omega))).trans (c5.x (by omega))).trans DX.told, fun e j hj => ?_⟩
  obtain ⟨d1, d2⟩ := c6 e
  obtain ⟨d3, d4⟩ := b6 d1
  obtain ⟨d5, d6, d7⟩ := a5 d3
  have : j = 0 ∨ j = 1 ∨ j = 2 := by omega
  rcases this with rfl | rfl | rfl
  · rw [oup_ne (by decide), oup_ne (by decide), o2s, c5.2.2.2.1 _ (by omega), b5.2.2.2.1 _ (by omega)]
    exact d6
  · rw [oup_ne (by decide), o2s, c5.2.2.2.1 _ (by omega)]
    exact d4
  · rw [o2s]
    exact d2
theorem deed_2 (hnc : nc < 24) (h6 : C 407 6 = nI (nc + 1)) (h30 : O.1 446 30 = nI nc) (h : DS L b s0 C O) {lo h1 h2 w1 : Nat} {z : Int32} (k0 : lo ≤ h1) (k1 : h1 ≤ 9999) (k2 : h2 ≤ 9999) (hw1 : w1 < 32) :
    ∃ C1 O1, (bnd (f_X4_readNumber (nI 0) (nI lo) (nI h1) C) (fun C2 => bnd (f_X4_expect (nI (128 + w1)) C2) (fun C3 => bnd (f_X4_readNumber (nI 1) (nI 0) (nI h2) C3) (fun C4 => some C4)))) = some C1 ∧
      (bnd2 (f_X12_number (nI lo) (nI h1) O) (fun r2 O2 => bnd2 (f_X12_numberBehind (nI (wm w1)) (nI 0) (nI h2) O2) (fun r3 O3 => X12_doing_j193 r2 r3 z O3))) = some O1 ∧
      DS L b s0 C1 O1 ∧ DX nc C O C1 O1 ∧ (C1 406 1 = 0 → ∀ j, j < 2 → C1 412 (3 * nc + j) = O1.1 (465 + j) nc) := by
  obtain ⟨C2, O2, x, a1, a2, a3, a4, a5⟩ := num_d (i := 0) (by decide) hnc k0 k1 h6 h
  obtain ⟨C3, C4, O4, y, b1, b2, b3, b4, b5, b6⟩ := beh_d (i := 1) hw1 (by decide) hnc k2 (by rw [a4.1 407 (by decide) (by decide) (by decide)]; exact h6) a3
  have h30' : O4.1 446 30 = nI nc := by rw [b5.2.2.2.2.2.1 30 (by decide), a4.2.2.2.2.2.1 30 (by decide)]; exact h30
  refine ⟨C4, _, by rw [a1, bnd_s, b1, bnd_s, b2, bnd_s], by rw [a2, bnd2_s, b3, bnd2_s, j193_v h30' hnc], b4.told, ((a4.x (by omega)).trans (b5.x (by omega))).trans DX.told, fun e j hj => ?_⟩
  obtain ⟨d3, d4⟩ := b6 e
  obtain ⟨d5, d6, d7⟩ := a5 d3
  have : j = 0 ∨ j = 1 := by omega
  rcases this with rfl | rfl
  · rw [oup_ne (by decide), oup_ne (by decide), o2s, b5.2.2.2.1 _ (by omega)]
    exact d6
  · rw [oup_ne (by decide), o2s]
    exact d4
theorem deed_1 (hnc : nc < 24) (h6 : C 407 6 = nI (nc + 1)) (h30 : O.1 446 30 = nI nc) (h : DS L b s0 C O) {lo h1 : Nat} {y z : Int32} (k0 : lo ≤ h1) (k1 : h1 ≤ 9999) :
    ∃ C1 O1, (bnd (f_X4_readNumber (nI 0) (nI lo) (nI h1) C) (fun C2 => some C2)) = some C1 ∧
      (bnd2 (f_X12_number (nI lo) (nI h1) O) (fun r2 O2 => X12_doing_j193 r2 y z O2)) = some O1 ∧
      DS L b s0 C1 O1 ∧ DX nc C O C1 O1 ∧ (C1 406 1 = 0 → C1 412 (3 * nc) = O1.1 465 nc ∧ ∃ v, v ≤ h1 ∧ O1.1 465 nc = nI v) := by
  obtain ⟨C2, O2, x, a1, a2, a3, a4, a5⟩ := num_d (i := 0) (by decide) hnc k0 k1 h6 h
  have h30' : O2.1 446 30 = nI nc := by rw [a4.2.2.2.2.2.1 30 (by decide)]; exact h30
  refine ⟨C2, _, by rw [a1, bnd_s], by rw [a2, bnd2_s, j193_v h30' hnc], a3.told, (a4.x (by omega)).trans DX.told, fun e => ?_⟩
  obtain ⟨d5, d6, v, d7, d8, d9⟩ := a5 e
  rw [oup_ne (by decide), oup_ne (by decide), o2s]
  exact ⟨d6, v, d8, d9⟩
theorem deed_d {w : Nat} (hw : 4 ≤ w) (hw2 : w < 12) (hnc : nc < 24) (h6 : C 407 6 = nI (nc + 1)) (h30 : O.1 446 30 = nI nc) (h31 : O.1 446 31 = nI w) (h : DS L b s0 C O) :
    ∃ C1 O1, f_X4_readDeed (nI (128 + w)) C = some C1 ∧ f_X12_doing O = some O1 ∧ DS L b s0 C1 O1 ∧ DX nc C O C1 O1 ∧ (C1 406 1 = 0 → (∀ j, j < 3 → used w j = true → C1 412 (3 * nc + j) = O1.1 (465 + j) nc) ∧ (w = 11 → ∃ v, v ≤ 60 ∧ O1.1 465 nc = nI v)) := by
  have ne : ∀ k : Nat, k < 1000 → k ≠ w → ¬ O.1 446 31 = nI k := fun k h1 h2 e => by rw [h31] at e; exact h2 ((nI_eq (by omega) (by omega)).mp e).symm
  have nc2 : ∀ k : Nat, k < 1000 → k ≠ 128 + w → ¬ nI (128 + w) = nI k := fun k h1 h2 e => h2 ((nI_eq (by omega) (by omega)).mp e).symm
  unfold f_X4_readDeed f_X12_doing
  have cs : w = 4 ∨ w = 5 ∨ w = 6 ∨ (w = 7 ∨ w = 8) ∨ w = 9 ∨ w = 10 ∨ w = 11 := by omega
  rcases cs with rfl | rfl | rfl | hw78 | rfl | rfl | rfl
  · obtain ⟨C1, O1, r1, r2, r3, r4, r5⟩ := deed_3 hnc h6 h30 h (lo := 0) (h1 := 99) (h2 := 99) (h3 := 7) (w1 := 12) (w2 := 21) (by decide) (by decide) (by decide) (by decide) (by decide) (by decide)
    refine ⟨C1, O1, ?_, ?_, r3, r4, fun e => ⟨fun j hj _ => r5 e j hj, fun e => absurd e (by decide)⟩⟩
    · rw [if_pos (show nI (128 + 4) = (132 : Int32) from rfl)]
      exact r1
    · rw [if_pos (show O.1 446 31 = (4 : Int32) from h31)]
      exact r2
  · obtain ⟨C1, O1, r1, r2, r3, r4, r5⟩ := deed_2 hnc h6 h30 h (lo := 0) (h1 := 6) (h2 := 6) (w1 := 22) (z := -1) (by decide) (by decide) (by decide) (by decide)
    refine ⟨C1, O1, ?_, ?_, r3, r4, fun e => ⟨fun j hj hu => r5 e j ?_, fun e => absurd e (by decide)⟩⟩
    · rw [if_neg (show ¬ nI (128 + 5) = (132 : Int32) from nc2 132 (by decide) (by decide)), if_pos (show nI (128 + 5) = (133 : Int32) from rfl)]
      exact r1
    · rw [if_neg (show ¬ O.1 446 31 = (4 : Int32) from ne 4 (by decide) (by decide)), if_pos (show O.1 446 31 = (5 : Int32) from h31)]
      exact r2
    · have : j = 0 ∨ j = 1 ∨ j = 2 := by omega
      rcases this with rfl | rfl | rfl
      · decide
      · decide
      · exact absurd hu (by decide)
  · obtain ⟨C1, O1, r1, r2, r3, r4, r5⟩ := deed_3 hnc h6 h30 h (lo := 0) (h1 := 6) (h2 := 6) (h3 := 9999) (w1 := 22) (w2 := 23) (by decide) (by decide) (by decide) (by decide) (by decide) (by decide)
    refine ⟨C1, O1, ?_, ?_, r3, r4, fun e => ⟨fun j hj _ => r5 e j hj, fun e => absurd e (by decide)⟩⟩
    · rw [if_neg (show ¬ nI (128 + 6) = (132 : Int32) from nc2 132 (by decide) (by decide)), if_neg (show ¬ nI (128 + 6) = (133 : Int32) from nc2 133 (by decide) (by decide)), if_pos (show nI (128 + 6) = (134 : Int32) from rfl)]
      exact r1
    · rw [if_neg (show ¬ O.1 446 31 = (4 : Int32) from ne 4 (by decide) (by decide)), if_neg (show ¬ O.1 446 31 = (5 : Int32) from ne 5 (by decide) (by decide)), if_pos (show O.1 446 31 = (6 : Int32) from h31)]
      exact r2
  · obtain ⟨C1, O1, r1, r2, r3, r4, r5⟩ := deed_1 hnc h6 h30 h (lo := 0) (h1 := 6) (y := -1) (z := -1) (by decide) (by decide)
    refine ⟨C1, O1, ?_, ?_, r3, r4, fun e => ⟨fun j hj hu => ?_, fun e => absurd e (by omega)⟩⟩
    · rw [if_neg (show ¬ nI (128 + w) = (132 : Int32) from nc2 132 (by decide) (by omega)), if_neg (show ¬ nI (128 + w) = (133 : Int32) from nc2 133 (by decide) (by omega)), if_neg (show ¬ nI (128 + w) = (134 : Int32) from nc2 134 (by decide) (by omega))]
      rcases hw78 with rfl | rfl
      · rw [if_pos (show nI (128 + 7) = (135 : Int32) from rfl)]
        exact r1
      · rw [if_neg (show ¬ nI (128 + 8) = (135 : Int32) from nc2 135 (by decide) (by decide)), if_pos (show nI (128 + 8) = (136 : Int32) from rfl)]
        exact r1
    · rw [if_neg (show ¬ O.1 446 31 = (4 : Int32) from ne 4 (by decide) (by omega)), if_neg (show ¬ O.1 446 31 = (5 : Int32) from ne 5 (by decide) (by omega)), if_neg (show ¬ O.1 446 31 = (6 : Int32) from ne 6 (by decide) (by omega)), if_neg (show ¬ O.1 446 31 = (9 : Int32) from ne 9 (by decide) (by omega)), if_neg (show ¬ O.1 446 31 = (10 : Int32) from ne 10 (by decide) (by omega)), if_neg (show ¬ O.1 446 31 = (11 : Int32) from ne 11 (by decide) (by omega))]
      exact r2
    · have : j = 0 ∨ j = 1 ∨ j = 2 := by omega
      rcases hw78 with rfl | rfl
      · rcases this with rfl | rfl | rfl
        · exact (r5 e).1
        · exact absurd hu (by decide)
        · exact absurd hu (by decide)
      · rcases this with rfl | rfl | rfl
        · exact (r5 e).1
        · exact absurd hu (by decide)
        · exact absurd hu (by decide)
  · obtain ⟨C1, O1, r1, r2, r3, r4, r5⟩ := deed_3 hnc h6 h30 h (lo := 0) (h1 := 6) (h2 := 6) (h3 := 6) (w1 := 24) (w2 := 24) (by decide) (by decide) (by decide) (by decide) (by decide) (by decide)
    refine ⟨C1, O1, ?_, ?_, r3, r4, fun e => ⟨fun j hj _ => r5 e j hj, fun e => absurd e (by decide)⟩⟩
    · rw [if_neg (show ¬ nI (128 + 9) = (132 : Int32) from nc2 132 (by decide) (by decide)), if_neg (show ¬ nI (128 + 9) = (133 : Int32) from nc2 133 (by decide) (by decide)), if_neg (show ¬ nI (128 + 9) = (134 : Int32) from nc2 134 (by decide) (by decide)), if_neg (show ¬ nI (128 + 9) = (135 : Int32) from nc2 135 (by decide) (by decide)), if_neg (show ¬ nI (128 + 9) = (136 : Int32) from nc2 136 (by decide) (by decide)), if_pos (show nI (128 + 9) = (137 : Int32) from rfl)]
      exact r1
    · rw [if_neg (show ¬ O.1 446 31 = (4 : Int32) from ne 4 (by decide) (by decide)), if_neg (show ¬ O.1 446 31 = (5 : Int32) from ne 5 (by decide) (by decide)), if_neg (show ¬ O.1 446 31 = (6 : Int32) from ne 6 (by decide) (by decide)), if_pos (show O.1 446 31 = (9 : Int32) from h31)]
      exact r2
  · refine ⟨C, _, ?_, ?_, h.told (nc := nc) (x := -1) (y := -1) (z := -1), DX.told, fun e => ⟨fun j hj hu => ?_, fun e => absurd e (by decide)⟩⟩
    · rw [if_neg (show ¬ nI (128 + 10) = (132 : Int32) from nc2 132 (by decide) (by decide)), if_neg (show ¬ nI (128 + 10) = (133 : Int32) from nc2 133 (by decide) (by decide)), if_neg (show ¬ nI (128 + 10) = (134 : Int32) from nc2 134 (by decide) (by decide)), if_neg (show ¬ nI (128 + 10) = (135 : Int32) from nc2 135 (by decide) (by decide)), if_neg (show ¬ nI (128 + 10) = (136 : Int32) from nc2 136 (by decide) (by decide)), if_neg (show ¬ nI (128 + 10) = (137 : Int32) from nc2 137 (by decide) (by decide)), if_neg (show ¬ nI (128 + 10) = (139 : Int32) from nc2 139 (by decide) (by decide))]
    · rw [if_neg (show ¬ O.1 446 31 = (4 : Int32) from ne 4 (by decide) (by decide)), if_neg (show ¬ O.1 446 31 = (5 : Int32) from ne 5 (by decide) (by decide)), if_neg (show ¬ O.1 446 31 = (6 : Int32) from ne 6 (by decide) (by decide)), if_neg (show ¬ O.1 446 31 = (9 : Int32) from ne 9 (by decide) (by decide)), if_pos (show O.1 446 31 = (10 : Int32) from h31)]
      exact j193_v h30 hnc
    · have : j = 0 ∨ j = 1 ∨ j = 2 := by omega
      rcases this with rfl | rfl | rfl
      · exact absurd hu (by decide)
      · exact absurd hu (by decide)
      · exact absurd hu (by decide)
  · obtain ⟨C1, O1, r1, r2, r3, r4, r5⟩ := deed_1 hnc h6 h30 h (lo := 1) (h1 := 60) (y := -1) (z := -1) (by decide) (by decide)
    refine ⟨C1, O1, ?_, ?_, r3, r4, fun e => ⟨fun j hj hu => ?_, fun _ => (r5 e).2⟩⟩
    · rw [if_neg (show ¬ nI (128 + 11) = (132 : Int32) from nc2 132 (by decide) (by decide)), if_neg (show ¬ nI (128 + 11) = (133 : Int32) from nc2 133 (by decide) (by decide)), if_neg (show ¬ nI (128 + 11) = (134 : Int32) from nc2 134 (by decide) (by decide)), if_neg (show ¬ nI (128 + 11) = (135 : Int32) from nc2 135 (by decide) (by decide)), if_neg (show ¬ nI (128 + 11) = (136 : Int32) from nc2 136 (by decide) (by decide)), if_neg (show ¬ nI (128 + 11) = (137 : Int32) from nc2 137 (by decide) (by decide)), if_pos (show nI (128 + 11) = (139 : Int32) from rfl)]
      exact r1
    · rw [if_neg (show ¬ O.1 446 31 = (4 : Int32) from ne 4 (by decide) (by decide)), if_neg (show ¬ O.1 446 31 = (5 : Int32) from ne 5 (by decide) (by decide)), if_neg (show ¬ O.1 446 31 = (6 : Int32) from ne 6 (by decide) (by decide)), if_neg (show ¬ O.1 446 31 = (9 : Int32) from ne 9 (by decide) (by decide)), if_neg (show ¬ O.1 446 31 = (10 : Int32) from ne 10 (by decide) (by decide)), if_pos (show O.1 446 31 = (11 : Int32) from h31)]
      exact r2
    · have : j = 0 ∨ j = 1 ∨ j = 2 := by omega
      rcases this with rfl | rfl | rfl
      · exact (r5 e).1
      · exact absurd hu (by decide)
      · exact absurd hu (by decide)
end
