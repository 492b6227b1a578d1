/-! The reader: a choice's parts -/
section
variable {n d : Nat} {L : Nat} {b : Nat → Nat} {Lw q nw a fr m A : Nat} {σ : List Bool} {C : CM} {O : OM}
/-- behind else -/
theorem cho_3 (hd : d < 8) (hS : SumS n (d + 1)) {s2 m2 : Nat} {C2 : CM} {O2 : OM}
    (z : PZ L b Lw s2 (d + 1) (q + 1) nw (a + (m2 + 1)) (fr + (m2 + 1)) C2 O2) (st : O2.1 446 28 = nI 1) (ha : a + (m2 + 1) ≤ s2) (hfr : fr ≤ a + 24) (hq : q + 1 ≤ 2 * (d + 1)) (hnw : nw ≤ 4 * d + 2) (hσ : σ.length ≤ 5 * d + 2) (hb : WB 1 (q + 1) nw O2) (hm : m ≤ m2)
    (rc : RC A O (PT s2 + 1) O2) (kp : KPR q nw (a + m) (fr + m) C O C2 O2) (F2 : O2.1 458 q = nI 9) (R2 : O2.1 462 (q + 1) = nI (fr + m2)) (K2 : C2 408 (a + m2) = nI 158) :
    ∃ C1, bnd (RDf n 0 (nI (d + 1)) C2) (fun C8 => cT3 (nI (a + m2)) C8) = some C1 ∧ (EF A C O C1 ∨ ∃ O1 s1 m3, MD f_X12_oneIsOver A O (PT s1 + 2) O1 ∧ PZ L b Lw s1 d q nw (a + m3) (fr + m3) C1 O1 ∧ KPR q nw (a + m) (fr + m) C O C1 O1 ∧ m2 + 1 < m3 ∧ m3 + s2 ≤ m2 + 1 + s1 ∧ Sg a fr Lw (m2 + 1) m3 σ (false :: σ) (C1 408) (O1.1 468) (O1.1 469) ∧ C1 408 (a + m2) = nI (256 * (a + m3) + 158) ∧ O1.1 469 (fr + m2) = nI (fr + m3) ∧ (∀ j, j < a + m2 → C1 408 j = C2 408 j) ∧ (∀ j, j < fr + m2 + 1 → O1.1 468 j = O2.1 468 j) ∧ ∀ j, j < fr + m2 → O1.1 469 j = O2.1 469 j) := by
  have wb3 : WB 3 (q + 1) nw O2 := hb.r (by decide)
  obtain ⟨C3, r1, r2⟩ := hS L b Lw s2 (q + 1) nw a fr (m2 + 1) σ C2 O2 ⟨z, st, ha, hfr, by omega, by omega, by omega, by omega, wb3, 9, F2, ⟨by decide, by decide, by decide, by decide⟩⟩
  rw [r1, bnd_s]
  rcases r2 with r2 | ⟨O4, s4, m4, no4, pd, hok⟩
  · obtain ⟨C1, x1, x2⟩ := cT3_e (r6 := nI (a + m2)) (r2.pre rc kp.1 kp.2.1)
    exact ⟨C1, x1, Or.inl x2⟩
  · have hok' := hok
    obtain ⟨q1, q2, q3, q4, q5, q6, q7, q8, q9, q10, q11, q12, q13⟩ := hok'
    have hle := q3.1.le
    have rc4 := rc.trans q1
    have kp4 : KPR q nw (a + m) (fr + m) C O C3 O4 := kp.trans q6 (by omega) (Nat.le_refl _) (by omega) (by omega)
    have F4 : O4.1 458 q = nI 9 := by rw [q6.2.2.1 q (by omega)]; exact F2
    by_cases c : C3 404 2 = nI 159
    · obtain ⟨O5, e1, e2, e3, e4, e5, e6⟩ := works_end hok (by omega) (by omega) (by omega) (by omega) hfr ha wb3
      have R5 : O5.1 462 (q + 1) = nI (fr + m2) := by rw [(e3.2.2.2.1 (q + 1) (Nat.le_refl _)).2]; exact R2
      have e2' := e2
      obtain ⟨-, -, -, -, -, -, -, -, op5, fn5, -, ln5, on5⟩ := e2'
      obtain ⟨C6, O6, s6, x1, x2, x3, x4, x5, x6⟩ := (((e2.row (c := 469) (k := fr + m2) (x := nI (fr + m4)) (by decide) (by decide)).fr (nf' := q)).op (d' := d)).next (by rw [c]; decide)
      have hle6 := x4.1.le
      have w23 := q3.1.word 31 (by decide)
      rw [if_pos c] at w23
      have w23' : f_X12_isWord 23 O4 = 1 := w23
      have eg : f_X12_goesOn O4 = f_X12_oneIsOver O6 := by
        rw [goes_no q3 (by omega) q13, F4]
        unfold X12_goesOn_j65 X12_goesOn_j116 X12_goesOn_j148
        rw [if_neg (show ¬ nI 9 = (6 : Int32) by decide), if_neg (show ¬ nI 9 = (8 : Int32) by decide), if_pos (show nI 9 = (9 : Int32) from rfl), w23', if_neg n10, show (3 : Int32) = nI 3 from rfl, e1, bnd_s, fn5, gd_p (inbN (by omega) (by decide)), nI_clamp (by omega), R5, gd_p (inbN (by omega) (by decide)), nI_clamp (by omega), on5, oup_ne (show (446 : Nat) ≠ 469 by decide), fn5, nI_pred, o2n (by decide), oup_ne (show (446 : Nat) ≠ 469 by decide), op5, nI_pred, x2, bnd_s, bnd_id]
      have l6 : C6 407 5 = nI (a + m4) := by rw [x5.1 407 (by decide)]; exact ln5
      have k6 : C6 408 (a + m2) = nI 158 := by rw [x5.1 408 (by decide), q6.2.2.2.2.2.1 (a + m2) (by omega)]; exact K2
      have el := lead_v l6 (by omega) (by omega) k6 (by decide)
      refine ⟨_, by unfold cT3; rw [exp_y q3.2.1 (show C3 404 2 = (159 : Int32) from c) x1, bnd_s, el, bnd_s], Or.inr ⟨O6, s6, m4, rc4.md (MD.one (fun n => lp_2 q3.2.2.2.1 q2) eg (by unfold PT; omega)), x4.c8, ?_, by omega, by omega, e6.mono (fun i b1 b2 => ⟨?_, ?_, ?_⟩), u2s, ?_, fun j hj => ?_, fun j hj => ?_, fun j hj => ?_⟩⟩
      · exact ((((kp.trans e3 (by omega) (Nat.le_refl _) (by omega) (by omega)).tr (KPR.o (c := 469) (k := fr + m2) (by omega))).tr KPR.fo).tr (KPR.n x5 x6)).tr (KPR.c8 (by omega))
      · rw [u2n (by omega), x5.1 408 (by decide)]
      · rw [x6.1 468 (by decide), oup_ne (by decide), oup_ne (by decide), oup_ne (by decide)]
      · rw [x6.1 469 (by decide), oup_ne (by decide), oup_ne (by decide), o2n (by omega)]
      · rw [x6.1 469 (by decide), oup_ne (by decide), oup_ne (by decide), o2s]
      · rw [u2n (by omega), x5.1 408 (by decide)]
        exact q6.2.2.2.2.2.1 j (by omega)
      · rw [x6.1 468 (by decide), oup_ne (by decide), oup_ne (by decide), oup_ne (by decide)]
        exact (e3.2.2.2.2.2.2 j (by omega)).1
      · rw [x6.1 469 (by decide), oup_ne (by decide), oup_ne (by decide), o2n (by omega)]
        exact (e3.2.2.2.2.2.2 j (by omega)).2
    · obtain ⟨C6, y1, y2⟩ := err_rc (v := 1) q3 (by omega) (by decide) (by decide) kp4.1 kp4.2.1 (rc4.trans (RC.one (fun n => lp_2 q3.2.2.2.1 q2) (goes_bad q3 (by omega) F4 q13 (Or.inr (Or.inr (Or.inl ⟨rfl, c⟩)))) (by omega)))
      obtain ⟨C7, a1, a2, a3, a4, a5⟩ := lead_t (nI (a + m2)) y2.ln
      exact ⟨C7, by unfold cT3; rw [exp_n q3.2.1 (show ¬ C3 404 2 = (159 : Int32) from c) y1, bnd_s, a1, bnd_s], Or.inl (y2.keep a2 a3 a5)⟩
/-- behind then -/
theorem cho_2 (hd : d < 8) {k : Nat} (hS : SumS (k + 3) (d + 1)) {s2 m1 : Nat} {C2 : CM} {O2 : OM}
    (z : PZ L b Lw s2 (d + 1) (q + 1) nw (a + (m1 + 1)) (fr + (m1 + 1)) C2 O2) (st : O2.1 446 28 = nI 1) (ha : a + (m1 + 1) ≤ s2) (hfr : fr ≤ a + 24) (hq : q + 1 ≤ 2 * (d + 1)) (hnw : nw ≤ 4 * d + 2) (hσ : σ.length ≤ 5 * d + 2) (hb : WB 1 (q + 1) nw O2) (hm : m ≤ m1)
    (rc : RC A O (PT s2 + 1) O2) (kp : KPR q nw (a + m) (fr + m) C O C2 O2) (F2 : O2.1 458 q = nI 8) (R2 : O2.1 462 (q + 1) = nI (fr + m1)) (K2 : C2 408 (a + m1) = nI 157) (Q2 : O2.1 468 (fr + m1) = nI 404) :
    ∃ C1, bnd (RDf (k + 3) 0 (nI (d + 1)) C2) (fun C4 => cT2 (k + 3) (nI (d + 1)) (nI (a + m1)) C4) = some C1 ∧ (EF A C O C1 ∨ ∃ O1 s1 m3, MD f_X12_oneIsOver A O (PT s1 + 2) O1 ∧ PZ L b Lw s1 d q nw (a + m3) (fr + m3) C1 O1 ∧ KPR q nw (a + m) (fr + m) C O C1 O1 ∧ m1 + 1 < m3 ∧ m3 + s2 ≤ m1 + 1 + s1 ∧ Sg a fr Lw m1 m3 (true :: σ) (false :: σ) (C1 408) (O1.1 468) (O1.1 469) ∧ (∀ j, j < a + m1 → C1 408 j = C2 408 j) ∧ ∀ j, j < fr + m1 → O1.1 468 j = O2.1 468 j ∧ O1.1 469 j = O2.1 469 j) := by
  have wb3 : WB 3 (q + 1) nw O2 := hb.r (by decide)
  obtain ⟨C3, r1, r2⟩ := hS L b Lw s2 (q + 1) nw a fr (m1 + 1) σ C2 O2 ⟨z, st, ha, hfr, by omega, by omega, by omega, by omega, wb3, 8, F2, ⟨by decide, by decide, by decide, by decide⟩⟩
  rw [r1, bnd_s]
  rcases r2 with r2 | ⟨O4, s4, m4, no4, pd, hok⟩
  · obtain ⟨C1, x1, x2⟩ := cT2_e (k := k) (d := nI (d + 1)) (r3 := nI (a + m1)) (r2.pre rc kp.1 kp.2.1)
    exact ⟨C1, x1, Or.inl x2⟩
  · have hok' := hok
    obtain ⟨q1, q2, q3, q4, q5, q6, q7, q8, q9, q10, q11, q12, q13⟩ := hok'
    have hle := q3.1.le
    have rc4 := rc.trans q1
    have kp4 : KPR q nw (a + m) (fr + m) C O C3 O4 := kp.trans q6 (by omega) (Nat.le_refl _) (by omega) (by omega)
    have F4 : O4.1 458 q = nI 8 := by rw [q6.2.2.1 q (by omega)]; exact F2
    by_cases c : C3 404 2 = nI 158
    · obtain ⟨O5, e1, e2, e3, e4, e5, e6⟩ := works_end hok (by omega) (by omega) (by omega) (by omega) hfr ha wb3
      have R5 : O5.1 462 (q + 1) = nI (fr + m1) := by rw [(e3.2.2.2.1 (q + 1) (Nat.le_refl _)).2]; exact R2
      have e2' := e2
      obtain ⟨-, -, -, -, -, -, -, -, op5, fn5, -, ln5, on5⟩ := e2'
      obtain ⟨C5, O7, s7, x1, x2, x3, x4, x5, x6⟩ := ((((e2.row (c := 462) (k := q + 1) (x := nI (fr + m4)) (by decide) (by decide)).emO (x := 409) (y := 0) (k := fr + m4)).row (c := 469) (k := fr + m1) (x := nI (fr + m4 + 1)) (by decide) (by decide)).row (c := 458) (k := q) (x := 9) (by decide) (by decide)).next (by rw [c]; decide)
      have hle7 := x4.1.le
      have w22 := q3.1.word 30 (by decide)
      rw [if_pos c] at w22
      have w22' : f_X12_isWord 22 O4 = 1 := w22
      have eg : f_X12_goesOn O4 = some (oup O7 446 28 1) := by
        rw [goes_no q3 (by omega) q13, F4]
        unfold X12_goesOn_j65 X12_goesOn_j116
        rw [if_neg (show ¬ nI 8 = (6 : Int32) by decide), if_pos (show nI 8 = (8 : Int32) from rfl), w22', if_neg n10, show (3 : Int32) = nI 3 from rfl, e1, bnd_s]
        unfold f_X12_turnsTo X12_turnsTo_j46
        rw [fn5, gd_p (inbN (by omega) (by decide)), gd_p (inbN (by omega) (by decide)), nI_clamp (by omega), on5, emits_v (O := oup O5 462 (q + 1) (nI (fr + m4))) (no := fr + m4) (by rw [oup_ne (by decide)]; exact on5) (by omega), bnd_s, if_pos rfl, R5, gd_p (inbN (by omega) (by decide)), nI_clamp (by omega), o2s, oup_ne (show (446 : Nat) ≠ 469 by decide), o2n (show (22 : Nat) ≠ 37 by decide), oup_ne (show (446 : Nat) ≠ 469 by decide), oup_ne (show (446 : Nat) ≠ 468 by decide), oup_ne (show (446 : Nat) ≠ 462 by decide), fn5, nI_pred, gd_p (inbN (by omega) (by decide)), nI_clamp (by omega), x2]
        rfl
      obtain ⟨O8, hO8⟩ : ∃ O8, O8 = oup O7 446 28 1 := ⟨_, rfl⟩
      rw [← hO8] at eg
      have o8a : ∀ j, j ≠ fr + m4 → O8.1 468 j = O5.1 468 j := fun j hj => by rw [hO8, oup_ne (by decide), x6.1 468 (by decide), oup_ne (by decide), oup_ne (by decide), oup_ne (by decide), oup_ne (by decide), o2n hj, oup_ne (by decide)]
      have o8s : O8.1 468 (fr + m4) = nI 409 := by rw [hO8, oup_ne (by decide), x6.1 468 (by decide), oup_ne (by decide), oup_ne (by decide), oup_ne (by decide), oup_ne (by decide), o2s]; rfl
      have o9a : ∀ j, j ≠ fr + m4 → j ≠ fr + m1 → O8.1 469 j = O5.1 469 j := fun j hj hj2 => by rw [hO8, oup_ne (by decide), x6.1 469 (by decide), oup_ne (by decide), o2n hj2, oup_ne (by decide), o2n hj, oup_ne (by decide), oup_ne (by decide)]
      have o9s : O8.1 469 (fr + m1) = nI (fr + (m4 + 1)) := by rw [hO8, oup_ne (by decide), x6.1 469 (by decide), oup_ne (by decide), o2s]; rfl
      have ln5' : C5 407 5 = nI (a + m4) := by rw [x5.1 407 (by decide)]; exact ln5
      obtain ⟨C6, hC6⟩ : ∃ C6, C6 = up2 (up2 C5 408 (a + m4) (0 * 256 + 158)) 407 5 (nI (a + m4 + 1)) := ⟨_, rfl⟩
      have k6 : C6 408 (a + m1) = nI 157 := by rw [hC6, up2_ne (by decide), u2n (by omega), x5.1 408 (by decide), q6.2.2.2.2.2.1 (a + m1) (by omega)]; exact K2
      have l6 : C6 407 5 = nI (a + m4 + 1) := by rw [hC6, u2s]
      have el := lead_v l6 (by omega) (by omega) k6 (by decide)
      obtain ⟨C7, hC7⟩ : ∃ C7, C7 = up2 C6 408 (a + m1) (nI (256 * (a + m4 + 1) + 157)) := ⟨_, rfl⟩
      rw [← hC7] at el
      have c7a : ∀ j, j ≠ a + m4 → j ≠ a + m1 → C7 408 j = C3 408 j := fun j h1 h2 => by rw [hC7, u2n h2, hC6, up2_ne (by decide), u2n h1, x5.1 408 (by decide)]
      have c7b : C7 408 (a + m4) = nI 158 := by rw [hC7, u2n (by omega), hC6, up2_ne (by decide), u2s]; rfl
      have c7c : C7 408 (a + m1) = nI (256 * (a + (m4 + 1)) + 157) := by rw [hC7, u2s]; rfl
      have ec : cT2 (k + 3) (nI (d + 1)) (nI (a + m1)) C3 = bnd (RDf (k + 3) 0 (nI (d + 1)) C7) (fun C8 => cT3 (nI (a + m4)) C8) := by
        unfold cT2
        rw [exp_y q3.2.1 (show C3 404 2 = (158 : Int32) from c) x1, bnd_s, emit_v (t := 158) (v := 0) ln5' (by omega), bnd2_s, ← hC6, el, bnd_s]
      rw [ec]
      have kp28 : KPR q nw (a + m) (fr + m) C2 O2 C7 O8 := by
        rw [hC7, hC6, hO8]
        exact ((((((((e3.le (by omega) (Nat.le_refl _) (by omega) (by omega)).tr (KPR.o (c := 462) (k := q + 1) (by omega))).tr (KPR.em (by omega))).tr (KPR.o (c := 469) (k := fr + m1) (by omega))).tr (KPR.o (c := 458) (k := q) (by omega))).tr (KPR.n x5 x6)).tr (KPR.o (c := 446) (k := 28) (by omega))).tr (KPR.c (by omega))).tr (KPR.c8 (by omega))
      have z8 : PZ L b Lw s7 (d + 1) (q + 1) nw (a + (m4 + 1)) (fr + (m4 + 1)) C7 O8 := by
        rw [hC7, hC6, hO8]
        exact (x4.st.em).c8
      have st8 : O8.1 446 28 = nI 1 := by rw [hO8, o2s]; rfl
      have F8 : O8.1 458 q = nI 9 := by rw [hO8, oup_ne (by decide), x6.1 458 (by decide), o2s]; rfl
      have R8 : O8.1 462 (q + 1) = nI (fr + m4) := by rw [hO8, oup_ne (by decide), x6.1 462 (by decide), oup_ne (by decide), oup_ne (by decide), oup_ne (by decide), oup_ne (by decide), oup_ne (by decide), o2s]
      obtain ⟨C1, y1, y2⟩ := cho_3 (A := A) (C := C) (O := O) (m := m) (σ := σ) hd hS z8 st8 (by omega) hfr hq hnw hσ (hb.congr (fun j hj => kp28.2.2.2.2.1 j hj)) (by omega) (rc4.trans (RC.one (fun n => lp_2 q3.2.2.2.1 q2) eg (by unfold PT; omega))) (kp.tr kp28) F8 R8 c7b
      refine ⟨C1, y1, ?_⟩
      rcases y2 with y2 | ⟨O1, s1, m3, j1, j2, j3, j4, j5, j6, j7, j8, j9, j10, j11⟩
      · exact Or.inl y2
      · refine Or.inr ⟨O1, s1, m3, j1, j2, j3, by omega, by omega, Sg.cho (m2 := m4) (by omega) (e6.mono (fun i b1 b2 => ⟨?_, ?_, ?_⟩)) j6 (by omega) j4 ?_ ?_ ?_ j7 ?_ j8, fun j hj => ?_, fun j hj => ⟨?_, ?_⟩⟩
        · rw [j9 _ (by omega), c7a _ (by omega) (by omega)]
        · rw [j10 _ (by omega), o8a _ (by omega)]
        · rw [j11 _ (by omega), o9a _ (by omega) (by omega)]
        · rw [j9 _ (by omega)]; exact c7c
        · rw [j10 _ (by omega), o8a _ (by omega), (e3.2.2.2.2.2.2 _ (by omega)).1]; exact Q2
        · rw [j11 _ (by omega)]; exact o9s
        · rw [j10 _ (by omega)]; exact o8s
        · rw [j9 _ (by omega), c7a _ (by omega) (by omega)]; exact q6.2.2.2.2.2.1 j (by omega)
        · rw [j10 _ (by omega), o8a _ (by omega)]; exact (e3.2.2.2.2.2.2 j (by omega)).1
        · rw [j11 _ (by omega), o9a _ (by omega) (by omega)]; exact (e3.2.2.2.2.2.2 j (by omega)).2
    · obtain ⟨C6, y1, y2⟩ := err_rc (v := 1) q3 (by omega) (by decide) (by decide) kp4.1 kp4.2.1 (rc4.trans (RC.one (fun n => lp_2 q3.2.2.2.1 q2) (goes_bad q3 (by omega) F4 q13 (Or.inr (Or.inl ⟨rfl, c⟩))) (by omega)))
      obtain ⟨C1, x1, x2⟩ := cT2_e (k := k) (d := nI (d + 1)) (r3 := nI (a + m1)) y2
      refine ⟨C1, ?_, Or.inl x2⟩
      rw [← x1]
      unfold cT2
      rw [exp_n q3.2.1 (show ¬ C3 404 2 = (158 : Int32) from c) y1, exp_f y2.ne]
end
