/-! The reader: a choice, nested parts, all depths -/
def ChoiceS (n d : Nat) : Prop := ∀ L b Lw s q nw a fr m σ C O, PreQ 0 1 (2 * (d + 1)) (4 * (d + 1) - 2) (5 * (d + 1) - 3) Gd2 L b Lw s (d + 1) (q + 1) nw a fr m σ C O → ∃ C1, RDf n 4 (nI (d + 1)) C = some C1 ∧ PostP L b Lw s d q nw a fr m σ (PT s + 2) C O C1
theorem asks_bad {L : Nat} {b : Nat → Nat} {Lw s d q nw lc no : Nat} {C : CM} {O : OM} (h : PZ L b Lw s d (q + 1) nw lc no C O) (hq : q < 40) (hF : O.1 458 q = nI 2) (h1 : ¬ C 404 2 = nI 152) (h2 : ¬ C 404 2 = nI 153) (h3 : ¬ C 404 2 = nI 157) : f_X12_asksOn O = some (oup (oup O 446 19 (nI 1)) 446 20 (nI s)) := by
  obtain ⟨ts, f1, f2, g1, g2, hL, lw, kw, op, fn, wn, ln, on⟩ := h
  have w17 := ts.word 25 (by decide)
  have w16 := ts.word 24 (by decide)
  have w21 := ts.word 29 (by decide)
  rw [if_neg h2] at w17
  rw [if_neg h1] at w16
  rw [if_neg h3] at w21
  have w17' : f_X12_isWord 17 O = 0 := w17
  have w16' : f_X12_isWord 16 O = 0 := w16
  have w21' : f_X12_isWord 21 O = 0 := w21
  unfold f_X12_asksOn X12_asksOn_j82
  rw [w17', w16', if_pos rfl, if_pos rfl, top_v fn hq, bnd_s, hF, if_pos (show nI 2 = (2 : Int32) from rfl), w21', if_pos rfl, show f_X12_errs 1 O = some (oup (oup O 446 19 (nI 1)) 446 20 (nI s)) from errs_v g1 ts.at.2, bnd_s]
theorem choice_s {d k : Nat} (hd : d < 8) (hE : EitherS (k + 3) (d + 1)) (hS : SumS (k + 3) (d + 1)) : ChoiceS (k + 3 + 1) d := by
  intro L b Lw s q nw a fr m σ C O h
  obtain ⟨C3, r1, r2⟩ := hE L b Lw s (q + 1) nw a fr m σ C O h
  rw [cT0, r1, bnd_s]
  obtain ⟨z, st, hs, hfr, n1, n2, n3, n4, n6, F, n7, n8⟩ := h
  have n8 : F = 2 := n8
  subst n8
  rcases r2 with r2 | ⟨O4, s4, m4, no4, pd, hok⟩
  · obtain ⟨C1, x1, x2⟩ := cT1_e (k := k) (d := nI (d + 1)) r2
    exact ⟨C1, x1, Or.inl x2⟩
  · have hok' := hok
    obtain ⟨q1, q2, q3, q4, q5, q6, q7, q8, q9, q10, q11, q12, q13⟩ := hok'
    have hle := q3.1.le
    have kp4 : KPR q nw (a + m) (fr + m) C O C3 O4 := q6.le (by omega) (Nat.le_refl _) (Nat.le_refl _) (Nat.le_refl _)
    have F4 : O4.1 458 q = nI 2 := by rw [q6.2.2.1 q (by omega)]; exact n7
    have t152 : ¬ C3 404 2 = nI 152 := q13 152 (by decide)
    have t153 : ¬ C3 404 2 = nI 153 := q13 153 (by decide)
    by_cases c : C3 404 2 = nI 157
    · obtain ⟨O5, e1, e2, e3, e4, e5, e6⟩ := works_end hok (by omega) (by omega) (by omega) (by omega) hfr hs n6
      have e2' := e2
      obtain ⟨-, -, -, -, -, -, -, -, op5, fn5, -, ln5, on5⟩ := e2'
      have q3' := q3
      obtain ⟨ts4, -, -, -, -, -, -, -, -, fn4, -, -, -⟩ := q3'
      obtain ⟨C5, O7, s7, x1, x2, x3, x4, x5, x6⟩ := (((e2.row (c := 462) (k := q + 1) (x := nI (fr + m4)) (by decide) (by decide)).emO (x := 404) (y := 0) (k := fr + m4)).row (c := 458) (k := q) (x := 8) (by decide) (by decide)).next (by rw [c]; decide)
      have hle7 := x4.1.le
      have w17 := ts4.word 25 (by decide)
      have w16 := ts4.word 24 (by decide)
      have w21 := ts4.word 29 (by decide)
      rw [if_neg t153] at w17
      rw [if_neg t152] at w16
      rw [if_pos c] at w21
      have w17' : f_X12_isWord 17 O4 = 0 := w17
      have w16' : f_X12_isWord 16 O4 = 0 := w16
      have w21' : f_X12_isWord 21 O4 = 1 := w21
      have eg : f_X12_asksOn O4 = some (oup O7 446 28 1) := by
        unfold f_X12_asksOn
        rw [w17', w16', if_pos rfl, if_pos rfl, top_v fn4 (by omega), bnd_s, F4, if_pos (show nI 2 = (2 : Int32) from rfl), w21', if_neg n10, show f_X12_works 1 O4 = some O5 from e1, bnd_s]
        unfold f_X12_turnsTo X12_turnsTo_j46
        rw [fn5, gd_p (inbN (by omega) (by decide)), gd_p (inbN (by omega) (by decide)), nI_clamp (by omega), on5, emits_v (O := oup O5 462 (q + 1) (nI (fr + m4))) (no := fr + m4) (by rw [oup_ne (by decide)]; exact on5) (by omega), bnd_s, if_neg (show ¬ (404 : Int32) = 409 by decide), o2n (show (22 : Nat) ≠ 37 by decide), oup_ne (show (446 : Nat) ≠ 469 by decide), oup_ne (show (446 : Nat) ≠ 468 by decide), oup_ne (show (446 : Nat) ≠ 462 by decide), fn5, nI_pred, gd_p (inbN (by omega) (by decide)), nI_clamp (by omega), x2]
        rfl
      obtain ⟨O8, hO8⟩ : ∃ O8, O8 = oup O7 446 28 1 := ⟨_, rfl⟩
      rw [← hO8] at eg
      have o8a : ∀ j, j ≠ fr + m4 → O8.1 468 j = O5.1 468 j := fun j hj => by rw [hO8, oup_ne (by decide), x6.1 468 (by decide), oup_ne (by decide), oup_ne (by decide), oup_ne (by decide), o2n hj, oup_ne (by decide)]
      have o8s : O8.1 468 (fr + m4) = nI 404 := by rw [hO8, oup_ne (by decide), x6.1 468 (by decide), oup_ne (by decide), oup_ne (by decide), oup_ne (by decide), o2s]; rfl
      have o9a : ∀ j, j ≠ fr + m4 → O8.1 469 j = O5.1 469 j := fun j hj => by rw [hO8, oup_ne (by decide), x6.1 469 (by decide), oup_ne (by decide), oup_ne (by decide), o2n hj, oup_ne (by decide), oup_ne (by decide)]
      have ln5' : C5 407 5 = nI (a + m4) := by rw [x5.1 407 (by decide)]; exact ln5
      obtain ⟨C6, hC6⟩ : ∃ C6, C6 = up2 (up2 C5 408 (a + m4) (0 * 256 + 157)) 407 5 (nI (a + m4 + 1)) := ⟨_, rfl⟩
      have c6a : ∀ j, j ≠ a + m4 → C6 408 j = C3 408 j := fun j h1 => by rw [hC6, up2_ne (by decide), u2n h1, x5.1 408 (by decide)]
      have c6b : C6 408 (a + m4) = nI 157 := by rw [hC6, up2_ne (by decide), u2s]; rfl
      have ec : cT1 (k + 3) (nI (d + 1)) C3 = bnd (RDf (k + 3) 0 (nI (d + 1)) C6) (fun C4 => cT2 (k + 3) (nI (d + 1)) (nI (a + m4)) C4) := by
        unfold cT1
        rw [exp_y q3.2.1 (show C3 404 2 = (157 : Int32) from c) x1, bnd_s, emit_v (t := 157) (v := 0) ln5' (by omega), bnd2_s, ← hC6]
      rw [ec]
      have kp8 : KPR q nw (a + m) (fr + m) C O C6 O8 := by
        rw [hC6, hO8]
        exact ((((((e3.le (by omega) (Nat.le_refl _) (by omega) (by omega)).tr (KPR.o (c := 462) (k := q + 1) (by omega))).tr (KPR.em (by omega))).tr (KPR.o (c := 458) (k := q) (by omega))).tr (KPR.n x5 x6)).tr (KPR.o (c := 446) (k := 28) (by omega))).tr (KPR.c (by omega))
      have z8 : PZ L b Lw s7 (d + 1) (q + 1) nw (a + (m4 + 1)) (fr + (m4 + 1)) C6 O8 := by
        rw [hC6, hO8]
        exact x4.st.em
      have st8 : O8.1 446 28 = nI 1 := by rw [hO8, o2s]; rfl
      have F8 : O8.1 458 q = nI 8 := by rw [hO8, oup_ne (by decide), x6.1 458 (by decide), o2s]; rfl
      have R8 : O8.1 462 (q + 1) = nI (fr + m4) := by rw [hO8, oup_ne (by decide), x6.1 462 (by decide), oup_ne (by decide), oup_ne (by decide), oup_ne (by decide), oup_ne (by decide), o2s]
      obtain ⟨C1, y1, y2⟩ := cho_2 (A := PT s + 2) (C := C) (O := O) (m := m) (σ := σ) hd hS z8 st8 (by omega) hfr (by omega) (by omega) (by omega) (n6.congr (fun j hj => kp8.2.2.2.2.1 j hj)) (by omega) (q1.trans (RC.one (fun n => lp_3 q3.2.2.2.1 q2) eg (by unfold PT; omega))) kp8 F8 R8 c6b o8s
      refine ⟨C1, y1, ?_⟩
      rcases y2 with y2 | ⟨O1, s1, m3, j1, j2, j3, j4, j5, j6, j7, j8⟩
      · exact Or.inl y2
      · exact Or.inr ⟨O1, s1, m3, j1, j2, j3, by omega, by omega, (e6.mono (fun i b1 b2 => ⟨(j7 _ (by omega)).trans (c6a _ (by omega)), (j8 _ (by omega)).1.trans (o8a _ (by omega)), (j8 _ (by omega)).2.trans (o9a _ (by omega))⟩)).comp j6 (by omega) (by omega)⟩
    · obtain ⟨C6, y1, y2⟩ := err_rc (v := 1) q3 (by omega) (by decide) (by decide) kp4.1 kp4.2.1 (q1.trans (RC.one (fun n => lp_3 q3.2.2.2.1 q2) (asks_bad q3 (by omega) F4 t152 t153 c) (by omega)))
      obtain ⟨C1, x1, x2⟩ := cT1_e (k := k) (d := nI (d + 1)) y2
      refine ⟨C1, ?_, Or.inl x2⟩
      rw [← x1]
      unfold cT1
      rw [exp_n q3.2.1 (show ¬ C3 404 2 = (157 : Int32) from c) y1, exp_f y2.ne]
theorem begins_if {L s : Nat} {b : Nat → Nat} {C : CM} {O : OM} (ts : TS L b s C O) (hc : C 404 2 = nI 156) : f_X12_begins O = bnd2 (f_X12_opensSign (nI 2) O) (fun r11 O11 => if r11 = 0 then some O11 else some (oup O11 446 28 0)) := by
  have w20 := ts.word 28 (by decide)
  rw [if_pos hc] at w20
  have w20' : f_X12_isWord 20 O = 1 := w20
  have hno : ∀ t', t' < 10 → ¬ C 404 2 = nI (139 + t') := fun t' h' e => by
    rw [hc] at e
    have := (nI_eq (by decide) (by omega)).mp e
    omega
  have n2 : ¬ O.1 446 17 = 2 := fun e => by
    have := (tk_n ts.tk).mpr e
    rw [hc] at this
    exact absurd this (by decide)
  unfold f_X12_begins
  rw [if_neg n2, if_pos (nameN ts hno), w20', if_neg n10]
  rfl
section
variable {n d : Nat} {L : Nat} {b : Nat → Nat} {Lw s nf nw a fr m : Nat} {σ : List Bool} {C : CM} {O : OM}
theorem nest_if (hd : d < 8) (hC : ChoiceS n d) (h : PreP L b Lw s d nf nw a fr m σ C O) (hc : C 404 2 = nI 156) :
    ∃ C1, RDf (n + 1) 3 (nI d) C = some C1 ∧ PostP L b Lw s d nf nw a fr m σ (PT s + 1) C O C1 := by
  obtain ⟨z, st, hs, hfr, n1, n2, n3, n4, n5, n6⟩ := h
  have f1 := z.2.1
  have g1 := z.2.2.2.1
  have hn : ¬ C 404 2 = 1 := by rw [hc]; decide
  obtain ⟨C2, O2, s2, w1, w2, w3, w4, w5, w6, w7⟩ := opens_v (f := 2) z hn hd (by omega)
  have hle2 := w4.1.le
  have rc2 : RC (PT s + 1) O (PT s2 + 2) (oup O2 446 28 0) := RC.one (fun n => lp_1 g1 st) (by rw [begins_if z.1 hc, w2, bnd2_s, if_neg n10]) (by unfold PT; omega)
  have kp2 : KPR nf nw (a + m) (fr + m) C O C2 (oup O2 446 28 0) := w5.tr (KPR.o (c := 446) (k := 28) (by omega))
  have wb2 : WB 1 (nf + 1) nw (oup O2 446 28 0) := (n6.congr (fun j hj => kp2.2.2.2.2.1 j hj)).up (Nat.lt_succ_self _)
  have F2 : (oup O2 446 28 0).1 458 nf = nI 2 := by rw [oup_ne (by decide)]; exact w7
  obtain ⟨C3, r1, r2⟩ := hC L b Lw s2 nf nw a fr m σ C2 (oup O2 446 28 0) ⟨w4.st, o2s, by omega, hfr, by omega, by omega, by omega, by omega, wb2, 2, F2, rfl⟩
  refine ⟨C3, ?_, ?_⟩
  · show f_X4_readNested (RDf n) (nI d) C = _
    unfold f_X4_readNested
    rw [if_pos (show nI d < (8 : Int32) from nI_lt hd (by decide)), w1, bnd_s, hc, if_neg (show ¬ nI 156 = (40 : Int32) by decide), if_neg (show ¬ nI 156 = (45 : Int32) by decide), if_neg (show ¬ nI 156 = (155 : Int32) by decide), nI_1, r1, bnd_s]
  · rcases r2 with r2 | ⟨O3, s3, m3, k1, k2, k3, k4, k5, k6⟩
    · exact Or.inl (r2.pre rc2 kp2.1 kp2.2.1)
    · exact Or.inr ⟨O3, s3, m3, rc2.md k1, k2, kp2.tr k3, k4, by omega, k6⟩
theorem nest_8 (h : PreP L b Lw s 8 nf nw a fr m σ C O) (hc : C 404 2 = nI 40 ∨ C 404 2 = nI 45 ∨ C 404 2 = nI 155 ∨ C 404 2 = nI 156) :
    ∃ C1, RDf (n + 1) 3 (nI 8) C = some C1 ∧ PostP L b Lw s 8 nf nw a fr m σ (PT s + 1) C O C1 := by
  obtain ⟨z, st, hs, hfr, n1, n2, n3, n4, n5, n6⟩ := h
  have hle := z.1.le
  have eb : f_X12_begins O = some (oup (oup O 446 19 (nI 3)) 446 20 (nI s)) := by
    rcases hc with hc | hc | hc | hc
    · rw [begins_n z.1 hc (Or.inl rfl), opens_8 z, bnd2_s]
    · rw [begins_n z.1 hc (Or.inr (Or.inl rfl)), opens_8 z, bnd2_s]
    · rw [begins_n z.1 hc (Or.inr (Or.inr rfl)), opens_8 z, bnd2_s]
    · rw [begins_if z.1 hc, opens_8 z, bnd2_s, if_pos rfl]
  obtain ⟨C6, y1, y2⟩ := err_rc (v := 3) (A := PT s + 1) z (by omega) (by decide) (by decide) FrP.refl FrQ.refl (RC.one (fun n => lp_1 z.2.2.2.1 st) eb (by omega))
  refine ⟨C6, ?_, Or.inl y2⟩
  show f_X4_readNested (RDf n) (nI 8) C = _
  unfold f_X4_readNested
  rw [if_neg (show ¬ nI 8 < (8 : Int32) by decide), bnd_id]
  exact y1
end
theorem nest_s {n d : Nat} (hd : d ≤ 8) (hS : d < 8 → SumS n (d + 1)) (hP : d < 8 → PartS n (d + 1)) (hC : d < 8 → ChoiceS n d) : NestS (n + 1) d := by
  intro L b Lw s nf nw a fr m σ C O h hc
  by_cases c8 : d < 8
  · rcases hc with hc | hc | hc | hc
    · exact nest_par c8 (hS c8) h hc
    · exact nest_neg c8 (hP c8) h hc
    · exact nest_owed c8 (hP c8) h hc
    · exact nest_if c8 (hC c8) h hc
  · have : d = 8 := by omega
    subst this
    exact nest_8 h hc
theorem up_d {d x : Nat} (hd : d ≤ 8) (hN : ∀ n, x ≤ n → NestS n d) (hA : d < 8 → ∀ n, x ≤ n → AskS n (d + 1)) : ∀ n, x + 4 ≤ n → PartS n d ∧ SumS n d ∧ AskS n d := by
  have P : ∀ n, x + 1 ≤ n → PartS n d := fun n hn => by
    obtain ⟨n, rfl⟩ : ∃ j, n = j + 1 := ⟨n - 1, by omega⟩
    exact part_s (hN n (by omega))
  have R : ∀ n, x + 2 ≤ n → ProdS n d := fun n hn => by
    obtain ⟨n, rfl⟩ : ∃ j, n = j + 1 := ⟨n - 1, by omega⟩
    exact prod_s hd (P n (by omega))
  have S : ∀ n, x + 3 ≤ n → SumS n d := fun n hn => by
    obtain ⟨n, rfl⟩ : ∃ j, n = j + 1 := ⟨n - 1, by omega⟩
    exact sum_s hd (R n (by omega))
  intro n hn
  refine ⟨P n (by omega), S n (by omega), ?_⟩
  obtain ⟨n, rfl⟩ : ∃ j, n = j + 1 := ⟨n - 1, by omega⟩
  exact ask_s hd (S n (by omega)) (fun h => hA h n (by omega))
theorem all_d : ∀ k d, d + k = 8 → ∀ n, 10 * (k + 1) ≤ n → PartS n d ∧ SumS n d ∧ AskS n d := by
  intro k
  induction k with
  | zero =>
    intro d hd n hn
    have : d = 8 := by omega
    subst this
    refine up_d (x := 1) (Nat.le_refl _) (fun n hn => ?_) (fun h => absurd h (by decide)) n (by omega)
    obtain ⟨n, rfl⟩ : ∃ j, n = j + 1 := ⟨n - 1, by omega⟩
    exact nest_s (Nat.le_refl _) (fun h => absurd h (by decide)) (fun h => absurd h (by decide)) (fun h => absurd h (by decide))
  | succ k ih =>
    intro d hd n hn
    have I := ih (d + 1) (by omega)
    refine up_d (x := 10 * k + 16) (by omega) (fun n hn => ?_) (fun _ n hn => (I n (by omega)).2.2) n (by omega)
    obtain ⟨j, rfl⟩ : ∃ j, n = j + 3 + 1 + 1 := ⟨n - 5, by omega⟩
    refine nest_s (by omega) (fun _ => (I _ (by omega)).2.1) (fun _ => (I _ (by omega)).1) (fun h => choice_s h ?_ (I _ (by omega)).2.1)
    exact either_s (by omega) (both_s (by omega) (I (j + 1) (by omega)).2.2)
theorem sum_0 : SumS 100 0 := (all_d 8 0 (by decide) 100 (by decide)).2.1
