/-! The reader: nested parts (a sum in brackets, a minus, owed) -/
theorem begins_n {L s : Nat} {b : Nat → Nat} {C : CM} {O : OM} (ts : TS L b s C O) {t f : Nat} (hc : C 404 2 = nI t) (ht : (t, f) = (40, 6) ∨ (t, f) = (45, 7) ∨ (t, f) = (155, 10)) : f_X12_begins O = bnd2 (f_X12_opensSign (nI f) O) (fun _ O7 => some O7) := by
  have w20 := ts.word 28 (by decide)
  have w19 := ts.word 27 (by decide)
  have s40 := ts.sign 40 40 (by decide)
  have s45 := ts.sign 45 45 (by decide)
  have hno : ∀ t', t' < 10 → ¬ C 404 2 = nI (139 + t') := fun t' h' e => by
    rw [hc] at e
    rcases ht with ht | ht | ht <;> (injection ht with ha hb; subst ha; have := (nI_eq (by decide) (by omega)).mp e; omega)
  have n2 : ¬ O.1 446 17 = 2 := fun e => by
    have := (tk_n ts.tk).mpr e
    rw [hc] at this
    rcases ht with ht | ht | ht <;> (injection ht with ha hb; subst ha; exact absurd this (by decide))
  unfold f_X12_begins
  rw [if_neg n2, if_pos (nameN ts hno)]
  rw [hc] at w20 w19 s40 s45
  unfold X12_begins_j144 X12_begins_j175
  rcases ht with ht | ht | ht <;> (injection ht with ha hb; subst ha; subst hb)
  · rw [if_neg (by decide)] at w20
    rw [if_pos rfl] at s40
    have w20' : f_X12_isWord 20 O = 0 := w20
    have s40' : f_X12_isSign 40 O = 1 := s40
    rw [w20', s40', if_pos rfl, if_neg n10, if_neg n10]
    rfl
  · rw [if_neg (by decide)] at w20
    rw [if_neg (by decide)] at s40
    rw [if_pos rfl] at s45
    have w20' : f_X12_isWord 20 O = 0 := w20
    have s40' : f_X12_isSign 40 O = 0 := s40
    have s45' : f_X12_isSign 45 O = 1 := s45
    rw [w20', s40', s45', if_pos rfl, if_pos rfl, if_neg n10, if_pos rfl, if_neg n10]
    rfl
  · rw [if_neg (by decide)] at w20
    rw [if_neg (by decide)] at s40
    rw [if_neg (by decide)] at s45
    rw [if_pos (by decide)] at w19
    have w20' : f_X12_isWord 20 O = 0 := w20
    have s40' : f_X12_isSign 40 O = 0 := s40
    have s45' : f_X12_isSign 45 O = 0 := s45
    have w19' : f_X12_isWord 19 O = 1 := w19
    rw [w20', s40', s45', w19', if_pos rfl, if_pos rfl, if_pos rfl, if_neg n10, if_pos rfl, if_pos rfl]
    rfl
theorem bnd_id {α : Type} (x : Option α) : bnd x (fun y => some y) = x := by cases x <;> rfl
section
variable {n d : Nat} {L : Nat} {b : Nat → Nat} {Lw s nf nw a fr m : Nat} {σ : List Bool} {C : CM} {O : OM}
theorem nest_par (hd : d < 8) (hS : SumS n (d + 1)) (h : PreP L b Lw s d nf nw a fr m σ C O) (hc : C 404 2 = nI 40) :
    ∃ C1, RDf (n + 1) 3 (nI d) C = some C1 ∧ PostP L b Lw s d nf nw a fr m σ (PT s + 1) C O C1 := by
  obtain ⟨z, st, hs, hfr, n1, n2, n3, n4, n5, n6⟩ := h
  have f1 := z.2.1
  have g1 := z.2.2.2.1
  have hn : ¬ C 404 2 = 1 := by rw [hc]; decide
  obtain ⟨C2, O2, s2, w1, w2, w3, w4, w5, w6, w7⟩ := opens_v (f := 6) z hn hd (by omega)
  have hle2 := w4.1.le
  have rc2 : RC (PT s + 1) O (PT s2 + 1) O2 := RC.one (fun n => lp_1 g1 st) (by rw [begins_n z.1 hc (Or.inl rfl), w2, bnd2_s]) (by unfold PT; omega)
  have wb2 : WB 3 (nf + 1) nw O2 := (n6.congr (fun j hj => w5.2.2.2.2.1 j hj)).up (Nat.lt_succ_self _)
  obtain ⟨C3, r1, r2⟩ := hS L b Lw s2 (nf + 1) nw a fr m σ C2 O2 ⟨w4, by rw [w6]; exact st, by omega, hfr, by omega, by omega, by omega, by omega, wb2, 6, w7, ⟨by decide, by decide, by decide, by decide⟩⟩
  have ecls : RDf (n + 1) 3 (nI d) C = bnd (f_X4_expect 41 C3) (fun C5 => some C5) := by
    show f_X4_readNested (RDf n) (nI d) C = _
    unfold f_X4_readNested
    rw [if_pos (show nI d < (8 : Int32) from nI_lt hd (by decide)), w1, bnd_s, if_pos (show C 404 2 = (40 : Int32) from hc), nI_1, r1, bnd_s]
  rw [ecls, bnd_id]
  rcases r2 with r2 | ⟨O4, s3, m3, no3, pd, hok⟩
  · have ef := r2.pre rc2 w5.1 w5.2.1
    exact ⟨C3, exp_f ef.ne, Or.inl ef⟩
  · have hok' := hok
    obtain ⟨q1, q2, q3, q4, q5, q6, q7, q8, q9, q10, q11, q12, q13⟩ := hok'
    have hle3 := q3.1.le
    have rc3 := rc2.trans q1
    have kp3 : KPR nf nw (a + m) (fr + m) C O C3 O4 := w5.trans q6 (Nat.le_succ _) (Nat.le_refl _) (Nat.le_refl _) (Nat.le_refl _)
    have F4 : O4.1 458 nf = nI 6 := by rw [q6.2.2.1 nf (by omega)]; exact w7
    by_cases c : C3 404 2 = nI 41
    · obtain ⟨O5, e1, e2, e3, e4, e5, e6⟩ := works_end hok (by omega) (by omega) (by omega) (by omega) hfr (by omega) wb2
      obtain ⟨C6, O6, s6, x1, x2, x3, x4, x5, x6⟩ := ((e2.fr (nf' := nf)).op (d' := d)).next (by rw [c]; decide)
      have hle6 := x4.1.le
      obtain ⟨-, -, -, -, -, -, -, -, op5, fn5, -, -, -⟩ := e2
      have k41 := q3.1.sign 41 41 (by decide)
      rw [if_pos c] at k41
      have k41' : f_X12_isSign 41 O4 = 1 := k41
      have eg : f_X12_goesOn O4 = f_X12_oneIsOver O6 := by
        rw [goes_no q3 (by omega) q13, F4]
        unfold X12_goesOn_j65
        rw [if_pos (show nI 6 = (6 : Int32) from rfl), k41', if_neg n10, show (3 : Int32) = nI 3 from rfl, e1, bnd_s, fn5, nI_pred, o2n (by decide), op5, nI_pred, x2, bnd_s, bnd_id]
      refine ⟨C6, exp_y q3.2.1 c x1, Or.inr ⟨O6, s6, m3, rc3.md (MD.one (fun n => lp_2 q3.2.2.2.1 q2) eg (by unfold PT; omega)), x4, ?_, by omega, by omega, ?_⟩⟩
      · exact ((w5.trans e3 (Nat.le_succ _) (Nat.le_refl _) (Nat.le_refl _) (Nat.le_refl _)).tr KPR.fo).tr (KPR.n x5 x6)
      · rw [x5.1 408 (by decide), x6.1 468 (by decide), x6.1 469 (by decide), oup_ne (by decide), oup_ne (by decide), oup_ne (by decide), oup_ne (by decide)]
        exact e6
    · obtain ⟨C6, y1, y2⟩ := err_rc (v := 1) q3 (by omega) (by decide) (by decide) kp3.1 kp3.2.1 (rc3.trans (RC.one (fun n => lp_2 q3.2.2.2.1 q2) (goes_bad q3 (by omega) F4 q13 (Or.inl ⟨rfl, c⟩)) (by omega)))
      exact ⟨C6, exp_n q3.2.1 c y1, Or.inl y2⟩
/-- one more step of code, and a frame less -/
theorem pop_end {A s3 m3 F t q : Nat} {C3 : CM} {O3 : OM} {τ : List Bool} (z : PZ L b Lw s3 (d + 1) (nf + 1) nw (a + m3) (fr + m3) C3 O3) (md : MD f_X12_oneIsOver A O (PT s3 + 2) O3) (kp : KPR nf nw (a + m) (fr + m) C O C3 O3) (hF : O3.1 458 nf = nI F) (h7 : F = 7 ∧ q = 402 ∨ F = 11 ∧ q = 403) (hnf : nf < 40) (hm : m < m3 + 1) (hfr : fr ≤ a + 24) (hm3 : a + m3 < 300) (hs3 : m3 + 1 + s ≤ m + s3)
    (sg : Sg a fr Lw m m3 σ τ (C3 408) (O3.1 468) (O3.1 469)) (h_sg : ∀ c o v : Nat → Int32, c (a + m3) = nI t → o (fr + m3) = nI q → Sg a fr Lw m3 (m3 + 1) τ (false :: σ) c o v) :
    ∃ C1, bnd2 (f_X6_emit 407 (nI t) 0 C3) (fun _ C8 => some C8) = some C1 ∧ PostP L b Lw s d nf nw a fr m σ A C O C1 := by
  have z' := z
  obtain ⟨-, -, -, -, -, -, -, -, op3, fn3, -, ln3, on3⟩ := z'
  obtain ⟨C4, hC4⟩ : ∃ C4, C4 = up2 (up2 C3 408 (a + m3) (0 * 256 + nI t)) 407 5 (nI (a + m3 + 1)) := ⟨_, rfl⟩
  obtain ⟨O4, hO4⟩ : ∃ O4, O4 = oup (oup (oup (oup (oup O3 468 (fr + m3) (if F = 7 then 402 else 403)) 469 (fr + m3) 0) 446 37 (nI (fr + m3 + 1))) 446 22 (nI nf)) 446 21 (nI d) := ⟨_, rfl⟩
  have e8 : ∀ j, j ≠ a + m3 → C4 408 j = C3 408 j := fun j hj => by rw [hC4, up2_ne (by decide), u2n hj]
  have e8s : C4 408 (a + m3) = nI t := by rw [hC4, up2_ne (by decide), u2s, Int32.zero_mul, Int32.zero_add]
  have o8 : ∀ j, j ≠ fr + m3 → O4.1 468 j = O3.1 468 j := fun j hj => by rw [hO4, oup_ne (by decide), oup_ne (by decide), oup_ne (by decide), oup_ne (by decide), o2n hj]
  have o8s : O4.1 468 (fr + m3) = nI q := by
    rw [hO4, oup_ne (by decide), oup_ne (by decide), oup_ne (by decide), oup_ne (by decide), o2s]
    rcases h7 with ⟨rfl, rfl⟩ | ⟨rfl, rfl⟩ <;> rfl
  have o9 : ∀ j, j ≠ fr + m3 → O4.1 469 j = O3.1 469 j := fun j hj => by rw [hO4, oup_ne (by decide), oup_ne (by decide), oup_ne (by decide), o2n hj, oup_ne (by decide)]
  refine ⟨C4, by rw [emit_v (t := nI t) (v := 0) ln3 hm3, bnd2_s, hC4], Or.inr ⟨O4, s3, m3 + 1, md.sub ?_, ?_, ?_, hm, by omega, ?_⟩⟩
  · rw [hO4]
    exact one_pop fn3 hnf hF (by omega) op3 on3 (by omega)
  · rw [hC4, hO4]
    exact (((z.emO).fr).op).em
  · rw [hC4, hO4]
    exact ((kp.tr (KPR.em (by omega))).tr KPR.fo).tr (KPR.c (by omega))
  · exact (sg.mono (fun i b1 b2 => ⟨e8 _ (by omega), o8 _ (by omega), o9 _ (by omega)⟩)).comp (h_sg _ _ _ e8s o8s) (by omega) (by omega)
theorem nest_neg (hd : d < 8) (hP : PartS n (d + 1)) (h : PreP L b Lw s d nf nw a fr m σ C O) (hc : C 404 2 = nI 45) :
    ∃ C1, RDf (n + 1) 3 (nI d) C = some C1 ∧ PostP L b Lw s d nf nw a fr m σ (PT s + 1) C O C1 := by
  obtain ⟨z, st, hs, hfr, n1, n2, n3, n4, n5, n6⟩ := h
  have f1 := z.2.1
  have g1 := z.2.2.2.1
  have hn : ¬ C 404 2 = 1 := by rw [hc]; decide
  obtain ⟨C2, O2, s2, w1, w2, w3, w4, w5, w6, w7⟩ := opens_v (f := 7) z hn hd (by omega)
  have hle2 := w4.1.le
  have rc2 : RC (PT s + 1) O (PT s2 + 1) O2 := RC.one (fun n => lp_1 g1 st) (by rw [begins_n z.1 hc (Or.inr (Or.inl rfl)), w2, bnd2_s]) (by unfold PT; omega)
  have wb2 : WB 5 (nf + 1) nw O2 := (n6.congr (fun j hj => w5.2.2.2.2.1 j hj)).up (Nat.lt_succ_self _)
  obtain ⟨C3, r1, r2⟩ := hP L b Lw s2 (nf + 1) nw a fr m σ C2 O2 ⟨w4, by rw [w6]; exact st, by omega, hfr, by omega, by omega, by omega, by omega, by omega, wb2⟩
  have ecls : RDf (n + 1) 3 (nI d) C = bnd2 (f_X6_emit 407 (nI 3) 0 C3) (fun _ C8 => some C8) := by
    show f_X4_readNested (RDf n) (nI d) C = _
    unfold f_X4_readNested
    rw [if_pos (show nI d < (8 : Int32) from nI_lt hd (by decide)), w1, bnd_s, hc, if_neg (show ¬ nI 45 = (40 : Int32) by decide), if_pos (show nI 45 = (45 : Int32) from rfl), nI_1, r1, bnd_s]
    rfl
  rw [ecls]
  rcases r2 with r2 | ⟨O3, s3, m3, k1, k2, k3, k4, k5, k6⟩
  · have ef := r2.pre rc2 w5.1 w5.2.1
    obtain ⟨r0, C4, a1, a2, a3, a4, a5⟩ := emit_t (nI 3) 0 ef.ln
    exact ⟨C4, by rw [a1, bnd2_s], Or.inl (ef.keep a2 a3 a5)⟩
  · have hle3 := k2.1.le
    exact pop_end (F := 7) (q := 402) (t := 3) k2 (rc2.md k1) (w5.trans k3 (Nat.le_succ _) (Nat.le_refl _) (Nat.le_refl _) (Nat.le_refl _)) (by rw [k3.2.2.1 nf (by omega)]; exact w7) (Or.inl ⟨rfl, rfl⟩) (by omega) (by omega) hfr (by omega) (by omega) k6 (fun c o v h1 h2 => Sg.neg (by omega) h1 h2)
theorem nest_owed (hd : d < 8) (hP : PartS n (d + 1)) (h : PreP L b Lw s d nf nw a fr m σ C O) (hc : C 404 2 = nI 155) :
    ∃ C1, RDf (n + 1) 3 (nI d) C = some C1 ∧ PostP L b Lw s d nf nw a fr m σ (PT s + 1) C O C1 := by
  obtain ⟨z, st, hs, hfr, n1, n2, n3, n4, n5, n6⟩ := h
  have f1 := z.2.1
  have g1 := z.2.2.2.1
  have hn : ¬ C 404 2 = 1 := by rw [hc]; decide
  obtain ⟨C2, O2, s2, w1, w2, w3, w4, w5, w6, w7⟩ := opens_v (f := 10) z hn hd (by omega)
  have hle2 := w4.1.le
  have rc2 : RC (PT s + 1) O (PT s2 + 1) O2 := RC.one (fun n => lp_1 g1 st) (by rw [begins_n z.1 hc (Or.inr (Or.inr rfl)), w2, bnd2_s]) (by unfold PT; omega)
  have wb2 : WB 5 (nf + 1) nw O2 := (n6.congr (fun j hj => w5.2.2.2.2.1 j hj)).up (Nat.lt_succ_self _)
  obtain ⟨C3, r1, r2⟩ := hP L b Lw s2 (nf + 1) nw a fr m σ C2 O2 ⟨w4, by rw [w6]; exact st, by omega, hfr, by omega, by omega, by omega, by omega, by omega, wb2⟩
  have ecls : RDf (n + 1) 3 (nI d) C = bnd (f_X4_expect 150 C3) (fun C11 => bnd (RDf n 2 (nI (d + 1)) C11) (fun C12 => bnd2 (f_X6_emit 407 (nI 155) 0 C12) (fun _ C8 => some C8))) := by
    show f_X4_readNested (RDf n) (nI d) C = _
    unfold f_X4_readNested
    rw [if_pos (show nI d < (8 : Int32) from nI_lt hd (by decide)), w1, bnd_s, hc, if_neg (show ¬ nI 155 = (40 : Int32) by decide), if_neg (show ¬ nI 155 = (45 : Int32) by decide), if_pos (show nI 155 = (155 : Int32) from rfl), nI_1, r1, bnd_s]
    rfl
  rw [ecls]
  obtain ⟨n0, rfl⟩ : ∃ k, n = k + 1 := by
    cases n with
    | zero => exact absurd (show (none : Option CM) = some C3 from r1) (fun h => by cases h)
    | succ k => exact ⟨k, rfl⟩
  have bad : ∀ C4, EF (PT s + 1) C O C4 → ∃ C1, bnd (RDf (n0 + 1) 2 (nI (d + 1)) C4) (fun C12 => bnd2 (f_X6_emit 407 (nI 155) 0 C12) (fun _ C8 => some C8)) = some C1 ∧ PostP L b Lw s d nf nw a fr m σ (PT s + 1) C O C1 := fun C4 ef => by
    obtain ⟨r0, C5, a1, a2, a3, a4, a5⟩ := emit_t (nI 155) 0 ef.ln
    exact ⟨C5, by rw [part_f ef.ne, bnd_s, a1, bnd2_s], Or.inl (ef.keep a2 a3 a5)⟩
  rcases r2 with r2 | ⟨O3, s3, m3, k1, k2, k3, k4, k5, k6⟩
  · have ef := r2.pre rc2 w5.1 w5.2.1
    rw [exp_f ef.ne, bnd_s]
    exact bad C3 ef
  · have hle3 := k2.1.le
    have kp3 : KPR nf nw (a + m) (fr + m) C O C3 O3 := w5.trans k3 (Nat.le_succ _) (Nat.le_refl _) (Nat.le_refl _) (Nat.le_refl _)
    have F3 : O3.1 458 nf = nI 10 := by rw [k3.2.2.1 nf (by omega)]; exact w7
    have k2' := k2
    obtain ⟨ts3, -, -, g3, -, -, -, -, op3, fn3, -, ln3, on3⟩ := k2'
    have k1' := k1.sub (one_first fn3 (by omega) F3)
    have z3 : PZ L b Lw s3 (d + 1) (nf + 1) nw (a + m3) (fr + m3) C3 (oup O3 446 28 2) := k2.st
    have kp3' : KPR nf nw (a + m) (fr + m) C O C3 (oup O3 446 28 2) := kp3.tr (KPR.o (c := 446) (k := 28) (by omega))
    have w14 := z3.1.word 22 (by decide)
    by_cases c : C3 404 2 = nI 150
    · rw [if_pos c] at w14
      have w14' : f_X12_isWord 14 (oup O3 446 28 2) = 1 := w14
      obtain ⟨C4, O4, s4, x1, x2, x3, x4, x5, x6⟩ := (z3.row (c := 458) (k := nf) (x := 11) (by decide) (by decide)).next (by rw [c]; decide)
      have hle4 := x4.1.le
      have eb : f_X12_bySecond (oup O3 446 28 2) = some (oup O4 446 28 1) := by
        unfold f_X12_bySecond
        rw [w14', if_neg n10, o2n (by decide), fn3, nI_pred, gd_p (inbN (by omega) (by decide)), nI_clamp (by omega), x2, bnd_s]
      have rc4 : RC (PT s + 1) O (PT s4 + 1) (oup O4 446 28 1) := ((rc2.md k1').go eb).le (by unfold PT; omega)
      have z4 : PZ L b Lw s4 (d + 1) (nf + 1) nw (a + m3) (fr + m3) C4 (oup O4 446 28 1) := x4.st
      have kp4 : KPR nf nw (a + m) (fr + m) C O C4 (oup O4 446 28 1) := ((kp3'.tr (KPR.o (c := 458) (k := nf) (by omega))).tr (KPR.n x5 x6)).tr (KPR.o (c := 446) (k := 28) (by omega))
      have F4 : (oup O4 446 28 1).1 458 nf = nI 11 := by rw [oup_ne (by decide), x6.1 458 (by decide), o2s]; rfl
      have wb4 : WB 5 (nf + 1) nw (oup O4 446 28 1) := (n6.congr (fun j hj => kp4.2.2.2.2.1 j hj)).up (Nat.lt_succ_self _)
      have sg4 : Sg a fr Lw m m3 σ (false :: σ) (C4 408) ((oup O4 446 28 1).1 468) ((oup O4 446 28 1).1 469) := by
        rw [x5.1 408 (by decide), oup_ne (by decide), oup_ne (by decide), x6.1 468 (by decide), x6.1 469 (by decide), oup_ne (by decide), oup_ne (by decide), oup_ne (by decide), oup_ne (by decide)]
        exact k6
      obtain ⟨C5, y1, y2⟩ := hP L b Lw s4 (nf + 1) nw a fr m3 (false :: σ) C4 (oup O4 446 28 1) ⟨z4, o2s, by omega, hfr, by omega, by omega, by omega, by rw [List.length_cons]; omega, by omega, wb4⟩
      rw [exp_y k2.2.1 (show C3 404 2 = (150 : Int32) from c) x1, bnd_s, y1, bnd_s]
      rcases y2 with y2 | ⟨O5, s5, m5, j1, j2, j3, j4, j5, j6⟩
      · have ef := y2.pre rc4 kp4.1 kp4.2.1
        obtain ⟨r0, C6, a1, a2, a3, a4, a5⟩ := emit_t (nI 155) 0 ef.ln
        exact ⟨C6, by rw [a1, bnd2_s], Or.inl (ef.keep a2 a3 a5)⟩
      · have hle5 := j2.1.le
        exact pop_end (F := 11) (q := 403) (t := 155) (τ := false :: false :: σ) j2 (rc4.md j1) (kp4.trans j3 (Nat.le_succ _) (Nat.le_refl _) (by omega) (by omega)) (by rw [j3.2.2.1 nf (by omega)]; exact F4) (Or.inr ⟨rfl, rfl⟩) (by omega) (by omega) hfr (by omega) (by omega)
          ((sg4.mono (fun i b1 b2 => ⟨j3.2.2.2.2.2.1 _ (by omega), (j3.2.2.2.2.2.2 _ (by omega)).1, (j3.2.2.2.2.2.2 _ (by omega)).2⟩)).comp j6 (by omega) (by omega)) (fun c o v h1 h2 => Sg.owe (by omega) h1 h2)
    · rw [if_neg c] at w14
      have w14' : f_X12_isWord 14 (oup O3 446 28 2) = 0 := w14
      have eb : f_X12_bySecond (oup O3 446 28 2) = some (oup (oup (oup O3 446 28 2) 446 19 (nI 1)) 446 20 (nI s3)) := by
        unfold f_X12_bySecond
        rw [w14', if_pos rfl, show (1 : Int32) = nI 1 from rfl, errs_v z3.2.2.2.1 z3.1.at.2, bnd_s]
      obtain ⟨C6, y1, y2⟩ := err_rc (v := 1) z3 (by omega) (by decide) (by decide) kp3'.1 kp3'.2.1 (((rc2.md k1').go eb).le (Nat.zero_le _))
      rw [exp_n k2.2.1 (show ¬ C3 404 2 = (150 : Int32) from c) y1, bnd_s]
      exact bad C6 y2
end
