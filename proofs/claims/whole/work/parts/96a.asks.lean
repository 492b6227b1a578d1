/-! The reader: asks, both, either -/
def Gd2 (F : Nat) : Prop := F = 2
def Gd3 (F : Nat) : Prop := F = 2 ∨ F = 3
def PostA (L : Nat) (b : Nat → Nat) (Lw s d nf nw a fr m : Nat) (σ : List Bool) (A : Nat) (C : CM) (O : OM) (C1 : CM) : Prop :=
  EF A C O C1 ∨ ∃ O1 s1 m1, MD f_X12_askIsOver A O (PT s1 + 1) O1 ∧ PZ L b Lw s1 d nf nw (a + m1) (fr + m1) C1 O1 ∧ KPR nf nw (a + m) (fr + m) C O C1 O1 ∧ m < m1 ∧ m1 + s ≤ m + s1 ∧ Sg a fr Lw m m1 σ (true :: σ) (C1 408) (O1.1 468) (O1.1 469)
def AskS (n d : Nat) : Prop := ∀ L b Lw s nf nw a fr m σ C O, PreQ 0 5 (2 * d) (4 * d) (5 * d - 1) Gd3 L b Lw s d nf nw a fr m σ C O → ∃ C1, RDf n 7 (nI d) C = some C1 ∧ PostA L b Lw s d nf nw a fr m σ (PT s + 2) C O C1
def BothS (n d : Nat) : Prop := ∀ L b Lw s nf nw a fr m σ C O, PreQ 0 2 (2 * d) (4 * d - 1) (5 * d - 2) Gd2 L b Lw s d nf nw a fr m σ C O → ∃ C1, RDf n 6 (nI d) C = some C1 ∧ PostQ 2 1 3 1 true [152] L b Lw s d nf nw a fr m σ (PT s + 2) C O C1
def EitherS (n d : Nat) : Prop := ∀ L b Lw s nf nw a fr m σ C O, PreQ 0 1 (2 * d) (4 * d - 2) (5 * d - 3) Gd2 L b Lw s d nf nw a fr m σ C O → ∃ C1, RDf n 5 (nI d) C = some C1 ∧ PostQ 1 2 3 1 true [152, 153] L b Lw s d nf nw a fr m σ (PT s + 2) C O C1
theorem ask_ind (k : OM → Option OM) : ∀ nf m1 m2 O, nf < 41 → O.1 446 22 = nI nf → nf < m1 → nf < m2 → X12_askIsOver_l0 k m1 O = X12_askIsOver_l0 k m2 O := by
  intro nf
  induction nf with
  | zero =>
    intro m1 m2 O _ h h1 h2
    obtain ⟨m1, rfl⟩ : ∃ j, m1 = j + 1 := ⟨m1 - 1, by omega⟩
    obtain ⟨m2, rfl⟩ : ∃ j, m2 = j + 1 := ⟨m2 - 1, by omega⟩
    have : f_X12_top O = none := by
      unfold f_X12_top
      rw [h]
      exact if_neg (by decide)
    rw [X12_askIsOver_l0, X12_askIsOver_l0, this]
    rfl
  | succ nf ih =>
    intro m1 m2 O hn h h1 h2
    obtain ⟨m1, rfl⟩ : ∃ j, m1 = j + 1 := ⟨m1 - 1, by omega⟩
    obtain ⟨m2, rfl⟩ : ∃ j, m2 = j + 1 := ⟨m2 - 1, by omega⟩
    have e : bnd (f_X12_emits 405 0 (oup (oup O 446 22 ((O.1 446 22) - 1)) 446 21 (((oup O 446 22 ((O.1 446 22) - 1)).1 446 21) - 1))) (fun O3 => X12_askIsOver_l0 k m1 O3) = bnd (f_X12_emits 405 0 (oup (oup O 446 22 ((O.1 446 22) - 1)) 446 21 (((oup O 446 22 ((O.1 446 22) - 1)).1 446 21) - 1))) (fun O3 => X12_askIsOver_l0 k m2 O3) := by
      cases he : f_X12_emits 405 0 (oup (oup O 446 22 ((O.1 446 22) - 1)) 446 21 (((oup O 446 22 ((O.1 446 22) - 1)).1 446 21) - 1)) with
      | none => rfl
      | some O5 =>
        rw [bnd_s, bnd_s]
        refine ih m1 m2 O5 (by omega) ?_ (by omega) (by omega)
        rw [emits_22 he, o2n (by decide), o2s, h, nI_pred]
    rw [X12_askIsOver_l0, X12_askIsOver_l0, e]
theorem ask_good {q F : Nat} {O : OM} (h : O.1 446 22 = nI (q + 1)) (hq : q < 40) (hF : O.1 458 q = nI F) (h0 : F < 100) (h3 : F ≠ 3) : f_X12_askIsOver O = some (oup O 446 28 3) := by
  unfold f_X12_askIsOver
  rw [show FU = 9999 + 1 from rfl, X12_askIsOver_l0, top_v h hq, bnd_s, hF, if_neg (show ¬ nI F = (3 : Int32) from fun e => h3 ((nI_eq (by omega) (by decide)).mp e))]
  rfl
theorem ask_pop {q d no : Nat} {O : OM} (h : O.1 446 22 = nI (q + 1)) (hq : q < 40) (hF : O.1 458 q = nI 3) (hd : O.1 446 21 = nI (d + 1)) (hno : O.1 446 37 = nI no) (hn : no < 400) :
    f_X12_askIsOver O = f_X12_askIsOver (oup (oup (oup (oup (oup O 446 22 (nI q)) 446 21 (nI d)) 468 no 405) 469 no 0) 446 37 (nI (no + 1))) := by
  have top : f_X12_askIsOver O = X12_askIsOver_l0 (fun O => (X12_askIsOver_j39 O)) (9999 + 1) O := rfl
  rw [top, X12_askIsOver_l0, top_v h hq, bnd_s, hF, if_pos (show nI 3 = (3 : Int32) from rfl), h, nI_pred, o2n (by decide), hd, nI_pred, emits_v (O := oup (oup O 446 22 (nI q)) 446 21 (nI d)) (no := no) (by rw [o2n (by decide), o2n (by decide)]; exact hno) hn, bnd_s]
  unfold f_X12_askIsOver
  exact ask_ind _ q 9999 FU _ (by omega) (by rw [o2n (by decide), oup_ne (by decide), oup_ne (by decide), o2n (by decide), o2s]) (by omega) (by unfold FU; omega)
section
variable {n d : Nat} {L : Nat} {b : Nat → Nat} {Lw s nf nw a fr m : Nat} {σ : List Bool} {C : CM} {O : OM}
theorem ask_plain (hd : d ≤ 8) (hS : SumS n d) (h : PreQ 0 5 (2 * d) (4 * d) (5 * d - 1) Gd3 L b Lw s d nf nw a fr m σ C O) (hc : ¬ C 404 2 = nI 154) :
    ∃ C1, X4_readAsk_j24 (RDf n) (nI d) C = some C1 ∧ PostA L b Lw s d nf nw a fr m σ (PT s + 2) C O C1 := by
  obtain ⟨z, st, hs, hfr, n1, n2, n3, n4, n6, F, n7, n8⟩ := h
  have z' := z
  obtain ⟨ts, f1, f2, g1, g2, hL, lw, kw, op, fn, wn, ln, on⟩ := z'
  obtain ⟨O2, hO2⟩ : ∃ O2, O2 = oup (oup (oup O 458 nf 4) 446 22 (nI (nf + 1))) 446 28 1 := ⟨_, rfl⟩
  have w18 := ts.word 26 (by decide)
  rw [if_neg hc] at w18
  have w18' : f_X12_isWord 18 O = 0 := w18
  have ea : f_X12_asks O = some O2 := by
    unfold f_X12_asks
    rw [w18', if_pos rfl, openF_v fn (by omega), bnd_s, hO2]
  have rc2 : RC (PT s + 2) O (PT s + 1) O2 := RC.one (fun n => lp_0 g1 st) ea (by omega)
  have z2 : PZ L b Lw s d (nf + 1) nw (a + m) (fr + m) C O2 := by
    rw [hO2]
    exact ((z.row (c := 458) (by decide) (by decide)).fr).st
  have kp2 : KPR nf nw (a + m) (fr + m) C O C O2 := by
    rw [hO2]
    exact ((KPR.o (c := 458) (k := nf) (by omega)).tr (KPR.o (c := 446) (k := 22) (by omega))).tr (KPR.o (c := 446) (k := 28) (by omega))
  have F2 : O2.1 458 nf = nI 4 := by rw [hO2, oup_ne (by decide), oup_ne (by decide), o2s]; rfl
  have wb2 : WB 3 (nf + 1) nw O2 := (n6.congr (fun j hj => kp2.2.2.2.2.1 j hj)).up (Nat.lt_succ_self _)
  have st2 : O2.1 446 28 = nI 1 := by rw [hO2, o2s]; rfl
  obtain ⟨C3, r1, r2⟩ := hS L b Lw s (nf + 1) nw a fr m σ C O2 ⟨z2, st2, hs, hfr, by omega, by omega, by omega, by omega, wb2, 4, F2, ⟨by decide, by decide, by decide, by decide⟩⟩
  have ecls : X4_readAsk_j24 (RDf n) (nI d) C = if (f_X4_isComparison (C3 404 2)) = 0 then f_X4_fail 1 C3 else (if C3 406 1 = 0 then (bnd (f_X8_next C3) (fun C6 => (bnd (RDf n 0 (nI d) C6) (fun C7 => (bnd2 (f_X6_emit 407 (C3 404 2) 0 C7) (fun _ C8 => (some C8))))))) else some C3) := by
    unfold X4_readAsk_j24
    rw [is_v f1, if_neg (show ¬ C 404 2 = (154 : Int32) from hc), if_pos rfl, r1, bnd_s, bnd_id]
  rw [ecls]
  rcases r2 with r2 | ⟨O4, s3, m3, no3, pd, hok⟩
  · have ef := r2.pre rc2 kp2.1 kp2.2.1
    refine ⟨C3, ?_, Or.inl ef⟩
    by_cases c : f_X4_isComparison (C3 404 2) = 0
    · rw [if_pos c, fail_f ef.ne]
    · rw [if_neg c, if_neg ef.ne]
  · have hok' := hok
    obtain ⟨q1, q2, q3, q4, q5, q6, q7, q8, q9, q10, q11, q12, q13⟩ := hok'
    have hle3 := q3.1.le
    have rc3 := rc2.trans q1
    have kp3 : KPR nf nw (a + m) (fr + m) C O C3 O4 := kp2.trans q6 (Nat.le_succ _) (Nat.le_refl _) (Nat.le_refl _) (Nat.le_refl _)
    have F4 : O4.1 458 nf = nI 4 := by rw [q6.2.2.1 nf (by omega)]; exact F2
    rcases ask_cmp q3.1 with ⟨p, c1, c2, c3, c4, c5, c6⟩ | ⟨c1, c2⟩
    · obtain ⟨O5, e1, e2, e3, e4, e5, e6⟩ := works_end hok (by omega) (by omega) (by omega) (by omega) hfr hs wb2
      have hn3 : ¬ C3 404 2 = 1 := fun e => by rw [e] at c5; exact c5 (by decide)
      obtain ⟨C6, O6, s6, x1, x2, x3, x4, x5, x6⟩ := ((e2.row (c := 459) (k := nf + 1) (x := O5.1 446 18) (by decide) (by decide)).row (c := 458) (k := nf) (x := 5) (by decide) (by decide)).next hn3
      have hle6 := x4.1.le
      have e2' := e2
      obtain ⟨-, -, -, -, -, -, -, -, op5, fn5, -, -, -⟩ := e2'
      have eg : f_X12_goesOn O4 = some (oup O6 446 28 1) := by
        rw [goes_no q3 (by omega) q13, F4]
        unfold X12_goesOn_j65 X12_goesOn_j116 X12_goesOn_j148 X12_goesOn_j217
        rw [if_neg (show ¬ nI 4 = (6 : Int32) by decide), if_neg (show ¬ nI 4 = (8 : Int32) by decide), if_neg (show ¬ nI 4 = (9 : Int32) by decide), if_pos (show nI 4 = (4 : Int32) from rfl), if_pos c3, if_neg c6, show (3 : Int32) = nI 3 from rfl, e1, bnd_s, fn5, gd_p (inbN (by omega) (by decide)), nI_clamp (by omega), oup_ne (show (446 : Nat) ≠ 459 by decide), fn5, nI_pred, gd_p (inbN (by omega) (by decide)), nI_clamp (by omega), x2, bnd_s]
      have rc6 : RC (PT s + 2) O (PT s6 + 1) (oup O6 446 28 1) := rc3.trans (RC.one (fun n => lp_2 q3.2.2.2.1 q2) eg (by unfold PT; omega))
      have z6 : PZ L b Lw s6 d (nf + 1) nw (a + m3) (fr + m3) C6 (oup O6 446 28 1) := x4.st
      have kp6 : KPR nf nw (a + m) (fr + m) C O C6 (oup O6 446 28 1) := ((((kp2.trans e3 (Nat.le_succ _) (Nat.le_refl _) (Nat.le_refl _) (Nat.le_refl _)).tr (KPR.o (c := 459) (k := nf + 1) (by omega))).tr (KPR.o (c := 458) (k := nf) (by omega))).tr (KPR.n x5 x6)).tr (KPR.o (c := 446) (k := 28) (by omega))
      have F6 : (oup O6 446 28 1).1 458 nf = nI 5 := by rw [oup_ne (by decide), x6.1 458 (by decide), o2s]; rfl
      have wb6 : WB 3 (nf + 1) nw (oup O6 446 28 1) := (n6.congr (fun j hj => kp6.2.2.2.2.1 j hj)).up (Nat.lt_succ_self _)
      have R6 : (oup O6 446 28 1).1 459 (nf + 1) = nI p.2 := by rw [oup_ne (by decide), x6.1 459 (by decide), oup_ne (by decide), o2s, e4 18 (by decide) (by decide)]; exact c4
      have sg6 : Sg a fr Lw m m3 σ (false :: σ) (C6 408) ((oup O6 446 28 1).1 468) ((oup O6 446 28 1).1 469) := by
        rw [x5.1 408 (by decide), oup_ne (by decide), oup_ne (by decide), x6.1 468 (by decide), x6.1 469 (by decide), oup_ne (by decide), oup_ne (by decide), oup_ne (by decide), oup_ne (by decide)]
        exact e6
      obtain ⟨C8, y1, y2⟩ := hS L b Lw s6 (nf + 1) nw a fr m3 (false :: σ) C6 (oup O6 446 28 1) ⟨z6, o2s, by omega, hfr, by omega, by omega, by omega, by rw [List.length_cons]; omega, wb6, 5, F6, ⟨by decide, by decide, by decide, by decide⟩⟩
      rw [if_neg c5, if_pos q3.2.1, x1, bnd_s, y1, bnd_s, c2]
      rcases y2 with y2 | ⟨O8, s8, m8, no8, pd8, hok8⟩
      · have ef := y2.pre rc6 kp6.1 kp6.2.1
        obtain ⟨r0, C9, a1, a2, a3, a4, a5⟩ := emit_t (nI p.1) 0 ef.ln
        exact ⟨C9, by rw [a1, bnd2_s], Or.inl (ef.keep a2 a3 a5)⟩
      · have hok8' := hok8
        obtain ⟨t1, t2, t3, t4, t5, t6, t7, t8, t9, t10, t11, t12, t13⟩ := hok8'
        have hle8 := t3.1.le
        have F8 : O8.1 458 nf = nI 5 := by rw [t6.2.2.1 nf (by omega)]; exact F6
        obtain ⟨O9, i1, i2, i3, i4, i5, i6⟩ := works_end hok8 (by omega) (by omega) (by omega) (by omega) hfr (by omega) wb6
        have i2' := i2
        obtain ⟨-, -, -, -, -, -, -, -, -, fn9, -, ln9, on9⟩ := i2'
        have R9 : O9.1 459 (nf + 1) = nI p.2 := by rw [(i3.2.2.2.1 (nf + 1) (Nat.le_refl _)).1]; exact R6
        obtain ⟨OA, hOA⟩ : ∃ OA, OA = oup (oup (oup (oup O9 446 22 (nI nf)) 468 (fr + m8) (nI p.2)) 469 (fr + m8) 0) 446 37 (nI (fr + m8 + 1)) := ⟨_, rfl⟩
        have eg2 : f_X12_goesOn O8 = f_X12_askIsOver OA := by
          rw [goes_no t3 (by omega) t13, F8]
          unfold X12_goesOn_j65 X12_goesOn_j116 X12_goesOn_j148 X12_goesOn_j217 X12_goesOn_j282
          rw [if_neg (show ¬ nI 5 = (6 : Int32) by decide), if_neg (show ¬ nI 5 = (8 : Int32) by decide), if_neg (show ¬ nI 5 = (9 : Int32) by decide), if_neg (show ¬ nI 5 = (4 : Int32) by decide), if_pos (show nI 5 = (5 : Int32) from rfl), show (3 : Int32) = nI 3 from rfl, i1, bnd_s, fn9, gd_p (inbN (by omega) (by decide)), nI_clamp (by omega), nI_pred, R9, emits_v (O := oup O9 446 22 (nI nf)) (no := fr + m8) (by rw [o2n (by decide)]; exact on9) (by omega), bnd_s, bnd_id, hOA]
        obtain ⟨C9, hC9⟩ : ∃ C9, C9 = up2 (up2 C8 408 (a + m8) (0 * 256 + nI p.1)) 407 5 (nI (a + m8 + 1)) := ⟨_, rfl⟩
        have e8 : ∀ j, j ≠ a + m8 → C9 408 j = C8 408 j := fun j hj => by rw [hC9, up2_ne (by decide), u2n hj]
        have e8s : C9 408 (a + m8) = nI p.1 := by rw [hC9, up2_ne (by decide), u2s, Int32.zero_mul, Int32.zero_add]
        have o8 : ∀ j, j ≠ fr + m8 → OA.1 468 j = O9.1 468 j := fun j hj => by rw [hOA, oup_ne (by decide), oup_ne (by decide), o2n hj, oup_ne (by decide)]
        have o8s : OA.1 468 (fr + m8) = nI p.2 := by rw [hOA, oup_ne (by decide), oup_ne (by decide), o2s]
        have o9 : ∀ j, j ≠ fr + m8 → OA.1 469 j = O9.1 469 j := fun j hj => by rw [hOA, oup_ne (by decide), o2n hj, oup_ne (by decide), oup_ne (by decide)]
        refine ⟨C9, by rw [emit_v (t := nI p.1) (v := 0) ln9 (by omega), bnd2_s, hC9], Or.inr ⟨OA, s8, m8 + 1, (rc6.trans t1).md (MD.one (fun n => lp_2 t3.2.2.2.1 t2) eg2 (by omega)), ?_, ?_, by omega, by omega, ?_⟩⟩
        · rw [hC9, hOA]
          exact ((i2.fr).emO).em
        · rw [hC9, hOA]
          exact (((kp6.trans i3 (Nat.le_succ _) (Nat.le_refl _) (by omega) (by omega)).tr (KPR.o (c := 446) (k := 22) (by omega))).tr (KPR.em (by omega))).tr (KPR.c (by omega))
        · have hcm : (p.1, p.2) = (60, 60) ∨ (p.1, p.2) = (62, 62) ∨ (p.1, p.2) = (61, 61) ∨ (p.1, p.2) = (35, 35) ∨ (p.1, p.2) = (4, 300) ∨ (p.1, p.2) = (5, 301) := by
            have : ∀ p, p ∈ CMP → (p.1, p.2) = (60, 60) ∨ (p.1, p.2) = (62, 62) ∨ (p.1, p.2) = (61, 61) ∨ (p.1, p.2) = (35, 35) ∨ (p.1, p.2) = (4, 300) ∨ (p.1, p.2) = (5, 301) := by decide
            exact this p c1
          exact ((sg6.mono (fun i b1 b2 => ⟨(e8 _ (by omega)).trans (i3.2.2.2.2.2.1 _ (by omega)), (o8 _ (by omega)).trans (i3.2.2.2.2.2.2 _ (by omega)).1, (o9 _ (by omega)).trans (i3.2.2.2.2.2.2 _ (by omega)).2⟩)).comp (i6.mono (fun i b1 b2 => ⟨e8 _ (by omega), o8 _ (by omega), o9 _ (by omega)⟩)) (by omega) (by omega)).comp (Sg.cm (by omega) hcm e8s o8s) (by omega) (by omega)
    · obtain ⟨C6, y1, y2⟩ := err_rc (v := 1) q3 (by omega) (by decide) (by decide) kp3.1 kp3.2.1 (rc3.trans (RC.one (fun n => lp_2 q3.2.2.2.1 q2) (goes_bad q3 (by omega) F4 q13 (Or.inr (Or.inr (Or.inr (Or.inl ⟨rfl, c1⟩))))) (by omega)))
      exact ⟨C6, by rw [if_pos c1]; exact y1, Or.inl y2⟩
theorem ask_not (hd : d < 8) (hA : AskS n (d + 1)) (h : PreQ 0 5 (2 * d) (4 * d) (5 * d - 1) Gd3 L b Lw s d nf nw a fr m σ C O) (hc : C 404 2 = nI 154) :
    ∃ C1, X4_readAsk_j24 (RDf n) (nI d) C = some C1 ∧ PostA L b Lw s d nf nw a fr m σ (PT s + 2) C O C1 := by
  obtain ⟨z, st, hs, hfr, n1, n2, n3, n4, n6, F, n7, n8⟩ := h
  have f1 := z.2.1
  have g1 := z.2.2.2.1
  have hn : ¬ C 404 2 = 1 := by rw [hc]; decide
  obtain ⟨C2, O2, s2, w1, w2, w3, w4, w5, w6, w7⟩ := opens_v (f := 3) z hn hd (by omega)
  have hle2 := w4.1.le
  have w18 := z.1.word 26 (by decide)
  rw [if_pos hc] at w18
  have w18' : f_X12_isWord 18 O = 1 := w18
  have rc2 : RC (PT s + 2) O (PT s2 + 2) O2 := RC.one (fun n => lp_0 g1 st) (by
    unfold f_X12_asks
    rw [w18', if_neg n10, show (3 : Int32) = nI 3 from rfl, w2, bnd2_s]) (by unfold PT; omega)
  have wb2 : WB 5 (nf + 1) nw O2 := (n6.congr (fun j hj => w5.2.2.2.2.1 j hj)).up (Nat.lt_succ_self _)
  obtain ⟨C3, r1, r2⟩ := hA L b Lw s2 (nf + 1) nw a fr m σ C2 O2 ⟨w4, by rw [w6]; exact st, by omega, hfr, by omega, by omega, by omega, by omega, wb2, 3, w7, Or.inr rfl⟩
  have ecls : X4_readAsk_j24 (RDf n) (nI d) C = bnd2 (f_X6_emit 407 (nI 154) 0 C3) (fun _ C8 => some C8) := by
    unfold X4_readAsk_j24
    rw [is_v f1, if_pos (show C 404 2 = (154 : Int32) from hc), if_neg n10, w1, bnd_s, nI_1, r1, bnd_s]
    rfl
  rw [ecls]
  rcases r2 with r2 | ⟨O3, s3, m3, k1, k2, k3, k4, k5, k6⟩
  · have ef := r2.pre rc2 w5.1 w5.2.1
    obtain ⟨r0, C4, a1, a2, a3, a4, a5⟩ := emit_t (nI 154) 0 ef.ln
    exact ⟨C4, by rw [a1, bnd2_s], Or.inl (ef.keep a2 a3 a5)⟩
  · have hle3 := k2.1.le
    have k2' := k2
    obtain ⟨-, -, -, -, -, -, -, -, op3, fn3, -, ln3, on3⟩ := k2'
    have F3 : O3.1 458 nf = nI 3 := by rw [k3.2.2.1 nf (by omega)]; exact w7
    obtain ⟨C4, hC4⟩ : ∃ C4, C4 = up2 (up2 C3 408 (a + m3) (0 * 256 + nI 154)) 407 5 (nI (a + m3 + 1)) := ⟨_, rfl⟩
    obtain ⟨O4, hO4⟩ : ∃ O4, O4 = oup (oup (oup (oup (oup O3 446 22 (nI nf)) 446 21 (nI d)) 468 (fr + m3) 405) 469 (fr + m3) 0) 446 37 (nI (fr + m3 + 1)) := ⟨_, rfl⟩
    have e8 : ∀ j, j ≠ a + m3 → C4 408 j = C3 408 j := fun j hj => by rw [hC4, up2_ne (by decide), u2n hj]
    have e8s : C4 408 (a + m3) = nI 154 := by rw [hC4, up2_ne (by decide), u2s, Int32.zero_mul, Int32.zero_add]
    have o8 : ∀ j, j ≠ fr + m3 → O4.1 468 j = O3.1 468 j := fun j hj => by rw [hO4, oup_ne (by decide), oup_ne (by decide), o2n hj, oup_ne (by decide), oup_ne (by decide)]
    have o8s : O4.1 468 (fr + m3) = nI 405 := by rw [hO4, oup_ne (by decide), oup_ne (by decide), o2s]; rfl
    have o9 : ∀ j, j ≠ fr + m3 → O4.1 469 j = O3.1 469 j := fun j hj => by rw [hO4, oup_ne (by decide), o2n hj, oup_ne (by decide), oup_ne (by decide), oup_ne (by decide)]
    refine ⟨C4, by rw [emit_v (t := nI 154) (v := 0) ln3 (by omega), bnd2_s, hC4], Or.inr ⟨O4, s3, m3 + 1, (rc2.md k1).sub ?_, ?_, ?_, by omega, by omega, ?_⟩⟩
    · rw [hO4]
      exact ask_pop fn3 (by omega) F3 op3 on3 (by omega)
    · rw [hC4, hO4]
      exact (((k2.fr).op).emO).em
    · rw [hC4, hO4]
      exact (((w5.trans k3 (Nat.le_succ _) (Nat.le_refl _) (Nat.le_refl _) (Nat.le_refl _)).tr KPR.fo).tr (KPR.em (by omega))).tr (KPR.c (by omega))
    · exact (k6.mono (fun i b1 b2 => ⟨e8 _ (by omega), o8 _ (by omega), o9 _ (by omega)⟩)).comp (Sg.not (by omega) e8s o8s) (by omega) (by omega)
theorem ask_deep (h : PreQ 0 5 (2 * 8) (4 * 8) (5 * 8 - 1) Gd3 L b Lw s 8 nf nw a fr m σ C O) (hc : C 404 2 = nI 154) :
    ∃ C1, f_X4_fail 3 C = some C1 ∧ PostA L b Lw s 8 nf nw a fr m σ (PT s + 2) C O C1 := by
  obtain ⟨z, st, hs, hfr, n1, n2, n3, n4, n6, F, n7, n8⟩ := h
  have g1 := z.2.2.2.1
  have w18 := z.1.word 26 (by decide)
  rw [if_pos hc] at w18
  have w18' : f_X12_isWord 18 O = 1 := w18
  have hle := z.1.le
  obtain ⟨C6, y1, y2⟩ := err_rc (v := 3) (A := PT s + 2) z (by omega) (by decide) (by decide) FrP.refl FrQ.refl (RC.one (fun n => lp_0 g1 st) (by
    unfold f_X12_asks
    rw [w18', if_neg n10, opens_8 z, bnd2_s]) (by omega))
  exact ⟨C6, y1, Or.inl y2⟩
end
theorem ask_s {n d : Nat} (hd : d ≤ 8) (hS : SumS n d) (hA : d < 8 → AskS n (d + 1)) : AskS (n + 1) d := by
  intro L b Lw s nf nw a fr m σ C O h
  have f1 : C 406 1 = 0 := h.1.2.1
  have e : RDf (n + 1) 7 (nI d) C = f_X4_readAsk (RDf n) (nI d) C := rfl
  rw [e]
  unfold f_X4_readAsk
  rw [is_v f1]
  by_cases c : C 404 2 = nI 154
  · rw [if_pos (show C 404 2 = (154 : Int32) from c), if_neg n10]
    by_cases c8 : d < 8
    · rw [if_pos (show nI d < (8 : Int32) from nI_lt c8 (by decide))]
      exact ask_not c8 (hA c8) h c
    · have : d = 8 := by omega
      subst this
      rw [if_neg (show ¬ nI 8 < (8 : Int32) by decide), bnd_id]
      exact ask_deep h c
  · rw [if_neg (show ¬ C 404 2 = (154 : Int32) from c), if_pos rfl]
    exact ask_plain hd hS h c
