/-! The reader: a clause that is a law; any clause -/
theorem TLa.row {q nc a fr k : Nat} {C : CM} {O : OM} {x : Int32} (h : TLa q nc a fr C O) : TLa q nc a fr C (oup O 446 k x) := by
  unfold TLa
  rw [oup_ne (show (463 : Nat) ≠ 446 by decide), oup_ne (show (464 : Nat) ≠ 446 by decide), oup_ne (show (468 : Nat) ≠ 446 by decide), oup_ne (show (469 : Nat) ≠ 446 by decide)]
  exact h
theorem endLaw_v {C : CM} {w : Nat} (hw : w < 4) : f_X6_endLaw 407 (nI (128 + w)) C = some (up2 C 410 w (C 407 5)) := by
  unfold f_X6_endLaw
  rw [(isLawY hw).1, (isLawY hw).2, if_neg n10, gd_p (inbN hw (by decide)), nI_clamp (by omega)]
theorem begin_l {C : CM} {nc a w : Nat} (hw : w < 4) (h6 : C 407 6 = nI nc) (hnc : nc < 24) (h5 : C 407 5 = nI a) : f_X6_begin 407 (nI (128 + w)) C = some (up2 (up2 (up2 (up2 C 411 nc (nI (128 + w))) 407 6 (nI (nc + 1))) 409 w (nI a)) 410 w (nI a)) := by
  rw [begin_v h6 hnc]
  unfold X6_begin_j33
  rw [(isLawY hw).1, (isLawY hw).2, if_neg n10, gd_p (inbN hw (by decide)), gd_p (inbN hw (by decide)), nI_clamp (by omega), up2_ne (show (407 : Nat) ≠ 407 + 2 by decide), u2n (show (5 : Nat) ≠ 6 by decide), up2_ne (show (407 : Nat) ≠ 411 by decide), h5]
theorem used_l : ∀ w, w < 4 → ∀ j, j < 3 → used w j = false := by decide
theorem clause_l {L : Nat} {b : Nat → Nat} {s a nc w : Nat} {C : CM} {O : OM} (h : CLZ L b s a nc C O) (hw : w < 4) (hc : C 404 2 = nI (128 + w)) (h17 : O.1 446 17 = 1) (h18 : O.1 446 18 = nI w) (hnc : nc < 24) (ht : f_X12_wasTold (nI w) (oup O 446 31 (nI w)) = some 0) (hnt : ∀ i, i < nc → O.1 463 i ≠ nI w) :
    ∃ C1, X4_readClause_j55 (nI (128 + w)) C = some C1 ∧ GR C C1 ∧ (EG (PT s + 1) C O C1 ∨ ∃ O1 s1 a1, RC (PT s + 1) O (PT s1 + 1) O1 ∧ CLZ L b s1 a1 (nc + 1) C1 O1 ∧ GQ O O1 ∧ s < s1) := by
  have hn : ¬ C 404 2 = 1 := by rw [hc]; exact fun e => by have := (nI_eq (b := 1) (by omega) (by decide)).mp e; omega
  have h0 := h
  obtain ⟨ts, ⟨f1, f2, g1, g2⟩, ⟨st, op, fn, wn⟩, ⟨c5, c6, o30, o37⟩, ⟨b1, b2, b3⟩, tcs, tls⟩ := h0
  have h17' : ¬ O.1 446 17 = 0 := by rw [h17]; decide
  have st4 : O.1 446 28 = 4 := st
  obtain ⟨Cb, hCb⟩ : ∃ Cb, Cb = up2 (up2 (up2 (up2 C 411 nc (nI (128 + w))) 407 6 (nI (nc + 1))) 409 w (nI a)) 410 w (nI a) := ⟨_, rfl⟩
  have eb : f_X6_begin 407 (nI (128 + w)) C = some Cb := by rw [begin_l hw c6 hnc c5, ← hCb]
  have cbn : ∀ c, c ≠ 407 → c ≠ 409 → c ≠ 410 → c ≠ 411 → Cb c = C c := fun c h1 h2 h3 h4 => by rw [hCb, up2_ne h3, up2_ne h2, up2_ne h1, up2_ne h4]
  obtain ⟨C5, O9, s5, x1, x2, x3, x4, x5, x6⟩ := first_b (w := w) (Cb := Cb) h hn (cbn 404 (by decide) (by decide) (by decide) (by decide)) (cbn 405 (by decide) (by decide) (by decide) (by decide))
  have hle5 := x3.le
  have k5 : ∀ c, c ≠ 404 → C5 c = Cb c := x5.1
  have o9 : ∀ k, (k < 15 ∨ 18 < k) → k ≠ 31 → O9.1 446 k = O.1 446 k := fun k h1 h2 => by rw [x6.2.1 k h1, oup_ne (by decide), oup_ne (by decide), o2n h2]
  have o931 : O9.1 446 31 = nI w := by rw [x6.2.1 31 (by decide), oup_ne (by decide), oup_ne (by decide), o2s]
  obtain ⟨C6, hC6⟩ : ∃ C6, C6 = up2 C5 406 4 (nI (128 + w)) := ⟨_, rfl⟩
  obtain ⟨O10, hO10⟩ : ∃ O10, O10 = oup (oup (oup O9 458 0 1) 446 22 (nI (0 + 1))) 446 28 1 := ⟨_, rfl⟩
  have k6 : ∀ c, c ≠ 404 → c ≠ 406 → C6 c = Cb c := fun c h1 h2 => by rw [hC6, up2_ne h2, k5 c h1]
  have o10 : ∀ k, (k < 15 ∨ 18 < k) → k ≠ 31 → k ≠ 22 → k ≠ 28 → O10.1 446 k = O.1 446 k := fun k h1 h2 h3 h4 => by rw [hO10, o2n h4, o2n h3, oup_ne (by decide), o9 k h1 h2]
  have z : PZ L b w s5 0 1 0 (a + 0) (a + nc + 0) C6 O10 := by
    refine ⟨?_, ?_, ?_, ?_, ?_, hw, ?_, ?_, ?_, ?_, ?_, ?_, ?_⟩
    · rw [hC6, hO10]
      exact x3.congr (by rw [up2_ne (by decide)]) (by rw [up2_ne (by decide)]) (fun k h1 h2 => by rw [o2n (by omega), o2n (by omega), oup_ne (by decide)]) (by rw [oup_ne (by decide), oup_ne (by decide), oup_ne (by decide)])
    · rw [hC6, u2n (by decide), k5 406 (by decide), cbn 406 (by decide) (by decide) (by decide) (by decide)]; exact f1
    · rw [hC6, u2n (by decide), k5 406 (by decide), cbn 406 (by decide) (by decide) (by decide) (by decide)]; exact f2
    · rw [o10 19 (by decide) (by decide) (by decide) (by decide)]; exact g1
    · rw [o10 20 (by decide) (by decide) (by decide) (by decide)]; exact g2
    · rw [hC6, u2s]
    · rw [hO10, o2n (by decide), o2n (by decide), oup_ne (by decide)]; exact o931
    · rw [o10 21 (by decide) (by decide) (by decide) (by decide)]; exact op
    · rw [hO10, o2n (by decide), o2s]
    · rw [o10 25 (by decide) (by decide) (by decide) (by decide)]; exact wn
    · rw [k6 407 (by decide) (by decide), hCb, up2_ne (by decide), up2_ne (by decide), u2n (by decide), up2_ne (by decide)]; exact c5
    · rw [o10 37 (by decide) (by decide) (by decide) (by decide)]; exact o37
  have F10 : O10.1 458 0 = nI 1 := by rw [hO10, oup_ne (by decide), oup_ne (by decide), o2s]; rfl
  obtain ⟨C7, r1, r2⟩ := sum_0 L b w s5 1 0 a (a + nc) 0 [] C6 O10 ⟨z, by rw [hO10, o2s]; rfl, by omega, by omega, Nat.le_refl _, by decide, by decide, by decide, fun j hj => absurd hj (by omega), 1, F10, ⟨by decide, by decide, by decide, by decide⟩⟩
  have grb : GR C C6 := by
    refine ((?_ : GR C Cb).trans (GR.n x5)).trans (by rw [hC6]; exact GR.u (by decide) (by decide))
    rw [hCb]
    exact (((GR.u (c := 411) (by decide) (by decide)).trans (GR.u (c := 407) (by decide) (by decide))).trans (GR.u (c := 409) (by decide) (by decide))).trans (GR.u (c := 410) (by decide) (by decide))
  have gqb : GQ O O10 := by
    refine ((((GQ.o (c := 446) (k := 31) (by omega)).trans (GQ.o (c := 463) (by omega))).trans (GQ.o (c := 464) (by omega))).trans (GQ.n x6)).trans ?_
    rw [hO10]
    exact ((GQ.o (by omega)).trans (GQ.o (by omega))).trans (GQ.o (by omega))
  have ec : X4_readClause_j55 (nI (128 + w)) C = f_X4_expect 59 (up2 C7 410 w (C7 407 5)) := by
    unfold X4_readClause_j55 X4_readClause_j124
    rw [c6, if_pos (show nI nc < (24 : Int32) from nI_lt hnc (by decide)), eb, bnd_s, x1, bnd_s, (isLawY hw).1, if_neg n10, ← hC6, show RDf 100 0 0 C6 = some C7 from r1, bnd_s, endLaw_v hw, bnd_s, bnd_id]
  have n3 : ¬ (3 : Int32) < nI w := nI_nlt (show w ≤ 3 by omega) (by decide)
  have eo : f_X12_clause O = some O10 := by
    unfold f_X12_clause X12_clause_j58
    rw [if_pos h17, h18, if_pos (show nI w ≤ (11 : Int32) from nI_le (show w ≤ 11 by omega) (by decide)), o2s, if_neg n3, ht, bnd_s, if_pos rfl, o2n (show (30 : Nat) ≠ 31 by decide), o30, if_neg (show ¬ nI nc = (24 : Int32) from fun e => by have := (nI_eq (b := 24) (by omega) (by decide)).mp e; omega), j73_v (O := oup O 446 31 (nI w)) (nc := nc) (w := w) (no := a + nc) (by rw [o2n (by decide)]; exact g1) (by rw [o2n (by decide)]; exact o30) hnc o2s (by rw [o2n (by decide)]; exact o37), x2, bnd_s, o931, if_neg n3, openF_v (O := O9) (nf := 0) (by rw [o9 22 (by decide) (by decide)]; exact fn) (by decide), bnd_s, hO10]
  have rc10 : RC (PT s + 1) O (PT s5 + 1) O10 := RC.one (fun n => lp_4 g1 st4 h17') eo (by unfold PT; omega)
  rw [ec]
  rcases r2 with ⟨O1, v, h1, hv, hv6, e1, e2, e3, fp, fq, ln⟩ | ⟨O11, s8, m8, no8, pd, hok⟩
  · have e1' : (up2 C7 410 w (C7 407 5)) 406 1 = nI v := by rw [up2_ne (by decide)]; exact e1
    have gr8 : GR C (up2 C7 410 w (C7 407 5)) := (grb.trans (GR.p fp)).trans (GR.u (by decide) (by decide))
    exact ⟨_, exp_f (by rw [e1']; exact nI_ne0 (by omega) (by omega)), gr8, Or.inl ⟨O1, v, rc10.trans h1, hv, hv6, e1', e2, by rw [up2_ne (by decide)]; exact e3, gr8, gqb.trans (GQ.q fq)⟩⟩
  · obtain ⟨q1, q2, q3, q4, q5, q6, q7, q8, q9, q10, q11, q12, q13⟩ := hok
    have hok1 : OKQ 1 2 2 2 false [42, 47, 43, 45] L b w s5 0 1 0 a (a + nc) 0 [] (PT s5 + 1) C6 O10 C7 O11 s8 m8 no8 pd := ⟨q1, q2, q3, q4, q5, q6, q7, q8, q9.le (by decide), q10, q11, q12, q13⟩
    have hle8 := q3.1.le
    obtain ⟨O12, e1, e2, e3, e4, e5, e6⟩ := works_end hok1 (by decide) (by decide) (by decide) (by decide) (by omega) (by omega) (fun j hj => absurd hj (by omega))
    have F11 : O11.1 458 0 = nI 1 := by rw [q6.2.2.1 0 (by decide)]; exact F10
    have e2' := e2
    obtain ⟨ts12, d1, d2, d3, d4, -, -, -, op12, fn12, wn12, ln12, on12⟩ := e2'
    have k7 : ∀ c, c ≠ 404 → c ≠ 406 → c ≠ 407 → c ≠ 408 → C7 c = C6 c := q6.1.1
    have gr8 : GR C (up2 C7 410 w (C7 407 5)) := (grb.trans (GR.p q6.1)).trans (GR.u (by decide) (by decide))
    by_cases c : C7 404 2 = nI 59
    · have s59 := q3.1.sign 59 59 (by decide)
      rw [if_pos c] at s59
      have s59' : f_X12_isSign 59 O11 = 1 := s59
      obtain ⟨C8, hC8⟩ : ∃ C8, C8 = up2 C7 410 w (C7 407 5) := ⟨_, rfl⟩
      obtain ⟨Ox, hOx⟩ : ∃ Ox, Ox = oup (oup (oup (oup (oup O12 446 22 0) 468 (a + nc + m8) 408) 469 (a + nc + m8) 0) 446 37 (nI (a + nc + m8 + 1))) 446 30 (nI (nc + 1)) := ⟨_, rfl⟩
      have ox46 : ∀ k, k ≠ 22 → k ≠ 37 → k ≠ 30 → Ox.1 446 k = O12.1 446 k := fun k h1 h2 h3 => by rw [hOx, o2n h3, o2n h2, oup_ne (by decide), oup_ne (by decide), o2n h1]
      have oxc : ∀ c, c ≠ 446 → c ≠ 468 → c ≠ 469 → Ox.1 c = O12.1 c := fun c h1 h2 h3 => by rw [hOx, oup_ne h1, oup_ne h1, oup_ne h3, oup_ne h2, oup_ne h1]
      have tsx : TS L b s8 C8 Ox := by
        rw [hC8]
        exact ts12.congr (by rw [up2_ne (by decide)]) (by rw [up2_ne (by decide)]) (fun k h1 h2 => ox46 k (by omega) (by omega) (by omega)) (oxc 449 (by decide) (by decide) (by decide))
      obtain ⟨C9, O13, s9, y1, y2, y3, y4, y5, y6⟩ := tsx.next (by rw [hC8, up2_ne (by decide), c]; decide)
      have hle9 := y3.le
      have e30 : O12.1 446 30 = nI nc := by rw [e4 30 (by decide) (by decide), q6.2.1.2.1 30 (by decide) (by decide), o10 30 (by decide) (by decide) (by decide) (by decide)]; exact o30
      have eg : f_X12_goesOn O11 = some (oup O13 446 28 4) := by
        rw [goes_no q3 (by decide) q13, F11]
        unfold X12_goesOn_j65 X12_goesOn_j116 X12_goesOn_j148 X12_goesOn_j217 X12_goesOn_j282
        rw [if_neg (show ¬ nI 1 = (6 : Int32) by decide), if_neg (show ¬ nI 1 = (8 : Int32) by decide), if_neg (show ¬ nI 1 = (9 : Int32) by decide), if_neg (show ¬ nI 1 = (4 : Int32) by decide), if_neg (show ¬ nI 1 = (5 : Int32) by decide), if_pos (show nI 1 = (1 : Int32) from rfl), s59', if_neg n10, cio_v (show f_X12_works 1 O11 = some O12 from e1) on12 (by omega) e30, ← hOx, y2, bnd_s, bnd_s]
      obtain ⟨O14, hO14⟩ : ∃ O14, O14 = oup O13 446 28 4 := ⟨_, rfl⟩
      rw [← hO14] at eg
      have o14 : ∀ c, c ≠ 446 → O14.1 c = Ox.1 c := fun c h1 => by rw [hO14, oup_ne h1, y6.1 c h1]
      have o1446 : ∀ k, (k < 15 ∨ 18 < k) → k ≠ 28 → O14.1 446 k = Ox.1 446 k := fun k h1 h2 => by rw [hO14, o2n h2, y6.2.1 k h1]
      have ob : ∀ c, c ≠ 446 → (c < 458 ∨ 462 < c) → c ≠ 468 → c ≠ 469 → c ≠ 463 → c ≠ 464 → O14.1 c = O.1 c := fun c h1 h2 h3 h4 h5 h6 => by rw [o14 c h1, oxc c h1 h3 h4, e3.2.1.1 c h1 h2 h3 h4, hO10, oup_ne h1, oup_ne h1, oup_ne (by omega), x6.1 c h1, oup_ne h6, oup_ne h5, oup_ne h1]
      have h463 : ∀ k, O14.1 463 k = if k = nc then nI w else O.1 463 k := fun k => by
        rw [o14 463 (by decide), oxc 463 (by decide) (by decide) (by decide), e3.2.1.1 463 (by decide) (by decide) (by decide) (by decide), hO10, oup_ne (by decide), oup_ne (by decide), oup_ne (by decide), x6.1 463 (by decide), oup_ne (by decide)]
        by_cases e : k = nc
        · rw [if_pos e, e, o2s]
        · rw [if_neg e, o2n e, oup_ne (by decide)]
      have h464 : ∀ k, O14.1 464 k = if k = nc then nI (a + nc) else O.1 464 k := fun k => by
        rw [o14 464 (by decide), oxc 464 (by decide) (by decide) (by decide), e3.2.1.1 464 (by decide) (by decide) (by decide) (by decide), hO10, oup_ne (by decide), oup_ne (by decide), oup_ne (by decide), x6.1 464 (by decide)]
        by_cases e : k = nc
        · rw [if_pos e, e, o2s]
        · rw [if_neg e, o2n e, oup_ne (by decide), oup_ne (by decide)]
      have ox8 : ∀ j, j ≠ a + nc + m8 → O14.1 468 j = O12.1 468 j ∧ O14.1 469 j = O12.1 469 j := fun j hj => by
        constructor
        · rw [o14 468 (by decide), hOx, oup_ne (by decide), oup_ne (by decide), oup_ne (by decide), o2n hj, oup_ne (by decide)]
        · rw [o14 469 (by decide), hOx, oup_ne (by decide), oup_ne (by decide), o2n hj, oup_ne (by decide), oup_ne (by decide)]
      have h468 : ∀ j, j < a + nc → O14.1 468 j = O.1 468 j ∧ O14.1 469 j = O.1 469 j := fun j hj => by
        rw [(ox8 j (by omega)).1, (ox8 j (by omega)).2, (e3.2.2.2.2.2.2 j (by omega)).1, (e3.2.2.2.2.2.2 j (by omega)).2, hO10, oup_ne (by decide), oup_ne (by decide), oup_ne (by decide), oup_ne (by decide), oup_ne (by decide), oup_ne (by decide), x6.1 468 (by decide), x6.1 469 (by decide), oup_ne (by decide), oup_ne (by decide), oup_ne (by decide), oup_ne (by decide), oup_ne (by decide), oup_ne (by decide)]
        exact ⟨rfl, rfl⟩
      have c9 : ∀ c, c ≠ 404 → c ≠ 406 → c ≠ 407 → c ≠ 408 → c ≠ 410 → C9 c = Cb c := fun c h1 h2 h3 h4 h5 => by rw [y5.1 c h1, hC8, up2_ne h5, k7 c h1 h2 h3 h4, k6 c h1 h2]
      have h411 : ∀ k, k ≠ nc → C9 411 k = C 411 k := fun k e => by rw [c9 411 (by decide) (by decide) (by decide) (by decide) (by decide), hCb, up2_ne (by decide), up2_ne (by decide), up2_ne (by decide), u2n e]
      have h411s : C9 411 nc = nI (128 + w) := by rw [c9 411 (by decide) (by decide) (by decide) (by decide) (by decide), hCb, up2_ne (by decide), up2_ne (by decide), up2_ne (by decide), u2s]
      have h412 : C9 412 = C 412 := by rw [c9 412 (by decide) (by decide) (by decide) (by decide) (by decide), cbn 412 (by decide) (by decide) (by decide) (by decide)]
      have h409 : ∀ k, C9 409 k = if k = w then nI a else C 409 k := fun k => by
        rw [c9 409 (by decide) (by decide) (by decide) (by decide) (by decide), hCb, up2_ne (by decide)]
        by_cases e : k = w
        · rw [if_pos e, e, u2s]
        · rw [if_neg e, u2n e, up2_ne (by decide), up2_ne (by decide)]
      have h410 : ∀ k, C9 410 k = if k = w then nI (a + m8) else C 410 k := fun k => by
        rw [y5.1 410 (by decide), hC8]
        by_cases e : k = w
        · rw [if_pos e, e, u2s]; exact ln12
        · rw [if_neg e, u2n e, k7 410 (by decide) (by decide) (by decide) (by decide), k6 410 (by decide) (by decide), hCb, u2n e, up2_ne (by decide), up2_ne (by decide), up2_ne (by decide)]
      have h408a : C9 408 = C7 408 := by rw [y5.1 408 (by decide), hC8, up2_ne (by decide)]
      have h408 : ∀ j, j < a → C9 408 j = C 408 j := fun j hj => by rw [h408a, q6.2.2.2.2.2.1 j (by omega), k6 408 (by decide) (by decide), cbn 408 (by decide) (by decide) (by decide) (by decide)]
      have c9_6 : C9 406 = C7 406 := by rw [y5.1 406 (by decide), hC8, up2_ne (by decide)]
      have c9_7 : C9 407 = C7 407 := by rw [y5.1 407 (by decide), hC8, up2_ne (by decide)]
      have ts14 : TS L b s9 C9 O14 := by
        rw [hO14]
        exact y3.congr rfl rfl (fun k h1 h2 => o2n (by omega)) (oup_ne (by decide))
      refine ⟨C9, by rw [← hC8]; exact exp_y (by rw [hC8, up2_ne (by decide)]; exact q3.2.1) (show C8 404 2 = (59 : Int32) by rw [hC8, up2_ne (by decide)]; exact c) y1, by rw [← hC8] at gr8; exact gr8.trans (GR.n y5), Or.inr ⟨O14, s9, a + m8, (rc10.trans q1).trans (RC.one (fun n => lp_2 q3.2.2.2.1 q2) eg (by unfold PT; omega)), ⟨ts14, ⟨by rw [c9_6]; exact d1, by rw [c9_6]; exact d2, ?_, ?_⟩, ⟨by rw [hO14, o2s]; rfl, ?_, ?_, ?_⟩, ⟨by rw [c9_7]; exact ln12, ?_, ?_, ?_⟩, ⟨by omega, by omega, fun _ => by omega⟩, fun i hi => ?_, fun q hq => ?_⟩, ?_, by omega⟩⟩
      · rw [o1446 19 (by decide) (by decide), ox46 19 (by decide) (by decide) (by decide)]; exact d3
      · rw [o1446 20 (by decide) (by decide), ox46 20 (by decide) (by decide) (by decide)]; exact d4
      · rw [o1446 21 (by decide) (by decide), ox46 21 (by decide) (by decide) (by decide)]; exact op12
      · rw [o1446 22 (by decide) (by decide), hOx, o2n (by decide), o2n (by decide), oup_ne (by decide), oup_ne (by decide), o2s]; rfl
      · rw [o1446 25 (by decide) (by decide), ox46 25 (by decide) (by decide) (by decide)]; exact wn12
      · rw [c9_7, q6.1.2.2.1 6 (by decide), k6 407 (by decide) (by decide), hCb, up2_ne (by decide), up2_ne (by decide), u2s]
      · rw [o1446 30 (by decide) (by decide), hOx, o2s]
      · rw [o1446 37 (by decide) (by decide), hOx, o2n (by decide), o2s, show a + nc + m8 + 1 = a + m8 + (nc + 1) by omega]
      · by_cases e : i = nc
        · subst e
          exact ⟨w, by omega, h411s, by rw [h463 i, if_pos rfl], fun j hj hu => by rw [used_l w hw j hj] at hu; exact absurd hu (by decide), fun e => absurd e (by omega)⟩
        · exact (tcs i (by omega)).mono (nc := nc) (by omega) h411 (fun k _ => by rw [h412]) (fun k e => by rw [h463 k, if_neg e]) (fun c k _ hc => by rw [ob c (by omega) (by omega) (by omega) (by omega) (by omega) (by omega)])
      · by_cases e : q = w
        · subst e
          obtain ⟨dp, p1, p2, p3, p4⟩ := e6
          refine Or.inr ⟨nc, a, m8, a + nc, dp, by omega, by rw [h463 nc, if_pos rfl], fun i' hi' hne => by rw [h463 i', if_neg hne]; exact hnt i' (by omega), by rw [h464 nc, if_pos rfl], by omega, by omega, by omega, by rw [h409 q, if_pos rfl], by rw [h410 q, if_pos rfl], ?_, p1, p2, fun i hi => p3 i (Nat.zero_le _) hi, fun i hi => ?_⟩
          · rw [o14 468 (by decide), hOx, oup_ne (by decide), oup_ne (by decide), oup_ne (by decide), o2s]; rfl
          · rw [h408a, (ox8 _ (by omega)).1, (ox8 _ (by omega)).2]
            exact p4 i (Nat.zero_le _) hi
        · exact (tls q hq).mono (by omega) (by omega) (by rw [h409 q, if_neg e]) (by rw [h410 q, if_neg e]) h408 (fun k e => ⟨by rw [h463 k, if_neg e], by rw [h464 k, if_neg e]⟩) (by rw [h463 nc, if_pos rfl]; exact fun e2 => e ((nI_eq (by omega) (by omega)).mp e2).symm) h468
      · refine (gqb.trans (GQ.q e3.2.1)).trans ?_
        rw [hO14]
        refine GQ.trans (?_ : GQ O12 Ox) ((GQ.n y6).trans (GQ.o (by omega)))
        rw [hOx]
        exact ((((GQ.o (by omega)).trans (GQ.o (by omega))).trans (GQ.o (by omega))).trans (GQ.o (by omega))).trans (GQ.o (by omega))
    · have ecl := goes_bad q3 (by decide) F11 q13 (Or.inr (Or.inr (Or.inr (Or.inr ⟨rfl, c⟩))))
      have fz : (up2 C7 410 w (C7 407 5)) 406 1 = 0 := by rw [up2_ne (by decide)]; exact q3.2.1
      have gr2 := gr8.trans ((GR.u (c := 406) (k := 1) (x := nI 1) (by decide) (by decide)).trans (GR.u (c := 406) (k := 2) (x := nI s8) (by decide) (by decide)))
      exact ⟨_, exp_n fz (show ¬ (up2 C7 410 w (C7 407 5)) 404 2 = (59 : Int32) by rw [up2_ne (by decide)]; exact c) (show f_X4_fail 1 _ = some (up2 (up2 (up2 C7 410 w (C7 407 5)) 406 1 (nI 1)) 406 2 (nI s8)) from fail_v fz (by rw [up2_ne (by decide)]; exact q3.1.at.1)), gr2, Or.inl ⟨_, 1, (rc10.trans q1).trans (RC.one (fun n => lp_2 q3.2.2.2.1 q2) ecl (by omega)), by decide, by decide, by rw [u2n (by decide), u2s], by rw [o2n (by decide), o2s], by rw [o2s, u2s], gr2, ((gqb.trans (GQ.q q6.2.1)).trans (GQ.o (by omega))).trans (GQ.o (by omega))⟩⟩
