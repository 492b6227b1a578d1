/-! The reader: a clause that is a deed -/
theorem eg_err {L : Nat} {b : Nat → Nat} {s a nc v : Nat} {C : CM} {O Oa : OM} (h : CLZ L b s a nc C O) (hn : ¬ C 404 2 = 1) (hv : 1 ≤ v) (hv6 : v ≤ 6) (he : f_X12_clause O = some (oup (oup Oa 446 19 (nI v)) 446 20 (nI s))) (hq : GQ O Oa) :
    ∃ C1, f_X4_fail (nI v) C = some C1 ∧ GR C C1 ∧ EG (PT s + 1) C O C1 := by
  obtain ⟨ts, ⟨f1, f2, g1, g2⟩, ⟨st, -, -, -⟩, -⟩ := h
  have gr : GR C (up2 (up2 C 406 1 (nI v)) 406 2 (nI s)) := (GR.u (c := 406) (by decide) (by decide)).trans (GR.u (c := 406) (by decide) (by decide))
  refine ⟨_, fail_v f1 ts.at.1, gr, _, v, RC.one (fun n => lp_4 g1 st (fun e => hn ((tk_e ts.tk).mpr e))) he (by omega), hv, hv6, by rw [u2n (by decide), u2s], by rw [o2n (by decide), o2s], by rw [o2s, u2s], gr, (hq.trans (GQ.o (by omega))).trans (GQ.o (by omega))⟩
theorem begin_v {C : CM} {nc w : Nat} (h6 : C 407 6 = nI nc) (hnc : nc < 24) : f_X6_begin 407 (nI (128 + w)) C = X6_begin_j33 407 (nI (128 + w)) (up2 (up2 C 411 nc (nI (128 + w))) 407 6 (nI (nc + 1))) := by
  unfold f_X6_begin
  rw [h6, show f_X11_within (nI nc) 0 23 = 1 from (wi_y (lo := 0) (hi := 23) (by omega) (by omega) (by decide)).1, if_neg n10, gd_p (inbN hnc (by decide)), nI_clamp (by omega), up2_ne (show (407 : Nat) ≠ 407 + 4 by decide), h6, nI_1]
theorem j73_v {O : OM} {nc w no : Nat} (g1 : O.1 446 19 = 0) (h30 : O.1 446 30 = nI nc) (hnc : nc < 24) (h31 : O.1 446 31 = nI w) (h37 : O.1 446 37 = nI no) :
    X12_clause_j73 O = bnd (f_X12_next (oup (oup O 463 nc (nI w)) 464 nc (nI no))) (fun O9 => (if (3 : Int32) < (O9.1 446 31) then (bnd (f_X12_doing O9) (fun O11 => (if (O11.1 446 19) = 0 then (if (f_X12_isSign (59 : Int32) O11) = 0 then (bnd (f_X12_errs (1 : Int32) O11) (fun O16 => (X12_clause_j155 O16))) else (X12_clause_j155 O11)) else (X12_clause_j155 O11)))) else (bnd (f_X12_opensFrame (1 : Int32) O9) (fun O17 => (some (oup O17 446 28 (1 : Int32))))))) := by
  unfold X12_clause_j73
  rw [if_pos (show O.1 446 19 ≤ 0 by rw [g1]; exact Int32.le_refl _), h30, gd_p (inbN hnc (by decide)), nI_clamp (by omega), oup_ne (show (446 : Nat) ≠ 463 by decide), h30, gd_p (inbN hnc (by decide)), nI_clamp (by omega), h31, h37]
/-- a clause's first token is taken, on both sides -/
theorem first_b {L : Nat} {b : Nat → Nat} {s a nc w : Nat} {C Cb : CM} {O : OM} (h : CLZ L b s a nc C O) (hn : ¬ C 404 2 = 1) (h4 : Cb 404 = C 404) (h5 : Cb 405 = C 405) :
    ∃ C5 O9 s5, f_X8_next Cb = some C5 ∧ f_X12_next (oup (oup (oup O 446 31 (nI w)) 463 nc (nI w)) 464 nc (nI (a + nc))) = some O9 ∧ TS L b s5 C5 O9 ∧ s < s5 ∧ FC4 Cb C5 ∧ FO6 (oup (oup (oup O 446 31 (nI w)) 463 nc (nI w)) 464 nc (nI (a + nc))) O9 := by
  have ts2 : TS L b s Cb (oup (oup (oup O 446 31 (nI w)) 463 nc (nI w)) 464 nc (nI (a + nc))) := h.1.congr h4 h5 (fun k a1 a2 => by rw [oup_ne (by decide), oup_ne (by decide), o2n (by omega)]) (by rw [oup_ne (by decide), oup_ne (by decide), oup_ne (by decide)])
  exact ts2.next (by rw [h4]; exact hn)
theorem clause_d {L : Nat} {b : Nat → Nat} {s a nc w : Nat} {C : CM} {O : OM} (h : CLZ L b s a nc C O) (hw : 4 ≤ w) (hw2 : w < 12) (hc : C 404 2 = nI (128 + w)) (h17 : O.1 446 17 = 1) (h18 : O.1 446 18 = nI w) (hnc : nc < 24) :
    ∃ C1, X4_readClause_j55 (nI (128 + w)) C = some C1 ∧ GR C C1 ∧ (EG (PT s + 1) C O C1 ∨ ∃ O1 s1, RC (PT s + 1) O (PT s1 + 1) O1 ∧ CLZ L b s1 a (nc + 1) C1 O1 ∧ GQ O O1 ∧ s < s1) := by
  have hn : ¬ C 404 2 = 1 := by rw [hc]; exact fun e => by have := (nI_eq (b := 1) (by omega) (by decide)).mp e; omega
  have h0 := h
  obtain ⟨ts, ⟨f1, f2, g1, g2⟩, ⟨st, op, fn, wn⟩, ⟨c5, c6, o30, o37⟩, ⟨b1, b2, b3⟩, tcs, tls⟩ := h0
  have h17' : ¬ O.1 446 17 = 0 := by rw [h17]; decide
  obtain ⟨Cb, hCb⟩ : ∃ Cb, Cb = up2 (up2 C 411 nc (nI (128 + w))) 407 6 (nI (nc + 1)) := ⟨_, rfl⟩
  have eb : f_X6_begin 407 (nI (128 + w)) C = some Cb := by
    rw [begin_v c6 hnc, ← hCb]
    unfold X6_begin_j33
    rw [isLaw_n w hw2 hw, if_pos rfl]
  obtain ⟨C5, O9, s5, x1, x2, x3, x4, x5, x6⟩ := first_b (w := w) (Cb := Cb) h hn (by rw [hCb, up2_ne (by decide), up2_ne (by decide)]) (by rw [hCb, up2_ne (by decide), up2_ne (by decide)])
  have k5 : ∀ c, c ≠ 404 → C5 c = Cb c := x5.1
  have o9 : ∀ k, (k < 15 ∨ 18 < k) → k ≠ 31 → O9.1 446 k = O.1 446 k := fun k h1 h2 => by rw [x6.2.1 k h1, oup_ne (by decide), oup_ne (by decide), o2n h2]
  have o931 : O9.1 446 31 = nI w := by rw [x6.2.1 31 (by decide), oup_ne (by decide), oup_ne (by decide), o2s]
  have b406 : Cb 406 = C 406 := by rw [hCb, up2_ne (by decide), up2_ne (by decide)]
  have ds : DS L b s5 C5 O9 := Or.inl ⟨by rw [k5 406 (by decide), b406]; exact f1, by rw [k5 406 (by decide), b406]; exact f2, by rw [o9 19 (by decide) (by decide)]; exact g1, by rw [o9 20 (by decide) (by decide)]; exact g2, s5, Nat.le_refl _, x3⟩
  have h6 : C5 407 6 = nI (nc + 1) := by rw [k5 407 (by decide), hCb, u2s]
  obtain ⟨C6, O11, r1, r2, r3, r4, r5⟩ := deed_d hw hw2 hnc h6 (by rw [o9 30 (by decide) (by decide)]; exact o30) o931 ds
  have grb : GR C C6 := by
    refine ((?_ : GR C Cb).trans (GR.n x5)).trans (GR.x r4)
    rw [hCb]
    exact (GR.u (c := 411) (by decide) (by decide)).trans (GR.u (c := 407) (by decide) (by decide))
  have gqb : GQ O O11 := ((((GQ.o (c := 446) (k := 31) (by omega)).trans (GQ.o (c := 463) (by omega))).trans (GQ.o (c := 464) (by omega))).trans (GQ.n x6)).trans (GQ.x r4)
  have ec : X4_readClause_j55 (nI (128 + w)) C = f_X4_expect 59 C6 := by
    unfold X4_readClause_j55 X4_readClause_j124
    rw [c6, if_pos (show nI nc < (24 : Int32) from nI_lt hnc (by decide)), eb, bnd_s, x1, bnd_s, isLaw_n w hw2 hw, if_pos rfl, r1, bnd_s, bnd_id]
  have n3 : (3 : Int32) < nI w := nI_lt (show 3 < w by omega) (by omega)
  have eo : f_X12_clause O = (if (O11.1 446 19) = 0 then (if (f_X12_isSign (59 : Int32) O11) = 0 then (bnd (f_X12_errs (1 : Int32) O11) (fun O16 => (X12_clause_j155 O16))) else (X12_clause_j155 O11)) else (X12_clause_j155 O11)) := by
    unfold f_X12_clause X12_clause_j58
    rw [if_pos h17, h18, if_pos (show nI w ≤ (11 : Int32) from nI_le (show w ≤ 11 by omega) (by decide)), o2s, if_pos n3, o2n (show (30 : Nat) ≠ 31 by decide), o30, if_neg (show ¬ nI nc = (24 : Int32) from fun e => by have := (nI_eq (b := 24) (by omega) (by decide)).mp e; omega), j73_v (O := oup O 446 31 (nI w)) (nc := nc) (w := w) (no := a + nc) (by rw [o2n (by decide)]; exact g1) (by rw [o2n (by decide)]; exact o30) hnc o2s (by rw [o2n (by decide)]; exact o37), x2, bnd_s, o931, if_pos n3, r2, bnd_s]
  rw [ec]
  have st4 : O.1 446 28 = 4 := st
  rcases r3 with ⟨d1, d2, d3, d4, s6, d5, d6⟩ | ⟨v, hv, hv6, d1, d2, d3⟩
  · have a6 : C6 407 5 = nI a := by rw [r4.1 407 (by decide) (by decide) (by decide), k5 407 (by decide), hCb, u2n (by decide), up2_ne (by decide)]; exact c5
    by_cases c : C6 404 2 = nI 59
    · have s59 := d6.sign 59 59 (by decide)
      rw [if_pos c] at s59
      have s59' : f_X12_isSign 59 O11 = 1 := s59
      have o11 : ∀ k, (k < 15 ∨ 20 < k) → k ≠ 31 → O11.1 446 k = O.1 446 k := fun k h1 h2 => by rw [r4.2.2.2.2.2.1 k h1, o9 k (by omega) h2]
      have ew : f_X12_works 1 O11 = some O11 := by
        unfold f_X12_works
        rw [show FU = 9999 + 1 from rfl, X12_works_l0, if_pos (show O11.1 446 25 ≤ 0 by rw [o11 25 (by decide) (by decide), wn]; exact Int32.le_refl _)]
      obtain ⟨Ox, hOx⟩ : ∃ Ox, Ox = oup (oup (oup (oup (oup O11 446 22 0) 468 (a + nc) 408) 469 (a + nc) 0) 446 37 (nI (a + nc + 1))) 446 30 (nI (nc + 1)) := ⟨_, rfl⟩
      have ox46 : ∀ k, k ≠ 22 → k ≠ 37 → k ≠ 30 → Ox.1 446 k = O11.1 446 k := fun k h1 h2 h3 => by rw [hOx, o2n h3, o2n h2, oup_ne (by decide), oup_ne (by decide), o2n h1]
      have oxc : ∀ c, c ≠ 446 → c ≠ 468 → c ≠ 469 → Ox.1 c = O11.1 c := fun c h1 h2 h3 => by rw [hOx, oup_ne h1, oup_ne h1, oup_ne h3, oup_ne h2, oup_ne h1]
      have tsx : TS L b s6 C6 Ox := d6.congr rfl rfl (fun k h1 h2 => ox46 k (by omega) (by omega) (by omega)) (oxc 449 (by decide) (by decide) (by decide))
      have hle := d6.le
      obtain ⟨C7, O12, s7, y1, y2, y3, y4, y5, y6⟩ := tsx.next (by rw [c]; decide)
      have hle7 := y3.le
      have ecl : f_X12_clause O = some (oup O12 446 28 4) := by
        have e37 : O11.1 446 37 = nI (a + nc) := by rw [o11 37 (by decide) (by decide)]; exact o37
        have e30 : O11.1 446 30 = nI nc := by rw [o11 30 (by decide) (by decide)]; exact o30
        rw [eo, if_pos d3, s59', if_neg n10]
        unfold X12_clause_j155
        rw [if_pos d3, cio_v ew e37 (by omega) e30, ← hOx, y2, bnd_s, bnd_s]
      obtain ⟨O13, hO13⟩ : ∃ O13, O13 = oup O12 446 28 4 := ⟨_, rfl⟩
      rw [← hO13] at ecl
      have o13 : ∀ c, c ≠ 446 → O13.1 c = Ox.1 c := fun c h1 => by rw [hO13, oup_ne h1, y6.1 c h1]
      have o1346 : ∀ k, (k < 15 ∨ 18 < k) → k ≠ 28 → O13.1 446 k = Ox.1 446 k := fun k h1 h2 => by rw [hO13, o2n h2, y6.2.1 k h1]
      have c7 : ∀ c, c ≠ 404 → c ≠ 406 → c ≠ 412 → C7 c = Cb c := fun c h1 h2 h3 => by rw [y5.1 c h1, r4.1 c h1 h2 h3, k5 c h1]
      have ob : ∀ c, c ≠ 446 → c ≠ 463 → c ≠ 464 → O9.1 c = O.1 c := fun c h1 h2 h3 => by rw [x6.1 c h1, oup_ne h3, oup_ne h2, oup_ne h1]
      have h463 : ∀ k, O13.1 463 k = if k = nc then nI w else O.1 463 k := fun k => by
        rw [o13 463 (by decide), oxc 463 (by decide) (by decide) (by decide), r4.2.2.2.2.1 463 (by decide) (by decide) (by decide) (by decide), x6.1 463 (by decide), oup_ne (by decide)]
        by_cases e : k = nc
        · rw [if_pos e, e, o2s]
        · rw [if_neg e, o2n e, oup_ne (by decide)]
      have h464 : ∀ k, k ≠ nc → O13.1 464 k = O.1 464 k := fun k e => by
        rw [o13 464 (by decide), oxc 464 (by decide) (by decide) (by decide), r4.2.2.2.2.1 464 (by decide) (by decide) (by decide) (by decide), x6.1 464 (by decide), o2n e, oup_ne (by decide), oup_ne (by decide)]
      have h465 : ∀ c k, k < nc → c = 465 ∨ c = 466 ∨ c = 467 → O13.1 c k = O.1 c k := fun c k hk hc => by
        rw [o13 c (by omega), oxc c (by omega) (by omega) (by omega), r4.2.2.2.2.2.2.1 c k hk hc, ob c (by omega) (by omega) (by omega)]
      have h468 : ∀ j, j < a + nc → O13.1 468 j = O.1 468 j ∧ O13.1 469 j = O.1 469 j := fun j hj => by
        constructor
        · rw [o13 468 (by decide), hOx, oup_ne (by decide), oup_ne (by decide), oup_ne (by decide), o2n (by omega), oup_ne (by decide), r4.2.2.2.2.1 468 (by decide) (by decide) (by decide) (by decide), ob 468 (by decide) (by decide) (by decide)]
        · rw [o13 469 (by decide), hOx, oup_ne (by decide), oup_ne (by decide), o2n (by omega), oup_ne (by decide), oup_ne (by decide), r4.2.2.2.2.1 469 (by decide) (by decide) (by decide) (by decide), ob 469 (by decide) (by decide) (by decide)]
      have h411 : ∀ k, k ≠ nc → C7 411 k = C 411 k := fun k e => by rw [c7 411 (by decide) (by decide) (by decide), hCb, up2_ne (by decide), u2n e]
      have h411s : C7 411 nc = nI (128 + w) := by rw [c7 411 (by decide) (by decide) (by decide), hCb, up2_ne (by decide), u2s]
      have h412 : ∀ k, k < 3 * nc → C7 412 k = C 412 k := fun k hk => by rw [y5.1 412 (by decide), r4.2.2.2.1 k hk, k5 412 (by decide), hCb, up2_ne (by decide), up2_ne (by decide)]
      have hx : ∀ c, c ≠ 404 → c ≠ 406 → c ≠ 407 → c ≠ 411 → c ≠ 412 → C7 c = C c := fun c h1 h2 h3 h4 h5 => by rw [c7 c h1 h2 h5, hCb, up2_ne h3, up2_ne h4]
      have r5' := r5 d1
      have ts13 : TS L b s7 C7 O13 := by
        rw [hO13]
        exact y3.congr rfl rfl (fun k h1 h2 => o2n (by omega)) (oup_ne (by decide))
      refine ⟨C7, exp_y d1 (show C6 404 2 = (59 : Int32) from c) y1, grb.trans (GR.n y5), Or.inr ⟨O13, s7, RC.one (fun n => lp_4 g1 st4 h17') ecl (by unfold PT; omega), ⟨ts13, ⟨by rw [y5.1 406 (by decide)]; exact d1, by rw [y5.1 406 (by decide)]; exact d2, ?_, ?_⟩, ⟨by rw [hO13, o2s]; rfl, ?_, ?_, ?_⟩, ⟨by rw [y5.1 407 (by decide)]; exact a6, ?_, ?_, ?_⟩, ⟨by omega, by omega, fun _ => by omega⟩, fun i hi => ?_, fun q hq => ?_⟩, ?_, by omega⟩⟩
      · rw [o1346 19 (by decide) (by decide), ox46 19 (by decide) (by decide) (by decide)]; exact d3
      · rw [o1346 20 (by decide) (by decide), ox46 20 (by decide) (by decide) (by decide)]; exact d4
      · rw [o1346 21 (by decide) (by decide), ox46 21 (by decide) (by decide) (by decide), o11 21 (by decide) (by decide)]; exact op
      · rw [o1346 22 (by decide) (by decide), hOx, o2n (by decide), o2n (by decide), oup_ne (by decide), oup_ne (by decide), o2s]; rfl
      · rw [o1346 25 (by decide) (by decide), ox46 25 (by decide) (by decide) (by decide), o11 25 (by decide) (by decide)]; exact wn
      · rw [y5.1 407 (by decide), r4.1 407 (by decide) (by decide) (by decide)]; exact h6
      · rw [o1346 30 (by decide) (by decide), hOx, o2s]
      · rw [o1346 37 (by decide) (by decide), hOx, o2n (by decide), o2s]; rfl
      · by_cases e : i = nc
        · subst e
          refine ⟨w, hw2, h411s, by rw [h463 i, if_pos rfl], fun j hj hu => ?_, fun e => ?_⟩
          · rw [y5.1 412 (by decide), o13 _ (by omega), oxc _ (by omega) (by omega) (by omega)]
            exact r5'.1 j hj hu
          · rw [o13 _ (by decide), oxc _ (by decide) (by decide) (by decide)]
            exact r5'.2 e
        · exact (tcs i (by omega)).mono (nc := nc) (by omega) h411 h412 (fun k e => by rw [h463 k, if_neg e]) h465
      · exact (tls q hq).mono (Nat.le_refl _) (by omega) (by rw [hx 409 (by decide) (by decide) (by decide) (by decide) (by decide)]) (by rw [hx 410 (by decide) (by decide) (by decide) (by decide) (by decide)]) (fun j _ => by rw [hx 408 (by decide) (by decide) (by decide) (by decide) (by decide)]) (fun k e => ⟨by rw [h463 k, if_neg e], h464 k e⟩) (by rw [h463 nc, if_pos rfl]; exact fun e => by have := (nI_eq (by omega) (by omega)).mp e; omega) h468
      · refine gqb.trans ?_
        rw [hO13]
        refine GQ.trans (?_ : GQ O11 Ox) ((GQ.n y6).trans (GQ.o (by omega)))
        rw [hOx]
        exact ((((GQ.o (by omega)).trans (GQ.o (by omega))).trans (GQ.o (by omega))).trans (GQ.o (by omega))).trans (GQ.o (by omega))
    · have s59 := d6.sign 59 59 (by decide)
      rw [if_neg c] at s59
      have s59' : f_X12_isSign 59 O11 = 0 := s59
      have ecl : f_X12_clause O = some (oup (oup O11 446 19 (nI 1)) 446 20 (nI s6)) := by
        rw [eo, if_pos d3, s59', if_pos rfl, show f_X12_errs 1 O11 = some (oup (oup O11 446 19 (nI 1)) 446 20 (nI s6)) from errs_v d3 d6.at.2, bnd_s]
        unfold X12_clause_j155
        rw [if_neg (by rw [o2n (by decide), o2s]; decide)]
      have gr2 : GR C6 (up2 (up2 C6 406 1 (nI 1)) 406 2 (nI s6)) := (GR.u (c := 406) (by decide) (by decide)).trans (GR.u (c := 406) (by decide) (by decide))
      exact ⟨_, exp_n d1 (show ¬ C6 404 2 = (59 : Int32) from c) (show f_X4_fail 1 C6 = some (up2 (up2 C6 406 1 (nI 1)) 406 2 (nI s6)) from fail_v d1 d6.at.1), grb.trans gr2, Or.inl ⟨_, 1, RC.one (fun n => lp_4 g1 st4 h17') ecl (by omega), by decide, by decide, by rw [u2n (by decide), u2s], by rw [o2n (by decide), o2s], by rw [o2s, u2s], grb.trans gr2, (gqb.trans (GQ.o (by omega))).trans (GQ.o (by omega))⟩⟩
  · have fn : ¬ C6 406 1 = 0 := by rw [d1]; exact nI_ne0 (by omega) (by omega)
    have gn : ¬ O11.1 446 19 = 0 := by rw [d2]; exact nI_ne0 (by omega) (by omega)
    have ecl : f_X12_clause O = some O11 := by
      rw [eo, if_neg gn]
      unfold X12_clause_j155
      rw [if_neg gn]
    exact ⟨C6, exp_f fn, grb, Or.inl ⟨O11, v, RC.one (fun n => lp_4 g1 st4 h17') ecl (by omega), hv, hv6, d1, d2, d3, grb, gqb⟩⟩
