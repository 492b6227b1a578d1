theorem weeks_l {n : Nat} (h0 : 0 < n) (k77 : CM → Option (Int32 × CM)) (k70 : OM → Option (Int32 × OM)) : ∀ d i m1 m2 C O, TW 0 n C O → BR 0 n 0 C O → d < m1 → d < m2 → i + d ≤ 30 →
    ∃ C1 O1, X11_weeks_l58 k77 m1 (nI (i + d)) (nI i) C = k77 C1 ∧ X12_weeks_l55 k70 m2 (nI (i + d)) (nI i) O = k70 O1 ∧ KB n C C1 O O1 := by
  intro d
  induction d with
  | zero =>
    intro i m1 m2 C O h hb hm1 hm2 hi
    obtain ⟨m1, rfl⟩ : ∃ j, m1 = j + 1 := ⟨m1 - 1, by omega⟩
    obtain ⟨m2, rfl⟩ : ∃ j, m2 = j + 1 := ⟨m2 - 1, by omega⟩
    rw [X11_weeks_l58, X12_weeks_l55, Nat.add_zero, if_pos (Int32.le_refl _), if_pos (Int32.le_refl _)]
    exact ⟨C, O, rfl, rfl, h, FrT.refl, FrTO.refl, hb⟩
  | succ d ih =>
    intro i m1 m2 C O h hb hm1 hm2 hi
    obtain ⟨m1, rfl⟩ : ∃ j, m1 = j + 1 := ⟨m1 - 1, by omega⟩
    obtain ⟨m2, rfl⟩ : ∃ j, m2 = j + 1 := ⟨m2 - 1, by omega⟩
    obtain ⟨Ca, Oa, a1, a2, a3⟩ := deed_both h hb h0
    obtain ⟨C1, O1, r1, r2, r3⟩ := ih (i + 1) m1 m2 Ca Oa a3.1 a3.2.2.2 (by omega) (by omega) (by omega)
    rw [X11_weeks_l58, X12_weeks_l55, if_neg (nI_ge (by omega) (by omega)), if_neg (nI_ge (by omega) (by omega)), a1, a2, bnd_s, bnd_s, nI_1, show i + (d + 1) = i + 1 + d by omega]
    exact ⟨C1, O1, r1, r2, a3.trans r3⟩
theorem opp_weeks : op_weeks Rel := by
  intro C O h v w
  obtain ⟨n, t, m, e, n', t', m', e', h'⟩ := h
  have hn : C 6 0 = nI n := h'.1.2.1.1
  have h7 := h'.1.1.1
  have hA := h'.1.2.1.2.1
  unfold f_X11_weeks f_X12_weeks
  rw [in_eq, show (9999 : Int32) = nI 9999 from rfl, show (30 : Int32) = nI 30 from rfl, hn, hA]
  rcases wi_b (b := 9999) (by decide) v with ⟨w1, -⟩ | ⟨sd, hsd, rfl, w1⟩
  · rw [w1, if_pos rfl, if_pos rfl]
    exact ⟨_, _, _, rfl, rfl, h'.rel⟩
  · rw [w1, if_neg n10, if_neg n10]
    rcases wi_1 (b := 30) (by decide) w with ⟨x1, -⟩ | ⟨k, k1, k2, rfl, x1⟩
    · rw [x1, if_pos rfl, if_pos rfl]
      exact ⟨_, _, _, rfl, rfl, h'.rel⟩
    · rw [x1, if_neg n10, if_neg n10]
      by_cases c0 : n = 0
      · subst c0
        rw [if_pos (show nI 0 = 0 from rfl), if_pos (show nI 0 = 0 from rfl)]
        exact ⟨_, _, _, rfl, rfl, h'.rel⟩
      · rw [if_neg (nI_ne0 (by omega) (by omega)), if_neg (nI_ne0 (by omega) (by omega))]
        obtain ⟨C3, O3, s1, s2, s3, s4, s5, s6⟩ := step_rel h'
        obtain ⟨O4, l1, l2, l3, l4, l5, l6⟩ := lay_rel s3
        have e97 : nI sd * 2 + 97 = nI (sd * 2 + 97) := by rw [show (2 : Int32) = nI 2 from rfl, pk_mul, show (97 : Int32) = nI 97 from rfl, nI_add]
        have k1 := (KP.x97 (k := sd * 2 + 97) l5 (by omega)).kb l6
        obtain ⟨C5, O5, r1, r2, r3⟩ := weeks_l (by omega) (fun C => (X11_weeks_j77 C)) (fun O => (X12_weeks_j70 O)) k 0 FU FU _ _ k1.1 k1.2.2.2 (by unfold FU; omega) (by unfold FU; omega) (by omega)
        have kb := k1.trans r3
        obtain ⟨O6, f1, f2, f3, f4, f5⟩ := keep_rel l4 kb.2.1 kb.2.2.1 kb.1 kb.2.2.2
        rw [Nat.zero_add] at r1 r2
        rw [s1, bnd_s, s2, bnd_s, l1, bnd_s, e97, show (0 : Int32) = nI 0 from rfl, show X11_weeks_l58 (fun C => (X11_weeks_j77 C)) FU (nI k) (nI 0) (up2 C3 6 3 (nI (sd * 2 + 97))) = X11_weeks_j77 C5 from r1, r2]
        unfold X11_weeks_j77
        simp only [X12_weeks_j70]
        rw [f1, bnd_s, f2 470 (by decide)]
        exact ⟨_, _, _, rfl, congrArg (fun z => some (z, O6)) kb.1.2.1.1.symm, f5.rel⟩
theorem opp_of : op_of Rel := by
  intro C O h v w
  obtain ⟨n, t, m, e, n', t', m', e', h'⟩ := h
  have hn : C 6 0 = nI n := h'.1.2.1.1
  have h7 := h'.1.1.1
  have hA := h'.1.2.1.2.1
  unfold f_X11_of f_X12_of
  rcases one_cases hn h7 hA v with ⟨a1, a2, a3⟩ | ⟨p, hp, rfl, a1, a2⟩
  · rw [a1, if_pos rfl, a2, bnd_s, if_pos rfl]
    exact ⟨_, _, _, rfl, rfl, h'.rel⟩
  · obtain ⟨O1, l1, l2, l3, l4, l5, l6⟩ := lay_rel h'
    obtain ⟨pp1, pp2, -⟩ := l5.1.2.1.2.2 p hp
    have i10 : (10 : Int32) + nI p = nI (10 + p) := nI_add 10 p
    have i17 : (17 : Int32) + nI p = nI (17 + p) := nI_add 17 p
    have i14 : (14 : Int32) + nI p = nI (14 + p) := nI_add 14 p
    have i7 : (7 : Int32) + nI p = nI (7 + p) := nI_add 7 p
    obtain ⟨S, o1, o2, -⟩ := owes_both l5 hp
    obtain ⟨T, t1, t2⟩ := owedTo_both l5 hp
    obtain ⟨k, Cr, Or, hk, r1, r2, r3, r4⟩ := ruin_both l5.1 l5.2.1 l5.2.2 hp
    rw [a1, if_neg n10, a2, bnd_s, if_neg n10, l1, bnd_s, ageY (by omega), bnd_s, backY (by omega), bnd_s, placeY (s := 6) hn h7 hp, bnd_s, leftY (s := 6) hn h7 hp, bnd_s, indoorsY (s := 6) hn h7 hp, bnd_s, show f_X7_owesTogether 6 (nI p) C = some S from o1, bnd_s, show f_X7_owedTogether 6 (nI p) C = some T from t1, bnd_s, r1, bnd2_s, i10, i17, i7, zN, i14, gd_p (inbN (by omega) (by decide)), gd_p (inbN (by omega) (by decide)), gd_p (inbN (by omega) (by decide)), gd_p (inbN (by omega) (by decide)), gd_p (inbN (by omega) (by decide)), o2, bnd_s, t2, bnd_s, r2, bnd2_s, nI_clamp (by omega), nI_clamp (by omega), nI_clamp (by omega), nI_clamp (by omega), nI_clamp (by omega), pp1, pp2,
      show C (6 + 2) p = O1.1 470 (7 + p) from l5.2.1.2.2.2.2.1 p (by omega), show C (6 + 1) p = O1.1 470 p from l5.2.1.2.2.2.1 p (by omega), show C (6 + 3) p = O1.1 470 (14 + p) from l5.2.1.2.2.2.2.2.1 p (by omega)]
    by_cases c0 : w = 0
    · rw [if_pos c0, if_pos c0]; exact ⟨_, _, _, rfl, rfl, l4.rel⟩
    rw [if_neg c0, if_neg c0]
    by_cases c1 : w = 1
    · rw [if_pos c1, if_pos c1]; exact ⟨_, _, _, rfl, rfl, l4.rel⟩
    rw [if_neg c1, if_neg c1]
    by_cases c2 : w = 2
    · rw [if_pos c2, if_pos c2]; exact ⟨_, _, _, rfl, rfl, l4.rel⟩
    rw [if_neg c2, if_neg c2]
    by_cases c3 : w = 3
    · rw [if_pos c3, if_pos c3]; exact ⟨_, _, _, rfl, rfl, l4.rel⟩
    rw [if_neg c3, if_neg c3]
    by_cases c4 : w = 4
    · rw [if_pos c4, if_pos c4]; exact ⟨_, _, _, rfl, rfl, l4.rel⟩
    rw [if_neg c4, if_neg c4]
    by_cases c5 : w = 5
    · rw [if_pos c5, if_pos c5]; exact ⟨_, _, _, rfl, rfl, l4.rel⟩
    rw [if_neg c5, if_neg c5]
    by_cases c6 : w = 6
    · rw [if_pos c6, if_pos c6]; exact ⟨_, _, _, rfl, rfl, l4.rel⟩
    rw [if_neg c6, if_neg c6]
    by_cases c7 : w = 7
    · rw [if_pos c7, if_pos c7]; exact ⟨_, _, _, rfl, rfl, (l4.frL r3 r4).rel⟩
    rw [if_neg c7, if_neg c7]
    exact ⟨_, _, _, rfl, rfl, l4.rel⟩
theorem opp_two : op_two Rel := by
  intro C O h v w x
  obtain ⟨n, t, m, e, n', t', m', e', h'⟩ := h
  have hn : C 6 0 = nI n := h'.1.2.1.1
  have h7 := h'.1.1.1
  have hA := h'.1.2.1.2.1
  unfold f_X11_two f_X12_two
  rcases two_cases hn h7 hA v w with ⟨a1, a2, a3⟩ | ⟨p, r, hp, hr, hne, rfl, rfl, a1, a2⟩
  · rw [a1, if_pos rfl, a2, bnd_s, if_pos rfl]
    exact ⟨_, _, _, rfl, rfl, h'.rel⟩
  · obtain ⟨O1, l1, l2, l3, l4, l5, l6⟩ := lay_rel h'
    obtain ⟨ks, Cs, Os, -, -, s1, s2, s3, s4⟩ := size_both l5.1 l5.2.1 l5.2.2 hp hr
    obtain ⟨kl, Cl, Ol, -, g1, g2, g3, g4⟩ := late_both l5.1 l5.2.1 l5.2.2 hp hr
    obtain ⟨a, ha, ea⟩ := l5.2.2.2.2.2.1 (7 * p + r) (by omega)
    have eC : C (6 + 4) (7 * p + r) = nI a := (l5.2.1.2.2.2.2.2.2 _ (by omega)).trans ea
    have vI : ∀ i, i < 7 → C (6 + 3) i = O1.1 470 (14 + i) := l5.2.1.2.2.2.2.2.1
    have vP : ∀ i, i < 7 → C (6 + 2) i = O1.1 470 (7 + i) := l5.2.1.2.2.2.2.1
    rw [a1, if_neg n10, a2, bnd_s, if_neg n10, l1, bnd_s, owedY (s := 6) hn h7 hp hr, bnd_s, bnd_s, eC, s1, bnd2_s, g1, bnd2_s, meetY (s := 6) hn h7 hp hr, bnd_s, debtN', gd_p (inbN (by omega) (by decide)), gd_p (inbN (by omega) (by decide)), nI_clamp (by omega), ea, s2, bnd2_s, g2, bnd2_s, doMeetR (by omega) (by omega), bnd_s, vI p (by omega), vI r (by omega), vP p (by omega), vP r (by omega)]
    by_cases c0 : x = 0
    · rw [if_pos c0, if_pos c0]; exact ⟨_, _, _, rfl, rfl, l4.rel⟩
    rw [if_neg c0, if_neg c0]
    by_cases c1 : x = 1
    · rw [if_pos c1, if_pos c1]; exact ⟨_, _, _, rfl, rfl, (l4.frL s3 s4).rel⟩
    rw [if_neg c1, if_neg c1]
    by_cases c2 : x = 2
    · rw [if_pos c2, if_pos c2]
      by_cases d : a = 0
      · subst d
        rw [if_pos (show nI 0 ≤ 0 from Int32.le_refl _), if_pos (show nI 0 = 0 from rfl)]; exact ⟨_, _, _, rfl, rfl, l4.rel⟩
      · rw [if_neg (nI_nle (by omega) (by omega)), if_neg (nI_ne0 (by omega) (by omega))]; exact ⟨_, _, _, rfl, rfl, (l4.frL g3 g4).rel⟩
    rw [if_neg c2, if_neg c2]
    by_cases c3 : x = 3
    · rw [if_pos c3, if_pos c3]
      by_cases d : O1.1 470 (14 + p) = 0 ∧ O1.1 470 (14 + r) = 0 ∧ O1.1 470 (7 + p) = O1.1 470 (7 + r)
      · rw [iteY d, iteY (show p ≠ r ∧ O1.1 470 (14 + p) = 0 ∧ O1.1 470 (14 + r) = 0 ∧ O1.1 470 (7 + p) = O1.1 470 (7 + r) from ⟨hne, d⟩), if_neg n10, if_neg n10]; exact ⟨_, _, _, rfl, rfl, l4.rel⟩
      · rw [iteN d, iteN (show ¬ (p ≠ r ∧ O1.1 470 (14 + p) = 0 ∧ O1.1 470 (14 + r) = 0 ∧ O1.1 470 (7 + p) = O1.1 470 (7 + r)) from fun h => d h.2), if_pos rfl, if_pos rfl]; exact ⟨_, _, _, rfl, rfl, l4.rel⟩
    rw [if_neg c3, if_neg c3]
    exact ⟨_, _, _, rfl, rfl, l4.rel⟩
theorem opp_more : op_more Rel := by
  intro C O h v w x
  obtain ⟨n, t, m, e, n', t', m', e', h'⟩ := h
  have hn : C 6 0 = nI n := h'.1.2.1.1
  have h7 := h'.1.1.1
  have hA := h'.1.2.1.2.1
  unfold f_X11_more f_X12_more
  rcases two_cases hn h7 hA v w with ⟨a1, a2, a3⟩ | ⟨p, r, hp, hr, hne, rfl, rfl, a1, a2⟩
  · rw [a1, if_pos rfl, a2, bnd_s, if_pos rfl]
    exact ⟨_, _, _, rfl, rfl, h'.rel⟩
  · rw [a1, if_neg n10, a2, bnd_s, if_neg n10, in_eq, show (9999 : Int32) = nI 9999 from rfl]
    rcases wi_b (b := 9999) (by decide) x with ⟨w1, -⟩ | ⟨g, hg, rfl, w1⟩
    · rw [w1, if_pos rfl, if_pos rfl]
      exact ⟨_, _, _, rfl, rfl, h'.rel⟩
    · obtain ⟨O1, l1, l2, l3, l4, l5, l6⟩ := lay_rel h'
      obtain ⟨k, Cs, Os, -, s1, s2, s3, s4⟩ := more_both l5.1 l5.2.1 l5.2.2 hp hr hg
      rw [w1, if_neg n10, if_neg n10, l1, bnd_s, s1, bnd2_s, s2, bnd2_s]
      exact ⟨_, _, _, rfl, rfl, (l4.frL s3 s4).rel⟩
theorem opp_book : op_book Rel := by
  intro C O h v w
  obtain ⟨n, t, m, e, n', t', m', e', h'⟩ := h
  obtain ⟨g1, g2, g3, g4⟩ := h'.1.2.2.2.2.2.1
  obtain ⟨b, hb, eb⟩ := g4.2.2.2.2.2.2.2.2
  have eC : C 6 4 = nI b := g2.trans eb
  have eO : O.1 447 113 = nI b := eb
  unfold f_X11_book f_X12_book
  rw [eC, eO, in_eq]
  by_cases c0 : v = -1
  · rw [if_pos c0, if_pos c0]; exact ⟨_, rfl, rfl, h'.rel⟩
  rw [if_neg c0, if_neg c0]
  rcases wi_n (n := b) (by omega) v with ⟨w1, -⟩ | ⟨i, hi, rfl, w1⟩
  · rw [w1, if_pos rfl, if_pos rfl]; exact ⟨_, rfl, rfl, h'.rel⟩
  rw [w1, if_neg n10, if_neg n10, show (2 : Int32) = nI 2 from rfl]
  rcases wi_b (b := 2) (by decide) w with ⟨w2, -⟩ | ⟨j, hj, rfl, w2⟩
  · rw [w2, if_pos rfl, if_pos rfl]; exact ⟨_, rfl, rfl, h'.rel⟩
  have e1 : (114 : Int32) + 3 * nI i + nI j = nI (114 + 3 * i + j) := by rw [show (3 : Int32) = nI 3 from rfl, pk_mul, show (114 : Int32) = nI 114 from rfl, nI_add, nI_add]
  have e2 : nI i * 3 + nI j = nI (3 * i + j) := by rw [show (3 : Int32) = nI 3 from rfl, pk_mul, nI_add, Nat.mul_comm]
  rw [w2, if_neg n10, if_neg n10, e1, gd_p (inbN (by omega) (by decide)), nI_clamp (by omega)]
  unfold f_X7_booked
  rw [eC, show (30 : Int32) = nI 30 from rfl, minN (by omega) (by decide), show min b 30 = b by omega, w1, if_neg n10, show (2 : Int32) = nI 2 from rfl, w2, if_neg n10, e2, gd_p (inbN (by omega) (by decide)), nI_clamp (by omega), bnd_s]
  refine ⟨_, rfl, ?_, h'.rel⟩
  rw [show C (6 + 5) (3 * i + j) = O.1 447 (40 + (74 + (3 * i + j))) from g3 _ (by omega), show 114 + 3 * i + j = 40 + (74 + (3 * i + j)) by omega]
