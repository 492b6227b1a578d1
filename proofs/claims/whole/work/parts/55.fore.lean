/-! What is foreseen -/
theorem fore_l {n N : Nat} (hN : N ≤ 60) : ∀ d i m1 m2 r0 a b C O, TW 1 n C O → BR 1 n r0 C O → O.1 470 70 = nI a → O.1 470 71 = nI b → a ≤ 9999 → b < 10 → i ≤ N → d = min (N - i) (99999 - (10 * a + b)) → d < m1 → d < m2 →
    ∃ r C1 O1, X11_foresee_l55 m1 (nI (i + d)) (nI r0) (nI i) C = some (nI r, C1) ∧ X12_passesThrough_l13 m2 (nI N) (nI r0) (nI i) O = some (nI r, O1) ∧ TW 1 n C1 O1 ∧ BR 1 n r C1 O1 ∧ FrT 1 C C1 ∧ FrTO O O1 := by
  intro d
  induction d with
  | zero =>
    intro i m1 m2 r0 a b C O h hb ea eb ha hb10 hi hd hm1 hm2
    obtain ⟨m1, rfl⟩ : ∃ j, m1 = j + 1 := ⟨m1 - 1, by omega⟩
    obtain ⟨m2, rfl⟩ : ∃ j, m2 = j + 1 := ⟨m2 - 1, by omega⟩
    refine ⟨r0, C, O, ?_, ?_, h, hb, FrT.refl, FrTO.refl⟩
    · rw [X11_foresee_l55, Nat.add_zero, if_pos (Int32.le_refl _)]
    · rw [X12_passesThrough_l13]
      by_cases c : N ≤ i
      · rw [if_pos (nI_le c (by omega))]
      · rw [if_neg (nI_ge (by omega) (by omega)), canP ea eb ha hb10, if_neg (by omega), bnd_s, if_pos rfl]
  | succ d ih =>
    intro i m1 m2 r0 a b C O h hb ea eb ha hb10 hi hd hm1 hm2
    obtain ⟨m1, rfl⟩ : ∃ j, m1 = j + 1 := ⟨m1 - 1, by omega⟩
    obtain ⟨m2, rfl⟩ : ∃ j, m2 = j + 1 := ⟨m2 - 1, by omega⟩
    have hc : a < 9999 ∨ b < 9 := by omega
    obtain ⟨j, Ca, Oa, a1, a2, -, a3, a4, a5, a6, a7⟩ := hour_both h hb ea eb ha hb10 hc
    rw [X11_foresee_l55, X12_passesThrough_l13, if_neg (nI_ge (by omega) (by omega)), if_neg (nI_ge (by omega) (by omega)), canP ea eb ha hb10, if_pos hc, bnd_s, if_neg n10, a1, a2, bnd2_s, bnd2_s, nI_1, nI_add, show i + (d + 1) = i + 1 + d by omega]
    rcases a7 with ⟨g1, g2, g3⟩ | ⟨g1, g2, g3⟩
    · obtain ⟨r, C1, O1, r1, r2, r3, r4, r5, r6⟩ := ih (i + 1) m1 m2 (r0 + j) a (b + 1) Ca Oa a3 a6 g2 g3 ha (by omega) (by omega) (by omega) (by omega) (by omega)
      exact ⟨r, C1, O1, r1, r2, r3, r4, a4.trans r5, a5.trans r6⟩
    · obtain ⟨r, C1, O1, r1, r2, r3, r4, r5, r6⟩ := ih (i + 1) m1 m2 (r0 + j) (a + 1) 0 Ca Oa a3 a6 g2 g3 (by omega) (by omega) (by omega) (by omega) (by omega) (by omega)
      exact ⟨r, C1, O1, r1, r2, r3, r4, a4.trans r5, a5.trans r6⟩
theorem fore_both {n t m e n' t' m' e' N : Nat} {C : CM} {O O0 : OM} {v : Int32} (h : RelX n t m e n' t' m' e' C O) (hf : FrO1 447 O O0) (h4 : ∀ k, k ≠ 2 → O0.1 447 k = O.1 447 k) (hv : O0.1 447 2 = v) (hv2 : v = -1 ∨ ∃ j, j < t ∧ v = nI j) (hN : N ≤ 60) :
    ∃ r C1 O1, f_X11_foresee (nI N) v C = some (nI r, C1) ∧ f_X12_passesThrough (nI N) O0 = some (nI r, O1) ∧ TW 1 n C1 O1 ∧ BR 1 n r C1 O1 ∧ CoC C C1 ∧ FrTO O0 O1 := by
  obtain ⟨a, b, c, d, f⟩ := h
  have h7 := a.1.1
  obtain ⟨C1, g1, g2, g3, g4, g5, g6, g7, g8⟩ := copySt (s := 395) (t := 6) C (by omega)
  obtain ⟨sc, s1, s2, s3⟩ := scriptY (v := v) a.1.2.1 hv2
  obtain ⟨O1, l1, l2, l3⟩ := laysNow O0
  obtain ⟨C3, hC3⟩ : ∃ C3, C3 = up2 (up2 C1 395 4 0) 401 5 (nI sc) := ⟨_, rfl⟩
  obtain ⟨O2, hO2⟩ : ∃ O2, O2 = oup O1 446 43 (-1) := ⟨_, rfl⟩
  have k1 : ∀ c, c ≠ 395 → c ≠ 401 → C3 c = C1 c := fun c h1 h2 => by rw [hC3, up2_ne h2, up2_ne h1]
  have k2 : ∀ c, (c < 395 ∨ 400 < c) → c ≠ 401 → C3 c = C c := fun c h1 h2 => (k1 c (by omega) h2).trans (g2 c (by omega))
  have k3 : ∀ k, k < 4 → C3 395 k = C 6 k := fun k hk => by rw [hC3, up2_ne (by decide), up2_eq, pk_un (by omega), g3 k (by omega)]
  have k4 : C3 395 4 = nI 0 := by rw [hC3, up2_ne (by decide), up2_eq, pk_us]; rfl
  have k5 : C3 401 5 = nI sc := by rw [hC3, up2_eq, pk_us]
  have o1 : ∀ c, c ≠ 446 → c ≠ 470 → O2.1 c = O0.1 c := fun c h1 h2 => by rw [hO2, oup_ne h1]; exact l2 c h2
  have o2 : ∀ k, k < 164 → O2.1 470 k = rowN (O.1 447) k := fun k hk => by rw [hO2, oup_ne (by decide), l3 k hk, h4 _ (by omega)]; rfl
  have o3 : O2.1 446 43 = -1 := by rw [hO2, oup_eq, pk_us]
  have hs : SS 395 C3 (O2.1 470) ∨ True := Or.inr True.intro
  have hs5 := a.2.2.2.2.2.1
  have hVW : VW (stI 1) C3 (O2.1 470) := by
    obtain ⟨⟨v1, v2, v3, v4, v5, v6, v7⟩, -⟩ := hs5
    refine ⟨?_, ?_, ?_, fun p hp => ?_, fun p hp => ?_, fun p hp => ?_, fun p hp => ?_⟩
    · rw [o2 _ (by decide)]; exact (k3 1 (by decide)).trans v1
    · rw [o2 _ (by decide)]; exact (k3 2 (by decide)).trans v2
    · rw [o2 _ (by decide)]; exact (k3 3 (by decide)).trans v3
    · rw [o2 _ (by omega), show stI 1 + 1 = 395 + 1 from rfl, k1 _ (by decide) (by decide), g4 p hp]; exact v4 p hp
    · rw [o2 _ (by omega), show stI 1 + 2 = 395 + 2 from rfl, k1 _ (by decide) (by decide), g5 p hp]; exact v5 p hp
    · rw [o2 _ (by omega), show stI 1 + 3 = 395 + 3 from rfl, k1 _ (by decide) (by decide), g6 p hp]; exact v6 p hp
    · rw [o2 _ (by omega), show stI 1 + 4 = 395 + 4 from rfl, k1 _ (by decide) (by decide), g7 p hp]; exact v7 p hp
  have hWK : WOK (O2.1 470) := hs5.2.2.2.congr (fun k hk => o2 k (by omega)) (by rw [o2 73 (by decide)]; exact hs5.2.2.2.2.2.2.2.2.2.2.2)
  have e447 : ∀ k, k ≠ 2 → O2.1 447 k = O.1 447 k := fun k hk => by rw [o1 447 (by decide) (by decide)]; exact h4 k hk
  have eoo : ∀ c, c ≠ 446 → c ≠ 447 → c ≠ 470 → O2.1 c = O.1 c := fun c h1 h2 h3 => (o1 c h1 h3).trans (hf c h2)
  have ht4 := a.1.2.1
  have hSc : ScR 1 C3 O2 := by
    refine scOf (t := t) (fun k hk => (d k hk).mono (fun j _ => k2 _ (by omega) (by omega)) (fun c h1 h2 => eoo c (by omega) (by omega) (by omega))) ht4 (fun L hL => by rw [k2 386 (by omega) (by decide), k2 385 (by omega) (by decide)]; exact f.2.2.1 L hL) ?_
    rw [show laI 1 = 401 from rfl, k5, o1 447 (by decide) (by decide), hv]
    rcases s3 with ⟨v1, v2⟩ | ⟨j, hj, v1, v2⟩
    · exact Or.inl ⟨v1, by rw [v2]⟩
    · exact Or.inr ⟨j, hj, v1, by rw [v2]⟩
  have hP : PPL n C3 (O2.1 447) := by
    refine ⟨h7, (e447 0 (by decide)).trans a.2.1.2.1, fun p hp => ?_⟩
    rw [k2 2 (by omega) (by decide), k2 3 (by omega) (by decide), k2 4 (by omega) (by decide), e447 _ (by omega), e447 _ (by omega)]
    exact a.2.2.2.1 p hp
  have hTW : TW 1 n C3 O2 := ⟨⟨(k3 0 (by decide)).trans a.2.1.1, hP, hSc⟩, hVW, hWK⟩
  have hBR : BR 1 n 0 C3 O2 := Or.inr ⟨by decide, k4, Nat.zero_le _, fun _ => o3, fun h => absurd h (by decide)⟩
  obtain ⟨da, hda, eda⟩ := hWK.2.2.2.2.2.1
  obtain ⟨hr, hhr, ehr⟩ := hWK.2.2.2.2.2.2.1
  have ehc := hoursTC (s := stI 1) (hVW.1.trans eda) (hVW.2.1.trans ehr) hda hhr
  obtain ⟨r, C4, O4, r1, r2, r3, r4, r5, r6⟩ := fore_l hN (min N (99999 - (10 * da + hr))) 0 FU FU 0 da hr C3 O2 hTW hBR eda ehr hda hhr (by omega) (by omega) (by unfold FU; omega) (by unfold FU; omega)
  refine ⟨r, C4, O4, ?_, ?_, r3, r4, ?_, ?_⟩
  · unfold f_X11_foresee f_X1_rule
    rw [show stI 1 = 395 from rfl, g1, bnd_s, s1, bnd_s, bnd_s, show laI 1 = 401 from rfl, ← hC3, show f_X7_hoursToCome 395 C3 = nI (99999 - (10 * da + hr)) from ehc, minN (by omega) (by omega)]
    rw [Nat.zero_add] at r1
    exact r1
  · unfold f_X12_passesThrough
    rw [l1, bnd_s, ← hO2]
    exact r2
  · have q : ∀ c, (c < 395 ∨ 400 < c) → c ≠ 401 → c ≠ 402 → c ≠ 403 → C4 c = C c := fun c h1 h2 h3 h4 => (r5.1 c h1 h2 h3 h4).trans (k2 c h1 h2)
    exact ⟨fun c _ _ => q c (by omega) (by omega) (by omega) (by omega), q 405 (by omega) (by decide) (by decide) (by decide), fun c _ _ => q c (by omega) (by omega) (by omega) (by omega), by rw [q 391 (by omega) (by decide) (by decide) (by decide)], ⟨sc, s2, (r5.2.1 5 (by decide)).trans k5⟩, by rw [q 404 (by omega) (by decide) (by decide) (by decide)], by rw [q 406 (by omega) (by decide) (by decide) (by decide)], by rw [q 406 (by omega) (by decide) (by decide) (by decide)]⟩
  · refine FrTO.trans ⟨fun c h1 h2 h3 => o1 c h3 h1, fun k hk => ?_⟩ r6
    rw [hO2, oup_eq, pk_un hk, l2 446 (by decide)]
theorem fore_now {n t m e n' t' m' e' N : Nat} {C : CM} {O : OM} (h : RelX n t m e n' t' m' e' C O) (hN : N ≤ 60) :
    ∃ r C1 O1, f_X11_foresee (nI N) (C 5 3) C = some (nI r, C1) ∧ f_X12_passesThrough (nI N) O = some (nI r, O1) ∧ TW 1 n C1 O1 ∧ BR 1 n r C1 O1 ∧ RelX n t m e n' t' m' e' C1 O1 := by
  obtain ⟨r, C1, O1, r1, r2, r3, r4, r5, r6⟩ := fore_both (v := C 5 3) h FrO1.refl (fun _ _ => rfl) h.1.2.2.1.1.symm (by rw [h.1.2.2.1.1]; exact h.1.2.2.1.2) hN
  exact ⟨r, C1, O1, r1, r2, r3, r4, h.co r5 (CoO.to r6)⟩
theorem opp_foretold : op_foretold Rel := by
  intro C O h v w x
  obtain ⟨n, t, m, e, n', t', m', e', h'⟩ := h
  have hn : C 6 0 = nI n := h'.1.2.1.1
  have h7 := h'.1.1.1
  have hA := h'.1.2.1.2.1
  unfold f_X11_foretold f_X12_foretold X11_foretold_j30 X12_foretold_j35
  rw [in_eq, show (60 : Int32) = nI 60 from rfl]
  rcases wi_1 (b := 60) (by decide) v with ⟨w1, -⟩ | ⟨N, k1, k2, rfl, w1⟩
  · rw [w1, if_pos rfl, if_pos rfl]
    refine ⟨_, _, _, ?_, rfl, h'.rel⟩
    by_cases c : x = -1
    · rw [if_pos c]; split <;> rfl
    · rw [if_neg c]; split <;> rfl
  · obtain ⟨r, C1, O1, r1, r2, r3, r4, r5⟩ := fore_now h' k2
    rw [w1, if_neg n10, if_neg n10, r1, r2, bnd2_s, bnd2_s]
    rcases one_cases hn h7 hA w with ⟨a1, a2, a3⟩ | ⟨p, hp, rfl, a1, a2⟩
    · rw [a2, bnd_s, if_pos rfl, a1, twoN1 hn a3, if_pos rfl]
      exact ⟨_, _, _, by split <;> rfl, rfl, h'.rel⟩
    · rw [a2, bnd_s, if_neg n10, a1, if_neg n10]
      obtain ⟨S, o1, o2, -⟩ := owes_both r3 hp
      by_cases c : x = -1
      · rw [if_pos c, if_pos c, if_pos c, if_pos c, o1, o2, bnd_s, bnd_s]
        exact ⟨_, _, _, rfl, rfl, r5.rel⟩
      · rw [if_neg c, if_neg c, if_neg c, if_neg c]
        rcases two_cases hn h7 hA (nI p) x with ⟨b1, b2, -⟩ | ⟨p2, u, -, hu, hne, -, rfl, b1, b2⟩
        · rw [b1, b2, if_pos rfl, bnd_s, if_pos rfl]
          exact ⟨_, _, _, rfl, rfl, h'.rel⟩
        · rw [b1, b2, if_neg n10, bnd_s, if_neg n10, owedY r3.1.1 h7 hp hu, bnd_s, debtN', gd_p (inbN (by omega) (by decide)), nI_clamp (by omega), r3.2.1.2.2.2.2.2.2 _ (by omega)]
          exact ⟨_, _, _, rfl, rfl, r5.rel⟩
theorem opp_indoors : op_indoors Rel := by
  intro C O h v w
  obtain ⟨n, t, m, e, n', t', m', e', h'⟩ := h
  have hn : C 6 0 = nI n := h'.1.2.1.1
  have h7 := h'.1.1.1
  have hA := h'.1.2.1.2.1
  unfold f_X11_indoors f_X12_indoors
  rw [in_eq, show (60 : Int32) = nI 60 from rfl]
  rcases wi_1 (b := 60) (by decide) v with ⟨w1, -⟩ | ⟨N, k1, k2, rfl, w1⟩
  · rw [w1, if_pos rfl, if_pos rfl]
    exact ⟨_, _, _, by split <;> rfl, rfl, h'.rel⟩
  · obtain ⟨r, C1, O1, r1, r2, r3, r4, r5⟩ := fore_now h' k2
    rw [w1, if_neg n10, if_neg n10, r1, r2, bnd2_s, bnd2_s]
    rcases one_cases hn h7 hA w with ⟨a1, a2, a3⟩ | ⟨p, hp, rfl, a1, a2⟩
    · rw [a1, if_pos rfl, a2, bnd_s, if_pos rfl]
      exact ⟨_, _, _, rfl, rfl, h'.rel⟩
    · have i14 : (14 : Int32) + nI p = nI (14 + p) := nI_add 14 p
      rw [a1, if_neg n10, a2, bnd_s, if_neg n10, indoorsY r3.1.1 h7 hp, bnd_s, i14, gd_p (inbN (by omega) (by decide)), nI_clamp (by omega), r3.2.1.2.2.2.2.2.1 p (by omega)]
      exact ⟨_, _, _, rfl, rfl, r5.rel⟩
theorem opp_first : op_first Rel := by
  intro C O h v
  obtain ⟨n, t, m, e, n', t', m', e', h'⟩ := h
  have h7 := h'.1.1.1
  unfold f_X11_first f_X12_first
  rw [in_eq, show (60 : Int32) = nI 60 from rfl]
  rcases wi_1 (b := 60) (by decide) v with ⟨w1, -⟩ | ⟨N, k1, k2, rfl, w1⟩
  · rw [w1, if_pos rfl, if_pos rfl]
    exact ⟨_, _, _, rfl, rfl, h'.rel⟩
  · obtain ⟨r, C1, O1, r1, r2, r3, r4, r5⟩ := fore_now h' k2
    rw [w1, if_neg n10, if_neg n10, r1, r2, bnd2_s, bnd2_s]
    rcases r4 with ⟨h0, -⟩ | ⟨h0, e1, e2, e3, e4⟩
    · exact absurd h0 (by decide)
    · have hz := zc_le n (O1.1 470) n
      by_cases c : r = 0
      · rw [c, if_pos (show nI 0 = 0 from rfl), e3 c]
        exact ⟨_, _, _, rfl, rfl, r5.rel⟩
      · obtain ⟨who, -, e5, e6⟩ := e4 (by omega)
        rw [if_neg (nI_ne0 (by omega) (by omega))]
        have eb : f_X7_booked (stI 1) 0 1 C1 = some (nI who) := by
          have w0 : f_X11_within 0 0 (nI r - 1) = 1 := by
            rcases wi_n (n := r) (by omega) (nI 0) with ⟨-, hh⟩ | ⟨p, -, -, hh⟩
            · rcases hh with hh | hh
              · exact absurd hh (by decide)
              · exact absurd hh (nI_ge (by omega) (by omega))
            · exact hh
          unfold f_X7_booked
          rw [e1, show (30 : Int32) = nI 30 from rfl, minN (by omega) (by decide), Nat.min_eq_left (by omega), w0, if_neg n10, if_neg (by decide), gd_p (by decide), show (0 * 3 + 1 : Int32).toNatClampNeg = 1 from rfl, e6]
        rw [eb, bnd_s, e5]
        exact ⟨_, _, _, rfl, rfl, r5.rel⟩
