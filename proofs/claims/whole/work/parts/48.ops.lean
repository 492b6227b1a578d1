theorem n10 : ¬ (1 : Int32) = 0 := by decide
theorem opt_bow (t : Nat) : op_bow (RelT t) := by
  intro C O h v w
  obtain ⟨n, m, e, n', t', m', e', h'⟩ := h
  have hn : C 6 0 = nI n := h'.1.2.1.1
  have h7 := h'.1.1.1
  have hA := h'.1.2.1.2.1
  unfold f_X11_bow f_X12_bow
  rcases two_cases hn h7 hA v w with ⟨a1, a2, a3⟩ | ⟨p, r, hp, hr, hne, rfl, rfl, a1, a2⟩
  · have hm : f_X9_canBow 0 v w C = some (0, C) := by
      unfold f_X9_canBow
      rw [show stI 0 = 6 from rfl, meetN hn h7 a3, bnd_s, if_pos rfl]
    rw [hm, bnd2_s, if_pos rfl, a2, bnd_s, if_pos rfl]
    exact ⟨_, _, _, rfl, rfl, h'.relT⟩
  · obtain ⟨O1, l1, l2, l3, l4, l5, l6⟩ := lay_rel h'
    obtain ⟨b, C1, O2, d1, d2, d3, d4, d5⟩ := canBow_both l5 hp hr
    have k2 := l4.frL d3 d4
    rw [a2, bnd_s, if_neg (by decide), l1, bnd_s, d1, d2, bnd2_s, bnd2_s]
    rcases d5 with d5 | ⟨d5, -, k, Ck, k1, k2', k3, k4⟩
    · subst d5
      rw [if_pos rfl, if_pos rfl]
      exact ⟨_, _, _, rfl, rfl, k2.relT⟩
    · subst d5
      obtain ⟨C3, O3, s1, s2, s3, s4, s5, s6⟩ := step_rel k2
      have hrow : ∀ k, k < 164 → O3.1 470 k = O3.1 447 (40 + k) := fun k hk => by
        rw [s5 470 (by decide), d4 470 (by decide), s6 _ (by omega) (by omega), d4 447 (by decide), l2 447 (by decide)]; exact l3 k hk
      have hmix : TW 0 n C O3 := s3.mix hrow (fun c c1 c2 c3 c4 c5 => by rw [s4 c c1 c2, d3.1 c c3 c4 c5]) (by rw [s4 391 (by decide) (by decide)]; exact (d3.2 5 (by decide)).symm)
      have ht := s3.tw hrow
      obtain ⟨C4, O4, e1, e2, e3⟩ := bows_after l5 hp hr hne k1 k2' k3 ht.1 hmix (by rw [s5 470 (by decide), d4 470 (by decide)]; exact k4)
      have kb := e3.kb ht.2
      obtain ⟨O5, f1, f2, f3, f4, f5⟩ := keep_rel s3 kb.2.1 kb.2.2.1 kb.1 kb.2.2.2
      rw [if_neg (by decide), if_neg (by decide), s1, s2, bnd_s, bnd_s, e1, e2, bnd_s, bnd_s, f1, bnd_s, zN, gd_p (inbN (by omega) (by decide)), nI_clamp (by omega), leftY (s := 6) kb.1.1.1 h7 hp, bnd_s]
      refine ⟨_, _, _, rfl, ?_, f5.relT⟩
      rw [f2 470 (by decide)]
      exact congrArg (fun z => some (z, O5)) (kb.1.2.1.2.2.2.1 p (by omega)).symm
theorem opt_owe (t : Nat) : op_owe (RelT t) := by
  intro C O h v w x
  obtain ⟨n, m, e, n', t', m', e', h'⟩ := h
  have hn : C 6 0 = nI n := h'.1.2.1.1
  have h7 := h'.1.1.1
  have hA := h'.1.2.1.2.1
  unfold f_X11_owe f_X12_owe X11_owe_j34 X11_owe_j35
  rcases two_cases hn h7 hA v w with ⟨a1, a2, a3⟩ | ⟨p, r, hp, hr, hne, rfl, rfl, a1, a2⟩
  · rw [a1, if_pos rfl, if_pos rfl, a2, bnd_s, if_pos rfl]
    exact ⟨_, _, _, rfl, rfl, h'.relT⟩
  · rw [a1, if_neg n10, a2, bnd_s, if_neg n10, in_eq, show (9999 : Int32) = nI 9999 from rfl]
    rcases wi_b (b := 9999) (by decide) x with ⟨c1, -⟩ | ⟨k, hk, rfl, c1⟩
    · rw [c1, if_pos rfl, if_pos rfl, if_pos rfl]
      exact ⟨_, _, _, rfl, rfl, h'.relT⟩
    · have e40 : (40 : Int32) + nI (21 + (7 * p + r)) = nI (40 + (21 + (7 * p + r))) := nI_add 40 _
      have hv : C (6 + 4) (7 * p + r) = O.1 447 (40 + (21 + (7 * p + r))) := h'.1.2.2.2.2.2.1.1.2.2.2.2.2.2 _ (by omega)
      rw [c1, if_neg n10, if_neg n10, if_neg n10, owedY hn h7 hp hr, bnd_s, hv, debtN', e40, gd_p (inbN (by omega) (by decide))]
      simp only [gd_p (inbN (show 40 + (21 + (7 * p + r)) < 5130 by omega) (by decide)), nI_clamp (show 40 + (21 + (7 * p + r)) < 2 ^ 31 by omega)]
      by_cases ce : O.1 447 (40 + (21 + (7 * p + r))) = nI k
      · rw [if_pos ce, if_pos ce]
        exact ⟨_, _, _, rfl, rfl, h'.relT⟩
      · rw [if_neg ce, if_neg ce]
        obtain ⟨C3, O3, s1, s2, s3, s4, s5, s6⟩ := step_rel h'
        have ez : f_X11_clamped (nI k) 0 9999 = nI k := by
          have := clampS (a := k) (b := 0) hk (by decide)
          rw [show nI k - nI 0 = nI k from Int32.sub_zero _] at this
          exact this
        rw [s1, s2, bnd_s, bnd_s, setY (s := 6) s3.1.2.1.1 h7 hp hr hne, ez, bnd_s]
        have ec : ∀ c, c ≠ 10 → up2 C3 (6 + 4) (7 * p + r) (nI k) c = C3 c := fun c hc => up2_ne (by omega)
        have eo : ∀ c, c ≠ 447 → (oup O3 447 (40 + (21 + (7 * p + r))) (nI k)).1 c = O3.1 c := fun c hc => oup_ne hc
        have eA : ∀ y, y ≠ 40 + (21 + (7 * p + r)) → (oup O3 447 (40 + (21 + (7 * p + r))) (nI k)).1 447 y = O3.1 447 y := fun y hy => by rw [oup_eq, pk_un hy]
        obtain ⟨x1, x2, x3, x4, x5⟩ := s3
        refine ⟨_, _, _, rfl, rfl, n, _, _, n', t', m', e', x1.now (fun p _ => ⟨by rw [ec 2 (by decide)], by rw [ec 3 (by decide)], by rw [ec 4 (by decide)]⟩) (ec 5 (by decide)) (fun c h1 h2 => ec c (by omega)) (by rw [ec _ (by decide)]) (fun y hy _ => eA y (by omega)) ?_,
          x2.mono (fun p _ => ⟨by rw [ec 2 (by decide)], by rw [ec 3 (by decide)], by rw [ec 4 (by decide)]⟩) (fun c h1 h2 => ec c (by omega)) (fun y _ => by rw [eo 448 (by decide)]), x3,
          fun y hy => (x4 y hy).mono (fun j _ => ec _ (by omega)) (fun c h1 h2 => eo c (by omega)),
          x5.mono (by rw [ec 404 (by decide)]) (ec 405 (by decide)) (by rw [ec 406 (by decide)]) (by rw [ec 406 (by decide)]) (ec 385 (by decide)) (ec 386 (by decide)) (by rw [ec 391 (by decide)]) (by rw [ec 401 (by decide)]; exact x5.2.2.2.2) (by rw [eo 446 (by decide)]) (by rw [eo 446 (by decide)]) (by rw [eo 446 (by decide)]) (eo 449 (by decide)) (eA 2 (by omega))⟩
        obtain ⟨g1, g2, g3, g4⟩ := x1.2.2.2.2.2.1
        have hrow : rowN ((oup O3 447 (40 + (21 + (7 * p + r))) (nI k)).1 447) = upd (rowN (O3.1 447)) (21 + (7 * p + r)) (nI k) := by
          funext y
          unfold rowN
          by_cases c : y = 21 + (7 * p + r)
          · rw [c, oup_eq, pk_us, pk_us]
          · rw [pk_un c, eA _ (by omega)]
        rw [hrow]
        exact ⟨g1.s4 (by omega), by rw [ec _ (by decide), pk_un (by omega)]; exact g2, fun j hj => by rw [ec _ (by decide), pk_un (by omega)]; exact g3 j hj, g4.owe (by omega) (by omega) hne hk⟩
theorem opt_walk (t : Nat) : op_walk (RelT t) := by
  intro C O h v w
  obtain ⟨n, m, e, n', t', m', e', h'⟩ := h
  have hn : C 6 0 = nI n := h'.1.2.1.1
  have h7 := h'.1.1.1
  have hA := h'.1.2.1.2.1
  unfold f_X11_walk f_X12_walk
  rcases one_cases hn h7 hA v with ⟨a1, a2, a3⟩ | ⟨p, hp, rfl, a1, a2⟩
  · rw [outN hn a3, bnd_s, if_pos rfl, a2, bnd_s, if_pos rfl]
    exact ⟨_, _, _, rfl, rfl, h'.relT⟩
  · have hi : C (6 + 3) p = O.1 447 (54 + p) := by
      rw [show 54 + p = 40 + (14 + p) by omega]; exact h'.1.2.2.2.2.2.1.1.2.2.2.2.2.1 p (by omega)
    obtain ⟨g, hg, eg⟩ := h'.1.2.2.2.2.2.1.2.2.2.2.2.1 p (by omega)
    have eg' : O.1 447 (54 + p) = nI g := by rw [show 54 + p = 40 + (14 + p) by omega]; exact eg
    have e54 : (54 : Int32) + nI p = nI (54 + p) := nI_add 54 p
    rw [outY hn h7 hp, bnd_s, a2, bnd_s, hi, eg', if_neg (show ¬ (1 : Int32) = 0 by decide)]
    have key : ∀ x : Int32, (x = 1 ∨ x = -1) → g = 0 → ∃ r C' O', X11_walk_j28 (nI p) x C = some (r, C') ∧ X12_walk_j18 (nI p) x O = some (r, O') ∧ RelT t C' O' := by
      intro x hx hg0
      obtain ⟨C3, O3, s1, s2, s3, s4, s5, s6⟩ := step_rel h'
      obtain ⟨O4, l1, l2, l3, l4, l5, l6⟩ := lay_rel s3
      obtain ⟨k, C5, O5, hk, d1, d2, d3, d4⟩ := walks_both l5 hp hx
      have kb := d3.kb l6
      obtain ⟨O6, f1, f2, f3, f4, f5⟩ := keep_rel l4 kb.2.1 kb.2.2.1 kb.1 kb.2.2.2
      have i7 : (7 : Int32) + nI p = nI (7 + p) := nI_add 7 p
      unfold X11_walk_j28 X12_walk_j18
      rw [s1, bnd_s, show f_X7_walks 6 (nI p) x C3 = some C5 from d1, bnd_s, placeY (s := 6) kb.1.1.1 h7 hp, bnd_s, e54, gd_p (inbN (by omega) (by decide)), nI_clamp (by omega), eg', hg0, if_pos (show nI 0 ≤ 0 from Int32.le_refl _), s2, bnd_s, l1, bnd_s, d2, bnd_s, f1, bnd_s, i7, gd_p (inbN (by omega) (by decide)), nI_clamp (by omega), f2 470 (by decide)]
      exact ⟨_, _, _, rfl, congrArg (fun z => some (z, O6)) (kb.1.2.1.2.2.2.2.1 p (by omega)).symm, f5.relT⟩
    by_cases c0 : g = 0
    · subst c0
      rw [if_pos (show nI 0 = 0 from rfl), if_neg (show ¬ (1 : Int32) = 0 by decide)]
      by_cases c1 : w = 1
      · rw [if_pos c1, if_pos c1]; exact key w (Or.inl c1) rfl
      · rw [if_neg c1, if_neg c1]
        by_cases c2 : w = -1
        · rw [if_pos c2, if_pos c2]; exact key w (Or.inr c2) rfl
        · rw [if_neg c2, if_neg c2]
          exact ⟨_, _, _, rfl, rfl, h'.relT⟩
    · rw [if_neg (nI_ne0 (by omega) (by omega)), if_pos rfl]
      have hj : ∀ x, X12_walk_j18 (nI p) x O = some (-1, O) := fun x => by
        unfold X12_walk_j18
        rw [e54, gd_p (inbN (by omega) (by decide)), nI_clamp (by omega), eg', if_neg (nI_nle (by omega) (by omega))]
      rw [hj]
      refine ⟨_, _, _, rfl, ?_, h'.relT⟩
      split
      · rfl
      · split <;> rfl
theorem opt_feast (t : Nat) : op_feast (RelT t) := by
  intro C O h
  obtain ⟨n, m, e, n', t', m', e', h'⟩ := h
  obtain ⟨C3, O3, s1, s2, s3, s4, s5, s6⟩ := step_rel h'
  obtain ⟨O4, l1, l2, l3, l4, l5, l6⟩ := lay_rel s3
  obtain ⟨S, C5, O5, d1, d2, d3⟩ := feasts_both l5
  have kb := d3.kb l6
  obtain ⟨O6, f1, f2, f3, f4, f5⟩ := keep_rel l4 kb.2.1 kb.2.2.1 kb.1 kb.2.2.2
  unfold f_X11_feast f_X12_feast
  rw [s1, bnd_s, show f_X7_forgives 6 C3 = some (S, C5) from d1, bnd2_s, s2, bnd_s, l1, bnd_s, d2, bnd2_s, f1, bnd_s]
  exact ⟨_, _, _, rfl, rfl, f5.relT⟩
theorem opp_bow : op_bow Rel := by
  intro C O h
  obtain ⟨t, ht⟩ := h.t
  intro v w
  obtain ⟨r, C1, O1, r1, r2, r3⟩ := opt_bow t C O ht v w
  exact ⟨r, C1, O1, r1, r2, r3.rel⟩
theorem opp_owe : op_owe Rel := by
  intro C O h
  obtain ⟨t, ht⟩ := h.t
  intro v w x
  obtain ⟨r, C1, O1, r1, r2, r3⟩ := opt_owe t C O ht v w x
  exact ⟨r, C1, O1, r1, r2, r3.rel⟩
theorem opp_walk : op_walk Rel := by
  intro C O h
  obtain ⟨t, ht⟩ := h.t
  intro v w
  obtain ⟨r, C1, O1, r1, r2, r3⟩ := opt_walk t C O ht v w
  exact ⟨r, C1, O1, r1, r2, r3.rel⟩
theorem opp_feast : op_feast Rel := by
  intro C O h
  obtain ⟨t, ht⟩ := h.t
  obtain ⟨r, C1, O1, r1, r2, r3⟩ := opt_feast t C O ht 
  exact ⟨r, C1, O1, r1, r2, r3.rel⟩
