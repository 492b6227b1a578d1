theorem nm1_ne {j : Nat} (h : j < 2 ^ 31) : ¬ nI j = (-1 : Int32) := by
  intro e
  have := congrArg Int32.toInt e
  rw [nI_toInt h, show (-1 : Int32).toInt = -1 from rfl] at this
  omega
theorem opp_by : op_by Rel := by
  intro C O h v
  obtain ⟨n, t, m, e, n', t', m', e', h'⟩ := h
  have ht : C 5 2 = nI t := h'.1.2.1.2.2.1
  have hA : O.1 447 1 = nI t := h'.1.2.1.2.2.2.1
  have ht4 := h'.1.1.2.1
  have key : ∀ sc, isSc sc → f_X11_script v = some sc → ((v = -1 ∧ sc = 383) ∨ ∃ j, j < t ∧ v = nI j ∧ sc = 422 + 6 * j) → ∃ r C' O', X11_by_j15 v C = some (r, C') ∧ X12_by_j23 v O = some (r, O') ∧ Rel C' O' := by
    intro sc hsc hs hv
    unfold X11_by_j15 X12_by_j23 f_X1_rule
    rw [hs, bnd_s, bnd_s]
    refine ⟨_, _, _, rfl, rfl, n, t, m, e, n', t', m', e', ?_⟩
    obtain ⟨a, b, c, d, f1, f2, f3, f4, f5⟩ := h'
    have ec : ∀ c, c ≠ 5 → c ≠ 391 → up2 (up2 C 5 3 v) (laI 0) 5 (nI sc) c = C c := fun c h1 h2 => by rw [up2_ne (show c ≠ laI 0 from h2), up2_ne h1]
    have e5 : ∀ k, k ≠ 3 → up2 (up2 C 5 3 v) (laI 0) 5 (nI sc) 5 k = C 5 k := fun k hk => by rw [up2_ne (show 5 ≠ laI 0 by decide), up2_eq, pk_un hk]
    have e53 : up2 (up2 C 5 3 v) (laI 0) 5 (nI sc) 5 3 = v := by rw [up2_ne (show 5 ≠ laI 0 by decide), up2_eq, pk_us]
    have eA : ∀ k, k ≠ 2 → (oup O 447 2 v).1 447 k = O.1 447 k := fun k hk => by rw [oup_eq, pk_un hk]
    have eA2 : (oup O 447 2 v).1 447 2 = v := by rw [oup_eq, pk_us]
    have eo : ∀ c, c ≠ 447 → (oup O 447 2 v).1 c = O.1 c := fun c hc => oup_ne hc
    refine ⟨?_, b.mono (fun p _ => ⟨by rw [ec 2 (by decide) (by decide)], by rw [ec 3 (by decide) (by decide)], by rw [ec 4 (by decide) (by decide)]⟩) (fun c h1 h2 => ec c (by omega) (by omega)) (fun y _ => by rw [eo 448 (by decide)]), c, fun k hk => (d k hk).mono (fun j _ => ec _ (by omega) (by omega)) (fun c h1 h2 => eo c (by omega)), ?_, ?_, ?_, ?_, ?_⟩
    · obtain ⟨⟨a1, a2, a3, a4⟩, ⟨b1, b2, b3, b4, b5, b6, b7⟩, ⟨c1, c2⟩, dd, ff, hs, g⟩ := a
      refine ⟨⟨a1, a2, a3, a4⟩, ⟨by rw [ec _ (by decide) (by decide)]; exact b1, by rw [eA _ (by decide)]; exact b2, by rw [e5 _ (by decide)]; exact b3, by rw [eA _ (by decide)]; exact b4, by rw [e5 _ (by decide)]; exact b5, by rw [eA _ (by decide)]; exact b6, by rw [e5 _ (by decide)]; exact b7⟩, ⟨by rw [e53, eA2], ?_⟩, fun p hp => ?_, fun k hk => ?_, hs.mono (fun k _ => ec _ (by omega) (by omega)) (fun k _ => eA _ (by omega)), fun j hj => ?_⟩
      · rw [eA2]
        rcases hv with ⟨v1, -⟩ | ⟨j, hj, v1, -⟩
        · exact Or.inl v1
        · exact Or.inr ⟨j, hj, v1⟩
      · rw [ec 2 (by decide) (by decide), ec 3 (by decide) (by decide), ec 4 (by decide) (by decide), eA _ (by omega), eA _ (by omega)]; exact dd p hp
      · rw [ec _ (by decide) (by decide), eA _ (by omega)]; exact ff k hk
      · have hst := stp_in 5 e j
        exact (g j hj).mono (fun k _ => ec _ (by omega) (by omega)) (fun p _ => ⟨by rw [ec 3 (by decide) (by decide)], by rw [ec 4 (by decide) (by decide)]⟩) a1 (fun k _ => eA _ (by omega))
    · obtain ⟨L, l1, l2, l3, l4⟩ := f1
      exact ⟨L, l1, by rw [ec _ (by decide) (by decide)]; exact l2, by rw [eo _ (by decide)]; exact l3, fun k hk => by rw [ec _ (by decide) (by decide), eo _ (by decide)]; exact l4 k hk⟩
    · rw [ec _ (by decide) (by decide), eo _ (by decide)]; exact f2
    · rw [ec _ (by decide) (by decide), ec _ (by decide) (by decide)]; exact f3
    · have e391 : up2 (up2 C 5 3 v) (laI 0) 5 (nI sc) 391 5 = nI sc := by
        show up2 (up2 C 5 3 v) (laI 0) 5 (nI sc) (laI 0) 5 = _
        rw [up2_eq, pk_us]
      rw [eA2, e391]
      rcases hv with ⟨v1, v2⟩ | ⟨j, hj, v1, v2⟩
      · exact ⟨fun _ => by rw [v2], fun j hj hv => absurd (hv.symm.trans v1) (nm1_ne (by omega))⟩
      · refine ⟨fun hv => absurd (v1.symm.trans hv) (nm1_ne (by omega)), fun i hi hv => ?_⟩
        have : i = j := (nI_eq (by omega) (by omega)).mp (hv.symm.trans v1)
        rw [v2, this]
    · rw [ec _ (by decide) (by decide)]; exact f5
  unfold f_X11_by f_X12_by f_X11_isText
  rw [ht, hA, in_eq]
  by_cases c0 : v = -1
  · rw [if_pos c0, if_pos c0]
    exact key 383 (Or.inl rfl) (by rw [c0]; rfl) (Or.inl ⟨c0, rfl⟩)
  · rw [if_neg c0, if_neg c0]
    rcases wi_n (n := t) (by omega) v with ⟨w1, -⟩ | ⟨j, hj, hv, w1⟩
    · rw [w1, gd_p (Or.inl rfl), bnd_s, if_pos rfl, if_pos rfl]
      exact ⟨_, _, _, rfl, rfl, h'.rel⟩
    · rw [w1, gd_p (Or.inr rfl), bnd_s, if_neg n10, if_neg n10]
      refine key (422 + 6 * j) (Or.inr ⟨by omega, by omega, by omega⟩) ?_ (Or.inr ⟨j, hj, hv, rfl⟩)
      unfold f_X11_script f_X11_within
      rw [hv, if_neg (nI_pos (by omega)), show (3 : Int32) = nI 3 from rfl, if_neg (nI_nlt (by omega) (by omega)), if_neg n10, gd_p (inbN (by omega) (by decide)), nI_clamp (by omega)]
theorem wi_m1 {b : Nat} (hb : b < 2 ^ 29) (x : Int32) : (x = -1 ∧ f_X11_within x (-1) (nI b) = 1) ∨ (¬ x = -1 ∧ f_X11_within x (-1) (nI b) = f_X11_within x 0 (nI b)) := by
  have em : (-1 : Int32).toInt = -1 := rfl
  have e0 : (0 : Int32).toInt = 0 := rfl
  by_cases c : x = -1
  · refine Or.inl ⟨c, ?_⟩
    subst c
    unfold f_X11_within
    rw [if_neg (by decide), if_neg]
    rw [Int32.lt_iff_toInt_lt, nI_toInt (by omega), em]
    omega
  · refine Or.inr ⟨c, ?_⟩
    unfold f_X11_within
    have c' : x.toInt ≠ -1 := fun h => c (Int32.toInt_inj.mp (h.trans em.symm))
    by_cases c1 : x < -1
    · rw [if_pos c1, if_pos]
      rw [Int32.lt_iff_toInt_lt, em] at c1
      rw [Int32.lt_iff_toInt_lt, e0]
      omega
    · rw [if_neg c1]
      rw [Int32.lt_iff_toInt_lt, em] at c1
      rw [if_neg (show ¬ x < 0 by rw [Int32.lt_iff_toInt_lt, e0]; omega)]
theorem fewR {n : Nat} {O : OM} (hn : n ≤ 7) (h : O.1 447 0 = nI n) : f_X12_few O = some (nI (min n 5)) := by
  unfold f_X12_few
  rw [h, show (5 : Int32) = nI 5 from rfl]
  by_cases c : n ≤ 5
  · rw [if_pos (nI_le c (by decide)), Nat.min_eq_left c]
  · rw [if_neg (nI_ge (by omega) (by omega)), Nat.min_eq_right (by omega)]
theorem opp_neck : op_neck Rel := by
  intro C O h v w
  obtain ⟨n, t, m, e, n', t', m', e', h'⟩ := h
  have h7 := h'.1.1.1
  have hn : C 6 0 = nI n := h'.1.2.1.1
  unfold f_X11_neck f_X12_neck f_X11_necksNow X11_neck_j34 X11_neck_j30 X11_neck_j35
  rw [fewR h7 h'.1.2.1.2.1, bnd_s, hn, show (5 : Int32) = nI 5 from rfl, minN (by decide) (by omega), in_eq, show min 5 n = min n 5 by omega]
  rcases wi_n (n := min n 5) (by omega) v with ⟨w1, -⟩ | ⟨p, hp, rfl, w1⟩
  · rw [w1, if_pos rfl, if_pos rfl, if_pos rfl, gd_p (Or.inl rfl)]
    exact ⟨_, _, _, rfl, rfl, h'.rel⟩
  rw [w1, if_neg n10, if_neg n10, if_pos rfl, if_neg n10, gd_p (Or.inl rfl), gd_p (Or.inr rfl), gd_p (inbN (by omega) (by decide))]
  have i24 : (24 : Int32) + nI p = nI (24 + p) := nI_add 24 p
  rw [i24, gd_p (inbN (by omega) (by decide)), nI_clamp (by omega), nI_clamp (by omega), show (999 : Int32) = nI 999 from rfl]
  have key : (w = -1 ∨ ∃ k, k ≤ 999 ∧ w = nI k) → Rel (up2 C 12 p w) (oup O 447 (24 + p) w) := by
    intro hw
    refine ⟨n, t, m, e, n', t', m', e', ?_⟩
    obtain ⟨a, b, c, d, f⟩ := h'
    have ec : ∀ c, c ≠ 12 → up2 C 12 p w c = C c := fun c hc => up2_ne hc
    have eo : ∀ c, c ≠ 447 → (oup O 447 (24 + p) w).1 c = O.1 c := fun c hc => oup_ne hc
    have eA : ∀ k, k ≠ 24 + p → (oup O 447 (24 + p) w).1 447 k = O.1 447 k := fun k hk => by rw [oup_eq, pk_un hk]
    refine ⟨?_, b.mono (fun p _ => ⟨by rw [ec 2 (by decide)], by rw [ec 3 (by decide)], by rw [ec 4 (by decide)]⟩) (fun c h1 h2 => ec c (by omega)) (fun y _ => by rw [eo 448 (by decide)]), c, fun k hk => (d k hk).mono (fun j _ => ec _ (by omega)) (fun c h1 h2 => eo c (by omega)), f.mono (by rw [ec 404 (by decide)]) (ec 405 (by decide)) (by rw [ec 406 (by decide)]) (by rw [ec 406 (by decide)]) (ec 385 (by decide)) (ec 386 (by decide)) (by rw [ec 391 (by decide)]) (by rw [ec 401 (by decide)]; exact f.2.2.2.2) (by rw [eo 446 (by decide)]) (by rw [eo 446 (by decide)]) (by rw [eo 446 (by decide)]) (eo 449 (by decide)) (eA 2 (by omega))⟩
    obtain ⟨⟨a1, a2, a3, a4⟩, ⟨b1, b2, b3, b4, b5, b6, b7⟩, ⟨c1, c2⟩, dd, ff, hs, g⟩ := a
    refine ⟨⟨a1, a2, a3, a4⟩, ⟨by rw [ec _ (by decide)]; exact b1, by rw [eA _ (by omega)]; exact b2, by rw [ec _ (by decide)]; exact b3, by rw [eA _ (by omega)]; exact b4, by rw [ec _ (by decide)]; exact b5, by rw [eA _ (by omega)]; exact b6, by rw [ec _ (by decide)]; exact b7⟩, ⟨by rw [ec _ (by decide), eA _ (by omega)]; exact c1, by rw [eA _ (by omega)]; exact c2⟩, fun p hp => ?_, fun k hk => ?_, hs.mono (fun k _ => ec _ (by omega)) (fun k _ => eA _ (by omega)), fun j hj => ?_⟩
    · rw [ec 2 (by decide), ec 3 (by decide), ec 4 (by decide), eA _ (by omega), eA _ (by omega)]; exact dd p hp
    · by_cases ek : k = p
      · subst ek
        show up2 C 12 k w 12 k = _ ∧ _
        rw [up2_eq, pk_us, oup_eq, pk_us]
        exact ⟨rfl, hw, fun hh => absurd hh (by omega)⟩
      · show up2 C 12 p w 12 k = _ ∧ _
        rw [up2_eq, pk_un ek, eA _ (by omega)]; exact ff k hk
    · have hst := stp_in 5 e j
      exact (g j hj).mono (fun k _ => ec _ (by omega)) (fun p _ => ⟨by rw [ec 3 (by decide)], by rw [ec 4 (by decide)]⟩) a1 (fun k _ => eA _ (by omega))
  rcases wi_m1 (b := 999) (by decide) w with ⟨x1, x2⟩ | ⟨x1, x2⟩
  · rw [x2, if_pos x1, if_neg n10]
    exact ⟨_, _, _, rfl, rfl, key (Or.inl x1)⟩
  · rw [x2, if_neg x1]
    rcases wi_b (b := 999) (by decide) w with ⟨y1, -⟩ | ⟨k, hk, rfl, y1⟩
    · rw [y1, if_pos rfl, if_pos rfl]
      exact ⟨_, _, _, rfl, rfl, h'.rel⟩
    · rw [y1, if_neg n10, if_neg n10]
      exact ⟨_, _, _, rfl, rfl, key (Or.inr ⟨k, hk, rfl⟩)⟩
