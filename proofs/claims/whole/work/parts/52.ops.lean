theorem tells_l {v m : Nat} {x : Int32} (hv : v < 164) (hm : m ≤ 30) : ∀ d i f O, i + d = m → d < f → O.1 447 3 = nI m → ∃ O1, X12_tells_l12 f (nI v) x (nI i) O = some O1 ∧ FrO1 447 O O1 ∧ (∀ k, i ≤ k → k < m → O1.1 447 (210 + 164 * k + v) = x) ∧ ∀ y, (∀ k, i ≤ k → k < m → y ≠ 210 + 164 * k + v) → O1.1 447 y = O.1 447 y := by
  intro d
  induction d with
  | zero =>
    intro i f O hi hf h3
    obtain ⟨f, rfl⟩ : ∃ j, f = j + 1 := ⟨f - 1, by omega⟩
    have : i = m := by omega
    subst this
    rw [X12_tells_l12, h3, if_pos (Int32.le_refl _)]
    exact ⟨O, rfl, FrO1.refl, fun k h1 h2 => absurd h1 (by omega), fun y _ => rfl⟩
  | succ d ih =>
    intro i f O hi hf h3
    obtain ⟨f, rfl⟩ : ∃ j, f = j + 1 := ⟨f - 1, by omega⟩
    have e5 : (210 : Int32) + 164 * nI i + nI v = nI (210 + 164 * i + v) := by rw [show (164 : Int32) = nI 164 from rfl, pk_mul, show (210 : Int32) = nI 210 from rfl, nI_add, nI_add]
    obtain ⟨O1, r1, r2, r3, r4⟩ := ih (i + 1) f (oup O 447 (210 + 164 * i + v) x) (by omega) (by omega) (by rw [oup_eq, pk_un (by omega)]; exact h3)
    refine ⟨O1, ?_, fun c hc => (r2 c hc).trans (oup_ne hc), fun k h1 h2 => ?_, fun y hy => ?_⟩
    · rw [X12_tells_l12, h3, if_neg (nI_ge (by omega) (by omega)), e5, gd_p (inbN (by omega) (by decide)), nI_clamp (by omega), nI_1]
      exact r1
    · by_cases e : k = i
      · subst e
        rw [r4 _ (fun j h3 h4 => by omega), oup_eq, pk_us]
      · exact r3 k (by omega) h2
    · rw [r4 y (fun j h3 h4 => hy j (by omega) h4), oup_eq, pk_un (hy i (Nat.le_refl _) (by omega))]
theorem tellsR {v m : Nat} {x : Int32} {O : OM} (hv : v < 164) (hm : m ≤ 30) (h3 : O.1 447 3 = nI m) : ∃ O1, f_X12_tells (nI v) x O = some O1 ∧ FrO1 447 O O1 ∧ O1.1 447 (40 + v) = x ∧ (∀ k, k < m → O1.1 447 (210 + 164 * k + v) = x) ∧ ∀ y, y ≠ 40 + v → (∀ k, k < m → y ≠ 210 + 164 * k + v) → O1.1 447 y = O.1 447 y := by
  have e4 : (40 : Int32) + nI v = nI (40 + v) := nI_add 40 v
  obtain ⟨O1, r1, r2, r3, r4⟩ := tells_l (x := x) hv hm m 0 FU (oup O 447 (40 + v) x) (by omega) (by unfold FU; omega) (by rw [oup_eq, pk_un (by omega)]; exact h3)
  refine ⟨O1, ?_, fun c hc => (r2 c hc).trans (oup_ne hc), ?_, fun k hk => r3 k (by omega) hk, fun y h1 h2 => ?_⟩
  · unfold f_X12_tells
    rw [e4, gd_p (inbN (by omega) (by decide)), nI_clamp (by omega)]
    exact r1
  · rw [r4 _ (fun k _ _ => by omega), oup_eq, pk_us]
  · rw [r4 y (fun k _ h3 => h2 k h3), oup_eq, pk_un h1]
theorem enterY {i : Nat} {C : CM} (h0 : C 6 0 = nI i) (hi : i < 7) : f_X7_enter 6 C = some (up2 (up2 (up2 C 7 i (C 3 i)) 8 i (C 4 i)) 6 0 (nI (i + 1))) := by
  have c : f_X11_within (nI i) 0 6 = 1 := by
    unfold f_X11_within
    rw [if_neg (nI_pos (by omega)), show (6 : Int32) = nI 6 from rfl, if_neg (nI_nlt (by omega) (by omega))]
  unfold f_X7_enter
  rw [h0, c, if_neg n10, backY hi, bnd_s]
  simp only [gd_p (inbN hi (show 7 < 2 ^ 31 by decide)), nI_clamp (show i < 2 ^ 31 by omega)]
  rw [plcY hi, bnd_s, up2_ne (show 4 ≠ 6 + 1 by decide), nI_1]
theorem opt_person (t : Nat) : op_person (RelT t) := by
  intro C O h v w x
  obtain ⟨n, m, e, n', t', m', e', h'⟩ := h
  have h7 := h'.1.1.1
  have hm30 := h'.1.1.2.2.1
  have hn : C 6 0 = nI n := h'.1.2.1.1
  have hA : O.1 447 0 = nI n := h'.1.2.1.2.1
  have h3 : O.1 447 3 = nI m := h'.1.2.1.2.2.2.2.2.1
  unfold f_X11_person f_X12_person X11_person_j34 X11_person_j35
  rw [in_eq, hA, hn, show (99 : Int32) = nI 99 from rfl, show (7 : Int32) = nI 7 from rfl]
  rcases wi_b (b := 99) (by decide) v with ⟨w1, -⟩ | ⟨ag, hag, rfl, w1⟩
  · rw [w1, if_pos rfl, if_pos rfl, if_pos rfl]; exact ⟨_, _, _, rfl, rfl, h'.relT⟩
  rw [w1, if_neg n10, if_neg n10]
  rcases wi_b (b := 99) (by decide) w with ⟨w2, -⟩ | ⟨bk, hbk, rfl, w2⟩
  · rw [w2, if_pos rfl, if_pos rfl, if_pos rfl]; exact ⟨_, _, _, rfl, rfl, h'.relT⟩
  rw [w2, if_neg n10, if_neg n10]
  rcases wi_b (b := 7) (by decide) x with ⟨w3, -⟩ | ⟨pl, hpl, rfl, w3⟩
  · rw [w3, if_pos rfl, if_pos rfl, if_pos rfl]; exact ⟨_, _, _, rfl, rfl, h'.relT⟩
  rw [w3, if_neg n10, if_neg n10, if_neg n10]
  by_cases c7 : n = 7
  · subst c7
    rw [if_neg (nI_nlt (Nat.le_refl _) (by decide)), if_pos rfl]; exact ⟨_, _, _, rfl, rfl, h'.relT⟩
  rw [if_pos (nI_lt (by omega) (by decide)), if_neg (fun e => c7 ((nI_eq (by omega) (by decide)).mp e))]
  have hn7 : n < 7 := by omega
  have c6 : f_X11_within (nI n) 0 6 = 1 := by
    unfold f_X11_within
    rw [if_neg (nI_pos (by omega)), show (6 : Int32) = nI 6 from rfl, if_neg (nI_nlt (by omega) (by omega))]
  -- the class
  have ect : f_X3_tell (nI n) (nI ag) (nI bk) (nI pl) C = some (up2 (up2 (up2 C 2 n (nI ag)) 3 n (nI bk)) 4 n (nI pl)) := by
    unfold f_X3_tell
    rw [c6, if_neg n10, gd_p (inbN (by omega) (by decide)), gd_p (inbN (by omega) (by decide)), gd_p (inbN (by omega) (by decide)), nI_clamp (by omega)]
  obtain ⟨C1, hC1⟩ : ∃ C1, C1 = up2 (up2 (up2 C 2 n (nI ag)) 3 n (nI bk)) 4 n (nI pl) := ⟨_, rfl⟩
  rw [← hC1] at ect
  have p1 : ∀ c, c ≠ 2 → c ≠ 3 → c ≠ 4 → C1 c = C c := fun c a1 a2 a3 => by rw [hC1, up2_ne a3, up2_ne a2, up2_ne a1]
  have p2 : C1 2 = upd (C 2) n (nI ag) := by rw [hC1, up2_ne (by decide), up2_ne (by decide), up2_eq]
  have p3 : C1 3 = upd (C 3) n (nI bk) := by rw [hC1, up2_ne (by decide), up2_eq, up2_ne (by decide)]
  have p4 : C1 4 = upd (C 4) n (nI pl) := by rw [hC1, up2_eq, up2_ne (by decide), up2_ne (by decide)]
  have een := enterY (C := C1) (i := n) (by rw [p1 6 (by decide) (by decide) (by decide)]; exact hn) hn7
  rw [p3, p4, pk_us, pk_us] at een
  obtain ⟨C2, hC2⟩ : ∃ C2, C2 = up2 (up2 (up2 C1 7 n (nI bk)) 8 n (nI pl)) 6 0 (nI (n + 1)) := ⟨_, rfl⟩
  rw [← hC2] at een
  have q1 : ∀ c, c ≠ 2 → c ≠ 3 → c ≠ 4 → c ≠ 6 → c ≠ 7 → c ≠ 8 → C2 c = C c := fun c a1 a2 a3 a4 a5 a6 => by rw [hC2, up2_ne a4, up2_ne a6, up2_ne a5, p1 c a1 a2 a3]
  have q2 : C2 2 = upd (C 2) n (nI ag) := by rw [hC2, up2_ne (by decide), up2_ne (by decide), up2_ne (by decide), p2]
  have q3 : C2 3 = upd (C 3) n (nI bk) := by rw [hC2, up2_ne (by decide), up2_ne (by decide), up2_ne (by decide), p3]
  have q4 : C2 4 = upd (C 4) n (nI pl) := by rw [hC2, up2_ne (by decide), up2_ne (by decide), up2_ne (by decide), p4]
  have q60 : C2 6 0 = nI (n + 1) := by rw [hC2, up2_eq, pk_us]
  -- the reference
  have i10 : (10 : Int32) + nI n = nI (10 + n) := nI_add 10 n
  have i17 : (17 : Int32) + nI n = nI (17 + n) := nI_add 17 n
  have i7 : nI 7 + nI n = nI (7 + n) := nI_add 7 n
  obtain ⟨Oa, hOa⟩ : ∃ Oa, Oa = oup (oup O 447 (10 + n) (nI ag)) 447 (17 + n) (nI bk) := ⟨_, rfl⟩
  have a1 : ∀ k, k ≠ 10 + n → k ≠ 17 + n → Oa.1 447 k = O.1 447 k := fun k h1 h2 => by rw [hOa, oup_eq, pk_un h2, oup_eq, pk_un h1]
  have a2 : Oa.1 447 (10 + n) = nI ag := by rw [hOa, oup_eq, pk_un (by omega), oup_eq, pk_us]
  have a3 : Oa.1 447 (17 + n) = nI bk := by rw [hOa, oup_eq, pk_us]
  have a4 : ∀ c, c ≠ 447 → Oa.1 c = O.1 c := fun c hc => by rw [hOa, oup_ne hc, oup_ne hc]
  obtain ⟨Ob, b1, b2, b3, b4, b5⟩ := tellsR (v := n) (x := nI bk) (O := Oa) (by omega) hm30 (by rw [a1 3 (by omega) (by omega)]; exact h3)
  obtain ⟨Oc, c1, c2, c3, c4, c5⟩ := tellsR (v := 7 + n) (x := nI pl) (O := Ob) (by omega) hm30 (by rw [b5 3 (by omega) (fun k _ => by omega), a1 3 (by omega) (by omega)]; exact h3)
  have d1 : ∀ y, y ≠ 40 + n → y ≠ 40 + (7 + n) → (∀ k, k < m → y ≠ 210 + 164 * k + n ∧ y ≠ 210 + 164 * k + (7 + n)) → Oc.1 447 y = Oa.1 447 y := fun y h1 h2 h3 => by
    rw [c5 y h2 (fun k hk => (h3 k hk).2), b5 y h1 (fun k hk => (h3 k hk).1)]
  have d2 : Oc.1 447 (40 + n) = nI bk := by rw [c5 _ (by omega) (fun k _ => by omega)]; exact b3
  have d3 : ∀ k, k < m → Oc.1 447 (210 + 164 * k + n) = nI bk := fun k hk => by rw [c5 _ (by omega) (fun j _ => by omega)]; exact b4 k hk
  have d0 : Oc.1 447 0 = nI n := by rw [d1 0 (by omega) (by omega) (fun k _ => ⟨by omega, by omega⟩), a1 0 (by omega) (by omega)]; exact hA
  obtain ⟨Od, hOd⟩ : ∃ Od, Od = oup Oc 447 0 (nI (n + 1)) := ⟨_, rfl⟩
  have e1 : ∀ y, y ≠ 0 → Od.1 447 y = Oc.1 447 y := fun y hy => by rw [hOd, oup_eq, pk_un hy]
  have e0 : Od.1 447 0 = nI (n + 1) := by rw [hOd, oup_eq, pk_us]
  have eo : ∀ c, c ≠ 447 → Od.1 c = O.1 c := fun c hc => by rw [hOd, oup_ne hc, c2 c hc, b2 c hc, a4 c hc]
  have eA : ∀ y, y < 40 → y ≠ 0 → y ≠ 10 + n → y ≠ 17 + n → Od.1 447 y = O.1 447 y := fun y h1 h2 h3 h4 => by rw [e1 y h2, d1 y (by omega) (by omega) (fun k _ => ⟨by omega, by omega⟩), a1 y h3 h4]
  refine ⟨nI n, C2, Od, ?_, ?_, ?_⟩
  · rw [ect, bnd_s, een, bnd_s]
  · rw [i10, i17, gd_p (inbN (by omega) (by decide)), gd_p (inbN (by omega) (by decide)), nI_clamp (by omega), nI_clamp (by omega), zN, ← hOa, b1, bnd_s, i7, c1, bnd_s, d0, nI_1, ← hOd]
  · refine ⟨n + 1, m, e, n', t', m', e', ?_⟩
    obtain ⟨a, b, c, d, f⟩ := h'
    refine ⟨?_, b.mono (fun p hp => ⟨by rw [q2, pk_un (by omega)], by rw [q3, pk_un (by omega)], by rw [q4, pk_un (by omega)]⟩) (fun c h1 h2 => q1 c (by omega) (by omega) (by omega) (by omega) (by omega) (by omega)) (fun y _ => by rw [eo 448 (by decide)]), ⟨by omega, c.2⟩, fun k hk => (d k hk).mono (fun j _ => q1 _ (by omega) (by omega) (by omega) (by omega) (by omega) (by omega)) (fun c h1 h2 => eo c (by omega)), ?_⟩
    · obtain ⟨⟨x1, x2, x3, x4⟩, ⟨y1, y2, y3, y4, y5, y6, y7⟩, ⟨z1, z2⟩, dd, ff, hs, g⟩ := a
      have q5 : C2 5 = C 5 := q1 5 (by decide) (by decide) (by decide) (by decide) (by decide) (by decide)
      refine ⟨⟨by omega, x2, x3, x4⟩, ⟨q60, e0, by rw [q5]; exact y3, by rw [eA 1 (by decide) (by decide) (by omega) (by omega)]; exact y4, by rw [q5]; exact y5, by rw [eA 3 (by decide) (by decide) (by omega) (by omega)]; exact y6, by rw [q5]; exact y7⟩, ⟨by rw [q5, eA 2 (by decide) (by decide) (by omega) (by omega)]; exact z1, by rw [eA 2 (by decide) (by decide) (by omega) (by omega)]; exact z2⟩, fun p hp => ?_, fun k hk => ?_, ?_, fun j hj => ?_⟩
      · by_cases ep : p = n
        · subst ep
          rw [q2, q3, q4, pk_us, pk_us, pk_us]
          refine ⟨?_, ?_, ⟨ag, by omega, rfl⟩, ⟨bk, by omega, rfl⟩, ⟨pl, by omega, rfl⟩⟩
          · rw [e1 _ (by omega), d1 _ (by omega) (by omega) (fun k _ => ⟨by omega, by omega⟩), a2]
          · rw [e1 _ (by omega), d1 _ (by omega) (by omega) (fun k _ => ⟨by omega, by omega⟩), a3]
        · rw [q2, q3, q4, pk_un ep, pk_un ep, pk_un ep, eA _ (by omega) (by omega) (by omega) (by omega), eA _ (by omega) (by omega) (by omega) (by omega)]; exact dd p (by omega)
      · rw [q1 _ (by omega) (by omega) (by omega) (by omega) (by omega) (by omega), eA _ (by omega) (by omega) (by omega) (by omega)]
        obtain ⟨f1, f2, f3⟩ := ff k hk
        exact ⟨f1, f2, fun hh => f3 (by omega)⟩
      · obtain ⟨g1, g2, g3, g4⟩ := hs
        have s0 : SS 6 C1 (rowN (O.1 447)) := SS.mono ⟨g1, g2, g3, g4⟩ (fun k _ => p1 _ (by omega) (by omega) (by omega)) (fun k _ => rfl)
        have s1 : SS 6 C2 (upd (upd (rowN (O.1 447)) n (nI bk)) (7 + n) (nI pl)) := by
          rw [hC2]
          exact ⟨((s0.1.s1 (by omega)).s2 (by omega)).c0 (Or.inl rfl), by rw [up2_eq, pk_un (by decide), up2_ne (by decide), up2_ne (by decide), pk_un (by omega), pk_un (by omega)]; exact s0.2.1, fun j hj => by rw [up2_ne (by decide), up2_ne (by decide), up2_ne (by decide), pk_un (by omega), pk_un (by omega)]; exact s0.2.2.1 j hj, (s0.2.2.2.u (by omega) (Or.inl fun j hj => by omega)).u (by omega) (Or.inl fun j hj => by omega)⟩
        refine s1.mono (fun k _ => rfl) (fun k hk => ?_)
        show Od.1 447 (40 + k) = _
        rw [e1 _ (by omega)]
        by_cases k1 : k = 7 + n
        · rw [k1, pk_us]; exact c3
        · rw [pk_un k1]
          by_cases k2 : k = n
          · rw [k2, pk_us, d2]
          · rw [pk_un k2, d1 _ (by omega) (by omega) (fun k _ => ⟨by omega, by omega⟩), a1 _ (by omega) (by omega)]; rfl
      · have hst := stp_in 5 e j
        obtain ⟨c, u1, u2, u3, u4, u5, u6, u7, u8, u9, u10, u11, u12⟩ := g j hj
        have ecl : ∀ k, k ≤ 5 → C2 (stp 5 e j + k) = C (stp 5 e j + k) := fun k hk => q1 _ (by omega) (by omega) (by omega) (by omega) (by omega) (by omega)
        have ec0 := ecl 0 (by decide)
        rw [Nat.add_zero] at ec0
        have eB : ∀ k, k < 164 → k ≠ n → k ≠ 7 + n → rowJ (Od.1 447) j k = rowJ (O.1 447) j k := fun k hk k1 k2 => by
          show Od.1 447 (210 + 164 * j + k) = _
          rw [e1 _ (by omega), d1 _ (by omega) (by omega) (fun i hi => ⟨by omega, by omega⟩), a1 _ (by omega) (by omega)]; rfl
        have eB1 : rowJ (Od.1 447) j n = nI bk := by
          show Od.1 447 (210 + 164 * j + n) = _
          rw [e1 _ (by omega)]; exact d3 j hj
        have eB2 : rowJ (Od.1 447) j (7 + n) = nI pl := by
          show Od.1 447 (210 + 164 * j + (7 + n)) = _
          rw [e1 _ (by omega)]; exact c4 j hj
        refine ⟨c, by omega, by rw [ec0]; exact u2, by rw [ec0, eB _ (by decide) (by omega) (by omega)]; exact u3, by rw [ec0, eB _ (by decide) (by omega) (by omega)]; exact u4, by rw [ec0, eB _ (by decide) (by omega) (by omega)]; exact u5, by rw [ec0, eB _ (by decide) (by omega) (by omega)]; exact u6, fun p hp hq => ?_, fun p hp hq => ?_, fun p hp => ?_, fun i hi => ?_, fun i hi => ?_, ?_⟩
        · rw [ecl 1 (by decide), ecl 2 (by decide), eB _ (by omega) (by omega) (by omega), eB _ (by omega) (by omega) (by omega)]; exact u7 p hp (by omega)
        · by_cases ep : p = n
          · rw [ep, eB1, eB2, q3, q4, pk_us, pk_us]; exact ⟨rfl, rfl⟩
          · rw [q3, q4, pk_un ep, pk_un ep, eB _ (by omega) (by omega) (by omega), eB _ (by omega) (by omega) (by omega)]; exact u8 p hp (by omega)
        · rw [ecl 3 (by decide), eB _ (by omega) (by omega) (by omega)]; exact u9 p hp
        · rw [ecl 4 (by decide), eB _ (by omega) (by omega) (by omega)]; exact u10 i hi
        · rw [ecl 5 (by decide), eB _ (by omega) (by omega) (by omega)]; exact u11 i hi
        · refine WOK.congr ((u12.u (i := n) (k := bk) (by omega) (Or.inl fun j hj => by omega)).u (i := 7 + n) (k := pl) (by omega) (Or.inl fun j hj => by omega)) (fun k hk => ?_) (by rw [eB 73 (by decide) (by omega) (by omega)]; exact u12.2.2.2.2.2.2.2.2)
          by_cases k1 : k = 7 + n
          · rw [k1, pk_us]; exact eB2
          · rw [pk_un k1]
            by_cases k2 : k = n
            · rw [k2, pk_us]; exact eB1
            · rw [pk_un k2]; exact eB k (by omega) k2 k1
    · exact f.mono (by rw [q1 404 (by decide) (by decide) (by decide) (by decide) (by decide) (by decide)]) (q1 405 (by decide) (by decide) (by decide) (by decide) (by decide) (by decide)) (by rw [q1 406 (by decide) (by decide) (by decide) (by decide) (by decide) (by decide)]) (by rw [q1 406 (by decide) (by decide) (by decide) (by decide) (by decide) (by decide)]) (q1 385 (by decide) (by decide) (by decide) (by decide) (by decide) (by decide)) (q1 386 (by decide) (by decide) (by decide) (by decide) (by decide) (by decide)) (by rw [q1 391 (by decide) (by decide) (by decide) (by decide) (by decide) (by decide)]) (by rw [q1 401 (by decide) (by decide) (by decide) (by decide) (by decide) (by decide)]; exact f.2.2.2.2) (by rw [eo 446 (by decide)]) (by rw [eo 446 (by decide)]) (by rw [eo 446 (by decide)]) (eo 449 (by decide)) (eA 2 (by decide) (by decide) (by omega) (by omega))
theorem opp_person : op_person Rel := by
  intro C O h
  obtain ⟨t, ht⟩ := h.t
  intro v w x
  obtain ⟨r, C1, O1, r1, r2, r3⟩ := opt_person t C O ht v w x
  exact ⟨r, C1, O1, r1, r2, r3.rel⟩
