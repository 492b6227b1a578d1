/-! text: on both sides -/
theorem TextR.keep {k t : Nat} {C C1 : CM} {O O1 : OM} (h : TextR k C O) (hk : k < t) (hC : ∀ j, j ≤ 5 → C1 (422 + 6 * k + j) = C (422 + 6 * k + j)) (h0 : O1.1 450 k = O.1 450 k) (h1 : ∀ c x, 451 ≤ c → c ≤ 455 → x < 24 * t → O1.1 c x = O.1 c x) (h2 : ∀ x, x < 400 * t → O1.1 456 x = O.1 456 x ∧ O1.1 457 x = O.1 457 x) : TextR k C1 O1 := by
  obtain ⟨nc, a1, a2, a3, a4, a5⟩ := h
  have c0 := hC 0 (by decide)
  rw [Nat.add_zero] at c0
  refine ⟨nc, a1, by rw [c0]; exact a2, by rw [h0]; exact a3, fun i hi => ?_, fun L hL => ?_⟩
  · obtain ⟨w, g1, g2, g3, g4, g5⟩ := a4 i hi
    exact ⟨w, g1, by rw [hC 4 (by decide)]; exact g2, by rw [h1 451 _ (by decide) (by decide) (by omega)]; exact g3, fun j hj hu => by rw [hC 5 (by decide), h1 (453 + j) _ (by omega) (by omega) (by omega)]; exact g4 j hj hu, fun e => by rw [h1 453 _ (by decide) (by decide) (by omega)]; exact g5 e⟩
  · rcases a5 L hL with ⟨g1, g2⟩ | ⟨i, a, len, fr, dp, g1, g2, g3, g4, g5, g6⟩
    · exact Or.inl ⟨by rw [hC 3 (by decide), hC 2 (by decide)]; exact g1, fun i hi => by rw [h1 451 _ (by decide) (by decide) (by omega)]; exact g2 i hi⟩
    · obtain ⟨l1, l2, l3, l4, l5, l6, l7, l8, l9, l10⟩ := g5
      exact Or.inr ⟨i, a, len, fr, dp, g1, by rw [h1 451 _ (by decide) (by decide) (by omega)]; exact g2, fun i' x y => by rw [h1 451 _ (by decide) (by decide) (by omega)]; exact g3 i' x y, by rw [h1 452 _ (by decide) (by decide) (by omega)]; exact g4, ⟨l1, l2, l3, by rw [hC 2 (by decide)]; exact l4, by rw [hC 3 (by decide)]; exact l5, by rw [(h2 _ (by omega)).1]; exact l6, l7, l8, l9, fun i hi => by rw [hC 1 (by decide), (h2 _ (by omega)).1, (h2 _ (by omega)).2]; exact l10 i hi⟩, g6⟩
theorem TextR.new {t nc a s L : Nat} {b : Nat → Nat} {C3 C1 : CM} {O3 O1 : OM} (h : CLZ L b s a nc C3 O3) (ht : t < 4) (c6 : C1 (422 + 6 * t) 6 = C3 407 6) (c1 : ∀ k, k < 300 → C1 (422 + 6 * t + 1) k = C3 408 k) (c2 : ∀ k, k < 4 → C1 (422 + 6 * t + 2) k = C3 409 k) (c3 : ∀ k, k < 4 → C1 (422 + 6 * t + 3) k = C3 410 k) (c4 : ∀ k, k < 24 → C1 (422 + 6 * t + 4) k = C3 411 k) (c5 : ∀ k, k < 72 → C1 (422 + 6 * t + 5) k = C3 412 k)
    (o0 : O1.1 450 t = nI nc) (o1 : ∀ j, j < nc → O1.1 451 (24 * t + j) = O3.1 463 j ∧ O1.1 452 (24 * t + j) = nI (400 * t) + O3.1 464 j ∧ O1.1 453 (24 * t + j) = O3.1 465 j ∧ O1.1 454 (24 * t + j) = O3.1 466 j ∧ O1.1 455 (24 * t + j) = O3.1 467 j) (o2 : ∀ j, j < a + nc → O1.1 456 (400 * t + j) = O3.1 468 j ∧ O1.1 457 (400 * t + j) = O3.1 469 j + (if O3.1 468 j = 404 ∨ O3.1 468 j = 409 then nI (400 * t) else 0)) : TextR t C1 O1 := by
  obtain ⟨ts, -, -, ⟨k5, k6, k30, k37⟩, ⟨b1, b2, b3⟩, tcs, tls⟩ := h
  have hle := ts.le
  refine ⟨nc, b1, by rw [c6]; exact k6, o0, fun i hi => ?_, fun q hq => ?_⟩
  · obtain ⟨w, g1, g2, g3, g4, g5⟩ := tcs i hi
    obtain ⟨x1, x2, x3, x4, x5⟩ := o1 i hi
    refine ⟨w, g1, by rw [c4 i (by omega)]; exact g2, by rw [x1]; exact g3, fun j hj hu => ?_, fun e => by rw [x3]; exact g5 e⟩
    rw [c5 _ (by omega), g4 j hj hu]
    have : j = 0 ∨ j = 1 ∨ j = 2 := by omega
    rcases this with rfl | rfl | rfl
    · exact x3.symm
    · exact x4.symm
    · exact x5.symm
  · rcases tls q hq with ⟨g1, g2⟩ | ⟨i, a', len, fr', dp, g1, g2, g3, g4, g5, g6, g7, g8, g9, g10, g11, g12, g13, g14⟩
    · exact Or.inl ⟨by rw [c2 q hq, c3 q hq]; exact g1, fun i hi => by rw [(o1 i hi).1]; exact g2 i hi⟩
    · have ha := b3 (by omega)
      refine Or.inr ⟨i, a', len, 400 * t + fr', dp, g1, by rw [(o1 i g1).1]; exact g2, fun i' x y => by rw [(o1 i' x).1]; exact g3 i' x y, by rw [(o1 i g1).2.1, g4, nI_add], ⟨g5, by omega, by omega, by rw [c2 q hq]; exact g8, by rw [c3 q hq]; exact g9, by rw [Nat.add_assoc (400 * t) fr' len, (o2 _ g7).1]; exact g10, g11, g12, g13, fun j hj => ?_⟩, by omega⟩
      rw [c1 _ (by omega), Nat.add_assoc (400 * t) fr' j, (o2 _ (by omega)).1, (o2 _ (by omega)).2]
      exact (g14 j hj).shift
theorem text_init {C : CM} {O : OM} {L : Nat} (l1 : L ≤ 300) (l2 : C 404 1 = nI L) (l3 : O.1 446 3 = nI L) (l4 : ∀ k, k < L → bytR (C 405 k) (O.1 449 k)) (h4 : ¬ O.1 447 1 = 4) :
    ∃ b C2 O2 s, f_X4_read C = X4_read_l26 (fun C => (X4_read_j57 C)) FU (nI 0) C2 ∧ f_X12_text O = lp FU O2 ∧ CLZ L b s 0 0 C2 O2 ∧ GR C C2 ∧ (∀ c, c ≠ 446 → O2.1 c = O.1 c) ∧ O2.1 446 3 = 0 := by
  obtain ⟨b, hb⟩ : ∃ b : Nat → Nat, ∀ k, k < L → b k < 256 ∧ C 405 k = nI (b k) ∧ O.1 449 k = yb (b k) := by
    refine ⟨fun k => (C 405 k).toNatClampNeg, fun k hk => ?_⟩
    obtain ⟨b', h1, h2, h3⟩ := l4 k hk
    have e : (C 405 k).toNatClampNeg = b' := by rw [h2, nI_clamp (by omega)]
    show (C 405 k).toNatClampNeg < 256 ∧ C 405 k = nI (C 405 k).toNatClampNeg ∧ O.1 449 k = yb (C 405 k).toNatClampNeg
    rw [e]
    exact ⟨h1, h2, h3⟩
  obtain ⟨Oi, hOi⟩ : ∃ Oi, Oi = oup (oup (oup (oup (oup (oup (oup (oup (oup (oup (oup O 446 14 (O.1 446 3)) 446 3 (0 : Int32)) 446 15 (0 : Int32)) 446 19 (0 : Int32)) 446 20 (-1 : Int32)) 446 21 (0 : Int32)) 446 22 (0 : Int32)) 446 25 (0 : Int32)) 446 28 (4 : Int32)) 446 30 (0 : Int32)) 446 37 (0 : Int32) := ⟨_, rfl⟩
  have i14 : Oi.1 446 14 = O.1 446 3 := by rw [hOi, o2n (by decide), o2n (by decide), o2n (by decide), o2n (by decide), o2n (by decide), o2n (by decide), o2n (by decide), o2n (by decide), o2n (by decide), o2n (by decide), o2s]
  have i15 : Oi.1 446 15 = 0 := by rw [hOi, o2n (by decide), o2n (by decide), o2n (by decide), o2n (by decide), o2n (by decide), o2n (by decide), o2n (by decide), o2n (by decide), o2s]
  have i19 : Oi.1 446 19 = 0 := by rw [hOi, o2n (by decide), o2n (by decide), o2n (by decide), o2n (by decide), o2n (by decide), o2n (by decide), o2n (by decide), o2s]
  have i20 : Oi.1 446 20 = -1 := by rw [hOi, o2n (by decide), o2n (by decide), o2n (by decide), o2n (by decide), o2n (by decide), o2n (by decide), o2s]
  have i21 : Oi.1 446 21 = 0 := by rw [hOi, o2n (by decide), o2n (by decide), o2n (by decide), o2n (by decide), o2n (by decide), o2s]
  have i22 : Oi.1 446 22 = 0 := by rw [hOi, o2n (by decide), o2n (by decide), o2n (by decide), o2n (by decide), o2s]
  have i25 : Oi.1 446 25 = 0 := by rw [hOi, o2n (by decide), o2n (by decide), o2n (by decide), o2s]
  have i28 : Oi.1 446 28 = 4 := by rw [hOi, o2n (by decide), o2n (by decide), o2s]
  have i30 : Oi.1 446 30 = 0 := by rw [hOi, o2n (by decide), o2s]
  have i37 : Oi.1 446 37 = 0 := by rw [hOi, o2s]
  have i3 : Oi.1 446 3 = 0 := by rw [hOi, o2n (by decide), o2n (by decide), o2n (by decide), o2n (by decide), o2n (by decide), o2n (by decide), o2n (by decide), o2n (by decide), o2n (by decide), o2s]
  have ic : ∀ c, c ≠ 446 → Oi.1 c = O.1 c := fun c hc => by rw [hOi, oup_ne hc, oup_ne hc, oup_ne hc, oup_ne hc, oup_ne hc, oup_ne hc, oup_ne hc, oup_ne hc, oup_ne hc, oup_ne hc, oup_ne hc]
  obtain ⟨C0, hC0⟩ : ∃ C0, C0 = up2 (up2 (up2 (up2 C 406 1 0) 406 2 (-1)) 407 5 0) 407 6 0 := ⟨_, rfl⟩
  obtain ⟨C1, r1, r2, r3, -⟩ := empty_l 4 0 FU C0 (by decide) (by unfold FU; omega)
  have c0 : ∀ c, c ≠ 406 → c ≠ 407 → C0 c = C c := fun c h1 h2 => by rw [hC0, up2_ne h2, up2_ne h2, up2_ne h1, up2_ne h1]
  have k1 : ∀ c, c ≠ 404 → c ≠ 406 → c ≠ 407 → c ≠ 409 → c ≠ 410 → (up2 C1 404 5 0) c = C c := fun c h0 h1 h2 h3 h4 => by rw [up2_ne h0, r2 c h3 h4, c0 c h1 h2]
  have hCB : CB L b (up2 C1 404 5 0) := ⟨l1, by rw [u2n (by decide), r2 404 (by decide) (by decide), c0 404 (by decide) (by decide)]; exact l2, fun k hk => ⟨(hb k hk).1, by rw [k1 405 (by decide) (by decide) (by decide) (by decide) (by decide)]; exact (hb k hk).2.1⟩⟩
  have hOB : OB L b Oi := ⟨l1, by rw [i14]; exact l3, fun k hk => ⟨(hb k hk).1, by rw [ic 449 (by decide)]; exact (hb k hk).2.2⟩⟩
  obtain ⟨C2, O2, s, e, x1, x2, x5, x6, y1, y2, y3, y4, y5, y6, y7, y8, y9⟩ := next_both (a := 0) hCB hOB (by rw [u2s]; rfl) (by rw [i15]; rfl) (Nat.zero_le _)
  have o2 : ∀ k, (k < 15 ∨ 18 < k) → O2.1 446 k = Oi.1 446 k := x6.2.1
  have m406 : C2 406 = C0 406 := by rw [x5.1 406 (by decide), up2_ne (by decide), r2 406 (by decide) (by decide)]
  have m407 : C2 407 = C0 407 := by rw [x5.1 407 (by decide), up2_ne (by decide), r2 407 (by decide) (by decide)]
  refine ⟨b, C2, O2, s, ?_, ?_, ⟨⟨⟨l1, by rw [x5.2]; exact hCB.2.1, fun k hk => by rw [x5.1 405 (by decide)]; exact hCB.2.2 k hk⟩, ⟨l1, by rw [o2 14 (by decide)]; exact hOB.2.1, fun k hk => by rw [x6.1 449 (by decide)]; exact hOB.2.2 k hk⟩, e, y2, y3, y4, y5, y6, y7, y8, y9⟩, ⟨?_, ?_, ?_, ?_⟩, ⟨?_, ?_, ?_, ?_⟩, ⟨?_, ?_, ?_, ?_⟩, ⟨by decide, Nat.zero_le _, fun h => absurd h (by decide)⟩, fun i hi => absurd hi (by omega), fun q hq => Or.inl ⟨?_, fun i hi => absurd hi (by omega)⟩⟩, ⟨fun c hc => ?_, ?_, ?_⟩, fun c hc => by rw [x6.1 c hc, ic c hc], by rw [o2 3 (by decide)]; exact i3⟩
  · unfold f_X4_read f_X6_empty f_X8_rewind
    rw [← hC0, show X6_empty_l12 407 FU 0 C0 = some C1 from r1, bnd_s, x1, bnd_s, bnd_s]
    rfl
  · unfold f_X12_text
    rw [if_neg h4, ← hOi, x2, bnd_s]
    rfl
  · rw [m406, hC0, up2_ne (by decide), up2_ne (by decide), u2n (by decide), u2s]
  · rw [m406, hC0, up2_ne (by decide), up2_ne (by decide), u2s]
  · rw [o2 19 (by decide)]; exact i19
  · rw [o2 20 (by decide)]; exact i20
  · rw [o2 28 (by decide)]; exact i28
  · rw [o2 21 (by decide)]; exact i21
  · rw [o2 22 (by decide)]; exact i22
  · rw [o2 25 (by decide)]; exact i25
  · rw [m407, hC0, u2n (by decide), u2s]; rfl
  · rw [m407, hC0, u2s]; rfl
  · rw [o2 30 (by decide)]; exact i30
  · rw [o2 37 (by decide)]; exact i37
  · rw [x5.1 409 (by decide), x5.1 410 (by decide), up2_ne (by decide), up2_ne (by decide), (r3 q (Nat.zero_le _) hq).1, (r3 q (Nat.zero_le _) hq).2]
  · rw [x5.1 c (by omega), k1 c (by omega) (by omega) (by omega) (by omega) (by omega)]
  · rw [x5.2, u2n (by decide), r2 404 (by decide) (by decide), c0 404 (by decide) (by decide)]
  · rw [x5.1 405 (by decide), k1 405 (by decide) (by decide) (by decide) (by decide) (by decide)]
theorem RW.text {n t m e : Nat} {C C1 : CM} {A A1 : Nat → Int32} (h : RW 5 n t m e C A) (ht : t < 4) (h5 : C1 5 2 = nI (t + 1)) (h5n : ∀ k, k ≠ 2 → C1 5 k = C 5 k) (hc : ∀ c, c ≠ 5 → c ≤ 193 → C1 c = C c) (hA1 : A1 1 = nI (t + 1)) (hA : ∀ k, k ≠ 1 → A1 k = A k) : RW 5 n (t + 1) m e C1 A1 := by
  obtain ⟨⟨a1, a2, a3, a4⟩, ⟨b1, b2, b3, b4, b5, b6, b7⟩, ⟨c1, c2⟩, d, f, g, j⟩ := h
  refine ⟨⟨a1, by omega, a3, a4⟩, ⟨by rw [hc (5 + 1) (by decide) (by decide)]; exact b1, by rw [hA 0 (by decide)]; exact b2, h5, hA1, by rw [h5n 4 (by decide)]; exact b5, by rw [hA 3 (by decide)]; exact b6, by rw [h5n 6 (by decide)]; exact b7⟩, ⟨by rw [h5n 3 (by decide), hA 2 (by decide)]; exact c1, ?_⟩, fun p hp => ?_, fun k hk => ?_, ?_, fun i hi => ?_⟩
  · rw [hA 2 (by decide)]
    rcases c2 with c2 | ⟨j, j1, j2⟩
    · exact Or.inl c2
    · exact Or.inr ⟨j, by omega, j2⟩
  · rw [hc 2 (by decide) (by decide), hc 3 (by decide) (by decide), hc 4 (by decide) (by decide), hA (10 + p) (by omega), hA (17 + p) (by omega)]
    exact d p hp
  · rw [hc (5 + 7) (by decide) (by decide), hA (24 + k) (by omega)]
    exact f k hk
  · exact g.mono (fun k hk => hc _ (by omega) (by omega)) (fun k hk => hA _ (by omega))
  · have hst := stp_in 5 e i
    exact (j i hi).mono (fun k hk => hc _ (by omega) (by omega)) (fun p hp => ⟨by rw [hc 3 (by decide) (by decide)], by rw [hc 4 (by decide) (by decide)]⟩) a1 (fun k hk => hA _ (by omega))
theorem lp_go {A B : Nat} {O O1 : OM} (h : RC A O B O1) (hA : A ≤ 9000) : ∃ n, lp FU O = lp (n + 1) O1 := by
  obtain ⟨m, h1, h2⟩ := h
  refine ⟨9999 - m, ?_⟩
  rw [← h2 (9999 - m + 1), show 9999 - m + 1 + m = FU by unfold FU; omega]
