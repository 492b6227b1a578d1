theorem WOK.congr {w w' : Nat → Int32} (h : WOK w) (he : ∀ k, k < 73 → w' k = w k) (hb : ∃ k, k ≤ 30 ∧ w' 73 = nI k) : WOK w' := by
  obtain ⟨a1, a2, a3, a4, a5, a6, a7, a8, a9⟩ := h
  exact ⟨fun p hp => by rw [he _ (by omega)]; exact a1 p hp, fun p hp => by rw [he _ (by omega)]; exact a2 p hp, fun p hp => by rw [he _ (by omega)]; exact a3 p hp, fun p hp => by rw [he _ (by omega)]; exact a4 p hp, fun p hp => by rw [he _ (by omega)]; exact a5 p hp, by rw [he _ (by omega)]; exact a6, by rw [he _ (by omega)]; exact a7, by rw [he _ (by omega)]; exact a8, hb⟩
theorem WOK.zero {w w' : Nat → Int32} {a b : Nat} (h : WOK w) (ha : 21 ≤ a) (hb : b ≤ 70) (he : ∀ j, w' j = if a ≤ j ∧ j < b then 0 else w j) : WOK w' := by
  obtain ⟨a1, a2, a3, a4, a5, a6, a7, a8, a9⟩ := h
  refine ⟨fun p hp => by rw [he, if_neg (by omega)]; exact a1 p hp, fun p hp => by rw [he, if_neg (by omega)]; exact a2 p hp, fun p hp => by rw [he, if_neg (by omega)]; exact a3 p hp, fun p hp => ?_, fun p hp => ?_, by rw [he, if_neg (by omega)]; exact a6, by rw [he, if_neg (by omega)]; exact a7, by rw [he, if_neg (by omega)]; exact a8, by rw [he, if_neg (by omega)]; exact a9⟩
  · rw [he]
    by_cases c : a ≤ 21 + p ∧ 21 + p < b
    · rw [if_pos c]; exact ⟨0, by decide, rfl⟩
    · rw [if_neg c]; exact a4 p hp
  · rw [he]
    by_cases c : a ≤ 21 + 8 * p ∧ 21 + 8 * p < b
    · rw [if_pos c]
    · rw [if_neg c]; exact a5 p hp
theorem bkN_1 {m : Nat} {f : Nat → Int32} {a b c : Int32} (hm : m < 30) : bkN m f a b c 1 = if m = 0 then b else f 1 := by
  unfold bkN upd
  simp only [if_pos hm]
  by_cases c : m = 0
  · subst c; rfl
  · rw [if_neg (by omega), if_neg (by omega), if_neg (by omega), if_neg c]
theorem ruin_step {q n p m : Nat} {C : CM} {O : OM} {S v : Int32} (h : TW q n C O) (hb : BR q n m C O) (h1 : p < n) (hS : f_X7_owesTogether (stI q) (nI p) C = some S) (hz : ¬ zp n (O.1 470) p) (rc : Int32 → Int32 → OM → Option (Int32 × OM)) :
    ∃ C1 O1, f_X7_ruins (stI q) (nI p) C = some C1 ∧ X12_dayBegins_l150 (fun v1 v2 v3 O => (X12_dayBegins_j179 rc v1 v2 v3 O)) FU v (nI p) S (nI 0) O = rc (v + 1) (nI (p + 1)) O1 ∧ TW q n C1 O1 ∧ FrT q C C1 ∧ FrTO O O1 ∧ BR q n (m + 1) C1 O1 ∧ ZK O O1 := by
  have h7 := h.1.2.1.1
  obtain ⟨hx, hv, hw⟩ := h
  obtain ⟨a1, a2, a3, a4, a5, a6, a7⟩ := hv
  -- the class
  obtain ⟨bc, hbc, ebc, hbq⟩ : ∃ bc, bc ≤ 30 ∧ C (stI q) 4 = nI bc ∧ (q ≠ 0 → bc = m ∧ m ≤ 7) := by
    rcases hb with ⟨h0, e1, -⟩ | ⟨h0, e1, e2, -⟩
    · obtain ⟨k, hk, ek⟩ := hw.2.2.2.2.2.2.2.2
      subst h0
      exact ⟨k, hk, by show C 6 4 = _; rw [e1, ek], fun h => absurd rfl h⟩
    · have := zc_le n (O.1 470) n
      exact ⟨m, by omega, e1, fun _ => ⟨rfl, by omega⟩⟩
  obtain ⟨Cw, w1, w2, w3, w4, w5⟩ := writeC (x := nI p) (y := S) hbc ebc
  have hw0 : Cw (stI q) 0 = nI n := (w5 0 (by decide)).trans hx.1
  obtain ⟨Cz, z1, z2, z3⟩ := zeroC (s := stI q) h7 h1 n 0 FU (up2 Cw (stI q + 3) p (nI 3)) (by omega) (by unfold FU; omega) (by rw [up2_ne (by omega)]; exact hw0)
  -- the reference
  obtain ⟨bo, hbo, ebo⟩ := hw.2.2.2.2.2.2.2.2
  obtain ⟨Oz, y1, y2, y3⟩ := zeroO (v1 := v) (v3 := S) (k179 := fun v1 v2 v3 O => (X12_dayBegins_j179 rc v1 v2 v3 O)) h7 h1 n 0 FU O (by omega) (by unfold FU; omega) hx.2.1.2.1
  have i14 : (14 : Int32) + nI p = nI (14 + p) := nI_add 14 p
  obtain ⟨Om, hOm⟩ : ∃ Om, Om = oup Oz 470 (14 + p) (nI 3) := ⟨_, rfl⟩
  have m1 : ∀ k, k ≠ 14 + p → Om.1 470 k = Oz.1 470 k := fun k hk => by rw [hOm, oup_eq, pk_un hk]
  have m2 : Om.1 470 (14 + p) = nI 3 := by rw [hOm, oup_eq, pk_us]
  have m3 : ∀ c, c ≠ 470 → Om.1 c = O.1 c := fun c hc => by rw [hOm, oup_ne hc]; exact y2 c hc
  obtain ⟨Ow, u1, u2, u3, u4, u5⟩ := writeO (x := nI p) (y := S) hbo (O := Om) (by rw [m1 _ (by omega), y3, if_neg (by omega)]; exact ebo)
  obtain ⟨f, hf⟩ : ∃ f, f = (if Ow.1 446 43 = -1 then nI p else Ow.1 446 43) := ⟨_, rfl⟩
  obtain ⟨O1, hO1⟩ : ∃ O1, O1 = oup Ow 446 43 f := ⟨_, rfl⟩
  have ro : X12_dayBegins_l150 (fun v1 v2 v3 O => (X12_dayBegins_j179 rc v1 v2 v3 O)) FU v (nI p) S (nI 0) O = rc (v + 1) (nI (p + 1)) O1 := by
    rw [y1]
    simp only [X12_dayBegins_j179, i14, gd_p (inbN (show 14 + p < 164 by omega) (by decide)), nI_clamp (show 14 + p < 2 ^ 31 by omega)]
    rw [show oup Oz 470 (14 + p) 3 = Om from hOm.symm, u1, bnd_s, hO1, hf]
    simp only [X12_dayBegins_j212, X12_dayBegins_j218, nI_1]
    by_cases c : Ow.1 446 43 = -1
    · rw [if_pos c, if_pos c]
    · rw [if_neg c, if_neg c]
  have wl : ∀ k, k < 73 → O1.1 470 k = Om.1 470 k := fun k hk => by rw [hO1, oup_ne (by decide)]; exact u4 k hk
  have wb : ∀ k, O1.1 470 k = Ow.1 470 k := fun k => by rw [hO1, oup_ne (by decide)]
  have hcell : ∀ c, c < stI q ∨ stI q + 5 < c → Cz c = C c := fun c hc => by rw [z2 c (by omega), up2_ne (by omega)]; exact w4 c (by omega) (by omega)
  have hs0 : ∀ k, k ≠ 4 → Cz (stI q) k = C (stI q) k := fun k hk => by rw [z2 _ (by omega), up2_ne (by omega)]; exact w5 k hk
  have hFT : FrT q C Cz := ⟨fun c hc _ _ _ => hcell c hc, fun k _ => by rw [hcell _ (by have := st_la3 (q := q); omega)], hs0 0 (by decide)⟩
  have hFO : FrTO O O1 := by
    refine ⟨fun c c1 c2 c3 => ?_, fun k hk => ?_⟩
    · rw [hO1, oup_ne c3]; exact (u5 c c1).trans (m3 c c1)
    · rw [hO1, oup_eq, pk_un hk, u5 446 (by decide), m3 446 (by decide)]
  have r4 : Cz (stI q + 1) = C (stI q + 1) := by rw [z2 _ (by omega), up2_ne (by omega)]; exact w4 _ (by omega) (by omega)
  have r5 : Cz (stI q + 2) = C (stI q + 2) := by rw [z2 _ (by omega), up2_ne (by omega)]; exact w4 _ (by omega) (by omega)
  have r6 : Cz (stI q + 3) = upd (C (stI q + 3)) p (nI 3) := by rw [z2 _ (by omega), up2_eq, w4 _ (by omega) (by omega)]
  have r7 : ∀ j, Cz (stI q + 4) j = if 7 * p + 0 ≤ j ∧ j < 7 * p + n ∧ j ≠ 8 * p then 0 else C (stI q + 4) j := fun j => by rw [z3, up2_ne (by omega), w4 _ (by omega) (by omega)]
  have r8 : Cz (stI q + 5) = Cw (stI q + 5) := by rw [z2 _ (by omega), up2_ne (by omega)]
  have r9 : Cz (stI q) 4 = nI (min bc 29 + 1) := by rw [z2 _ (by omega), up2_ne (by omega)]; exact w2
  have hVW : VW (stI q) Cz (O1.1 470) := by
    refine ⟨?_, ?_, ?_, fun j hj => ?_, fun j hj => ?_, fun j hj => ?_, fun j hj => ?_⟩
    · rw [hs0 1 (by decide), wl _ (by decide), m1 _ (by omega), y3, if_neg (by omega)]; exact a1
    · rw [hs0 2 (by decide), wl _ (by decide), m1 _ (by omega), y3, if_neg (by omega)]; exact a2
    · rw [hs0 3 (by decide), wl _ (by decide), m1 _ (by omega), y3, if_neg (by omega)]; exact a3
    · rw [r4, wl _ (by omega), m1 _ (by omega), y3, if_neg (by omega)]; exact a4 j hj
    · rw [r5, wl _ (by omega), m1 _ (by omega), y3, if_neg (by omega)]; exact a5 j hj
    · rw [r6]
      by_cases e : j = p
      · rw [e, pk_us, wl _ (by omega), m2]
      · rw [pk_un e, wl _ (by omega), m1 _ (by omega), y3, if_neg (by omega)]; exact a6 j hj
    · rw [r7, wl _ (by omega), m1 _ (by omega), y3]
      by_cases c : 21 + (7 * p + 0) ≤ 21 + j ∧ 21 + j < 21 + (7 * p + n)
      · rw [if_pos c]
        by_cases c2 : j = 8 * p
        · rw [if_neg (by omega), a7 j hj, c2]; exact hw.2.2.2.2.1 p (by omega)
        · rw [if_pos (by omega)]
      · rw [if_neg c, if_neg (by omega)]; exact a7 j hj
  have hWK : WOK (O1.1 470) := by
    have k1 : WOK (Oz.1 470) := hw.zero (by omega) (by omega) y3
    have k2 : WOK (Om.1 470) := by rw [hOm, oup_eq]; exact k1.u (by omega) (Or.inl fun j hj => by omega)
    exact k2.congr wl ⟨min bo 29 + 1, by omega, by rw [wb]; exact u2⟩
  have hTW : TW q n Cz O1 := ⟨hx.mono hFT hFO, hVW, hWK⟩
  have rcl : f_X7_ruins (stI q) (nI p) C = some Cz := by
    unfold f_X7_ruins
    rw [hasY hx.1 h7 h1, if_neg (by decide), hS, bnd_s, w1, bnd_s, gd_p (inbN (by omega) (by decide)), nI_clamp (by omega)]
    exact z1
  have hZK : ZK O O1 := by
    refine ⟨fun j hj e => ?_, ?_, ?_⟩
    · rw [wl _ (by omega), m1 _ (by omega), y3]
      split
      · rfl
      · exact e
    · rw [wl _ (by omega), m1 _ (by omega), y3, if_neg (by omega)]
    · rw [wl _ (by omega), m1 _ (by omega), y3, if_neg (by omega)]
  refine ⟨Cz, O1, rcl, ro, hTW, hFT, hFO, ?_, hZK⟩
  rcases hb with ⟨h0, e1, e2⟩ | ⟨h0, e1, e2, e3, e4⟩
  · subst h0
    have eb : bc = bo := (nI_eq (by omega) (by omega)).mp (ebc.symm.trans (e1.trans ebo))
    refine Or.inl ⟨rfl, ?_, fun j hj => ?_⟩
    · show Cz (stI 0) 4 = _
      rw [r9, wb, u2, eb]
    · show Cz (stI 0 + 5) j = _
      rw [r8, w3 j hj, wb, u3 j hj, eb, a1, m1 70 (by omega), y3 70, if_neg (by omega)]
      refine bkN_congr (fun i hi => ?_) hj
      rw [m1 _ (by omega), y3, if_neg (by omega)]
      exact e2 i hi
  · obtain ⟨g1, g2⟩ := hbq h0
    subst g1
    have hz1 : zp n (O1.1 470) p := fun r hr => by rw [wl _ (by omega), m1 _ (by omega), y3, if_pos (by omega)]
    have hzm : ∀ i, i < n → zp n (O.1 470) i → zp n (O1.1 470) i := fun i hi hzi r hr => by
      rw [wl _ (by omega), m1 _ (by omega), y3]
      split
      · rfl
      · exact hzi r hr
    have hmore := zc_more hz hz1 n h1 hzm
    refine Or.inr ⟨h0, by rw [r9, show min bc 29 = bc by omega], by omega, fun e => absurd e (by omega), fun _ => ?_⟩
    have o43 : O1.1 446 43 = f := by rw [hO1, oup_eq, pk_us]
    have w43 : Ow.1 446 43 = O.1 446 43 := by rw [u5 446 (by decide), m3 446 (by decide)]
    have c1 : Cz (stI q + 5) 1 = if bc = 0 then nI p else C (stI q + 5) 1 := by rw [r8, w3 1 (by decide)]; exact bkN_1 (by omega)
    by_cases c : bc = 0
    · refine ⟨p, by omega, ?_, by rw [c1, if_pos c]⟩
      rw [o43, hf, w43, if_pos (e3 c)]
    · obtain ⟨who, hwho, o1, o2⟩ := e4 (by omega)
      refine ⟨who, hwho, ?_, by rw [c1, if_neg c]; exact o2⟩
      rw [o43, hf, w43, o1, if_neg (fun e => frN1 (fr := who) (by omega) e)]
