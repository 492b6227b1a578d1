theorem say2 {q n L p r gv sc a len fr : Nat} {C : CM} {O : OM} {dp : Nat → List Bool} (hL : L < 4) (hL3 : L ≠ 3) (hcx : C (stI q) 0 = nI n) (hp : PPL n C (O.1 447)) (hc : C (laI q) 5 = nI sc) (hsc : isSc sc) (hl : LawC sc C O L a len fr dp) (hv : VW (stI q) C (O.1 470)) (hw : WOK (O.1 470)) (h1 : p < n) (h2 : r < n) (hg : gv ≤ 9999) :
    ∃ C1 O1, f_X1_name q (nI p) (nI r) (nI gv) C = some C1 ∧ f_X12_namesOf (nI p) (nI r) O = some O1 ∧ FrO1 471 O O1 ∧ ∀ O1', FrO1 471 O1 O1' → (∀ t, t < 9 → O1'.1 471 t = O1.1 471 t) → (mayL L 9 = true → O1'.1 471 9 = nI gv) →
      ∃ C2 O2 x, f_X1_run q (nI (128 + L)) C1 = some (x, C2) ∧ f_X12_saysOf (nI fr) O1' = some (x.toInt64, O2) ∧ FrL q C C2 ∧ FrO1 471 O O2 := by
  have h7 : n ≤ 7 := hp.1
  have hq1 : stI q + 1 ≠ laI q + 1 ∧ stI q + 4 ≠ laI q + 1 ∧ 2 ≠ laI q + 1 := by unfold stI laI; split <;> omega
  have cn : ∀ C1, FrN q C C1 → C1 (stI q) 0 = nI n := fun C1 hf => by rw [hf _ st_la]; exact hcx
  obtain ⟨C1, n1, n2, c0, c1, c2, c3, c4, c5, c6, c7, c8, c9⟩ := name_ok (q := q) (C := C) (v1 := nI p) (v2 := nI r) (v3 := nI gv) (r1 := C (stI q + 1) p) (r2 := C 2 p) (r3 := C 2 r) (r4 := C (stI q + 4) (7 * p + r)) (r5 := C (stI q + 4) (7 * r + p))
    (fun C1 hf => by rw [leftY (cn C1 hf) h7 h1, hf _ hq1.1]) (fun C1 hf => by rw [ageY (by omega), hf _ hq1.2.2]) (fun C1 hf => by rw [ageY (by omega), hf _ hq1.2.2])
    (fun C1 hf => by rw [owedY (cn C1 hf) h7 h1 h2, hf _ hq1.2.1]) (fun C1 hf => by rw [owedY (cn C1 hf) h7 h2 h1, hf _ hq1.2.1])
  obtain ⟨O1, m1, m2, o0, o1, o2, o3, o4, o5, o6, o7, o8⟩ := namesOfR (O := O) (p := p) (r := r) (by omega) (by omega)
  refine ⟨C1, O1, n1, m1, m2, fun O1' f1 f2 f3 => ?_⟩
  have hs' : sc + 1 ≠ laI q + 1 ∧ sc + 2 ≠ laI q + 1 ∧ sc + 3 ≠ laI q + 1 := by
    have hsc' : sc = 383 ∨ sc = 407 ∨ 422 ≤ sc := by rcases hsc with h | h <;> omega
    exact ⟨(la_sc hsc' 1 (by omega)).2.2, (la_sc hsc' 2 (by omega)).2.2, (la_sc hsc' 3 (by omega)).2.2⟩
  have b2 := m2.trans f1
  have hnm := names_VR (C' := C1) (O' := O1') (L := L) hp hv hw h1 h2 hg f3 c0 c1 c2 c3 c4 c9 ((f2 0 (by decide)).trans o0) ((f2 1 (by decide)).trans o1) ((f2 2 (by decide)).trans o2) ((f2 3 (by decide)).trans o3) ((f2 4 (by decide)).trans o4)
    (fun _ => ⟨c5, c6, c7, c8, (f2 5 (by decide)).trans o5, (f2 6 (by decide)).trans o6, (f2 7 (by decide)).trans o7, (f2 8 (by decide)).trans o8⟩)
  have hl' := hl.mono (C1 := C1) (O1 := O1') (n2 _ hs'.1) (n2 _ hs'.2.1) (n2 _ hs'.2.2) (b2 456 (by decide)) (b2 457 (by decide))
  obtain ⟨C2, O2, x, y, r1, r2, r3, r4, r5⟩ := law_run (n := n) hL (by rw [n2 (laI q) (by omega)]; exact hc) hsc hl' hnm (cn C1 n2) h7 (by rw [b2 447 (by decide)]; exact hp.2.1) (fun i hi => by rw [n2 _ hq1.2.1, b2 470 (by decide)]; exact hv.2.2.2.2.2.2 i hi) (by rw [b2 470 (by decide)]; exact hw)
  exact ⟨C2, O2, x, r1, by rw [r2, r5.1], (FrL.ofN n2).trans (FrL.ofS r3), b2.trans (FrO1.of r4)⟩
theorem lawN {sc L : Nat} {C : CM} (h : C (sc + 3) L = C (sc + 2) L) : (if C (sc + 3) L ≤ C (sc + 2) L then (0 : Int32) else 1) = 0 := by rw [h, if_pos (Int32.le_refl _)]
theorem lawY {sc L a len : Nat} {C : CM} (h1 : C (sc + 2) L = nI a) (h2 : C (sc + 3) L = nI (a + len)) (h0 : 0 < len) (hl : a + len ≤ 299) : (if C (sc + 3) L ≤ C (sc + 2) L then (0 : Int32) else 1) = 1 := by rw [h1, h2, if_neg (nI_ge (by omega) (by omega))]
theorem size_both {q n p r : Nat} {C : CM} {O : OM} (hx : CX q n C O) (hv : VW (stI q) C (O.1 470)) (hw : WOK (O.1 470)) (h1 : p < n) (h2 : r < n) :
    ∃ k C2 O2, 1 ≤ k ∧ k ≤ 99 ∧ f_X1_sizeOf q (nI p) (nI r) C = some (nI k, C2) ∧ f_X12_sizeOf (nI p) (nI r) O = some (nI k, O2) ∧ FrL q C C2 ∧ FrO1 471 O O2 := by
  obtain ⟨hcx, hp, sc, hc, hsc, hall⟩ := hx
  have h7 : n ≤ 7 := hp.1
  have hd : 21 + 7 * p + r = 21 + (7 * p + r) := by omega
  unfold f_X1_sizeOf f_X12_sizeOf
  rw [owedY hcx h7 h1 h2, bnd_s]
  have hh := hasLaw (q := q) (L := 0) hc hsc (by decide)
  rw [show (128 : Int32) = nI (128 + 0) from rfl, hh, bnd_s]
  rcases hall 0 (by decide) with ⟨e1, e2⟩ | ⟨a, len, fr, dp, e1, hl⟩
  · obtain ⟨O1, m1, m2, -⟩ := namesOfR (O := O) (p := p) (r := r) (by omega) (by omega)
    rw [lawN e1, if_pos rfl, show f_X12_ordersOf 0 O = some (-1) from e2, bnd_s, m1, bnd_s, if_pos rfl, debtN, gd_p (inbN (by omega) (by decide)), nI_clamp (by omega), m2 470 (by decide), hd, ← hv.2.2.2.2.2.2 (7 * p + r) (by omega)]
    obtain ⟨k, k1, k2, k3, k4⟩ := clampH (x := C (stI q + 4) (7 * p + r)) (a := 1) (b := 99) (by decide) (by decide)
    exact ⟨k, C, O1, k1, k2, congrArg (fun z => some (z, C)) k3, congrArg (fun z => some (z, O1)) k4, FrL.refl, m2⟩
  · obtain ⟨C1, O1, n1, m1, m2, hrun⟩ := say2 (L := 0) (gv := 0) (by decide) (by decide) hcx hp hc hsc hl hv hw h1 h2 (by decide)
    obtain ⟨C2, O2, x, r1, r2, r3, r4⟩ := hrun O1 FrO1.refl (fun _ _ => rfl) (fun e => by cases e)
    have hne : ¬ nI fr = (-1 : Int32) := by
      intro e
      have := congrArg Int32.toInt e
      rw [nI_toInt (by have := hl.2.2.1; omega), show (-1 : Int32).toInt = -1 from rfl] at this
      omega
    rw [lawY hl.2.2.2.1 hl.2.2.2.2.1 hl.1 hl.2.1, if_neg (by decide), show f_X1_name q (nI p) (nI r) 0 C = some C1 from n1, bnd_s, r1, bnd2_s, show f_X12_ordersOf 0 O = some (nI fr) from e1, bnd_s, m1, bnd_s, if_neg hne, r2, bnd2_s]
    obtain ⟨k, k1, k2, k3, k4⟩ := clampH (x := x) (a := 1) (b := 99) (by decide) (by decide)
    exact ⟨k, C2, O2, k1, k2, congrArg (fun z => some (z, C2)) k3, congrArg (fun z => some (z, O2)) k4, r3, r4⟩
