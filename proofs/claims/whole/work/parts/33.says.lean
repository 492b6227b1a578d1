theorem frN1 {fr : Nat} (h : fr < 1600) : ¬ nI fr = (-1 : Int32) := by
  intro e
  have := congrArg Int32.toInt e
  rw [nI_toInt (by omega), show (-1 : Int32).toInt = -1 from rfl] at this
  omega
theorem more_both {q n p r gv : Nat} {C : CM} {O : OM} (hx : CX q n C O) (hv : VW (stI q) C (O.1 470)) (hw : WOK (O.1 470)) (h1 : p < n) (h2 : r < n) (hg : gv ≤ 9999) :
    ∃ k C2 O2, k ≤ 9999 ∧ f_X1_moreOf q (nI p) (nI r) (nI gv) C = some (nI k, C2) ∧ f_X12_moreOf (nI p) (nI r) (nI gv) O = some (nI k, O2) ∧ FrL q C C2 ∧ FrO1 471 O O2 := by
  obtain ⟨hcx, hp, sc, hc, hsc, hall⟩ := hx
  have h7 : n ≤ 7 := hp.1
  unfold f_X1_moreOf f_X12_moreOf
  have hh := hasLaw (q := q) (L := 1) hc hsc (by decide)
  rw [show (129 : Int32) = nI (128 + 1) from rfl, hh, bnd_s]
  rcases hall 1 (by decide) with ⟨e1, e2⟩ | ⟨a, len, fr, dp, e1, hl⟩
  · obtain ⟨O1, m1, m2, -⟩ := namesOfR (O := O) (p := p) (r := r) (by omega) (by omega)
    rw [lawN e1, if_pos rfl, show f_X12_ordersOf 1 O = some (-1) from e2, bnd_s, m1, bnd_s, if_pos rfl]
    obtain ⟨k, k1, k2, k3, k4⟩ := clampH (x := nI gv + nI gv / 10 + 1) (a := 0) (b := 9999) (by decide) (by decide)
    exact ⟨k, C, oup O1 471 9 (nI gv), k2, congrArg (fun z => some (z, C)) k3, congrArg (fun z => some (z, oup O1 471 9 (nI gv))) k4, FrL.refl, fun c hc => (oup_ne hc).trans (m2 c hc)⟩
  · obtain ⟨C1, O1, n1, m1, m2, hrun⟩ := say2 (L := 1) (gv := gv) (by decide) (by decide) hcx hp hc hsc hl hv hw h1 h2 hg
    obtain ⟨C2, O2, x, r1, r2, r3, r4⟩ := hrun (oup O1 471 9 (nI gv)) (fun c hc => oup_ne hc) (fun t ht => by rw [oup_eq, pk_un (by omega)]) (fun e => by rw [oup_eq, pk_us])
    rw [lawY hl.2.2.2.1 hl.2.2.2.2.1 hl.1 hl.2.1, if_neg (by decide), n1, bnd_s, r1, bnd2_s, show f_X12_ordersOf 1 O = some (nI fr) from e1, bnd_s, m1, bnd_s, if_neg (frN1 (by have := hl.2.2.1; omega)), r2, bnd2_s]
    obtain ⟨k, k1, k2, k3, k4⟩ := clampH (x := x) (a := 0) (b := 9999) (by decide) (by decide)
    exact ⟨k, C2, O2, k2, congrArg (fun z => some (z, C2)) k3, congrArg (fun z => some (z, O2)) k4, r3, r4⟩
theorem late_both {q n p r : Nat} {C : CM} {O : OM} (hx : CX q n C O) (hv : VW (stI q) C (O.1 470)) (hw : WOK (O.1 470)) (h1 : p < n) (h2 : r < n) :
    ∃ k C2 O2, k ≤ 9999 ∧ f_X1_lateOf q (nI p) (nI r) C = some (nI k, C2) ∧ f_X12_lateOf (nI p) (nI r) O = some (nI k, O2) ∧ FrL q C C2 ∧ FrO1 471 O O2 := by
  obtain ⟨hcx, hp, sc, hc, hsc, hall⟩ := hx
  have h7 : n ≤ 7 := hp.1
  have hd : 21 + 7 * p + r = 21 + (7 * p + r) := by omega
  unfold f_X1_lateOf f_X12_lateOf
  rw [owedY hcx h7 h1 h2, bnd_s]
  have hh := hasLaw (q := q) (L := 2) hc hsc (by decide)
  rw [show (130 : Int32) = nI (128 + 2) from rfl, hh, bnd_s]
  rcases hall 2 (by decide) with ⟨e1, e2⟩ | ⟨a, len, fr, dp, e1, hl⟩
  · obtain ⟨O1, m1, m2, -⟩ := namesOfR (O := O) (p := p) (r := r) (by omega) (by omega)
    rw [lawN e1, if_pos rfl, show f_X12_ordersOf (2 : Int32) O = some (-1) from e2, bnd_s, m1, bnd_s, if_pos rfl, debtN, gd_p (inbN (by omega) (by decide)), nI_clamp (by omega), m2 470 (by decide), hd, ← hv.2.2.2.2.2.2 (7 * p + r) (by omega)]
    obtain ⟨k, k1, k2, k3, k4⟩ := clampH (x := 2 * C (stI q + 4) (7 * p + r)) (a := 0) (b := 9999) (by decide) (by decide)
    exact ⟨k, C, O1, k2, congrArg (fun z => some (z, C)) k3, congrArg (fun z => some (z, O1)) k4, FrL.refl, m2⟩
  · obtain ⟨C1, O1, n1, m1, m2, hrun⟩ := say2 (L := 2) (gv := 0) (by decide) (by decide) hcx hp hc hsc hl hv hw h1 h2 (by decide)
    obtain ⟨C2, O2, x, r1, r2, r3, r4⟩ := hrun O1 FrO1.refl (fun _ _ => rfl) (fun e => by cases e)
    rw [lawY hl.2.2.2.1 hl.2.2.2.2.1 hl.1 hl.2.1, if_neg (by decide), show f_X1_name q (nI p) (nI r) 0 C = some C1 from n1, bnd_s, r1, bnd2_s, show f_X12_ordersOf (2 : Int32) O = some (nI fr) from e1, bnd_s, m1, bnd_s, if_neg (frN1 (by have := hl.2.2.1; omega)), r2, bnd2_s]
    obtain ⟨k, k1, k2, k3, k4⟩ := clampH (x := x) (a := 0) (b := 9999) (by decide) (by decide)
    exact ⟨k, C2, O2, k2, congrArg (fun z => some (z, C2)) k3, congrArg (fun z => some (z, O2)) k4, r3, r4⟩
theorem ageM1 {C : CM} : f_X3_ageOf (-1 : Int32) C = some 0 := rfl
theorem ruin_both {q n p : Nat} {C : CM} {O : OM} (hx : CX q n C O) (hv : VW (stI q) C (O.1 470)) (hw : WOK (O.1 470)) (h1 : p < n) :
    ∃ k C2 O2, k ≤ 9999 ∧ f_X1_ruinOf q (nI p) C = some (nI k, C2) ∧ f_X12_ruinOf (nI p) O = some (nI k, O2) ∧ FrL q C C2 ∧ FrO1 471 O O2 := by
  obtain ⟨hcx, hp, sc, hc, hsc, hall⟩ := hx
  have h7 : n ≤ 7 := hp.1
  have hq1 : stI q + 1 ≠ laI q + 1 ∧ stI q + 4 ≠ laI q + 1 ∧ 2 ≠ laI q + 1 := by unfold stI laI; split <;> omega
  have cn : ∀ C1, FrN q C C1 → C1 (stI q) 0 = nI n := fun C1 hf => by rw [hf _ st_la]; exact hcx
  unfold f_X1_ruinOf f_X12_ruinOf
  have hh := hasLaw (q := q) (L := 3) hc hsc (by decide)
  rw [show (131 : Int32) = nI (128 + 3) from rfl, hh, bnd_s]
  obtain ⟨O1, m1, m2, o0, o1, o2, o3, o4⟩ := namesR (O := O) (p := p) (by omega)
  rcases hall 3 (by decide) with ⟨e1, e2⟩ | ⟨a, len, fr, dp, e1, hl⟩
  · rw [lawN e1, if_pos rfl, show f_X12_ordersOf (3 : Int32) O = some (-1) from e2, bnd_s, m1, bnd_s, if_pos rfl]
    exact ⟨300, C, O1, by decide, rfl, rfl, FrL.refl, m2⟩
  · have hm1 : (-1 : Int32) < 0 := by decide
    obtain ⟨C1, n1, n2, c0, c1, c2, c3, c4, c5, c6, c7, c8, c9⟩ := name_ok (q := q) (C := C) (v1 := nI p) (v2 := -1) (v3 := nI 0) (r1 := C (stI q + 1) p) (r2 := C 2 p) (r3 := 0) (r4 := 0) (r5 := 0)
      (fun C1 hf => by rw [leftY (cn C1 hf) h7 h1, hf _ hq1.1]) (fun C1 hf => by rw [ageY (by omega), hf _ hq1.2.2]) (fun C1 hf => ageM1)
      (fun C1 hf => owedN (cn C1 hf) (Or.inr (Or.inl hm1))) (fun C1 hf => owedN (cn C1 hf) (Or.inl (Or.inl hm1)))
    have hs' : sc + 1 ≠ laI q + 1 ∧ sc + 2 ≠ laI q + 1 ∧ sc + 3 ≠ laI q + 1 := by
      have hsc' : sc = 383 ∨ sc = 407 ∨ 422 ≤ sc := by rcases hsc with h | h <;> omega
      exact ⟨(la_sc hsc' 1 (by omega)).2.2, (la_sc hsc' 2 (by omega)).2.2, (la_sc hsc' 3 (by omega)).2.2⟩
    have hnm := names_VR (C' := C1) (O' := O1) (L := 3) (r := p) (gv := 0) hp hv hw h1 h1 (by decide) (fun e => by cases e) c0 c1 c2 c3 c4 c9 o0 o1 o2 o3 o4 (fun e => absurd rfl e)
    have hl' := hl.mono (C1 := C1) (O1 := O1) (n2 _ hs'.1) (n2 _ hs'.2.1) (n2 _ hs'.2.2) (m2 456 (by decide)) (m2 457 (by decide))
    obtain ⟨C2, O2, x, y, r1, r2, r3, r4, r5⟩ := law_run (n := n) (by decide) (by rw [n2 (laI q) (by omega)]; exact hc) hsc hl' hnm (cn C1 n2) h7 (by rw [m2 447 (by decide)]; exact hp.2.1) (fun i hi => by rw [n2 _ hq1.2.1, m2 470 (by decide)]; exact hv.2.2.2.2.2.2 i hi) (by rw [m2 470 (by decide)]; exact hw)
    rw [lawY hl.2.2.2.1 hl.2.2.2.2.1 hl.1 hl.2.1, if_neg (by decide), show f_X1_name q (nI p) (-1 : Int32) 0 C = some C1 from n1, bnd_s, r1, bnd2_s, show f_X12_ordersOf (3 : Int32) O = some (nI fr) from e1, bnd_s, m1, bnd_s, if_neg (frN1 (by have := hl.2.2.1; omega)), r2, bnd2_s, r5.1]
    obtain ⟨k, k1, k2, k3, k4⟩ := clampH (x := x) (a := 0) (b := 9999) (by decide) (by decide)
    exact ⟨k, C2, O2, k2, congrArg (fun z => some (z, C2)) k3, congrArg (fun z => some (z, O2)) k4, (FrL.ofN n2).trans (FrL.ofS r3), m2.trans (FrO1.of r4)⟩
