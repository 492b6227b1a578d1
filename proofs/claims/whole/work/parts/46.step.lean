/-! The laws of the ruling text; laying, keeping, a step kept -/
theorem ord_none {k L nc : Nat} {O : OM} (h2 : O.1 447 2 = nI k) (hk : k < 4) (hnc : nc ≤ 24) (h4 : O.1 450 k = nI nc) : ∀ d i m v, i + d = nc → d < m → (∀ j, i ≤ j → j < nc → O.1 451 (24 * k + j) ≠ nI L) → X12_ordersOf_l4 m (nI L) v (nI i) O = some v := by
  have hm1 : ¬ nI k = (-1 : Int32) := frN1 (by omega)
  intro d
  induction d with
  | zero =>
    intro i m v hi hm _
    obtain ⟨m, rfl⟩ : ∃ j, m = j + 1 := ⟨m - 1, by omega⟩
    have : i = nc := by omega
    subst this
    rw [X12_ordersOf_l4, h2, if_neg hm1, gd_p (inbN hk (by decide)), nI_clamp (by omega), h4, if_pos (Int32.le_refl _)]
  | succ d ih =>
    intro i m v hi hm hn
    obtain ⟨m, rfl⟩ : ∃ j, m = j + 1 := ⟨m - 1, by omega⟩
    have e5 : (24 : Int32) * nI k + nI i = nI (24 * k + i) := by rw [show (24 : Int32) = nI 24 from rfl, pk_mul, nI_add]
    rw [X12_ordersOf_l4, h2, if_neg hm1, gd_p (inbN hk (by decide)), nI_clamp (by omega), h4, if_neg (nI_ge (by omega) (by omega)), e5, gd_p (inbN (by omega) (by decide)), gd_p (inbN (by omega) (by decide)), nI_clamp (by omega), if_neg (hn i (Nat.le_refl _) (by omega))]
    unfold X12_ordersOf_j64
    rw [nI_1]
    exact ih (i + 1) m v (by omega) (by omega) (fun j a b => hn j (by omega) b)
theorem ord_one {k L nc i0 : Nat} {O : OM} (h2 : O.1 447 2 = nI k) (hk : k < 4) (hnc : nc ≤ 24) (h4 : O.1 450 k = nI nc) (h0 : i0 < nc) (h5 : O.1 451 (24 * k + i0) = nI L) : ∀ d i m v, i + d = nc → d < m → i ≤ i0 → (∀ j, i ≤ j → j < nc → j ≠ i0 → O.1 451 (24 * k + j) ≠ nI L) → X12_ordersOf_l4 m (nI L) v (nI i) O = some (O.1 452 (24 * k + i0)) := by
  have hm1 : ¬ nI k = (-1 : Int32) := frN1 (by omega)
  intro d
  induction d with
  | zero => intro i m v hi hm h; omega
  | succ d ih =>
    intro i m v hi hm hi0 hn
    obtain ⟨m, rfl⟩ : ∃ j, m = j + 1 := ⟨m - 1, by omega⟩
    have e5 : (24 : Int32) * nI k + nI i = nI (24 * k + i) := by rw [show (24 : Int32) = nI 24 from rfl, pk_mul, nI_add]
    rw [X12_ordersOf_l4, h2, if_neg hm1, gd_p (inbN hk (by decide)), nI_clamp (show k < 2 ^ 31 by omega), h4, if_neg (nI_ge (by omega) (by omega)), e5, gd_p (inbN (by omega) (by decide)), gd_p (inbN (by omega) (by decide)), nI_clamp (by omega)]
    unfold X12_ordersOf_j64
    rw [nI_1]
    by_cases e : i = i0
    · subst e
      rw [if_pos h5]
      exact ord_none h2 hk hnc h4 d (i + 1) m _ (by omega) (by omega) (fun j a b => hn j (by omega) b (by omega))
    · rw [if_neg (hn i (Nat.le_refl _) (by omega) e)]
      exact ih (i + 1) m v (by omega) (by omega) (by omega) (fun j a b => hn j (by omega) b)
theorem scOf {q t : Nat} {C : CM} {O : OM} (hT : ∀ k, k < t → TextR k C O) (ht : t ≤ 4) (hl : ∀ L, L < 4 → C 386 L = C 385 L) (hr : (O.1 447 2 = -1 ∧ C (laI q) 5 = nI 383) ∨ ∃ j, j < t ∧ O.1 447 2 = nI j ∧ C (laI q) 5 = nI (422 + 6 * j)) : ScR q C O := by
  rcases hr with ⟨h1, h2⟩ | ⟨j, hj, h1, h2⟩
  · refine ⟨383, h2, Or.inl rfl, fun L hL => Or.inl ⟨hl L hL, ?_⟩⟩
    unfold f_X12_ordersOf
    rw [show FU = 9999 + 1 from rfl, X12_ordersOf_l4, if_pos h1]
  · obtain ⟨nc, g1, g2, g3, g4, g5⟩ := hT j hj
    refine ⟨422 + 6 * j, h2, Or.inr ⟨by omega, by omega, by omega⟩, fun L hL => ?_⟩
    rcases g5 L hL with ⟨a1, a2⟩ | ⟨i, a, len, fr, dp, a1, a2, a3, a4, a5⟩
    · exact Or.inl ⟨a1, ord_none h1 (by omega) g1 g3 nc 0 FU (-1) (by omega) (by unfold FU; omega) (fun j _ h => a2 j h)⟩
    · refine Or.inr ⟨a, len, fr, dp, ?_, a5.1⟩
      rw [← a4]
      exact ord_one h1 (by omega) g1 g3 a1 a2 nc 0 FU (-1) (by omega) (by unfold FU; omega) (by omega) (fun j _ h1 h2 => a3 j h1 h2)
section
variable {n t m e n' t' m' e' : Nat} {C : CM} {O : OM}
theorem RelX.sc (h : RelX n t m e n' t' m' e' C O) : ScR 0 C O := by
  obtain ⟨a, b, c, d, f⟩ := h
  refine scOf d a.1.2.1 f.2.2.1 ?_
  rcases a.2.2.1.2 with g | ⟨j, hj, g⟩
  · exact Or.inl ⟨g, f.2.2.2.1.1 g⟩
  · exact Or.inr ⟨j, hj, g, f.2.2.2.1.2 j (by have := a.1.2.1; omega) g⟩
theorem RelX.ppl (h : RelX n t m e n' t' m' e' C O) : PPL n C (O.1 447) := ⟨h.1.1.1, h.1.2.1.2.1, h.1.2.2.2.1⟩
theorem RelX.tw (h : RelX n t m e n' t' m' e' C O) (hw : ∀ k, k < 164 → O.1 470 k = O.1 447 (40 + k)) : TW 0 n C O ∧ BR 0 n 0 C O := by
  have hs : SS 6 C (O.1 470) := h.1.2.2.2.2.2.1.mono (fun k _ => rfl) (fun k hk => hw k hk)
  exact ⟨⟨⟨h.1.2.1.1, h.ppl, h.sc⟩, hs.1, hs.2.2.2⟩, Or.inl ⟨rfl, hs.2.1, hs.2.2.1⟩⟩
theorem RelX.coC (h : RelX n t m e n' t' m' e' C O) : CoC C C := ⟨fun _ _ _ => rfl, rfl, fun _ _ _ => rfl, rfl, h.2.2.2.2.2.2.2.2, rfl, rfl, rfl⟩
theorem CoO.refl : CoO O O := ⟨fun _ _ _ => rfl, fun _ _ _ => rfl⟩
theorem CoO.of {O1 : OM} {r : Nat} (hr : 458 ≤ r) (h : FrO1 r O O1) : CoO O O1 := ⟨fun c _ h2 => h c (by omega), fun k _ _ => by rw [h 446 (by omega)]⟩
theorem CoO.to {O1 : OM} (h : FrTO O O1) : CoO O O1 := ⟨fun c _ h2 => h.1 c (by omega) (by omega) (by omega), fun k _ _ => h.2 k (by omega)⟩
theorem lay_rel (h : RelX n t m e n' t' m' e' C O) : ∃ O1, f_X12_laysNow O = some O1 ∧ FrO1 470 O O1 ∧ (∀ k, k < 164 → O1.1 470 k = O.1 447 (40 + k)) ∧ RelX n t m e n' t' m' e' C O1 ∧ TW 0 n C O1 ∧ BR 0 n 0 C O1 := by
  obtain ⟨O1, r1, r2, r3⟩ := laysNow O
  have hr := h.co h.coC (CoO.of (by decide) r2)
  exact ⟨O1, r1, r2, r3, hr, hr.tw (fun k hk => by rw [r2 447 (by decide)]; exact r3 k hk)⟩
theorem keep_rel {C2 : CM} {O2 : OM} (h : RelX n t m e n' t' m' e' C O) (hC : FrT 0 C C2) (hO : FrTO O O2) (ht : TW 0 n C2 O2) (hb : BR 0 n 0 C2 O2) :
    ∃ O3, f_X12_keepsNow O2 = some O3 ∧ FrO1 447 O2 O3 ∧ (∀ k, k < 164 → O3.1 447 (40 + k) = O2.1 470 k) ∧ (∀ x, x < 40 ∨ 204 ≤ x → O3.1 447 x = O.1 447 x) ∧ RelX n t m e n' t' m' e' C2 O3 := by
  obtain ⟨O3, r1, r2, r3, r4⟩ := keepsNow O2
  have ec : ∀ c, (c < 6 ∨ 11 < c) → c ≠ 391 → c ≠ 392 → c ≠ 393 → C2 c = C c := fun c a1 a2 a3 a4 => hC.1 c a1 a2 a3 a4
  have eo : ∀ c, c ≠ 446 → c ≠ 447 → c ≠ 470 → c ≠ 471 → O3.1 c = O.1 c := fun c a1 a2 a3 a4 => (r2 c a2).trans (hO.1 c a3 a4 a1)
  have e46 : ∀ k, k ≠ 43 → O3.1 446 k = O.1 446 k := fun k hk => by rw [r2 446 (by decide)]; exact hO.2 k hk
  have eA : ∀ x, x < 40 ∨ 204 ≤ x → O3.1 447 x = O.1 447 x := fun x hx => (r4 x hx).trans (by rw [hO.1 447 (by decide) (by decide) (by decide)])
  obtain ⟨a, b, c, d, f⟩ := h
  have ht4 := a.1.2.1
  have hs : SS 6 C2 (rowN (O3.1 447)) := by
    rcases hb with ⟨-, b1, b2⟩ | ⟨b0, -⟩
    · exact SS.mono (B := O2.1 470) ⟨ht.2.1, b1, b2, ht.2.2⟩ (fun k _ => rfl) (fun k hk => r3 k hk)
    · exact absurd rfl b0
  refine ⟨O3, r1, r2, r3, eA, a.now (fun p _ => ⟨by rw [ec 2 (by decide) (by decide) (by decide) (by decide)], by rw [ec 3 (by decide) (by decide) (by decide) (by decide)], by rw [ec 4 (by decide) (by decide) (by decide) (by decide)]⟩) (ec 5 (by decide) (by decide) (by decide) (by decide)) (fun c h1 h2 => ec c (by omega) (by omega) (by omega) (by omega)) hC.2.2 (fun k hk _ => eA k hk) hs,
    b.mono (fun p _ => ⟨by rw [ec 2 (by decide) (by decide) (by decide) (by decide)], by rw [ec 3 (by decide) (by decide) (by decide) (by decide)], by rw [ec 4 (by decide) (by decide) (by decide) (by decide)]⟩) (fun c h1 h2 => ec c (by omega) (by omega) (by omega) (by omega)) (fun k _ => by rw [eo 448 (by decide) (by decide) (by decide) (by decide)]), c,
    fun k hk => (d k hk).mono (fun j hj => ec _ (by omega) (by omega) (by omega) (by omega)) (fun c h1 h2 => eo c (by omega) (by omega) (by omega) (by omega)),
    f.mono (by rw [ec 404 (by decide) (by decide) (by decide) (by decide)]) (ec 405 (by decide) (by decide) (by decide) (by decide)) (by rw [ec 406 (by decide) (by decide) (by decide) (by decide)]) (by rw [ec 406 (by decide) (by decide) (by decide) (by decide)]) (ec 385 (by decide) (by decide) (by decide) (by decide)) (ec 386 (by decide) (by decide) (by decide) (by decide)) (hC.2.1 5 (by decide)) ?_ (e46 3 (by decide)) (e46 4 (by decide)) (e46 5 (by decide)) (eo 449 (by decide) (by decide) (by decide) (by decide)) (eA 2 (by decide))⟩
  obtain ⟨sc, s1, s2⟩ := f.2.2.2.2
  exact ⟨sc, s1, by rw [ec 401 (by decide) (by decide) (by decide) (by decide)]; exact s2⟩
theorem step_rel (h : RelX n t m e n' t' m' e' C O) : ∃ C1 O1, f_X10_keepStep 5 C = some C1 ∧ f_X12_keepsStep O = some O1 ∧ RelX n t (min m 29 + 1) (if m = 30 then (e + 1) % 30 else e) n' t' m' e' C1 O1 ∧ (∀ c, c ≠ 5 → (c < 14 ∨ 193 < c) → C1 c = C c) ∧ FrO1 447 O O1 ∧ ∀ k, k ≠ 3 → k < 210 → O1.1 447 k = O.1 447 k := by
  obtain ⟨a, b, c, d, f⟩ := h
  obtain ⟨⟨a1, a2, a3, a4⟩, ⟨b1, b2, b3, b4, b5, b6, b7⟩, ⟨c1, c2⟩, dd, ff, hs, g⟩ := a
  obtain ⟨O1, r1, r2, r3, r4, r5, r6⟩ := keepsStep O a3 b6
  have hmod : (e + m) % 30 < 30 := Nat.mod_lt _ (by decide)
  obtain ⟨C1, q1, q2, q3, q4, q5, q6, q7, q8⟩ := copySt (s := 5 + 8 + 1 + 6 * ((e + m) % 30)) (t := 6) C (by omega)
  have est : f_X10_step 5 (nI m) C = some (5 + 8 + 1 + 6 * ((e + m) % 30)) := by
    have e1 : irm (nI (e + m)) 30 = nI ((e + m) % 30) := pk_rem (by omega) (by decide) (by decide)
    unfold f_X10_step f_X11_within
    rw [b7, nI_add, e1, if_neg (nI_pos (by omega)), show (29 : Int32) = nI 29 from rfl, if_neg (nI_nlt (by omega) (by omega)), if_neg (by decide), gd_p (inbN (by omega) (by decide)), nI_clamp (by omega)]
  have hst : stp 5 e m = 5 + 8 + 1 + 6 * ((e + m) % 30) := rfl
  have c15 : C1 5 = C 5 := q2 5 (by omega)
  obtain ⟨C2, hC2, k1, k2, k3⟩ : ∃ C2, X10_keepStep_j21 5 C1 = some C2 ∧ (∀ c, c ≠ 5 → C2 c = C1 c) ∧ (C2 5 4 = nI (min m 29 + 1) ∧ C2 5 6 = nI (if m = 30 then (e + 1) % 30 else e)) ∧ ∀ k, k ≠ 4 → k ≠ 6 → C2 5 k = C 5 k := by
    unfold X10_keepStep_j21
    rw [c15, b5, b7, show (30 : Int32) = nI 30 from rfl]
    by_cases cm : m = 30
    · subst cm
      have e1 : irm (nI (e + 1)) (nI 30) = nI ((e + 1) % 30) := pk_rem (by omega) (by decide) (by decide)
      rw [if_pos (Int32.le_refl _), nI_1, e1]
      exact ⟨_, rfl, fun c hc => up2_ne hc, ⟨by rw [up2_eq, pk_un (by decide), c15]; exact b5, by rw [up2_eq, pk_us, if_pos rfl]⟩, fun k h1 h2 => by rw [up2_eq, pk_un h2, c15]⟩
    · rw [if_neg (nI_ge (by omega) (by decide)), nI_1]
      exact ⟨_, rfl, fun c hc => up2_ne hc, ⟨by rw [up2_eq, pk_us, show min m 29 = m by omega], by rw [up2_eq, pk_un (by decide), c15, if_neg cm]; exact b7⟩, fun k h1 h2 => by rw [up2_eq, pk_un h1, c15]⟩
  have kc : ∀ c, c ≠ 5 → (c < 14 ∨ 193 < c) → C2 c = C c := fun c h1 h2 => (k1 c h1).trans (q2 c (by omega))
  have kcell : ∀ c, c ≠ 5 → (c < 5 + 8 + 1 + 6 * ((e + m) % 30) ∨ 5 + 8 + 1 + 6 * ((e + m) % 30) + 5 < c) → C2 c = C c := fun c h1 h2 => (k1 c h1).trans (q2 c h2)
  have hp3 : ∀ p, p < n → C2 3 p = C 3 p ∧ C2 4 p = C 4 p := fun p _ => ⟨by rw [kc 3 (by decide) (by decide)], by rw [kc 4 (by decide) (by decide)]⟩
  refine ⟨C2, O1, by unfold f_X10_keepStep; rw [b5, est, bnd_s, q1, bnd_s]; exact hC2, r1, ⟨?_, ?_, c, ?_, ?_⟩, kc, r2, r4⟩
  · refine ⟨⟨a1, a2, by omega, by split <;> omega⟩, ⟨by rw [kc 6 (by decide) (by decide)]; exact b1, by rw [r4 0 (by decide) (by decide)]; exact b2, by rw [k3 2 (by decide) (by decide)]; exact b3, by rw [r4 1 (by decide) (by decide)]; exact b4, k2.1, r3, k2.2⟩, ⟨by rw [k3 3 (by decide) (by decide), r4 2 (by decide) (by decide)]; exact c1, by rw [r4 2 (by decide) (by decide)]; exact c2⟩, fun p hp => ?_, fun k hk => ?_, ?_, fun j hj => ?_⟩
    · rw [kc 2 (by decide) (by decide), kc 3 (by decide) (by decide), kc 4 (by decide) (by decide), r4 _ (by omega) (by omega), r4 _ (by omega) (by omega)]; exact dd p hp
    · rw [kc 12 (by decide) (by decide), r4 _ (by omega) (by omega)]; exact ff k hk
    · exact hs.mono (fun k hk => kc _ (by omega) (by omega)) (fun k hk => r4 _ (by omega) (by omega))
    · by_cases ej : j = min m 29
      · -- the step just kept
        have ecell : stp 5 (if m = 30 then (e + 1) % 30 else e) j = 5 + 8 + 1 + 6 * ((e + m) % 30) := by
          rw [ej]
          unfold stp
          split
          · rename_i hm30; rw [hm30, show min 30 29 = 29 from rfl]; omega
          · rw [show min m 29 = m by omega]
        have eB : ∀ k, k < 164 → rowJ (O1.1 447) j k = rowN (O.1 447) k := fun k hk => by rw [ej]; exact r6 k hk
        rw [ecell]
        obtain ⟨⟨v1, v2, v3, v4, v5, v6, v7⟩, u1, u2, u3⟩ := hs
        have hne : ∀ k, 5 + 8 + 1 + 6 * ((e + m) % 30) + k ≠ 5 := fun k => by omega
        have hn0 := hne 0
        rw [Nat.add_zero] at hn0
        refine ⟨n, Nat.le_refl _, by rw [k1 _ hn0, q3 0 (by decide)]; exact b1, by rw [k1 _ hn0, q3 1 (by decide), eB _ (by decide)]; exact v1, by rw [k1 _ hn0, q3 2 (by decide), eB _ (by decide)]; exact v2, by rw [k1 _ hn0, q3 3 (by decide), eB _ (by decide)]; exact v3, by rw [k1 _ hn0, q3 4 (by decide), eB _ (by decide)]; exact u1, fun p hp _ => ?_, fun p h1 h2 => absurd h1 (by omega), fun p hp => ?_, fun p hp => ?_, fun p hp => ?_, ?_⟩
        · rw [k1 _ (hne 1), k1 _ (hne 2), q4 p hp, q5 p hp, eB _ (by omega), eB _ (by omega)]; exact ⟨v4 p hp, v5 p hp⟩
        · rw [k1 _ (hne 3), q6 p hp, eB _ (by omega)]; exact v6 p hp
        · rw [k1 _ (hne 4), q7 p hp, eB _ (by omega)]; exact v7 p hp
        · rw [k1 _ (hne 5), q8 p hp, eB _ (by omega)]; exact u2 p hp
        · exact u3.congr (fun k hk => eB k (by omega)) (by rw [eB 73 (by decide)]; exact u3.2.2.2.2.2.2.2.2)
      · have hjm : j < min m 29 := by omega
        have ecell : stp 5 (if m = 30 then (e + 1) % 30 else e) j = stp 5 e (if m = 30 then j + 1 else j) := by
          unfold stp
          split
          · omega
          · rfl
        rw [ecell]
        have hj2 : (if m = 30 then j + 1 else j) < m := by split <;> omega
        have hne : 6 * ((e + (if m = 30 then j + 1 else j)) % 30) ≠ 6 * ((e + m) % 30) := by split <;> omega
        refine (g _ hj2).mono (fun k hk => kcell _ (by unfold stp; omega) (by unfold stp; omega)) hp3 a1 (fun k hk => r5 j k hjm hk)
  · exact b.mono (fun p _ => ⟨by rw [kc 2 (by decide) (by decide)], by rw [kc 3 (by decide) (by decide)], by rw [kc 4 (by decide) (by decide)]⟩) (fun c h1 h2 => kc c (by omega) (by omega)) (fun k _ => by rw [r2 448 (by decide)])
  · exact fun k hk => (d k hk).mono (fun j hj => kc _ (by omega) (by omega)) (fun c h1 h2 => r2 c (by omega))
  · refine f.mono (by rw [kc 404 (by decide) (by decide)]) (kc 405 (by decide) (by decide)) (by rw [kc 406 (by decide) (by decide)]) (by rw [kc 406 (by decide) (by decide)]) (kc 385 (by decide) (by decide)) (kc 386 (by decide) (by decide)) (by rw [kc 391 (by decide) (by decide)]) ?_ (by rw [r2 446 (by decide)]) (by rw [r2 446 (by decide)]) (by rw [r2 446 (by decide)]) (r2 449 (by decide)) (r4 2 (by decide) (by decide))
    obtain ⟨sc, s1, s2⟩ := f.2.2.2.2
    exact ⟨sc, s1, by rw [kc 401 (by decide) (by decide)]; exact s2⟩
end
