/-! Taken back; images -/
theorem undo_l {k66 : OM → Option (Int32 × OM)} {s : Nat} (hs : s < 30) : ∀ d i m O, i + d = 164 → d < m → O.1 447 3 = nI s → ∃ O1, X12_undo_l23 k66 m (nI i) O = k66 O1 ∧ FrO1 447 O O1 ∧ (∀ k, i ≤ k → k < 164 → O1.1 447 (40 + k) = O.1 447 (210 + 164 * s + k)) ∧ ∀ x, x < 40 + i ∨ 204 ≤ x → O1.1 447 x = O.1 447 x := by
  intro d
  induction d with
  | zero =>
    intro i m O hi hm h3
    obtain ⟨m, rfl⟩ : ∃ j, m = j + 1 := ⟨m - 1, by omega⟩
    have : i = 164 := by omega
    subst this
    exact ⟨O, rfl, FrO1.refl, fun k h1 h2 => absurd h1 (by omega), fun k _ => rfl⟩
  | succ d ih =>
    intro i m O hi hm h3
    obtain ⟨m, rfl⟩ : ∃ j, m = j + 1 := ⟨m - 1, by omega⟩
    have e4 : (40 : Int32) + nI i = nI (40 + i) := nI_add 40 i
    have e5 : (210 : Int32) + 164 * nI s + nI i = nI (210 + 164 * s + i) := by rw [show (164 : Int32) = nI 164 from rfl, pk_mul, show (210 : Int32) = nI 210 from rfl, nI_add, nI_add]
    obtain ⟨O1, r1, r2, r3, r4⟩ := ih (i + 1) m (oup O 447 (40 + i) (O.1 447 (210 + 164 * s + i))) (by omega) (by omega) (by rw [oup_eq, pk_un (by omega)]; exact h3)
    refine ⟨O1, ?_, fun c hc => (r2 c hc).trans (oup_ne hc), fun k h1 h2 => ?_, fun k hk => ?_⟩
    · rw [X12_undo_l23, h3, e4, e5, show (164 : Int32) = nI 164 from rfl, if_neg (nI_ge (by omega) (by decide)), gd_p (inbN (by omega) (by decide)), gd_p (inbN (by omega) (by decide)), nI_clamp (by omega), nI_clamp (by omega), nI_1]
      exact r1
    · by_cases e : k = i
      · subst e
        rw [r4 _ (by omega), oup_eq, pk_us]
      · rw [r3 k (by omega) h2, oup_eq, pk_un (by omega)]
    · rw [r4 k (by omega), oup_eq, pk_un (by omega)]
theorem enter_l {n : Nat} (h7 : n ≤ 7) : ∀ d i f C, i + d = n → d < f → C 6 0 = nI i → ∃ C1, X10_takeBack_l57 5 f (nI n) (nI i) C = some (1, C1) ∧ (∀ c, c ≠ 6 → c ≠ 7 → c ≠ 8 → C1 c = C c) ∧ C1 6 0 = nI n ∧ (∀ k, k ≠ 0 → C1 6 k = C 6 k) ∧
    (∀ p, i ≤ p → p < n → C1 7 p = C 3 p ∧ C1 8 p = C 4 p) ∧ ∀ p, p < i ∨ n ≤ p → C1 7 p = C 7 p ∧ C1 8 p = C 8 p := by
  intro d
  induction d with
  | zero =>
    intro i f C hi hf h0
    obtain ⟨f, rfl⟩ : ∃ j, f = j + 1 := ⟨f - 1, by omega⟩
    have : i = n := by omega
    subst this
    rw [X10_takeBack_l57, if_pos (Int32.le_refl _)]
    exact ⟨C, rfl, fun _ _ _ _ => rfl, h0, fun _ _ => rfl, fun p h1 h2 => absurd h1 (by omega), fun p _ => ⟨rfl, rfl⟩⟩
  | succ d ih =>
    intro i f C hi hf h0
    obtain ⟨f, rfl⟩ : ∃ j, f = j + 1 := ⟨f - 1, by omega⟩
    obtain ⟨C1, r1, r2, r3, r4, r5, r6⟩ := ih (i + 1) f (up2 (up2 (up2 C 7 i (C 3 i)) 8 i (C 4 i)) 6 0 (nI (i + 1))) (by omega) (by omega) (by rw [up2_eq, pk_us])
    rw [X10_takeBack_l57, if_neg (nI_ge (by omega) (by omega)), show 5 + 1 = 6 from rfl, enterY h0 (by omega), bnd_s, nI_1]
    refine ⟨C1, r1, fun c c1 c2 c3 => by rw [r2 c c1 c2 c3, up2_ne c1, up2_ne c3, up2_ne c2], r3, fun k hk => by rw [r4 k hk, up2_eq, pk_un hk, up2_ne (by decide), up2_ne (by decide)], fun p h1 h2 => ?_, fun p hp => ?_⟩
    · by_cases e : p = i
      · subst e
        obtain ⟨g1, g2⟩ := r6 p (by omega)
        rw [g1, g2, up2_ne (show 7 ≠ 6 by decide), up2_ne (show 7 ≠ 8 by decide), up2_eq, pk_us, up2_ne (show 8 ≠ 6 by decide), up2_eq, pk_us]
        exact ⟨rfl, rfl⟩
      · obtain ⟨g1, g2⟩ := r5 p (by omega) h2
        rw [g1, g2, up2_ne (show 3 ≠ 6 by decide), up2_ne (show 3 ≠ 8 by decide), up2_ne (show 3 ≠ 7 by decide), up2_ne (show 4 ≠ 6 by decide), up2_ne (show 4 ≠ 8 by decide), up2_ne (show 4 ≠ 7 by decide)]
        exact ⟨rfl, rfl⟩
    · obtain ⟨g1, g2⟩ := r6 p (by omega)
      rw [g1, g2, up2_ne (show 7 ≠ 6 by decide), up2_ne (show 7 ≠ 8 by decide), up2_eq, pk_un (by omega), up2_ne (show 8 ≠ 6 by decide), up2_eq, pk_un (by omega), up2_ne (show 8 ≠ 7 by decide)]
      exact ⟨rfl, rfl⟩
theorem stepY {w e m : Nat} {C : CM} (h6 : C w 6 = nI e) (he : e < 30) (hm : m ≤ 30) : f_X10_step w (nI m) C = some (w + 8 + 1 + 6 * ((e + m) % 30)) := by
  have hmod : (e + m) % 30 < 30 := Nat.mod_lt _ (by decide)
  have e1 : irm (nI (e + m)) 30 = nI ((e + m) % 30) := pk_rem (by omega) (by decide) (by decide)
  unfold f_X10_step f_X11_within
  rw [h6, nI_add, e1, if_neg (nI_pos (by omega)), show (29 : Int32) = nI 29 from rfl, if_neg (nI_nlt (by omega) (by omega)), if_neg n10, gd_p (inbN (by omega) (by decide)), nI_clamp (by omega)]
theorem opp_undo : op_undo Rel := by
  intro C O h
  obtain ⟨n, t, m, e, n', t', m', e', h'⟩ := h
  have h7 := h'.1.1.1
  have hm30 := h'.1.1.2.2.1
  have he30 := h'.1.1.2.2.2
  have h4 : C 5 4 = nI m := h'.1.2.1.2.2.2.2.1
  have h6 : C 5 6 = nI e := h'.1.2.1.2.2.2.2.2.2
  have hn : C 6 0 = nI n := h'.1.2.1.1
  have h3 : O.1 447 3 = nI m := h'.1.2.1.2.2.2.2.2.1
  unfold f_X11_undo f_X12_undo f_X10_takeBack
  rw [h4, h3]
  by_cases c0 : m = 0
  · subst c0
    rw [if_pos (show nI 0 = 0 from rfl), if_pos (show nI 0 = 0 from rfl), bnd2_s, if_pos rfl]
    exact ⟨_, _, _, rfl, rfl, h'.rel⟩
  obtain ⟨m, rfl⟩ : ∃ j, m = j + 1 := ⟨m - 1, by omega⟩
  rw [if_neg (nI_ne0 (by omega) (by omega)), if_neg (nI_ne0 (by omega) (by omega)), nI_pred]
  obtain ⟨D, hD⟩ : ∃ D, D = up2 C 5 4 (nI m) := ⟨_, rfl⟩
  rw [← hD]
  have d1 : ∀ c, c ≠ 5 → D c = C c := fun c hc => by rw [hD, up2_ne hc]
  have d2 : D 5 4 = nI m := by rw [hD, up2_eq, pk_us]
  have d3 : ∀ k, k ≠ 4 → D 5 k = C 5 k := fun k hk => by rw [hD, up2_eq, pk_un hk]
  have hmod : (e + m) % 30 < 30 := Nat.mod_lt _ (by decide)
  obtain ⟨C3, g1, g2, g3, g4, g5, g6, g7, g8⟩ := copySt (s := 6) (t := 5 + 8 + 1 + 6 * ((e + m) % 30)) D (by omega)
  obtain ⟨a, b, c, d, f⟩ := h'
  obtain ⟨⟨x1, x2, x3, x4⟩, ⟨y1, y2, y3, y4, y5, y6, y7⟩, ⟨z1, z2⟩, dd, ff, hs, g⟩ := a
  obtain ⟨c0', u1, u2, u3, u4, u5, u6, u7, u8, u9, u10, u11, u12⟩ := g m (by omega)
  have est : stp 5 e m = 5 + 8 + 1 + 6 * ((e + m) % 30) := rfl
  rw [est] at u2 u3 u4 u5 u6 u7 u9 u10 u11
  have dn : ∀ k, D (5 + 8 + 1 + 6 * ((e + m) % 30) + k) = C (5 + 8 + 1 + 6 * ((e + m) % 30) + k) := fun k => d1 _ (by omega)
  have dn0 := dn 0
  rw [Nat.add_zero] at dn0
  have c30 : C3 6 0 = nI c0' := by rw [g3 0 (by decide), dn0]; exact u2
  obtain ⟨C4, w1, w2, w3, w4, w5, w6⟩ := enter_l h7 (n - c0') c0' FU C3 (by omega) (by unfold FU; omega) c30
  obtain ⟨O1, r1, r2, r3, r4⟩ := undo_l (k66 := fun O => (X12_undo_j66 O)) (s := m) (by omega) 164 0 FU (oup O 447 3 (nI m)) (by decide) (by decide) (by rw [oup_eq, pk_us])
  have e0 : D (5 + 1) 0 = nI n := (congrFun (d1 6 (by decide)) 0).trans hn
  rw [d2, stepY (w := 5) ((d3 6 (by decide)).trans h6) he30 (by omega), bnd_s, show 5 + 1 = 6 from rfl, g1, bnd_s]
  unfold X10_takeBack_j48
  rw [show 5 + 1 = 6 from rfl, show D 6 0 = nI n from e0, c30, w1, bnd2_s, if_neg n10, show (0 : Int32) = nI 0 from rfl, r1]
  have k5 : C4 5 = D 5 := by rw [w2 5 (by decide) (by decide) (by decide), g2 5 (by omega)]
  have kc : ∀ c, c ≠ 5 → (c < 6 ∨ 11 < c) → C4 c = C c := fun c h1 h2 => by rw [w2 c (by omega) (by omega) (by omega), g2 c (by omega), d1 c h1]
  have oA : ∀ x, x ≠ 3 → (x < 40 ∨ 204 ≤ x) → O1.1 447 x = O.1 447 x := fun x h1 h2 => by rw [r4 x (by omega), oup_eq, pk_un h1]
  have o3 : O1.1 447 3 = nI m := by rw [r4 3 (by omega), oup_eq, pk_us]
  have oN : ∀ k, k < 164 → rowN (O1.1 447) k = rowJ (O.1 447) m k := fun k hk => by
    show O1.1 447 (40 + k) = _
    rw [r3 k (by omega) hk, oup_eq, pk_un (by omega)]; rfl
  have oo : ∀ c, c ≠ 447 → O1.1 c = O.1 c := fun c hc => by rw [r2 c hc, oup_ne hc]
  have hp3 : ∀ p, C4 2 p = C 2 p ∧ C4 3 p = C 3 p ∧ C4 4 p = C 4 p := fun p => ⟨by rw [kc 2 (by decide) (by decide)], by rw [kc 3 (by decide) (by decide)], by rw [kc 4 (by decide) (by decide)]⟩
  have c33 : ∀ p, C3 3 p = C 3 p ∧ C3 4 p = C 4 p := fun p => ⟨by rw [g2 3 (by omega), d1 3 (by decide)], by rw [g2 4 (by omega), d1 4 (by decide)]⟩
  refine ⟨nI m, C4, O1, by rw [k5, d2], ?_, n, t, m, e, n', t', m', e', ?_, ?_, c, ?_, ?_⟩
  · show X12_undo_j66 O1 = _
    unfold X12_undo_j66
    rw [o3]
  · refine ⟨⟨x1, x2, by omega, x4⟩, ⟨w3, by rw [oA 0 (by decide) (by omega)]; exact y2, by rw [k5, d3 2 (by decide)]; exact y3, by rw [oA 1 (by decide) (by omega)]; exact y4, by rw [k5]; exact d2, o3, by rw [k5, d3 6 (by decide)]; exact y7⟩, ⟨by rw [k5, d3 3 (by decide), oA 2 (by decide) (by omega)]; exact z1, by rw [oA 2 (by decide) (by omega)]; exact z2⟩, fun p hp => ?_, fun k hk => ?_, ?_, fun j hj => ?_⟩
    · obtain ⟨v1, v2, v3⟩ := hp3 p
      rw [v1, v2, v3, oA _ (by omega) (by omega), oA _ (by omega) (by omega)]; exact dd p hp
    · rw [kc _ (by omega) (by omega), oA _ (by omega) (by omega)]; exact ff k hk
    · refine SS.mono (s := 5 + 1) (C := C4) (B := rowJ (O.1 447) m) ⟨⟨?_, ?_, ?_, fun p hp => ?_, fun p hp => ?_, fun p hp => ?_, fun i hi => ?_⟩, ?_, fun i hi => ?_, u12⟩ (fun k _ => rfl) oN
      · show C4 6 1 = _
        rw [w4 1 (by decide), g3 1 (by decide), dn0]; exact u3
      · show C4 6 2 = _
        rw [w4 2 (by decide), g3 2 (by decide), dn0]; exact u4
      · show C4 6 3 = _
        rw [w4 3 (by decide), g3 3 (by decide), dn0]; exact u5
      · show C4 7 p = _
        by_cases cp : c0' ≤ p ∧ p < n
        · rw [(w5 p cp.1 cp.2).1, (c33 p).1]; exact (u8 p cp.1 cp.2).1.symm
        · rw [(w6 p (by omega)).1]
          show C3 (6 + 1) p = _
          rw [g4 p hp, dn 1]; exact (u7 p hp (by omega)).1
      · show C4 8 p = _
        by_cases cp : c0' ≤ p ∧ p < n
        · rw [(w5 p cp.1 cp.2).2, (c33 p).2]; exact (u8 p cp.1 cp.2).2.symm
        · rw [(w6 p (by omega)).2]
          show C3 (6 + 2) p = _
          rw [g5 p hp, dn 2]; exact (u7 p hp (by omega)).2
      · show C4 9 p = _
        rw [w2 9 (by decide) (by decide) (by decide)]
        show C3 (6 + 3) p = _
        rw [g6 p hp, dn 3]; exact u9 p hp
      · show C4 10 i = _
        rw [w2 10 (by decide) (by decide) (by decide)]
        show C3 (6 + 4) i = _
        rw [g7 i hi, dn 4]; exact u10 i hi
      · show C4 6 4 = _
        rw [w4 4 (by decide), g3 4 (by decide), dn0]; exact u6
      · show C4 11 i = _
        rw [w2 11 (by decide) (by decide) (by decide)]
        show C3 (6 + 5) i = _
        rw [g8 i hi, dn 5]; exact u11 i hi
    · have hst := stp_in 5 e j
      exact (g j (by omega)).mono (fun k _ => kc _ (by omega) (by omega)) (fun p _ => ⟨(hp3 p).2.1, (hp3 p).2.2⟩) x1 (fun k _ => oA _ (by omega) (by omega))
  · exact b.mono (fun p _ => hp3 p) (fun c h1 h2 => kc c (by omega) (by omega)) (fun y _ => by rw [oo 448 (by decide)])
  · exact fun k hk => (d k hk).mono (fun j _ => kc _ (by omega) (by omega)) (fun c h1 h2 => oo c (by omega))
  · exact f.mono (by rw [kc 404 (by decide) (by decide)]) (kc 405 (by decide) (by decide)) (by rw [kc 406 (by decide) (by decide)]) (by rw [kc 406 (by decide) (by decide)]) (kc 385 (by decide) (by decide)) (kc 386 (by decide) (by decide)) (by rw [kc 391 (by decide) (by decide)]) (by rw [kc 401 (by decide) (by decide)]; exact f.2.2.2.2) (by rw [oo 446 (by decide)]) (by rw [oo 446 (by decide)]) (by rw [oo 446 (by decide)]) (oo 449 (by decide)) (oA 2 (by decide) (by omega))
