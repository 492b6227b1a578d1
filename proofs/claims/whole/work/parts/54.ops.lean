theorem copyWh_eq (w x : Nat) (C : CM) : f_X10_copyFrom w x C = bnd (f_X7_copyFrom (w + 1) (x + 1) C) (fun C1 => X10_copyFrom_l63 w x FU 0 (cp0 w x 6 (cp0 w x 4 (cp0 w x 3 (cp0 w x 2 (cpr w x 7 5 C1)))))) := rfl
def CpR (s t : Nat) (C C1 : CM) : Prop := (∀ k, k < 5 → C1 s k = C t k) ∧ (∀ k, k < 7 → C1 (s + 1) k = C (t + 1) k) ∧ (∀ k, k < 7 → C1 (s + 2) k = C (t + 2) k) ∧ (∀ k, k < 7 → C1 (s + 3) k = C (t + 3) k) ∧ (∀ k, k < 49 → C1 (s + 4) k = C (t + 4) k) ∧ (∀ k, k < 90 → C1 (s + 5) k = C (t + 5) k)
theorem CpR.mono {s t : Nat} {C C1 D D1 : CM} (h : CpR s t C C1) (hC : ∀ k, k ≤ 5 → D (t + k) = C (t + k)) (hD : ∀ k, k ≤ 5 → D1 (s + k) = C1 (s + k)) : CpR s t D D1 := by
  obtain ⟨a1, a2, a3, a4, a5, a6⟩ := h
  have c0 := hC 0 (by decide)
  have d0 := hD 0 (by decide)
  rw [Nat.add_zero] at c0 d0
  exact ⟨by rw [c0, d0]; exact a1, by rw [hC 1 (by decide), hD 1 (by decide)]; exact a2, by rw [hC 2 (by decide), hD 2 (by decide)]; exact a3, by rw [hC 3 (by decide), hD 3 (by decide)]; exact a4, by rw [hC 4 (by decide), hD 4 (by decide)]; exact a5, by rw [hC 5 (by decide), hD 5 (by decide)]; exact a6⟩
theorem cpw_l {w x : Nat} (hd : w + 188 < x ∨ x + 188 < w) : ∀ d i f C, i + d = 30 → d < f → ∃ C1, X10_copyFrom_l63 w x f (nI i) C = some C1 ∧ (∀ c, (c < w + 9 + 6 * i ∨ w + 188 < c) → C1 c = C c) ∧ ∀ j, i ≤ j → j < 30 → CpR (w + 9 + 6 * j) (x + 9 + 6 * j) C C1 := by
  intro d
  induction d with
  | zero =>
    intro i f C hi hf
    obtain ⟨f, rfl⟩ : ∃ j, f = j + 1 := ⟨f - 1, by omega⟩
    have : i = 30 := by omega
    subst this
    exact ⟨C, rfl, fun _ _ => rfl, fun j h1 h2 => absurd h1 (by omega)⟩
  | succ d ih =>
    intro i f C hi hf
    obtain ⟨f, rfl⟩ : ∃ j, f = j + 1 := ⟨f - 1, by omega⟩
    obtain ⟨C2, g1, g2, g3⟩ := copySt (s := w + 8 + 1 + 6 * i) (t := x + 8 + 1 + 6 * i) C (by omega)
    obtain ⟨C1, r1, r2, r3⟩ := ih (i + 1) f C2 (by omega) (by omega)
    refine ⟨C1, ?_, fun c hc => by rw [r2 c (by omega), g2 c (by omega)], fun j h1 h2 => ?_⟩
    · rw [X10_copyFrom_l63, show (30 : Int32) = nI 30 from rfl, if_neg (nI_ge (by omega) (by decide)), gd_p (inbN (by omega) (by decide)), gd_p (inbN (by omega) (by decide)), nI_clamp (by omega), g1, bnd_s]
      unfold X10_copyFrom_j102
      rw [nI_1]; exact r1
    · by_cases e : j = i
      · subst e
        exact CpR.mono (C := C) (C1 := C2) g3 (fun k _ => rfl) (fun k hk => r2 _ (by omega))
      · exact (r3 j (by omega) h2).mono (fun k hk => (g2 _ (by omega)).symm) (fun k _ => rfl)
theorem copyWh {w x : Nat} (hd : w + 188 < x ∨ x + 188 < w) (C : CM) : ∃ C1, f_X10_copyFrom w x C = some C1 ∧ (∀ c, (c < w ∨ w + 188 < c) → C1 c = C c) ∧ (∀ k, (k = 2 ∨ k = 3 ∨ k = 4 ∨ k = 6) → C1 w k = C x k) ∧ (∀ k, k < 5 → C1 (w + 7) k = C (x + 7) k) ∧ CpR (w + 1) (x + 1) C C1 ∧ ∀ j, j < 30 → CpR (w + 9 + 6 * j) (x + 9 + 6 * j) C C1 := by
  rw [copyWh_eq]
  obtain ⟨C2, g1, g2, g3⟩ := copySt (s := w + 1) (t := x + 1) C (by omega)
  rw [g1, bnd_s]
  obtain ⟨D, hD⟩ : ∃ D, D = cp0 w x 6 (cp0 w x 4 (cp0 w x 3 (cp0 w x 2 (cpr w x 7 5 C2)))) := ⟨_, rfl⟩
  rw [← hD]
  have d1 : ∀ c, c ≠ w → c ≠ w + 7 → D c = C2 c := fun c h1 h2 => by rw [hD, cp0_ne h1, cp0_ne h1, cp0_ne h1, cp0_ne h1, cpr_ne h2]
  have d2 : ∀ k, k < 5 → D (w + 7) k = C2 (x + 7) k := fun k hk => by rw [hD, cp0_ne (by omega), cp0_ne (by omega), cp0_ne (by omega), cp0_ne (by omega), cpr_eq, if_pos hk]
  have hxw : x ≠ w := by omega
  have d3 : ∀ k, (k = 2 ∨ k = 3 ∨ k = 4 ∨ k = 6) → D w k = C2 x k := by
    intro k hk
    rw [hD, cp0_eq, cp0_eq, cp0_eq, cp0_eq, cp0_ne hxw, cp0_ne hxw, cp0_ne hxw, cpr_ne (by omega)]
    rcases hk with rfl | rfl | rfl | rfl <;> rfl
  obtain ⟨C1, r1, r2, r3⟩ := cpw_l hd 30 0 FU D (by decide) (by decide)
  refine ⟨C1, r1, fun c hc => by rw [r2 c (by omega), d1 c (by omega) (by omega), g2 c (by omega)], fun k hk => by rw [r2 w (by omega), d3 k hk, g2 x (by omega)], fun k hk => by rw [r2 _ (by omega), d2 k hk, g2 _ (by omega)], ?_, fun j hj => ?_⟩
  · exact CpR.mono (C := C) (C1 := C2) g3 (fun k _ => rfl) (fun k hk => by rw [r2 _ (by omega), d1 _ (by omega) (by omega)])
  · exact (r3 j (by omega) hj).mono (fun k hk => by rw [d1 _ (by omega) (by omega), g2 _ (by omega)]) (fun k _ => rfl)
theorem SS.copy {s t : Nat} {C C1 : CM} {B : Nat → Int32} (h : SS t C B) (hc : CpR s t C C1) : SS s C1 B := by
  obtain ⟨⟨a1, a2, a3, a4, a5, a6, a7⟩, b1, b2, b3⟩ := h
  obtain ⟨c0, c1, c2, c3, c4, c5⟩ := hc
  exact ⟨⟨(c0 1 (by decide)).trans a1, (c0 2 (by decide)).trans a2, (c0 3 (by decide)).trans a3, fun p hp => (c1 p hp).trans (a4 p hp), fun p hp => (c2 p hp).trans (a5 p hp), fun p hp => (c3 p hp).trans (a6 p hp), fun p hp => (c4 p hp).trans (a7 p hp)⟩, (c0 4 (by decide)).trans b1, fun j hj => (c5 j hj).trans (b2 j hj), b3⟩
theorem SJ.copy {n s t : Nat} {C C1 : CM} {B : Nat → Int32} (h : SJ n C t B) (hc : CpR s t C C1) (h3 : ∀ p, p < n → C1 3 p = C 3 p ∧ C1 4 p = C 4 p) : SJ n C1 s B := by
  obtain ⟨c, u1, u2, u3, u4, u5, u6, u7, u8, u9, u10, u11, u12⟩ := h
  obtain ⟨c0, c1, c2, c3, c4, c5⟩ := hc
  exact ⟨c, u1, (c0 0 (by decide)).trans u2, (c0 1 (by decide)).trans u3, (c0 2 (by decide)).trans u4, (c0 3 (by decide)).trans u5, (c0 4 (by decide)).trans u6, fun p hp hq => ⟨(c1 p hp).trans (u7 p hp hq).1, (c2 p hp).trans (u7 p hp hq).2⟩, fun p hp hq => by rw [(h3 p hq).1, (h3 p hq).2]; exact u8 p hp hq, fun p hp => (c3 p hp).trans (u9 p hp), fun p hp => (c4 p hp).trans (u10 p hp), fun p hp => (c5 p hp).trans (u11 p hp), u12⟩
theorem RW.copy {w x n t m e : Nat} {C C1 : CM} {A A1 : Nat → Int32} (h : RW x n t m e C A) (h3 : ∀ p, C1 2 p = C 2 p ∧ C1 3 p = C 3 p ∧ C1 4 p = C 4 p) (hk : ∀ k, (k = 2 ∨ k = 3 ∨ k = 4 ∨ k = 6) → C1 w k = C x k) (hn : ∀ k, k < 5 → C1 (w + 7) k = C (x + 7) k) (h0 : CpR (w + 1) (x + 1) C C1) (hj : ∀ j, j < 30 → CpR (w + 9 + 6 * j) (x + 9 + 6 * j) C C1) (hA : ∀ k, k < 5130 → A1 k = A k) : RW w n t m e C1 A1 := by
  obtain ⟨⟨x1, x2, x3, x4⟩, ⟨y1, y2, y3, y4, y5, y6, y7⟩, ⟨z1, z2⟩, dd, ff, hs, g⟩ := h
  refine ⟨⟨x1, x2, x3, x4⟩, ⟨(h0.1 0 (by decide)).trans y1, by rw [hA _ (by decide)]; exact y2, (hk 2 (by omega)).trans y3, by rw [hA _ (by decide)]; exact y4, (hk 4 (by omega)).trans y5, by rw [hA _ (by decide)]; exact y6, (hk 6 (by omega)).trans y7⟩, ⟨by rw [hk 3 (by omega), hA _ (by decide)]; exact z1, by rw [hA _ (by decide)]; exact z2⟩, fun p hp => ?_, fun k hk5 => ?_, ?_, fun j hjm => ?_⟩
  · obtain ⟨v1, v2, v3⟩ := h3 p
    rw [v1, v2, v3, hA _ (by omega), hA _ (by omega)]; exact dd p hp
  · rw [hn k hk5, hA _ (by omega)]; exact ff k hk5
  · exact (hs.copy h0).mono (fun k _ => rfl) (fun k hk => hA _ (by omega))
  · exact ((g j hjm).copy (hj ((e + j) % 30) (Nat.mod_lt _ (by decide))) (fun p _ => ⟨(h3 p).2.1, (h3 p).2.2⟩)).mono (fun k _ => rfl) (fun p _ => ⟨rfl, rfl⟩) x1 (fun k hk => hA _ (by omega))
theorem opp_image : op_image Rel := by
  intro C O h
  obtain ⟨n, t, m, e, n', t', m', e', a, b, c, d, f⟩ := h
  obtain ⟨C1, r1, r2, r3, r4, r5, r6⟩ := copyWh (w := 194) (x := 5) (by decide) C
  obtain ⟨O1, q1, q2, q3⟩ := copies_out O
  have kc : ∀ c, (c < 194 ∨ 382 < c) → C1 c = C c := r2
  unfold f_X11_image f_X12_image
  rw [r1, bnd_s, q1, bnd_s]
  have hs := a.2.2.2.2.2.1
  refine ⟨_, C1, O1, rfl, ?_, n, t, m, e, n, t, m, e, ?_, ?_, ⟨Nat.le_refl _, Nat.le_refl _⟩, ?_, ?_⟩
  · rw [kc 6 (by omega), q2 447 (by decide)]
    exact congrArg (fun z => some (z, O1)) hs.1.1.symm
  · exact a.mono (fun p _ => ⟨by rw [kc 2 (by omega)], by rw [kc 3 (by omega)], by rw [kc 4 (by omega)]⟩) (fun c h1 h2 => kc c (by omega)) (fun y _ => by rw [q2 447 (by decide)])
  · exact a.copy (fun p => ⟨by rw [kc 2 (by omega)], by rw [kc 3 (by omega)], by rw [kc 4 (by omega)]⟩) r3 r4 r5 r6 q3
  · have ht := a.1.2.1
    exact fun k hk => (d k hk).mono (fun j _ => kc _ (by omega)) (fun c h1 h2 => q2 c (by omega))
  · exact f.mono (by rw [kc 404 (by omega)]) (kc 405 (by omega)) (by rw [kc 406 (by omega)]) (by rw [kc 406 (by omega)]) (kc 385 (by omega)) (kc 386 (by omega)) (by rw [kc 391 (by omega)]) (by rw [kc 401 (by omega)]; exact f.2.2.2.2) (by rw [q2 446 (by decide)]) (by rw [q2 446 (by decide)]) (by rw [q2 446 (by decide)]) (q2 449 (by decide)) (by rw [q2 447 (by decide)])
theorem scriptY {t : Nat} {v : Int32} (ht : t ≤ 4) (h : v = -1 ∨ ∃ j, j < t ∧ v = nI j) : ∃ sc, f_X11_script v = some sc ∧ isSc sc ∧ ((v = -1 ∧ sc = 383) ∨ ∃ j, j < t ∧ v = nI j ∧ sc = 422 + 6 * j) := by
  rcases h with rfl | ⟨j, hj, rfl⟩
  · exact ⟨383, rfl, Or.inl rfl, Or.inl ⟨rfl, rfl⟩⟩
  · refine ⟨422 + 6 * j, ?_, Or.inr ⟨by omega, by omega, by omega⟩, Or.inr ⟨j, hj, rfl, rfl⟩⟩
    unfold f_X11_script f_X11_within
    rw [if_neg (nI_pos (by omega)), show (3 : Int32) = nI 3 from rfl, if_neg (nI_nlt (by omega) (by omega)), if_neg n10, gd_p (inbN (by omega) (by decide)), nI_clamp (by omega)]
theorem opp_back : op_back Rel := by
  intro C O h
  obtain ⟨n, t, m, e, n', t', m', e', a, b, c, d, f⟩ := h
  obtain ⟨C1, r1, r2, r3, r4, r5, r6⟩ := copyWh (w := 5) (x := 194) (by decide) C
  obtain ⟨O1, q1, q2, q3⟩ := copies_in O
  have kc : ∀ c, (c < 5 ∨ 193 < c) → C1 c = C c := r2
  have ht' := b.1.2.1
  have hru : C1 5 3 = O.1 448 2 := (r3 3 (by omega)).trans b.2.2.1.1
  obtain ⟨sc, s1, s2, s3⟩ := scriptY (v := C1 5 3) ht' (by rw [hru]; exact b.2.2.1.2)
  unfold f_X11_back f_X12_back f_X1_rule
  rw [r1, bnd_s, q1, bnd_s, s1, bnd_s, bnd_s]
  obtain ⟨C2, hC2⟩ : ∃ C2, C2 = up2 C1 (laI 0) 5 (nI sc) := ⟨_, rfl⟩
  rw [← hC2]
  have k2 : ∀ c, c ≠ 391 → C2 c = C1 c := fun c hc => by rw [hC2]; exact up2_ne (show c ≠ laI 0 from hc)
  have kd : ∀ c, c ≠ 391 → (c < 5 ∨ 193 < c) → C2 c = C c := fun c h1 h2 => (k2 c h1).trans (kc c h2)
  have hs := b.2.2.2.2.2.1
  refine ⟨_, C2, O1, rfl, ?_, n', t', m', e', n', t', m', e', ?_, ?_, ⟨Nat.le_refl _, Nat.le_refl _⟩, ?_, ?_⟩
  · rw [k2 6 (by decide), q3 110 (by decide)]
    exact congrArg (fun z => some (z, O1)) ((r5.1 1 (by decide)).trans hs.1.1).symm
  · refine (b.copy (w := 5) (C1 := C1) (A1 := O1.1 447) (fun p => ⟨by rw [kc 2 (by omega)], by rw [kc 3 (by omega)], by rw [kc 4 (by omega)]⟩) r3 r4 r5 r6 q3).mono (fun p _ => ⟨by rw [k2 2 (by decide)], by rw [k2 3 (by decide)], by rw [k2 4 (by decide)]⟩) (fun c h1 h2 => k2 c (by omega)) (fun y _ => rfl)
  · exact b.mono (fun p _ => ⟨by rw [kd 2 (by decide) (by omega)], by rw [kd 3 (by decide) (by omega)], by rw [kd 4 (by decide) (by omega)]⟩) (fun c h1 h2 => kd c (by omega) (by omega)) (fun y _ => by rw [q2 448 (by decide)])
  · exact fun k hk => (d k (by omega)).mono (fun j _ => kd _ (by omega) (by omega)) (fun c h1 h2 => q2 c (by omega))
  · obtain ⟨f1, f2, f3, f4, f5⟩ := f
    obtain ⟨L, l1, l2, l3, l4⟩ := f1
    have eA2 : O1.1 447 2 = O.1 448 2 := q3 2 (by decide)
    refine ⟨⟨L, l1, by rw [kd 404 (by decide) (by omega)]; exact l2, by rw [q2 446 (by decide)]; exact l3, fun k hk => by rw [kd 405 (by decide) (by omega), q2 449 (by decide)]; exact l4 k hk⟩, by rw [kd 406 (by decide) (by omega), q2 446 (by decide)]; exact f2, by rw [kd 386 (by decide) (by omega), kd 385 (by decide) (by omega)]; exact f3, ?_, by rw [kd 401 (by decide) (by omega)]; exact f5⟩
    have e391 : C2 391 5 = nI sc := by
      rw [hC2]
      show up2 C1 (laI 0) 5 (nI sc) (laI 0) 5 = _
      rw [up2_eq, pk_us]
    rw [eA2, e391, ← hru]
    rcases s3 with ⟨v1, v2⟩ | ⟨j, hj, v1, v2⟩
    · exact ⟨fun _ => by rw [v2], fun j hj hv => absurd (hv.symm.trans v1) (nm1_ne (by omega))⟩
    · refine ⟨fun hv => absurd (v1.symm.trans hv) (nm1_ne (by omega)), fun i hi hv => ?_⟩
      have : i = j := (nI_eq (by omega) (by omega)).mp (hv.symm.trans v1)
      rw [v2, this]
