/-! Feasts, and what is written, on both sides -/
theorem best_l {q n p : Nat} {C : CM} {O : OM} (h : TW q n C O) (h1 : p < n) (v : Int32) (k51 : Int32 → Int32 → Int32 → CM → Option (Int32 × CM)) (k67 : Int32 → Int32 → Int32 → OM → Option (Int32 × OM)) : ∀ d i b m1 m2, i + d = n → b < n → d < m1 → d < m2 →
    ∃ b', b' < n ∧ X7_forgives_l17 (stI q) k51 m1 v (nI p) (nI b) (nI i) C = k51 v (nI p) (nI b') C ∧ X12_feasts_l19 k67 m2 v (nI p) (nI b) (nI i) O = k67 v (nI p) (nI b') O := by
  have h7 := h.1.2.1.1
  intro d
  induction d with
  | zero =>
    intro i b m1 m2 hi hb hm1 hm2
    obtain ⟨m1, rfl⟩ : ∃ m, m1 = m + 1 := ⟨m1 - 1, by omega⟩
    obtain ⟨m2, rfl⟩ : ∃ m, m2 = m + 1 := ⟨m2 - 1, by omega⟩
    have : i = n := by omega
    subst this
    rw [X7_forgives_l17, X12_feasts_l19, h.1.1, h.1.2.1.2.1, if_pos (Int32.le_refl _), if_pos (Int32.le_refl _)]
    exact ⟨b, hb, rfl, rfl⟩
  | succ d ih =>
    intro i b m1 m2 hi hb hm1 hm2
    obtain ⟨m1, rfl⟩ : ∃ m, m1 = m + 1 := ⟨m1 - 1, by omega⟩
    obtain ⟨m2, rfl⟩ : ∃ m, m2 = m + 1 := ⟨m2 - 1, by omega⟩
    have hin : i < n := by omega
    rw [X7_forgives_l17, X12_feasts_l19, h.1.1, h.1.2.1.2.1, if_neg (leN hin h7), if_neg (leN hin h7), owedY h.1.1 h7 h1 hin, bnd_s, owedY h.1.1 h7 h1 hb, bnd_s, h.2.1.2.2.2.2.2.2 _ (by omega), h.2.1.2.2.2.2.2.2 _ (by omega), debtN', debtN', gd_p (inbN (by omega) (by decide)), gd_p (inbN (by omega) (by decide)), nI_clamp (by omega), nI_clamp (by omega)]
    unfold X7_forgives_j45 X12_feasts_j60
    rw [nI_1]
    by_cases c : O.1 470 (21 + (7 * p + i)) ≤ O.1 470 (21 + (7 * p + b))
    · rw [if_pos c, if_pos c]; exact ih (i + 1) b m1 m2 (by omega) hb (by omega) (by omega)
    · rw [if_neg c, if_neg c]; exact ih (i + 1) i m1 m2 (by omega) hin (by omega) (by omega)
theorem feasts_l {q n : Nat} : ∀ d i m1 m2 v C O, TW q n C O → i + d = n → d < m1 → d < m2 →
    ∃ S C1 O1, X7_forgives_l4 (stI q) m1 v (nI i) C = some (S, C1) ∧ X12_feasts_l4 m2 v (nI i) O = some (S, O1) ∧ KP q n C C1 O O1 := by
  intro d
  induction d with
  | zero =>
    intro i m1 m2 v C O h hi hm1 hm2
    obtain ⟨m1, rfl⟩ : ∃ m, m1 = m + 1 := ⟨m1 - 1, by omega⟩
    obtain ⟨m2, rfl⟩ : ∃ m, m2 = m + 1 := ⟨m2 - 1, by omega⟩
    have : i = n := by omega
    subst this
    rw [X7_forgives_l4, X12_feasts_l4, h.1.1, h.1.2.1.2.1, if_pos (Int32.le_refl _), if_pos (Int32.le_refl _)]
    exact ⟨v, C, O, rfl, rfl, KP.refl h⟩
  | succ d ih =>
    intro i m1 m2 v C O h hi hm1 hm2
    have h7 := h.1.2.1.1
    obtain ⟨m1, rfl⟩ : ∃ m, m1 = m + 1 := ⟨m1 - 1, by omega⟩
    obtain ⟨m2, rfl⟩ : ∃ m, m2 = m + 1 := ⟨m2 - 1, by omega⟩
    have hin : i < n := by omega
    obtain ⟨b, hb, b1, b2⟩ := best_l h hin v (fun v1 v2 v3 C => (X7_forgives_j51 (stI q) (fun v1 v2 C => X7_forgives_l4 (stI q) m1 v1 v2 C) v1 v2 v3 C)) (fun v1 v2 v3 O => (X12_feasts_j67 (fun v1 v2 O => X12_feasts_l4 m2 v1 v2 O) v1 v2 v3 O)) (n - 1) 1 0 FU FU (by omega) (by omega) (by unfold FU; omega) (by unfold FU; omega)
    rw [X7_forgives_l4, X12_feasts_l4, h.1.1, h.1.2.1.2.1, if_neg (leN hin h7), if_neg (leN hin h7), show (0 : Int32) = nI 0 from rfl, show (1 : Int32) = nI 1 from rfl, b1, b2]
    simp only [X7_forgives_j51, X12_feasts_j67]
    rw [owedY h.1.1 h7 hin hb, bnd_s, debtN', gd_p (inbN (by omega) (by decide)), gd_p (inbN (by omega) (by decide)), nI_clamp (by omega), h.2.1.2.2.2.2.2.2 _ (by omega), show (1 : Int32) = nI 1 from rfl, nI_add]
    by_cases e : i = b
    · subst e
      have ez : O.1 470 (21 + (7 * i + i)) = 0 := by
        rw [show 21 + (7 * i + i) = 21 + 8 * i by omega]; exact h.2.2.2.2.2.2.1 i (by omega)
      rw [setE, bnd_s, oup_same _ ez]
      obtain ⟨S, C1, O1, r1, r2, r3⟩ := ih (i + 1) m1 m2 (v + O.1 470 (21 + (7 * i + i))) C O h (by omega) (by omega) (by omega)
      exact ⟨S, C1, O1, r1, r2, r3⟩
    · have k := KP.owe (k := 0) h (p := i) (r := b) (by omega) (by omega) e (by decide)
      obtain ⟨S, C1, O1, r1, r2, r3⟩ := ih (i + 1) m1 m2 (v + O.1 470 (21 + (7 * i + b))) _ _ k.1 (by omega) (by omega) (by omega)
      rw [setY h.1.1 h7 hin hb e, show f_X11_clamped 0 0 9999 = nI 0 from rfl, bnd_s]
      exact ⟨S, C1, O1, r1, r2, k.trans r3⟩
theorem feasts_both {q n : Nat} {C : CM} {O : OM} (h : TW q n C O) : ∃ S C1 O1, f_X7_forgives (stI q) C = some (S, C1) ∧ f_X12_feasts O = some (S, O1) ∧ KP q n C C1 O O1 :=
  feasts_l n 0 FU FU 0 C O h (by omega) (by have := h.1.2.1.1; unfold FU; omega) (by have := h.1.2.1.1; unfold FU; omega)
/-! the book -/
def bkN (m : Nat) (f : Nat → Int32) (a b c : Int32) : Nat → Int32 :=
  upd (upd (upd (if m < 30 then f else fun j => if j < 87 then f (j + 3) else f j) (3 * min m 29) a) (3 * min m 29 + 1) b) (3 * min m 29 + 2) c
theorem bkN_congr {m : Nat} {f g : Nat → Int32} {a b c : Int32} (h : ∀ j, j < 90 → f j = g j) {j : Nat} (hj : j < 90) : bkN m f a b c j = bkN m g a b c j := by
  unfold bkN upd
  by_cases c1 : m < 30
  · simp only [if_pos c1]
    rw [h j hj]
  · simp only [if_neg c1]
    by_cases c2 : j < 87
    · simp only [if_pos c2]; rw [h (j + 3) (by omega)]
    · simp only [if_neg c2]; rw [h j hj]
theorem writeC {s m : Nat} {C : CM} {x y : Int32} (hm : m ≤ 30) (h4 : C s 4 = nI m) : ∃ C1, f_X7_write s x y C = some C1 ∧ C1 s 4 = nI (min m 29 + 1) ∧ (∀ j, j < 90 → C1 (s + 5) j = bkN m (C (s + 5)) (C s 1) x y j) ∧ (∀ c, c ≠ s → c ≠ s + 5 → C1 c = C c) ∧ ∀ k, k ≠ 4 → C1 s k = C s k := by
  have key : ∀ (D : CM) (m : Nat), m < 30 → D s 4 = nI m → X7_write_j35 s x y D = some (up2 (up2 (up2 (up2 D (s + 5) (3 * m) (D s 1)) (s + 5) (3 * m + 1) x) (s + 5) (3 * m + 2) y) s 4 (nI (m + 1))) := by
    intro D m hm hd
    have e1 : nI m * 3 = nI (3 * m) := by rw [show (3 : Int32) = nI 3 from rfl, pk_mul, Nat.mul_comm]
    have e2 : nI (3 * m) + 1 = nI (3 * m + 1) := nI_add _ 1
    have e3 : nI (3 * m) + 2 = nI (3 * m + 2) := nI_add _ 2
    unfold X7_write_j35
    rw [hd, e1, e2, e3, if_neg (nI_pos (by omega)), show (90 : Int32) = nI 90 from rfl, if_neg (nI_ge (by omega) (by decide)), gd_p (inbN (by omega) (by decide)), gd_p (inbN (by omega) (by decide)), gd_p (inbN (by omega) (by decide)), nI_clamp (by omega), nI_clamp (by omega), nI_clamp (by omega), up2_ne (j := s) (by omega), up2_ne (j := s) (by omega), up2_ne (j := s) (by omega), hd, nI_1]
  unfold f_X7_write
  by_cases c : m < 30
  · rw [h4, show (30 : Int32) = nI 30 from rfl, if_pos (nI_lt c (by decide)), key C m c h4]
    have e : min m 29 = m := by omega
    refine ⟨_, rfl, by rw [up2_eq, pk_us, e], fun j hj => ?_, fun c h1 h2 => by rw [up2_ne h1, up2_ne h2, up2_ne h2, up2_ne h2], fun k hk => by rw [up2_eq, pk_un hk, up2_ne (by omega), up2_ne (by omega), up2_ne (by omega)]⟩
    rw [up2_ne (by omega), up2_eq, up2_eq, up2_eq]
    unfold bkN
    rw [if_pos c, e]
  · have e30 : m = 30 := by omega
    subst e30
    have eg : ∀ j, va_cpy (C (s + 5)) (C (s + 5)) 3 0 87 j = (if j < 87 then C (s + 5) (j + 3) else C (s + 5) j) := by
      intro j
      by_cases c : j < 87
      · rw [if_pos c, pk_cpy_in (by omega) (by omega), Nat.sub_zero, Nat.add_comm 3 j]
      · rw [if_neg c, pk_cpy_out (by omega)]
    rw [h4, show (30 : Int32) = nI 30 from rfl, if_neg (nI_nlt (Nat.le_refl _) (by decide))]
    obtain ⟨D, hD⟩ : ∃ D, D = up2 (rowC C (s + 5) (va_cpy (C (s + 5)) (C (s + 5)) 3 0 87)) s 4 29 := ⟨_, rfl⟩
    have d5 : D (s + 5) = va_cpy (C (s + 5)) (C (s + 5)) 3 0 87 := by rw [hD, up2_ne (by omega), rowC_eq]
    have d1 : ∀ k, k ≠ 4 → D s k = C s k := fun k hk => by rw [hD, up2_eq, pk_un hk, rowC_ne (by omega)]
    have d4 : D s 4 = nI 29 := by rw [hD, up2_eq, pk_us]; rfl
    have d0 : ∀ c, c ≠ s → c ≠ s + 5 → D c = C c := fun c h1 h2 => by rw [hD, up2_ne h1, rowC_ne h2]
    rw [← hD, key D 29 (by decide) d4]
    refine ⟨_, rfl, by rw [up2_eq, pk_us]; rfl, fun j hj => ?_, fun c h1 h2 => by rw [up2_ne h1, up2_ne h2, up2_ne h2, up2_ne h2, d0 c h1 h2], fun k hk => by rw [up2_eq, pk_un hk, up2_ne (by omega), up2_ne (by omega), up2_ne (by omega), d1 k hk]⟩
    rw [up2_ne (by omega), up2_eq, up2_eq, up2_eq, d5, d1 1 (by decide)]
    unfold bkN
    rw [if_neg (by decide), show min 30 29 = 29 from rfl]
    unfold upd
    rw [eg]
theorem shift_l {k42 : Int32 → Int32 → OM → Option OM} {v1 v2 : Int32} : ∀ d i m O, i + d = 161 → 74 ≤ i → d < m → ∃ O1, X12_writes_l15 k42 m v1 v2 (nI i) O = k42 v1 v2 O1 ∧ FrO1 470 O O1 ∧ (∀ k, i ≤ k → k < 161 → O1.1 470 k = O.1 470 (k + 3)) ∧ ∀ k, k < i ∨ 161 ≤ k → O1.1 470 k = O.1 470 k := by
  intro d
  induction d with
  | zero =>
    intro i m O hi h74 hm
    obtain ⟨m, rfl⟩ : ∃ j, m = j + 1 := ⟨m - 1, by omega⟩
    have : i = 161 := by omega
    subst this
    exact ⟨O, rfl, FrO1.refl, fun k h1 h2 => absurd h1 (by omega), fun k _ => rfl⟩
  | succ d ih =>
    intro i m O hi h74 hm
    obtain ⟨m, rfl⟩ : ∃ j, m = j + 1 := ⟨m - 1, by omega⟩
    have e3 : nI i + 3 = nI (i + 3) := nI_add i 3
    obtain ⟨O1, r1, r2, r3, r4⟩ := ih (i + 1) m (oup O 470 i (O.1 470 (i + 3))) (by omega) (by omega) (by omega)
    refine ⟨O1, ?_, fun c hc => (r2 c hc).trans (oup_ne hc), fun k h1 h2 => ?_, fun k hk => ?_⟩
    · rw [X12_writes_l15, show (161 : Int32) = nI 161 from rfl, if_neg (nI_ge (by omega) (by decide)), e3, gd_p (inbN (by omega) (by decide)), gd_p (inbN (by omega) (by decide)), nI_clamp (by omega), nI_clamp (by omega), nI_1]
      exact r1
    · by_cases e : k = i
      · subst e
        rw [r4 k (by omega), oup_eq, pk_us]
      · rw [r3 k (by omega) h2, oup_eq, pk_un (by omega)]
    · rw [r4 k (by omega), oup_eq, pk_un (by omega)]
theorem writeO {m : Nat} {O : OM} {x y : Int32} (hm : m ≤ 30) (h4 : O.1 470 73 = nI m) : ∃ O1, f_X12_writes x y O = some O1 ∧ O1.1 470 73 = nI (min m 29 + 1) ∧ (∀ j, j < 90 → O1.1 470 (74 + j) = bkN m (fun j => O.1 470 (74 + j)) (O.1 470 70) x y j) ∧ (∀ k, k < 73 → O1.1 470 k = O.1 470 k) ∧ FrO1 470 O O1 := by
  have key : ∀ (D : OM) (m : Nat), m < 30 → D.1 470 73 = nI m → X12_writes_j51 x y D = some (oup (oup (oup (oup D 470 (74 + 3 * m) (D.1 470 70)) 470 (74 + 3 * m + 1) x) 470 (74 + 3 * m + 2) y) 470 73 (nI (m + 1))) := by
    intro D m hm hd
    have e1 : (74 : Int32) + 3 * nI m = nI (74 + 3 * m) := by rw [show (3 : Int32) = nI 3 from rfl, pk_mul, show (74 : Int32) = nI 74 from rfl, nI_add]
    have e2 : nI (74 + 3 * m) + 1 = nI (74 + 3 * m + 1) := nI_add _ 1
    have e3 : nI (74 + 3 * m) + 2 = nI (74 + 3 * m + 2) := nI_add _ 2
    unfold X12_writes_j51
    rw [hd, e1, e2, e3, gd_p (inbN (by omega) (by decide)), gd_p (inbN (by omega) (by decide)), gd_p (inbN (by omega) (by decide)), nI_clamp (by omega), nI_clamp (by omega), nI_clamp (by omega), oup_eq, pk_un (by omega), oup_eq, pk_un (by omega), oup_eq, pk_un (by omega), hd, nI_1]
  unfold f_X12_writes
  by_cases c : m < 30
  · rw [h4, show (30 : Int32) = nI 30 from rfl, if_neg (fun e => by have := (nI_eq (by omega) (by decide)).mp e; omega), key O m c h4]
    have e : min m 29 = m := by omega
    refine ⟨_, rfl, by rw [oup_eq, pk_us, e], fun j hj => ?_, fun k hk => by rw [oup_eq, pk_un (by omega), oup_eq, pk_un (by omega), oup_eq, pk_un (by omega), oup_eq, pk_un (by omega)], fun c hc => by rw [oup_ne hc, oup_ne hc, oup_ne hc, oup_ne hc]⟩
    rw [oup_eq, pk_un (by omega), oup_eq, oup_eq, oup_eq]
    unfold bkN
    rw [if_pos c, e]
    unfold upd
    by_cases c1 : j = 3 * m + 2
    · rw [if_pos c1, if_pos (by omega)]
    · rw [if_neg c1, if_neg (by omega)]
      by_cases c2 : j = 3 * m + 1
      · rw [if_pos c2, if_pos (by omega)]
      · rw [if_neg c2, if_neg (by omega)]
        by_cases c3 : j = 3 * m
        · rw [if_pos c3, if_pos (by omega)]
        · rw [if_neg c3, if_neg (by omega)]
  · have e30 : m = 30 := by omega
    subst e30
    obtain ⟨O1, r1, r2, r3, r4⟩ := shift_l (k42 := fun v1 v2 O => (X12_writes_j42 v1 v2 O)) (v1 := x) (v2 := y) 87 74 FU O (by decide) (by decide) (by decide)
    rw [h4, show (30 : Int32) = nI 30 from rfl, if_pos rfl, show (74 : Int32) = nI 74 from rfl, r1]
    show ∃ O2, X12_writes_j42 x y O1 = some O2 ∧ _
    unfold X12_writes_j42
    obtain ⟨D, hD⟩ : ∃ D, D = oup O1 470 73 29 := ⟨_, rfl⟩
    have d1 : ∀ k, k ≠ 73 → D.1 470 k = O1.1 470 k := fun k hk => by rw [hD, oup_eq, pk_un hk]
    have d3 : D.1 470 73 = nI 29 := by rw [hD, oup_eq, pk_us]; rfl
    have d0 : ∀ c, c ≠ 470 → D.1 c = O1.1 c := fun c hc => by rw [hD, oup_ne hc]
    rw [← hD, key D 29 (by decide) d3]
    refine ⟨_, rfl, by rw [oup_eq, pk_us]; rfl, fun j hj => ?_, fun k hk => by rw [oup_eq, pk_un (by omega), oup_eq, pk_un (by omega), oup_eq, pk_un (by omega), oup_eq, pk_un (by omega), d1 k (by omega), r4 k (by omega)], fun c hc => by rw [oup_ne hc, oup_ne hc, oup_ne hc, oup_ne hc, d0 c hc]; exact r2 c hc⟩
    rw [oup_eq, pk_un (by omega), oup_eq, oup_eq, oup_eq, d1 70 (by decide), r4 70 (by omega)]
    unfold bkN
    rw [if_neg (by decide), show min 30 29 = 29 from rfl]
    unfold upd
    by_cases c1 : j = 3 * 29 + 2
    · rw [if_pos c1, if_pos (by omega)]
    · rw [if_neg c1, if_neg (by omega)]
      by_cases c2 : j = 3 * 29 + 1
      · rw [if_pos c2, if_pos (by omega)]
      · rw [if_neg c2, if_neg (by omega)]
        by_cases c3 : j = 3 * 29
        · rw [if_pos c3, if_pos (by omega)]
        · rw [if_neg c3, if_neg (by omega), d1 _ (by omega), r3 _ (by omega) (by omega)]; exact (if_pos (show j < 87 by omega)).symm
