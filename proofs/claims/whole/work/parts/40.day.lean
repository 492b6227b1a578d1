/-! A day begins, an hour passes, on both sides -/
def zp (N : Nat) (w : Nat → Int32) (p : Nat) : Prop := ∀ r, r < N → w (21 + (7 * p + r)) = 0
noncomputable def zc (N : Nat) (w : Nat → Int32) : Nat → Nat
  | 0 => 0
  | k + 1 => zc N w k + @ite Nat (zp N w k) (Classical.propDecidable _) 1 0
theorem zc_s (N : Nat) (w : Nat → Int32) (k : Nat) : (zp N w k → zc N w (k + 1) = zc N w k + 1) ∧ (¬ zp N w k → zc N w (k + 1) = zc N w k) :=
  ⟨fun h => congrArg (zc N w k + ·) (if_pos h), fun h => congrArg (zc N w k + ·) (if_neg h)⟩
theorem zc_le (N : Nat) (w : Nat → Int32) : ∀ k, zc N w k ≤ k := by
  intro k
  induction k with
  | zero => exact Nat.le_refl _
  | succ k ih =>
    by_cases c : zp N w k
    · rw [(zc_s N w k).1 c]; omega
    · rw [(zc_s N w k).2 c]; omega
theorem zc_mono {N : Nat} {w w' : Nat → Int32} : ∀ k, (∀ p, p < k → zp N w p → zp N w' p) → zc N w k ≤ zc N w' k := by
  intro k
  induction k with
  | zero => intro _; exact Nat.le_refl _
  | succ k ih =>
    intro h
    have h1 := ih (fun p hp => h p (by omega))
    by_cases c : zp N w k
    · rw [(zc_s N w k).1 c, (zc_s N w' k).1 (h k (by omega) c)]; omega
    · rw [(zc_s N w k).2 c]
      by_cases c2 : zp N w' k
      · rw [(zc_s N w' k).1 c2]; omega
      · rw [(zc_s N w' k).2 c2]; exact h1
theorem zc_more {N p0 : Nat} {w w' : Nat → Int32} (h0 : ¬ zp N w p0) (h1 : zp N w' p0) : ∀ k, p0 < k → (∀ p, p < k → zp N w p → zp N w' p) → zc N w k + 1 ≤ zc N w' k := by
  intro k
  induction k with
  | zero => intro h; omega
  | succ k ih =>
    intro hk h
    by_cases e : p0 = k
    · subst e
      have h2 := zc_mono p0 (fun p hp => h p (by omega))
      rw [(zc_s N w p0).2 h0, (zc_s N w' p0).1 h1]; omega
    · have h2 := ih (by omega) (fun p hp => h p (by omega))
      by_cases c : zp N w k
      · rw [(zc_s N w k).1 c, (zc_s N w' k).1 (h k (by omega) c)]; omega
      · rw [(zc_s N w k).2 c]
        by_cases c2 : zp N w' k
        · rw [(zc_s N w' k).1 c2]; omega
        · rw [(zc_s N w' k).2 c2]; exact h2
/-- the book of the town (q = 0) and of what is foreseen -/
def BR (q n m : Nat) (C : CM) (O : OM) : Prop :=
  (q = 0 ∧ C 6 4 = O.1 470 73 ∧ ∀ j, j < 90 → C 11 j = O.1 470 (74 + j)) ∨
  (q ≠ 0 ∧ C (stI q) 4 = nI m ∧ m ≤ zc n (O.1 470) n ∧ (m = 0 → O.1 446 43 = -1) ∧ (0 < m → ∃ who, who < 7 ∧ O.1 446 43 = nI who ∧ C (stI q + 5) 1 = nI who))
/-- what is nothing stays nothing -/
def ZK (O O1 : OM) : Prop := (∀ j, j < 49 → O.1 470 (21 + j) = 0 → O1.1 470 (21 + j) = 0) ∧ O1.1 470 70 = O.1 470 70 ∧ O1.1 470 71 = O.1 470 71
theorem ZK.refl {O : OM} : ZK O O := ⟨fun _ _ h => h, rfl, rfl⟩
theorem ZK.trans {O O1 O2 : OM} (h : ZK O O1) (h2 : ZK O1 O2) : ZK O O2 := ⟨fun j hj e => h2.1 j hj (h.1 j hj e), h2.2.1.trans h.2.1, h2.2.2.trans h.2.2⟩
theorem ZK.of1 {O O1 : OM} (h : O1.1 470 = O.1 470) : ZK O O1 := ⟨fun j _ e => by rw [h]; exact e, by rw [h], by rw [h]⟩
theorem ZK.ne {O : OM} {k : Nat} {v : Int32} (h : k < 21 ∨ 72 ≤ k) : ZK O (oup O 470 k v) := ⟨fun j hj e => by rw [oup_eq, pk_un (by omega)]; exact e, by rw [oup_eq, pk_un (by omega)], by rw [oup_eq, pk_un (by omega)]⟩
theorem ZK.zc {n : Nat} {O O1 : OM} (h7 : n ≤ 7) (h : ZK O O1) : zc n (O.1 470) n ≤ zc n (O1.1 470) n := zc_mono n (fun p hp hz r hr => h.1 (7 * p + r) (by omega) (hz r hr))
theorem BR.bk {q n m : Nat} {C C1 : CM} {O O1 : OM} (h7 : n ≤ 7) (hb : BK q C C1 O O1) (hz : ZK O O1) (h : BR q n m C O) : BR q n m C1 O1 := by
  rcases h with ⟨h0, h1, h2⟩ | ⟨h0, h1, h2, h3, h4⟩
  · subst h0
    have b1 : C1 6 4 = C 6 4 := hb.1
    have b2 : C1 11 = C 11 := hb.2.1
    exact Or.inl ⟨rfl, by rw [b1, hb.2.2.1 73 (by omega)]; exact h1, fun j hj => by rw [b2, hb.2.2.1 _ (by omega)]; exact h2 j hj⟩
  · exact Or.inr ⟨h0, by rw [hb.1]; exact h1, Nat.le_trans h2 (ZK.zc h7 hz), by rw [hb.2.2.2]; exact h3, by rw [hb.2.2.2, hb.2.1]; exact h4⟩
/-- one's debts struck out, on either side -/
theorem zeroC {s n p : Nat} (h7 : n ≤ 7) (h1 : p < n) : ∀ d i m C, i + d = n → d < m → C s 0 = nI n → ∃ C1, X7_ruins_l27 s m (nI p) (nI i) C = some C1 ∧ (∀ c, c ≠ s + 4 → C1 c = C c) ∧ ∀ j, C1 (s + 4) j = if 7 * p + i ≤ j ∧ j < 7 * p + n ∧ j ≠ 8 * p then 0 else C (s + 4) j := by
  intro d
  induction d with
  | zero =>
    intro i m C hi hm hn
    obtain ⟨m, rfl⟩ : ∃ j, m = j + 1 := ⟨m - 1, by omega⟩
    have : i = n := by omega
    subst this
    rw [X7_ruins_l27, hn, if_pos (Int32.le_refl _)]
    exact ⟨C, rfl, fun _ _ => rfl, fun j => by rw [if_neg (by omega)]⟩
  | succ d ih =>
    intro i m C hi hm hn
    obtain ⟨m, rfl⟩ : ∃ j, m = j + 1 := ⟨m - 1, by omega⟩
    have hin : i < n := by omega
    rw [X7_ruins_l27, hn, if_neg (leN hin h7)]
    by_cases e : p = i
    · subst e
      rw [setE, bnd_s, nI_1]
      obtain ⟨C1, r1, r2, r3⟩ := ih (p + 1) m C (by omega) (by omega) hn
      refine ⟨C1, r1, r2, fun j => ?_⟩
      rw [r3]
      by_cases c : 7 * p + (p + 1) ≤ j ∧ j < 7 * p + n ∧ j ≠ 8 * p
      · rw [if_pos c, if_pos (by omega)]
      · rw [if_neg c, if_neg (by omega)]
    · rw [setY hn h7 h1 hin e, show f_X11_clamped 0 0 9999 = 0 from rfl, bnd_s, nI_1]
      obtain ⟨C1, r1, r2, r3⟩ := ih (i + 1) m (up2 C (s + 4) (7 * p + i) 0) (by omega) (by omega) (by rw [up2_ne (by omega)]; exact hn)
      refine ⟨C1, r1, fun c hc => (r2 c hc).trans (up2_ne hc), fun j => ?_⟩
      rw [r3, up2_eq]
      by_cases c : 7 * p + (i + 1) ≤ j ∧ j < 7 * p + n ∧ j ≠ 8 * p
      · rw [if_pos c, if_pos (by omega)]
      · rw [if_neg c]
        by_cases c2 : j = 7 * p + i
        · rw [c2, pk_us, if_pos (by omega)]
        · rw [pk_un c2, if_neg (by omega)]
theorem zeroO {n p : Nat} {k179 : Int32 → Int32 → Int32 → OM → Option (Int32 × OM)} {v1 v3 : Int32} (h7 : n ≤ 7) (h1 : p < n) : ∀ d i m O, i + d = n → d < m → O.1 447 0 = nI n → ∃ O1, X12_dayBegins_l150 k179 m v1 (nI p) v3 (nI i) O = k179 v1 (nI p) v3 O1 ∧ FrO1 470 O O1 ∧ ∀ j, O1.1 470 j = if 21 + (7 * p + i) ≤ j ∧ j < 21 + (7 * p + n) then 0 else O.1 470 j := by
  intro d
  induction d with
  | zero =>
    intro i m O hi hm hn
    obtain ⟨m, rfl⟩ : ∃ j, m = j + 1 := ⟨m - 1, by omega⟩
    have : i = n := by omega
    subst this
    rw [X12_dayBegins_l150, hn, if_pos (Int32.le_refl _)]
    exact ⟨O, rfl, FrO1.refl, fun j => by rw [if_neg (by omega)]⟩
  | succ d ih =>
    intro i m O hi hm hn
    obtain ⟨m, rfl⟩ : ∃ j, m = j + 1 := ⟨m - 1, by omega⟩
    have hin : i < n := by omega
    rw [X12_dayBegins_l150, hn, if_neg (leN hin h7), debtN', gd_p (inbN (by omega) (by decide)), nI_clamp (by omega), nI_1]
    obtain ⟨O1, r1, r2, r3⟩ := ih (i + 1) m (oup O 470 (21 + (7 * p + i)) 0) (by omega) (by omega) (by rw [oup_ne (by decide)]; exact hn)
    refine ⟨O1, r1, fun c hc => (r2 c hc).trans (oup_ne hc), fun j => ?_⟩
    rw [r3, oup_eq]
    by_cases c : 21 + (7 * p + (i + 1)) ≤ j ∧ j < 21 + (7 * p + n)
    · rw [if_pos c, if_pos (by omega)]
    · rw [if_neg c]
      by_cases c2 : j = 21 + (7 * p + i)
      · rw [c2, pk_us, if_pos (by omega)]
      · rw [pk_un c2, if_neg (by omega)]
theorem late_in {q n p : Nat} (h1 : p < n) (k110 : Int32 → CM → Option (Int32 × CM)) (k61 : Int32 → Int32 → OM → Option (Int32 × OM)) (v : Int32) : ∀ d i m1 m2 C O, TW q n C O → i + d = n → d < m1 → d < m2 →
    ∃ C1 O1, X9_passHour_l63 q k110 m1 (nI p) (nI i) C = k110 (nI p) C1 ∧ X12_dayBegins_l16 k61 m2 v (nI p) (nI i) O = k61 v (nI p) O1 ∧ KP q n C C1 O O1 ∧ ZK O O1 := by
  intro d
  induction d with
  | zero =>
    intro i m1 m2 C O h hi hm1 hm2
    obtain ⟨m1, rfl⟩ : ∃ m, m1 = m + 1 := ⟨m1 - 1, by omega⟩
    obtain ⟨m2, rfl⟩ : ∃ m, m2 = m + 1 := ⟨m2 - 1, by omega⟩
    have : i = n := by omega
    subst this
    rw [X9_passHour_l63, X12_dayBegins_l16, h.1.1, h.1.2.1.2.1, if_pos (Int32.le_refl _), if_pos (Int32.le_refl _)]
    exact ⟨C, O, rfl, rfl, KP.refl h, ZK.refl⟩
  | succ d ih =>
    intro i m1 m2 C O h hi hm1 hm2
    have h7 := h.1.2.1.1
    obtain ⟨m1, rfl⟩ : ∃ m, m1 = m + 1 := ⟨m1 - 1, by omega⟩
    obtain ⟨m2, rfl⟩ : ∃ m, m2 = m + 1 := ⟨m2 - 1, by omega⟩
    have hin : i < n := by omega
    obtain ⟨a, ha, ea⟩ := h.2.2.2.2.2.1 (7 * p + i) (by omega)
    rw [X9_passHour_l63, X12_dayBegins_l16, h.1.1, h.1.2.1.2.1, if_neg (leN hin h7), if_neg (leN hin h7), owedY h.1.1 h7 h1 hin, bnd_s, h.2.1.2.2.2.2.2.2 _ (by omega), debtN']
    simp only [gd_p (inbN (show 21 + (7 * p + i) < 164 by omega) (by decide)), nI_clamp (show 21 + (7 * p + i) < 2 ^ 31 by omega), ea, X9_passHour_j104, X12_dayBegins_j55, nI_1]
    by_cases c : a = 0
    · subst c
      rw [if_pos (show nI 0 ≤ 0 from Int32.le_refl _), if_pos (show nI 0 ≤ 0 from Int32.le_refl _)]
      exact ih (i + 1) m1 m2 C O h (by omega) (by omega) (by omega)
    · rw [if_neg (nI_nle (by omega) (by omega)), if_neg (nI_nle (by omega) (by omega))]
      have hne : p ≠ i := by
        intro e
        subst e
        have := h.2.2.2.2.2.2.1 p (by omega)
        rw [show 21 + 8 * p = 21 + (7 * p + p) by omega, ea] at this
        exact nI_ne0 (by omega) (by omega) this
      obtain ⟨k, Ca, Oa, hk, s1, s2, s3, s4⟩ := late_both h.1 h.2.1 h.2.2 h1 hin
      have ka := KP.ofL h s3 s4
      obtain ⟨z, -, hz, z1, -⟩ := clampH (x := nI k) (a := 0) (b := 9999) (by decide) (by decide)
      have kb := KP.owe (k := k) ka.1 (p := p) (r := i) (by omega) (by omega) hne hk
      have b3 := setY (x := nI k) ka.1.1.1 h7 h1 hin hne
      have ez : f_X11_clamped (nI k) 0 9999 = nI k := by
        have := clampS (a := k) (b := 0) hk (by decide)
        rw [show nI k - nI 0 = nI k from Int32.sub_zero _] at this
        exact this
      rw [ez] at b3
      obtain ⟨C1, O1, r1, r2, r3, r4⟩ := ih (i + 1) m1 m2 _ _ kb.1 (by omega) (by omega) (by omega)
      rw [s1, bnd2_s, b3, bnd_s, s2, bnd2_s]
      refine ⟨C1, O1, r1, r2, ka.trans (kb.trans r3), ?_⟩
      refine ZK.trans (ZK.of1 (s4 470 (by decide))) (ZK.trans ⟨fun j hj e => ?_, by rw [oup_eq, pk_un (by omega)], by rw [oup_eq, pk_un (by omega)]⟩ r4)
      by_cases c2 : j = 7 * p + i
      · rw [c2, s4 470 (by decide), ea] at e
        exact absurd e (nI_ne0 (by omega) (by omega))
      · rw [oup_eq, pk_un (by omega)]; exact e
theorem late_out {q n : Nat} (k116 : CM → Option (Int32 × CM)) (k67 : Int32 → OM → Option (Int32 × OM)) (v : Int32) : ∀ d i m1 m2 C O, TW q n C O → i + d = n → d < m1 → d < m2 →
    ∃ C1 O1, X9_passHour_l50 q k116 m1 (nI i) C = k116 C1 ∧ X12_dayBegins_l4 k67 m2 v (nI i) O = k67 v O1 ∧ KP q n C C1 O O1 ∧ ZK O O1 := by
  intro d
  induction d with
  | zero =>
    intro i m1 m2 C O h hi hm1 hm2
    obtain ⟨m1, rfl⟩ : ∃ m, m1 = m + 1 := ⟨m1 - 1, by omega⟩
    obtain ⟨m2, rfl⟩ : ∃ m, m2 = m + 1 := ⟨m2 - 1, by omega⟩
    have : i = n := by omega
    subst this
    rw [X9_passHour_l50, X12_dayBegins_l4, h.1.1, h.1.2.1.2.1, if_pos (Int32.le_refl _), if_pos (Int32.le_refl _)]
    exact ⟨C, O, rfl, rfl, KP.refl h, ZK.refl⟩
  | succ d ih =>
    intro i m1 m2 C O h hi hm1 hm2
    have h7 := h.1.2.1.1
    obtain ⟨m1, rfl⟩ : ∃ m, m1 = m + 1 := ⟨m1 - 1, by omega⟩
    obtain ⟨m2, rfl⟩ : ∃ m, m2 = m + 1 := ⟨m2 - 1, by omega⟩
    have hin : i < n := by omega
    obtain ⟨Ca, Oa, a1, a2, a3, a4⟩ := late_in hin (fun v1 C => (X9_passHour_j110 q (fun v1 C => X9_passHour_l50 q k116 m1 v1 C) k116 v1 C)) (fun v1 v2 O => (X12_dayBegins_j61 (fun v1 v2 O => X12_dayBegins_l4 k67 m2 v1 v2 O) k67 v1 v2 O)) v n 0 FU FU C O h (by omega) (by unfold FU; omega) (by unfold FU; omega)
    obtain ⟨C1, O1, r1, r2, r3, r4⟩ := ih (i + 1) m1 m2 Ca Oa a3.1 (by omega) (by omega) (by omega)
    rw [X9_passHour_l50, X12_dayBegins_l4, h.1.1, h.1.2.1.2.1, if_neg (leN hin h7), if_neg (leN hin h7), show (0 : Int32) = nI 0 from rfl, a1, a2]
    simp only [X9_passHour_j110, X12_dayBegins_j61, nI_1]
    exact ⟨C1, O1, r1, r2, a3.trans r3, a4.trans r4⟩
