/-! Rows copied: class's State, reference's rows -/
def cp0 (s t k : Nat) (C : CM) : CM := up2 C s k (C t k)
def cpr (s t j len : Nat) (C : CM) : CM := rowC C (s + j) (va_cpy (C (t + j)) (C (s + j)) 0 0 len)
theorem copy_eq (s t : Nat) (C : CM) : f_X7_copyFrom s t C = some (cpr s t 5 90 (cpr s t 4 49 (cpr s t 3 7 (cpr s t 2 7 (cpr s t 1 7 (cp0 s t 4 (cp0 s t 3 (cp0 s t 2 (cp0 s t 1 (cp0 s t 0 C)))))))))) := rfl
theorem cpr_ne {s t j len c : Nat} {C : CM} (h : c ≠ s + j) : cpr s t j len C c = C c := rowC_ne h
theorem cpr_eq {s t j len k : Nat} {C : CM} : cpr s t j len C (s + j) k = if k < len then C (t + j) k else C (s + j) k := by
  unfold cpr
  rw [rowC_eq]
  by_cases c : k < len
  · rw [if_pos c, pk_cpy_in (by omega) (by omega), Nat.sub_zero, Nat.zero_add]
  · rw [if_neg c, pk_cpy_out (by omega)]
theorem cp0_ne {s t k c : Nat} {C : CM} (h : c ≠ s) : cp0 s t k C c = C c := up2_ne h
theorem cp0_eq {s t k j : Nat} {C : CM} : cp0 s t k C s j = if j = k then C t k else C s j := by
  unfold cp0
  rw [up2_eq]; rfl
/-- what a copied State is -/
def CpSt (s t : Nat) (C C1 : CM) : Prop := (∀ c, (c < s ∨ s + 5 < c) → C1 c = C c) ∧ (∀ k, k < 5 → C1 s k = C t k) ∧ (∀ k, k < 7 → C1 (s + 1) k = C (t + 1) k) ∧ (∀ k, k < 7 → C1 (s + 2) k = C (t + 2) k) ∧ (∀ k, k < 7 → C1 (s + 3) k = C (t + 3) k) ∧ (∀ k, k < 49 → C1 (s + 4) k = C (t + 4) k) ∧ (∀ k, k < 90 → C1 (s + 5) k = C (t + 5) k)
theorem copySt {s t : Nat} (C : CM) (hd : s + 5 < t ∨ t + 5 < s) : ∃ C1, f_X7_copyFrom s t C = some C1 ∧ CpSt s t C C1 := by
  rw [copy_eq]
  refine ⟨_, rfl, fun c hc => ?_, fun k hk => ?_, fun k hk => ?_, fun k hk => ?_, fun k hk => ?_, fun k hk => ?_, fun k hk => ?_⟩
  · rw [cpr_ne (by omega), cpr_ne (by omega), cpr_ne (by omega), cpr_ne (by omega), cpr_ne (by omega), cp0_ne (by omega), cp0_ne (by omega), cp0_ne (by omega), cp0_ne (by omega), cp0_ne (by omega)]
  · have e0 : ∀ j, cp0 s t j C t = C t := fun j => cp0_ne (by omega)
    have e1 : ∀ i j, cp0 s t i (cp0 s t j C) t = C t := fun i j => by rw [cp0_ne (by omega), e0]
    have e2 : ∀ h i j, cp0 s t h (cp0 s t i (cp0 s t j C)) t = C t := fun h i j => by rw [cp0_ne (by omega), e1]
    have e3 : ∀ g h i j, cp0 s t g (cp0 s t h (cp0 s t i (cp0 s t j C))) t = C t := fun g h i j => by rw [cp0_ne (by omega), e2]
    rw [cpr_ne (by omega), cpr_ne (by omega), cpr_ne (by omega), cpr_ne (by omega), cpr_ne (by omega), cp0_eq, cp0_eq, cp0_eq, cp0_eq, cp0_eq, e0, e1, e2, e3]
    rcases (show k = 0 ∨ k = 1 ∨ k = 2 ∨ k = 3 ∨ k = 4 by omega) with rfl | rfl | rfl | rfl | rfl <;> rfl
  · rw [cpr_ne (by omega), cpr_ne (by omega), cpr_ne (by omega), cpr_ne (by omega), cpr_eq, if_pos hk, cp0_ne (by omega), cp0_ne (by omega), cp0_ne (by omega), cp0_ne (by omega), cp0_ne (by omega)]
  · rw [cpr_ne (by omega), cpr_ne (by omega), cpr_ne (by omega), cpr_eq, if_pos hk, cpr_ne (by omega), cp0_ne (by omega), cp0_ne (by omega), cp0_ne (by omega), cp0_ne (by omega), cp0_ne (by omega)]
  · rw [cpr_ne (by omega), cpr_ne (by omega), cpr_eq, if_pos hk, cpr_ne (by omega), cpr_ne (by omega), cp0_ne (by omega), cp0_ne (by omega), cp0_ne (by omega), cp0_ne (by omega), cp0_ne (by omega)]
  · rw [cpr_ne (by omega), cpr_eq, if_pos hk, cpr_ne (by omega), cpr_ne (by omega), cpr_ne (by omega), cp0_ne (by omega), cp0_ne (by omega), cp0_ne (by omega), cp0_ne (by omega), cp0_ne (by omega)]
  · rw [cpr_eq, if_pos hk, cpr_ne (by omega), cpr_ne (by omega), cpr_ne (by omega), cpr_ne (by omega), cp0_ne (by omega), cp0_ne (by omega), cp0_ne (by omega), cp0_ne (by omega), cp0_ne (by omega)]
theorem lays_l : ∀ d i m O, i + d = 164 → d < m → ∃ O1, X12_laysNow_l2 m (nI i) O = some O1 ∧ FrO1 470 O O1 ∧ (∀ k, i ≤ k → k < 164 → O1.1 470 k = O.1 447 (40 + k)) ∧ ∀ k, k < i ∨ 164 ≤ k → O1.1 470 k = O.1 470 k := by
  intro d
  induction d with
  | zero =>
    intro i m O hi hm
    obtain ⟨m, rfl⟩ : ∃ j, m = j + 1 := ⟨m - 1, by omega⟩
    have : i = 164 := by omega
    subst this
    exact ⟨O, rfl, FrO1.refl, fun k h1 h2 => absurd h1 (by omega), fun k _ => rfl⟩
  | succ d ih =>
    intro i m O hi hm
    obtain ⟨m, rfl⟩ : ∃ j, m = j + 1 := ⟨m - 1, by omega⟩
    have e4 : (40 : Int32) + nI i = nI (40 + i) := nI_add 40 i
    obtain ⟨O1, r1, r2, r3, r4⟩ := ih (i + 1) m (oup O 470 i (O.1 447 (40 + i))) (by omega) (by omega)
    refine ⟨O1, ?_, fun c hc => (r2 c hc).trans (oup_ne hc), fun k h1 h2 => ?_, fun k hk => ?_⟩
    · rw [X12_laysNow_l2, show (164 : Int32) = nI 164 from rfl, if_neg (nI_ge (by omega) (by decide)), e4, gd_p (inbN (by omega) (by decide)), gd_p (inbN (by omega) (by decide)), nI_clamp (by omega), nI_clamp (by omega), nI_1]
      exact r1
    · by_cases e : k = i
      · subst e
        rw [r4 k (by omega), oup_eq, pk_us]
      · rw [r3 k (by omega) h2, oup_ne (by decide)]
    · rw [r4 k (by omega), oup_eq, pk_un (by omega)]
theorem laysNow (O : OM) : ∃ O1, f_X12_laysNow O = some O1 ∧ FrO1 470 O O1 ∧ ∀ k, k < 164 → O1.1 470 k = O.1 447 (40 + k) := by
  obtain ⟨O1, r1, r2, r3, -⟩ := lays_l 164 0 FU O (by decide) (by decide)
  exact ⟨O1, r1, r2, fun k hk => r3 k (by omega) hk⟩
theorem keeps_l : ∀ d i m O, i + d = 164 → d < m → ∃ O1, X12_keepsNow_l2 m (nI i) O = some O1 ∧ FrO1 447 O O1 ∧ (∀ k, i ≤ k → k < 164 → O1.1 447 (40 + k) = O.1 470 k) ∧ ∀ x, x < 40 + i ∨ 204 ≤ x → O1.1 447 x = O.1 447 x := by
  intro d
  induction d with
  | zero =>
    intro i m O hi hm
    obtain ⟨m, rfl⟩ : ∃ j, m = j + 1 := ⟨m - 1, by omega⟩
    have : i = 164 := by omega
    subst this
    exact ⟨O, rfl, FrO1.refl, fun k h1 h2 => absurd h1 (by omega), fun k _ => rfl⟩
  | succ d ih =>
    intro i m O hi hm
    obtain ⟨m, rfl⟩ : ∃ j, m = j + 1 := ⟨m - 1, by omega⟩
    have e4 : (40 : Int32) + nI i = nI (40 + i) := nI_add 40 i
    obtain ⟨O1, r1, r2, r3, r4⟩ := ih (i + 1) m (oup O 447 (40 + i) (O.1 470 i)) (by omega) (by omega)
    refine ⟨O1, ?_, fun c hc => (r2 c hc).trans (oup_ne hc), fun k h1 h2 => ?_, fun k hk => ?_⟩
    · rw [X12_keepsNow_l2, show (164 : Int32) = nI 164 from rfl, if_neg (nI_ge (by omega) (by decide)), e4, gd_p (inbN (by omega) (by decide)), gd_p (inbN (by omega) (by decide)), nI_clamp (by omega), nI_clamp (by omega), nI_1]
      exact r1
    · by_cases e : k = i
      · subst e
        rw [r4 _ (by omega), oup_eq, pk_us]
      · rw [r3 k (by omega) h2, oup_ne (by decide)]
    · rw [r4 k (by omega), oup_eq, pk_un (by omega)]
theorem keepsNow (O : OM) : ∃ O1, f_X12_keepsNow O = some O1 ∧ FrO1 447 O O1 ∧ (∀ k, k < 164 → O1.1 447 (40 + k) = O.1 470 k) ∧ ∀ x, x < 40 ∨ 204 ≤ x → O1.1 447 x = O.1 447 x := by
  obtain ⟨O1, r1, r2, r3, r4⟩ := keeps_l 164 0 FU O (by decide) (by decide)
  exact ⟨O1, r1, r2, fun k hk => r3 k (by omega) hk, fun x hx => r4 x (by omega)⟩
theorem copies_l {v : Int32} (a b : Nat) (hab : (v ≠ 0 ∧ a = 447 ∧ b = 448) ∨ (v = 0 ∧ a = 448 ∧ b = 447)) : ∀ d i m O, i + d = 5130 → d < m → ∃ O1, X12_copies_l2 m v (nI i) O = some O1 ∧ FrO1 b O O1 ∧ (∀ k, i ≤ k → k < 5130 → O1.1 b k = O.1 a k) ∧ ∀ k, k < i ∨ 5130 ≤ k → O1.1 b k = O.1 b k := by
  intro d
  induction d with
  | zero =>
    intro i m O hi hm
    obtain ⟨m, rfl⟩ : ∃ j, m = j + 1 := ⟨m - 1, by omega⟩
    have : i = 5130 := by omega
    subst this
    exact ⟨O, rfl, FrO1.refl, fun k h1 h2 => absurd h1 (by omega), fun k _ => rfl⟩
  | succ d ih =>
    intro i m O hi hm
    obtain ⟨m, rfl⟩ : ∃ j, m = j + 1 := ⟨m - 1, by omega⟩
    obtain ⟨O1, r1, r2, r3, r4⟩ := ih (i + 1) m (oup O b i (O.1 a i)) (by omega) (by omega)
    have hne : a ≠ b := by omega
    refine ⟨O1, ?_, fun c hc => (r2 c hc).trans (oup_ne hc), fun k h1 h2 => ?_, fun k hk => ?_⟩
    · rw [X12_copies_l2, show (5130 : Int32) = nI 5130 from rfl, if_neg (nI_ge (by omega) (by decide))]
      simp only [gd_p (inbN (show i < 5130 by omega) (by decide)), nI_clamp (show i < 2 ^ 31 by omega), X12_copies_j40, nI_1]
      rcases hab with ⟨h1, h2, h3⟩ | ⟨h1, h2, h3⟩
      · rw [if_neg h1]; subst h2 h3; exact r1
      · rw [if_pos h1]; subst h2 h3; exact r1
    · by_cases e : k = i
      · subst e
        rw [r4 _ (by omega), oup_eq, pk_us]
      · rw [r3 k (by omega) h2, oup_ne hne]
    · rw [r4 k (by omega), oup_eq, pk_un (by omega)]
theorem copies_out (O : OM) : ∃ O1, f_X12_copies 1 O = some O1 ∧ FrO1 448 O O1 ∧ ∀ k, k < 5130 → O1.1 448 k = O.1 447 k := by
  obtain ⟨O1, r1, r2, r3, -⟩ := copies_l (v := 1) 447 448 (Or.inl ⟨by decide, rfl, rfl⟩) 5130 0 FU O (by decide) (by decide)
  exact ⟨O1, r1, r2, fun k hk => r3 k (by omega) hk⟩
theorem copies_in (O : OM) : ∃ O1, f_X12_copies 0 O = some O1 ∧ FrO1 447 O O1 ∧ ∀ k, k < 5130 → O1.1 447 k = O.1 448 k := by
  obtain ⟨O1, r1, r2, r3, -⟩ := copies_l (v := 0) 448 447 (Or.inr ⟨rfl, rfl, rfl⟩) 5130 0 FU O (by decide) (by decide)
  exact ⟨O1, r1, r2, fun k hk => r3 k (by omega) hk⟩
theorem shiftS_l {k44 : OM → Option OM} : ∀ d i m O, i + d = 4966 → 210 ≤ i → d < m → ∃ O1, X12_keepsStep_l15 k44 m (nI i) O = k44 O1 ∧ FrO1 447 O O1 ∧ (∀ k, i ≤ k → k < 4966 → O1.1 447 k = O.1 447 (k + 164)) ∧ ∀ k, k < i ∨ 4966 ≤ k → O1.1 447 k = O.1 447 k := by
  intro d
  induction d with
  | zero =>
    intro i m O hi h2 hm
    obtain ⟨m, rfl⟩ : ∃ j, m = j + 1 := ⟨m - 1, by omega⟩
    have : i = 4966 := by omega
    subst this
    exact ⟨O, rfl, FrO1.refl, fun k h1 h2 => absurd h1 (by omega), fun k _ => rfl⟩
  | succ d ih =>
    intro i m O hi h2 hm
    obtain ⟨m, rfl⟩ : ∃ j, m = j + 1 := ⟨m - 1, by omega⟩
    have e4 : nI i + (164 : Int32) = nI (i + 164) := nI_add i 164
    obtain ⟨O1, r1, r2, r3, r4⟩ := ih (i + 1) m (oup O 447 i (O.1 447 (i + 164))) (by omega) (by omega) (by omega)
    refine ⟨O1, ?_, fun c hc => (r2 c hc).trans (oup_ne hc), fun k h1 h2 => ?_, fun k hk => ?_⟩
    · rw [X12_keepsStep_l15, show (4966 : Int32) = nI 4966 from rfl, if_neg (nI_ge (by omega) (by decide)), e4, gd_p (inbN (by omega) (by decide)), gd_p (inbN (by omega) (by decide)), nI_clamp (by omega), nI_clamp (by omega), nI_1]
      exact r1
    · by_cases e : k = i
      · subst e
        rw [r4 _ (by omega), oup_eq, pk_us]
      · rw [r3 k (by omega) h2, oup_eq, pk_un (by omega)]
    · rw [r4 k (by omega), oup_eq, pk_un (by omega)]
theorem putS_l {k97 : OM → Option OM} {s : Nat} (hs : s < 30) : ∀ d i m O, i + d = 164 → d < m → O.1 447 3 = nI s → ∃ O1, X12_keepsStep_l54 k97 m (nI i) O = k97 O1 ∧ FrO1 447 O O1 ∧ (∀ k, i ≤ k → k < 164 → O1.1 447 (210 + 164 * s + k) = O.1 447 (40 + k)) ∧ ∀ x, x < 210 + 164 * s + i ∨ 210 + 164 * s + 164 ≤ x → O1.1 447 x = O.1 447 x := by
  intro d
  induction d with
  | zero =>
    intro i m O hi hm h3
    obtain ⟨m, rfl⟩ : ∃ j, m = j + 1 := ⟨m - 1, by omega⟩
    have : i = 164 := by omega
    subst this
    exact ⟨O, rfl, FrO1.refl, fun k h1 h2 => absurd h1 (by omega), fun k _ => rfl⟩
  | succ d ih =>
    intro i m O hi hm h3
    obtain ⟨m, rfl⟩ : ∃ j, m = j + 1 := ⟨m - 1, by omega⟩
    have e4 : (40 : Int32) + nI i = nI (40 + i) := nI_add 40 i
    have e5 : (210 : Int32) + 164 * nI s + nI i = nI (210 + 164 * s + i) := by rw [show (164 : Int32) = nI 164 from rfl, pk_mul, show (210 : Int32) = nI 210 from rfl, nI_add, nI_add]
    obtain ⟨O1, r1, r2, r3, r4⟩ := ih (i + 1) m (oup O 447 (210 + 164 * s + i) (O.1 447 (40 + i))) (by omega) (by omega) (by rw [oup_eq, pk_un (by omega)]; exact h3)
    refine ⟨O1, ?_, fun c hc => (r2 c hc).trans (oup_ne hc), fun k h1 h2 => ?_, fun k hk => ?_⟩
    · rw [X12_keepsStep_l54, h3, e4, e5, show (164 : Int32) = nI 164 from rfl, if_neg (nI_ge (by omega) (by decide)), gd_p (inbN (by omega) (by decide)), gd_p (inbN (by omega) (by decide)), nI_clamp (by omega), nI_clamp (by omega), nI_1]
      exact r1
    · by_cases e : k = i
      · subst e
        rw [r4 _ (by omega), oup_eq, pk_us]
      · rw [r3 k (by omega) h2, oup_eq, pk_un (by omega)]
    · rw [r4 k (by omega), oup_eq, pk_un (by omega)]
theorem keepsStep {s : Nat} (O : OM) (hs : s ≤ 30) (h3 : O.1 447 3 = nI s) : ∃ O1, f_X12_keepsStep O = some O1 ∧ FrO1 447 O O1 ∧ O1.1 447 3 = nI (min s 29 + 1) ∧ (∀ k, k ≠ 3 → k < 210 → O1.1 447 k = O.1 447 k) ∧
    (∀ j k, j < min s 29 → k < 164 → O1.1 447 (210 + 164 * j + k) = O.1 447 (210 + 164 * (if s = 30 then j + 1 else j) + k)) ∧ ∀ k, k < 164 → O1.1 447 (210 + 164 * (min s 29) + k) = O.1 447 (40 + k) := by
  unfold f_X12_keepsStep
  rw [h3, show (30 : Int32) = nI 30 from rfl]
  by_cases c : s = 30
  · subst c
    rw [if_pos rfl]
    obtain ⟨O1, r1, r2, r3, r4⟩ := shiftS_l (k44 := fun O => (X12_keepsStep_j44 O)) 4756 210 FU O (by decide) (by decide) (by decide)
    rw [show (210 : Int32) = nI 210 from rfl, r1]
    show ∃ O2, X12_keepsStep_j44 O1 = some O2 ∧ _
    unfold X12_keepsStep_j44 X12_keepsStep_j52
    obtain ⟨O2, q1, q2, q3, q4⟩ := putS_l (k97 := fun O => (X12_keepsStep_j97 O)) (s := 29) (by decide) 164 0 FU (oup O1 447 3 29) (by decide) (by decide) (by rw [oup_eq, pk_us]; rfl)
    rw [show (0 : Int32) = nI 0 from rfl, q1]
    have e3 : O2.1 447 3 = nI 29 := by rw [q4 3 (by omega), oup_eq, pk_us]; rfl
    refine ⟨_, rfl, fun c hc => ?_, ?_, fun k h1 h2 => ?_, fun j k hj hk => ?_, fun k hk => ?_⟩
    · rw [oup_ne hc, q2 c hc, oup_ne hc]; exact r2 c hc
    · rw [oup_eq, pk_us, e3]; rfl
    · rw [oup_eq, pk_un h1, q4 _ (by omega), oup_eq, pk_un h1, r4 _ (by omega)]
    · rw [oup_eq, pk_un (by omega), q4 _ (by omega), oup_eq, pk_un (by omega), r3 _ (by omega) (by omega), if_pos rfl, show 210 + 164 * j + k + 164 = 210 + 164 * (j + 1) + k by omega]
    · rw [oup_eq, pk_un (by omega), show min 30 29 = 29 from rfl, q3 k (by omega) hk, oup_eq, pk_un (by omega), r4 _ (by omega)]
  · rw [if_neg (fun e => c ((nI_eq (by omega) (by decide)).mp e))]
    unfold X12_keepsStep_j52
    obtain ⟨O2, q1, q2, q3, q4⟩ := putS_l (k97 := fun O => (X12_keepsStep_j97 O)) (s := s) (by omega) 164 0 FU O (by decide) (by decide) h3
    rw [show (0 : Int32) = nI 0 from rfl, q1]
    have e3 : O2.1 447 3 = nI s := by rw [q4 3 (by omega)]; exact h3
    have em : min s 29 = s := by omega
    refine ⟨_, rfl, fun c hc => ?_, ?_, fun k h1 h2 => ?_, fun j k hj hk => ?_, fun k hk => ?_⟩
    · rw [oup_ne hc, q2 c hc]
    · rw [oup_eq, pk_us, e3, em]; exact nI_1 s
    · rw [oup_eq, pk_un h1, q4 _ (by omega)]
    · rw [oup_eq, pk_un (by omega), q4 _ (by omega), if_neg c]
    · rw [oup_eq, pk_un (by omega), em, q3 k (by omega) hk]
