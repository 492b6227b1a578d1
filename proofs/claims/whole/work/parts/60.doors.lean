/-! Doors: the class's sets ahead, and both in step -/
theorem b_or : ∀ s, s < 128 → ∀ p, p < 7 → bt s p = false → (nI s ||| ((1 : Int32) <<< (nI p &&& 31))) &&& (127 : Int32) = nI (s + 2 ^ p) ∧ (nI s ||| ((1 : Int32) <<< (nI p &&& 31))) = nI (s + 2 ^ p) ∧ s + 2 ^ p < 128 ∧ nI s &&& (127 : Int32) = nI s := by decide +kernel
theorem b_cmp : ∀ n, n < 8 → ∀ R, R < 2 ^ n → ∀ p, p < n → bt (2 ^ n - 1 - R) p = !bt R p := by decide +kernel
theorem b_cmp2 : ∀ n, n < 8 → ∀ R, R < 2 ^ n → ∀ p, p < n → bt R p = true → 2 ^ n - 1 - R + 2 ^ p = 2 ^ n - 1 - (R - 2 ^ p) := by decide +kernel
theorem paid_l {W : Nat → Nat → Nat} {n R x : Nat} {C : CM} (hn : n ≤ 7) (hR : R < 2 ^ n) (hx : x < n) (h0 : C 6 0 = nI n) (hW : ∀ p q, p < 7 → q < 7 → C 10 (7 * p + q) = nI (W p q)) : ∀ d k m v, k + d = n → d < m → X5_paidWith_l18 6 m (nI (2 ^ n - 1 - R)) (nI x) (nI v) (nI k) C = some (nI (v + (dOut W n R x - sN (fun p => if bt R p then 0 else W p x) k))) ∧ sN (fun p => if bt R p then 0 else W p x) k ≤ dOut W n R x := by
  have hp : 2 ^ n ≤ 128 := Nat.pow_le_pow_right (by decide) hn
  intro d
  induction d with
  | zero =>
    intro k m v hk hm
    obtain ⟨m, rfl⟩ : ∃ j, m = j + 1 := ⟨m - 1, by omega⟩
    have : k = n := by omega
    subst this
    rw [X5_paidWith_l18, h0, if_pos (Int32.le_refl _)]
    unfold dOut
    rw [Nat.sub_self, Nat.add_zero]
    exact ⟨rfl, Nat.le_refl _⟩
  | succ d ih =>
    intro k m v hk hm
    obtain ⟨m, rfl⟩ : ∃ j, m = j + 1 := ⟨m - 1, by omega⟩
    have hkn : k < n := by omega
    have es : sN (fun p => if bt R p then 0 else W p x) (k + 1) = sN (fun p => if bt R p then 0 else W p x) k + (if bt R k then 0 else W k x) := rfl
    rw [X5_paidWith_l18, h0, if_neg (leN hkn hn), b_cls _ (by omega) k (by omega), b_cmp n (by omega) R hR k hkn]
    simp only [X5_paidWith_j48, nI_1]
    by_cases b : bt R k = true
    · rw [if_pos (by rw [b]; decide)]
      obtain ⟨g1, g2⟩ := ih (k + 1) m v (by omega) (by omega)
      rw [es, if_pos b, Nat.add_zero] at g1 g2
      exact ⟨g1, g2⟩
    · rw [if_neg (by rw [(Bool.not_eq_true _).mp b]; decide), owedY (s := 6) h0 hn hkn hx, bnd_s, show C (6 + 4) (7 * k + x) = nI (W k x) from hW k x (by omega) (by omega), nI_add]
      obtain ⟨g1, g2⟩ := ih (k + 1) m (v + W k x) (by omega) (by omega)
      rw [es, if_neg b] at g1 g2
      rw [g1]
      refine ⟨?_, by omega⟩
      congr 2
      omega
theorem paid_C {W : Nat → Nat → Nat} {n R x y : Nat} {C : CM} (hn : n ≤ 7) (hR : R < 2 ^ n) (hx : x < n) (hb : bt R x = true) (h0 : C 6 0 = nI n) (hW : ∀ p q, p < 7 → q < 7 → C 10 (7 * p + q) = nI (W p q)) (hy : C 416 (2 ^ n - 1 - (R - 2 ^ x)) = nI y) :
    f_X5_paidWith 6 (nI (2 ^ n - 1 - R)) (nI x) C = some (nI (y + dOut W n R x)) := by
  have hp : 2 ^ n ≤ 128 := Nat.pow_le_pow_right (by decide) hn
  have hbf : bt (2 ^ n - 1 - R) x = false := by rw [b_cmp n (by omega) R hR x hx, hb]; rfl
  obtain ⟨o1, -, o3, -⟩ := b_or _ (show 2 ^ n - 1 - R < 128 by omega) x (by omega) hbf
  unfold f_X5_paidWith
  rw [o1, gd_p (inbN o3 (by decide)), nI_clamp (by omega), b_cmp2 n (by omega) R hR x hx hb, hy]
  have := (paid_l hn hR hx h0 hW n 0 FU y (by omega) (by unfold FU; omega)).1
  rw [show sN (fun p => if bt R p then 0 else W p x) 0 = 0 from rfl, Nat.sub_zero] at this
  exact this
theorem dWt_le {W : Nat → Nat → Nat} {n R : Nat} (hn : n ≤ 7) (hW : ∀ p q, W p q ≤ 9999) : dWt W n R ≤ 489951 := by
  have := sN_le (f := fun p => if bt R p then 0 else dIn W n p R) (b := 69993) n (fun q _ => by
    show (if bt R q then 0 else dIn W n q R) ≤ 69993
    split
    · exact Nat.zero_le _
    · exact dIn_le hn hW)
  unfold dWt
  have h2 : n * 69993 ≤ 7 * 69993 := Nat.mul_le_mul_right _ hn
  omega
theorem weigh_in {W : Nat → Nat → Nat} {n R : Nat} {C0 : CM} {b : Nat → Nat} (hn : n ≤ 7) (hR : R < 2 ^ n) (h0 : C0 6 0 = nI n) (hW : ∀ p q, p < 7 → q < 7 → C0 10 (7 * p + q) = nI (W p q)) (hW9 : ∀ p q, W p q ≤ 9999) (hb : BP W n b (2 ^ n)) (k88 : Int32 → CM → Option CM) :
    ∀ d k m C, k + d = n → d < m → (∀ c, c ≠ 416 → C c = C0 c) → (∀ r, r < R → C 416 (2 ^ n - 1 - r) = nI (b r + dWt W n r)) →
      ((C 416 (2 ^ n - 1 - R) = 2147483647 ∧ ∀ p, p < k → bt R p = false) ∨ ∃ x, x ≤ 69993 * R ∧ C 416 (2 ^ n - 1 - R) = nI (x + dWt W n R) ∧ (∃ p, p < k ∧ bt R p = true ∧ x = dIn W n p (R - 2 ^ p) + b (R - 2 ^ p)) ∧ ∀ p, p < k → bt R p = true → x ≤ dIn W n p (R - 2 ^ p) + b (R - 2 ^ p)) →
      ∃ C1, X5_weighOrders_l41 6 k88 m (nI (2 ^ n - 1 - R)) (nI k) C = k88 (nI (2 ^ n - 1 - R)) C1 ∧ (∀ c, c ≠ 416 → C1 c = C0 c) ∧ (∀ r, r < R → C1 416 (2 ^ n - 1 - r) = nI (b r + dWt W n r)) ∧
        ((C1 416 (2 ^ n - 1 - R) = 2147483647 ∧ ∀ p, p < n → bt R p = false) ∨ ∃ x, x ≤ 69993 * R ∧ C1 416 (2 ^ n - 1 - R) = nI (x + dWt W n R) ∧ (∃ p, p < n ∧ bt R p = true ∧ x = dIn W n p (R - 2 ^ p) + b (R - 2 ^ p)) ∧ ∀ p, p < n → bt R p = true → x ≤ dIn W n p (R - 2 ^ p) + b (R - 2 ^ p)) := by
  have hp : 2 ^ n ≤ 128 := Nat.pow_le_pow_right (by decide) hn
  intro d
  induction d with
  | zero =>
    intro k m C hk hm hC hr hv
    obtain ⟨m, rfl⟩ : ∃ j, m = j + 1 := ⟨m - 1, by omega⟩
    have : k = n := by omega
    subst this
    rw [X5_weighOrders_l41, show C 6 0 = nI k from (congrFun (hC 6 (by decide)) 0).trans h0, if_pos (Int32.le_refl _)]
    exact ⟨C, rfl, hC, hr, hv⟩
  | succ d ih =>
    intro k m C hk hm hC hr hv
    obtain ⟨m, rfl⟩ : ∃ j, m = j + 1 := ⟨m - 1, by omega⟩
    have hkn : k < n := by omega
    have c60 : C 6 0 = nI n := (congrFun (hC 6 (by decide)) 0).trans h0
    rw [X5_weighOrders_l41, c60, if_neg (leN hkn hn), b_cls _ (by omega) k (by omega), b_cmp n (by omega) R hR k hkn]
    simp only [X5_weighOrders_j82, nI_1]
    by_cases c : bt R k = true
    · have hRs : R < 128 := by omega
      obtain ⟨-, -, q3⟩ := b_sub R hRs k (by omega) c
      have hbk := (hb.2 (R - 2 ^ k) (by omega)).1
      have hin := dIn_le (p := k) (S := R - 2 ^ k) hn hW9
      have hwt := dWt_le (R := R) hn hW9
      have hx : dIn W n k (R - 2 ^ k) + b (R - 2 ^ k) ≤ 69993 * R := by
        have : 69993 * (R - 2 ^ k + 1) ≤ 69993 * R := Nat.mul_le_mul_left _ q3
        omega
      have hpd := paid_C hn hR hkn c c60 (fun p q h1 h2 => by rw [hC 10 (by decide)]; exact hW p q h1 h2) (hr _ q3)
      have heq : b (R - 2 ^ k) + dWt W n (R - 2 ^ k) + dOut W n R k = dIn W n k (R - 2 ^ k) + b (R - 2 ^ k) + dWt W n R := by
        have := dWt_sub W hn hRs hkn c
        omega
      rw [heq] at hpd
      rw [if_pos (by rw [c]; decide), gd_p (inbN (by omega) (by decide)), hpd, bnd_s, gd_p (inbN (by omega) (by decide)), nI_clamp (by omega)]
      have go : ∀ z, ((z = 2147483647 ∧ ∀ p, p < k + 1 → bt R p = false) ∨ ∃ x, x ≤ 69993 * R ∧ z = nI (x + dWt W n R) ∧ (∃ p, p < k + 1 ∧ bt R p = true ∧ x = dIn W n p (R - 2 ^ p) + b (R - 2 ^ p)) ∧ ∀ p, p < k + 1 → bt R p = true → x ≤ dIn W n p (R - 2 ^ p) + b (R - 2 ^ p)) →
          ∃ C1, X5_weighOrders_l41 6 k88 m (nI (2 ^ n - 1 - R)) (nI (k + 1)) (up2 C 416 (2 ^ n - 1 - R) z) = k88 (nI (2 ^ n - 1 - R)) C1 ∧ (∀ c, c ≠ 416 → C1 c = C0 c) ∧ (∀ r, r < R → C1 416 (2 ^ n - 1 - r) = nI (b r + dWt W n r)) ∧
            ((C1 416 (2 ^ n - 1 - R) = 2147483647 ∧ ∀ p, p < n → bt R p = false) ∨ ∃ x, x ≤ 69993 * R ∧ C1 416 (2 ^ n - 1 - R) = nI (x + dWt W n R) ∧ (∃ p, p < n ∧ bt R p = true ∧ x = dIn W n p (R - 2 ^ p) + b (R - 2 ^ p)) ∧ ∀ p, p < n → bt R p = true → x ≤ dIn W n p (R - 2 ^ p) + b (R - 2 ^ p)) := by
        intro z hz
        refine ih (k + 1) m _ (by omega) (by omega) (fun c hc => by rw [up2_ne hc]; exact hC c hc) (fun r hr' => by rw [up2_eq, pk_un (by omega)]; exact hr r hr') ?_
        rw [up2_eq, pk_us]
        exact hz
      rcases hv with ⟨v1, v2⟩ | ⟨x, x1, x2, x3, x4⟩
      · rw [v1, show (2147483647 : Int32) = nI 2147483647 from rfl, minN (by decide) (by omega), Nat.min_eq_right (by omega)]
        refine go _ (Or.inr ⟨_, hx, rfl, ⟨k, by omega, c, rfl⟩, fun p hp hbp => ?_⟩)
        by_cases e : p = k
        · subst e; exact Nat.le_refl _
        · rw [v2 p (by omega)] at hbp; exact absurd hbp (by decide)
      · rw [x2, minN (by omega) (by omega)]
        by_cases g : x ≤ dIn W n k (R - 2 ^ k) + b (R - 2 ^ k)
        · rw [Nat.min_eq_left (by omega)]
          obtain ⟨p0, p1, p2, p3⟩ := x3
          refine go _ (Or.inr ⟨x, x1, rfl, ⟨p0, by omega, p2, p3⟩, fun p hp hbp => ?_⟩)
          by_cases e : p = k
          · subst e; exact g
          · exact x4 p (by omega) hbp
        · rw [Nat.min_eq_right (by omega)]
          refine go _ (Or.inr ⟨_, hx, rfl, ⟨k, by omega, c, rfl⟩, fun p hp hbp => ?_⟩)
          by_cases e : p = k
          · subst e; exact Nat.le_refl _
          · exact Nat.le_trans (by omega) (x4 p (by omega) hbp)
    · have cf : bt R k = false := (Bool.not_eq_true _).mp c
      rw [if_neg (by rw [cf]; decide)]
      refine ih (k + 1) m C (by omega) (by omega) hC hr ?_
      rcases hv with ⟨v1, v2⟩ | ⟨x, x1, x2, ⟨p0, p1, p2, p3⟩, x4⟩
      · refine Or.inl ⟨v1, fun p hp => ?_⟩
        by_cases e : p = k
        · rw [e]; exact cf
        · exact v2 p (by omega)
      · refine Or.inr ⟨x, x1, x2, ⟨p0, by omega, p2, p3⟩, fun p hp hbp => ?_⟩
        by_cases e : p = k
        · rw [e] at hbp; exact absurd hbp c
        · exact x4 p (by omega) hbp
theorem weigh_out {W : Nat → Nat → Nat} {n : Nat} {C0 : CM} {b : Nat → Nat} (hn : n ≤ 7) (h0 : C0 6 0 = nI n) (hW : ∀ p q, p < 7 → q < 7 → C0 10 (7 * p + q) = nI (W p q)) (hW9 : ∀ p q, W p q ≤ 9999) (hb : BP W n b (2 ^ n)) :
    ∀ d R m C, R + d = 2 ^ n → 1 ≤ R → d < m → (∀ c, c ≠ 416 → C c = C0 c) → (∀ r, r < R → C 416 (2 ^ n - 1 - r) = nI (b r + dWt W n r)) →
      ∃ C1, X5_weighOrders_l26 6 m (nI (2 ^ n - R) - 1) C = some C1 ∧ (∀ c, c ≠ 416 → C1 c = C0 c) ∧ ∀ r, r < 2 ^ n → C1 416 (2 ^ n - 1 - r) = nI (b r + dWt W n r) := by
  have hp : 2 ^ n ≤ 128 := Nat.pow_le_pow_right (by decide) hn
  intro d
  induction d with
  | zero =>
    intro R m C hR h1 hm hC hr
    obtain ⟨m, rfl⟩ : ∃ j, m = j + 1 := ⟨m - 1, by omega⟩
    have : R = 2 ^ n := by omega
    subst this
    rw [X5_weighOrders_l26, Nat.sub_self, if_pos (show nI 0 - 1 < 0 by decide)]
    exact ⟨C, rfl, hC, hr⟩
  | succ d ih =>
    intro R m C hR h1 hm hC hr
    obtain ⟨m, rfl⟩ : ∃ j, m = j + 1 := ⟨m - 1, by omega⟩
    have hRn : R < 2 ^ n := by omega
    have ev : nI (2 ^ n - R) - 1 = nI (2 ^ n - 1 - R) := by
      have := nI_pred (2 ^ n - 1 - R)
      rw [show 2 ^ n - 1 - R + 1 = 2 ^ n - R by omega] at this
      exact this
    obtain ⟨C1, r1, r2, r3, r4⟩ := weigh_in hn hRn h0 hW hW9 hb (fun v3 C => (X5_weighOrders_j88 6 (fun v3 C => X5_weighOrders_l26 6 m v3 C) v3 C)) n 0 FU (up2 C 416 (2 ^ n - 1 - R) 2147483647) (by omega) (by unfold FU; omega) (fun c hc => by rw [up2_ne hc]; exact hC c hc) (fun r hr' => by rw [up2_eq, pk_un (by omega)]; exact hr r hr') (Or.inl ⟨by rw [up2_eq, pk_us], fun p hp => absurd hp (by omega)⟩)
    rw [X5_weighOrders_l26, ev, if_neg (nI_pos (by omega)), gd_p (inbN (by omega) (by decide)), nI_clamp (by omega), show (0 : Int32) = nI 0 from rfl, r1]
    simp only [X5_weighOrders_j88]
    rw [show nI (2 ^ n - 1 - R) + (-1) = nI (2 ^ n - (R + 1)) - 1 by rw [show 2 ^ n - (R + 1) = 2 ^ n - 1 - R by omega]; exact (Int32.sub_eq_add_neg _ _).symm]
    refine ih (R + 1) m C1 (by omega) (by omega) (by omega) r2 (fun r hr' => ?_)
    by_cases e : r = R
    · subst e
      obtain ⟨-, g⟩ := hb.2 r hRn
      obtain ⟨⟨p, p1, p2, p3⟩, p4⟩ := g (by omega)
      rcases r4 with ⟨-, z⟩ | ⟨x, x1, x2, ⟨p0, a1, a2, a3⟩, x4⟩
      · rw [z p p1] at p2; exact absurd p2 (by decide)
      · have : x = b r := by
          have u1 := x4 p p1 p2
          have u2 := p4 p0 a1 a2
          omega
        rw [x2, this]
    · exact r3 r (by omega)
theorem dIn_0 (W : Nat → Nat → Nat) (n p : Nat) : dIn W n p 0 = 0 := sN_zero n (fun q _ => by
  show (if bt 0 q then W p q else 0) = 0
  rw [if_neg (by unfold bt; rw [Nat.zero_div]; decide)])
theorem next_l {W : Nat → Nat → Nat} {n R : Nat} {C : CM} {O : OM} {b : Nat → Nat} (hn : n ≤ 7) (hR : R < 2 ^ n) (h0 : C 6 0 = nI n) (hW : ∀ p q, p < 7 → q < 7 → C 10 (7 * p + q) = nI (W p q)) (hW9 : ∀ p q, W p q ≤ 9999) (hb : BP W n b (2 ^ n)) (hc : ∀ r, r < 2 ^ n → C 416 (2 ^ n - 1 - r) = nI (b r + dWt W n r))
    (o0 : O.1 447 0 = nI n) (oW : ∀ p q, p < 7 → q < 7 → O.1 470 (21 + (7 * p + q)) = nI (W p q)) (ob : ∀ r, r < 2 ^ n → O.1 474 r = nI (b r)) (v1 v5 : Int32) (k210 : Int32 → Int32 → Int32 → Int32 → OM → Option (Int32 × OM)) :
    ∀ d k m1 m2, k + d = n → d < m1 → d < m2 → (∃ p, k ≤ p ∧ p < n ∧ bt R p = true ∧ b R = dIn W n p (R - 2 ^ p) + b (R - 2 ^ p)) →
      ∃ x, x < n ∧ bt R x = true ∧ X5_nextDoor_l2 6 m1 (nI (2 ^ n - 1 - R)) (nI k) C = some (nI x) ∧ X12_doors_l162 k210 m2 v1 (nI R) (nI k) v5 O = k210 v1 (nI R) (nI x) v5 O := by
  have hp : 2 ^ n ≤ 128 := Nat.pow_le_pow_right (by decide) hn
  intro d
  induction d with
  | zero =>
    intro k m1 m2 hk hm1 hm2 h
    obtain ⟨p, p1, p2, -⟩ := h
    omega
  | succ d ih =>
    intro k m1 m2 hk hm1 hm2 h
    obtain ⟨m1, rfl⟩ : ∃ j, m1 = j + 1 := ⟨m1 - 1, by omega⟩
    obtain ⟨m2, rfl⟩ : ∃ j, m2 = j + 1 := ⟨m2 - 1, by omega⟩
    have hkn : k < n := by omega
    have hRs : R < 128 := by omega
    rw [X5_nextDoor_l2, X12_doors_l162, h0, if_neg (leN hkn hn), b_cls _ (by omega) k (by omega), b_cmp n (by omega) R hR k hkn, b_has R hRs k (by omega)]
    simp only [X5_nextDoor_j23, X5_nextDoor_j51, X12_doors_j204, nI_1]
    by_cases c : bt R k = true
    · obtain ⟨q1, -, q3⟩ := b_sub R hRs k (by omega) c
      have hbk := (hb.2 (R - 2 ^ k) (by omega)).1
      have hbR := (hb.2 R hR).1
      have hin := dIn_le (p := k) (S := R - 2 ^ k) hn hW9
      have hwt := dWt_le (R := R) hn hW9
      have hpd := paid_C hn hR hkn c h0 hW (hc _ (by omega))
      have heq : b (R - 2 ^ k) + dWt W n (R - 2 ^ k) + dOut W n R k = dIn W n k (R - 2 ^ k) + b (R - 2 ^ k) + dWt W n R := by
        have := dWt_sub W hn hRs hkn c
        omega
      rw [heq] at hpd
      have hbf : bt (2 ^ n - 1 - R) k = false := by rw [b_cmp n (by omega) R hR k hkn, c]; rfl
      obtain ⟨-, -, -, o4⟩ := b_or _ (show 2 ^ n - 1 - R < 128 by omega) k (by omega) hbf
      rw [if_pos (show (if (!bt R k) = true then (1 : Int32) else 0) = 0 by rw [c]; decide), if_neg n10, hpd, bnd_s, o4, gd_p (inbN (by omega) (by decide)), nI_clamp (by omega), hc R hR, if_neg (show ¬ (if bt R k = true then (1 : Int32) else 0) = 0 by rw [c]; decide), q1, owedIn_R hn hkn (by omega) o0 oW, bnd_s, gd_p (inbN (by omega) (by decide)), gd_p (inbN hRs (by decide)), nI_clamp (by omega), nI_clamp (by omega), ob _ (by omega), ob R hR, nI_add]
      by_cases g : b R = dIn W n k (R - 2 ^ k) + b (R - 2 ^ k)
      · rw [← g, if_pos rfl, if_pos rfl]
        exact ⟨k, hkn, c, rfl, rfl⟩
      · rw [if_neg (fun e => g (by have := (nI_eq (by omega) (by omega)).mp e; omega)), if_neg (fun e => g (by have := (nI_eq (by omega) (by omega)).mp e; omega))]
        refine ih (k + 1) m1 m2 (by omega) (by omega) (by omega) ?_
        obtain ⟨p, p1, p2, p3, p4⟩ := h
        refine ⟨p, ?_, p2, p3, p4⟩
        by_cases e : p = k
        · subst e; exact absurd p4 g
        · omega
    · have cf : bt R k = false := (Bool.not_eq_true _).mp c
      rw [if_neg (show ¬ (if (!bt R k) = true then (1 : Int32) else 0) = 0 by rw [cf]; decide), if_pos True.intro, if_pos (show (if bt R k = true then (1 : Int32) else 0) = 0 by rw [cf]; decide)]
      refine ih (k + 1) m1 m2 (by omega) (by omega) (by omega) ?_
      obtain ⟨p, p1, p2, p3, p4⟩ := h
      refine ⟨p, ?_, p2, p3, p4⟩
      by_cases e : p = k
      · subst e; exact absurd p3 c
      · omega
theorem door_l {W : Nat → Nat → Nat} {n i : Nat} {C : CM} {O : OM} {b : Nat → Nat} (hn : n ≤ 7) (hi : i < n) (h0 : C 6 0 = nI n) (hW : ∀ p q, p < 7 → q < 7 → C 10 (7 * p + q) = nI (W p q)) (hW9 : ∀ p q, W p q ≤ 9999) (hb : BP W n b (2 ^ n)) (hc : ∀ r, r < 2 ^ n → C 416 (2 ^ n - 1 - r) = nI (b r + dWt W n r))
    (o0 : O.1 447 0 = nI n) (oW : ∀ p q, p < 7 → q < 7 → O.1 470 (21 + (7 * p + q)) = nI (W p q)) (ob : ∀ r, r < 2 ^ n → O.1 474 r = nI (b r)) :
    ∀ d k R lt m1 m2, k + d = i + 1 → R < 2 ^ n → dIn (fun _ _ => 1) n 0 R + k = n → d < m1 → d < m2 →
      ∃ z, X5_door_l8 6 m1 (nI i) (nI (2 ^ n - 1 - R)) lt (nI k) C = some z ∧ X12_doors_l153 m2 (nI i) (nI R) lt (nI k) O = some (z, O) := by
  have hp : 2 ^ n ≤ 128 := Nat.pow_le_pow_right (by decide) hn
  intro d
  induction d with
  | zero =>
    intro k R lt m1 m2 hk hR hcnt hm1 hm2
    obtain ⟨m1, rfl⟩ : ∃ j, m1 = j + 1 := ⟨m1 - 1, by omega⟩
    obtain ⟨m2, rfl⟩ : ∃ j, m2 = j + 1 := ⟨m2 - 1, by omega⟩
    rw [X5_door_l8, X12_doors_l153, if_pos (nI_lt (by omega) (by omega)), if_pos (nI_lt (by omega) (by omega))]
    exact ⟨lt, rfl, rfl⟩
  | succ d ih =>
    intro k R lt m1 m2 hk hR hcnt hm1 hm2
    obtain ⟨m1, rfl⟩ : ∃ j, m1 = j + 1 := ⟨m1 - 1, by omega⟩
    obtain ⟨m2, rfl⟩ : ∃ j, m2 = j + 1 := ⟨m2 - 1, by omega⟩
    have hR0 : 0 < R := by
      rcases Nat.eq_zero_or_pos R with e | e
      · rw [e, dIn_0] at hcnt; omega
      · exact e
    obtain ⟨⟨p, p1, p2, p3⟩, -⟩ := (hb.2 R hR).2 hR0
    obtain ⟨x, x1, x2, x3, x4⟩ := next_l hn hR h0 hW hW9 hb hc o0 oW ob (nI i) (nI k) (fun v1 v3 v4 v5 O => (X12_doors_j210 (fun v1 v3 v4 v5 O => X12_doors_l153 m2 v1 v3 v4 v5 O) v1 v3 v4 v5 O)) n 0 FU FU (by omega) (by unfold FU; omega) (by unfold FU; omega) ⟨p, Nat.zero_le _, p1, p2, p3⟩
    have hbf : bt (2 ^ n - 1 - R) x = false := by rw [b_cmp n (by omega) R hR x x1, x2]; rfl
    obtain ⟨-, o2, -, -⟩ := b_or _ (show 2 ^ n - 1 - R < 128 by omega) x (by omega) hbf
    obtain ⟨q1, -, q3⟩ := b_sub R (by omega) x (by omega) x2
    have hcs := dIn_sub (fun _ _ => 1) hn (by omega) x1 x2 0
    rw [X5_door_l8, X12_doors_l153, if_neg (nI_nlt (by omega) (by omega)), if_neg (nI_nlt (by omega) (by omega)), h0, if_neg (leN (by omega) hn), show f_X5_nextDoor 6 (nI (2 ^ n - 1 - R)) C = some (nI x) from x3, bnd_s, if_neg (nm1_ne (by omega)), show (0 : Int32) = nI 0 from rfl, x4]
    simp only [X5_door_j46, X12_doors_j210, nI_1]
    rw [o2, q1, b_cmp2 n (by omega) R hR x x1 x2]
    exact ih (k + 1) (R - 2 ^ x) (nI x) m1 m2 (by omega) (by omega) (by omega) (by omega) (by omega)
