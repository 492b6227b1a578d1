/-! An order of doors: sums, the reference's best -/
def sN (f : Nat → Nat) : Nat → Nat
  | 0 => 0
  | k + 1 => sN f k + f k
theorem sN_congr {f g : Nat → Nat} : ∀ k, (∀ p, p < k → f p = g p) → sN f k = sN g k := by
  intro k
  induction k with
  | zero => intro _; rfl
  | succ k ih =>
    intro h
    show sN f k + f k = sN g k + g k
    rw [ih (fun p hp => h p (by omega)), h k (by omega)]
theorem sN_add (f g : Nat → Nat) : ∀ k, sN (fun p => f p + g p) k = sN f k + sN g k := by
  intro k
  induction k with
  | zero => rfl
  | succ k ih =>
    show sN (fun p => f p + g p) k + (f k + g k) = sN f k + f k + (sN g k + g k)
    rw [ih]; omega
theorem sN_one (x a : Nat) : ∀ k, sN (fun p => if p = x then a else 0) k = if x < k then a else 0 := by
  intro k
  induction k with
  | zero => rw [if_neg (by omega)]; rfl
  | succ k ih =>
    show sN (fun p => if p = x then a else 0) k + (if k = x then a else 0) = _
    rw [ih]
    by_cases c : x < k
    · rw [if_pos c, if_neg (show ¬ k = x by omega), if_pos (show x < k + 1 by omega)]; rfl
    · rw [if_neg c]
      by_cases d : k = x
      · rw [if_pos d, if_pos (show x < k + 1 by omega), Nat.zero_add]
      · rw [if_neg d, if_neg (show ¬ x < k + 1 by omega)]
theorem sN_le {f : Nat → Nat} {b : Nat} : ∀ k, (∀ p, p < k → f p ≤ b) → sN f k ≤ k * b := by
  intro k
  induction k with
  | zero => intro _; exact Nat.zero_le _
  | succ k ih =>
    intro h
    have h1 := ih (fun p hp => h p (by omega))
    have h2 := h k (by omega)
    show sN f k + f k ≤ (k + 1) * b
    rw [Nat.succ_mul]; omega
theorem sN_zero {f : Nat → Nat} (k : Nat) (h : ∀ p, p < k → f p = 0) : sN f k = 0 := by
  have := sN_le (b := 0) k (fun p hp => Nat.le_of_eq (h p hp))
  omega
section
variable (W : Nat → Nat → Nat) (n : Nat)
def dIn (p S : Nat) : Nat := sN (fun q => if bt S q then W p q else 0) n
def dOut (R x : Nat) : Nat := sN (fun p => if bt R p then 0 else W p x) n
def dWt (R : Nat) : Nat := sN (fun p => if bt R p then 0 else dIn W n p R) n
end
theorem dIn_sub (W : Nat → Nat → Nat) {n R x : Nat} (hn : n ≤ 7) (hR : R < 128) (hx : x < n) (hb : bt R x = true) (p : Nat) : dIn W n p (R - 2 ^ x) + W p x = dIn W n p R := by
  have h1 : dIn W n p R = sN (fun q => (if bt (R - 2 ^ x) q then W p q else 0) + (if q = x then W p x else 0)) n := by
    refine sN_congr n (fun q hq => ?_)
    by_cases e : q = x
    · subst e
      rw [if_pos hb, if_pos rfl, b_oth1 R hR q (by omega) hb, if_neg (by decide), Nat.zero_add]
    · rw [if_neg e, b_oth2 R hR x (by omega) q (by omega) e hb, Nat.add_zero]
  rw [h1, sN_add, sN_one, if_pos hx]; rfl
theorem dWt_sub (W : Nat → Nat → Nat) {n R x : Nat} (hn : n ≤ 7) (hR : R < 128) (hx : x < n) (hb : bt R x = true) : dWt W n (R - 2 ^ x) + dOut W n R x = dWt W n R + dIn W n x (R - 2 ^ x) := by
  have h1 : dWt W n (R - 2 ^ x) + dOut W n R x = sN (fun p => (if bt (R - 2 ^ x) p then 0 else dIn W n p (R - 2 ^ x)) + (if bt R p then 0 else W p x)) n := (sN_add _ _ n).symm
  have h2 : dWt W n R + dIn W n x (R - 2 ^ x) = sN (fun p => (if bt R p then 0 else dIn W n p R) + (if p = x then dIn W n x (R - 2 ^ x) else 0)) n := by
    rw [sN_add, sN_one, if_pos hx]; rfl
  rw [h1, h2]
  refine sN_congr n (fun p hp => ?_)
  by_cases e : p = x
  · subst e
    rw [if_pos rfl, if_pos hb, if_pos hb, b_oth1 R hR p (by omega) hb, if_neg (by decide), Nat.zero_add, Nat.add_zero]
  · rw [if_neg e, b_oth2 R hR x (by omega) p (by omega) e hb]
    by_cases c : bt R p = true
    · rw [if_pos c, if_pos c, if_pos c]
    · rw [if_neg c, if_neg c, if_neg c, Nat.add_zero]
      exact dIn_sub W hn hR hx hb p
/-- the reference's row of best ones -/
def BP (W : Nat → Nat → Nat) (n : Nat) (b : Nat → Nat) (s : Nat) : Prop := b 0 = 0 ∧ ∀ s', s' < s → b s' ≤ 69993 * s' ∧ (0 < s' → (∃ p, p < n ∧ bt s' p = true ∧ b s' = dIn W n p (s' - 2 ^ p) + b (s' - 2 ^ p)) ∧ ∀ p, p < n → bt s' p = true → b s' ≤ dIn W n p (s' - 2 ^ p) + b (s' - 2 ^ p))
theorem dIn_le {W : Nat → Nat → Nat} {n p S : Nat} (hn : n ≤ 7) (hW : ∀ p q, W p q ≤ 9999) : dIn W n p S ≤ 69993 := by
  have := sN_le (f := fun q => if bt S q then W p q else 0) (b := 9999) n (fun q _ => by
    show (if bt S q then W p q else 0) ≤ 9999
    split
    · exact hW p q
    · exact Nat.zero_le _)
  unfold dIn
  have h2 : n * 9999 ≤ 7 * 9999 := Nat.mul_le_mul_right _ hn
  omega
theorem owedIn_l {W : Nat → Nat → Nat} {n p S : Nat} {O : OM} (hn : n ≤ 7) (hp : p < n) (hS : S < 128) (h0 : O.1 447 0 = nI n) (hW : ∀ p q, p < 7 → q < 7 → O.1 470 (21 + (7 * p + q)) = nI (W p q)) : ∀ d k m v, k + d = n → d < m → X12_owedIn_l5 m (nI p) (nI S) (nI v) (nI k) O = some (nI (v + (sN (fun q => if bt S q then W p q else 0) n - sN (fun q => if bt S q then W p q else 0) k))) ∧ sN (fun q => if bt S q then W p q else 0) k ≤ sN (fun q => if bt S q then W p q else 0) n := by
  intro d
  induction d with
  | zero =>
    intro k m v hk hm
    obtain ⟨m, rfl⟩ : ∃ j, m = j + 1 := ⟨m - 1, by omega⟩
    have : k = n := by omega
    subst this
    rw [X12_owedIn_l5, h0, if_pos (Int32.le_refl _), Nat.sub_self, Nat.add_zero]
    exact ⟨rfl, Nat.le_refl _⟩
  | succ d ih =>
    intro k m v hk hm
    obtain ⟨m, rfl⟩ : ∃ j, m = j + 1 := ⟨m - 1, by omega⟩
    have hkn : k < n := by omega
    have es : sN (fun q => if bt S q then W p q else 0) (k + 1) = sN (fun q => if bt S q then W p q else 0) k + (if bt S k then W p k else 0) := rfl
    rw [X12_owedIn_l5, h0, if_neg (leN hkn hn), b_has S hS k (by omega)]
    simp only [X12_owedIn_j41, nI_1]
    by_cases b : bt S k = true
    · rw [if_neg (by rw [b]; decide), debtN', gd_p (inbN (by omega) (by decide)), nI_clamp (by omega), hW p k (by omega) (by omega), nI_add]
      obtain ⟨g1, g2⟩ := ih (k + 1) m (v + W p k) (by omega) (by omega)
      rw [es, if_pos b] at g1 g2
      rw [g1]
      refine ⟨?_, by omega⟩
      congr 2
      omega
    · rw [if_pos (by rw [(Bool.not_eq_true _).mp b]; decide), Int32.add_zero]
      obtain ⟨g1, g2⟩ := ih (k + 1) m v (by omega) (by omega)
      rw [es, if_neg b, Nat.add_zero] at g1 g2
      exact ⟨g1, g2⟩
theorem owedIn_R {W : Nat → Nat → Nat} {n p S : Nat} {O : OM} (hn : n ≤ 7) (hp : p < n) (hS : S < 128) (h0 : O.1 447 0 = nI n) (hW : ∀ p q, p < 7 → q < 7 → O.1 470 (21 + (7 * p + q)) = nI (W p q)) : f_X12_owedIn (nI p) (nI S) O = some (nI (dIn W n p S)) := by
  have := (owedIn_l hn hp hS h0 hW n 0 FU 0 (by omega) (by unfold FU; omega)).1
  rw [Nat.zero_add] at this
  exact this
theorem doorR_in {W : Nat → Nat → Nat} {n s : Nat} {O : OM} {b : Nat → Nat} (hn : n ≤ 7) (hs : s < 128) (h0 : O.1 447 0 = nI n) (hW : ∀ p q, p < 7 → q < 7 → O.1 470 (21 + (7 * p + q)) = nI (W p q)) (hW9 : ∀ p q, W p q ≤ 9999)
    (hr : ∀ s', s' < s → O.1 474 s' = nI (b s')) (hb : BP W n b s) (v1 : Int32) (k115 : Int32 → Int32 → Int32 → Int32 → OM → Option (Int32 × OM)) : ∀ d k m v4, k + d = n → d < m →
      ((v4 = -1 ∧ ∀ p, p < k → bt s p = false) ∨ ∃ x, x ≤ 69993 * s ∧ v4 = nI x ∧ (∃ p, p < k ∧ bt s p = true ∧ x = dIn W n p (s - 2 ^ p) + b (s - 2 ^ p)) ∧ ∀ p, p < k → bt s p = true → x ≤ dIn W n p (s - 2 ^ p) + b (s - 2 ^ p)) →
      ∃ v4', X12_doors_l46 k115 m v1 (nI n) (nI s) v4 (nI k) O = k115 v1 (nI n) (nI s) v4' O ∧ ((v4' = -1 ∧ ∀ p, p < n → bt s p = false) ∨ ∃ x, x ≤ 69993 * s ∧ v4' = nI x ∧ (∃ p, p < n ∧ bt s p = true ∧ x = dIn W n p (s - 2 ^ p) + b (s - 2 ^ p)) ∧ ∀ p, p < n → bt s p = true → x ≤ dIn W n p (s - 2 ^ p) + b (s - 2 ^ p)) := by
  intro d
  induction d with
  | zero =>
    intro k m v4 hk hm hv
    obtain ⟨m, rfl⟩ : ∃ j, m = j + 1 := ⟨m - 1, by omega⟩
    have : k = n := by omega
    subst this
    rw [X12_doors_l46, if_pos (Int32.le_refl _)]
    exact ⟨v4, rfl, hv⟩
  | succ d ih =>
    intro k m v4 hk hm hv
    obtain ⟨m, rfl⟩ : ∃ j, m = j + 1 := ⟨m - 1, by omega⟩
    have hkn : k < n := by omega
    rw [X12_doors_l46, if_neg (leN hkn hn), b_has s hs k (by omega)]
    simp only [X12_doors_j109, X12_doors_j107, X12_doors_j100, nI_1]
    by_cases c : bt s k = true
    · obtain ⟨q1, -, q3⟩ := b_sub s hs k (by omega) c
      have hbk := (hb.2 _ q3).1
      have hin := dIn_le (p := k) (S := s - 2 ^ k) hn hW9
      have hx : dIn W n k (s - 2 ^ k) + b (s - 2 ^ k) ≤ 69993 * s := by
        have : 69993 * (s - 2 ^ k) + 69993 ≤ 69993 * s := by
          have : 69993 * (s - 2 ^ k + 1) ≤ 69993 * s := Nat.mul_le_mul_left _ q3
          omega
        omega
      rw [if_neg (by rw [c]; decide), q1, owedIn_R hn hkn (by omega) h0 hW, bnd_s, gd_p (inbN (by omega) (by decide)), nI_clamp (by omega), hr _ q3, nI_add]
      have new : ∃ x, x ≤ 69993 * s ∧ nI (dIn W n k (s - 2 ^ k) + b (s - 2 ^ k)) = nI x ∧ (∃ p, p < k + 1 ∧ bt s p = true ∧ x = dIn W n p (s - 2 ^ p) + b (s - 2 ^ p)) ∧ (x = dIn W n k (s - 2 ^ k) + b (s - 2 ^ k)) := ⟨_, hx, rfl, ⟨k, by omega, c, rfl⟩, rfl⟩
      rcases hv with ⟨v1, v2⟩ | ⟨x, x1, x2, x3, x4⟩
      · rw [if_pos v1]
        refine ih (k + 1) m _ (by omega) (by omega) (Or.inr ⟨_, hx, rfl, ⟨k, by omega, c, rfl⟩, fun p hp hbp => ?_⟩)
        by_cases e : p = k
        · subst e; exact Nat.le_refl _
        · rw [v2 p (by omega)] at hbp; exact absurd hbp (by decide)
      · rw [if_neg (by rw [x2]; exact nm1_ne (by omega)), x2]
        by_cases g : x ≤ dIn W n k (s - 2 ^ k) + b (s - 2 ^ k)
        · rw [if_pos (nI_le g (by omega))]
          obtain ⟨p0, p1, p2, p3⟩ := x3
          refine ih (k + 1) m _ (by omega) (by omega) (Or.inr ⟨x, x1, rfl, ⟨p0, by omega, p2, p3⟩, fun p hp hbp => ?_⟩)
          by_cases e : p = k
          · subst e; exact g
          · exact x4 p (by omega) hbp
        · rw [if_neg (nI_ge (by omega) (by omega))]
          refine ih (k + 1) m _ (by omega) (by omega) (Or.inr ⟨_, hx, rfl, ⟨k, by omega, c, rfl⟩, fun p hp hbp => ?_⟩)
          by_cases e : p = k
          · subst e; exact Nat.le_refl _
          · exact Nat.le_trans (by omega) (x4 p (by omega) hbp)
    · have cf : bt s k = false := (Bool.not_eq_true _).mp c
      rw [if_pos (by rw [cf]; decide)]
      refine ih (k + 1) m v4 (by omega) (by omega) ?_
      rcases hv with ⟨v1, v2⟩ | ⟨x, x1, x2, ⟨p0, p1, p2, p3⟩, x4⟩
      · refine Or.inl ⟨v1, fun p hp => ?_⟩
        by_cases e : p = k
        · rw [e]; exact cf
        · exact v2 p (by omega)
      · refine Or.inr ⟨x, x1, x2, ⟨p0, by omega, p2, p3⟩, fun p hp hbp => ?_⟩
        by_cases e : p = k
        · rw [e] at hbp; exact absurd hbp c
        · exact x4 p (by omega) hbp
theorem doorR_out {W : Nat → Nat → Nat} {n : Nat} {O0 : OM} (hn : n ≤ 7) (h0 : O0.1 447 0 = nI n) (hW : ∀ p q, p < 7 → q < 7 → O0.1 470 (21 + (7 * p + q)) = nI (W p q)) (hW9 : ∀ p q, W p q ≤ 9999) (v1 : Int32) (k129 : Int32 → Int32 → OM → Option (Int32 × OM)) :
    ∀ d s m O b, s + d = 2 ^ n → 1 ≤ s → d < m → (∀ c, c ≠ 474 → O.1 c = O0.1 c) → (∀ s', s' < s → O.1 474 s' = nI (b s')) → BP W n b s →
      ∃ O1 b1, X12_doors_l33 k129 m v1 (nI n) (nI s) O = k129 v1 (nI n) O1 ∧ (∀ c, c ≠ 474 → O1.1 c = O0.1 c) ∧ (∀ s', s' < 2 ^ n → O1.1 474 s' = nI (b1 s')) ∧ BP W n b1 (2 ^ n) := by
  have hp : 2 ^ n ≤ 128 := Nat.pow_le_pow_right (by decide) hn
  intro d
  induction d with
  | zero =>
    intro s m O b hs h1 hm hO hr hb
    obtain ⟨m, rfl⟩ : ∃ j, m = j + 1 := ⟨m - 1, by omega⟩
    have : s = 2 ^ n := by omega
    subst this
    rw [X12_doors_l33, b_sh n (by omega), if_pos (Int32.le_refl _)]
    exact ⟨O, b, rfl, hO, hr, hb⟩
  | succ d ih =>
    intro s m O b hs h1 hm hO hr hb
    obtain ⟨m, rfl⟩ : ∃ j, m = j + 1 := ⟨m - 1, by omega⟩
    have hs8 : s < 128 := by omega
    obtain ⟨t1, t2, t3, t4⟩ := b_tz s hs8 (by omega)
    have htn : tz s < n := b_lt n (by omega) s (by omega) _ t4 t3
    obtain ⟨v4', r1, r2⟩ := doorR_in hn hs8 (by rw [hO 447 (by decide)]; exact h0) (by rw [hO 470 (by decide)]; exact hW) hW9 hr hb v1 (fun v1 v2 v3 v4 O => (X12_doors_j115 (fun v1 v2 v3 O => X12_doors_l33 k129 m v1 v2 v3 O) k129 v1 v2 v3 v4 O)) n 0 FU (-1) (by omega) (by unfold FU; omega) (Or.inl ⟨rfl, fun p hp => absurd hp (by omega)⟩)
    rw [X12_doors_l33, b_sh n (by omega), if_neg (nI_ge (by omega) (by omega)), show (0 : Int32) = nI 0 from rfl, r1]
    simp only [X12_doors_j115, gd_p (inbN hs8 (show 128 < 2 ^ 31 by decide)), nI_clamp (show s < 2 ^ 31 by omega), nI_1]
    rcases r2 with ⟨-, g⟩ | ⟨x, x1, x2, ⟨p0, p1, p2, p3⟩, x4⟩
    · rw [g _ htn] at t3; exact absurd t3 (by decide)
    · rw [x2]
      have hlt : ∀ p, p < n → bt s p = true → s - 2 ^ p < s := fun p hp hbp => (b_sub s hs8 p (by omega) hbp).2.2
      obtain ⟨bb, b1, b2⟩ : ∃ bb : Nat → Nat, bb s = x ∧ ∀ j, j ≠ s → bb j = b j := ⟨fun j => if j = s then x else b j, if_pos rfl, fun j hj => if_neg hj⟩
      refine ih (s + 1) m _ bb (by omega) (by omega) (by omega) (fun c hc => by rw [oup_ne hc]; exact hO c hc) (fun s' h' => ?_) ⟨by rw [b2 0 (by omega)]; exact hb.1, fun s' h' => ?_⟩
      · rw [oup_eq]
        by_cases e : s' = s
        · rw [e, pk_us, b1]
        · rw [pk_un e, b2 s' e]; exact hr s' (by omega)
      · by_cases e : s' = s
        · subst e
          rw [b1]
          refine ⟨x1, fun _ => ⟨⟨p0, p1, p2, ?_⟩, fun p hp hbp => ?_⟩⟩
          · rw [b2 _ (by have := hlt p0 p1 p2; omega)]; exact p3
          · rw [b2 _ (by have := hlt p hp hbp; omega)]; exact x4 p hp hbp
        · rw [b2 s' e]
          obtain ⟨g1, g2⟩ := hb.2 s' (by omega)
          refine ⟨g1, fun h0 => ?_⟩
          obtain ⟨⟨p, a1, a2, a3⟩, a4⟩ := g2 h0
          have hlt' : ∀ p, p < n → bt s' p = true → s' - 2 ^ p < s' := fun p hp hbp => (b_sub s' (by omega) p (by omega) hbp).2.2
          refine ⟨⟨p, a1, a2, ?_⟩, fun p hp hbp => ?_⟩
          · rw [b2 _ (by have := hlt' p a1 a2; omega)]; exact a3
          · rw [b2 _ (by have := hlt' p hp hbp; omega)]; exact a4 p hp hbp
