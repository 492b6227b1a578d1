/-! Who met whom: the twos, listed -/
def mm (k : Nat) : Nat := k * (k - 1) / 2
def ixx (k a b : Nat) : Nat := a * k - a * (a + 1) / 2 + (b - a - 1)
def lo (k j : Nat) : Nat := if j + 1 < k then 0 else if j + 3 < 2 * k then 1 else if j + 6 < 3 * k then 2 else 3
def hgh (k j : Nat) : Nat := j - ixx k (lo k j) (lo k j + 1) + lo k j + 1
def tw (p q : Nat) : Nat := if p < q then q * (q - 1) / 2 + p else p * (p - 1) / 2 + q
def jx (k p q : Nat) : Nat := if p < q then ixx k p q else ixx k q p
theorem tb1a : ∀ k, k < 6 → ∀ a, a < k → ∀ b, b < k → a < b → lo k (ixx k a b) = a ∧ hgh k (ixx k a b) = b := by decide +kernel
theorem tb1b : ∀ k, k < 6 → ∀ a, a < k → ∀ b, b < k → a < b → ixx k a b < 10 ∧ ixx k a (b + 1) = ixx k a b + 1 := by decide +kernel
theorem tb1c : ∀ k, k < 6 → ∀ a, a < k → ∀ b, b < k → a < b → ixx k a b < mm k := by decide +kernel
theorem tb1 (k : Nat) (h1 : k < 6) (a : Nat) (h2 : a < k) (b : Nat) (h3 : b < k) (h4 : a < b) : lo k (ixx k a b) = a ∧ hgh k (ixx k a b) = b ∧ ixx k a b < 10 ∧ ixx k a (b + 1) = ixx k a b + 1 ∧ ixx k a b < mm k :=
  ⟨(tb1a k h1 a h2 b h3 h4).1, (tb1a k h1 a h2 b h3 h4).2, (tb1b k h1 a h2 b h3 h4).1, (tb1b k h1 a h2 b h3 h4).2, tb1c k h1 a h2 b h3 h4⟩
theorem tb2 : ∀ k, k < 6 → ∀ a, a < k → ixx k (a + 1) (a + 2) = ixx k a k := by decide +kernel
theorem tb3 : ∀ k, k < 6 → ixx k k (k + 1) = mm k ∧ ixx k 0 1 = 0 ∧ mm k ≤ 10 := by decide +kernel
theorem tb4 : ∀ k, k < 6 → ∀ j, j < mm k → lo k j < hgh k j ∧ hgh k j < k ∧ ixx k (lo k j) (hgh k j) = j := by decide +kernel
theorem tb5a : ∀ k, k < 6 → ∀ p, p < k → ∀ q, q < k → p < q → lo k (jx k p q) = p ∧ hgh k (jx k p q) = q := by decide +kernel
theorem tb5b : ∀ k, k < 6 → ∀ p, p < k → ∀ q, q < k → q < p → lo k (jx k p q) = q ∧ hgh k (jx k p q) = p := by decide +kernel
theorem tb5c : ∀ k, k < 6 → ∀ j, j < mm k → jx k (lo k j) (hgh k j) = j ∧ jx k (hgh k j) (lo k j) = j := by decide +kernel
theorem tb5 (k : Nat) (hk : k < 6) (j : Nat) (hj : j < mm k) (p : Nat) (hp : p < k) (q : Nat) (hq : q < k) (hne : p ≠ q) : (jx k p q = j ↔ (p = lo k j ∧ q = hgh k j) ∨ (p = hgh k j ∧ q = lo k j)) := by
  constructor
  · intro e
    subst e
    rcases Nat.lt_or_gt_of_ne hne with c | c
    · exact Or.inl ⟨(tb5a k hk p hp q hq c).1.symm, (tb5a k hk p hp q hq c).2.symm⟩
    · exact Or.inr ⟨(tb5b k hk p hp q hq c).2.symm, (tb5b k hk p hp q hq c).1.symm⟩
  · rintro (⟨e1, e2⟩ | ⟨e1, e2⟩)
    · rw [e1, e2]; exact (tb5c k hk j hj).1
    · rw [e1, e2]; exact (tb5c k hk j hj).2
theorem tb6a : ∀ k, k < 6 → ∀ p, p < k → ∀ q, q < k → p ≠ q → jx k p q < mm k ∧ tw p q < mm k := by decide +kernel
theorem tb6b : ∀ p, p < 5 → ∀ q, q < 5 → p ≠ q → f_X12_twoOf (nI p) (nI q) = nI (tw p q) := by decide +kernel
theorem tb6c : ∀ k, k < 6 → ∀ p, p < k → ∀ q, q < k → p ≠ q → tw (lo k (jx k p q)) (hgh k (jx k p q)) = tw p q := by decide +kernel
theorem tb7 : ∀ k, k < 6 → (nI k * (nI k - 1)) / 2 = nI (mm k) := by decide +kernel
theorem tb8 : ∀ k, k < 11 → (1 : Int32) <<< (nI k &&& 31) = nI (2 ^ k) := by decide +kernel
/-- the list up to c -/
def EN (k c : Nat) (C : CM) : Prop := C 417 1 = nI c ∧ ∀ j, j < c → C 418 j = nI (lo k j) ∧ C 419 j = nI (hgh k j) ∧ C 420 j = 0
def FrM (C C1 : CM) : Prop := (∀ c, c < 417 ∨ 420 < c → C1 c = C c) ∧ ∀ k, k ≠ 1 → C1 417 k = C 417 k
theorem FrM.refl {C : CM} : FrM C C := ⟨fun _ _ => rfl, fun _ _ => rfl⟩
theorem FrM.trans {C C1 C2 : CM} (h : FrM C C1) (h2 : FrM C1 C2) : FrM C C2 := ⟨fun c hc => (h2.1 c hc).trans (h.1 c hc), fun k hk => (h2.2 k hk).trans (h.2 k hk)⟩
theorem list_in {k a : Nat} (hk : k < 6) (ha : a < k) (k80 : Int32 → Int32 → CM → Option CM) : ∀ d b f C, b + d = k → a < b → d < f → EN k (ixx k a b) C → ∃ C1, X2_listTwos_l16 k80 f (nI k) (nI a) (nI b) C = k80 (nI k) (nI a) C1 ∧ EN k (ixx k a k) C1 ∧ FrM C C1 := by
  intro d
  induction d with
  | zero =>
    intro b f C hb hab hf he
    obtain ⟨f, rfl⟩ : ∃ j, f = j + 1 := ⟨f - 1, by omega⟩
    have : b = k := by omega
    subst this
    rw [X2_listTwos_l16, if_pos (Int32.le_refl _)]
    exact ⟨C, rfl, he, FrM.refl⟩
  | succ d ih =>
    intro b f C hb hab hf he
    obtain ⟨f, rfl⟩ : ∃ j, f = j + 1 := ⟨f - 1, by omega⟩
    obtain ⟨t1, t2, t3, t4, t5⟩ := tb1 k hk a ha b (by omega) hab
    obtain ⟨e1, e2⟩ := he
    have w : f_X11_within (nI (ixx k a b)) 0 9 = 1 := by
      unfold f_X11_within
      rw [if_neg (nI_pos (by omega)), show (9 : Int32) = nI 9 from rfl, if_neg (nI_nlt (by omega) (by omega))]
    have x1 : (up2 C 418 (ixx k a b) (nI a)) 417 1 = nI (ixx k a b) := by rw [up2_ne (by decide)]; exact e1
    have x2 : (up2 (up2 C 418 (ixx k a b) (nI a)) 419 (ixx k a b) (nI b)) 417 1 = nI (ixx k a b) := by rw [up2_ne (by decide)]; exact x1
    have x3 : (up2 (up2 (up2 C 418 (ixx k a b) (nI a)) 419 (ixx k a b) (nI b)) 420 (ixx k a b) 0) 417 1 = nI (ixx k a b) := by rw [up2_ne (by decide)]; exact x2
    rw [X2_listTwos_l16, if_neg (nI_ge (by omega) (by omega)), e1, w, if_neg n10, gd_p (inbN t3 (by decide)), nI_clamp (by omega), x1, gd_p (inbN t3 (by decide)), nI_clamp (by omega), x2, gd_p (inbN t3 (by decide)), nI_clamp (by omega), x3]
    simp only [X2_listTwos_j74, nI_1]
    obtain ⟨C1, r1, r2, r3⟩ := ih (b + 1) f (up2 (up2 (up2 (up2 C 418 (ixx k a b) (nI a)) 419 (ixx k a b) (nI b)) 420 (ixx k a b) 0) 417 1 (nI (ixx k a b + 1))) (by omega) (by omega) (by omega) ⟨by rw [up2_eq, pk_us, t4], fun j hj => by
      rw [up2_ne (show 418 ≠ 417 by decide), up2_ne (show 418 ≠ 420 by decide), up2_ne (show 418 ≠ 419 by decide), up2_eq, up2_ne (show 419 ≠ 417 by decide), up2_ne (show 419 ≠ 420 by decide), up2_eq, up2_ne (show 419 ≠ 418 by decide), up2_ne (show 420 ≠ 417 by decide), up2_eq, up2_ne (show 420 ≠ 419 by decide), up2_ne (show 420 ≠ 418 by decide)]
      by_cases ej : j = ixx k a b
      · rw [ej, pk_us, pk_us, pk_us, t1, t2]; exact ⟨rfl, rfl, rfl⟩
      · rw [pk_un ej, pk_un ej, pk_un ej]; exact e2 j (by omega)⟩
    refine ⟨C1, r1, r2, FrM.trans ⟨fun c hc => by rw [up2_ne (by omega), up2_ne (by omega), up2_ne (by omega), up2_ne (by omega)], fun k hk => by rw [up2_eq, pk_un hk, up2_ne (by decide), up2_ne (by decide), up2_ne (by decide)]⟩ r3⟩
theorem list_out {k : Nat} (hk : k < 6) : ∀ d a f C, a + d = k → d < f → EN k (ixx k a (a + 1)) C → ∃ C1, X2_listTwos_l7 f (nI k) (nI a) C = some C1 ∧ EN k (mm k) C1 ∧ FrM C C1 := by
  intro d
  induction d with
  | zero =>
    intro a f C ha hf he
    obtain ⟨f, rfl⟩ : ∃ j, f = j + 1 := ⟨f - 1, by omega⟩
    have : a = k := by omega
    subst this
    rw [X2_listTwos_l7, if_pos (Int32.le_refl _)]
    rw [(tb3 a hk).1] at he
    exact ⟨C, rfl, he, FrM.refl⟩
  | succ d ih =>
    intro a f C ha hf he
    obtain ⟨f, rfl⟩ : ∃ j, f = j + 1 := ⟨f - 1, by omega⟩
    obtain ⟨C1, r1, r2, r3⟩ := list_in hk (show a < k by omega) (fun v1 v2 C => (X2_listTwos_j80 (fun v1 v2 C => X2_listTwos_l7 f v1 v2 C) v1 v2 C)) (k - (a + 1)) (a + 1) FU C (by omega) (by omega) (by unfold FU; omega) he
    rw [← tb2 k hk a (by omega)] at r2
    obtain ⟨C2, q1, q2, q3⟩ := ih (a + 1) f C1 (by omega) (by omega) r2
    rw [X2_listTwos_l7, if_neg (nI_ge (by omega) (by omega)), nI_1, r1]
    simp only [X2_listTwos_j80, nI_1]
    exact ⟨C2, q1, q2, r3.trans q3⟩
theorem listed {k : Nat} (hk : k < 6) (C : CM) : ∃ C1, f_X2_listTwos (nI k) C = some C1 ∧ EN k (mm k) C1 ∧ FrM C C1 := by
  obtain ⟨C1, r1, r2, r3⟩ := list_out hk k 0 FU (up2 C 417 1 0) (by omega) (by unfold FU; omega) (by
    rw [Nat.zero_add, (tb3 k hk).2.1]
    exact ⟨by rw [up2_eq, pk_us]; rfl, fun j hj => absurd hj (by omega)⟩)
  exact ⟨C1, r1, r2, FrM.trans ⟨fun c hc => up2_ne (by omega), fun k hk => by rw [up2_eq, pk_un hk]⟩ r3⟩
/-! Gray's order of sets, and the reference's numbers -/
def Gr (i : Nat) : Nat := i ^^^ (i / 2)
def nz (s : Nat) : Nat := if s % 2 = 1 then 0 else if s / 2 % 2 = 1 then 1 else if s / 4 % 2 = 1 then 2 else if s / 8 % 2 = 1 then 3 else if s / 16 % 2 = 1 then 4 else if s / 32 % 2 = 1 then 5 else if s / 64 % 2 = 1 then 6 else if s / 128 % 2 = 1 then 7 else if s / 256 % 2 = 1 then 8 else 9
def pim (k i : Nat) : Nat := sN (fun j => if bt (Gr i) j then 2 ^ tw (lo k j) (hgh k j) else 0) (mm k)
def rhm (k s : Nat) : Nat := (fun x => x ^^^ x / 2 ^^^ x / 4 ^^^ x / 8 ^^^ x / 16 ^^^ x / 32 ^^^ x / 64 ^^^ x / 128 ^^^ x / 256 ^^^ x / 512) (sN (fun j => if bt s (tw (lo k j) (hgh k j)) then 2 ^ j else 0) (mm k))
theorem gb1 : ∀ k, k < 6 → ∀ i, i < 2 ^ mm k → pim k i < 2 ^ mm k ∧ rhm k (pim k i) = i := by decide +kernel
theorem gb2 : ∀ k, k < 6 → ∀ i, i < 2 ^ mm k → rhm k i < 2 ^ mm k ∧ pim k (rhm k i) = i := by decide +kernel
theorem gb3 : ∀ k, k < 6 → ∀ i, i < 2 ^ mm k → ∀ j, j < mm k → bt (pim k i) (tw (lo k j) (hgh k j)) = bt (Gr i) j := by decide +kernel
theorem gb4 : ∀ i, i < 1024 → 0 < i → f_J6_numberOfTrailingZeros_0f7a4 (nI i) = nI (nz i) ∧ nI (Gr (i - 1)) ^^^ ((1 : Int32) <<< (nI (nz i) &&& 31)) = nI (Gr i) ∧ bt (Gr i) (nz i) = !bt (Gr (i - 1)) (nz i) ∧ Gr i < 1024 := by decide +kernel
theorem gb5 : ∀ i, i < 1024 → 0 < i → ∀ j, j < 10 → j ≠ nz i → bt (Gr i) j = bt (Gr (i - 1)) j := by decide +kernel
theorem gb6 : ∀ k, k < 6 → ∀ i, i < 2 ^ mm k → 0 < i → nz i < mm k := by decide +kernel
theorem gb7 : ∀ j, j < 10 → ((nI j &&& 31).toBitVec.smod 32).toNat = j := by decide +kernel
theorem bt_cls {s j : Nat} (hs : s < 2 ^ 31) (hj : j < 10) : ((nI s >>> (nI j &&& 31)) &&& (1 : Int32)) = (if bt s j then 1 else 0) := by
  have e1 : nI s >>> (nI j &&& 31) = nI (s / 2 ^ j) := pk_shrN hs _ j (gb7 j hj)
  have h2 : s / 2 ^ j ≤ s := Nat.div_le_self _ _
  have e2 : nI (s / 2 ^ j) &&& (1 : Int32) = nI (s / 2 ^ j % 2 ^ 1) := pk_andN (by omega) 1 rfl
  rw [e1, e2]
  unfold bt
  rcases Nat.mod_two_eq_zero_or_one (s / 2 ^ j) with c | c
  · rw [show s / 2 ^ j % 2 ^ 1 = 0 from c]; rfl
  · rw [show s / 2 ^ j % 2 ^ 1 = 1 from c]; rfl
theorem bt_has {s j : Nat} (hs : s < 2 ^ 31) (hj : j < 10) : f_X12_has (nI s) (nI j) = (if bt s j then 1 else 0) := by
  unfold f_X12_has
  rw [bt_cls hs hj]
  cases bt s j <;> rfl
