/-! The corner to watch -/
theorem absN {a b : Nat} (ha : a ≤ 1024) (hb : b ≤ 1024) : ∃ c, c ≤ 2048 ∧ f_J9_abs_0f7a4 (2 * nI a - nI b) = nI c ∧ (if 0 ≤ 2 * nI a - nI b then 2 * nI a - nI b else -(2 * nI a - nI b)) = nI c := by
  have e1 : (2 : Int32) * nI a = nI (2 * a) := pk_mul 2 a
  have es := pk_sub_toInt (a := 2 * a) (b := b) (by omega) (by omega)
  unfold f_J9_abs_0f7a4
  rw [e1]
  by_cases c : b ≤ 2 * a
  · have h0 : 0 ≤ nI (2 * a) - nI b := by rw [Int32.le_iff_toInt_le, es, show (0 : Int32).toInt = 0 from rfl]; omega
    rw [if_pos h0, pk_sub c]
    exact ⟨2 * a - b, by omega, rfl, rfl⟩
  · have h0 : ¬ 0 ≤ nI (2 * a) - nI b := by rw [Int32.le_iff_toInt_le, es, show (0 : Int32).toInt = 0 from rfl]; omega
    rw [if_neg h0, show -(nI (2 * a) - nI b) = nI b - nI (2 * a) from Int32.neg_sub, pk_sub (by omega)]
    exact ⟨b - 2 * a, by omega, rfl, rfl⟩
section
variable {n k all : Nat} {W : Nat → Nat} {C : CM} {O : OM}
/-- nearest (class) against off (reference) -/
def NR (all : Nat) (v2 v3 : Int32) : Prop := (v2 = 2147483647 ∧ v3 = nI all) ∨ ∃ c, c < all ∧ v2 = nI c ∧ v3 = nI c
theorem corn_in {p : Nat} (hn : n ≤ 7) (hA : O.1 447 0 = nI n) (hk : k = min n 5) (hp : p < k) (r4 : ∀ u, u < mm k → f_X12_explainedWith (nI u) O = some (nI (W u))) (r5 : all ≤ 1024) (r6 : ∀ u, W u ≤ all) (r7 : C 417 0 = nI all) (r8 : C 417 1 = nI (mm k))
    (r9 : ∀ j, j < mm k → C 418 j = nI (lo k j) ∧ C 419 j = nI (hgh k j) ∧ C 420 j = nI (W (tw (lo k j) (hgh k j)))) (k93 : Int32 → Int32 → Int32 → Int32 → OM → Option Int32) :
    ∀ d q f g v1 v2 v3, q + d = k → p < q → d < f → NR all v2 v3 → ∃ v1' v2' v3', X2_mostOpen_l7 (g + d) v1 v2 (nI (ixx k p q)) C = X2_mostOpen_l7 g v1' v2' (nI (ixx k p k)) C ∧ X12_corner_l28 k93 f (nI all) v1 v3 (nI p) (nI q) O = k93 (nI all) v1' v3' (nI p) O ∧ NR all v2' v3' := by
  have hk6 : k < 6 := by omega
  have hm := (tb3 k hk6).2.2
  intro d
  induction d with
  | zero =>
    intro q f g v1 v2 v3 hq hpq hf hv
    obtain ⟨f, rfl⟩ : ∃ j, f = j + 1 := ⟨f - 1, by omega⟩
    have : q = k := by omega
    subst this
    rw [X12_corner_l28, fewR hn hA, bnd_s, ← hk, if_pos (Int32.le_refl _), Nat.add_zero]
    exact ⟨v1, v2, v3, rfl, rfl, hv⟩
  | succ d ih =>
    intro q f g v1 v2 v3 hq hpq hf hv
    obtain ⟨f, rfl⟩ : ∃ j, f = j + 1 := ⟨f - 1, by omega⟩
    have hqk : q < k := by omega
    obtain ⟨t1, t2, t3, t4, t5⟩ := tb1 k hk6 p hp q hqk hpq
    obtain ⟨g1, g2, g3⟩ := r9 _ t5
    rw [t1] at g1 g3
    rw [t2] at g2 g3
    have h6 := tb6a k hk6 p hp q hqk (by omega)
    have hWu := r6 (tw p q)
    obtain ⟨c, hc, c1, c2⟩ := absN (a := W (tw p q)) (b := all) (by omega) r5
    have eC : X2_mostOpen_l7 (g + (d + 1)) v1 v2 (nI (ixx k p q)) C = (if v2 ≤ nI c then X2_mostOpen_l7 (g + d) v1 v2 (nI (ixx k p (q + 1))) C else if nI all ≤ nI c then X2_mostOpen_l7 (g + d) v1 v2 (nI (ixx k p (q + 1))) C else X2_mostOpen_l7 (g + d) (nI (10 * p + q)) (nI c) (nI (ixx k p (q + 1))) C) := by
      rw [show g + (d + 1) = g + d + 1 by omega, X2_mostOpen_l7, r8, if_neg (nI_ge t5 (by omega)), show (10 : Int32) = nI 10 from rfl, if_neg (nI_ge t3 (by decide)), gd_p (inbN t3 (by decide)), gd_p (inbN t3 (by decide)), gd_p (inbN t3 (by decide)), nI_clamp (by omega), g1, g2, g3, r7, c1]
      simp only [X2_mostOpen_j74, nI_1, t4]
      rw [pk_mul, nI_add]
    have eO : X12_corner_l28 k93 (f + 1) (nI all) v1 v3 (nI p) (nI q) O = (if v3 ≤ nI c then X12_corner_l28 k93 f (nI all) v1 v3 (nI p) (nI (q + 1)) O else X12_corner_l28 k93 f (nI all) (nI (10 * p + q)) (nI c) (nI p) (nI (q + 1)) O) := by
      rw [X12_corner_l28, fewR hn hA, bnd_s, ← hk, if_neg (nI_ge hqk (by omega)), tb6b p (by omega) q (by omega) (by omega), r4 _ h6.2, bnd_s]
      simp only [X12_corner_j67, X12_corner_j87, nI_1]
      rw [show (10 : Int32) = nI 10 from rfl, pk_mul, nI_add]
      by_cases d0 : 0 ≤ 2 * nI (W (tw p q)) - nI all
      · rw [if_pos d0] at c2 ⊢
        rw [c2]
      · rw [if_neg d0] at c2 ⊢
        rw [c2]
    rw [eC, eO]
    rcases hv with ⟨a1, a2⟩ | ⟨x, x1, x2, x3⟩
    · have hmax : ¬ v2 ≤ nI c := by
        rw [a1, Int32.le_iff_toInt_le, nI_toInt (by omega), show (2147483647 : Int32).toInt = 2147483647 from rfl]
        omega
      rw [if_neg hmax, a2]
      by_cases d1 : all ≤ c
      · rw [if_pos (nI_le d1 (by omega)), if_pos (nI_le d1 (by omega))]
        exact ih (q + 1) f g v1 v2 (nI all) (by omega) (by omega) (by omega) (Or.inl ⟨a1, rfl⟩)
      · rw [if_neg (nI_ge (by omega) (by omega)), if_neg (nI_ge (by omega) (by omega))]
        exact ih (q + 1) f g _ _ _ (by omega) (by omega) (by omega) (Or.inr ⟨c, by omega, rfl, rfl⟩)
    · rw [x2, x3]
      by_cases d1 : x ≤ c
      · rw [if_pos (nI_le d1 (by omega)), if_pos (nI_le d1 (by omega))]
        exact ih (q + 1) f g v1 (nI x) (nI x) (by omega) (by omega) (by omega) (Or.inr ⟨x, x1, rfl, rfl⟩)
      · rw [if_neg (nI_ge (by omega) (by omega)), if_neg (nI_ge (by omega) (by omega)), if_neg (nI_ge (by omega) (by omega))]
        exact ih (q + 1) f g _ _ _ (by omega) (by omega) (by omega) (Or.inr ⟨c, by omega, rfl, rfl⟩)
theorem corn_out (hn : n ≤ 7) (hA : O.1 447 0 = nI n) (hk : k = min n 5) (r4 : ∀ u, u < mm k → f_X12_explainedWith (nI u) O = some (nI (W u))) (r5 : all ≤ 1024) (r6 : ∀ u, W u ≤ all) (r7 : C 417 0 = nI all) (r8 : C 417 1 = nI (mm k))
    (r9 : ∀ j, j < mm k → C 418 j = nI (lo k j) ∧ C 419 j = nI (hgh k j) ∧ C 420 j = nI (W (tw (lo k j) (hgh k j)))) :
    ∀ d p f g v1 v2 v3, p + d = k → d < f → d * 10 < g → NR all v2 v3 → ∃ r, X2_mostOpen_l7 g v1 v2 (nI (ixx k p (p + 1))) C = some r ∧ X12_corner_l13 f (nI all) v1 v3 (nI p) O = some r := by
  have hk6 : k < 6 := by omega
  have hm := (tb3 k hk6).2.2
  intro d
  induction d with
  | zero =>
    intro p f g v1 v2 v3 hp hf hg hv
    obtain ⟨f, rfl⟩ : ∃ j, f = j + 1 := ⟨f - 1, by omega⟩
    obtain ⟨g, rfl⟩ : ∃ j, g = j + 1 := ⟨g - 1, by omega⟩
    have : p = k := by omega
    subst this
    rw [X12_corner_l13, fewR hn hA, bnd_s, ← hk, if_pos (Int32.le_refl _), (tb3 p hk6).1, X2_mostOpen_l7, r8, if_pos (Int32.le_refl _)]
    exact ⟨v1, rfl, rfl⟩
  | succ d ih =>
    intro p f g v1 v2 v3 hp hf hg hv
    obtain ⟨f, rfl⟩ : ∃ j, f = j + 1 := ⟨f - 1, by omega⟩
    obtain ⟨g, rfl⟩ : ∃ j, g = j + (k - (p + 1)) := ⟨g - (k - (p + 1)), by omega⟩
    obtain ⟨v1', v2', v3', q1, q2, q3⟩ := corn_in hn hA hk (show p < k by omega) r4 r5 r6 r7 r8 r9 (fun v1 v2 v3 v4 O => (X12_corner_j93 (fun v1 v2 v3 v4 O => X12_corner_l13 f v1 v2 v3 v4 O) v1 v2 v3 v4 O)) (k - (p + 1)) (p + 1) FU g v1 v2 v3 (by omega) (by omega) (by unfold FU; omega) hv
    obtain ⟨r, s1, s2⟩ := ih (p + 1) f g v1' v2' v3' (by omega) (by omega) (by omega) q3
    rw [tb2 k hk6 p (by omega)] at s1
    rw [q1, s1, X12_corner_l13, fewR hn hA, bnd_s, ← hk, if_neg (nI_ge (by omega) (by omega)), nI_1, q2]
    simp only [X12_corner_j93, nI_1]
    exact ⟨r, rfl, s2⟩
end
theorem opp_corner : op_corner Rel := by
  intro C O h
  obtain ⟨n, t, m, e, n', t', m', e', h'⟩ := h
  have h7 := h'.1.1.1
  have hA : O.1 447 0 = nI n := h'.1.2.1.2.1
  obtain ⟨k, all, W, C1, hk, r1, r2, r3, r4, r5, r6, r7, r8, r9⟩ := reck_both h'
  obtain ⟨r, s1, s2⟩ := corn_out h7 hA hk r4 r5 r6 r7 r8 r9 k 0 FU FU (-1) 2147483647 (nI all) (by omega) (by unfold FU; omega) (by unfold FU; omega) (Or.inl ⟨rfl, rfl⟩)
  rw [Nat.zero_add, (tb3 k (by omega)).2.1] at s1
  unfold f_X11_corner f_X12_corner f_X2_mostOpen
  rw [r1, bnd_s, r3, bnd_s, show (0 : Int32) = nI 0 from rfl, s1, bnd_s, s2]
  exact ⟨r, C1, rfl, rfl, r2.rel⟩
