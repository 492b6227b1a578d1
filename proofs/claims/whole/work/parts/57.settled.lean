/-! Sets as numbers; settled -/
def bt (s p : Nat) : Bool := s / 2 ^ p % 2 == 1
theorem b_has : ∀ s, s < 128 → ∀ p, p < 7 → f_X12_has (nI s) (nI p) = (if bt s p then 1 else 0) := by decide +kernel
theorem b_cls : ∀ s, s < 128 → ∀ p, p < 7 → ((nI s >>> (nI p &&& 31)) &&& (1 : Int32)) = (if bt s p then 1 else 0) := by decide +kernel
theorem b_sub : ∀ s, s < 128 → ∀ p, p < 7 → bt s p = true → nI s - ((1 : Int32) <<< (nI p &&& 31)) = nI (s - 2 ^ p) ∧ nI s &&& (((1 : Int32) <<< (nI p &&& 31)) ^^^ (-1 : Int32)) = nI (s - 2 ^ p) ∧ s - 2 ^ p < s := by decide +kernel
theorem b_oth1 : ∀ s, s < 128 → ∀ p, p < 7 → bt s p = true → bt (s - 2 ^ p) p = false := by decide +kernel
theorem b_oth2 : ∀ s, s < 128 → ∀ p, p < 7 → ∀ q, q < 7 → q ≠ p → bt s p = true → bt (s - 2 ^ p) q = bt s q := by decide +kernel
theorem b_sh : ∀ n, n < 8 → (1 : Int32) <<< (nI n &&& 31) = nI (2 ^ n) := by decide +kernel
def tz (s : Nat) : Nat := if s % 2 = 1 then 0 else if s / 2 % 2 = 1 then 1 else if s / 4 % 2 = 1 then 2 else if s / 8 % 2 = 1 then 3 else if s / 16 % 2 = 1 then 4 else if s / 32 % 2 = 1 then 5 else 6
theorem b_tz : ∀ s, s < 128 → 0 < s → f_J6_numberOfTrailingZeros_0f7a4 (nI s) = nI (tz s) ∧ nI s &&& (nI s - 1) = nI (s - 2 ^ tz s) ∧ bt s (tz s) = true ∧ tz s < 7 := by decide +kernel
theorem b_lt : ∀ n, n < 8 → ∀ s, s < 2 ^ n → ∀ p, p < 7 → bt s p = true → p < n := by decide +kernel
theorem TW.scr {n : Nat} {C C1 : CM} {O O1 : OM} (h : TW 0 n C O) (hC : ∀ c, c < 413 ∨ 421 < c → C1 c = C c) (hO : ∀ c, c ≠ 473 → c ≠ 474 → O1.1 c = O.1 c) : TW 0 n C1 O1 := by
  obtain ⟨⟨h1, h2, h3⟩, h4, h5⟩ := h
  refine ⟨⟨by rw [hC _ (by decide)]; exact h1, ?_, h3.mono2 (by rw [hC _ (by decide)]) (fun c hc => hC c (by omega)) (by rw [hO 447 (by decide) (by decide)]) (fun c c1 c2 => hO c (by omega) (by omega))⟩, h4.mono (fun k hk => hC _ ?_) (hO 470 (by decide) (by decide)), by rw [hO 470 (by decide) (by decide)]; exact h5⟩
  · unfold PPL at h2 ⊢
    rw [hC 2 (by decide), hC 3 (by decide), hC 4 (by decide), hO 447 (by decide) (by decide)]; exact h2
  · have : stI 0 = 6 := rfl
    omega
theorem owed_c {s : Nat} {C C1 : CM} (h1 : C1 s = C s) (h2 : C1 (s + 4) = C (s + 4)) : ∀ n v1 v2 v3, X7_owedTogether_l4 s n v1 v2 v3 C1 = X7_owedTogether_l4 s n v1 v2 v3 C := by
  intro n
  induction n with
  | zero => intro v1 v2 v3; rfl
  | succ n ih =>
    intro v1 v2 v3
    rw [X7_owedTogether_l4, X7_owedTogether_l4]
    unfold f_X7_owed X7_owed_j30 X7_owed_j31 X7_owed_j46
    simp only [h1, h2, ih]
theorem owes_c {s : Nat} {C C1 : CM} (h1 : C1 s = C s) (h2 : C1 (s + 4) = C (s + 4)) : ∀ n v1 v2 v3, X7_owesTogether_l4 s n v1 v2 v3 C1 = X7_owesTogether_l4 s n v1 v2 v3 C := by
  intro n
  induction n with
  | zero => intro v1 v2 v3; rfl
  | succ n ih =>
    intro v1 v2 v3
    rw [X7_owesTogether_l4, X7_owesTogether_l4]
    unfold f_X7_owed X7_owed_j30 X7_owed_j31 X7_owed_j46
    simp only [h1, h2, ih]
theorem sum_at {n : Nat} {C : CM} {O : OM} (h : TW 0 n C O) : ∃ D E : Nat → Int32, ∀ p, p < n → ∀ C1 O1, (∀ c, c < 413 ∨ 421 < c → C1 c = C c) → (∀ c, c ≠ 473 → c ≠ 474 → O1.1 c = O.1 c) →
    f_X7_owedTogether 6 (nI p) C1 = some (D p) ∧ f_X12_allOwedTo (nI p) O1 = some (D p) ∧ f_X7_owesTogether 6 (nI p) C1 = some (E p) ∧ f_X12_allOwedBy (nI p) O1 = some (E p) := by
  refine ⟨fun p => (f_X7_owedTogether 6 (nI p) C).getD 0, fun p => (f_X7_owesTogether 6 (nI p) C).getD 0, fun p hp C1 O1 hC hO => ?_⟩
  have h1 := h.scr hC hO
  obtain ⟨S, a1, a2⟩ := owedTo_both h1 hp
  obtain ⟨T, b1, b2, -⟩ := owes_both h1 hp
  have e1 : f_X7_owedTogether 6 (nI p) C = some S := (owed_c (hC 6 (by decide)).symm (hC 10 (by decide)).symm _ _ _ _).trans a1
  have e2 : f_X7_owesTogether 6 (nI p) C = some T := (owes_c (hC 6 (by decide)).symm (hC 10 (by decide)).symm _ _ _ _).trans b1
  simp only [e1, e2, Option.getD_some]
  exact ⟨a1, a2, b1, b2⟩
/-- sum over the ones of a set below k -/
def sD (F : Nat → Int32) (s : Nat) : Nat → Int32
  | 0 => 0
  | k + 1 => if bt s k then sD F s k + F k else sD F s k
theorem sD_sub (F : Nat → Int32) {s l : Nat} (hs : s < 128) (hl : l < 7) (hb : bt s l = true) : ∀ k, k ≤ 7 → sD F s k = sD F (s - 2 ^ l) k + (if l < k then F l else 0) := by
  have b1 := b_oth1 s hs l hl hb
  have b2 : ∀ q, q < 7 → q ≠ l → bt (s - 2 ^ l) q = bt s q := fun q h1 h2 => b_oth2 s hs l hl q h1 h2 hb
  intro k
  induction k with
  | zero => intro _; rw [if_neg (by omega)]; rfl
  | succ k ih =>
    intro hk
    have ih := ih (by omega)
    show (if bt s k then sD F s k + F k else sD F s k) = (if bt (s - 2 ^ l) k then sD F (s - 2 ^ l) k + F k else sD F (s - 2 ^ l) k) + _
    by_cases e : k = l
    · subst e
      rw [if_pos hb, b1, if_neg (show ¬ false = true by decide), if_pos (show k < k + 1 by omega), ih, if_neg (show ¬ k < k by omega), Int32.add_zero]
    · rw [b2 k (by omega) e, ih]
      by_cases c : l < k
      · rw [if_pos c, if_pos (show l < k + 1 by omega)]
        by_cases d : bt s k = true
        · rw [if_pos d, if_pos d, Int32.add_assoc, Int32.add_assoc, Int32.add_comm (F l)]
        · rw [if_neg d, if_neg d]
      · rw [if_neg c, if_neg (show ¬ l < k + 1 by omega), Int32.add_zero]
        by_cases d : bt s k = true
        · rw [if_pos d, Int32.add_zero]
        · rw [if_neg d, Int32.add_zero]
theorem bi10 {b : Bool} : ((if b then (1 : Int32) else 0) = 0) ↔ b = false := by cases b <;> decide
theorem set_in {n s : Nat} {C0 : CM} {O0 : OM} (h : TW 0 n C0 O0) {D E : Nat → Int32} (hDE : ∀ p, p < n → ∀ C1 O1, (∀ c, c < 413 ∨ 421 < c → C1 c = C0 c) → (∀ c, c ≠ 473 → c ≠ 474 → O1.1 c = O0.1 c) →
    f_X7_owedTogether 6 (nI p) C1 = some (D p) ∧ f_X12_allOwedTo (nI p) O1 = some (D p) ∧ f_X7_owesTogether 6 (nI p) C1 = some (E p) ∧ f_X12_allOwedBy (nI p) O1 = some (E p))
    (hs : s < 128) (v1 : Int32) (v2 : Int32) (k136 : Int32 → Int32 → CM → Option (Int32 × CM)) (k104 : Int32 → Int32 → Int32 → Int32 → Int32 → OM → Option (Int32 × OM)) {O : OM} (hO : ∀ c, c ≠ 473 → c ≠ 474 → O.1 c = O0.1 c) :
    ∀ d k m1 m2 C x, k + d = n → d < m1 → d < m2 → (∀ c, c < 413 ∨ 421 < c → C c = C0 c) → C 416 s = x → (∀ s', s' < s → C 416 s' = O.1 474 s') →
      ∃ C1 x', X5_mostEvenSets_l84 6 k136 m1 v2 (nI s) (nI k) C = k136 v2 (nI s) C1 ∧ X12_settled_l36 k104 m2 v1 (nI n) (nI s) (sD (fun p => D p - E p) s k) x (nI k) O = k104 v1 (nI n) (nI s) (sD (fun p => D p - E p) s n) x' O ∧ C1 416 s = x' ∧ (∀ c, c ≠ 416 → C1 c = C c) ∧ ∀ s', s' ≠ s → C1 416 s' = C 416 s' := by
  have h7 := h.1.2.1.1
  intro d
  induction d with
  | zero =>
    intro k m1 m2 C x hk hm1 hm2 hC hx hr
    obtain ⟨m1, rfl⟩ : ∃ m, m1 = m + 1 := ⟨m1 - 1, by omega⟩
    obtain ⟨m2, rfl⟩ : ∃ m, m2 = m + 1 := ⟨m2 - 1, by omega⟩
    have : k = n := by omega
    subst this
    rw [X5_mostEvenSets_l84, X12_settled_l36, show C 6 0 = nI k from (congrFun (hC 6 (by decide)) 0).trans h.1.1, if_pos (Int32.le_refl _), if_pos (Int32.le_refl _)]
    exact ⟨C, x, rfl, rfl, hx, fun _ _ => rfl, fun _ _ => rfl⟩
  | succ d ih =>
    intro k m1 m2 C x hk hm1 hm2 hC hx hr
    obtain ⟨m1, rfl⟩ : ∃ m, m1 = m + 1 := ⟨m1 - 1, by omega⟩
    obtain ⟨m2, rfl⟩ : ∃ m, m2 = m + 1 := ⟨m2 - 1, by omega⟩
    have hkn : k < n := by omega
    have hk7 : k < 7 := by omega
    rw [X5_mostEvenSets_l84, X12_settled_l36, show C 6 0 = nI n from (congrFun (hC 6 (by decide)) 0).trans h.1.1, if_neg (leN hkn h7), if_neg (leN hkn h7), b_has s hs k hk7, b_cls s hs k hk7]
    simp only [X5_mostEvenSets_j130, X12_settled_j98, X12_settled_j96, nI_1]
    by_cases b : bt s k = true
    · obtain ⟨q1, q2, q3⟩ := b_sub s hs k hk7 b
      obtain ⟨g1, g2, g3, g4⟩ := hDE k hkn C O hC hO
      rw [if_neg (by rw [b]; decide), if_neg (by rw [b]; decide), g2, g4, bnd_s, bnd_s, q1, q2, gd_p (inbN hs (by decide)), gd_p (inbN (by omega) (by decide)), gd_p (inbN hs (by decide)), gd_p (inbN (by omega) (by decide)), nI_clamp (by omega), nI_clamp (by omega), hx, hr _ q3]
      have es : sD (fun p => D p - E p) s (k + 1) = sD (fun p => D p - E p) s k + (D k - E k) := if_pos b
      have emax : ∀ y, f_J9_max_7cf53 x y = if y ≤ x then x else y := by
        intro y
        unfold f_J9_max_7cf53
        by_cases c : x < y
        · rw [if_pos c, if_neg (fun h => Int32.lt_irrefl (Int32.lt_of_lt_of_le c h))]
        · rw [if_neg c, if_pos (Int32.not_lt.mp c)]
      rw [emax, ← es]
      have go : ∀ z, ∃ C1 x', X5_mostEvenSets_l84 6 k136 m1 v2 (nI s) (nI (k + 1)) (up2 C 416 s z) = k136 v2 (nI s) C1 ∧ X12_settled_l36 k104 m2 v1 (nI n) (nI s) (sD (fun p => D p - E p) s (k + 1)) z (nI (k + 1)) O = k104 v1 (nI n) (nI s) (sD (fun p => D p - E p) s n) x' O ∧ C1 416 s = x' ∧ (∀ c, c ≠ 416 → C1 c = C c) ∧ ∀ s', s' ≠ s → C1 416 s' = C 416 s' := by
        intro z
        obtain ⟨C1, x', r1, r2, r3, r4, r5⟩ := ih (k + 1) m1 m2 (up2 C 416 s z) z (by omega) (by omega) (by omega) (fun c hc => by rw [up2_ne (by omega)]; exact hC c hc) (by rw [up2_eq, pk_us]) (fun s' h' => by rw [up2_eq, pk_un (by omega)]; exact hr s' h')
        exact ⟨C1, x', r1, r2, r3, fun c hc => (r4 c hc).trans (up2_ne hc), fun s' h' => by rw [r5 s' h', up2_eq, pk_un h']⟩
      by_cases c : O.1 474 (s - 2 ^ k) ≤ x
      · rw [if_pos c, if_pos c]; exact go x
      · rw [if_neg c, if_neg c]; exact go _
    · have bf : bt s k = false := (Bool.not_eq_true _).mp b
      rw [if_pos (by rw [bf]; decide), if_pos (by rw [bf]; decide)]
      have es : sD (fun p => D p - E p) s (k + 1) = sD (fun p => D p - E p) s k := if_neg b
      rw [← es]
      exact ih (k + 1) m1 m2 C x (by omega) (by omega) (by omega) hC hx hr
