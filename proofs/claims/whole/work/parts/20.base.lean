/-! The pure level. Literals as nI. -/
theorem q_0i : (0 : Int32) = nI 0 := rfl
theorem q_1i : (1 : Int32) = nI 1 := rfl
theorem q_2i : (2 : Int32) = nI 2 := rfl
theorem q_3i : (3 : Int32) = nI 3 := rfl
theorem q_4i : (4 : Int32) = nI 4 := rfl
theorem q_5i : (5 : Int32) = nI 5 := rfl
theorem q_6i : (6 : Int32) = nI 6 := rfl
theorem q_7i : (7 : Int32) = nI 7 := rfl
theorem q_8i : (8 : Int32) = nI 8 := rfl
theorem q_9i : (9 : Int32) = nI 9 := rfl
theorem q_49i : (49 : Int32) = nI 49 := rfl
theorem ofN_bnd {α β : Type} {a : α} {k : α → Option β} : bnd (some a) k = k a := rfl
/-- a number of one's: out of bounds or one of n -/
theorem hasN {s : Nat} {C : CM} {n : Nat} (hn : C s 0 = nI n) {x : Int32} (h : x < 0 ∨ nI n ≤ x) : f_X7_has s x C = 0 := by
  unfold f_X7_has
  rcases h with h | h
  · rw [if_pos h]
  · by_cases h0 : x < 0
    · rw [if_pos h0]
    · rw [if_neg h0, hn, if_pos h]
theorem hasY {s : Nat} {C : CM} {n p : Nat} (hn : C s 0 = nI n) (h7 : n ≤ 7) (h : p < n) : f_X7_has s (nI p) C = 1 := by
  simp (disch := omega) only [f_X7_has, hn, q_7i, nI_pos, nI_ge, if_false]
theorem twoY {s : Nat} {C : CM} {n p q : Nat} (hn : C s 0 = nI n) (h7 : n ≤ 7) (h : p < n) (h2 : q < n) (hne : p ≠ q) : f_X7_areTwo s (nI p) (nI q) C = 1 := by
  have e : ¬ nI p = nI q := fun e => hne ((nI_eq (by omega) (by omega)).mp e)
  unfold f_X7_areTwo
  rw [if_neg e, hasY hn h7 h, hasY hn h7 h2, if_neg (by decide), if_neg (by decide)]
theorem twoE {s : Nat} {C : CM} {x : Int32} : f_X7_areTwo s x x C = 0 := by
  unfold f_X7_areTwo
  rw [if_pos rfl]
theorem twoN1 {s : Nat} {C : CM} {n : Nat} (hn : C s 0 = nI n) {x y : Int32} (h : x < 0 ∨ nI n ≤ x) : f_X7_areTwo s x y C = 0 := by
  unfold f_X7_areTwo
  by_cases e : x = y
  · rw [if_pos e]
  · rw [if_neg e, hasN hn h, if_pos rfl]
theorem twoN2 {s : Nat} {C : CM} {n : Nat} (hn : C s 0 = nI n) {x y : Int32} (h : y < 0 ∨ nI n ≤ y) : f_X7_areTwo s x y C = 0 := by
  unfold f_X7_areTwo
  by_cases e : x = y
  · rw [if_pos e]
  · rw [if_neg e, hasN hn h]
    by_cases e2 : f_X7_has s x C = 0
    · rw [if_pos e2]
    · rw [if_neg e2, if_pos rfl]
theorem inbN {p N : Nat} (h : p < N) (hN : N < 2 ^ 31) : inb (nI p) N := nI_in h hN
theorem outY {s : Nat} {C : CM} {n p : Nat} (hn : C s 0 = nI n) (h7 : n ≤ 7) (h : p < n) : f_X7_out s (nI p) C = some (if C (s + 3) p = 0 then 1 else 0) := by
  unfold f_X7_out
  rw [hasY hn h7 h, if_neg (by decide), gd_p (inbN (by omega) (by decide)), nI_clamp (by omega)]
  split <;> rfl
theorem outN {s : Nat} {C : CM} {n : Nat} (hn : C s 0 = nI n) {x : Int32} (h : x < 0 ∨ nI n ≤ x) : f_X7_out s x C = some 0 := by
  unfold f_X7_out
  rw [hasN hn h, if_pos rfl]
theorem leftY {s : Nat} {C : CM} {n p : Nat} (hn : C s 0 = nI n) (h7 : n ≤ 7) (h : p < n) : f_X7_leftOf s (nI p) C = some (C (s + 1) p) := by
  unfold f_X7_leftOf
  rw [hasY hn h7 h, if_neg (by decide), gd_p (inbN (by omega) (by decide)), nI_clamp (by omega)]
theorem leftN {s : Nat} {C : CM} {n : Nat} (hn : C s 0 = nI n) {x : Int32} (h : x < 0 ∨ nI n ≤ x) : f_X7_leftOf s x C = some 0 := by
  unfold f_X7_leftOf
  rw [hasN hn h, if_pos rfl]
theorem placeY {s : Nat} {C : CM} {n p : Nat} (hn : C s 0 = nI n) (h7 : n ≤ 7) (h : p < n) : f_X7_placeOf s (nI p) C = some (C (s + 2) p) := by
  unfold f_X7_placeOf
  rw [hasY hn h7 h, if_neg (by decide), gd_p (inbN (by omega) (by decide)), nI_clamp (by omega)]
theorem indoorsY {s : Nat} {C : CM} {n p : Nat} (hn : C s 0 = nI n) (h7 : n ≤ 7) (h : p < n) : f_X7_indoorsOf s (nI p) C = some (C (s + 3) p) := by
  unfold f_X7_indoorsOf
  rw [hasY hn h7 h, if_neg (by decide), gd_p (inbN (by omega) (by decide)), nI_clamp (by omega)]
theorem meetY {s : Nat} {C : CM} {n p q : Nat} (hn : C s 0 = nI n) (h7 : n ≤ 7) (h : p < n) (h2 : q < n) : f_X7_meet s (nI p) (nI q) C = some (if p ≠ q ∧ C (s + 3) p = 0 ∧ C (s + 3) q = 0 ∧ C (s + 2) p = C (s + 2) q then 1 else 0) := by
  unfold f_X7_meet
  by_cases e : p = q
  · subst e
    rw [if_pos rfl, if_neg (fun h => h.1 rfl)]
  have e1 : ¬ nI p = nI q := fun e1 => e ((nI_eq (by omega) (by omega)).mp e1)
  rw [if_neg e1, outY hn h7 h, bnd_s]
  by_cases c1 : C (s + 3) p = 0
  · rw [if_pos c1, if_neg (by decide), outY hn h7 h2, bnd_s]
    by_cases c2 : C (s + 3) q = 0
    · rw [if_pos c2, if_neg (by decide), gd_p (inbN (by omega) (by decide)), gd_p (inbN (by omega) (by decide)), nI_clamp (by omega), nI_clamp (by omega)]
      by_cases c3 : C (s + 2) p = C (s + 2) q
      · rw [if_pos c3, if_pos ⟨e, c1, c2, c3⟩]
      · rw [if_neg c3, if_neg (fun h => c3 h.2.2.2)]
    · rw [if_neg c2, if_pos rfl, if_neg (fun h => c2 h.2.2.1)]
  · rw [if_neg c1, if_pos rfl, if_neg (fun h => c1 h.2.1)]
theorem idx7 (p q : Nat) : nI p * 7 + nI q = nI (7 * p + q) := by
  rw [q_7i, pk_mul, nI_add, Nat.mul_comm]
theorem owedY {s : Nat} {C : CM} {n p q : Nat} (hn : C s 0 = nI n) (h7 : n ≤ 7) (h : p < n) (h2 : q < n) : f_X7_owed s (nI p) (nI q) C = some (C (s + 4) (7 * p + q)) := by
  have h49 : 7 * p + q < 49 := by omega
  simp (disch := omega) only [f_X7_owed, hn, nI_pos, nI_ge, if_false, X7_owed_j31, X7_owed_j46, idx7, q_49i]
  rw [if_neg (by decide), if_neg (by decide), gd_p (inbN h49 (by decide)), nI_clamp (by omega)]
theorem owedN {s : Nat} {C : CM} {n : Nat} (hn : C s 0 = nI n) {x y : Int32} (h : (x < 0 ∨ nI n ≤ x) ∨ (y < 0 ∨ nI n ≤ y)) : f_X7_owed s x y C = some 0 := by
  have e : X7_owed_j30 s x y C = some 0 := by
    unfold X7_owed_j30 X7_owed_j31 X7_owed_j46
    rw [if_pos rfl, if_pos rfl]
  unfold f_X7_owed
  rw [hn, e]
  by_cases c1 : x < 0
  · rw [if_pos c1]
  by_cases c2 : nI n ≤ x
  · rw [if_neg c1, if_pos c2]
  by_cases c3 : y < 0
  · rw [if_neg c1, if_neg c2, if_pos c3]
  by_cases c4 : nI n ≤ y
  · rw [if_neg c1, if_neg c2, if_neg c3, if_pos c4]
  · rcases h with (h | h) | (h | h)
    · exact absurd h c1
    · exact absurd h c2
    · exact absurd h c3
    · exact absurd h c4
theorem setY {s : Nat} {C : CM} {n p q : Nat} {x : Int32} (hn : C s 0 = nI n) (h7 : n ≤ 7) (h : p < n) (h2 : q < n) (hne : p ≠ q) : f_X7_setOwed s (nI p) (nI q) x C = some (up2 C (s + 4) (7 * p + q) (f_X11_clamped x 0 9999)) := by
  have h49 : 7 * p + q < 49 := by omega
  unfold f_X7_setOwed
  rw [twoY hn h7 h h2 hne, if_neg (by decide), idx7, gd_p (inbN h49 (by decide)), nI_clamp (by omega)]
theorem setE {s : Nat} {C : CM} {x y : Int32} : f_X7_setOwed s x x y C = some C := by
  unfold f_X7_setOwed
  rw [twoE, if_pos rfl]
