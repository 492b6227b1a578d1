/-! Tokens: both sides' next -/
theorem u2s {C : CM} {i k : Nat} {v : Int32} : up2 C i k v i k = v := by rw [up2_eq, pk_us]
theorem u2n {C : CM} {i k j : Nat} {v : Int32} (h : j ≠ k) : up2 C i k v i j = C i j := by rw [up2_eq, pk_un h]
theorem o2s {O : OM} {i k : Nat} {v : Int32} : (oup O i k v).1 i k = v := u2s
theorem o2n {O : OM} {i k j : Nat} {v : Int32} (h : j ≠ k) : (oup O i k v).1 i j = O.1 i j := u2n h
theorem up2_same {C : CM} {i k : Nat} (v : Int32) (h : C i k = v) : up2 C i k v = C := by
  funext a b
  by_cases ha : a = i
  · subst ha
    by_cases hb : b = k
    · subst hb; rw [u2s, h]
    · rw [u2n hb]
  · rw [up2_ne ha]
def CB (L : Nat) (b : Nat → Nat) (C : CM) : Prop := L ≤ 300 ∧ C 404 1 = nI L ∧ ∀ k, k < L → b k < 256 ∧ C 405 k = nI (b k)
def OB (L : Nat) (b : Nat → Nat) (O : OM) : Prop := L ≤ 300 ∧ O.1 446 14 = nI L ∧ ∀ k, k < L → b k < 256 ∧ O.1 449 k = yb (b k)
section
variable {L : Nat} {b : Nat → Nat}
theorem CB.up {C : CM} {k : Nat} {x : Int32} (h : CB L b C) (hk : k ≠ 1) : CB L b (up2 C 404 k x) := ⟨h.1, by rw [u2n hk.symm]; exact h.2.1, fun j hj => by rw [up2_ne (by decide)]; exact h.2.2 j hj⟩
theorem OB.up {O : OM} {k : Nat} {x : Int32} (h : OB L b O) (hk : k ≠ 14) : OB L b (oup O 446 k x) := ⟨h.1, by rw [o2n hk.symm]; exact h.2.1, fun j hj => by rw [oup_ne (by decide)]; exact h.2.2 j hj⟩
theorem byC {C : CM} (h : CB L b C) {i : Nat} (hi : i < 1000) : f_X8_byteAt (nI i) C = some (nI (if i < L then b i else 0)) := by
  have h3 := h.1
  unfold f_X8_byteAt
  rw [if_neg (nI_pos (by omega)), h.2.1]
  by_cases c : i < L
  · rw [if_neg (nI_ge c (by omega)), show (300 : Int32) = nI 300 from rfl, if_neg (nI_ge (show i < 300 by omega) (by decide)), gd_p (inbN (by omega) (by decide)), nI_clamp (by omega), (h.2.2 i c).2, if_pos c]
  · rw [if_pos (nI_le (by omega) (by omega)), if_neg c]
    rfl
theorem run_ex (p : Nat → Bool) (L : Nat) : ∀ d s, s + d = L → ∃ e, s ≤ e ∧ e ≤ L ∧ (∀ i, s ≤ i → i < e → p i = true) ∧ (e < L → p e = false) := by
  intro d
  induction d with
  | zero => intro s hs; exact ⟨s, Nat.le_refl _, by omega, fun i a c => absurd c (by omega), fun h => absurd h (by omega)⟩
  | succ d ih =>
    intro s hs
    cases hp : p s
    · exact ⟨s, Nat.le_refl _, by omega, fun i a c => absurd c (by omega), fun _ => hp⟩
    · obtain ⟨e, h1, h2, h3, h4⟩ := ih (s + 1) (by omega)
      refine ⟨e, by omega, h2, fun i a c => ?_, h4⟩
      by_cases hi : i = s
      · rw [hi]; exact hp
      · exact h3 i (by omega) c
def spc (x : Nat) : Bool := decide (x = 32) || decide (x = 10)
theorem sp_O : ∀ x, x < 256 → ((yb x = 32 ↔ x = 32) ∧ (yb x = 10 ↔ x = 10)) := by decide +kernel
theorem sp_C (k50 : CM → Option CM) {e : Nat} : ∀ d a F C, CB L b C → C 404 5 = nI a → a + d = e → e ≤ L → d < F → (∀ i, a ≤ i → i < e → spc (b i) = true) → (e < L → spc (b e) = false) → X8_next_l0 k50 F C = k50 (up2 C 404 5 (nI e)) := by
  intro d
  induction d with
  | zero =>
    intro a F C h h5 ha he hF _ hn
    have h3 := h.1
    obtain ⟨F, rfl⟩ : ∃ j, F = j + 1 := ⟨F - 1, by omega⟩
    have : a = e := by omega
    subst this
    rw [X8_next_l0, h.2.1, h5]
    by_cases c : a < L
    · have hx := (h.2.2 a c).1
      have hs := hn c
      unfold spc at hs
      simp at hs
      rw [if_neg (nI_ge c (by omega)), byC h (by omega), bnd_s, if_pos c, show (32 : Int32) = nI 32 from rfl, show (10 : Int32) = nI 10 from rfl, if_neg (fun e => hs.1 ((nI_eq (by omega) (by decide)).mp e)), bnd_s, if_neg (fun e => hs.2 ((nI_eq (by omega) (by decide)).mp e)), up2_same _ h5]
    · rw [if_pos (nI_le (by omega) (by omega)), up2_same _ h5]
  | succ d ih =>
    intro a F C h h5 ha he hF hy hn
    have h3 := h.1
    obtain ⟨F, rfl⟩ : ∃ j, F = j + 1 := ⟨F - 1, by omega⟩
    have c : a < L := by omega
    have hx := (h.2.2 a c).1
    have hs := hy a (Nat.le_refl _) (by omega)
    unfold spc at hs
    simp at hs
    have next := ih (a + 1) F (up2 C 404 5 (C 404 5 + 1)) (h.up (by decide)) (by rw [u2s, h5, nI_1]) (by omega) he (by omega) (fun i a1 a2 => hy i (by omega) a2) hn
    rw [up2_2] at next
    rw [X8_next_l0, h.2.1]
    rw [h5] at next ⊢
    rw [if_neg (nI_ge c (by omega)), byC h (by omega), bnd_s, if_pos c, show (32 : Int32) = nI 32 from rfl, show (10 : Int32) = nI 10 from rfl]
    by_cases c1 : b a = 32
    · rw [if_pos (by rw [c1])]
      unfold X8_next_j37
      rw [h5]
      exact next
    · rw [if_neg (fun e => c1 ((nI_eq (by omega) (by decide)).mp e)), bnd_s, if_pos (by rw [show b a = 10 by omega])]
      unfold X8_next_j37
      rw [h5]
      exact next
theorem sp_OL (k52 : OM → Option OM) {e : Nat} : ∀ d a F O, OB L b O → O.1 446 15 = nI a → a + d = e → e ≤ L → d < F → (∀ i, a ≤ i → i < e → spc (b i) = true) → (e < L → spc (b e) = false) → X12_next_l0 k52 F O = k52 (oup O 446 15 (nI e)) := by
  intro d
  induction d with
  | zero =>
    intro a F O h h5 ha he hF _ hn
    have h3 := h.1
    obtain ⟨F, rfl⟩ : ∃ j, F = j + 1 := ⟨F - 1, by omega⟩
    have : a = e := by omega
    subst this
    rw [X12_next_l0, h.2.1, h5]
    by_cases c : a < L
    · have hx := (h.2.2 a c)
      have hs := hn c
      unfold spc at hs
      simp at hs
      rw [if_neg (nI_ge c (by omega)), gd_p (inbN (by omega) (by decide)), gd_p (inbN (by omega) (by decide)), nI_clamp (by omega), hx.2, if_neg (fun e => hs.1 ((sp_O _ hx.1).1.mp e)), if_neg (fun e => hs.2 ((sp_O _ hx.1).2.mp e)), oup_same _ h5]
    · rw [if_pos (nI_le (by omega) (by omega)), oup_same _ h5]
  | succ d ih =>
    intro a F O h h5 ha he hF hy hn
    have h3 := h.1
    obtain ⟨F, rfl⟩ : ∃ j, F = j + 1 := ⟨F - 1, by omega⟩
    have c : a < L := by omega
    have hx := (h.2.2 a c)
    have hs := hy a (Nat.le_refl _) (by omega)
    unfold spc at hs
    simp at hs
    have next := ih (a + 1) F (oup O 446 15 (O.1 446 15 + 1)) (h.up (by decide)) (by rw [o2s, h5, nI_1]) (by omega) he (by omega) (fun i a1 a2 => hy i (by omega) a2) hn
    rw [oup_2] at next
    rw [X12_next_l0, h.2.1]
    rw [h5] at next ⊢
    rw [if_neg (nI_ge c (by omega)), gd_p (inbN (by omega) (by decide)), gd_p (inbN (by omega) (by decide)), nI_clamp (by omega), hx.2]
    by_cases c1 : b a = 32
    · rw [if_pos ((sp_O _ hx.1).1.mpr c1)]
      unfold X12_next_j39
      rw [h5]
      exact next
    · rw [if_neg (fun e => c1 ((sp_O _ hx.1).1.mp e)), if_pos ((sp_O _ hx.1).2.mpr (by omega))]
      unfold X12_next_j39
      rw [h5]
      exact next
theorem tw_C (k38 : CM → Option CM) {e : Nat} : ∀ d a F C, CB L b C → C 404 5 = nI a → a + d = e → e ≤ L → d < F → (∀ i, a ≤ i → i < e → ltr (b i) = true) → (e < L → ltr (b e) = false) → X8_takeWord_l0 k38 F C = k38 (up2 C 404 5 (nI e)) := by
  intro d
  induction d with
  | zero =>
    intro a F C h h5 ha he hF _ hn
    have h3 := h.1
    obtain ⟨F, rfl⟩ : ∃ j, F = j + 1 := ⟨F - 1, by omega⟩
    have : a = e := by omega
    subst this
    rw [X8_takeWord_l0, h.2.1, h5]
    by_cases c : a < L
    · have hx := (h.2.2 a c).1
      rw [if_neg (nI_ge c (by omega)), byC h (by omega), bnd_s, if_pos c, ltr_C _ hx, hn c, up2_same _ h5]
      rfl
    · rw [if_pos (nI_le (by omega) (by omega)), up2_same _ h5]
  | succ d ih =>
    intro a F C h h5 ha he hF hy hn
    have h3 := h.1
    obtain ⟨F, rfl⟩ : ∃ j, F = j + 1 := ⟨F - 1, by omega⟩
    have c : a < L := by omega
    have hx := (h.2.2 a c).1
    have next := ih (a + 1) F (up2 C 404 5 (C 404 5 + 1)) (h.up (by decide)) (by rw [u2s, h5, nI_1]) (by omega) he (by omega) (fun i a1 a2 => hy i (by omega) a2) hn
    rw [up2_2] at next
    rw [X8_takeWord_l0, h.2.1]
    rw [h5] at next ⊢
    rw [if_neg (nI_ge c (by omega)), byC h (by omega), bnd_s, if_pos c, ltr_C _ hx, hy a (Nat.le_refl _) (by omega), if_neg (by decide)]
    exact next
theorem l99_l (k173 : Int64 → Int32 → OM → Option OM) {s N : Nat} : ∀ d m F O, OB L b O → O.1 446 15 = nI (s + m) → m + d = N → s + N ≤ L → d < F → (∀ i, i < N → ltr (b (s + i)) = true) → (s + N < L → ltr (b (s + N)) = false) → X12_next_l99 k173 F (lN (ER b s (min m 8))) (nI m) O = k173 (lN (ER b s (min N 8))) (nI N) (oup O 446 15 (nI (s + N))) := by
  intro d
  induction d with
  | zero =>
    intro m F O h h5 ha he hF _ hn
    have h3 := h.1
    obtain ⟨F, rfl⟩ : ∃ j, F = j + 1 := ⟨F - 1, by omega⟩
    have : m = N := by omega
    subst this
    rw [X12_next_l99, h.2.1, h5]
    by_cases c : s + m < L
    · have hx := (h.2.2 _ c)
      rw [if_neg (nI_ge c (by omega)), gd_p (inbN (by omega) (by decide)), gd_p (inbN (by omega) (by decide)), nI_clamp (by omega), hx.2, ltr_O _ hx.1, hn c, oup_same _ h5]
      rfl
    · rw [if_pos (nI_le (by omega) (by omega)), oup_same _ h5]
  | succ d ih =>
    intro m F O h h5 ha he hF hy hn
    have h3 := h.1
    obtain ⟨F, rfl⟩ : ∃ j, F = j + 1 := ⟨F - 1, by omega⟩
    have c : s + m < L := by omega
    have hx := (h.2.2 _ c)
    have hl := hy m (by omega)
    have hr := ltr_r hl
    have next := ih (m + 1) F (oup O 446 15 (O.1 446 15 + 1)) (h.up (by decide)) (by rw [o2s, h5, nI_1]; rfl) (by omega) he (by omega) hy hn
    rw [oup_2] at next
    rw [X12_next_l99, h.2.1]
    rw [h5] at next ⊢
    rw [if_neg (nI_ge c (by omega)), gd_p (inbN (by omega) (by decide)), gd_p (inbN (by omega) (by decide)), nI_clamp (by omega), hx.2, ltr_O _ hx.1, hl, if_neg (by decide), show (8 : Int32) = nI 8 from rfl]
    by_cases c1 : 8 ≤ m
    · rw [if_pos (nI_le c1 (by omega))]
      unfold X12_next_j156
      rw [h5, nI_1, show min m 8 = min (m + 1) 8 by omega]
      rw [nI_1] at next
      rw [nI_1]
      exact next
    · rw [if_neg (nI_ge (by omega) (by decide)), yb_lo (by omega), nI_l (by omega), show (64 : Int64) = lN 64 from rfl, show min m 8 = m by omega, lN_mul, lN_add, lN_sub (by omega)]
      unfold X12_next_j156
      rw [show min (m + 1) 8 = m + 1 by omega, show ER b s (m + 1) = 64 * ER b s m + b (s + m) - 64 by show 64 * ER b s m + (b (s + m) - 64) = _; omega] at next
      rw [h5, nI_1]
      exact next
end
