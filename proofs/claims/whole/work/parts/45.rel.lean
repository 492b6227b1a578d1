/-! The relation between the class's cells and the reference's -/
def used (w j : Nat) : Bool := (w == 4 || w == 6 || w == 9) || (w == 5 && decide (j < 2)) || ((w == 7 || w == 8 || w == 11) && j == 0)
def TxC (k i : Nat) (C : CM) (O : OM) : Prop := ∃ w, w < 12 ∧ C (422 + 6 * k + 4) i = nI (128 + w) ∧ O.1 451 (24 * k + i) = nI w ∧ (∀ j, j < 3 → used w j = true → C (422 + 6 * k + 5) (3 * i + j) = O.1 (453 + j) (24 * k + i)) ∧ (w = 11 → ∃ v, v ≤ 60 ∧ O.1 453 (24 * k + i) = nI v)
def TxL (k L nc : Nat) (C : CM) (O : OM) : Prop := (C (422 + 6 * k + 3) L = C (422 + 6 * k + 2) L ∧ ∀ i, i < nc → O.1 451 (24 * k + i) ≠ nI L) ∨
  ∃ i a len fr dp, i < nc ∧ O.1 451 (24 * k + i) = nI L ∧ (∀ i', i' < nc → i' ≠ i → O.1 451 (24 * k + i') ≠ nI L) ∧ O.1 452 (24 * k + i) = nI fr ∧ LawC (422 + 6 * k) C O L a len fr dp ∧ fr + len < 400 * (k + 1)
def TextR (k : Nat) (C : CM) (O : OM) : Prop := ∃ nc, nc ≤ 24 ∧ C (422 + 6 * k) 6 = nI nc ∧ O.1 450 k = nI nc ∧ (∀ i, i < nc → TxC k i C O) ∧ ∀ L, L < 4 → TxL k L nc C O
theorem TextR.mono {k : Nat} {C C1 : CM} {O O1 : OM} (h : TextR k C O) (hC : ∀ j, j ≤ 5 → C1 (422 + 6 * k + j) = C (422 + 6 * k + j)) (hO : ∀ c, 450 ≤ c → c ≤ 457 → O1.1 c = O.1 c) : TextR k C1 O1 := by
  obtain ⟨nc, h1, h2, h3, h4, h5⟩ := h
  have c0 := hC 0 (by decide)
  rw [Nat.add_zero] at c0
  refine ⟨nc, h1, by rw [c0]; exact h2, by rw [hO 450 (by decide) (by decide)]; exact h3, fun i hi => ?_, fun L hL => ?_⟩
  · obtain ⟨w, g1, g2, g3, g4, g5⟩ := h4 i hi
    exact ⟨w, g1, by rw [hC 4 (by decide)]; exact g2, by rw [hO 451 (by decide) (by decide)]; exact g3, fun j hj hu => by rw [hC 5 (by decide), hO (453 + j) (by omega) (by omega)]; exact g4 j hj hu, fun e => by rw [hO 453 (by decide) (by decide)]; exact g5 e⟩
  · rcases h5 L hL with ⟨g1, g2⟩ | ⟨i, a, len, fr, dp, g1, g2, g3, g4, g5⟩
    · exact Or.inl ⟨by rw [hC 3 (by decide), hC 2 (by decide)]; exact g1, fun i hi => by rw [hO 451 (by decide) (by decide)]; exact g2 i hi⟩
    · exact Or.inr ⟨i, a, len, fr, dp, g1, by rw [hO 451 (by decide) (by decide)]; exact g2, fun i' a1 a2 => by rw [hO 451 (by decide) (by decide)]; exact g3 i' a1 a2, by rw [hO 452 (by decide) (by decide)]; exact g4, g5.1.mono (hC 1 (by decide)) (hC 2 (by decide)) (hC 3 (by decide)) (hO 456 (by decide) (by decide)) (hO 457 (by decide) (by decide)), g5.2⟩
def SS (s : Nat) (C : CM) (B : Nat → Int32) : Prop := VW s C B ∧ C s 4 = B 73 ∧ (∀ j, j < 90 → C (s + 5) j = B (74 + j)) ∧ WOK B
def SJ (n : Nat) (C : CM) (s : Nat) (B : Nat → Int32) : Prop := ∃ c, c ≤ n ∧ C s 0 = nI c ∧ C s 1 = B 70 ∧ C s 2 = B 71 ∧ C s 3 = B 72 ∧ C s 4 = B 73 ∧ (∀ p, p < 7 → (p < c ∨ n ≤ p) → C (s + 1) p = B p ∧ C (s + 2) p = B (7 + p)) ∧ (∀ p, c ≤ p → p < n → B p = C 3 p ∧ B (7 + p) = C 4 p) ∧ (∀ p, p < 7 → C (s + 3) p = B (14 + p)) ∧ (∀ i, i < 49 → C (s + 4) i = B (21 + i)) ∧ (∀ j, j < 90 → C (s + 5) j = B (74 + j)) ∧ WOK B
def rowN (A : Nat → Int32) : Nat → Int32 := fun k => A (40 + k)
def rowJ (A : Nat → Int32) (j : Nat) : Nat → Int32 := fun k => A (210 + 164 * j + k)
def stp (w e j : Nat) : Nat := w + 9 + 6 * ((e + j) % 30)
def RW (w n t m e : Nat) (C : CM) (A : Nat → Int32) : Prop :=
  (n ≤ 7 ∧ t ≤ 4 ∧ m ≤ 30 ∧ e < 30) ∧ (C (w + 1) 0 = nI n ∧ A 0 = nI n ∧ C w 2 = nI t ∧ A 1 = nI t ∧ C w 4 = nI m ∧ A 3 = nI m ∧ C w 6 = nI e) ∧
  (C w 3 = A 2 ∧ (A 2 = -1 ∨ ∃ j, j < t ∧ A 2 = nI j)) ∧
  (∀ p, p < n → C 2 p = A (10 + p) ∧ C 3 p = A (17 + p) ∧ (∃ k, k < 100 ∧ C 2 p = nI k) ∧ (∃ k, k < 100 ∧ C 3 p = nI k) ∧ (∃ k, k < 8 ∧ C 4 p = nI k)) ∧
  (∀ k, k < 5 → C (w + 7) k = A (24 + k) ∧ (A (24 + k) = -1 ∨ ∃ v, v ≤ 999 ∧ A (24 + k) = nI v) ∧ (n ≤ k → A (24 + k) = -1)) ∧
  SS (w + 1) C (rowN A) ∧ ∀ j, j < m → SJ n C (stp w e j) (rowJ A j)
def bytR (x y : Int32) : Prop := ∃ b : Nat, b < 256 ∧ x = nI b ∧ y = if b < 128 then nI b else nI b - nI 256
def Misc (C : CM) (O : OM) : Prop :=
  (∃ L, L ≤ 300 ∧ C 404 1 = nI L ∧ O.1 446 3 = nI L ∧ ∀ k, k < L → bytR (C 405 k) (O.1 449 k)) ∧ (C 406 1 = O.1 446 4 ∧ C 406 2 = O.1 446 5) ∧ (∀ L, L < 4 → C 386 L = C 385 L) ∧
  ((O.1 447 2 = -1 → C 391 5 = nI 383) ∧ ∀ j, j < 4 → O.1 447 2 = nI j → C 391 5 = nI (422 + 6 * j)) ∧ ∃ sc, isSc sc ∧ C 401 5 = nI sc
def RelX (n t m e n' t' m' e' : Nat) (C : CM) (O : OM) : Prop := RW 5 n t m e C (O.1 447) ∧ RW 194 n' t' m' e' C (O.1 448) ∧ (n' ≤ n ∧ t' ≤ t) ∧ (∀ k, k < t → TextR k C O) ∧ Misc C O
def Rel (C : CM) (O : OM) : Prop := ∃ n t m e n' t' m' e', RelX n t m e n' t' m' e' C O
theorem SS.mono {s : Nat} {C C1 : CM} {B B1 : Nat → Int32} (h : SS s C B) (hC : ∀ k, k ≤ 5 → C1 (s + k) = C (s + k)) (hB : ∀ k, k < 164 → B1 k = B k) : SS s C1 B1 := by
  obtain ⟨⟨a1, a2, a3, a4, a5, a6, a7⟩, b1, b2, b3⟩ := h
  have c0 := hC 0 (by decide)
  rw [Nat.add_zero] at c0
  refine ⟨⟨by rw [c0, hB _ (by decide)]; exact a1, by rw [c0, hB _ (by decide)]; exact a2, by rw [c0, hB _ (by decide)]; exact a3, fun p hp => by rw [hC 1 (by decide), hB _ (by omega)]; exact a4 p hp, fun p hp => by rw [hC 2 (by decide), hB _ (by omega)]; exact a5 p hp, fun p hp => by rw [hC 3 (by decide), hB _ (by omega)]; exact a6 p hp, fun p hp => by rw [hC 4 (by decide), hB _ (by omega)]; exact a7 p hp⟩, by rw [c0, hB _ (by decide)]; exact b1, fun j hj => by rw [hC 5 (by decide), hB _ (by omega)]; exact b2 j hj, b3.congr (fun k hk => hB k (by omega)) (by rw [hB 73 (by decide)]; exact b3.2.2.2.2.2.2.2.2)⟩
theorem SJ.mono {n s : Nat} {C C1 : CM} {B B1 : Nat → Int32} (h : SJ n C s B) (hC : ∀ k, k ≤ 5 → C1 (s + k) = C (s + k)) (h3 : ∀ p, p < n → C1 3 p = C 3 p ∧ C1 4 p = C 4 p) (hn : n ≤ 7) (hB : ∀ k, k < 164 → B1 k = B k) : SJ n C1 s B1 := by
  obtain ⟨c, a1, a2, a3, a4, a5, a6, a7, a8, a9, a10, a11, a12⟩ := h
  have c0 := hC 0 (by decide)
  rw [Nat.add_zero] at c0
  exact ⟨c, a1, by rw [c0]; exact a2, by rw [c0, hB _ (by decide)]; exact a3, by rw [c0, hB _ (by decide)]; exact a4, by rw [c0, hB _ (by decide)]; exact a5, by rw [c0, hB _ (by decide)]; exact a6,
    fun p hp hq => by rw [hC 1 (by decide), hC 2 (by decide), hB _ (by omega), hB _ (by omega)]; exact a7 p hp hq, fun p hp hq => by rw [hB _ (by omega), hB _ (by omega), (h3 p hq).1, (h3 p hq).2]; exact a8 p hp hq,
    fun p hp => by rw [hC 3 (by decide), hB _ (by omega)]; exact a9 p hp, fun p hp => by rw [hC 4 (by decide), hB _ (by omega)]; exact a10 p hp, fun p hp => by rw [hC 5 (by decide), hB _ (by omega)]; exact a11 p hp, a12.congr (fun k hk => hB k (by omega)) (by rw [hB 73 (by decide)]; exact a12.2.2.2.2.2.2.2.2)⟩
theorem stp_in (w e j : Nat) : w + 9 ≤ stp w e j ∧ stp w e j + 5 ≤ w + 188 := by
  unfold stp
  have := Nat.mod_lt (e + j) (show 0 < 30 by decide)
  omega
/-- a Whole whose State alone has changed -/
theorem RW.now {w n t m e : Nat} {C C1 : CM} {A A1 : Nat → Int32} (h : RW w n t m e C A) (h3 : ∀ p, p < n → C1 2 p = C 2 p ∧ C1 3 p = C 3 p ∧ C1 4 p = C 4 p) (hw : C1 w = C w) (hk : ∀ c, w + 7 ≤ c → c ≤ w + 188 → C1 c = C c) (h0 : C1 (w + 1) 0 = C (w + 1) 0)
    (hA : ∀ k, k < 40 ∨ 204 ≤ k → k < 5130 → A1 k = A k) (hs : SS (w + 1) C1 (rowN A1)) : RW w n t m e C1 A1 := by
  obtain ⟨⟨a1, a2, a3, a4⟩, ⟨b1, b2, b3, b4, b5, b6, b7⟩, ⟨c1, c2⟩, d, f, -, g⟩ := h
  refine ⟨⟨a1, a2, a3, a4⟩, ⟨by rw [h0]; exact b1, by rw [hA _ (by omega) (by omega)]; exact b2, by rw [hw]; exact b3, by rw [hA _ (by omega) (by omega)]; exact b4, by rw [hw]; exact b5, by rw [hA _ (by omega) (by omega)]; exact b6, by rw [hw]; exact b7⟩, ⟨by rw [hw, hA _ (by omega) (by omega)]; exact c1, by rw [hA _ (by omega) (by omega)]; exact c2⟩, fun p hp => ?_, fun k hk5 => ?_, hs, fun j hj => ?_⟩
  · obtain ⟨e2, e3, e4⟩ := h3 p hp
    rw [e2, e3, e4, hA _ (by omega) (by omega), hA _ (by omega) (by omega)]; exact d p hp
  · rw [hk _ (by omega) (by omega), hA _ (by omega) (by omega)]; exact f k hk5
  · have hst := stp_in w e j
    exact (g j hj).mono (fun k hk6 => hk _ (by omega) (by omega)) (fun p hp => ⟨(h3 p hp).2.1, (h3 p hp).2.2⟩) a1 (fun k hk6 => hA _ (by omega) (by omega))
theorem RW.mono {w n t m e : Nat} {C C1 : CM} {A A1 : Nat → Int32} (h : RW w n t m e C A) (h3 : ∀ p, p < n → C1 2 p = C 2 p ∧ C1 3 p = C 3 p ∧ C1 4 p = C 4 p) (hw : ∀ c, w ≤ c → c ≤ w + 188 → C1 c = C c) (hA : ∀ k, k < 5130 → A1 k = A k) : RW w n t m e C1 A1 :=
  h.now h3 (hw w (by omega) (by omega)) (fun c a b => hw c (by omega) b) (by rw [hw _ (by omega) (by omega)]) (fun k _ hk => hA k hk) (h.2.2.2.2.2.1.mono (fun k hk => hw _ (by omega) (by omega)) (fun k hk => hA _ (by omega)))
theorem Misc.mono {C C1 : CM} {O O1 : OM} (h : Misc C O) (h1 : C1 404 1 = C 404 1) (h2 : C1 405 = C 405) (h3 : C1 406 1 = C 406 1) (h4 : C1 406 2 = C 406 2) (h5 : C1 385 = C 385) (h6 : C1 386 = C 386) (h7 : C1 391 5 = C 391 5) (h8 : ∃ sc, isSc sc ∧ C1 401 5 = nI sc)
    (o1 : O1.1 446 3 = O.1 446 3) (o2 : O1.1 446 4 = O.1 446 4) (o3 : O1.1 446 5 = O.1 446 5) (o4 : O1.1 449 = O.1 449) (o5 : O1.1 447 2 = O.1 447 2) : Misc C1 O1 := by
  obtain ⟨⟨L, a1, a2, a3, a4⟩, ⟨b1, b2⟩, c, ⟨d1, d2⟩, -⟩ := h
  exact ⟨⟨L, a1, by rw [h1]; exact a2, by rw [o1]; exact a3, fun k hk => by rw [h2, o4]; exact a4 k hk⟩, ⟨by rw [h3, o2]; exact b1, by rw [h4, o3]; exact b2⟩, fun L hL => by rw [h6, h5]; exact c L hL, ⟨by rw [o5, h7]; exact d1, by rw [o5, h7]; exact d2⟩, h8⟩
/-- scratch alone has changed -/
def CoC (C C1 : CM) : Prop := (∀ c, 2 ≤ c → c ≤ 388 → C1 c = C c) ∧ C1 405 = C 405 ∧ (∀ c, 422 ≤ c → c ≤ 445 → C1 c = C c) ∧ C1 391 5 = C 391 5 ∧ (∃ sc, isSc sc ∧ C1 401 5 = nI sc) ∧ C1 404 1 = C 404 1 ∧ C1 406 1 = C 406 1 ∧ C1 406 2 = C 406 2
def CoO (O O1 : OM) : Prop := (∀ c, 447 ≤ c → c ≤ 457 → O1.1 c = O.1 c) ∧ ∀ k, 3 ≤ k → k ≤ 5 → O1.1 446 k = O.1 446 k
theorem RelX.co {n t m e n' t' m' e' : Nat} {C C1 : CM} {O O1 : OM} (h : RelX n t m e n' t' m' e' C O) (hC : CoC C C1) (hO : CoO O O1) : RelX n t m e n' t' m' e' C1 O1 := by
  obtain ⟨a, b, c, d, f⟩ := h
  obtain ⟨c1, c2, c3, c4, c5, c6, c7, c8⟩ := hC
  have ht : t ≤ 4 := a.1.2.1
  refine ⟨a.mono (fun p _ => ⟨by rw [c1 2 (by decide) (by decide)], by rw [c1 3 (by decide) (by decide)], by rw [c1 4 (by decide) (by decide)]⟩) (fun c h1 h2 => c1 c (by omega) (by omega)) (fun k _ => by rw [hO.1 447 (by decide) (by decide)]),
    b.mono (fun p _ => ⟨by rw [c1 2 (by decide) (by decide)], by rw [c1 3 (by decide) (by decide)], by rw [c1 4 (by decide) (by decide)]⟩) (fun c h1 h2 => c1 c (by omega) (by omega)) (fun k _ => by rw [hO.1 448 (by decide) (by decide)]), c,
    fun k hk => (d k hk).mono (fun j hj => c3 _ (by omega) (by omega)) (fun c h1 h2 => hO.1 c (by omega) h2),
    f.mono c6 c2 c7 c8 (c1 385 (by decide) (by decide)) (c1 386 (by decide) (by decide)) c4 c5 (hO.2 3 (by decide) (by decide)) (hO.2 4 (by decide) (by decide)) (hO.2 5 (by decide) (by decide)) (hO.1 449 (by decide) (by decide)) (by rw [hO.1 447 (by decide) (by decide)])⟩
