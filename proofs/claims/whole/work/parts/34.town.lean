/-! A town under its laws: frames -/
theorem orders_l {O O1 : OM} (h0 : O1.1 447 2 = O.1 447 2) (h1 : O1.1 450 = O.1 450) (h2 : O1.1 451 = O.1 451) (h3 : O1.1 452 = O.1 452) : ∀ n v1 v2 v3, X12_ordersOf_l4 n v1 v2 v3 O1 = X12_ordersOf_l4 n v1 v2 v3 O := by
  intro n
  induction n with
  | zero => intro v1 v2 v3; rfl
  | succ n ih =>
    intro v1 v2 v3
    rw [X12_ordersOf_l4, X12_ordersOf_l4]
    unfold X12_ordersOf_j64
    simp only [h0, h1, h2, h3, ih]
theorem orders_congr {O O1 : OM} {v : Int32} (h0 : O1.1 447 2 = O.1 447 2) (h1 : O1.1 450 = O.1 450) (h2 : O1.1 451 = O.1 451) (h3 : O1.1 452 = O.1 452) : f_X12_ordersOf v O1 = f_X12_ordersOf v O := orders_l h0 h1 h2 h3 _ _ _ _
def FrT (q : Nat) (C C1 : CM) : Prop := (∀ c, (c < stI q ∨ stI q + 5 < c) → c ≠ laI q → c ≠ laI q + 1 → c ≠ laI q + 2 → C1 c = C c) ∧ (∀ k, k ≠ 4 → C1 (laI q) k = C (laI q) k) ∧ C1 (stI q) 0 = C (stI q) 0
def FrTO (O O1 : OM) : Prop := (∀ c, c ≠ 470 → c ≠ 471 → c ≠ 446 → O1.1 c = O.1 c) ∧ ∀ k, k ≠ 43 → O1.1 446 k = O.1 446 k
theorem FrT.refl {q : Nat} {C : CM} : FrT q C C := ⟨fun _ _ _ _ _ => rfl, fun _ _ => rfl, rfl⟩
theorem FrT.trans {q : Nat} {C C1 C2 : CM} (h : FrT q C C1) (h2 : FrT q C1 C2) : FrT q C C2 := ⟨fun c a b d e => (h2.1 c a b d e).trans (h.1 c a b d e), fun k a => (h2.2.1 k a).trans (h.2.1 k a), h2.2.2.trans h.2.2⟩
theorem FrTO.refl {O : OM} : FrTO O O := ⟨fun _ _ _ _ => rfl, fun _ _ => rfl⟩
theorem FrTO.trans {O O1 O2 : OM} (h : FrTO O O1) (h2 : FrTO O1 O2) : FrTO O O2 := ⟨fun c a b d => (h2.1 c a b d).trans (h.1 c a b d), fun k a => (h2.2 k a).trans (h.2 k a)⟩
theorem st_la3 {q : Nat} : stI q + 5 < laI q ∨ laI q + 2 < stI q := by unfold stI laI; split <;> omega
theorem FrT.ofL {q : Nat} {C C1 : CM} (h : FrL q C C1) : FrT q C C1 := ⟨fun c _ b d e => h.1 c b d e, h.2, by have := st_la3 (q := q); rw [h.1 _ (by omega) (by omega) (by omega)]⟩
theorem FrTO.of1 {O O1 : OM} (h : FrO1 471 O O1) : FrTO O O1 := ⟨fun c _ b _ => h c b, fun k _ => by rw [h 446 (by decide)]⟩
theorem FrTO.ofw {O : OM} {k : Nat} {v : Int32} : FrTO O (oup O 470 k v) := ⟨fun c a _ _ => oup_ne a, fun k _ => by rw [oup_ne (by decide)]⟩
theorem FrT.up {q k i : Nat} {C : CM} {x : Int32} (hi : 1 ≤ i) (h5 : i ≤ 5) : FrT q C (up2 C (stI q + i) k x) := ⟨fun c a _ _ _ => up2_ne (by omega), fun k _ => by have := st_la3 (q := q); rw [up2_ne (by omega)], by rw [up2_ne (by omega)]⟩
theorem FrT.up0 {q k : Nat} {C : CM} {x : Int32} (hk : k ≠ 0) : FrT q C (up2 C (stI q) k x) := ⟨fun c a _ _ _ => up2_ne (by omega), fun k _ => by have := st_la3 (q := q); rw [up2_ne (by omega)], by rw [up2_eq, pk_un (by omega)]⟩
theorem ScR.mono {q : Nat} {C C1 : CM} {O O1 : OM} (h : ScR q C O) (hC : FrT q C C1) (hO : FrTO O O1) : ScR q C1 O1 := by
  obtain ⟨sc, h1, h2, h3⟩ := h
  have hb : ∀ k, 1 ≤ k → k ≤ 3 → C1 (sc + k) = C (sc + k) := by
    intro k k1 k2
    refine hC.1 _ ?_ ?_ ?_ ?_ <;> (unfold stI laI at *; rcases h2 with h2 | h2 <;> split <;> omega)
  refine ⟨sc, by rw [hC.2.1 5 (by decide)]; exact h1, h2, fun L hL => ?_⟩
  have ho : f_X12_ordersOf (nI L) O1 = f_X12_ordersOf (nI L) O := orders_congr (by rw [hO.1 447 (by decide) (by decide) (by decide)]) (hO.1 450 (by decide) (by decide) (by decide)) (hO.1 451 (by decide) (by decide) (by decide)) (hO.1 452 (by decide) (by decide) (by decide))
  rcases h3 L hL with ⟨e1, e2⟩ | ⟨a, len, fr, dp, e1, e2⟩
  · exact Or.inl ⟨by rw [hb 3 (by decide) (by decide), hb 2 (by decide) (by decide)]; exact e1, by rw [ho]; exact e2⟩
  · exact Or.inr ⟨a, len, fr, dp, by rw [ho]; exact e1, e2.mono (hb 1 (by decide) (by decide)) (hb 2 (by decide) (by decide)) (hb 3 (by decide) (by decide)) (hO.1 456 (by decide) (by decide) (by decide)) (hO.1 457 (by decide) (by decide) (by decide))⟩
theorem CX.mono {q n : Nat} {C C1 : CM} {O O1 : OM} (h : CX q n C O) (hC : FrT q C C1) (hO : FrTO O O1) : CX q n C1 O1 := by
  obtain ⟨h1, h2, h3⟩ := h
  have hb : ∀ k, 2 ≤ k → k ≤ 4 → C1 k = C k := by
    intro k k1 k2
    have hs : stI q = 6 ∨ stI q = 395 := by unfold stI; split <;> omega
    have hl : laI q = 391 ∨ laI q = 401 := by unfold laI; split <;> omega
    refine hC.1 _ ?_ ?_ ?_ ?_ <;> omega
  refine ⟨by rw [hC.2.2]; exact h1, ?_, h3.mono hC hO⟩
  unfold PPL at h2 ⊢
  rw [hb 2 (by decide) (by decide), hb 3 (by decide) (by decide), hb 4 (by decide) (by decide), hO.1 447 (by decide) (by decide) (by decide)]
  exact h2
