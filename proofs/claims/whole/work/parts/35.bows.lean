theorem VW.mono {s : Nat} {C C1 : CM} {w w1 : Nat → Int32} (h : VW s C w) (hs : ∀ k, k ≤ 4 → C1 (s + k) = C (s + k)) (hw : w1 = w) : VW s C1 w1 := by
  subst hw
  unfold VW at h ⊢
  have h0 := hs 0 (by decide)
  rw [Nat.add_zero] at h0
  rw [h0, hs 1 (by decide), hs 2 (by decide), hs 3 (by decide), hs 4 (by decide)]
  exact h
theorem FrL.st {q k : Nat} {C C1 : CM} (h : FrL q C C1) (hk : k ≤ 5) : C1 (stI q + k) = C (stI q + k) := by
  have := st_la3 (q := q)
  exact h.1 _ (by omega) (by omega) (by omega)
theorem VW.frL {q : Nat} {C C1 : CM} {O O1 : OM} (h : VW (stI q) C (O.1 470)) (hC : FrL q C C1) (hO : FrO1 471 O O1) : VW (stI q) C1 (O1.1 470) :=
  h.mono (fun k hk => hC.st (by omega)) (hO 470 (by decide))
/-- the same size again, whatever the scratch rows hold -/
theorem size_det {q n p r k : Nat} {C C1 C2 : CM} {O O1 : OM} (hx : CX q n C O) (hv : VW (stI q) C (O.1 470)) (hw : WOK (O.1 470)) (h1 : p < n) (h2 : r < n) (hk : k < 2 ^ 31) (hs : f_X1_sizeOf q (nI p) (nI r) C = some (nI k, C2))
    (hx1 : CX q n C1 O1) (hxm : CX q n C O1) (hv1 : VW (stI q) C1 (O1.1 470)) (hvm : VW (stI q) C (O1.1 470)) (hw1 : WOK (O1.1 470)) :
    ∃ C3 O3, f_X1_sizeOf q (nI p) (nI r) C1 = some (nI k, C3) ∧ f_X12_sizeOf (nI p) (nI r) O1 = some (nI k, O3) ∧ FrL q C1 C3 ∧ FrO1 471 O1 O3 := by
  obtain ⟨ka, Ca, Oa, a1, a2, a3, a4, -⟩ := size_both hxm hvm hw1 h1 h2
  obtain ⟨kb, Cb, Ob, b1, b2, b3, b4, b5, b6⟩ := size_both hx1 hv1 hw1 h1 h2
  rw [hs] at a3
  have e1 : nI k = nI ka := (Prod.mk.inj (Option.some.inj a3)).1
  rw [a4] at b4
  have e2 : nI ka = nI kb := (Prod.mk.inj (Option.some.inj b4)).1
  have e3 : kb = k := by
    have := (nI_eq hk (by omega)).mp (e1.trans e2)
    omega
  subst e3
  exact ⟨Cb, Ob, b3, by rw [a4]; exact b4, b5, b6⟩
