/-! The reader: the state of both sides within a law, what a method keeps -/
def PZ (L : Nat) (b : Nat → Nat) (Lw s d nf nw lc no : Nat) (C : CM) (O : OM) : Prop :=
  TS L b s C O ∧ C 406 1 = 0 ∧ C 406 2 = -1 ∧ O.1 446 19 = 0 ∧ O.1 446 20 = -1 ∧ Lw < 4 ∧ C 406 4 = nI (128 + Lw) ∧ O.1 446 31 = nI Lw ∧ O.1 446 21 = nI d ∧ O.1 446 22 = nI nf ∧ O.1 446 25 = nI nw ∧ C 407 5 = nI lc ∧ O.1 446 37 = nI no
def KPR (nf nw lc no : Nat) (C : CM) (O : OM) (C1 : CM) (O1 : OM) : Prop :=
  FrP C C1 ∧ FrQ O O1 ∧ (∀ j, j < nf → O1.1 458 j = O.1 458 j) ∧ (∀ j, j ≤ nf → O1.1 459 j = O.1 459 j ∧ O1.1 462 j = O.1 462 j) ∧ (∀ j, j < nw → O1.1 460 j = O.1 460 j ∧ O1.1 461 j = O.1 461 j) ∧ (∀ j, j < lc → C1 408 j = C 408 j) ∧ ∀ j, j < no → O1.1 468 j = O.1 468 j ∧ O1.1 469 j = O.1 469 j
theorem KPR.refl {nf nw lc no : Nat} {C : CM} {O : OM} : KPR nf nw lc no C O C O := ⟨FrP.refl, FrQ.refl, fun _ _ => rfl, fun _ _ => ⟨rfl, rfl⟩, fun _ _ => ⟨rfl, rfl⟩, fun _ _ => rfl, fun _ _ => ⟨rfl, rfl⟩⟩
/-- first a method that keeps more, then one that keeps at least as much -/
theorem KPR.trans {nf nw lc no nf' nw' lc' no' : Nat} {C C1 C2 : CM} {O O1 O2 : OM} (h : KPR nf nw lc no C O C1 O1) (g : KPR nf' nw' lc' no' C1 O1 C2 O2) (h1 : nf ≤ nf') (h2 : nw ≤ nw') (h3 : lc ≤ lc') (h4 : no ≤ no') : KPR nf nw lc no C O C2 O2 := by
  obtain ⟨a1, a2, a3, a4, a5, a6, a7⟩ := h
  obtain ⟨b1, b2, b3, b4, b5, b6, b7⟩ := g
  exact ⟨a1.trans b1, a2.trans b2, fun j hj => (b3 j (by omega)).trans (a3 j hj), fun j hj => ⟨(b4 j (by omega)).1.trans (a4 j hj).1, (b4 j (by omega)).2.trans (a4 j hj).2⟩, fun j hj => ⟨(b5 j (by omega)).1.trans (a5 j hj).1, (b5 j (by omega)).2.trans (a5 j hj).2⟩, fun j hj => (b6 j (by omega)).trans (a6 j hj), fun j hj => ⟨(b7 j (by omega)).1.trans (a7 j hj).1, (b7 j (by omega)).2.trans (a7 j hj).2⟩⟩
theorem KPR.le {nf nw lc no nf' nw' lc' no' : Nat} {C C1 : CM} {O O1 : OM} (g : KPR nf' nw' lc' no' C O C1 O1) (h1 : nf ≤ nf') (h2 : nw ≤ nw') (h3 : lc ≤ lc') (h4 : no ≤ no') : KPR nf nw lc no C O C1 O1 := KPR.refl.trans g h1 h2 h3 h4
/-- the machine alone changes some numbers, and rows at free places -/
theorem KPR.o {nf nw lc no c k : Nat} {C : CM} {O : OM} {x : Int32} (h : (c = 446 ∧ ((15 ≤ k ∧ k ≤ 28) ∨ k = 37)) ∨ (c = 458 ∧ nf ≤ k) ∨ ((c = 459 ∨ c = 462) ∧ nf < k) ∨ ((c = 460 ∨ c = 461) ∧ nw ≤ k) ∨ ((c = 468 ∨ c = 469) ∧ no ≤ k)) : KPR nf nw lc no C O C (oup O c k x) := by
  have row : ∀ c' j, (c' ≠ c ∨ j ≠ k) → (oup O c k x).1 c' j = O.1 c' j := fun c' j hj => by
    by_cases e : c' = c
    · subst e
      exact o2n (by omega)
    · rw [oup_ne e]
  refine ⟨FrP.refl, ?_, fun j hj => row _ _ (by omega), fun j hj => ⟨row _ _ (by omega), row _ _ (by omega)⟩, fun j hj => ⟨row _ _ (by omega), row _ _ (by omega)⟩, fun _ _ => rfl, fun j hj => ⟨row _ _ (by omega), row _ _ (by omega)⟩⟩
  by_cases e : c = 446
  · subst e; exact FrQ.s (by omega)
  · exact FrQ.r (by omega)
theorem KPR.c {nf nw lc no k : Nat} {C : CM} {O : OM} {x y : Int32} (h : lc ≤ k) : KPR nf nw lc no C O (up2 (up2 C 408 k x) 407 5 y) O := ⟨FrP.em, FrQ.refl, fun _ _ => rfl, fun _ _ => ⟨rfl, rfl⟩, fun _ _ => ⟨rfl, rfl⟩, fun j hj => by rw [up2_ne (by decide), u2n (by omega)], fun _ _ => ⟨rfl, rfl⟩⟩
theorem KPR.n {nf nw lc no : Nat} {C C1 : CM} {O O1 : OM} (h : FC4 C C1) (g : FO6 O O1) : KPR nf nw lc no C O C1 O1 := by
  refine ⟨FrP.of4 h, FrQ.of6 g, fun j _ => ?_, fun j _ => ⟨?_, ?_⟩, fun j _ => ⟨?_, ?_⟩, fun j _ => ?_, fun j _ => ⟨?_, ?_⟩⟩
  · rw [g.1 458 (by decide)]
  · rw [g.1 459 (by decide)]
  · rw [g.1 462 (by decide)]
  · rw [g.1 460 (by decide)]
  · rw [g.1 461 (by decide)]
  · rw [h.1 408 (by decide)]
  · rw [g.1 468 (by decide)]
  · rw [g.1 469 (by decide)]
def WB (r nf nw : Nat) (O : OM) : Prop := ∀ j, j < nw → ∃ p f, p < 1000 ∧ O.1 460 j = nI p ∧ O.1 461 j = nI f ∧ f ≤ nf ∧ (f = nf → rk p < r)
theorem WB.congr {r nf nw : Nat} {O O1 : OM} (h : WB r nf nw O) (g : ∀ j, j < nw → O1.1 460 j = O.1 460 j ∧ O1.1 461 j = O.1 461 j) : WB r nf nw O1 := fun j hj => by
  rw [(g j hj).1, (g j hj).2]
  exact h j hj
theorem WB.up {r r' nf nf' nw : Nat} {O : OM} (h : WB r nf nw O) (hn : nf < nf') : WB r' nf' nw O := fun j hj => by
  obtain ⟨p, f, h1, h2, h3, h4, h5⟩ := h j hj
  exact ⟨p, f, h1, h2, h3, by omega, fun e => by omega⟩
theorem WB.r {r r' nf nw : Nat} {O : OM} (h : WB r nf nw O) (hr : r ≤ r') : WB r' nf nw O := fun j hj => by
  obtain ⟨p, f, h1, h2, h3, h4, h5⟩ := h j hj
  exact ⟨p, f, h1, h2, h3, h4, fun e => Nat.lt_of_lt_of_le (h5 e) hr⟩
/-- a step of code and the next token, on both sides -/
theorem leaf {L : Nat} {b : Nat → Nat} {Lw s d nf nw lc no : Nat} {C : CM} {O : OM} (h : PZ L b Lw s d nf nw lc no C O) (hn : ¬ C 404 2 = 1) (hl : lc ≤ s) (ho : no < 400) (t v o w : Int32) :
    ∃ C1 O1 C2 O2 s1, f_X6_emit 407 t v C = some (nI lc, C1) ∧ f_X8_next C1 = some C2 ∧ f_X12_emits o w O = some O1 ∧ f_X12_next O1 = some O2 ∧ s < s1 ∧ PZ L b Lw s1 d nf nw (lc + 1) (no + 1) C2 O2 ∧ KPR nf nw lc no C O C2 O2 ∧ C2 408 lc = v * 256 + t ∧ O2.1 468 no = o ∧ O2.1 469 no = w := by
  obtain ⟨ts, f1, f2, g1, g2, hL, lw, kw, op, fn, wn, ln, on⟩ := h
  have hlt := ts.lt hn
  have e1 := emit_v (t := t) (v := v) ln (by omega)
  have e2 := emits_v (o := o) (v := w) on ho
  have ts1 : TS L b s (up2 (up2 C 408 lc (v * 256 + t)) 407 5 (nI (lc + 1))) (oup (oup (oup O 468 no o) 469 no w) 446 37 (nI (no + 1))) := by
    refine ts.congr ?_ ?_ (fun k a1 a2 => ?_) ?_
    · rw [up2_ne (by decide), up2_ne (by decide)]
    · rw [up2_ne (by decide), up2_ne (by decide)]
    · rw [o2n (by omega), oup_ne (by decide), oup_ne (by decide)]
    · rw [oup_ne (by decide), oup_ne (by decide), oup_ne (by decide)]
  obtain ⟨C2, O2, s1, r1, r2, r3, r4, r5, r6⟩ := ts1.next (by rw [up2_ne (by decide), up2_ne (by decide)]; exact hn)
  have c6 : ∀ c, c ≠ 404 → c ≠ 407 → c ≠ 408 → C2 c = C c := fun c a1 a2 a3 => by rw [r5.1 c a1, up2_ne a2, up2_ne a3]
  have o6 : ∀ k, (k < 15 ∨ 18 < k) → k ≠ 37 → O2.1 446 k = O.1 446 k := fun k a1 a2 => by rw [r6.2.1 k a1, o2n a2, oup_ne (by decide), oup_ne (by decide)]
  refine ⟨_, _, C2, O2, s1, e1, r1, e2, r2, r4, ⟨r3, ?_, ?_, ?_, ?_, hL, ?_, ?_, ?_, ?_, ?_, ?_, ?_⟩, ?_, ?_, ?_, ?_⟩
  · rw [c6 406 (by decide) (by decide) (by decide)]; exact f1
  · rw [c6 406 (by decide) (by decide) (by decide)]; exact f2
  · rw [o6 19 (by decide) (by decide)]; exact g1
  · rw [o6 20 (by decide) (by decide)]; exact g2
  · rw [c6 406 (by decide) (by decide) (by decide)]; exact lw
  · rw [o6 31 (by decide) (by decide)]; exact kw
  · rw [o6 21 (by decide) (by decide)]; exact op
  · rw [o6 22 (by decide) (by decide)]; exact fn
  · rw [o6 25 (by decide) (by decide)]; exact wn
  · rw [r5.1 407 (by decide), u2s]
  · rw [r6.2.1 37 (by decide), o2s]
  · exact (((KPR.c (O := O) (Nat.le_refl lc)).trans ((KPR.o (c := 468) (k := no) (by omega)).trans ((KPR.o (c := 469) (k := no) (by omega)).trans (KPR.o (c := 446) (k := 37) (by omega)) (Nat.le_refl _) (Nat.le_refl _) (Nat.le_refl _) (Nat.le_refl _)) (Nat.le_refl _) (Nat.le_refl _) (Nat.le_refl _) (Nat.le_refl _)) (Nat.le_refl _) (Nat.le_refl _) (Nat.le_refl _) (Nat.le_refl _)).trans (KPR.n r5 r6) (Nat.le_refl _) (Nat.le_refl _) (Nat.le_refl _) (Nat.le_refl _))
  · rw [r5.1 408 (by decide), up2_ne (by decide), u2s]
  · rw [r6.1 468 (by decide), oup_ne (by decide), oup_ne (by decide), o2s]
  · rw [r6.1 469 (by decide), oup_ne (by decide), o2s]
