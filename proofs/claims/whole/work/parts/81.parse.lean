/-! The reader: tokens held, faults, frames -/
def TS (L : Nat) (b : Nat → Nat) (s : Nat) (C : CM) (O : OM) : Prop :=
  CB L b C ∧ OB L b O ∧ ∃ e, s ≤ e ∧ e ≤ L ∧ C 404 4 = nI s ∧ O.1 446 16 = nI s ∧ C 404 5 = nI e ∧ O.1 446 15 = nI e ∧ TK (C 404 2) (C 404 3) (O.1 446 17) (O.1 446 18) ∧ ((C 404 2 = 1 ∧ s = L) ∨ (¬ C 404 2 = 1 ∧ s < e))
theorem TS.congr {L s : Nat} {b : Nat → Nat} {C C1 : CM} {O O1 : OM} (h : TS L b s C O) (h1 : C1 404 = C 404) (h2 : C1 405 = C 405) (h3 : ∀ k, 14 ≤ k → k ≤ 18 → O1.1 446 k = O.1 446 k) (h4 : O1.1 449 = O.1 449) : TS L b s C1 O1 := by
  obtain ⟨⟨a1, a2, a3⟩, ⟨b1, b2, b3⟩, e, c1, c2, c3, c4, c5, c6, c7, c8⟩ := h
  refine ⟨⟨a1, by rw [h1]; exact a2, fun k hk => by rw [h2]; exact a3 k hk⟩, ⟨b1, by rw [h3 14 (by decide) (by decide)]; exact b2, fun k hk => by rw [h4]; exact b3 k hk⟩, e, c1, c2, ?_⟩
  rw [h1, h3 16 (by decide) (by decide), h3 15 (by decide) (by decide), h3 17 (by decide) (by decide), h3 18 (by decide) (by decide)]
  exact ⟨c3, c4, c5, c6, c7, c8⟩
theorem TS.next {L s : Nat} {b : Nat → Nat} {C : CM} {O : OM} (h : TS L b s C O) (hn : ¬ C 404 2 = 1) :
    ∃ C1 O1 s1, f_X8_next C = some C1 ∧ f_X12_next O = some O1 ∧ TS L b s1 C1 O1 ∧ s < s1 ∧ FC4 C C1 ∧ FO6 O O1 := by
  obtain ⟨hC, hO, e, c1, c2, c3, c4, c5, c6, c7, c8⟩ := h
  obtain ⟨C1, O1, s1, e1, r1, r2, r3, r4, r5, r6, r7, r8, r9, r10, r11, r12, r13⟩ := next_both hC hO c5 c6 c2
  have hse : s < e := by
    rcases c8 with ⟨g, _⟩ | ⟨_, g⟩
    · exact absurd g hn
    · exact g
  refine ⟨C1, O1, s1, r1, r2, ⟨⟨hC.1, by rw [r3.2]; exact hC.2.1, fun k hk => by rw [r3.1 405 (by decide)]; exact hC.2.2 k hk⟩, ⟨hO.1, by rw [r4.2.1 14 (by decide)]; exact hO.2.1, fun k hk => by rw [r4.1 449 (by decide)]; exact hO.2.2 k hk⟩, e1, r6, r7, r8, r9, r10, r11, r12, r13⟩, by omega, r3, r4⟩
theorem TS.lt {L s : Nat} {b : Nat → Nat} {C : CM} {O : OM} (h : TS L b s C O) (hn : ¬ C 404 2 = 1) : s < L ∧ L ≤ 300 := by
  obtain ⟨hC, hO, e, c1, c2, c3, c4, c5, c6, c7, c8⟩ := h
  refine ⟨?_, hC.1⟩
  rcases c8 with ⟨g, _⟩ | ⟨_, g⟩
  · exact absurd g hn
  · omega
theorem TS.le {L s : Nat} {b : Nat → Nat} {C : CM} {O : OM} (h : TS L b s C O) : s ≤ L ∧ L ≤ 300 := by
  obtain ⟨hC, hO, e, c1, c2, _⟩ := h
  exact ⟨by omega, hC.1⟩
/-- a class's frame while a law is read -/
def FrP (C C1 : CM) : Prop := (∀ c, c ≠ 404 → c ≠ 406 → c ≠ 407 → c ≠ 408 → C1 c = C c) ∧ C1 404 1 = C 404 1 ∧ (∀ k, k ≠ 5 → C1 407 k = C 407 k) ∧ ∀ k, k ≠ 1 → k ≠ 2 → C1 406 k = C 406 k
theorem FrP.refl {C : CM} : FrP C C := ⟨fun _ _ _ _ _ => rfl, rfl, fun _ _ => rfl, fun _ _ _ => rfl⟩
theorem FrP.trans {C C1 C2 : CM} (h : FrP C C1) (h2 : FrP C1 C2) : FrP C C2 := ⟨fun c a b d e => (h2.1 c a b d e).trans (h.1 c a b d e), h2.2.1.trans h.2.1, fun k a => (h2.2.2.1 k a).trans (h.2.2.1 k a), fun k a b => (h2.2.2.2 k a b).trans (h.2.2.2 k a b)⟩
theorem FrP.of4 {C C1 : CM} (h : FC4 C C1) : FrP C C1 := ⟨fun c a _ _ _ => h.1 c a, h.2, fun k _ => by rw [h.1 407 (by decide)], fun k _ _ => by rw [h.1 406 (by decide)]⟩
theorem FrP.fl {C : CM} {x y : Int32} : FrP C (up2 (up2 C 406 1 x) 406 2 y) := ⟨fun c _ a _ _ => by rw [up2_ne a, up2_ne a], by rw [up2_ne (by decide), up2_ne (by decide)], fun k _ => by rw [up2_ne (by decide), up2_ne (by decide)], fun k a b => by rw [u2n b, u2n a]⟩
theorem FrP.em {C : CM} {k : Nat} {x y : Int32} : FrP C (up2 (up2 C 408 k x) 407 5 y) := ⟨fun c _ _ a b => by rw [up2_ne a, up2_ne b], by rw [up2_ne (by decide), up2_ne (by decide)], fun k a => by rw [u2n a, up2_ne (by decide)], fun k _ _ => by rw [up2_ne (by decide), up2_ne (by decide)]⟩
theorem FrP.em1 {C : CM} {k : Nat} {x : Int32} : FrP C (up2 C 408 k x) := ⟨fun c _ _ _ b => by rw [up2_ne b], by rw [up2_ne (by decide)], fun k a => by rw [up2_ne (by decide)], fun k _ _ => by rw [up2_ne (by decide)]⟩
/-- the reference's -/
def FrQ (O O1 : OM) : Prop := (∀ c, c ≠ 446 → (c < 458 ∨ 462 < c) → c ≠ 468 → c ≠ 469 → O1.1 c = O.1 c) ∧ (∀ k, k < 15 ∨ 28 < k → k ≠ 37 → O1.1 446 k = O.1 446 k) ∧ O1.2 = O.2
theorem FrQ.refl {O : OM} : FrQ O O := ⟨fun _ _ _ _ _ => rfl, fun _ _ _ => rfl, rfl⟩
theorem FrQ.trans {O O1 O2 : OM} (h : FrQ O O1) (h2 : FrQ O1 O2) : FrQ O O2 := ⟨fun c a b d e => (h2.1 c a b d e).trans (h.1 c a b d e), fun k a b => (h2.2.1 k a b).trans (h.2.1 k a b), h2.2.2.trans h.2.2⟩
theorem FrQ.of6 {O O1 : OM} (h : FO6 O O1) : FrQ O O1 := ⟨fun c a _ _ _ => h.1 c a, fun k a _ => h.2.1 k (by omega), h.2.2⟩
theorem FrQ.s {O : OM} {k : Nat} {x : Int32} (h : (15 ≤ k ∧ k ≤ 28) ∨ k = 37) : FrQ O (oup O 446 k x) := ⟨fun c a _ _ _ => oup_ne a, fun j a b => o2n (by omega), rfl⟩
theorem FrQ.r {O : OM} {c k : Nat} {x : Int32} (h : (458 ≤ c ∧ c ≤ 462) ∨ c = 468 ∨ c = 469) : FrQ O (oup O c k x) := ⟨fun c' a b d e => oup_ne (by omega), fun j a b => by rw [oup_ne (by omega)], rfl⟩
/-- in a fault the class's reader does nothing more -/
theorem is_f {C : CM} (hf : ¬ C 406 1 = 0) {t : Int32} : f_X4_is t C = 0 := by unfold f_X4_is; rw [if_neg hf]
theorem fail_f {C : CM} (hf : ¬ C 406 1 = 0) {v : Int32} : f_X4_fail v C = some C := by unfold f_X4_fail; rw [if_neg hf]
theorem exp_f {C : CM} (hf : ¬ C 406 1 = 0) {t : Int32} : f_X4_expect t C = some C := by
  unfold f_X4_expect
  rw [is_f hf, if_pos (by rfl), fail_f hf, bnd_s]
theorem part_f {C : CM} (hf : ¬ C 406 1 = 0) {n : Nat} {d : Int32} : RDf (n + 1) 2 d C = some C := by
  show f_X4_readPart (RDf n) d C = some C
  unfold f_X4_readPart
  rw [is_f hf, if_pos (by rfl), is_f hf, if_pos (by rfl), is_f hf, if_pos (by rfl), is_f hf, if_pos (by rfl), is_f hf, if_pos (by rfl), fail_f hf, fail_f hf, if_neg hf]
  by_cases c : f_X11_within (C 404 2) 139 148 = 0
  · rw [if_pos c]; rfl
  · rw [if_neg c]
    by_cases c2 : f_X4_isOfLaw (C 404 2) C = 0
    · rw [if_pos c2]; rfl
    · rw [if_neg c2]
theorem prod_f {C : CM} (hf : ¬ C 406 1 = 0) {n : Nat} {d : Int32} : RDf (n + 2) 1 d C = some C := by
  show f_X4_readProduct (RDf (n + 1)) d C = some C
  unfold f_X4_readProduct
  rw [part_f hf, bnd_s, show FU = 9999 + 1 from rfl, X4_readProduct_l7, if_neg (show ¬ (300 : Int32) ≤ 0 by decide), is_f hf, if_pos (by rfl), is_f hf, if_pos (by rfl)]
theorem sum_f {C : CM} (hf : ¬ C 406 1 = 0) {n : Nat} {d : Int32} : RDf (n + 3) 0 d C = some C := by
  show f_X4_readSum (RDf (n + 2)) d C = some C
  unfold f_X4_readSum
  rw [prod_f hf, bnd_s, show FU = 9999 + 1 from rfl, X4_readSum_l7, if_neg (show ¬ (300 : Int32) ≤ 0 by decide), is_f hf, if_pos (by rfl), is_f hf, if_pos (by rfl)]
theorem ask_f {C : CM} (hf : ¬ C 406 1 = 0) {n : Nat} {d : Int32} : RDf (n + 4) 7 d C = some C := by
  show f_X4_readAsk (RDf (n + 3)) d C = some C
  unfold f_X4_readAsk X4_readAsk_j24
  rw [is_f hf, if_pos (by rfl), if_pos (by rfl), sum_f hf, bnd_s, fail_f hf, if_neg hf]
  by_cases c : f_X4_isComparison (C 404 2) = 0
  · rw [if_pos c]; rfl
  · rw [if_neg c]
theorem both_f {C : CM} (hf : ¬ C 406 1 = 0) {n : Nat} {d : Int32} : RDf (n + 5) 6 d C = some C := by
  show f_X4_readBoth (RDf (n + 4)) d C = some C
  unfold f_X4_readBoth
  rw [ask_f hf, bnd_s, show FU = 9999 + 1 from rfl, X4_readBoth_l7, if_neg (show ¬ (300 : Int32) ≤ 0 by decide), is_f hf, if_pos (by rfl)]
theorem either_f {C : CM} (hf : ¬ C 406 1 = 0) {n : Nat} {d : Int32} : RDf (n + 6) 5 d C = some C := by
  show f_X4_readEither (RDf (n + 5)) d C = some C
  unfold f_X4_readEither
  rw [both_f hf, bnd_s, show FU = 9999 + 1 from rfl, X4_readEither_l7, if_neg (show ¬ (300 : Int32) ≤ 0 by decide), is_f hf, if_pos (by rfl)]
def LN (C : CM) : Prop := ∃ l, l ≤ 300 ∧ C 407 5 = nI l
theorem emit_t (t v : Int32) {C : CM} (h : LN C) : ∃ r C1, f_X6_emit 407 t v C = some (r, C1) ∧ FrP C C1 ∧ C1 406 = C 406 ∧ C1 404 = C 404 ∧ LN C1 := by
  obtain ⟨l, h1, h2⟩ := h
  unfold f_X6_emit f_X11_within
  rw [h2, if_neg (nI_pos (by omega)), show (299 : Int32) = nI 299 from rfl]
  by_cases c : l ≤ 299
  · rw [if_neg (nI_nlt c (by decide)), if_neg (by decide), gd_p (inbN (by omega) (by decide)), nI_clamp (by omega)]
    refine ⟨_, _, rfl, FrP.em, by rw [up2_ne (by decide), up2_ne (by decide)], by rw [up2_ne (by decide), up2_ne (by decide)], l + 1, by omega, ?_⟩
    rw [u2s, up2_ne (by decide), h2, nI_1]
  · rw [if_pos (nI_lt (by omega) (by omega)), if_pos rfl]
    exact ⟨_, C, rfl, FrP.refl, rfl, rfl, l, h1, h2⟩
theorem lead_t (v : Int32) {C : CM} (h : LN C) : ∃ C1, f_X6_leadHere 407 v C = some C1 ∧ FrP C C1 ∧ C1 406 = C 406 ∧ C1 404 = C 404 ∧ LN C1 := by
  obtain ⟨l, h1, h2⟩ := h
  unfold f_X6_leadHere
  by_cases c : f_X11_within v 0 (C 407 5 - 1) = 0
  · rw [if_pos c]
    exact ⟨C, rfl, FrP.refl, rfl, rfl, l, h1, h2⟩
  · rw [if_neg c]
    have hin : inb v 300 := by
      unfold f_X11_within at c
      rw [h2] at c
      by_cases g0 : v < 0
      · rw [if_pos g0] at c; exact absurd rfl c
      · rw [if_neg g0] at c
        cases l with
        | zero =>
          rw [if_pos (Int32.lt_of_lt_of_le (show nI 0 - 1 < 0 by decide) (Int32.not_lt.mp g0))] at c
          exact absurd rfl c
        | succ l =>
          rw [nI_pred] at c
          rcases pk_ix v (n := 300) (by decide) with g | g | ⟨j, g2, g3⟩
          · exact absurd g g0
          · rw [if_pos (Int32.lt_of_lt_of_le (nI_lt (show l < 300 by omega) (by decide)) g)] at c
            exact absurd rfl c
          · rw [g3]; exact inbN g2 (by decide)
    rw [gd_p hin, gd_p hin]
    exact ⟨_, rfl, FrP.em1, by rw [up2_ne (by decide)], by rw [up2_ne (by decide)], l, h1, by rw [up2_ne (by decide)]; exact h2⟩
/-- a choice that is in a fault -/
theorem choice_f {C : CM} (hf : ¬ C 406 1 = 0) (h : LN C) {n : Nat} {d : Int32} : ∃ C1, RDf (n + 7) 4 d C = some C1 ∧ FrP C C1 ∧ C1 406 = C 406 ∧ C1 404 = C 404 ∧ LN C1 := by
  show ∃ C1, f_X4_readChoice (RDf (n + 6)) d C = some C1 ∧ _
  unfold f_X4_readChoice
  obtain ⟨r1, C1, a1, a2, a3, a4, a5⟩ := emit_t 157 0 h
  obtain ⟨r2, C2, b1, b2, b3, b4, b5⟩ := emit_t 158 0 a5
  obtain ⟨C3, c1, c2, c3, c4, c5⟩ := lead_t r1 b5
  obtain ⟨C4, d1, d2, d3, d4, d5⟩ := lead_t r2 c5
  have f1 : ¬ C1 406 1 = 0 := by rw [a3]; exact hf
  have f2 : ¬ C2 406 1 = 0 := by rw [b3]; exact f1
  have f3 : ¬ C3 406 1 = 0 := by rw [c3]; exact f2
  rw [either_f hf, bnd_s, exp_f hf, bnd_s, a1, bnd2_s, sum_f f1, bnd_s, exp_f f1, bnd_s, b1, bnd2_s, c1, bnd_s, sum_f f3, bnd_s, exp_f f3, bnd_s, d1, bnd_s]
  exact ⟨C4, rfl, ((a2.trans b2).trans c2).trans d2, by rw [d3, c3, b3, a3], by rw [d4, c4, b4, a4], d5⟩
