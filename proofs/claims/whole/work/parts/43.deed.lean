theorem hoursTC {s a b : Nat} {C : CM} (ea : C s 1 = nI a) (eb : C s 2 = nI b) (ha : a ≤ 9999) (hb : b < 10) : f_X7_hoursToCome s C = nI (99999 - (10 * a + b)) := by
  unfold f_X7_hoursToCome
  rw [ea, eb, show (9999 : Int32) = nI 9999 from rfl, show (10 : Int32) = nI 10 from rfl, show (1 : Int32) = nI 1 from rfl, pk_sub (by omega), pk_mul, nI_add, pk_sub (by omega), pk_sub (by omega)]
  congr 1
  omega
theorem canP {a b : Nat} {O : OM} (ea : O.1 470 70 = nI a) (eb : O.1 470 71 = nI b) (ha : a ≤ 9999) (hb : b < 10) : f_X12_canPass O = some (if a < 9999 ∨ b < 9 then 1 else 0) := by
  unfold f_X12_canPass X12_canPass_j25
  rw [ea, eb, show (9999 : Int32) = nI 9999 from rfl, show (9 : Int32) = nI 9 from rfl]
  by_cases c : a < 9999
  · rw [if_pos (nI_lt c (by decide)), if_pos (Or.inl c)]
  · rw [if_neg (nI_nlt (by omega) (by omega))]
    by_cases c2 : b < 9
    · rw [if_neg (nI_ge c2 (by decide)), if_pos (Or.inr c2)]
    · rw [if_pos (nI_le (by omega) (by omega)), if_neg (by omega)]
theorem BR.bk0 {n m m' : Nat} {C C1 : CM} {O O1 : OM} (hb : BK 0 C C1 O O1) (h : BR 0 n m C O) : BR 0 n m' C1 O1 := by
  rcases h with ⟨h0, h1, h2⟩ | ⟨h0, -⟩
  · have b1 : C1 6 4 = C 6 4 := hb.1
    have b2 : C1 11 = C 11 := hb.2.1
    exact Or.inl ⟨rfl, by rw [b1, hb.2.2.1 73 (by omega)]; exact h1, fun j hj => by rw [b2, hb.2.2.1 _ (by omega)]; exact h2 j hj⟩
  · exact absurd rfl h0
/-- what any deed in the town keeps, the book with it -/
def KB (n : Nat) (C C1 : CM) (O O1 : OM) : Prop := TW 0 n C1 O1 ∧ FrT 0 C C1 ∧ FrTO O O1 ∧ BR 0 n 0 C1 O1
theorem KP.kb {n m : Nat} {C C1 : CM} {O O1 : OM} (h : KP 0 n C C1 O O1) (hb : BR 0 n m C O) : KB n C C1 O O1 := ⟨h.1, h.2.1, h.2.2.1, hb.bk0 h.2.2.2⟩
theorem KB.trans {n : Nat} {C C1 C2 : CM} {O O1 O2 : OM} (h : KB n C C1 O O1) (h2 : KB n C1 C2 O1 O2) : KB n C C2 O O2 := ⟨h2.1, h.2.1.trans h2.2.1, h.2.2.1.trans h2.2.2.1, h2.2.2.2⟩
theorem TW.frL {q n : Nat} {C C1 : CM} {O O1 : OM} (h : TW q n C O) (hC : FrL q C C1) (hO : FrO1 471 O O1) : TW q n C1 O1 := (KP.ofL h hC hO).1
theorem bows_after {q n p r k : Nat} {C C1 C2 : CM} {O O1 : OM} (h : TW q n C O) (h1 : p < n) (h2 : r < n) (hne : p ≠ r) (hk1 : 1 ≤ k) (hk : k ≤ 99) (hs : f_X1_sizeOf q (nI p) (nI r) C = some (nI k, C2)) (ht : TW q n C1 O1) (hm : TW q n C O1) (hl : nI k ≤ O1.1 470 p) :
    ∃ C3 O3, f_X9_bows q (nI p) (nI r) C1 = some C3 ∧ f_X12_bows (nI p) (nI r) O1 = some O3 ∧ KP q n C1 C3 O1 O3 := by
  obtain ⟨C4, O4, s1, -⟩ := size_det h.1 h.2.1 h.2.2 h1 h2 (by omega) hs ht.1 hm.1 ht.2.1 hm.2.1 ht.2.2
  exact bows_both ht h1 h2 hne hk1 hk s1 hl
theorem deed_both {n : Nat} {C : CM} {O : OM} (h : TW 0 n C O) (hb : BR 0 n 0 C O) (h0 : 0 < n) : ∃ C1 O1, f_X9_drawDeed 0 C = some C1 ∧ f_X12_happens O = some O1 ∧ KB n C C1 O O1 := by
  have h7 := h.1.2.1.1
  obtain ⟨a, Ca, Oa, ha, a1, a2, a3⟩ := draw_both (m := 7) h (by decide) (by decide)
  have kba := a3.kb hb
  obtain ⟨p, Cb, Ob, hp, b1, b2, b3⟩ := draw_both (m := n) a3.1 h0 (by omega)
  have kbb := kba.trans (b3.kb kba.2.2.2)
  have tb := kbb.1
  unfold f_X9_drawDeed f_X12_happens
  rw [show (7 : Int32) = nI 7 from rfl, a1, a2, bnd2_s, bnd2_s, a3.1.1.1, b1, a3.1.1.2.1.2.1, b2, bnd2_s, bnd2_s, show (2 : Int32) = nI 2 from rfl, show (3 : Int32) = nI 3 from rfl]
  by_cases c : a ≤ 2
  · rw [if_neg (nI_nlt c (by omega)), if_neg (nI_ge (by omega) (by omega)), tb.1.1, tb.1.2.1.2.1]
    obtain ⟨r, Cc, Oc, hr, c1, c2, c3⟩ := draw_both (m := n) tb h0 (by omega)
    have kbc := kbb.trans (c3.kb kbb.2.2.2)
    obtain ⟨b, Cd, Od, d1, d2, d3, d4, d5⟩ := canBow_both kbc.1 hp hr
    have kd := KP.ofL kbc.1 d3 d4
    have kbd := kbc.trans (kd.kb kbc.2.2.2)
    rw [c1, c2, bnd2_s, bnd2_s, d1, d2, bnd2_s, bnd2_s]
    rcases d5 with d5 | ⟨d5, dne, k, Ck, k1, k2, k3, k4⟩
    · subst d5
      rw [if_pos rfl, if_pos rfl]
      exact ⟨Cd, Od, rfl, rfl, kbd⟩
    · subst d5
      rw [if_neg (by decide), if_neg (by decide)]
      have hm : TW 0 n Cc Od := kbc.1.frL FrL.refl d4
      obtain ⟨Ce, Oe, e1, e2, e3⟩ := bows_after kbc.1 hp hr dne k1 k2 k3 kbd.1 hm (by rw [d4 470 (by decide)]; exact k4)
      rw [e1, e2, bnd_s, bnd_s]
      exact ⟨Ce, Oe, rfl, rfl, kbd.trans (e3.kb kbd.2.2.2)⟩
  · rw [if_pos (nI_lt (by omega) (by omega)), if_pos (nI_le (by omega) (by omega))]
    by_cases c3 : a = 3
    · subst c3
      rw [if_pos rfl, if_pos rfl]
      obtain ⟨v, Cc, Oc, hv, c1, c2, c3⟩ := draw_both (m := 2) tb (by decide) (by decide)
      have kbc := kbb.trans (c3.kb kbb.2.2.2)
      rw [c1, c2, bnd2_s, bnd2_s]
      have key : ∀ x : Int32, (x = 1 ∨ x = -1) → ∃ C1 O1, X9_drawDeed_j85 0 (nI p) x Cc = some C1 ∧ X12_happens_j71 (nI p) x Oc = some O1 ∧ KB n C C1 O O1 := by
        intro x hx
        unfold X9_drawDeed_j85 X12_happens_j71 X9_drawDeed_j106 X12_happens_j86
        rw [outY kbc.1.1.1 h7 hp, bnd_s, isOutR (by omega), bnd_s, kbc.1.2.1.2.2.2.2.2.1 p (by omega)]
        by_cases d : Oc.1 470 (14 + p) = 0
        · obtain ⟨k, Cd, Od, -, d1, d2, d3, -⟩ := walks_both kbc.1 hp hx
          rw [if_pos d, if_neg (by decide), if_neg (by decide), d1, d2, bnd_s, bnd_s]
          exact ⟨Cd, Od, rfl, rfl, kbc.trans (d3.kb kbc.2.2.2)⟩
        · rw [if_neg d, if_pos rfl, if_pos rfl]
          exact ⟨Cc, Oc, rfl, rfl, kbc⟩
      by_cases e : nI v = (1 : Int32)
      · rw [if_pos e, if_pos e]; exact key 1 (Or.inl rfl)
      · rw [if_neg e, if_neg e]; exact key (-1) (Or.inr rfl)
    · have n3 : ¬ nI a = nI 3 := fun e => c3 ((nI_eq (by omega) (by decide)).mp e)
      rw [if_neg n3, if_neg n3, show (4 : Int32) = nI 4 from rfl]
      by_cases c4 : nI a = nI 4
      · rw [if_pos c4, if_pos c4]
        obtain ⟨v, Cc, Oc, hv, c1, c2, c3⟩ := draw_both (m := 9) tb (by decide) (by decide)
        have kbc := kbb.trans (c3.kb kbb.2.2.2)
        rw [show (9 : Int32) = nI 9 from rfl, c1, c2, bnd2_s, bnd2_s]
        by_cases e : nI v = 0
        · rw [if_pos e, if_pos e]
          obtain ⟨S, Cd, Od, d1, d2, d3⟩ := feasts_both kbc.1
          rw [d1, d2, bnd2_s, bnd2_s]
          exact ⟨Cd, Od, rfl, rfl, kbc.trans (d3.kb kbc.2.2.2)⟩
        · rw [if_neg e, if_neg e]
          exact ⟨Cc, Oc, rfl, rfl, kbc⟩
      · rw [if_neg c4, if_neg c4]
        obtain ⟨dy, hdy, edy⟩ := tb.2.2.2.2.2.2.2.1
        obtain ⟨hr, hhr, ehr⟩ := tb.2.2.2.2.2.2.2.2.1
        rw [hoursTC (s := stI 0) (tb.2.1.1.trans edy) (tb.2.1.2.1.trans ehr) hdy hhr, canP edy ehr hdy hhr, bnd_s]
        by_cases e : dy < 9999 ∨ hr < 9
        · obtain ⟨j, Cc, Oc, c1, c2, -, c3, c5, c6, c7, -⟩ := hour_both tb kbb.2.2.2 edy ehr hdy hhr e
          rw [if_pos e, if_neg (nI_nle (by omega) (by omega)), if_neg (show ¬ (1 : Int32) = 0 by decide), c1, c2, bnd2_s, bnd2_s]
          exact ⟨Cc, Oc, rfl, rfl, c3, kbb.2.1.trans c5, kbb.2.2.1.trans c6, c7.bk0 BK.refl⟩
        · rw [if_neg e, if_pos rfl, show 99999 - (10 * dy + hr) = 0 by omega, if_pos (show nI 0 ≤ 0 from Int32.le_refl _)]
          exact ⟨Cb, Ob, rfl, rfl, kbb⟩
