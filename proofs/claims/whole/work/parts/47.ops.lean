/-! Calls: who is meant; the plain ones -/
theorem in_eq : f_X12_in = f_X11_within := rfl
theorem wi_n {n : Nat} (hn : n < 2 ^ 30) (x : Int32) : (f_X11_within x 0 (nI n - 1) = 0 ∧ (x < 0 ∨ nI n ≤ x)) ∨ ∃ p, p < n ∧ x = nI p ∧ f_X11_within x 0 (nI n - 1) = 1 := by
  have es : (nI n - 1).toInt = (n : Int) - 1 := pk_sub_toInt (a := n) (b := 1) hn (by decide)
  rcases pk_ix x (n := n) (by omega) with c | c | ⟨j, hj, c⟩
  · exact Or.inl ⟨by unfold f_X11_within; rw [if_pos c], Or.inl c⟩
  · refine Or.inl ⟨?_, Or.inr c⟩
    unfold f_X11_within
    by_cases c0 : x < 0
    · rw [if_pos c0]
    · rw [if_neg c0, if_pos]
      rw [Int32.lt_iff_toInt_lt, es]
      rw [Int32.le_iff_toInt_le, nI_toInt (by omega)] at c
      omega
  · refine Or.inr ⟨j, hj, c, ?_⟩
    subst c
    unfold f_X11_within
    rw [if_neg (nI_pos (by omega)), if_neg]
    rw [Int32.lt_iff_toInt_lt, es, nI_toInt (by omega)]
    omega
theorem wi_b {b : Nat} (hb : b < 2 ^ 29) (x : Int32) : (f_X11_within x 0 (nI b) = 0 ∧ (x < 0 ∨ nI (b + 1) ≤ x)) ∨ ∃ p, p ≤ b ∧ x = nI p ∧ f_X11_within x 0 (nI b) = 1 := by
  have := wi_n (n := b + 1) (by omega) x
  rw [nI_pred] at this
  rcases this with h | ⟨p, h1, h2⟩
  · exact Or.inl h
  · exact Or.inr ⟨p, by omega, h2⟩
theorem wi_1 {b : Nat} (hb : b < 2 ^ 29) (x : Int32) : (f_X11_within x 1 (nI b) = 0 ∧ ∀ p, 1 ≤ p → p ≤ b → x ≠ nI p) ∨ ∃ p, 1 ≤ p ∧ p ≤ b ∧ x = nI p ∧ f_X11_within x 1 (nI b) = 1 := by
  have key : ∀ p, 1 ≤ p → p ≤ b → f_X11_within (nI p) 1 (nI b) = 1 := by
    intro p h1 h2
    unfold f_X11_within
    rw [show (1 : Int32) = nI 1 from rfl, if_neg (nI_nlt h1 (by omega)), if_neg (nI_nlt h2 (by omega))]
  by_cases c : ∃ p, 1 ≤ p ∧ p ≤ b ∧ x = nI p
  · obtain ⟨p, h1, h2, h3⟩ := c
    exact Or.inr ⟨p, h1, h2, h3, by rw [h3]; exact key p h1 h2⟩
  · refine Or.inl ⟨?_, fun p h1 h2 h3 => c ⟨p, h1, h2, h3⟩⟩
    unfold f_X11_within
    by_cases c1 : x < 1
    · rw [if_pos c1]
    · rw [if_neg c1]
      by_cases c2 : nI b < x
      · rw [if_pos c2]
      · exfalso
        rw [Int32.lt_iff_toInt_lt, show (1 : Int32).toInt = 1 from rfl] at c1
        rw [Int32.lt_iff_toInt_lt, nI_toInt (by omega)] at c2
        obtain ⟨j, hj, e⟩ := nI_of (x := x) (by rw [Int32.lt_iff_toInt_lt, show (0 : Int32).toInt = 0 from rfl]; omega)
        rw [e, nI_toInt hj] at c1 c2
        exact c ⟨j, by omega, by omega, e⟩
theorem one_cases {s n : Nat} {C : CM} {O : OM} (hn : C s 0 = nI n) (h7 : n ≤ 7) (hA : O.1 447 0 = nI n) (x : Int32) : (f_X7_has s x C = 0 ∧ f_X12_isOne x O = some 0 ∧ (x < 0 ∨ nI n ≤ x)) ∨ ∃ p, p < n ∧ x = nI p ∧ f_X7_has s x C = 1 ∧ f_X12_isOne x O = some 1 := by
  unfold f_X12_isOne
  rw [hA, in_eq]
  rcases wi_n (n := n) (by omega) x with ⟨h1, h2⟩ | ⟨p, h1, h2, h3⟩
  · exact Or.inl ⟨hasN hn h2, by rw [h1, gd_p (Or.inl rfl)], h2⟩
  · exact Or.inr ⟨p, h1, h2, by rw [h2]; exact hasY hn h7 h1, by rw [h3, gd_p (Or.inr rfl)]⟩
theorem two_cases {s n : Nat} {C : CM} {O : OM} (hn : C s 0 = nI n) (h7 : n ≤ 7) (hA : O.1 447 0 = nI n) (x y : Int32) : (f_X7_areTwo s x y C = 0 ∧ f_X12_areTwo x y O = some 0 ∧ (x = y ∨ (x < 0 ∨ nI n ≤ x) ∨ (y < 0 ∨ nI n ≤ y))) ∨
    ∃ p r, p < n ∧ r < n ∧ p ≠ r ∧ x = nI p ∧ y = nI r ∧ f_X7_areTwo s x y C = 1 ∧ f_X12_areTwo x y O = some 1 := by
  unfold f_X12_areTwo
  rcases one_cases hn h7 hA x with ⟨a1, a2, a3⟩ | ⟨p, hp, a1, a2, a3⟩
  · exact Or.inl ⟨twoN1 hn a3, by rw [a2, bnd_s, if_pos rfl], Or.inr (Or.inl a3)⟩
  · rcases one_cases hn h7 hA y with ⟨b1, b2, b3⟩ | ⟨r, hr, b1, b2, b3⟩
    · exact Or.inl ⟨twoN2 hn b3, by rw [a3, b2, bnd_s, if_neg (by decide), bnd_s, if_pos rfl], Or.inr (Or.inr b3)⟩
    · by_cases e : p = r
      · have exy : x = y := by rw [a1, b1, e]
        exact Or.inl ⟨by rw [exy]; exact twoE, by rw [a3, b3, bnd_s, if_neg (by decide), bnd_s, if_neg (by decide), if_pos exy], Or.inl exy⟩
      · have exy : ¬ x = y := by rw [a1, b1]; exact fun h => e ((nI_eq (by omega) (by omega)).mp h)
        exact Or.inr ⟨p, r, hp, hr, e, a1, b1, by rw [a1, b1]; exact twoY hn h7 hp hr e, by rw [a3, b3, bnd_s, if_neg (by decide), bnd_s, if_neg (by decide), if_neg exy]⟩
theorem meetN {s n : Nat} {C : CM} (hn : C s 0 = nI n) (h7 : n ≤ 7) {x y : Int32} (h : x = y ∨ (x < 0 ∨ nI n ≤ x) ∨ (y < 0 ∨ nI n ≤ y)) : f_X7_meet s x y C = some 0 := by
  unfold f_X7_meet
  by_cases e : x = y
  · rw [if_pos e]
  · rw [if_neg e]
    have h' : (x < 0 ∨ nI n ≤ x) ∨ (y < 0 ∨ nI n ≤ y) := by
      rcases h with h | h
      · exact absurd h e
      · exact h
    rcases pk_ix x (n := n) (by omega) with c | c | ⟨p, hp, c⟩
    · rw [outN hn (Or.inl c), bnd_s, if_pos rfl]
    · rw [outN hn (Or.inr c), bnd_s, if_pos rfl]
    · rcases h' with h' | h'
      · rw [outN hn h', bnd_s, if_pos rfl]
      · rw [c, outY hn h7 hp, bnd_s]
        by_cases d : C (s + 3) p = 0
        · rw [if_pos d, if_neg (by decide), outN hn h', bnd_s, if_pos rfl]
        · rw [if_neg d, if_pos rfl]
theorem minN {a b : Nat} (ha : a < 2 ^ 31) (hb : b < 2 ^ 31) : f_J9_min_7cf53 (nI a) (nI b) = nI (min a b) := by
  unfold f_J9_min_7cf53
  by_cases c : b < a
  · rw [Nat.min_eq_right (by omega)]
    first
    | rw [if_pos (nI_lt c ha)]
    | (rw [if_neg (nI_ge c ha)])
  · rw [Nat.min_eq_left (by omega)]
    by_cases e : a = b
    · subst e; split <;> rfl
    · first
      | rw [if_neg (nI_nlt (by omega) hb)]
      | rw [if_pos (nI_le (by omega) hb)]
def RelT (t : Nat) (C : CM) (O : OM) : Prop := ∃ n m e n' t' m' e', RelX n t m e n' t' m' e' C O
theorem Rel.t {C : CM} {O : OM} (h : Rel C O) : ∃ t, RelT t C O := by
  obtain ⟨n, t, m, e, n', t', m', e', h'⟩ := h
  exact ⟨t, n, m, e, n', t', m', e', h'⟩
theorem RelT.rel {t : Nat} {C : CM} {O : OM} (h : RelT t C O) : Rel C O := by
  obtain ⟨n, m, e, n', t', m', e', h'⟩ := h
  exact ⟨n, t, m, e, n', t', m', e', h'⟩
section
variable {n t m e n' t' m' e' : Nat} {C : CM} {O : OM}
theorem RelX.rel (h : RelX n t m e n' t' m' e' C O) : Rel C O := ⟨_, _, _, _, _, _, _, _, h⟩
theorem RelX.relT (h : RelX n t m e n' t' m' e' C O) : RelT t C O := ⟨_, _, _, _, _, _, _, h⟩
theorem CoC.ofL {C1 : CM} (h : RelX n t m e n' t' m' e' C O) (hL : FrL 0 C C1) : CoC C C1 := by
  have ec : ∀ c, c ≠ 391 → c ≠ 392 → c ≠ 393 → C1 c = C c := fun c a b d => hL.1 c a b d
  obtain ⟨sc, s1, s2⟩ := h.2.2.2.2.2.2.2.2
  exact ⟨fun c _ _ => ec c (by omega) (by omega) (by omega), ec _ (by decide) (by decide) (by decide), fun c _ _ => ec c (by omega) (by omega) (by omega), hL.2 5 (by decide), ⟨sc, s1, by rw [ec _ (by decide) (by decide) (by decide)]; exact s2⟩, by rw [ec _ (by decide) (by decide) (by decide)], by rw [ec _ (by decide) (by decide) (by decide)], by rw [ec _ (by decide) (by decide) (by decide)]⟩
theorem RelX.frL {C1 : CM} {O1 : OM} (h : RelX n t m e n' t' m' e' C O) (hC : FrL 0 C C1) (hO : FrO1 471 O O1) : RelX n t m e n' t' m' e' C1 O1 := h.co (CoC.ofL h hC) (CoO.of (by decide) hO)
theorem ScR.mono2 {q : Nat} {C1 : CM} {O1 : OM} (h : ScR q C O) (h1 : C1 (laI q) 5 = C (laI q) 5) (h2 : ∀ c, (383 ≤ c ∧ c ≤ 388) ∨ (422 ≤ c ∧ c ≤ 445) → C1 c = C c) (h3 : O1.1 447 2 = O.1 447 2) (h4 : ∀ c, 450 ≤ c → c ≤ 457 → O1.1 c = O.1 c) : ScR q C1 O1 := by
  obtain ⟨sc, a1, a2, a3⟩ := h
  have hb : ∀ k, 1 ≤ k → k ≤ 3 → C1 (sc + k) = C (sc + k) := fun k k1 k2 => h2 _ (by rcases a2 with a2 | a2 <;> omega)
  refine ⟨sc, h1.trans a1, a2, fun L hL => ?_⟩
  have ho : f_X12_ordersOf (nI L) O1 = f_X12_ordersOf (nI L) O := orders_congr h3 (h4 450 (by decide) (by decide)) (h4 451 (by decide) (by decide)) (h4 452 (by decide) (by decide))
  rcases a3 L hL with ⟨e1, e2⟩ | ⟨a, len, fr, dp, e1, e2⟩
  · exact Or.inl ⟨by rw [hb 3 (by decide) (by decide), hb 2 (by decide) (by decide)]; exact e1, by rw [ho]; exact e2⟩
  · exact Or.inr ⟨a, len, fr, dp, by rw [ho]; exact e1, e2.mono (hb 1 (by decide) (by decide)) (hb 2 (by decide) (by decide)) (hb 3 (by decide) (by decide)) (h4 456 (by decide) (by decide)) (h4 457 (by decide) (by decide))⟩
theorem RelX.mix {C3 : CM} {O3 : OM} (h : RelX n t m e n' t' m' e' C3 O3) (hw : ∀ k, k < 164 → O3.1 470 k = O3.1 447 (40 + k)) (h1 : ∀ c, c ≠ 5 → (c < 14 ∨ 193 < c) → c ≠ 391 → c ≠ 392 → c ≠ 393 → C c = C3 c) (h2 : C 391 5 = C3 391 5) : TW 0 n C O3 := by
  obtain ⟨⟨⟨x1, x2, x3⟩, x4, x5⟩, -⟩ := h.tw hw
  refine ⟨⟨?_, ?_, ScR.mono2 x3 h2 (fun c hc => h1 c (by omega) (by omega) (by omega) (by omega) (by omega)) rfl (fun _ _ _ => rfl)⟩, x4.mono (fun k hk => ?_) rfl, x5⟩
  · show C 6 0 = nI n
    rw [h1 6 (by decide) (by decide) (by decide) (by decide) (by decide)]; exact x1
  · unfold PPL at x2 ⊢
    rw [h1 2 (by decide) (by decide) (by decide) (by decide) (by decide), h1 3 (by decide) (by decide) (by decide) (by decide) (by decide), h1 4 (by decide) (by decide) (by decide) (by decide) (by decide)]; exact x2
  · have : stI 0 = 6 := rfl
    exact h1 _ (by omega) (by omega) (by omega) (by omega) (by omega)
end
theorem opp_fault : op_fault Rel := by
  intro C O h v
  obtain ⟨n, t, m, e, n', t', m', e', h'⟩ := h
  obtain ⟨b1, b2⟩ := h'.2.2.2.2.2.1
  refine ⟨f_X11_fault v C, rfl, ?_, h'.rel⟩
  unfold f_X11_fault f_X12_fault
  rw [b1, b2]
theorem opp_about : op_about Rel := by
  intro C O h v
  obtain ⟨n, t, m, e, n', t', m', e', h'⟩ := h
  refine ⟨f_X11_about v C, rfl, ?_, h'.rel⟩
  obtain ⟨L, l1, l2, l3, -⟩ := h'.2.2.2.2.1
  obtain ⟨b1, b2, b3, b4, b5, b6, b7⟩ := h'.1.2.1
  obtain ⟨⟨v1, v2, v3, -⟩, -⟩ := h'.1.2.2.2.2.2.1
  have v1' : C 6 1 = O.1 447 110 := v1
  have v2' : C 6 2 = O.1 447 111 := v2
  have v3' : C 6 3 = O.1 447 112 := v3
  have c3' : C 5 3 = O.1 447 2 := h'.1.2.2.1.1
  have b1' : C 6 0 = nI n := b1
  unfold f_X11_about f_X12_about
  rw [b1', b2, v1', v2', v3', b3, b4, c3', b5, b6, l2, l3]
  simp only [← apply_ite some]
theorem opp_end : op_end Rel := by
  intro C O h v
  obtain ⟨n, t, m, e, n', t', m', e', h'⟩ := h
  obtain ⟨a, b, c, d, ⟨L, l1, l2, l3, l4⟩, f2, f3, f4, f5⟩ := h'
  unfold f_X11_end f_X12_end
  rw [in_eq, l2, l3]
  rcases wi_b (b := L) (by omega) v with ⟨w, -⟩ | ⟨p, hp, w1, w2⟩
  · rw [w, if_pos rfl, if_pos rfl]
    exact ⟨_, _, _, rfl, rfl, n, t, m, e, n', t', m', e', a, b, c, d, ⟨L, l1, l2, l3, l4⟩, f2, f3, f4, f5⟩
  · rw [w2, if_neg (by decide), if_neg (by decide)]
    have ec : ∀ c, c ≠ 404 → up2 C 404 1 v c = C c := fun c hc => up2_ne hc
    refine ⟨_, _, _, rfl, rfl, n, t, m, e, n', t', m', e', a.mono (fun p _ => ⟨by rw [ec 2 (by decide)], by rw [ec 3 (by decide)], by rw [ec 4 (by decide)]⟩) (fun c h1 h2 => ec c (by omega)) (fun k _ => by rw [oup_ne (by decide)]), b.mono (fun p _ => ⟨by rw [ec 2 (by decide)], by rw [ec 3 (by decide)], by rw [ec 4 (by decide)]⟩) (fun c h1 h2 => ec c (by omega)) (fun k _ => by rw [oup_ne (by decide)]), c, fun k hk => (d k hk).mono (fun j _ => ec _ (by omega)) (fun c h1 h2 => oup_ne (by omega)), ⟨p, by omega, by rw [up2_eq, pk_us, w1], by rw [oup_eq, pk_us, w1], fun k hk => ?_⟩, ?_, ?_, ?_, ?_⟩
    · rw [ec _ (by decide), oup_ne (by decide)]; exact l4 k (by omega)
    · rw [ec _ (by decide), oup_eq, pk_un (by decide), pk_un (by decide)]; exact f2
    · rw [ec _ (by decide), ec _ (by decide)]; exact f3
    · rw [ec _ (by decide), oup_ne (by decide)]; exact f4
    · rw [ec _ (by decide)]; exact f5
