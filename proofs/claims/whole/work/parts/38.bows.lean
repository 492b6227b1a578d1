/-! Bows, walks, draws, sums on both sides -/
theorem oup_same {O : OM} {i k : Nat} (v : Int32) (h : O.1 i k = v) : oup O i k v = O := by
  have : up2 O.1 i k v = O.1 := by
    funext a b
    by_cases ha : a = i
    · subst ha
      by_cases hb : b = k
      · subst hb; rw [up2_eq, pk_us, h]
      · rw [up2_eq, pk_un hb]
    · rw [up2_ne ha]
  unfold oup
  rw [this]
theorem zN (p : Nat) : (0 : Int32) + nI p = nI p := (nI_add 0 p).trans (by rw [Nat.zero_add])
theorem debtN' {p q : Nat} : f_X12_debtAt (nI p) (nI q) = nI (21 + (7 * p + q)) := by rw [debtN, Nat.add_assoc]
theorem bendsY {s n p : Nat} {C : CM} {x : Int32} (hn : C s 0 = nI n) (h7 : n ≤ 7) (h : p < n) : f_X7_bends s (nI p) x C = some (up2 C (s + 1) p (C (s + 1) p - x)) := by
  unfold f_X7_bends
  rw [hasY hn h7 h, if_neg (by decide), gd_p (inbN (by omega) (by decide)), gd_p (inbN (by omega) (by decide)), nI_clamp (by omega)]
theorem bowsR {p r k l d : Nat} {O Oa : OM} (hp : p < 7) (hr : r < 7) (hk1 : 1 ≤ k) (hk : k ≤ 99) (hd : d ≤ 9999) (s2 : f_X12_sizeOf (nI p) (nI r) O = some (nI k, Oa)) (el : Oa.1 470 p = nI l) (hkl : k ≤ l) (ed : Oa.1 470 (21 + (7 * p + r)) = nI d) :
    f_X12_bows (nI p) (nI r) O = (if k ≤ d then some (oup (oup Oa 470 p (nI (l - k))) 470 (21 + (7 * p + r)) (nI (d - k))) else
      bnd2 (f_X12_moreOf (nI r) (nI p) (nI (k - d)) (oup (oup Oa 470 p (nI (l - k))) 470 (21 + (7 * p + r)) (nI (d - k)))) (fun r9 O9 => some (oup O9 470 (21 + (7 * r + p)) (f_X12_held (((oup (oup Oa 470 p (nI (l - k))) 470 (21 + (7 * p + r)) (nI (d - k))).1 470 (21 + (7 * r + p)) + r9).toInt64) 0 9999)))) := by
  have i1 : 21 + (7 * p + r) < 164 := by omega
  have i2 : 21 + (7 * r + p) < 164 := by omega
  unfold f_X12_bows
  rw [s2, bnd2_s, debtN', zN, gd_p (inbN i1 (by decide)), gd_p (inbN (by omega) (by decide)), gd_p (inbN (by omega) (by decide)), nI_clamp (by omega), nI_clamp (by omega), el, ed, pk_sub hkl]
  unfold X12_bows_j54
  simp only [gd_p (inbN i1 (by decide)), debtN', gd_p (inbN i2 (by decide)), nI_clamp (show 21 + (7 * p + r) < 2 ^ 31 by omega), nI_clamp (show 21 + (7 * r + p) < 2 ^ 31 by omega)]
  have e1 : -(nI k - nI d) = nI d - nI k := Int32.neg_sub
  have ei := pk_sub_toInt (a := k) (b := d) (by omega) (by omega)
  by_cases c : k ≤ d
  · rw [if_pos c, e1, pk_sub c]
    have c3 : nI k - nI d ≤ 0 := by
      rw [Int32.le_iff_toInt_le, ei, show (0 : Int32).toInt = 0 from rfl]; omega
    rw [if_pos c3, if_pos c3]
    by_cases c2 : k = d
    · subst c2
      rw [if_pos (by rw [Int32.le_iff_toInt_le, ei, show (0 : Int32).toInt = 0 from rfl]; omega), Nat.sub_self]; rfl
    · rw [if_neg (by rw [Int32.le_iff_toInt_le, ei, show (0 : Int32).toInt = 0 from rfl]; omega)]
  · have c3 : ¬ nI k - nI d ≤ 0 := by
      rw [Int32.le_iff_toInt_le, ei, show (0 : Int32).toInt = 0 from rfl]; omega
    rw [if_neg c, if_pos (by rw [Int32.le_iff_toInt_le, ei, show (0 : Int32).toInt = 0 from rfl]; omega), if_neg c3, pk_sub (by omega), show d - k = 0 by omega]
    rfl
theorem bows_both {q n p r k : Nat} {C C2 : CM} {O : OM} (h : TW q n C O) (h1 : p < n) (h2 : r < n) (hne : p ≠ r) (hk1 : 1 ≤ k) (hk : k ≤ 99) (hs : f_X1_sizeOf q (nI p) (nI r) C = some (nI k, C2)) (hl : nI k ≤ O.1 470 p) :
    ∃ C1 O1, f_X9_bows q (nI p) (nI r) C = some C1 ∧ f_X12_bows (nI p) (nI r) O = some O1 ∧ KP q n C C1 O O1 := by
  have h7 := h.1.2.1.1
  obtain ⟨k', Ca, Oa, k1, k2, s1, s2, s3, s4⟩ := size_both h.1 h.2.1 h.2.2 h1 h2
  have ek : k' = k := (nI_eq (by omega) (by omega)).mp (Prod.mk.inj (Option.some.inj (s1.symm.trans hs))).1
  subst ek
  have ka := KP.ofL h s3 s4
  have ta := ka.1
  obtain ⟨l, hl100, el⟩ := ta.2.2.1 p (by omega)
  obtain ⟨d, hd, ed⟩ := ta.2.2.2.2.2.1 (7 * p + r) (by omega)
  have eC : Ca (stI q + 1) p = nI l := (ta.2.1.2.2.2.1 p (by omega)).trans el
  have eD : Ca (stI q + 4) (7 * p + r) = nI d := (ta.2.1.2.2.2.2.2.2 _ (by omega)).trans ed
  have hkl : k' ≤ l := by
    rw [← s4 470 (by decide), el] at hl
    exact (nI_leI (by omega) (by omega)).mp hl
  have kb := KP.left (p := p) (k := l - k') ta (by omega) (by omega)
  have tb := kb.1
  have kc := KP.owe (p := p) (r := r) (k := d - k') tb (by omega) (by omega) hne (by omega)
  have tc := kc.1
  have b2 := setY (x := nI d - nI k') tb.1.1 h7 h1 h2 hne
  rw [clampS hd (by omega)] at b2
  unfold f_X9_bows
  rw [s1, bnd2_s, owedY ta.1.1 h7 h1 h2, eD, bnd_s, bendsY ta.1.1 h7 h1, eC, pk_sub hkl, bnd_s, b2, bnd_s, bowsR (by omega) (by omega) k1 k2 hd s2 el hkl ed]
  by_cases c : k' ≤ d
  · rw [if_pos (nI_le c (by omega)), if_pos c]
    exact ⟨_, _, rfl, rfl, ka.trans (kb.trans kc)⟩
  · obtain ⟨m, C6, O6, hm, m1, m2, m3, m4⟩ := more_both (gv := k' - d) tc.1 tc.2.1 tc.2.2 h2 h1 (by omega)
    have kd := KP.ofL tc m3 m4
    have td := kd.1
    obtain ⟨e, he, ee⟩ := td.2.2.2.2.2.1 (7 * r + p) (by omega)
    have eE : C6 (stI q + 4) (7 * r + p) = nI e := (td.2.1.2.2.2.2.2.2 _ (by omega)).trans ee
    obtain ⟨z, -, hz, z1, z2⟩ := clampH (x := nI e + nI m) (a := 0) (b := 9999) (by decide) (by decide)
    have ke := KP.owe (p := r) (r := p) (k := z) td (by omega) (by omega) (fun e => hne e.symm) hz
    have b3 := setY (x := nI e + nI m) td.1.1 h7 h2 h1 (fun e => hne e.symm)
    rw [show f_X11_clamped (nI e + nI m) 0 9999 = nI z from z1] at b3
    rw [if_neg (nI_ge (by omega) (by omega)), if_neg c, pk_sub (by omega), m1, bnd2_s, owedY td.1.1 h7 h2 h1, eE, bnd_s, b3, bnd_s, m2, bnd2_s, ← m4 470 (by decide), ee]
    refine ⟨_, _, rfl, ?_, ka.trans (kb.trans (kc.trans (kd.trans ke)))⟩
    rw [show f_X12_held (nI e + nI m).toInt64 0 9999 = nI z from z2]
theorem walk_dec1 : ∀ l, l < 8 → f_J9_floorMod_7cf53 (nI l + 1) 8 = some (nI ((l + 1) % 8)) ∧ irm (nI l + 1 + 8) 8 = nI ((l + 1) % 8) := by decide +kernel
theorem walk_dec2 : ∀ l, l < 8 → f_J9_floorMod_7cf53 (nI l + (-1)) 8 = some (nI ((l + 7) % 8)) ∧ irm (nI l + (-1) + 8) 8 = nI ((l + 7) % 8) := by decide +kernel
theorem walks_both {q n p : Nat} {C : CM} {O : OM} {x : Int32} (h : TW q n C O) (h1 : p < n) (hx : x = 1 ∨ x = -1) :
    ∃ k C1 O1, k < 8 ∧ f_X7_walks (stI q) (nI p) x C = some C1 ∧ f_X12_walks (nI p) x O = some O1 ∧ KP q n C C1 O O1 ∧ O1.1 470 (7 + p) = nI k := by
  have h7 := h.1.2.1.1
  obtain ⟨l, hl, el⟩ := h.2.2.2.1 p (by omega)
  have eC : C (stI q + 2) p = nI l := (h.2.1.2.2.2.2.1 p (by omega)).trans el
  have i1 : (7 : Int32) + nI p = nI (7 + p) := nI_add 7 p
  obtain ⟨k, hk, w1, w2⟩ : ∃ k, k < 8 ∧ f_J9_floorMod_7cf53 (nI l + x) 8 = some (nI k) ∧ irm (nI l + x + 8) 8 = nI k := by
    rcases hx with rfl | rfl
    · exact ⟨_, Nat.mod_lt _ (by decide), walk_dec1 l hl⟩
    · exact ⟨_, Nat.mod_lt _ (by decide), walk_dec2 l hl⟩
  unfold f_X7_walks f_X12_walks
  simp only [hasY h.1.1 h7 h1, i1, gd_p (inbN (show p < 7 by omega) (by decide)), gd_p (inbN (show 7 + p < 164 by omega) (by decide)), nI_clamp (show p < 2 ^ 31 by omega), nI_clamp (show 7 + p < 2 ^ 31 by omega), eC, w1, bnd_s, el, w2]
  rw [if_neg (by decide)]
  exact ⟨k, _, _, hk, rfl, rfl, KP.place h (by omega) hk, by rw [oup_eq, pk_us]⟩
theorem draw_both {q n m : Nat} {C : CM} {O : OM} (h : TW q n C O) (h0 : 0 < m) (hm : m < 100) :
    ∃ v C1 O1, v < m ∧ f_X7_draw (stI q) (nI m) C = some (nI v, C1) ∧ f_X12_draw (nI m) O = some (nI v, O1) ∧ KP q n C C1 O O1 := by
  obtain ⟨x, hx, ex⟩ := h.2.2.2.2.2.2.2.2.2.1
  have eC : C (stI q) 3 = nI x := h.2.1.2.2.1.trans ex
  have e1 : irm (nI x) (nI m) = nI (x % m) := pk_rem (by omega) h0 (by omega)
  have e2 : irm (nI x * 299 + 199) 30323 = nI ((x * 299 + 199) % 30323) := by
    rw [show (299 : Int32) = nI 299 from rfl, show (199 : Int32) = nI 199 from rfl, show (30323 : Int32) = nI 30323 from rfl, pk_mul, nI_add]
    exact pk_rem (by omega) (by decide) (by decide)
  unfold f_X7_draw f_X12_draw X7_draw_j14
  rw [if_neg (nI_nle h0 (by omega)), gd_p (nI_ne0 h0 (by omega)), gd_p (nI_ne0 h0 (by omega)), eC, ex, e1, e2]
  exact ⟨x % m, _, _, Nat.mod_lt _ h0, rfl, rfl, KP.x97 h (Nat.mod_lt _ (by decide))⟩
theorem leN {n i : Nat} (h : i < n) (h7 : n ≤ 7) : ¬ nI n ≤ nI i := nI_ge h (by omega)
theorem owes_l {q n p : Nat} {C : CM} {O : OM} (h : TW q n C O) (h1 : p < n) : ∀ d i m1 m2 v, i + d = n → d < m1 → d < m2 → ∃ S, X7_owesTogether_l4 (stI q) m1 (nI p) v (nI i) C = some S ∧ X12_allOwedBy_l4 m2 (nI p) v (nI i) O = some S ∧ ((∀ r, r < n → O.1 470 (21 + (7 * p + r)) = 0) → S = v) := by
  have h7 := h.1.2.1.1
  intro d
  induction d with
  | zero =>
    intro i m1 m2 v hi hm1 hm2
    obtain ⟨m1, rfl⟩ : ∃ m, m1 = m + 1 := ⟨m1 - 1, by omega⟩
    obtain ⟨m2, rfl⟩ : ∃ m, m2 = m + 1 := ⟨m2 - 1, by omega⟩
    have : i = n := by omega
    subst this
    rw [X7_owesTogether_l4, X12_allOwedBy_l4, h.1.1, h.1.2.1.2.1, if_pos (Int32.le_refl _), if_pos (Int32.le_refl _)]
    exact ⟨v, rfl, rfl, fun _ => rfl⟩
  | succ d ih =>
    intro i m1 m2 v hi hm1 hm2
    obtain ⟨m1, rfl⟩ : ∃ m, m1 = m + 1 := ⟨m1 - 1, by omega⟩
    obtain ⟨m2, rfl⟩ : ∃ m, m2 = m + 1 := ⟨m2 - 1, by omega⟩
    have hin : i < n := by omega
    obtain ⟨S, s1, s2, s3⟩ := ih (i + 1) m1 m2 (v + O.1 470 (21 + (7 * p + i))) (by omega) (by omega) (by omega)
    refine ⟨S, ?_, ?_, ?_⟩
    · rw [X7_owesTogether_l4, h.1.1, if_neg (leN hin h7), owedY h.1.1 h7 h1 hin, bnd_s, h.2.1.2.2.2.2.2.2 _ (by omega), nI_1]; exact s1
    · rw [X12_allOwedBy_l4, h.1.2.1.2.1, if_neg (leN hin h7), debtN', gd_p (inbN (by omega) (by decide)), nI_clamp (by omega), nI_1]; exact s2
    · intro hz
      rw [s3 hz, hz i hin, Int32.add_zero]
theorem owes_both {q n p : Nat} {C : CM} {O : OM} (h : TW q n C O) (h1 : p < n) : ∃ S, f_X7_owesTogether (stI q) (nI p) C = some S ∧ f_X12_allOwedBy (nI p) O = some S ∧ ((∀ r, r < n → O.1 470 (21 + (7 * p + r)) = 0) → S = 0) :=
  owes_l h h1 n 0 FU FU 0 (by omega) (by have := h.1.2.1.1; unfold FU; omega) (by have := h.1.2.1.1; unfold FU; omega)
theorem owed_l {q n p : Nat} {C : CM} {O : OM} (h : TW q n C O) (h1 : p < n) : ∀ d i m1 m2 v, i + d = n → d < m1 → d < m2 → ∃ S, X7_owedTogether_l4 (stI q) m1 (nI p) v (nI i) C = some S ∧ X12_allOwedTo_l4 m2 (nI p) v (nI i) O = some S := by
  have h7 := h.1.2.1.1
  intro d
  induction d with
  | zero =>
    intro i m1 m2 v hi hm1 hm2
    obtain ⟨m1, rfl⟩ : ∃ m, m1 = m + 1 := ⟨m1 - 1, by omega⟩
    obtain ⟨m2, rfl⟩ : ∃ m, m2 = m + 1 := ⟨m2 - 1, by omega⟩
    have : i = n := by omega
    subst this
    rw [X7_owedTogether_l4, X12_allOwedTo_l4, h.1.1, h.1.2.1.2.1, if_pos (Int32.le_refl _), if_pos (Int32.le_refl _)]
    exact ⟨v, rfl, rfl⟩
  | succ d ih =>
    intro i m1 m2 v hi hm1 hm2
    obtain ⟨m1, rfl⟩ : ∃ m, m1 = m + 1 := ⟨m1 - 1, by omega⟩
    obtain ⟨m2, rfl⟩ : ∃ m, m2 = m + 1 := ⟨m2 - 1, by omega⟩
    have hin : i < n := by omega
    obtain ⟨S, s1, s2⟩ := ih (i + 1) m1 m2 (v + O.1 470 (21 + (7 * i + p))) (by omega) (by omega) (by omega)
    refine ⟨S, ?_, ?_⟩
    · rw [X7_owedTogether_l4, h.1.1, if_neg (leN hin h7), owedY h.1.1 h7 hin h1, bnd_s, h.2.1.2.2.2.2.2.2 _ (by omega), nI_1]; exact s1
    · rw [X12_allOwedTo_l4, h.1.2.1.2.1, if_neg (leN hin h7), debtN', gd_p (inbN (by omega) (by decide)), nI_clamp (by omega), nI_1]; exact s2
theorem owedTo_both {q n p : Nat} {C : CM} {O : OM} (h : TW q n C O) (h1 : p < n) : ∃ S, f_X7_owedTogether (stI q) (nI p) C = some S ∧ f_X12_allOwedTo (nI p) O = some S :=
  owed_l h h1 n 0 FU FU 0 (by omega) (by have := h.1.2.1.1; unfold FU; omega) (by have := h.1.2.1.1; unfold FU; omega)
