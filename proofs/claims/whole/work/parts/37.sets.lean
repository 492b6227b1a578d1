/-! Rows of a State and the row w: what a write on both sides keeps -/
theorem VW.s1 {s p : Nat} {C : CM} {w : Nat → Int32} {x : Int32} (h : VW s C w) (hp : p < 7) : VW s (up2 C (s + 1) p x) (upd w (p) x) := by
  obtain ⟨a1, a2, a3, a4, a5, a6, a7⟩ := h
  exact ⟨by rw [up2_ne (by omega), pk_un (by omega)]; exact a1,
    by rw [up2_ne (by omega), pk_un (by omega)]; exact a2,
    by rw [up2_ne (by omega), pk_un (by omega)]; exact a3,
    fun j hj => by
      by_cases e : j = p
      · rw [e, up2_eq, pk_us, pk_us]
      · rw [up2_eq, pk_un e, pk_un (by omega)]; exact a4 j hj,
    fun j hj => by rw [up2_ne (by omega), pk_un (by omega)]; exact a5 j hj,
    fun j hj => by rw [up2_ne (by omega), pk_un (by omega)]; exact a6 j hj,
    fun j hj => by rw [up2_ne (by omega), pk_un (by omega)]; exact a7 j hj⟩
theorem VW.s2 {s p : Nat} {C : CM} {w : Nat → Int32} {x : Int32} (h : VW s C w) (hp : p < 7) : VW s (up2 C (s + 2) p x) (upd w (7 + p) x) := by
  obtain ⟨a1, a2, a3, a4, a5, a6, a7⟩ := h
  exact ⟨by rw [up2_ne (by omega), pk_un (by omega)]; exact a1,
    by rw [up2_ne (by omega), pk_un (by omega)]; exact a2,
    by rw [up2_ne (by omega), pk_un (by omega)]; exact a3,
    fun j hj => by rw [up2_ne (by omega), pk_un (by omega)]; exact a4 j hj,
    fun j hj => by
      by_cases e : j = p
      · rw [e, up2_eq, pk_us, pk_us]
      · rw [up2_eq, pk_un e, pk_un (by omega)]; exact a5 j hj,
    fun j hj => by rw [up2_ne (by omega), pk_un (by omega)]; exact a6 j hj,
    fun j hj => by rw [up2_ne (by omega), pk_un (by omega)]; exact a7 j hj⟩
theorem VW.s3 {s p : Nat} {C : CM} {w : Nat → Int32} {x : Int32} (h : VW s C w) (hp : p < 7) : VW s (up2 C (s + 3) p x) (upd w (14 + p) x) := by
  obtain ⟨a1, a2, a3, a4, a5, a6, a7⟩ := h
  exact ⟨by rw [up2_ne (by omega), pk_un (by omega)]; exact a1,
    by rw [up2_ne (by omega), pk_un (by omega)]; exact a2,
    by rw [up2_ne (by omega), pk_un (by omega)]; exact a3,
    fun j hj => by rw [up2_ne (by omega), pk_un (by omega)]; exact a4 j hj,
    fun j hj => by rw [up2_ne (by omega), pk_un (by omega)]; exact a5 j hj,
    fun j hj => by
      by_cases e : j = p
      · rw [e, up2_eq, pk_us, pk_us]
      · rw [up2_eq, pk_un e, pk_un (by omega)]; exact a6 j hj,
    fun j hj => by rw [up2_ne (by omega), pk_un (by omega)]; exact a7 j hj⟩
theorem VW.s4 {s p : Nat} {C : CM} {w : Nat → Int32} {x : Int32} (h : VW s C w) (hp : p < 49) : VW s (up2 C (s + 4) p x) (upd w (21 + p) x) := by
  obtain ⟨a1, a2, a3, a4, a5, a6, a7⟩ := h
  exact ⟨by rw [up2_ne (by omega), pk_un (by omega)]; exact a1,
    by rw [up2_ne (by omega), pk_un (by omega)]; exact a2,
    by rw [up2_ne (by omega), pk_un (by omega)]; exact a3,
    fun j hj => by rw [up2_ne (by omega), pk_un (by omega)]; exact a4 j hj,
    fun j hj => by rw [up2_ne (by omega), pk_un (by omega)]; exact a5 j hj,
    fun j hj => by rw [up2_ne (by omega), pk_un (by omega)]; exact a6 j hj,
    fun j hj => by
      by_cases e : j = p
      · rw [e, up2_eq, pk_us, pk_us]
      · rw [up2_eq, pk_un e, pk_un (by omega)]; exact a7 j hj⟩
theorem VW.d1 {s : Nat} {C : CM} {w : Nat → Int32} {x : Int32} (h : VW s C w) : VW s (up2 C s 1 x) (upd w 70 x) := by
  obtain ⟨a1, a2, a3, a4, a5, a6, a7⟩ := h
  exact ⟨by rw [up2_eq, pk_us, pk_us],
    by rw [up2_eq, pk_un (by decide), pk_un (by decide)]; exact a2,
    by rw [up2_eq, pk_un (by decide), pk_un (by decide)]; exact a3,
    fun j hj => by rw [up2_ne (by omega), pk_un (by omega)]; exact a4 j hj,
    fun j hj => by rw [up2_ne (by omega), pk_un (by omega)]; exact a5 j hj,
    fun j hj => by rw [up2_ne (by omega), pk_un (by omega)]; exact a6 j hj,
    fun j hj => by rw [up2_ne (by omega), pk_un (by omega)]; exact a7 j hj⟩
theorem VW.d2 {s : Nat} {C : CM} {w : Nat → Int32} {x : Int32} (h : VW s C w) : VW s (up2 C s 2 x) (upd w 71 x) := by
  obtain ⟨a1, a2, a3, a4, a5, a6, a7⟩ := h
  exact ⟨by rw [up2_eq, pk_un (by decide), pk_un (by decide)]; exact a1,
    by rw [up2_eq, pk_us, pk_us],
    by rw [up2_eq, pk_un (by decide), pk_un (by decide)]; exact a3,
    fun j hj => by rw [up2_ne (by omega), pk_un (by omega)]; exact a4 j hj,
    fun j hj => by rw [up2_ne (by omega), pk_un (by omega)]; exact a5 j hj,
    fun j hj => by rw [up2_ne (by omega), pk_un (by omega)]; exact a6 j hj,
    fun j hj => by rw [up2_ne (by omega), pk_un (by omega)]; exact a7 j hj⟩
theorem VW.d3 {s : Nat} {C : CM} {w : Nat → Int32} {x : Int32} (h : VW s C w) : VW s (up2 C s 3 x) (upd w 72 x) := by
  obtain ⟨a1, a2, a3, a4, a5, a6, a7⟩ := h
  exact ⟨by rw [up2_eq, pk_un (by decide), pk_un (by decide)]; exact a1,
    by rw [up2_eq, pk_un (by decide), pk_un (by decide)]; exact a2,
    by rw [up2_eq, pk_us, pk_us],
    fun j hj => by rw [up2_ne (by omega), pk_un (by omega)]; exact a4 j hj,
    fun j hj => by rw [up2_ne (by omega), pk_un (by omega)]; exact a5 j hj,
    fun j hj => by rw [up2_ne (by omega), pk_un (by omega)]; exact a6 j hj,
    fun j hj => by rw [up2_ne (by omega), pk_un (by omega)]; exact a7 j hj⟩
theorem VW.b {s i k : Nat} {C : CM} {w : Nat → Int32} {x y : Int32} (h : VW s C w) (hi : 73 ≤ i) : VW s (up2 C (s + 5) k x) (upd w i y) := by
  obtain ⟨a1, a2, a3, a4, a5, a6, a7⟩ := h
  exact ⟨by rw [up2_ne (by omega), pk_un (by omega)]; exact a1, by rw [up2_ne (by omega), pk_un (by omega)]; exact a2, by rw [up2_ne (by omega), pk_un (by omega)]; exact a3,
    fun j hj => by rw [up2_ne (by omega), pk_un (by omega)]; exact a4 j hj, fun j hj => by rw [up2_ne (by omega), pk_un (by omega)]; exact a5 j hj, fun j hj => by rw [up2_ne (by omega), pk_un (by omega)]; exact a6 j hj, fun j hj => by rw [up2_ne (by omega), pk_un (by omega)]; exact a7 j hj⟩
theorem VW.wb {s i : Nat} {C : CM} {w : Nat → Int32} {y : Int32} (h : VW s C w) (hi : 73 ≤ i) : VW s C (upd w i y) := by
  obtain ⟨a1, a2, a3, a4, a5, a6, a7⟩ := h
  exact ⟨by rw [pk_un (by omega)]; exact a1, by rw [pk_un (by omega)]; exact a2, by rw [pk_un (by omega)]; exact a3,
    fun j hj => by rw [pk_un (by omega)]; exact a4 j hj, fun j hj => by rw [pk_un (by omega)]; exact a5 j hj, fun j hj => by rw [pk_un (by omega)]; exact a6 j hj, fun j hj => by rw [pk_un (by omega)]; exact a7 j hj⟩
theorem VW.cb {s k : Nat} {C : CM} {w : Nat → Int32} {x : Int32} (h : VW s C w) : VW s (up2 C (s + 5) k x) w := by
  obtain ⟨a1, a2, a3, a4, a5, a6, a7⟩ := h
  exact ⟨by rw [up2_ne (by omega)]; exact a1, by rw [up2_ne (by omega)]; exact a2, by rw [up2_ne (by omega)]; exact a3,
    fun j hj => by rw [up2_ne (by omega)]; exact a4 j hj, fun j hj => by rw [up2_ne (by omega)]; exact a5 j hj, fun j hj => by rw [up2_ne (by omega)]; exact a6 j hj, fun j hj => by rw [up2_ne (by omega)]; exact a7 j hj⟩
theorem VW.c0 {s k : Nat} {C : CM} {w : Nat → Int32} {x : Int32} (h : VW s C w) (hk : k = 0 ∨ k = 4) : VW s (up2 C s k x) w := by
  obtain ⟨a1, a2, a3, a4, a5, a6, a7⟩ := h
  exact ⟨by rw [up2_eq, pk_un (by omega)]; exact a1, by rw [up2_eq, pk_un (by omega)]; exact a2, by rw [up2_eq, pk_un (by omega)]; exact a3,
    fun j hj => by rw [up2_ne (by omega)]; exact a4 j hj, fun j hj => by rw [up2_ne (by omega)]; exact a5 j hj, fun j hj => by rw [up2_ne (by omega)]; exact a6 j hj, fun j hj => by rw [up2_ne (by omega)]; exact a7 j hj⟩
theorem WOK.u {w : Nat → Int32} (h : WOK w) {i k : Nat} (hk : (i < 7 ∧ k < 100) ∨ (7 ≤ i ∧ i < 14 ∧ k < 8) ∨ (14 ≤ i ∧ i < 21 ∧ k < 4) ∨ (21 ≤ i ∧ i < 70 ∧ k ≤ 9999) ∨ (i = 70 ∧ k ≤ 9999) ∨ (i = 71 ∧ k < 10) ∨ (i = 72 ∧ k < 30323) ∨ (i = 73 ∧ k ≤ 30) ∨ 73 < i) (hd : (∀ p, p < 7 → 21 + 8 * p ≠ i) ∨ k = 0) : WOK (upd w i (nI k)) := by
  obtain ⟨a1, a2, a3, a4, a5, a6, a7, a8, a9⟩ := h
  refine ⟨fun p hp => ?_, fun p hp => ?_, fun p hp => ?_, fun p hp => ?_, fun p hp => ?_, ?_, ?_, ?_, ?_⟩
  · by_cases e : p = i
    · exact ⟨k, by omega, by rw [e, pk_us]⟩
    · rw [pk_un e]; exact a1 p hp
  · by_cases e : 7 + p = i
    · exact ⟨k, by omega, by rw [e, pk_us]⟩
    · rw [pk_un e]; exact a2 p hp
  · by_cases e : 14 + p = i
    · exact ⟨k, by omega, by rw [e, pk_us]⟩
    · rw [pk_un e]; exact a3 p hp
  · by_cases e : 21 + p = i
    · exact ⟨k, by omega, by rw [e, pk_us]⟩
    · rw [pk_un e]; exact a4 p hp
  · by_cases e : 21 + 8 * p = i
    · rcases hd with hd | hd
      · exact absurd e (hd p hp)
      · rw [e, pk_us, hd]; rfl
    · rw [pk_un e]; exact a5 p hp
  · by_cases e : 70 = i
    · exact ⟨k, by omega, by rw [e, pk_us]⟩
    · rw [pk_un e]; exact a6
  · by_cases e : 71 = i
    · exact ⟨k, by omega, by rw [e, pk_us]⟩
    · rw [pk_un e]; exact a7
  · by_cases e : 72 = i
    · exact ⟨k, by omega, by rw [e, pk_us]⟩
    · rw [pk_un e]; exact a8
  · by_cases e : 73 = i
    · exact ⟨k, by omega, by rw [e, pk_us]⟩
    · rw [pk_un e]; exact a9
theorem WOK.pg {w : Nat → Int32} (h : WOK w) {i : Nat} {x : Int32} (hi : 73 < i) : WOK (upd w i x) := by
  obtain ⟨a1, a2, a3, a4, a5, a6, a7, a8, a9⟩ := h
  exact ⟨fun p hp => by rw [pk_un (by omega)]; exact a1 p hp, fun p hp => by rw [pk_un (by omega)]; exact a2 p hp, fun p hp => by rw [pk_un (by omega)]; exact a3 p hp, fun p hp => by rw [pk_un (by omega)]; exact a4 p hp, fun p hp => by rw [pk_un (by omega)]; exact a5 p hp, by rw [pk_un (by omega)]; exact a6, by rw [pk_un (by omega)]; exact a7, by rw [pk_un (by omega)]; exact a8, by rw [pk_un (by omega)]; exact a9⟩
theorem WOK.owe {w : Nat → Int32} (h : WOK w) {p r k : Nat} (hp : p < 7) (hr : r < 7) (hne : p ≠ r) (hk : k ≤ 9999) : WOK (upd w (21 + (7 * p + r)) (nI k)) :=
  h.u (by omega) (Or.inl fun j hj => by omega)
/-- the book, and what else stands behind it, is left alone -/
def BK (q : Nat) (C C1 : CM) (O O1 : OM) : Prop := C1 (stI q) 4 = C (stI q) 4 ∧ C1 (stI q + 5) = C (stI q + 5) ∧ (∀ k, 73 ≤ k → O1.1 470 k = O.1 470 k) ∧ O1.1 446 = O.1 446
theorem BK.refl {q : Nat} {C : CM} {O : OM} : BK q C C O O := ⟨rfl, rfl, fun _ _ => rfl, rfl⟩
theorem BK.trans {q : Nat} {C C1 C2 : CM} {O O1 O2 : OM} (h : BK q C C1 O O1) (h2 : BK q C1 C2 O1 O2) : BK q C C2 O O2 := ⟨h2.1.trans h.1, h2.2.1.trans h.2.1, fun k hk => (h2.2.2.1 k hk).trans (h.2.2.1 k hk), h2.2.2.2.trans h.2.2.2⟩
theorem BK.ofL {q : Nat} {C C1 : CM} {O O1 : OM} (h : FrL q C C1) (h2 : FrO1 471 O O1) : BK q C C1 O O1 := ⟨by rw [show C1 (stI q) = C (stI q) from h.st (k := 0) (by decide)], h.st (by decide), fun k _ => by rw [h2 470 (by decide)], h2 446 (by decide)⟩
theorem BK.up {q i k j : Nat} {C : CM} {O : OM} {x y : Int32} (hi : 1 ≤ i) (h5 : i < 5) (hj : j < 73) : BK q C (up2 C (stI q + i) k x) O (oup O 470 j y) := ⟨by rw [up2_ne (by omega)], by rw [up2_ne (by omega)], fun k hk => by rw [oup_eq, pk_un (by omega)], oup_ne (by decide)⟩
theorem BK.upd0 {q k j : Nat} {C : CM} {O : OM} {x y : Int32} (hk : k ≠ 4) (hj : j < 73) : BK q C (up2 C (stI q) k x) O (oup O 470 j y) := ⟨by rw [up2_eq, pk_un (by omega)], by rw [up2_ne (by omega)], fun k hk => by rw [oup_eq, pk_un (by omega)], oup_ne (by decide)⟩
/-- all that a deed in a town keeps -/
def KP (q n : Nat) (C C1 : CM) (O O1 : OM) : Prop := TW q n C1 O1 ∧ FrT q C C1 ∧ FrTO O O1 ∧ BK q C C1 O O1
theorem KP.refl {q n : Nat} {C : CM} {O : OM} (h : TW q n C O) : KP q n C C O O := ⟨h, FrT.refl, FrTO.refl, BK.refl⟩
theorem KP.trans {q n : Nat} {C C1 C2 : CM} {O O1 O2 : OM} (h : KP q n C C1 O O1) (h2 : KP q n C1 C2 O1 O2) : KP q n C C2 O O2 := ⟨h2.1, h.2.1.trans h2.2.1, h.2.2.1.trans h2.2.2.1, h.2.2.2.trans h2.2.2.2⟩
theorem KP.ofL {q n : Nat} {C C1 : CM} {O O1 : OM} (h : TW q n C O) (hC : FrL q C C1) (hO : FrO1 471 O O1) : KP q n C C1 O O1 :=
  ⟨⟨h.1.mono (FrT.ofL hC) (FrTO.of1 hO), h.2.1.frL hC hO, by rw [hO 470 (by decide)]; exact h.2.2⟩, FrT.ofL hC, FrTO.of1 hO, BK.ofL hC hO⟩
theorem KP.put {q n i p j : Nat} {C : CM} {O : OM} {x : Int32} (h : TW q n C O) (hi : 1 ≤ i) (h5 : i < 5) (hj : j < 73) (hv : VW (stI q) (up2 C (stI q + i) p x) (upd (O.1 470) j x)) (hw : WOK (upd (O.1 470) j x)) : KP q n C (up2 C (stI q + i) p x) O (oup O 470 j x) :=
  ⟨⟨h.1.mono (FrT.up hi (by omega)) FrTO.ofw, by rw [oup_eq]; exact hv, by rw [oup_eq]; exact hw⟩, FrT.up hi (by omega), FrTO.ofw, BK.up hi h5 hj⟩
theorem KP.left {q n p k : Nat} {C : CM} {O : OM} (h : TW q n C O) (hp : p < 7) (hk : k < 100) : KP q n C (up2 C (stI q + 1) p (nI k)) O (oup O 470 p (nI k)) := KP.put h (by decide) (by decide) (by omega) (h.2.1.s1 hp) (h.2.2.u (by omega) (Or.inl fun j hj => by omega))
theorem KP.place {q n p k : Nat} {C : CM} {O : OM} (h : TW q n C O) (hp : p < 7) (hk : k < 8) : KP q n C (up2 C (stI q + 2) p (nI k)) O (oup O 470 (7 + p) (nI k)) := KP.put h (by decide) (by decide) (by omega) (h.2.1.s2 hp) (h.2.2.u (by omega) (Or.inl fun j hj => by omega))
theorem KP.indoors {q n p k : Nat} {C : CM} {O : OM} (h : TW q n C O) (hp : p < 7) (hk : k < 4) : KP q n C (up2 C (stI q + 3) p (nI k)) O (oup O 470 (14 + p) (nI k)) := KP.put h (by decide) (by decide) (by omega) (h.2.1.s3 hp) (h.2.2.u (by omega) (Or.inl fun j hj => by omega))
theorem KP.owe {q n p r k : Nat} {C : CM} {O : OM} (h : TW q n C O) (hp : p < 7) (hr : r < 7) (hne : p ≠ r) (hk : k ≤ 9999) : KP q n C (up2 C (stI q + 4) (7 * p + r) (nI k)) O (oup O 470 (21 + (7 * p + r)) (nI k)) := KP.put h (by decide) (by decide) (by omega) (h.2.1.s4 (by omega)) (h.2.2.owe hp hr hne hk)
theorem KP.day {q n k : Nat} {C : CM} {O : OM} (h : TW q n C O) (hk : k ≤ 9999) : KP q n C (up2 C (stI q) 1 (nI k)) O (oup O 470 70 (nI k)) := ⟨⟨h.1.mono (FrT.up0 (by decide)) FrTO.ofw, by rw [oup_eq]; exact h.2.1.d1, by rw [oup_eq]; exact h.2.2.u (by omega) (Or.inl fun j hj => by omega)⟩, FrT.up0 (by decide), FrTO.ofw, BK.upd0 (by decide) (by decide)⟩
theorem KP.hour {q n k : Nat} {C : CM} {O : OM} (h : TW q n C O) (hk : k < 10) : KP q n C (up2 C (stI q) 2 (nI k)) O (oup O 470 71 (nI k)) := ⟨⟨h.1.mono (FrT.up0 (by decide)) FrTO.ofw, by rw [oup_eq]; exact h.2.1.d2, by rw [oup_eq]; exact h.2.2.u (by omega) (Or.inl fun j hj => by omega)⟩, FrT.up0 (by decide), FrTO.ofw, BK.upd0 (by decide) (by decide)⟩
theorem KP.x97 {q n k : Nat} {C : CM} {O : OM} (h : TW q n C O) (hk : k < 30323) : KP q n C (up2 C (stI q) 3 (nI k)) O (oup O 470 72 (nI k)) := ⟨⟨h.1.mono (FrT.up0 (by decide)) FrTO.ofw, by rw [oup_eq]; exact h.2.1.d3, by rw [oup_eq]; exact h.2.2.u (by omega) (Or.inl fun j hj => by omega)⟩, FrT.up0 (by decide), FrTO.ofw, BK.upd0 (by decide) (by decide)⟩
theorem clampS {a b : Nat} (ha : a ≤ 9999) (hb : b < 2 ^ 30) : f_X11_clamped (nI a - nI b) 0 9999 = nI (a - b) := by
  unfold f_X11_clamped f_J9_max_7cf53 f_J9_min_7cf53
  rw [show (9999 : Int32) = nI 9999 from rfl]
  have e := pk_sub_toInt (a := a) (b := b) (by omega) hb
  have e9 := nI_toInt (n := 9999) (by decide)
  have L : nI a - nI b < nI 9999 ↔ (a : Int) - b < 9999 := by rw [Int32.lt_iff_toInt_lt, e, e9]; rfl
  have G : 0 < nI a - nI b ↔ 0 < (a : Int) - b := by rw [Int32.lt_iff_toInt_lt, e]; rfl
  by_cases c1 : (a : Int) - b < 9999
  · rw [if_pos (L.mpr c1)]
    by_cases c2 : 0 < (a : Int) - b
    · rw [if_pos (G.mpr c2), pk_sub (by omega)]
    · rw [if_neg (fun h => c2 (G.mp h)), show a - b = 0 by omega]; rfl
  · rw [if_neg (fun h => c1 (L.mp h)), show a - b = 9999 by omega]; rfl
