/-! The sets that explain the necks, counted on both sides -/
def PB (N : Nat → Int32) (w : Nat → Nat → Int32) (k S : Nat) : Bool := decide (∀ p, p < k → N p = -1 ∨ N p = BE w k S p)
def PF (N : Nat → Int32) (w : Nat → Nat → Int32) (k S : Nat) : Bool := decide (∀ p, p < k → N p = -1 ∨ N p = BF w k S p)
def cN (f : Nat → Bool) (N : Nat) : Nat := sN (fun i => if f i then 1 else 0) N
theorem cN_s (f : Nat → Bool) (i : Nat) : cN f (i + 1) = cN f i + (if f i then 1 else 0) := rfl
theorem cN_le (f : Nat → Bool) (N : Nat) : cN f N ≤ N := by
  have := sN_le (f := fun i => if f i then 1 else 0) (b := 1) N (fun i _ => by
    show (if f i then 1 else 0) ≤ 1
    split <;> omega)
  unfold cN
  omega
theorem PB_PF (N : Nat → Int32) (w : Nat → Nat → Int32) {k i : Nat} (hk : k < 6) (hi : i < 2 ^ mm k) : PB N w k (Gr i) = PF N w k (pim k i) := by
  unfold PB PF
  congr 1
  refine propext ⟨fun h p hp => ?_, fun h p hp => ?_⟩
  · rw [← BE_BF w hk hi hp]; exact h p hp
  · rw [BE_BF w hk hi hp]; exact h p hp
theorem cN_all (N : Nat → Int32) (w : Nat → Nat → Int32) {k : Nat} (hk : k < 6) : cN (fun i => PB N w k (Gr i)) (2 ^ mm k) = cN (PF N w k) (2 ^ mm k) := by
  have e1 : cN (fun i => PB N w k (Gr i)) (2 ^ mm k) = sN (fun i => (fun S => if PF N w k S then 1 else 0) (pim k i)) (2 ^ mm k) := sN_congr _ (fun i hi => by
    show (if PB N w k (Gr i) then 1 else 0) = (if PF N w k (pim k i) then 1 else 0)
    rw [PB_PF N w hk hi])
  rw [e1, cperm (fun S => if PF N w k S then 1 else 0) (gb1 k hk) (gb2 k hk)]; rfl
theorem cN_two (N : Nat → Int32) (w : Nat → Nat → Int32) {k j : Nat} (hk : k < 6) (hj : j < mm k) : cN (fun i => PB N w k (Gr i) && bt (Gr i) j) (2 ^ mm k) = cN (fun S => PF N w k S && bt S (tw (lo k j) (hgh k j))) (2 ^ mm k) := by
  have e1 : cN (fun i => PB N w k (Gr i) && bt (Gr i) j) (2 ^ mm k) = sN (fun i => (fun S => if (PF N w k S && bt S (tw (lo k j) (hgh k j))) then 1 else 0) (pim k i)) (2 ^ mm k) := sN_congr _ (fun i hi => by
    show (if (PB N w k (Gr i) && bt (Gr i) j) then 1 else 0) = (if (PF N w k (pim k i) && bt (pim k i) (tw (lo k j) (hgh k j))) then 1 else 0)
    rw [PB_PF N w hk hi, gb3 k hk i hi j hj])
  rw [e1, cperm (fun S => if (PF N w k S && bt S (tw (lo k j) (hgh k j))) then 1 else 0) (gb1 k hk) (gb2 k hk)]; rfl
def Sp (i : Nat) : Nat := if i = 0 then 0 else Gr (i - 1)
def ST (C0 : CM) (w : Nat → Nat → Int32) (k i : Nat) (C : CM) : Prop := (∀ c, c < 417 ∨ 421 < c → C c = C0 c) ∧ C 417 1 = nI (mm k) ∧ C 417 0 = nI (cN (fun i => PB (C0 12) w k (Gr i)) i) ∧
  (∀ j, j < mm k → C 418 j = nI (lo k j) ∧ C 419 j = nI (hgh k j) ∧ C 420 j = nI (cN (fun i => PB (C0 12) w k (Gr i) && bt (Gr i) j) i)) ∧ ∀ p, p < k → C 421 p = BE w k (Sp i) p
section
variable {n k : Nat} {C0 : CM} {w : Nat → Nat → Int32}
theorem tally {i : Nat} {C : CM} (hk : k < 6) (hN : ∀ p, p < 5 → k ≤ p → C0 12 p = -1) (hi : i < 2 ^ mm k) (h : (∀ c, c < 417 ∨ 421 < c → C c = C0 c) ∧ C 417 1 = nI (mm k) ∧ C 417 0 = nI (cN (fun i => PB (C0 12) w k (Gr i)) i) ∧
    (∀ j, j < mm k → C 418 j = nI (lo k j) ∧ C 419 j = nI (hgh k j) ∧ C 420 j = nI (cN (fun i => PB (C0 12) w k (Gr i) && bt (Gr i) j) i)) ∧ ∀ p, p < k → C 421 p = BE w k (Gr i) p) (rc : Int32 → Int32 → CM → Option CM) :
    ∃ C1, X2_reckon_j112 6 12 rc (nI (Gr i)) (nI i) C = rc (nI (Gr i)) (nI (i + 1)) C1 ∧ ST C0 w k (i + 1) C1 := by
  obtain ⟨h1, h2, h3, h4, h5⟩ := h
  have hm := (tb3 k hk).2.2
  have h1024 : 2 ^ mm k ≤ 2 ^ 10 := Nat.pow_le_pow_right (by decide) hm
  have e12 : C 12 = C0 12 := h1 12 (by omega)
  have hG : Gr i < 1024 := by
    by_cases c : i = 0
    · subst c; decide
    · exact (gb4 i (by omega) (by omega)).2.2.2
  obtain ⟨x1, x2⟩ := explC (C := C) 5 0 FU (by omega) (by unfold FU; omega)
  have spi : Sp (i + 1) = Gr i := by unfold Sp; rw [if_neg (by omega)]; rfl
  unfold X2_reckon_j112 f_X2_explains X2_reckon_j125
  by_cases c : PB (C0 12) w k (Gr i) = true
  · have hall : ∀ p, p < k → C0 12 p = -1 ∨ C0 12 p = BE w k (Gr i) p := of_decide_eq_true c
    rw [show (0 : Int32) = nI 0 from rfl, x1 (fun p _ hp => by
      rw [e12]
      by_cases ck : p < k
      · rw [h5 p ck]; exact hall p ck
      · exact Or.inl (hN p hp (by omega))), bnd_s, if_neg (show ¬ (1 : Int32) = nI 0 by decide)]
    unfold f_X2_count
    obtain ⟨C1, r1, r2, r3, -⟩ := countC (m := mm k) (S := Gr i) hm (by omega) (mm k) 0 FU (up2 C 417 0 (C 417 0 + 1)) (by omega) (by unfold FU; omega) (by rw [up2_eq, pk_un (by decide)]; exact h2)
    rw [show (0 : Int32) = nI 0 from rfl, r1, bnd_s, nI_1]
    refine ⟨C1, rfl, fun c hc => by rw [r2 c (by omega), up2_ne (by omega)]; exact h1 c hc, by rw [r2 417 (by decide), up2_eq, pk_un (by decide)]; exact h2, by rw [r2 417 (by decide), up2_eq, pk_us, h3, nI_1, cN_s, if_pos c], fun j hj => ⟨by rw [r2 418 (by decide), up2_ne (by decide)]; exact (h4 j hj).1, by rw [r2 419 (by decide), up2_ne (by decide)]; exact (h4 j hj).2.1, ?_⟩, fun p hp => by rw [r2 421 (by decide), up2_ne (by decide), spi]; exact h5 p hp⟩
    rw [r3 j (by omega) hj, up2_ne (by decide), (h4 j hj).2.2, cN_s, c, Bool.true_and]
    cases bt (Gr i) j
    · rw [if_neg (by decide), if_neg (by decide), Int32.add_zero]; rfl
    · rw [if_pos rfl, if_pos rfl, nI_1]
  · have cf : PB (C0 12) w k (Gr i) = false := (Bool.not_eq_true _).mp c
    have hex : ∃ p, 0 ≤ p ∧ p < 5 ∧ ¬ (C 12 p = -1 ∨ C 12 p = C 421 p) := by
      by_cases g : ∃ p, 0 ≤ p ∧ p < 5 ∧ ¬ (C 12 p = -1 ∨ C 12 p = C 421 p)
      · exact g
      · exfalso
        apply c
        refine decide_eq_true (fun p hp => ?_)
        by_cases g2 : C 12 p = -1 ∨ C 12 p = C 421 p
        · rw [e12, h5 p hp] at g2; exact g2
        · exact absurd ⟨p, Nat.zero_le _, by omega, g2⟩ g
    rw [show (0 : Int32) = nI 0 from rfl, x2 hex, bnd_s, if_pos (show (0 : Int32) = nI 0 from rfl), nI_1]
    refine ⟨C, rfl, h1, h2, by rw [h3, cN_s, if_neg c]; rfl, fun j hj => ⟨(h4 j hj).1, (h4 j hj).2.1, ?_⟩, fun p hp => by rw [spi]; exact h5 p hp⟩
    rw [(h4 j hj).2.2, cN_s, cf, Bool.false_and, if_neg (by decide)]; rfl
theorem turnC {i f : Nat} {C : CM} (hn : n ≤ 7) (h0 : C0 6 0 = nI n) (hk : k < 6) (hkn : k ≤ n) (hw : ∀ p q, p < 7 → q < 7 → C0 10 (7 * p + q) = w p q) (hN : ∀ p, p < 5 → k ≤ p → C0 12 p = -1) (hi : i < 2 ^ mm k) (h : ST C0 w k i C) :
    ∃ C1, X2_reckon_l42 6 12 (f + 1) (nI (Sp i)) (nI i) C = X2_reckon_l42 6 12 f (nI (Gr i)) (nI (i + 1)) C1 ∧ ST C0 w k (i + 1) C1 := by
  obtain ⟨h1, h2, h3, h4, h5⟩ := h
  have hm := (tb3 k hk).2.2
  have h1024 : 2 ^ mm k ≤ 2 ^ 10 := Nat.pow_le_pow_right (by decide) hm
  rw [X2_reckon_l42, h2, tb8 (mm k) (by omega), if_neg (nI_ge hi (by omega))]
  unfold X2_reckon_j67
  by_cases c : i = 0
  · subst c
    have w0 : f_X11_within (-1) 0 (nI (mm k) - 1) = 0 := by
      unfold f_X11_within
      rw [if_pos (by decide)]
    rw [if_pos (show nI 0 = 0 from rfl), h2, w0, if_pos rfl]
    exact tally hk hN hi ⟨h1, h2, h3, h4, h5⟩ _
  · obtain ⟨g1, g2, g3, g4⟩ := gb4 i (by omega) (by omega)
    have g5 := gb5 i (by omega) (by omega)
    have g6 := gb6 k hk i hi (by omega)
    have spi : Sp i = Gr (i - 1) := by unfold Sp; rw [if_neg c]
    have w1 : f_X11_within (nI (nz i)) 0 (nI (mm k) - 1) = 1 := by
      rcases wi_n (n := mm k) (by omega) (nI (nz i)) with ⟨-, hh⟩ | ⟨p, -, -, hh⟩
      · rcases hh with hh | hh
        · exact absurd hh (nI_pos (by omega))
        · exact absurd hh (nI_ge g6 (by omega))
      · exact hh
    rw [if_neg (nI_ne0 (by omega) (by omega)), g1, h2, w1, if_neg n10, spi, g2, bt_cls (by omega) (by omega)]
    unfold X2_reckon_j109
    have go : ∀ sg : Int32, sg = (if bt (Gr i) (nz i) then 1 else -1) → ∃ C1, (bnd (f_X2_bend 6 (nI (nz i)) sg C) fun C11 => X2_reckon_j112 6 12 (fun v3 v4 C => X2_reckon_l42 6 12 f v3 v4 C) (nI (Gr i)) (nI i) C11) = X2_reckon_l42 6 12 f (nI (Gr i)) (nI (i + 1)) C1 ∧ ST C0 w k (i + 1) C1 := by
      intro sg hsg
      obtain ⟨C1, r1, r2, r3⟩ := bendC (w := w) (sg := sg) hn (by rw [h1 6 (by omega)]; exact h0) hk hkn g6 (Or.inr True.intro) (h4 _ g6).1 (h4 _ g6).2.1 (fun p q hp hq => by rw [h1 10 (by omega)]; exact hw p q hp hq)
      rw [r1, bnd_s]
      refine tally hk hN hi ⟨fun c hc => by rw [r2 c (by omega)]; exact h1 c hc, by rw [r2 417 (by decide)]; exact h2, by rw [r2 417 (by decide)]; exact h3, fun j hj => by rw [r2 418 (by decide), r2 419 (by decide), r2 420 (by decide)]; exact h4 j hj, fun p hp => ?_⟩ _
      rw [r3, h5 p hp, spi]
      exact (BE_flip w hk g6 hp g3 g5 hsg).symm
    cases hb : bt (Gr i) (nz i)
    · rw [if_pos (show (if false = true then (1 : Int32) else 0) = 0 from rfl)]
      exact go (-1) (by rw [hb]; rfl)
    · rw [if_neg (show ¬ (if true = true then (1 : Int32) else 0) = 0 by decide)]
      exact go 1 (by rw [hb]; rfl)
theorem turnsC (hn : n ≤ 7) (h0 : C0 6 0 = nI n) (hk : k < 6) (hkn : k ≤ n) (hw : ∀ p q, p < 7 → q < 7 → C0 10 (7 * p + q) = w p q) (hN : ∀ p, p < 5 → k ≤ p → C0 12 p = -1) : ∀ d i f C, i + d = 2 ^ mm k → d < f → ST C0 w k i C → ∃ C1, X2_reckon_l42 6 12 f (nI (Sp i)) (nI i) C = some C1 ∧ ST C0 w k (2 ^ mm k) C1 := by
  have hm := (tb3 k hk).2.2
  have h1024 : 2 ^ mm k ≤ 2 ^ 10 := Nat.pow_le_pow_right (by decide) hm
  intro d
  induction d with
  | zero =>
    intro i f C hi hf h
    obtain ⟨f, rfl⟩ : ∃ j, f = j + 1 := ⟨f - 1, by omega⟩
    have : i = 2 ^ mm k := by omega
    subst this
    rw [X2_reckon_l42, h.2.1, tb8 (mm k) (by omega), if_pos (Int32.le_refl _)]
    exact ⟨C, rfl, h⟩
  | succ d ih =>
    intro i f C hi hf h
    obtain ⟨f, rfl⟩ : ∃ j, f = j + 1 := ⟨f - 1, by omega⟩
    obtain ⟨C1, r1, r2⟩ := turnC (f := f) hn h0 hk hkn hw hN (by omega) h
    obtain ⟨C2, q1, q2⟩ := ih (i + 1) f C1 (by omega) (by omega) r2
    refine ⟨C2, ?_, q2⟩
    rw [r1]
    exact q1
theorem zero5 {k37 : CM → Option CM} : ∀ d i f C, i + d = 5 → d < f → ∃ C1, X2_reckon_l19 6 12 k37 f (nI i) C = k37 C1 ∧ (∀ c, c ≠ 421 → C1 c = C c) ∧ (∀ p, i ≤ p → p < 5 → C1 421 p = 0) ∧ ∀ p, p < i → C1 421 p = C 421 p := by
  intro d
  induction d with
  | zero =>
    intro i f C hi hf
    obtain ⟨f, rfl⟩ : ∃ j, f = j + 1 := ⟨f - 1, by omega⟩
    have : i = 5 := by omega
    subst this
    rw [X2_reckon_l19, show (5 : Int32) = nI 5 from rfl, if_pos (Int32.le_refl _)]
    exact ⟨C, rfl, fun _ _ => rfl, fun p a b => absurd a (by omega), fun _ _ => rfl⟩
  | succ d ih =>
    intro i f C hi hf
    obtain ⟨f, rfl⟩ : ∃ j, f = j + 1 := ⟨f - 1, by omega⟩
    obtain ⟨C1, r1, r2, r3, r4⟩ := ih (i + 1) f (up2 C 421 i 0) (by omega) (by omega)
    rw [X2_reckon_l19, show (5 : Int32) = nI 5 from rfl, if_neg (nI_ge (by omega) (by decide)), gd_p (inbN (by omega) (by decide)), nI_clamp (by omega), nI_1]
    refine ⟨C1, r1, fun c hc => by rw [r2 c hc, up2_ne hc], fun p a b => ?_, fun p a => by rw [r4 p (by omega), up2_eq, pk_un (by omega)]⟩
    by_cases e : p = i
    · subst e; rw [r4 p (by omega), up2_eq, pk_us]
    · exact r3 p (by omega) b
theorem reckC (hn : n ≤ 7) (h0 : C0 6 0 = nI n) (hk : k = min n 5) (hw : ∀ p q, p < 7 → q < 7 → C0 10 (7 * p + q) = w p q) (hN : ∀ p, p < 5 → k ≤ p → C0 12 p = -1) : ∃ C1, f_X2_reckon 6 12 C0 = some C1 ∧ ST C0 w k (2 ^ mm k) C1 := by
  have hk6 : k < 6 := by omega
  have hm := (tb3 k hk6).2.2
  have h1024 : 2 ^ mm k ≤ 2 ^ 10 := Nat.pow_le_pow_right (by decide) hm
  obtain ⟨Ca, a1, a2, a3⟩ := listed hk6 (up2 C0 417 0 0)
  obtain ⟨Cb, b1, b2, b3, -⟩ := zero5 (k37 := fun C => (X2_reckon_j37 6 12 C)) 5 0 FU Ca (by omega) (by unfold FU; omega)
  have st : ST C0 w k 0 Cb := by
    refine ⟨fun c hc => by rw [b2 c (by omega), a3.1 c (by omega), up2_ne (by omega)], by rw [b2 417 (by decide)]; exact a2.1, by rw [b2 417 (by decide), a3.2 0 (by decide), up2_eq, pk_us]; rfl, fun j hj => ?_, fun p hp => ?_⟩
    · rw [b2 418 (by decide), b2 419 (by decide), b2 420 (by decide)]
      obtain ⟨e1, e2, e3⟩ := a2.2 j hj
      exact ⟨e1, e2, e3⟩
    · rw [b3 p (by omega) (by omega)]; exact (BE_0 w k p).symm
  obtain ⟨C1, r1, r2⟩ := turnsC hn h0 hk6 (by omega) hw hN (2 ^ mm k) 0 FU Cb (by omega) (by unfold FU; omega) st
  refine ⟨C1, ?_, r2⟩
  unfold f_X2_reckon
  rw [up2_ne (show 6 ≠ 417 by decide), h0, show (5 : Int32) = nI 5 from rfl, minN (by decide) (by omega), show min 5 n = k by omega, a1, bnd_s, show (0 : Int32) = nI 0 from rfl, b1]
  exact r1
end
