/-! What the laws say, on both sides -/
theorem clampH {x : Int32} {a b : Nat} (hab : a ≤ b) (hb : b < 2 ^ 31) : ∃ k, a ≤ k ∧ k ≤ b ∧ f_X11_clamped x (nI a) (nI b) = nI k ∧ f_X12_held x.toInt64 (nI a) (nI b) = nI k := by
  unfold f_X11_clamped f_J9_max_7cf53 f_J9_min_7cf53 f_X12_held
  simp only [lg_cmp_ge, lg_cmp_le, li_le, Int32.toInt32_toInt64]
  have ea := nI_toInt (n := a) (by omega)
  have eb := nI_toInt (n := b) hb
  simp only [Int32.lt_iff_toInt_lt, Int32.le_iff_toInt_le, ea, eb]
  by_cases c1 : x.toInt < b
  · rw [if_pos c1]
    by_cases c2 : (a : Int) < x.toInt
    · rw [if_pos c2, if_pos (by omega), if_pos (by omega)]
      obtain ⟨j, hj, e⟩ := nI_of (x := x) (by rw [Int32.lt_iff_toInt_lt, show (0 : Int32).toInt = 0 from rfl]; omega)
      rw [e, nI_toInt hj] at c1 c2
      exact ⟨j, by omega, by omega, e, e⟩
    · rw [if_neg c2]
      by_cases c3 : (a : Int) ≤ x.toInt
      · rw [if_pos c3, if_pos (by omega)]
        exact ⟨a, Nat.le_refl _, hab, rfl, Int32.toInt_inj.mp (by omega)⟩
      · rw [if_neg c3]
        exact ⟨a, Nat.le_refl _, hab, rfl, rfl⟩
  · rw [if_neg c1, eb]
    have : (a : Int) ≤ x.toInt := by omega
    rw [if_pos this]
    by_cases c4 : (a : Int) < b
    · rw [if_pos c4]
      by_cases c5 : x.toInt ≤ b
      · rw [if_pos c5]
        exact ⟨b, hab, Nat.le_refl _, rfl, Int32.toInt_inj.mp (by omega)⟩
      · rw [if_neg c5]
        exact ⟨b, hab, Nat.le_refl _, rfl, rfl⟩
    · have e : a = b := by omega
      subst e
      rw [if_neg c4]
      by_cases c5 : x.toInt ≤ a
      · rw [if_pos c5]
        exact ⟨a, hab, Nat.le_refl _, rfl, Int32.toInt_inj.mp (by omega)⟩
      · rw [if_neg c5]
        exact ⟨a, hab, Nat.le_refl _, rfl, rfl⟩
def LawC (sc : Nat) (C : CM) (O : OM) (L a len fr : Nat) (dp : Nat → List Bool) : Prop :=
  0 < len ∧ a + len ≤ 299 ∧ fr + len < 1600 ∧ C (sc + 2) L = nI a ∧ C (sc + 3) L = nI (a + len) ∧ O.1 456 (fr + len) = nI 408 ∧ dp 0 = [] ∧ dp len = [false] ∧ (∀ i, i ≤ len → (dp i).length ≤ 64) ∧ ∀ i, i < len → Ins a fr i len L dp (C (sc + 1) (a + i)) (O.1 456 (fr + i)) (O.1 457 (fr + i))
def LawL (sc : Nat) (C : CM) (O : OM) (L : Nat) : Prop :=
  (C (sc + 3) L = C (sc + 2) L ∧ f_X12_ordersOf (nI L) O = some (-1)) ∨ ∃ a len fr dp, f_X12_ordersOf (nI L) O = some (nI fr) ∧ LawC sc C O L a len fr dp
theorem isLawY {L : Nat} (h : L < 4) : f_X11_isLaw (nI (128 + L)) = 1 ∧ nI (128 + L) - (128 : Int32) = nI L := by
  have : ∀ L, L < 4 → f_X11_isLaw (nI (128 + L)) = 1 ∧ nI (128 + L) - (128 : Int32) = nI L := by decide
  exact this L h
theorem startY {sc L : Nat} {C : CM} (h : L < 4) : f_X6_start sc (nI (128 + L)) C = some (C (sc + 2) L) := by
  unfold f_X6_start
  rw [(isLawY h).1, (isLawY h).2, if_neg (by decide), gd_p (inbN h (by decide)), nI_clamp (by omega)]
theorem stopY {sc L : Nat} {C : CM} (h : L < 4) : f_X6_stop sc (nI (128 + L)) C = some (C (sc + 3) L) := by
  unfold f_X6_stop
  rw [(isLawY h).1, (isLawY h).2, if_neg (by decide), gd_p (inbN h (by decide)), nI_clamp (by omega)]
theorem hasLaw {q sc L : Nat} {C : CM} (hc : C (laI q) 5 = nI sc) (hsc : isSc sc) (h : L < 4) : f_X1_has q (nI (128 + L)) C = some (if C (sc + 3) L ≤ C (sc + 2) L then 0 else 1) := by
  have hs : sc < 446 := by rcases hsc with h | h <;> omega
  unfold f_X1_has
  rw [hc, nI_clamp (by omega), gd_p hsc, gd_p hsc]
  unfold f_X6_has
  rw [(isLawY h).1, (isLawY h).2, if_neg (by decide), gd_p (inbN h (by decide)), gd_p (inbN h (by decide)), nI_clamp (by omega)]
  by_cases c : C (sc + 3) L ≤ C (sc + 2) L
  · rw [if_pos c, if_pos c, bnd_s, if_pos rfl]
  · rw [if_neg c, if_neg c, bnd_s, if_neg (by decide)]
/-- a law with code: run and read in lockstep -/
theorem law_run {q sc L a len fr n : Nat} {C : CM} {O : OM} {dp : Nat → List Bool} (hL : L < 4) (hc : C (laI q) 5 = nI sc) (hsc : isSc sc) (hl : LawC sc C O L a len fr dp)
    (hnm : ∀ t, t < 10 → mayL L t = true → VR false (C (laI q + 1) t) (O.1 471 (nmR t)).toInt64)
    (hn : C (stI q) 0 = nI n) (h7 : n ≤ 7) (hO : O.1 447 0 = nI n) (hv : ∀ i, i < 49 → C (stI q + 4) i = O.1 470 (21 + i)) (hw : WOK (O.1 470)) :
    ∃ C2 O2 x y, f_X1_run q (nI (128 + L)) C = some (x, C2) ∧ f_X12_saysOf (nI fr) O = some (y, O2) ∧ FrS q C C2 ∧ O2.1 = O.1 ∧ VR false x y := by
  obtain ⟨g1, g2, g3, g4, g5, g6, g7, g8, g9, g10⟩ := hl
  have hs : sc < 446 := by rcases hsc with h | h <;> omega
  have hsc' : sc = 383 ∨ sc = 407 ∨ 422 ≤ sc := by rcases hsc with h | h <;> omega
  have hst : stI q ≠ laI q ∧ stI q ≠ laI q + 2 ∧ stI q + 4 ≠ laI q ∧ stI q + 4 ≠ laI q + 2 := by unfold stI laI; split <;> omega
  have hF : FrS q C (up2 C (laI q) 4 0) := FrS.top
  have how : ∀ x y x' y' C1 O1, VR false x x' → VR false y y' → FrS q (up2 C (laI q) 4 0) C1 → O1.1 = O.1 → ∃ z z', f_X7_owed (stI q) x y C1 = some z ∧ f_X12_worked (nI 403) x' y' O1 = some z' ∧ VR false z z' := by
    intro x y x' y' C1 O1 hx hy hf ho
    have hf' := hF.trans hf
    refine owed_both (n := n) ?_ h7 ?_ ?_ ?_ hx hy
    · rw [hf'.1 _ hst.1 hst.2.1]; exact hn
    · rw [ho]; exact hO
    · intro i hi; rw [hf'.1 _ hst.2.2.1 hst.2.2.2, ho]; exact hv i hi
    · rw [ho]; exact hw
  have s1 := la_sc (q := q) hsc' 1 (Or.inl rfl)
  obtain ⟨C2, O2, x, y, r1, r2, r3, r4, r5⟩ := run_both (C := up2 C (laI q) 4 0) (O := O) (dp := dp) (L := L) hsc' (show a + len ≤ 300 by omega) g3 g6 g8 g9 (fun i hi => by rw [up2_ne s1.1]; exact g10 i hi) (fun t a b => by rw [up2_ne (by omega)]; exact hnm t a b) how len 0 FU FU 299 (up2 C (laI q) 4 0) O (by omega) (by unfold FU; omega) (by unfold FU; omega) (by omega) (by decide) FrS.refl rfl (by rw [up2_eq, pk_us, g7]; rfl) (by rw [g7]; exact True.intro)
  refine ⟨C2, O2, x, y, ?_, ?_, hF.trans r3, r4, r5⟩
  · unfold f_X1_run
    have s2 := la_sc (q := q) hsc' 2 (Or.inr (Or.inl rfl))
    have s3 := la_sc (q := q) hsc' 3 (Or.inr (Or.inr rfl))
    rw [hc, nI_clamp (by omega), gd_p hsc, startY hL, bnd_s, stopY hL, bnd_s, up2_ne s2.1, up2_ne s3.1, g4, g5]
    exact r1
  · unfold f_X12_saysOf
    rw [g7] at r2
    exact r2
