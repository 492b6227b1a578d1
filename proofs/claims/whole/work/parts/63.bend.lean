/-! Sums, necks bent, sets counted: the class -/
def sI (F : Nat → Int32) : Nat → Int32
  | 0 => 0
  | k + 1 => sI F k + F k
theorem sI_congr {F F' : Nat → Int32} : ∀ k, (∀ q, q < k → F q = F' q) → sI F k = sI F' k := by
  intro k
  induction k with
  | zero => intro _; rfl
  | succ k ih =>
    intro h
    show sI F k + F k = sI F' k + F' k
    rw [ih (fun q hq => h q (by omega)), h k (by omega)]
theorem sI_upd {F F' : Nat → Int32} {x : Nat} {δ : Int32} (hx : F' x = F x + δ) : ∀ k, (∀ q, q < k → q ≠ x → F' q = F q) → sI F' k = sI F k + (if x < k then δ else 0) := by
  intro k
  induction k with
  | zero => intro _; rw [if_neg (by omega)]; rfl
  | succ k ih =>
    intro h
    have ih := ih (fun q hq => h q (by omega))
    show sI F' k + F' k = sI F k + F k + _
    by_cases e : k = x
    · subst e
      rw [hx, ih, if_neg (show ¬ k < k by omega), if_pos (show k < k + 1 by omega), Int32.add_zero, Int32.add_assoc]
    · rw [h k (by omega) e, ih]
      by_cases c : x < k
      · rw [if_pos c, if_pos (show x < k + 1 by omega), Int32.add_assoc, Int32.add_assoc, Int32.add_comm δ]
      · rw [if_neg c, if_neg (show ¬ x < k + 1 by omega), Int32.add_zero, Int32.add_zero]
def BE (w : Nat → Nat → Int32) (k S p : Nat) : Int32 := sI (fun q => if q ≠ p ∧ bt S (jx k p q) = true then w p q else 0) k
def BF (w : Nat → Nat → Int32) (k S p : Nat) : Int32 := sI (fun q => if q ≠ p ∧ bt S (tw p q) = true then w p q else 0) k
theorem BE_BF (w : Nat → Nat → Int32) {k i p : Nat} (hk : k < 6) (hi : i < 2 ^ mm k) (hp : p < k) : BE w k (Gr i) p = BF w k (pim k i) p := by
  refine sI_congr k (fun q hq => ?_)
  by_cases e : q = p
  · rw [if_neg (fun h => h.1 e), if_neg (fun h => h.1 e)]
  · obtain ⟨a1, -⟩ := tb6a k hk p hp q hq (fun h => e h.symm)
    have a2 := gb3 k hk i hi _ a1
    rw [tb6c k hk p hp q hq (fun h => e h.symm)] at a2
    rw [a2]
theorem BE_0 (w : Nat → Nat → Int32) (k p : Nat) : BE w k 0 p = 0 := by
  have : ∀ j, sI (fun q => if q ≠ p ∧ bt 0 (jx k p q) = true then w p q else 0) j = 0 := by
    intro j
    induction j with
    | zero => rfl
    | succ j ih =>
      show sI _ j + (if j ≠ p ∧ bt 0 (jx k p j) = true then w p j else 0) = 0
      rw [ih, if_neg (fun h => by have := h.2; unfold bt at this; rw [Nat.zero_div] at this; exact absurd this (by decide))]; rfl
  exact this k
theorem Int32_neg1 (x : Int32) : (-1 : Int32) * x = -x := (Int32.neg_mul 1 x).trans (congrArg (fun z => -z) (Int32.one_mul x))
/-- one two more or less -/
theorem BE_flip (w : Nat → Nat → Int32) {k c S S' p : Nat} {sg : Int32} (hk : k < 6) (hc : c < mm k) (hp : p < k) (hb : bt S' c = !bt S c) (ho : ∀ j, j < 10 → j ≠ c → bt S' j = bt S j) (hs : sg = if bt S' c then 1 else -1) :
    BE w k S' p = BE w k S p + (if p = lo k c then sg * w p (hgh k c) else if p = hgh k c then sg * w p (lo k c) else 0) := by
  obtain ⟨t1, t2, t3⟩ := tb4 k hk c hc
  have hm := (tb3 k hk).2.2
  have key : ∀ x, x < k → x ≠ p → jx k p x = c → BE w k S' p = BE w k S p + sg * w p x := by
    intro x hx hxp hj
    have := sI_upd (F := fun q => if q ≠ p ∧ bt S (jx k p q) = true then w p q else 0) (F' := fun q => if q ≠ p ∧ bt S' (jx k p q) = true then w p q else 0) (x := x) (δ := sg * w p x) (by
      show (if x ≠ p ∧ bt S' (jx k p x) = true then w p x else 0) = (if x ≠ p ∧ bt S (jx k p x) = true then w p x else 0) + sg * w p x
      rw [hj, hb, hs, hb]
      cases hbs : bt S c
      · rw [if_pos ⟨hxp, rfl⟩, if_neg (fun h => absurd h.2 (by decide)), if_pos (show (!false) = true from rfl), Int32.one_mul, Int32.zero_add]
      · rw [if_neg (fun h => absurd h.2 (by decide)), if_pos ⟨hxp, rfl⟩, if_neg (show ¬ (!true) = true by decide), Int32_neg1, Int32.add_right_neg]) k (fun q hq hne => by
      show (if q ≠ p ∧ bt S' (jx k p q) = true then w p q else 0) = (if q ≠ p ∧ bt S (jx k p q) = true then w p q else 0)
      by_cases e : q = p
      · rw [if_neg (fun h => h.1 e), if_neg (fun h => h.1 e)]
      · have hl := (tb6a k hk p hp q hq (fun h => e h.symm)).1
        have hjc : jx k p q ≠ c := by
          intro h
          have a1 := (tb5 k hk c hc p hp q hq (fun h => e h.symm)).mp h
          have a2 := (tb5 k hk c hc p hp x hx (fun h => hxp h.symm)).mp hj
          omega
        rw [ho _ (by omega) hjc])
    rw [if_pos hx] at this
    exact this
  by_cases e1 : p = lo k c
  · rw [if_pos e1]
    exact key _ t2 (by omega) ((tb5 k hk c hc p hp _ t2 (by omega)).mpr (Or.inl ⟨e1, rfl⟩))
  · rw [if_neg e1]
    by_cases e2 : p = hgh k c
    · rw [if_pos e2]
      exact key _ (by omega) (by omega) ((tb5 k hk c hc p hp _ (by omega) (by omega)).mpr (Or.inr ⟨e2, rfl⟩))
    · rw [if_neg e2, Int32.add_zero]
      refine sI_congr k (fun q hq => ?_)
      by_cases e : q = p
      · rw [if_neg (fun h => h.1 e), if_neg (fun h => h.1 e)]
      · have hl := (tb6a k hk p hp q hq (fun h => e h.symm)).1
        have hjc : jx k p q ≠ c := by
          intro h
          have a1 := (tb5 k hk c hc p hp q hq (fun h => e h.symm)).mp h
          omega
        rw [ho _ (by omega) hjc]
theorem wi5 {a b : Nat} (h : a ≤ b) (hb : b < 1000) : f_X11_within (nI a) 0 (nI b) = 1 := by
  unfold f_X11_within
  rw [if_neg (nI_pos (by omega)), if_neg (nI_nlt h (by omega))]
theorem bendC {n k c : Nat} {C : CM} {w : Nat → Nat → Int32} {sg : Int32} (hn : n ≤ 7) (h0 : C 6 0 = nI n) (hk : k < 6) (hkn : k ≤ n) (hc : c < mm k) (hE : EN k 0 C ∨ True) (e1 : C 418 c = nI (lo k c)) (e2 : C 419 c = nI (hgh k c)) (hw : ∀ p q, p < 7 → q < 7 → C 10 (7 * p + q) = w p q) :
    ∃ C1, f_X2_bend 6 (nI c) sg C = some C1 ∧ (∀ d, d ≠ 421 → C1 d = C d) ∧ ∀ p, C1 421 p = C 421 p + (if p = lo k c then sg * w p (hgh k c) else if p = hgh k c then sg * w p (lo k c) else 0) := by
  obtain ⟨t1, t2, t3⟩ := tb4 k hk c hc
  have hm := (tb3 k hk).2.2
  obtain ⟨a, ha⟩ : ∃ a, a = lo k c := ⟨_, rfl⟩
  obtain ⟨b, hb⟩ : ∃ b, b = hgh k c := ⟨_, rfl⟩
  rw [← ha] at e1 t1 ⊢
  rw [← hb] at e2 t1 t2 ⊢
  have o1 : f_X7_owed 6 (nI a) (nI b) C = some (w a b) := (owedY (s := 6) h0 hn (by omega) (by omega)).trans (congrArg some (hw a b (by omega) (by omega)))
  obtain ⟨D, hD⟩ : ∃ D, D = up2 C 421 a (C 421 a + sg * w a b) := ⟨_, rfl⟩
  have o2 : f_X7_owed 6 (nI b) (nI a) D = some (w b a) := by
    rw [owedY (s := 6) (by rw [hD, up2_ne (by decide)]; exact h0) hn (by omega) (by omega), hD, up2_ne (by decide)]
    exact congrArg some (hw b a (by omega) (by omega))
  refine ⟨up2 D 421 b (D 421 b + sg * w b a), ?_, fun d hd => by rw [up2_ne hd, hD, up2_ne hd], fun p => ?_⟩
  · unfold f_X2_bend
    rw [show (9 : Int32) = nI 9 from rfl, show (4 : Int32) = nI 4 from rfl, wi5 (show c ≤ 9 by omega) (by decide), if_neg n10, gd_p (inbN (by omega) (by decide)), gd_p (inbN (by omega) (by decide)), nI_clamp (by omega), e1, e2, wi5 (show a ≤ 4 by omega) (by decide), if_neg n10, wi5 (show b ≤ 4 by omega) (by decide), if_neg n10, gd_p (inbN (by omega) (by decide)), o1, bnd_s, gd_p (inbN (by omega) (by decide)), gd_p (inbN (by omega) (by decide)), nI_clamp (by omega), ← hD, o2, bnd_s, gd_p (inbN (by omega) (by decide)), nI_clamp (by omega)]
  · rw [up2_eq]
    by_cases ea : p = a
    · rw [if_pos ea, pk_un (by omega), hD, up2_eq, ea, pk_us]
    · rw [if_neg ea]
      by_cases eb : p = b
      · rw [if_pos eb, eb, pk_us, hD, up2_eq, pk_un (by omega)]
      · rw [if_neg eb, pk_un eb, hD, up2_eq, pk_un ea, Int32.add_zero]
theorem explC {C : CM} : ∀ d i f, i + d = 5 → d < f → ((∀ p, i ≤ p → p < 5 → C 12 p = -1 ∨ C 12 p = C 421 p) → X2_explains_l2 12 f (nI i) C = some 1) ∧ ((∃ p, i ≤ p ∧ p < 5 ∧ ¬ (C 12 p = -1 ∨ C 12 p = C 421 p)) → X2_explains_l2 12 f (nI i) C = some 0) := by
  intro d
  induction d with
  | zero =>
    intro i f hi hf
    obtain ⟨f, rfl⟩ : ∃ j, f = j + 1 := ⟨f - 1, by omega⟩
    have : i = 5 := by omega
    subst this
    refine ⟨fun _ => ?_, fun ⟨p, h1, h2, _⟩ => by omega⟩
    rw [X2_explains_l2, show (5 : Int32) = nI 5 from rfl, if_pos (Int32.le_refl _)]
  | succ d ih =>
    intro i f hi hf
    obtain ⟨f, rfl⟩ : ∃ j, f = j + 1 := ⟨f - 1, by omega⟩
    obtain ⟨i1, i2⟩ := ih (i + 1) f (by omega) (by omega)
    have hb : ¬ nI 5 ≤ nI i := nI_ge (by omega) (by decide)
    rw [X2_explains_l2, show (5 : Int32) = nI 5 from rfl, if_neg hb, if_neg hb, gd_p (inbN (by omega) (by decide)), gd_p (inbN (by omega) (by decide)), gd_p (inbN (by omega) (by decide)), nI_clamp (by omega)]
    simp only [X2_explains_j34, nI_1]
    by_cases c1 : C 12 i = -1
    · rw [if_pos c1]
      refine ⟨fun h => i1 (fun p h1 h2 => h p (by omega) h2), fun ⟨p, h1, h2, h3⟩ => i2 ⟨p, ?_, h2, h3⟩⟩
      by_cases e : p = i
      · subst e; exact absurd (Or.inl c1) h3
      · omega
    · rw [if_neg c1]
      by_cases c2 : C 12 i = C 421 i
      · rw [if_pos c2]
        refine ⟨fun h => i1 (fun p h1 h2 => h p (by omega) h2), fun ⟨p, h1, h2, h3⟩ => i2 ⟨p, ?_, h2, h3⟩⟩
        by_cases e : p = i
        · subst e; exact absurd (Or.inr c2) h3
        · omega
      · rw [if_neg c2]
        refine ⟨fun h => ?_, fun _ => rfl⟩
        rcases h i (Nat.le_refl _) (by omega) with h | h
        · exact absurd h c1
        · exact absurd h c2
theorem countC {m S : Nat} (hm : m ≤ 10) (hS : S < 2 ^ 31) : ∀ d j f C, j + d = m → d < f → C 417 1 = nI m → ∃ C1, X2_count_l12 f (nI S) (nI j) C = some C1 ∧ (∀ c, c ≠ 420 → C1 c = C c) ∧ (∀ i, j ≤ i → i < m → C1 420 i = C 420 i + (if bt S i then 1 else 0)) ∧ ∀ i, i < j → C1 420 i = C 420 i := by
  intro d
  induction d with
  | zero =>
    intro j f C hj hf h1
    obtain ⟨f, rfl⟩ : ∃ j, f = j + 1 := ⟨f - 1, by omega⟩
    have : j = m := by omega
    subst this
    rw [X2_count_l12, h1, if_pos (Int32.le_refl _)]
    exact ⟨C, rfl, fun _ _ => rfl, fun i a b => absurd a (by omega), fun _ _ => rfl⟩
  | succ d ih =>
    intro j f C hj hf h1
    obtain ⟨f, rfl⟩ : ∃ j, f = j + 1 := ⟨f - 1, by omega⟩
    rw [X2_count_l12, h1, if_neg (nI_ge (by omega) (by omega)), show (10 : Int32) = nI 10 from rfl, if_neg (nI_ge (by omega) (by decide)), gd_p (inbN (by omega) (by decide)), gd_p (inbN (by omega) (by decide)), nI_clamp (by omega), bt_cls hS (by omega), nI_1]
    obtain ⟨C1, r1, r2, r3, r4⟩ := ih (j + 1) f (up2 C 420 j (C 420 j + (if bt S j then 1 else 0))) (by omega) (by omega) (by rw [up2_ne (by decide)]; exact h1)
    refine ⟨C1, r1, fun c hc => by rw [r2 c hc, up2_ne hc], fun i a b => ?_, fun i a => by rw [r4 i (by omega), up2_eq, pk_un (by omega)]⟩
    by_cases e : i = j
    · subst e; rw [r4 i (by omega), up2_eq, pk_us]
    · rw [r3 i (by omega) b, up2_eq, pk_un e]
theorem cperm (f : Nat → Nat) {π ρ : Nat → Nat} {N : Nat} (h1 : ∀ i, i < N → π i < N ∧ ρ (π i) = i) (h2 : ∀ S, S < N → ρ S < N ∧ π (ρ S) = S) : sN (fun i => f (π i)) N = sN f N := by
  have swap : ∀ (F : Nat → Nat → Nat) a b, sN (fun i => sN (fun S => F i S) b) a = sN (fun S => sN (fun i => F i S) a) b := by
    intro F a b
    induction a with
    | zero =>
      have : sN (fun S => sN (fun i => F i S) 0) b = 0 := sN_zero b (fun _ _ => rfl)
      rw [this]; rfl
    | succ a ih =>
      show sN (fun i => sN (fun S => F i S) b) a + sN (fun S => F a S) b = sN (fun S => sN (fun i => F i S) a + F a S) b
      rw [ih, sN_add]
  have e1 : sN (fun i => f (π i)) N = sN (fun i => sN (fun S => if S = π i then f S else 0) N) N := by
    refine sN_congr N (fun i hi => ?_)
    have : sN (fun S => if S = π i then f S else 0) N = sN (fun S => if S = π i then f (π i) else 0) N := sN_congr N (fun S _ => by
      show (if S = π i then f S else 0) = (if S = π i then f (π i) else 0)
      by_cases e : S = π i
      · rw [if_pos e, if_pos e, e]
      · rw [if_neg e, if_neg e])
    show f (π i) = _
    rw [this, sN_one, if_pos (h1 i hi).1]
  rw [e1, swap]
  refine sN_congr N (fun S hS => ?_)
  have : sN (fun i => if S = π i then f S else 0) N = sN (fun i => if i = ρ S then f S else 0) N := sN_congr N (fun i hi => by
    show (if S = π i then f S else 0) = (if i = ρ S then f S else 0)
    by_cases e : S = π i
    · rw [if_pos e, if_pos (by rw [e]; exact (h1 i hi).2.symm)]
    · rw [if_neg e, if_neg (fun h => e (by rw [h]; exact (h2 S hS).2.symm))])
  rw [this, sN_one, if_pos (h2 S hS).1]
