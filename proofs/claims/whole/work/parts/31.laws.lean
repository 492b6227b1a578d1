def ScR (q : Nat) (C : CM) (O : OM) : Prop := ∃ sc, C (laI q) 5 = nI sc ∧ isSc sc ∧ ∀ L, L < 4 → LawL sc C O L
def CX (q n : Nat) (C : CM) (O : OM) : Prop := C (stI q) 0 = nI n ∧ PPL n C (O.1 447) ∧ ScR q C O
/-- frame of a law's say -/
def FrL (q : Nat) (C C1 : CM) : Prop := (∀ c, c ≠ laI q → c ≠ laI q + 1 → c ≠ laI q + 2 → C1 c = C c) ∧ ∀ k, k ≠ 4 → C1 (laI q) k = C (laI q) k
theorem FrL.refl {q : Nat} {C : CM} : FrL q C C := ⟨fun _ _ _ _ => rfl, fun _ _ => rfl⟩
theorem FrL.ofN {q : Nat} {C C1 : CM} (h : FrN q C C1) : FrL q C C1 := ⟨fun c _ a _ => h c a, fun k _ => by rw [h (laI q) (by omega)]⟩
theorem FrL.ofS {q : Nat} {C C1 : CM} (h : FrS q C C1) : FrL q C C1 := ⟨fun c a _ b => h.1 c a b, h.2⟩
theorem FrL.trans {q : Nat} {C C1 C2 : CM} (h : FrL q C C1) (h2 : FrL q C1 C2) : FrL q C C2 := ⟨fun c a b d => (h2.1 c a b d).trans (h.1 c a b d), fun k a => (h2.2 k a).trans (h.2 k a)⟩
theorem FrO1.trans {r : Nat} {O O1 O2 : OM} (h : FrO1 r O O1) (h2 : FrO1 r O1 O2) : FrO1 r O O2 := fun c a => (h2 c a).trans (h c a)
theorem FrO1.refl {r : Nat} {O : OM} : FrO1 r O O := fun _ _ => rfl
theorem FrO1.of {r : Nat} {O O1 : OM} (h : O1.1 = O.1) : FrO1 r O O1 := fun c _ => by rw [h]
theorem LawC.mono {sc L a len fr : Nat} {C C1 : CM} {O O1 : OM} {dp : Nat → List Bool} (h : LawC sc C O L a len fr dp) (h1 : C1 (sc + 1) = C (sc + 1)) (h2 : C1 (sc + 2) = C (sc + 2)) (h3 : C1 (sc + 3) = C (sc + 3)) (h4 : O1.1 456 = O.1 456) (h5 : O1.1 457 = O.1 457) : LawC sc C1 O1 L a len fr dp := by
  unfold LawC at h ⊢
  rw [h1, h2, h3, h4, h5]; exact h
/-- what the names are worth in a law -/
theorem names_VR {q L p r gv : Nat} {C C' : CM} {O O' : OM} {n : Nat} (hp : PPL n C (O.1 447)) (hv : VW (stI q) C (O.1 470)) (hw : WOK (O.1 470)) (h1 : p < n) (h2 : r < n)
    (hg : gv ≤ 9999) (hl9 : mayL L 9 = true → O'.1 471 9 = nI gv)
    (c0 : C' (laI q + 1) 0 = C (stI q) 2) (c1 : C' (laI q + 1) 1 = C (stI q + 1) p) (c2 : C' (laI q + 1) 2 = C (stI q) 1) (c3 : C' (laI q + 1) 3 = nI p) (c4 : C' (laI q + 1) 4 = C 2 p) (c9 : C' (laI q + 1) 9 = nI gv)
    (o0 : O'.1 471 0 = O.1 470 70) (o1 : O'.1 471 1 = O.1 470 71) (o2 : O'.1 471 2 = nI p) (o3 : O'.1 471 3 = O.1 447 (10 + p)) (o4 : O'.1 471 4 = O.1 470 p)
    (hx : L ≠ 3 → (C' (laI q + 1) 5 = nI r ∧ C' (laI q + 1) 6 = C 2 r ∧ C' (laI q + 1) 7 = C (stI q + 4) (7 * p + r) ∧ C' (laI q + 1) 8 = C (stI q + 4) (7 * r + p) ∧ O'.1 471 5 = nI r ∧ O'.1 471 6 = O.1 447 (10 + r) ∧ O'.1 471 7 = O.1 470 (21 + 7 * p + r) ∧ O'.1 471 8 = O.1 470 (21 + 7 * r + p))) :
    ∀ t, t < 10 → mayL L t = true → VR false (C' (laI q + 1) t) (O'.1 471 (nmR t)).toInt64 := by
  obtain ⟨h7, hA, hpp⟩ := hp
  obtain ⟨v1, v2, v3, v4, v5, v6, v7⟩ := hv
  obtain ⟨w1, w2, w3, w4, w5, w6, w7, w8, w9⟩ := hw
  have key : ∀ (x y : Int32) (k : Nat), k ≤ 1000000 → x = nI k → y = nI k → VR false x y.toInt64 := by
    intro x y k hk e1 e2
    rw [e1, e2]; exact VR_nI hk
  intro t ht hm
  have ho (hne : L ≠ 3) := hx hne
  match t, ht with
  | 0, _ =>
    obtain ⟨k, hk, e⟩ := w7
    exact key _ _ k (by omega) (by rw [c0, v2, e]) (by show O'.1 471 1 = _; rw [o1, e])
  | 1, _ =>
    obtain ⟨k, hk, e⟩ := w1 p (by omega)
    exact key _ _ k (by omega) (by rw [c1, v4 p (by omega), e]) (by show O'.1 471 4 = _; rw [o4, e])
  | 2, _ =>
    obtain ⟨k, hk, e⟩ := w6
    exact key _ _ k (by omega) (by rw [c2, v1, e]) (by show O'.1 471 0 = _; rw [o0, e])
  | 3, _ => exact key _ _ p (by omega) c3 o2
  | 4, _ =>
    obtain ⟨b1, b2, ⟨k, hk, e⟩, -⟩ := hpp p h1
    exact key _ _ k (by omega) (by rw [c4, e]) (by show O'.1 471 3 = _; rw [o3, ← b1, e])
  | 5, _ =>
    obtain ⟨x5, x6, x7, x8, y5, y6, y7, y8⟩ := ho (by intro e; subst e; cases hm)
    exact key _ _ r (by omega) x5 y5
  | 6, _ =>
    obtain ⟨x5, x6, x7, x8, y5, y6, y7, y8⟩ := ho (by intro e; subst e; cases hm)
    obtain ⟨b1, b2, ⟨k, hk, e⟩, -⟩ := hpp r h2
    exact key _ _ k (by omega) (by rw [x6, e]) (by show O'.1 471 6 = _; rw [y6, ← b1, e])
  | 7, _ =>
    obtain ⟨x5, x6, x7, x8, y5, y6, y7, y8⟩ := ho (by intro e; subst e; cases hm)
    obtain ⟨k, hk, e⟩ := w4 (7 * p + r) (by omega)
    exact key _ _ k (by omega) (by rw [x7, v7 _ (by omega), e]) (by show O'.1 471 7 = _; rw [y7, show 21 + 7 * p + r = 21 + (7 * p + r) by omega, e])
  | 8, _ =>
    obtain ⟨x5, x6, x7, x8, y5, y6, y7, y8⟩ := ho (by intro e; subst e; cases hm)
    obtain ⟨k, hk, e⟩ := w4 (7 * r + p) (by omega)
    exact key _ _ k (by omega) (by rw [x8, v7 _ (by omega), e]) (by show O'.1 471 8 = _; rw [y8, show 21 + 7 * r + p = 21 + (7 * r + p) by omega, e])
  | 9, _ => exact key _ _ gv (by omega) c9 (hl9 hm)
