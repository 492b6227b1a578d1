/-! The reader: between clauses -/
def GR (C C1 : CM) : Prop := (∀ c, c < 404 ∨ 412 < c → C1 c = C c) ∧ C1 404 1 = C 404 1 ∧ C1 405 = C 405
def GQ (O O1 : OM) : Prop := (∀ c, c ≠ 446 → (c < 458 ∨ 469 < c) → O1.1 c = O.1 c) ∧ (∀ k, k < 14 ∨ 37 < k → O1.1 446 k = O.1 446 k) ∧ O1.2 = O.2
theorem GR.refl {C : CM} : GR C C := ⟨fun _ _ => rfl, rfl, rfl⟩
theorem GQ.refl {O : OM} : GQ O O := ⟨fun _ _ _ => rfl, fun _ _ => rfl, rfl⟩
theorem GR.trans {C C1 C2 : CM} (h : GR C C1) (g : GR C1 C2) : GR C C2 := ⟨fun c a => (g.1 c a).trans (h.1 c a), g.2.1.trans h.2.1, g.2.2.trans h.2.2⟩
theorem GQ.trans {O O1 O2 : OM} (h : GQ O O1) (g : GQ O1 O2) : GQ O O2 := ⟨fun c a b => (g.1 c a b).trans (h.1 c a b), fun k a => (g.2.1 k a).trans (h.2.1 k a), g.2.2.trans h.2.2⟩
theorem GR.p {C C1 : CM} (h : FrP C C1) : GR C C1 := ⟨fun c a => h.1 c (by omega) (by omega) (by omega) (by omega), h.2.1, h.1 405 (by decide) (by decide) (by decide) (by decide)⟩
theorem GQ.q {O O1 : OM} (h : FrQ O O1) : GQ O O1 := ⟨fun c a b => h.1 c a (by omega) (by omega) (by omega), fun k a => h.2.1 k (by omega) (by omega), h.2.2⟩
theorem GR.n {C C1 : CM} (h : FC4 C C1) : GR C C1 := GR.p (FrP.of4 h)
theorem GQ.n {O O1 : OM} (h : FO6 O O1) : GQ O O1 := GQ.q (FrQ.of6 h)
theorem GR.u {C : CM} {c k : Nat} {x : Int32} (h : 406 ≤ c) (h2 : c ≤ 412) : GR C (up2 C c k x) := ⟨fun j a => up2_ne (by omega), by rw [up2_ne (by omega)], up2_ne (by omega)⟩
theorem GQ.o {O : OM} {c k : Nat} {x : Int32} (h : (c = 446 ∧ 14 ≤ k ∧ k ≤ 37) ∨ (458 ≤ c ∧ c ≤ 469)) : GQ O (oup O c k x) := by
  refine ⟨fun j a b => oup_ne (by omega), fun j a => ?_, rfl⟩
  by_cases e : c = 446
  · subst e
    exact o2n (by omega)
  · rw [oup_ne (fun x => e x.symm)]
theorem GR.x {nc : Nat} {C C1 : CM} {O O1 : OM} (h : DX nc C O C1 O1) : GR C C1 := ⟨fun c a => h.1 c (by omega) (by omega) (by omega), h.2.1, h.1 405 (by decide) (by decide) (by decide)⟩
theorem GQ.x {nc : Nat} {C C1 : CM} {O O1 : OM} (h : DX nc C O C1 O1) : GQ O O1 := ⟨fun c a b => h.2.2.2.2.1 c a (by omega) (by omega) (by omega), fun k a => h.2.2.2.2.2.1 k (by omega), h.2.2.2.2.2.2.2⟩
/-- both in the same fault -/
def EG (A : Nat) (C : CM) (O : OM) (C1 : CM) : Prop := ∃ O1 v, RC A O 0 O1 ∧ 1 ≤ v ∧ v ≤ 6 ∧ C1 406 1 = nI v ∧ O1.1 446 19 = nI v ∧ O1.1 446 20 = C1 406 2 ∧ GR C C1 ∧ GQ O O1
def TCl (i : Nat) (C : CM) (O : OM) : Prop := ∃ w, w < 12 ∧ C 411 i = nI (128 + w) ∧ O.1 463 i = nI w ∧ (∀ j, j < 3 → used w j = true → C 412 (3 * i + j) = O.1 (465 + j) i) ∧ (w = 11 → ∃ v, v ≤ 60 ∧ O.1 465 i = nI v)
def TLa (q nc a fr : Nat) (C : CM) (O : OM) : Prop := (C 410 q = C 409 q ∧ ∀ i, i < nc → O.1 463 i ≠ nI q) ∨
  ∃ i a' len fr' dp, i < nc ∧ O.1 463 i = nI q ∧ (∀ i', i' < nc → i' ≠ i → O.1 463 i' ≠ nI q) ∧ O.1 464 i = nI fr' ∧ 0 < len ∧ a' + len ≤ a ∧ fr' + len < fr ∧ C 409 q = nI a' ∧ C 410 q = nI (a' + len) ∧ O.1 468 (fr' + len) = nI 408 ∧ dp 0 = [] ∧ dp len = [false] ∧ (∀ i, i ≤ len → (dp i).length ≤ 64) ∧ ∀ i, i < len → Ins a' fr' i len q dp (C 408 (a' + i)) (O.1 468 (fr' + i)) (O.1 469 (fr' + i))
def CLZ (L : Nat) (b : Nat → Nat) (s a nc : Nat) (C : CM) (O : OM) : Prop :=
  TS L b s C O ∧ (C 406 1 = 0 ∧ C 406 2 = -1 ∧ O.1 446 19 = 0 ∧ O.1 446 20 = -1) ∧ (O.1 446 28 = nI 4 ∧ O.1 446 21 = nI 0 ∧ O.1 446 22 = nI 0 ∧ O.1 446 25 = nI 0) ∧ (C 407 5 = nI a ∧ C 407 6 = nI nc ∧ O.1 446 30 = nI nc ∧ O.1 446 37 = nI (a + nc)) ∧ (nc ≤ 24 ∧ a ≤ s ∧ (0 < nc → a + 2 ≤ s)) ∧ (∀ i, i < nc → TCl i C O) ∧ ∀ q, q < 4 → TLa q nc a (a + nc) C O
theorem TCl.mono {i nc : Nat} {C C1 : CM} {O O1 : OM} (h : TCl i C O) (hi : i < nc) (h11 : ∀ k, k ≠ nc → C1 411 k = C 411 k) (h12 : ∀ k, k < 3 * nc → C1 412 k = C 412 k) (o3 : ∀ k, k ≠ nc → O1.1 463 k = O.1 463 k) (o5 : ∀ c k, k < nc → c = 465 ∨ c = 466 ∨ c = 467 → O1.1 c k = O.1 c k) : TCl i C1 O1 := by
  obtain ⟨w, h1, h2, h3, h4, h5⟩ := h
  exact ⟨w, h1, by rw [h11 i (by omega)]; exact h2, by rw [o3 i (by omega)]; exact h3, fun j hj hu => by rw [h12 _ (by omega), o5 _ i hi (by omega)]; exact h4 j hj hu, fun e => by rw [o5 465 i hi (Or.inl rfl)]; exact h5 e⟩
theorem TLa.mono {q nc a fr a1 fr1 : Nat} {C C1 : CM} {O O1 : OM} (h : TLa q nc a fr C O) (ha : a ≤ a1) (hf : fr ≤ fr1) (h9 : C1 409 q = C 409 q) (h10 : C1 410 q = C 410 q) (h8 : ∀ j, j < a → C1 408 j = C 408 j) (o3 : ∀ k, k ≠ nc → O1.1 463 k = O.1 463 k ∧ O1.1 464 k = O.1 464 k) (o3n : O1.1 463 nc ≠ nI q) (o8 : ∀ j, j < fr → O1.1 468 j = O.1 468 j ∧ O1.1 469 j = O.1 469 j) : TLa q (nc + 1) a1 fr1 C1 O1 := by
  rcases h with ⟨g1, g2⟩ | ⟨i, a', len, fr', dp, g1, g2, g3, g4, g5, g6, g7, g8, g9, g10, g11, g12, g13, g14⟩
  · refine Or.inl ⟨by rw [h9, h10]; exact g1, fun i hi => ?_⟩
    by_cases e : i = nc
    · subst e; exact o3n
    · rw [(o3 i e).1]; exact g2 i (by omega)
  · refine Or.inr ⟨i, a', len, fr', dp, by omega, by rw [(o3 i (by omega)).1]; exact g2, fun i' hi' hne => ?_, by rw [(o3 i (by omega)).2]; exact g4, g5, by omega, by omega, by rw [h9]; exact g8, by rw [h10]; exact g9, by rw [(o8 _ g7).1]; exact g10, g11, g12, g13, fun j hj => by rw [h8 _ (by omega), (o8 _ (by omega)).1, (o8 _ (by omega)).2]; exact g14 j hj⟩
    by_cases e : i' = nc
    · subst e; exact o3n
    · rw [(o3 i' e).1]; exact g3 i' (by omega) hne
theorem wm_big : ∀ w, w < 32 → (w < 12 ∧ wm w = w) ∨ (12 ≤ w ∧ 11 < wm w) := by decide
/-- what a clause begins with -/
theorem word_cs {L s : Nat} {b : Nat → Nat} {C : CM} {O : OM} (ts : TS L b s C O) : (∃ w, w < 12 ∧ C 404 2 = nI (128 + w) ∧ O.1 446 17 = 1 ∧ O.1 446 18 = nI w) ∨ (f_X11_within (C 404 2) 128 139 = 0 ∧ (O.1 446 17 = 1 → ¬ O.1 446 18 ≤ 11)) := by
  rcases ts.tk with ⟨a, a1⟩ | ⟨w, a1, a2, a3, a4⟩ | ⟨v, _, a, _, a1, _⟩ | ⟨a, a1 | ⟨a1, a2⟩⟩ | ⟨g, o, a1, a2, a3, a4⟩
  · exact Or.inr ⟨by rw [a]; decide, fun e => by rw [a1] at e; exact absurd e (by decide)⟩
  · rcases wm_big w a1 with ⟨c, c2⟩ | ⟨c, c2⟩
    · exact Or.inl ⟨w, c, a2, a3, by rw [a4, c2]⟩
    · refine Or.inr ⟨by rw [a2]; exact (wi_o (lo := 128) (hi := 139) (by omega) (by omega) (by decide)).1, fun _ => ?_⟩
      have := wm_lt a1
      rw [a4]
      exact nI_ge c2 (by omega)
  · exact Or.inr ⟨by rw [a]; decide, fun e => by rw [a1] at e; exact absurd e (by decide)⟩
  · exact Or.inr ⟨by rw [a]; decide, fun e => by rw [a1] at e; exact absurd e (by decide)⟩
  · exact Or.inr ⟨by rw [a]; decide, fun e => by rw [a1] at e; exact absurd e (by decide)⟩
  · have h2 : g < 128 := (sgn_a _ a1).2.2.2.1
    exact Or.inr ⟨by rw [a2]; exact (wi_o (lo := 128) (hi := 139) (by omega) (by omega) (by decide)).1, fun e => by rw [a3] at e; exact absurd e (by decide)⟩
theorem told_1 {O : OM} {nc : Nat} {x : Int32} (h : O.1 446 30 = nI nc) (hnc : nc ≤ 24) : ∀ d i n, i + d = nc → d < n → X12_wasTold_l4 n x 1 (nI i) O = some 1 := by
  intro d
  induction d with
  | zero =>
    intro i n hi hn
    obtain ⟨n, rfl⟩ : ∃ j, n = j + 1 := ⟨n - 1, by omega⟩
    rw [X12_wasTold_l4, h, if_pos (nI_le (by omega) (by omega)), gd_p (by decide)]
  | succ d ih =>
    intro i n hi hn
    obtain ⟨n, rfl⟩ : ∃ j, n = j + 1 := ⟨n - 1, by omega⟩
    rw [X12_wasTold_l4, h, if_neg (nI_ge (by omega) (by omega)), if_neg (by decide)]
    unfold X12_wasTold_j26 X12_wasTold_j31
    rw [nI_1]
    exact ih (i + 1) n (by omega) (by omega)
theorem told_0 {O : OM} {nc : Nat} {x : Int32} (h : O.1 446 30 = nI nc) (hnc : nc ≤ 24) : ∀ d i n, i + d = nc → d < n → (∀ j, i ≤ j → j < nc → O.1 463 j ≠ x) → X12_wasTold_l4 n x 0 (nI i) O = some 0 := by
  intro d
  induction d with
  | zero =>
    intro i n hi hn _
    obtain ⟨n, rfl⟩ : ∃ j, n = j + 1 := ⟨n - 1, by omega⟩
    rw [X12_wasTold_l4, h, if_pos (nI_le (by omega) (by omega)), gd_p (by decide)]
  | succ d ih =>
    intro i n hi hn hne
    obtain ⟨n, rfl⟩ : ∃ j, n = j + 1 := ⟨n - 1, by omega⟩
    rw [X12_wasTold_l4, h, if_neg (nI_ge (by omega) (by omega)), if_pos rfl, gd_p (inbN (by omega) (by decide)), nI_clamp (by omega), if_neg (hne i (Nat.le_refl _) (by omega))]
    unfold X12_wasTold_j31
    rw [nI_1]
    exact ih (i + 1) n (by omega) (by omega) (fun j a b => hne j (by omega) b)
theorem told_y {O : OM} {nc i0 : Nat} {x : Int32} (h : O.1 446 30 = nI nc) (hnc : nc ≤ 24) (h0 : i0 < nc) (hx : O.1 463 i0 = x) : ∀ d i n, i + d = nc → d < n → i ≤ i0 → X12_wasTold_l4 n x 0 (nI i) O = some 1 := by
  intro d
  induction d with
  | zero => intro i n hi hn hi0; omega
  | succ d ih =>
    intro i n hi hn hi0
    obtain ⟨n, rfl⟩ : ∃ j, n = j + 1 := ⟨n - 1, by omega⟩
    rw [X12_wasTold_l4, h, if_neg (nI_ge (by omega) (by omega)), if_pos rfl, gd_p (inbN (by omega) (by decide)), nI_clamp (by omega)]
    by_cases c : O.1 463 i = x
    · rw [if_pos c]
      unfold X12_wasTold_j26 X12_wasTold_j31
      rw [nI_1]
      exact told_1 h hnc d (i + 1) n (by omega) (by omega)
    · rw [if_neg c]
      unfold X12_wasTold_j31
      rw [nI_1]
      have : i ≠ i0 := fun e => c (by rw [e]; exact hx)
      exact ih (i + 1) n (by omega) (by omega) (by omega)
theorem has_v {C : CM} {w : Nat} (hw : w < 4) : f_X6_has 407 (nI (128 + w)) C = some (if C 410 w ≤ C 409 w then 0 else 1) := by
  unfold f_X6_has
  rw [(isLawY hw).1, (isLawY hw).2, if_neg (by decide), gd_p (inbN hw (by decide)), gd_p (inbN hw (by decide)), nI_clamp (by omega)]
  by_cases c : C 410 w ≤ C 409 w
  · rw [if_pos c, if_pos c]
  · rw [if_neg c, if_neg c]
theorem isLaw_n : ∀ w, w < 12 → 4 ≤ w → f_X11_isLaw (nI (128 + w)) = 0 := by decide
/-- a law told before, on both sides -/
theorem told_b {q nc a fr : Nat} {C : CM} {O : OM} (h : TLa q nc a fr C O) (hq : q < 4) (hnc : nc ≤ 24) (ha : a ≤ 300) (h30 : O.1 446 30 = nI nc) : ∃ r, (r = 0 ∨ r = 1) ∧ f_X6_has 407 (nI (128 + q)) C = some r ∧ f_X12_wasTold (nI q) O = some r ∧ (r = 0 → ∀ i, i < nc → O.1 463 i ≠ nI q) := by
  rw [has_v hq]
  unfold f_X12_wasTold
  rcases h with ⟨g1, g2⟩ | ⟨i, a', len, fr', dp, g1, g2, g3, g4, g5, g6, g7, g8, g9, g10, g11, g12, g13, g14⟩
  · exact ⟨0, Or.inl rfl, by rw [if_pos (by rw [g1]; exact Int32.le_refl _)], told_0 h30 hnc nc 0 FU (by omega) (by unfold FU; omega) (fun j _ hj => g2 j hj), fun _ => g2⟩
  · exact ⟨1, Or.inr rfl, by rw [if_neg (by rw [g8, g9]; exact nI_ge (by omega) (by omega))], told_y h30 hnc g1 g2 nc 0 FU (by omega) (by unfold FU; omega) (Nat.zero_le _), fun e => absurd e (by decide)⟩
/-- a clause's end on the reference's side -/
theorem cio_v {O O2 : OM} {no nc : Nat} (hw : f_X12_works 1 O = some O2) (h37 : O2.1 446 37 = nI no) (hno : no < 400) (h30 : O2.1 446 30 = nI nc) :
    f_X12_clauseIsOver O = bnd (f_X12_next (oup (oup (oup (oup (oup O2 446 22 0) 468 no 408) 469 no 0) 446 37 (nI (no + 1))) 446 30 (nI (nc + 1)))) (fun O3 => some (oup O3 446 28 4)) := by
  unfold f_X12_clauseIsOver
  rw [hw, bnd_s, emits_v (O := oup O2 446 22 0) (no := no) (by rw [o2n (by decide)]; exact h37) hno, bnd_s, o2n (show (30 : Nat) ≠ 37 by decide), oup_ne (show (446 : Nat) ≠ 469 by decide), oup_ne (show (446 : Nat) ≠ 468 by decide), o2n (show (30 : Nat) ≠ 22 by decide), h30, nI_1]
