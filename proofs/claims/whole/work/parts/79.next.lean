/-! Tokens: numbers, signs, the next token on both sides -/
def SGN : List (Nat × Nat) := [(40, 40), (41, 41), (42, 42), (43, 43), (45, 45), (47, 47), (59, 59), (60, 60), (61, 61), (62, 62), (35, 35), (4, 300), (5, 301)]
def sg (x : Nat) : Nat := if (x, x) ∈ SGN ∧ x ≠ 4 ∧ x ≠ 5 then x else 0
def soB (x : Nat) : Bool := (decide (59 ≤ x) && decide (x ≤ 62)) || (decide (40 ≤ x) && decide (x ≤ 45)) || decide (x = 47) || decide (x = 35)
theorem sg_C : ∀ x, x < 256 → (if ixs1 (((nI x).toUInt32 % 65536).toInt32) < 0 then (0 : Int32) else nI x) = nI (sg x) := by decide +kernel
theorem so_1 : ∀ x, x < 256 → soB x = true → (¬ f_X12_in (yb x) 59 62 = 0 ∨ ¬ f_X12_in (yb x) 40 45 = 0 ∨ yb x = 47 ∨ yb x = 35) := by decide +kernel
theorem so_0 : ∀ x, x < 256 → soB x = false → (f_X12_in (yb x) 59 62 = 0 ∧ f_X12_in (yb x) 40 45 = 0 ∧ ¬ yb x = 47 ∧ ¬ yb x = 35) := by decide +kernel
theorem sg_so : ∀ x, x < 256 → ((sg x = 0 ∧ (soB x = false ∨ x = 44)) ∨ ((x, x) ∈ SGN ∧ sg x = x ∧ soB x = true ∧ x < 128)) := by decide +kernel
theorem yb_60 : ∀ x, x < 256 → ((yb x = 60 ↔ x = 60) ∧ (yb x = 62 ↔ x = 62) ∧ (yb x = 61 ↔ x = 61)) := by decide +kernel
def TK (tk vl so ti : Int32) : Prop :=
  (tk = 1 ∧ so = 0) ∨ (∃ w, w < 32 ∧ tk = nI (128 + w) ∧ so = 1 ∧ ti = nI (wm w)) ∨ (∃ v, v < 10000000 ∧ tk = 2 ∧ vl = nI (min v 10000) ∧ so = 2 ∧ ti = nI v) ∨
  (tk = 0 ∧ (so = 4 ∨ (so = 3 ∧ ti = 44))) ∨ (∃ g o, (g, o) ∈ SGN ∧ tk = nI g ∧ so = 3 ∧ ti = nI o)
def FC4 (C C1 : CM) : Prop := (∀ c, c ≠ 404 → C1 c = C c) ∧ C1 404 1 = C 404 1
def FO6 (O O1 : OM) : Prop := (∀ c, c ≠ 446 → O1.1 c = O.1 c) ∧ (∀ k, k < 15 ∨ 18 < k → O1.1 446 k = O.1 446 k) ∧ O1.2 = O.2
theorem FC4.refl {C : CM} : FC4 C C := ⟨fun _ _ => rfl, rfl⟩
theorem FO6.refl {O : OM} : FO6 O O := ⟨fun _ _ => rfl, fun _ _ => rfl, rfl⟩
theorem FC4.up {C C1 : CM} {k : Nat} {x : Int32} (h : FC4 C C1) (hk : k ≠ 1) : FC4 C (up2 C1 404 k x) := ⟨fun c a => (up2_ne a).trans (h.1 c a), (u2n hk.symm).trans h.2⟩
theorem FO6.up {O O1 : OM} {k : Nat} {x : Int32} (h : FO6 O O1) (h1 : 15 ≤ k) (h2 : k ≤ 18) : FO6 O (oup O1 446 k x) := ⟨fun c a => (oup_ne a).trans (h.1 c a), fun j a => (o2n (by omega)).trans (h.2.1 j a), h.2.2⟩
section
variable {L : Nat} {b : Nat → Nat}
theorem num_l {e : Nat} : ∀ d a F1 F2 v C O, CB L b C → OB L b O → C 404 5 = nI a → O.1 446 15 = nI a → C 404 3 = nI (min v 10000) → O.1 446 18 = nI v → v < 10000000 → a + d = e → e ≤ L → d < F1 → d < F2 → (∀ i, a ≤ i → i < e → dgt (b i) = true) → (e < L → dgt (b e) = false) →
    ∃ C1 O1 v1, X8_takeNumber_l5 F1 C = some C1 ∧ X12_next_l232 F2 O = some O1 ∧ FC4 C C1 ∧ FO6 O O1 ∧ v1 < 10000000 ∧ C1 404 2 = C 404 2 ∧ C1 404 4 = C 404 4 ∧ O1.1 446 16 = O.1 446 16 ∧ O1.1 446 17 = O.1 446 17 ∧ C1 404 5 = nI e ∧ O1.1 446 15 = nI e ∧ C1 404 3 = nI (min v1 10000) ∧ O1.1 446 18 = nI v1 := by
  intro d
  induction d with
  | zero =>
    intro a F1 F2 v C O hC hO h5 h15 hv hw h7 ha he hF1 hF2 _ hn
    have h3 := hC.1
    obtain ⟨F1, rfl⟩ : ∃ j, F1 = j + 1 := ⟨F1 - 1, by omega⟩
    obtain ⟨F2, rfl⟩ : ∃ j, F2 = j + 1 := ⟨F2 - 1, by omega⟩
    have : a = e := by omega
    subst this
    refine ⟨C, O, v, ?_, ?_, FC4.refl, FO6.refl, h7, rfl, rfl, rfl, rfl, h5, h15, hv, hw⟩
    · rw [X8_takeNumber_l5, hC.2.1, h5]
      by_cases c : a < L
      · rw [if_neg (nI_ge c (by omega)), byC hC (by omega), bnd_s, if_pos c, dgt_C _ (hC.2.2 a c).1, hn c]
        rfl
      · rw [if_pos (nI_le (by omega) (by omega))]
    · rw [X12_next_l232, hO.2.1, h15]
      by_cases c : a < L
      · rw [if_neg (nI_ge c (by omega)), gd_p (inbN (by omega) (by decide)), gd_p (inbN (by omega) (by decide)), nI_clamp (by omega), (hO.2.2 a c).2, dgt_O _ (hO.2.2 a c).1, hn c]
        rfl
      · rw [if_pos (nI_le (by omega) (by omega))]
  | succ d ih =>
    intro a F1 F2 v C O hC hO h5 h15 hv hw h7 ha he hF1 hF2 hy hn
    have h3 := hC.1
    obtain ⟨F1, rfl⟩ : ∃ j, F1 = j + 1 := ⟨F1 - 1, by omega⟩
    obtain ⟨F2, rfl⟩ : ∃ j, F2 = j + 1 := ⟨F2 - 1, by omega⟩
    have c : a < L := by omega
    have hx := hO.2.2 a c
    have hd := hy a (Nat.le_refl _) (by omega)
    have hr := dgt_r hd
    have e10 : (10 : Int32) * nI v = nI (10 * v) := pk_mul 10 v
    have ev : f_J9_min_7cf53 (nI (min v 10000) * 10 + nI (b a) - 48) 10000 = nI (min (min v 10000 * 10 + b a - 48) 10000) := by
      rw [show (10 : Int32) = nI 10 from rfl, show (48 : Int32) = nI 48 from rfl, show (10000 : Int32) = nI 10000 from rfl, pk_mul, nI_add, pk_sub (by omega), minN (by omega) (by omega)]
    have eC : X8_takeNumber_l5 (F1 + 1) C = X8_takeNumber_l5 F1 (up2 (up2 C 404 3 (nI (min (min v 10000 * 10 + b a - 48) 10000))) 404 5 (nI (a + 1))) := by
      rw [X8_takeNumber_l5, hC.2.1, h5, if_neg (nI_ge c (by omega)), byC hC (by omega), bnd_s, if_pos c, dgt_C _ hx.1, hd, if_neg (by decide), bnd_s, hv, ev, u2n (by decide), h5, nI_1]
    by_cases cv : 99999 < v
    · have eO : X12_next_l232 (F2 + 1) O = X12_next_l232 F2 (oup (oup O 446 18 (nI v)) 446 15 (nI (a + 1))) := by
        rw [X12_next_l232, hO.2.1, h15, if_neg (nI_ge c (by omega)), gd_p (inbN (by omega) (by decide)), gd_p (inbN (by omega) (by decide)), nI_clamp (by omega), hx.2, dgt_O _ hx.1, hd, if_neg (by decide), hw, show (99999 : Int32) = nI 99999 from rfl, if_neg (nI_ge cv (by omega))]
        unfold X12_next_j299
        rw [o2n (by decide), h15, nI_1]
      obtain ⟨C1, O1, v1, r1, r2, r3, r4, r5, r6, r7, r8, r9, r10, r11, r12, r13⟩ := ih (a + 1) F1 F2 v _ _ ((hC.up (k := 3) (x := nI (min (min v 10000 * 10 + b a - 48) 10000)) (by decide)).up (k := 5) (x := nI (a + 1)) (by decide)) ((hO.up (k := 18) (x := nI v) (by decide)).up (k := 15) (x := nI (a + 1)) (by decide)) u2s o2s (by rw [u2n (by decide), u2s]; exact congrArg nI (by omega)) (by rw [o2n (by decide), o2s]) h7 (by omega) he (by omega) (by omega) (fun i a1 a2 => hy i (by omega) a2) hn
      refine ⟨C1, O1, v1, eC.trans r1, eO.trans r2, ⟨fun c' hc => by rw [r3.1 c' hc, up2_ne hc, up2_ne hc], by rw [r3.2, u2n (by decide), u2n (by decide)]⟩, ⟨fun c' hc => by rw [r4.1 c' hc, oup_ne hc, oup_ne hc], fun k hk => by rw [r4.2.1 k hk, o2n (by omega), o2n (by omega)], r4.2.2⟩, r5, by rw [r6, u2n (by decide), u2n (by decide)], by rw [r7, u2n (by decide), u2n (by decide)], by rw [r8, o2n (by decide), o2n (by decide)], by rw [r9, o2n (by decide), o2n (by decide)], r10, r11, r12, r13⟩
    · have eO : X12_next_l232 (F2 + 1) O = X12_next_l232 F2 (oup (oup O 446 18 (nI (10 * v + b a - 48))) 446 15 (nI (a + 1))) := by
        rw [X12_next_l232, hO.2.1, h15, if_neg (nI_ge c (by omega)), gd_p (inbN (by omega) (by decide)), gd_p (inbN (by omega) (by decide)), nI_clamp (by omega), hx.2, dgt_O _ hx.1, hd, if_neg (by decide), hw, show (99999 : Int32) = nI 99999 from rfl, if_pos (nI_le (by omega) (by decide)), e10, yb_lo (by omega), nI_add, show (48 : Int32) = nI 48 from rfl, pk_sub (by omega)]
        unfold X12_next_j299
        rw [o2n (by decide), h15, nI_1]
      obtain ⟨C1, O1, v1, r1, r2, r3, r4, r5, r6, r7, r8, r9, r10, r11, r12, r13⟩ := ih (a + 1) F1 F2 (10 * v + b a - 48) _ _ ((hC.up (k := 3) (x := nI (min (min v 10000 * 10 + b a - 48) 10000)) (by decide)).up (k := 5) (x := nI (a + 1)) (by decide)) ((hO.up (k := 18) (x := nI (10 * v + b a - 48)) (by decide)).up (k := 15) (x := nI (a + 1)) (by decide)) u2s o2s (by rw [u2n (by decide), u2s]; exact congrArg nI (by omega)) (by rw [o2n (by decide), o2s]) (by omega) (by omega) he (by omega) (by omega) (fun i a1 a2 => hy i (by omega) a2) hn
      refine ⟨C1, O1, v1, eC.trans r1, eO.trans r2, ⟨fun c' hc => by rw [r3.1 c' hc, up2_ne hc, up2_ne hc], by rw [r3.2, u2n (by decide), u2n (by decide)]⟩, ⟨fun c' hc => by rw [r4.1 c' hc, oup_ne hc, oup_ne hc], fun k hk => by rw [r4.2.1 k hk, o2n (by omega), o2n (by omega)], r4.2.2⟩, r5, by rw [r6, u2n (by decide), u2n (by decide)], by rw [r7, u2n (by decide), u2n (by decide)], by rw [r8, o2n (by decide), o2n (by decide)], by rw [r9, o2n (by decide), o2n (by decide)], r10, r11, r12, r13⟩
/-- the class's sign -/
theorem sign_C {s x : Nat} {C : CM} (hC : CB L b C) (h5 : C 404 5 = nI s) (hs : s < L) (hx : b s = x) :
    ∃ C1 e, f_X8_takeSign (nI x) C = some C1 ∧ FC4 C C1 ∧ C1 404 4 = C 404 4 ∧ C1 404 3 = C 404 3 ∧ s < e ∧ e ≤ L ∧ C1 404 5 = nI e ∧
      ((e = s + 2 ∧ s + 1 < L ∧ b (s + 1) = 61 ∧ ((x = 60 ∧ C1 404 2 = 4) ∨ (x = 62 ∧ C1 404 2 = 5))) ∨ (e = s + 1 ∧ (x = 60 ∨ x = 62 → ¬ (s + 1 < L ∧ b (s + 1) = 61)) ∧ C1 404 2 = nI (sg x))) := by
  have h3 := hC.1
  have hx2 := (hC.2.2 s hs).1
  rw [hx] at hx2
  unfold f_X8_takeSign
  rw [u2s, h5, nI_1, byC (hC.up (by decide)) (by omega), bnd_s]
  have j85 : ∀ C', X8_takeSign_j85 (nI x) C' = some (up2 C' 404 2 (nI (sg x))) := fun C' => by
    unfold X8_takeSign_j85 X8_takeSign_j101
    rw [← sg_C x hx2]
    by_cases c : ixs1 (((nI x).toUInt32 % 65536).toInt32) < 0
    · rw [if_pos c, if_pos c]
    · rw [if_neg c, if_neg c]
  have e60 : ∀ k : Nat, k < 256 → (nI x = nI k ↔ x = k) := fun k hk => nI_eq (by omega) (by omega)
  have els : ∀ t0 : Int32, (x = 60 ∨ x = 62 → t0 = 0) → X8_takeSign_j28 (nI x) t0 (up2 C 404 5 (nI (s + 1))) = some (up2 (up2 C 404 5 (nI (s + 1))) 404 2 (nI (sg x))) := fun t0 ht => by
    unfold X8_takeSign_j28 X8_takeSign_j57
    rw [show (60 : Int32) = nI 60 from rfl, show (62 : Int32) = nI 62 from rfl, j85]
    by_cases c1 : x = 60
    · rw [if_pos (by rw [c1]), if_pos (ht (Or.inl c1)), if_neg (fun e => by have := (e60 62 (by decide)).mp e; omega)]
    · rw [if_neg (fun e => c1 ((e60 60 (by decide)).mp e))]
      by_cases c2 : x = 62
      · rw [if_pos (by rw [c2]), if_pos (ht (Or.inr c2))]
      · rw [if_neg (fun e => c2 ((e60 62 (by decide)).mp e))]
  have fin : FC4 C (up2 (up2 C 404 5 (nI (s + 1))) 404 2 (nI (sg x))) := (FC4.refl.up (by decide)).up (by decide)
  by_cases c : s + 1 < L ∧ b (s + 1) = 61
  · have e1 : nI (if s + 1 < L then b (s + 1) else 0) = 61 := by rw [if_pos c.1, c.2]; rfl
    rw [e1, if_pos rfl]
    by_cases c1 : x = 60
    · unfold X8_takeSign_j28
      rw [if_pos (by rw [c1]; rfl), if_neg n10]
      refine ⟨_, s + 2, rfl, (((FC4.refl.up (by decide)).up (by decide)).up (by decide)), ?_, ?_, by omega, by omega, ?_, Or.inl ⟨rfl, c.1, c.2, Or.inl ⟨c1, ?_⟩⟩⟩
      · rw [u2n (by decide), u2n (by decide), u2n (by decide)]
      · rw [u2n (by decide), u2n (by decide), u2n (by decide)]
      · rw [u2s, u2n (by decide), u2s, nI_1]
      · rw [u2n (by decide), u2s]
    · by_cases c2 : x = 62
      · unfold X8_takeSign_j28 X8_takeSign_j57
        rw [if_neg (show ¬ nI x = 60 from fun e => c1 ((e60 60 (by decide)).mp e)), if_pos (by rw [c2]; rfl), if_neg n10]
        refine ⟨_, s + 2, rfl, (((FC4.refl.up (by decide)).up (by decide)).up (by decide)), ?_, ?_, by omega, by omega, ?_, Or.inl ⟨rfl, c.1, c.2, Or.inr ⟨c2, ?_⟩⟩⟩
        · rw [u2n (by decide), u2n (by decide), u2n (by decide)]
        · rw [u2n (by decide), u2n (by decide), u2n (by decide)]
        · rw [u2s, u2n (by decide), u2s, nI_1]
        · rw [u2n (by decide), u2s]
      · rw [els 1 (fun h => absurd h (by omega))]
        refine ⟨_, s + 1, rfl, fin, ?_, ?_, by omega, by omega, ?_, Or.inr ⟨rfl, fun h => absurd h (by omega), u2s⟩⟩
        · rw [u2n (by decide), u2n (by decide)]
        · rw [u2n (by decide), u2n (by decide)]
        · rw [u2n (by decide), u2s]
  · have e1 : ¬ nI (if s + 1 < L then b (s + 1) else 0) = 61 := by
      by_cases c1 : s + 1 < L
      · have hb := (hC.2.2 _ c1).1
        rw [if_pos c1, show (61 : Int32) = nI 61 from rfl]
        exact fun e => c ⟨c1, (nI_eq (by omega) (by decide)).mp e⟩
      · rw [if_neg c1]; decide
    rw [if_neg e1, els 0 (fun _ => rfl)]
    refine ⟨_, s + 1, rfl, fin, ?_, ?_, by omega, by omega, ?_, Or.inr ⟨rfl, fun _ => c, u2s⟩⟩
    · rw [u2n (by decide), u2n (by decide)]
    · rw [u2n (by decide), u2n (by decide)]
    · rw [u2n (by decide), u2s]
end
