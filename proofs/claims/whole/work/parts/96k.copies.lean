/-! The text's end: rows copied -/
theorem Ins.shift {a fr i len q T : Nat} {dp : Nat → List Bool} {c o v : Int32} (h : Ins a fr i len q dp c o v) : Ins a (T + fr) i len q dp c o (v + (if o = 404 ∨ o = 409 then nI T else 0)) := by
  rcases h with ⟨k, hk, hc, ho, hv, hd⟩ | ⟨t, ht, hm, hc, ho, hv, hd⟩ | h | h | h | h | h | h | ⟨j, σ, h1, h2, h3, h4, h5, h6, h7, h8⟩ | ⟨j, h1, h2, h3, h4, h5, h6⟩
  · exact Or.inl ⟨k, hk, hc, ho, by rw [ho, if_neg (by decide), hv, Int32.add_zero], hd⟩
  · exact Or.inr (Or.inl ⟨t, ht, hm, hc, ho, by rw [ho, if_neg (by decide), hv, Int32.add_zero], hd⟩)
  · exact Or.inr (Or.inr (Or.inl h))
  · exact Or.inr (Or.inr (Or.inr (Or.inl h)))
  · exact Or.inr (Or.inr (Or.inr (Or.inr (Or.inl h))))
  · exact Or.inr (Or.inr (Or.inr (Or.inr (Or.inr (Or.inl h)))))
  · exact Or.inr (Or.inr (Or.inr (Or.inr (Or.inr (Or.inr (Or.inl h))))))
  · exact Or.inr (Or.inr (Or.inr (Or.inr (Or.inr (Or.inr (Or.inr (Or.inl h)))))))
  · exact Or.inr (Or.inr (Or.inr (Or.inr (Or.inr (Or.inr (Or.inr (Or.inr (Or.inl ⟨j, σ, h1, h2, h3, h4, by rw [h4, if_pos (show nI 404 = (404 : Int32) ∨ nI 404 = (409 : Int32) from Or.inl rfl), h5, nI_add, show fr + j + T = T + fr + j by omega], h6, h7, h8⟩))))))))
  · exact Or.inr (Or.inr (Or.inr (Or.inr (Or.inr (Or.inr (Or.inr (Or.inr (Or.inr ⟨j, h1, h2, h3, h4, by rw [h4, if_pos (show nI 409 = (404 : Int32) ∨ nI 409 = (409 : Int32) from Or.inr rfl), h5, nI_add, show fr + j + T = T + fr + j by omega], h6⟩))))))))
theorem cl_l {t nc : Nat} (ht : t < 4) (hnc : nc ≤ 24) (k : Int32 → OM → Option (Int32 × OM)) : ∀ d i m O, i + d = nc → d < m → O.1 446 30 = nI nc → ∃ O1, X12_text_l211 k m (nI t) (nI i) O = k (nI t) O1 ∧ (∀ c, (c < 451 ∨ 455 < c) → O1.1 c = O.1 c) ∧ O1.2 = O.2 ∧ (∀ j, i ≤ j → j < nc → O1.1 451 (24 * t + j) = O.1 463 j ∧ O1.1 452 (24 * t + j) = nI (400 * t) + O.1 464 j ∧ O1.1 453 (24 * t + j) = O.1 465 j ∧ O1.1 454 (24 * t + j) = O.1 466 j ∧ O1.1 455 (24 * t + j) = O.1 467 j) ∧ ∀ c x, 451 ≤ c → c ≤ 455 → x < 24 * t + i → O1.1 c x = O.1 c x := by
  intro d
  induction d with
  | zero =>
    intro i m O hi hm h
    obtain ⟨m, rfl⟩ : ∃ j, m = j + 1 := ⟨m - 1, by omega⟩
    refine ⟨O, ?_, fun _ _ => rfl, rfl, fun j h1 h2 => absurd h1 (by omega), fun _ _ _ _ _ => rfl⟩
    rw [X12_text_l211, h, if_pos (nI_le (by omega) (by omega))]
  | succ d ih =>
    intro i m O hi hm h
    obtain ⟨m, rfl⟩ : ∃ j, m = j + 1 := ⟨m - 1, by omega⟩
    have e24 : (24 : Int32) * nI t + nI i = nI (24 * t + i) := by rw [show (24 : Int32) = nI 24 from rfl, pk_mul, nI_add]
    have e400 : (400 : Int32) * nI t = nI (400 * t) := by rw [show (400 : Int32) = nI 400 from rfl, pk_mul]
    obtain ⟨Os, hOs⟩ : ∃ Os, Os = oup (oup (oup (oup (oup O 451 (24 * t + i) (O.1 463 i)) 452 (24 * t + i) (nI (400 * t) + O.1 464 i)) 453 (24 * t + i) (O.1 465 i)) 454 (24 * t + i) (O.1 466 i)) 455 (24 * t + i) (O.1 467 i) := ⟨_, rfl⟩
    have sc : ∀ c, (c < 451 ∨ 455 < c) → Os.1 c = O.1 c := fun c hc => by rw [hOs, oup_ne (by omega), oup_ne (by omega), oup_ne (by omega), oup_ne (by omega), oup_ne (by omega)]
    obtain ⟨O1, r1, r2, r3, r4, r5⟩ := ih (i + 1) m Os (by omega) (by omega) (by rw [sc 446 (by decide)]; exact h)
    refine ⟨O1, ?_, fun c hc => (r2 c hc).trans (sc c hc), by rw [r3, hOs]; rfl, fun j h1 h2 => ?_, fun c x h1 h2 h3 => ?_⟩
    · have g24 : inb (nI i) 24 := inbN (by omega) (by decide)
      have g96 : inb (nI (24 * t + i)) 96 := inbN (by omega) (by decide)
      rw [X12_text_l211, h, if_neg (nI_ge (by omega) (by omega)), e24, e400, gd_p g24, gd_p g96, gd_p g24, gd_p g96, gd_p g24, gd_p g96, gd_p g24, gd_p g96, gd_p g24, gd_p g96, nI_clamp (show i < 2 ^ 31 by omega), nI_clamp (show 24 * t + i < 2 ^ 31 by omega), nI_1, oup_ne (show (464 : Nat) ≠ 451 by decide), oup_ne (show (465 : Nat) ≠ 452 by decide), oup_ne (show (465 : Nat) ≠ 451 by decide), oup_ne (show (466 : Nat) ≠ 453 by decide), oup_ne (show (466 : Nat) ≠ 452 by decide), oup_ne (show (466 : Nat) ≠ 451 by decide), oup_ne (show (467 : Nat) ≠ 454 by decide), oup_ne (show (467 : Nat) ≠ 453 by decide), oup_ne (show (467 : Nat) ≠ 452 by decide), oup_ne (show (467 : Nat) ≠ 451 by decide), ← hOs]
      exact r1
    · by_cases e : j = i
      · subst e
        have q : ∀ c, 451 ≤ c → c ≤ 455 → O1.1 c (24 * t + j) = Os.1 c (24 * t + j) := fun c h1 h2 => r5 c _ h1 h2 (by omega)
        rw [q 451 (by decide) (by decide), q 452 (by decide) (by decide), q 453 (by decide) (by decide), q 454 (by decide) (by decide), q 455 (by decide) (by decide), hOs]
        refine ⟨?_, ?_, ?_, ?_, ?_⟩
        · rw [oup_ne (by decide), oup_ne (by decide), oup_ne (by decide), oup_ne (by decide), o2s]
        · rw [oup_ne (by decide), oup_ne (by decide), oup_ne (by decide), o2s]
        · rw [oup_ne (by decide), oup_ne (by decide), o2s]
        · rw [oup_ne (by decide), o2s]
        · rw [o2s]
      · have := r4 j (by omega) h2
        rw [sc 463 (by decide), sc 464 (by decide), sc 465 (by decide), sc 466 (by decide), sc 467 (by decide)] at this
        exact this
    · rw [r5 c x h1 h2 (by omega), hOs]
      have cs : c = 451 ∨ c = 452 ∨ c = 453 ∨ c = 454 ∨ c = 455 := by omega
      rcases cs with rfl | rfl | rfl | rfl | rfl
      · rw [oup_ne (by decide), oup_ne (by decide), oup_ne (by decide), oup_ne (by decide), o2n (by omega)]
      · rw [oup_ne (by decide), oup_ne (by decide), oup_ne (by decide), o2n (by omega), oup_ne (by decide)]
      · rw [oup_ne (by decide), oup_ne (by decide), o2n (by omega), oup_ne (by decide), oup_ne (by decide)]
      · rw [oup_ne (by decide), o2n (by omega), oup_ne (by decide), oup_ne (by decide), oup_ne (by decide)]
      · rw [o2n (by omega), oup_ne (by decide), oup_ne (by decide), oup_ne (by decide), oup_ne (by decide)]
theorem or_l {t no : Nat} (ht : t < 4) (hno : no ≤ 400) (k : Int32 → OM → Option (Int32 × OM)) : ∀ d i m O, i + d = no → d < m → O.1 446 37 = nI no → ∃ O1, X12_text_l318 k m (nI t) (nI i) O = k (nI t) O1 ∧ (∀ c, c ≠ 456 → c ≠ 457 → O1.1 c = O.1 c) ∧ O1.2 = O.2 ∧ (∀ j, i ≤ j → j < no → O1.1 456 (400 * t + j) = O.1 468 j ∧ O1.1 457 (400 * t + j) = O.1 469 j + (if O.1 468 j = 404 ∨ O.1 468 j = 409 then nI (400 * t) else 0)) ∧ ∀ x, x < 400 * t + i → O1.1 456 x = O.1 456 x ∧ O1.1 457 x = O.1 457 x := by
  intro d
  induction d with
  | zero =>
    intro i m O hi hm h
    obtain ⟨m, rfl⟩ : ∃ j, m = j + 1 := ⟨m - 1, by omega⟩
    refine ⟨O, ?_, fun _ _ _ => rfl, rfl, fun j h1 h2 => absurd h1 (by omega), fun _ _ => ⟨rfl, rfl⟩⟩
    rw [X12_text_l318, h, if_pos (nI_le (by omega) (by omega))]
  | succ d ih =>
    intro i m O hi hm h
    obtain ⟨m, rfl⟩ : ∃ j, m = j + 1 := ⟨m - 1, by omega⟩
    have e400 : (400 : Int32) * nI t = nI (400 * t) := by rw [show (400 : Int32) = nI 400 from rfl, pk_mul]
    obtain ⟨Os, hOs⟩ : ∃ Os, Os = oup (oup O 456 (400 * t + i) (O.1 468 i)) 457 (400 * t + i) (O.1 469 i + (if O.1 468 i = 404 ∨ O.1 468 i = 409 then nI (400 * t) else 0)) := ⟨_, rfl⟩
    have sc : ∀ c, c ≠ 456 → c ≠ 457 → Os.1 c = O.1 c := fun c h1 h2 => by rw [hOs, oup_ne h2, oup_ne h1]
    obtain ⟨O1, r1, r2, r3, r4, r5⟩ := ih (i + 1) m Os (by omega) (by omega) (by rw [sc 446 (by decide) (by decide)]; exact h)
    refine ⟨O1, ?_, fun c h1 h2 => (r2 c h1 h2).trans (sc c h1 h2), by rw [r3, hOs]; rfl, fun j h1 h2 => ?_, fun x hx => ?_⟩
    · have g4 : inb (nI i) 400 := inbN (by omega) (by decide)
      have g16 : inb (nI (400 * t + i)) 1600 := inbN (by omega) (by decide)
      rw [X12_text_l318, h, if_neg (nI_ge (by omega) (by omega))]
      unfold X12_text_j377 X12_text_j386
      rw [e400, nI_add, gd_p g4, gd_p g16, gd_p g4, gd_p g16, gd_p g16, nI_clamp (show i < 2 ^ 31 by omega), nI_clamp (show 400 * t + i < 2 ^ 31 by omega), nI_1, oup_ne (show (469 : Nat) ≠ 456 by decide)]
      rw [← r1, hOs]
      by_cases c1 : O.1 468 i = 404
      · rw [if_pos c1, if_pos (Or.inl c1)]
      · rw [if_neg c1]
        by_cases c2 : O.1 468 i = 409
        · rw [if_pos c2, if_pos (Or.inr c2)]
        · rw [if_neg c2, if_neg (fun e => e.elim c1 c2)]
    · by_cases e : j = i
      · subst e
        rw [(r5 (400 * t + j) (by omega)).1, (r5 (400 * t + j) (by omega)).2, hOs]
        refine ⟨?_, ?_⟩
        · rw [oup_ne (by decide), o2s]
        · rw [o2s]
      · have := r4 j (by omega) h2
        rw [sc 468 (by decide) (by decide), sc 469 (by decide) (by decide)] at this
        exact this
    · rw [(r5 x (by omega)).1, (r5 x (by omega)).2, hOs]
      refine ⟨?_, ?_⟩
      · rw [oup_ne (by decide), o2n (by omega)]
      · rw [o2n (by omega), oup_ne (by decide)]
theorem copySc_eq (s t : Nat) (C : CM) : f_X6_copyFrom s t C = some (cpr s t 5 72 (cpr s t 4 24 (cpr s t 3 4 (cpr s t 2 4 (cpr s t 1 300 (cp0 s t 6 (cp0 s t 5 C))))))) := rfl
theorem copySc {s : Nat} (C : CM) (hs : 422 ≤ s) : ∃ C1, f_X6_copyFrom s 407 C = some C1 ∧ (∀ c, (c < s ∨ s + 5 < c) → C1 c = C c) ∧ C1 s 6 = C 407 6 ∧ (∀ k, k < 300 → C1 (s + 1) k = C 408 k) ∧ (∀ k, k < 4 → C1 (s + 2) k = C 409 k) ∧ (∀ k, k < 4 → C1 (s + 3) k = C 410 k) ∧ (∀ k, k < 24 → C1 (s + 4) k = C 411 k) ∧ ∀ k, k < 72 → C1 (s + 5) k = C 412 k := by
  rw [copySc_eq]
  refine ⟨_, rfl, fun c hc => ?_, ?_, fun k hk => ?_, fun k hk => ?_, fun k hk => ?_, fun k hk => ?_, fun k hk => ?_⟩
  · rw [cpr_ne (by omega), cpr_ne (by omega), cpr_ne (by omega), cpr_ne (by omega), cpr_ne (by omega), cp0_ne (by omega), cp0_ne (by omega)]
  · rw [cpr_ne (by omega), cpr_ne (by omega), cpr_ne (by omega), cpr_ne (by omega), cpr_ne (by omega), cp0_eq, if_pos rfl, cp0_ne (by omega)]
  · rw [cpr_ne (by omega), cpr_ne (by omega), cpr_ne (by omega), cpr_ne (by omega), cpr_eq, if_pos hk, cp0_ne (by omega), cp0_ne (by omega)]
  · rw [cpr_ne (by omega), cpr_ne (by omega), cpr_ne (by omega), cpr_eq, if_pos hk, cpr_ne (by omega), cp0_ne (by omega), cp0_ne (by omega)]
  · rw [cpr_ne (by omega), cpr_ne (by omega), cpr_eq, if_pos hk, cpr_ne (by omega), cpr_ne (by omega), cp0_ne (by omega), cp0_ne (by omega)]
  · rw [cpr_ne (by omega), cpr_eq, if_pos hk, cpr_ne (by omega), cpr_ne (by omega), cpr_ne (by omega), cp0_ne (by omega), cp0_ne (by omega)]
  · rw [cpr_eq, if_pos hk, cpr_ne (by omega), cpr_ne (by omega), cpr_ne (by omega), cpr_ne (by omega), cp0_ne (by omega), cp0_ne (by omega)]
theorem empty_l : ∀ d i m C, i + d = 4 → d < m → ∃ C1, X6_empty_l12 407 m (nI i) C = some C1 ∧ (∀ c, c ≠ 409 → c ≠ 410 → C1 c = C c) ∧ (∀ k, i ≤ k → k < 4 → C1 409 k = 0 ∧ C1 410 k = 0) ∧ ∀ k, k < i → C1 409 k = C 409 k ∧ C1 410 k = C 410 k := by
  intro d
  induction d with
  | zero =>
    intro i m C hi hm
    obtain ⟨m, rfl⟩ : ∃ j, m = j + 1 := ⟨m - 1, by omega⟩
    refine ⟨C, ?_, fun _ _ _ => rfl, fun k h1 h2 => absurd h1 (by omega), fun _ _ => ⟨rfl, rfl⟩⟩
    rw [X6_empty_l12, if_pos (show (4 : Int32) ≤ nI i from nI_le (show 4 ≤ i by omega) (by omega))]
  | succ d ih =>
    intro i m C hi hm
    obtain ⟨m, rfl⟩ : ∃ j, m = j + 1 := ⟨m - 1, by omega⟩
    obtain ⟨C1, r1, r2, r3, r4⟩ := ih (i + 1) m (up2 (up2 C 409 i 0) 410 i 0) (by omega) (by omega)
    refine ⟨C1, ?_, fun c h1 h2 => by rw [r2 c h1 h2, up2_ne h2, up2_ne h1], fun k h1 h2 => ?_, fun k hk => ?_⟩
    · rw [X6_empty_l12, if_neg (show ¬ (4 : Int32) ≤ nI i from nI_ge (show i < 4 by omega) (by decide)), gd_p (inbN (by omega) (by decide)), gd_p (inbN (by omega) (by decide)), nI_clamp (by omega), nI_1]
      exact r1
    · by_cases e : k = i
      · subst e
        rw [(r4 k (by omega)).1, (r4 k (by omega)).2, up2_ne (by decide), u2s, u2s]
        exact ⟨rfl, rfl⟩
      · exact r3 k (by omega) h2
    · rw [(r4 k (by omega)).1, (r4 k (by omega)).2, up2_ne (by decide), u2n (by omega), u2n (by omega), up2_ne (by decide)]
      exact ⟨rfl, rfl⟩
