/-! The reader: both, either; a choice -/
theorem ask_q {n d : Nat} (hA : AskS n d) (hd1 : 1 ≤ d) {L : Nat} {b : Nat → Nat} {Lw s nf nw a fr m : Nat} {σ : List Bool} {C : CM} {O : OM} (hd : d ≤ 8) (h : PreQ 0 3 (2 * d) (4 * d - 1 + 1) (5 * d - 2 + 1) Gd2 L b Lw s d nf nw a fr m σ C O) :
    ∃ C1, RDf n 7 (nI d) C = some C1 ∧ PostQ 3 0 3 1 true [] L b Lw s d nf nw a fr m σ (PT s + 2) C O C1 := by
  obtain ⟨p1, p2, p3, p4, p5, p6, p7, p8, p9, F, p10, p11⟩ := h
  obtain ⟨C1, r1, r2⟩ := hA L b Lw s nf nw a fr m σ C O ⟨p1, p2, p3, p4, p5, p6, by omega, by omega, p9.r (by decide), F, p10, Or.inl p11⟩
  refine ⟨C1, r1, ?_⟩
  rcases r2 with r2 | ⟨O1, s1, m1, k1, k2, k3, k4, k5, k6⟩
  · exact Or.inl r2
  · obtain ⟨q, rfl⟩ : ∃ q, nf = q + 1 := ⟨nf - 1, by omega⟩
    have k2' := k2
    obtain ⟨-, -, -, -, -, -, -, -, -, fn, -, -, -⟩ := k2'
    have hF : O1.1 458 q = nI F := by rw [k3.2.2.1 q (by omega)]; exact p10
    have p11 : F = 2 := p11
    have go := k1.go (ask_good fn (by omega) hF (by omega) (by omega))
    refine Or.inr ⟨_, s1, m1, fr + m1, [], go, o2s, k2.st, by rfl, by omega, k3.trans (KPR.o (nf := q + 1) (nw := nw) (lc := a + m) (no := fr + m) (c := 446) (k := 28) (by omega)) (Nat.le_refl _) (Nat.le_refl _) (Nat.le_refl _) (Nat.le_refl _), True.intro, Nat.le_refl _, PDk.nil, k4, k5, k6.mono (fun i b1 b2 => ⟨rfl, ?_, ?_⟩), fun t ht => by cases ht⟩
    · unfold vo
      rw [if_pos (by omega), oup_ne (by decide)]
    · unfold vv
      rw [if_pos (by omega), oup_ne (by decide)]
theorem asksOn_w {T1 : List (Nat × Nat)} {L : Nat} {b : Nat → Nat} {nf : Nat} (hT : ∀ p, p ∈ T1 → p = (152, 406) ∨ p = (153, 407)) : StepH 3 0 T1 L b nf := by
  intro p hp s C O ts h19 h28 h22 hc n
  rw [lp_3 h19 h28]
  have w17 := ts.word 25 (by decide)
  have w16 := ts.word 24 (by decide)
  have e : f_X12_asksOn O = bnd (f_X12_waitsFor (nI p.2) O) (fun O3 => some (oup O3 446 28 (nI 0))) := by
    unfold f_X12_asksOn X12_asksOn_j18 X12_asksOn_j37
    rcases hT p hp with rfl | rfl
    · have hc : C 404 2 = nI 152 := hc
      rw [hc, if_neg (by decide)] at w17
      rw [hc, if_pos (by decide)] at w16
      have w17' : f_X12_isWord 17 O = 0 := w17
      have w16' : f_X12_isWord 16 O = 1 := w16
      rw [w17', w16', if_pos rfl, if_neg n10, if_pos rfl]
      rfl
    · have hc : C 404 2 = nI 153 := hc
      rw [hc, if_pos (by decide)] at w17
      have w17' : f_X12_isWord 17 O = 1 := w17
      rw [w17', if_neg n10, if_neg n10]
      rfl
  rw [e]
theorem T152 : ∀ p, p ∈ [(152, 406)] → p.1 < 256 ∧ p.1 ≠ 1 ∧ p.2 < 1000 ∧ rk p.2 = 2 := by decide
theorem T153 : ∀ p, p ∈ [(153, 407)] → p.1 < 256 ∧ p.1 ≠ 1 ∧ p.2 < 1000 ∧ rk p.2 = 1 := by decide
theorem A152 : ∀ p, p ∈ [(152, 406)] → p = (152, 406) := by decide
theorem A153 : ∀ p, p ∈ [(153, 407)] → p = (153, 407) := by decide
theorem both_lf {k : Nat} {d : Int32} : ∀ n i C, ¬ C 406 1 = 0 → X4_readBoth_l7 (RDf k) (n + 1) d (nI i) C = some C := by
  intro n i C hf
  rw [X4_readBoth_l7]
  by_cases c : (300 : Int32) ≤ nI i
  · rw [if_pos c]
  · rw [if_neg c, is_f hf, if_pos (by rfl)]
theorem both_ln {k : Nat} {d : Int32} : ∀ n i C, C 406 1 = 0 → (∀ p, p ∈ [(152, 406)] → ¬ C 404 2 = nI p.1) → X4_readBoth_l7 (RDf k) (n + 1) d (nI i) C = some C := by
  intro n i C hf hn
  have h1 : ¬ C 404 2 = (152 : Int32) := hn (152, 406) (by decide)
  rw [X4_readBoth_l7, is_v hf, if_neg h1, if_pos rfl]
  by_cases c : (300 : Int32) ≤ nI i
  · rw [if_pos c]
  · rw [if_neg c]
theorem both_ly {k : Nat} {d : Int32} : ∀ n i C (p : Nat × Nat), i < 300 → C 406 1 = 0 → p ∈ [(152, 406)] → C 404 2 = nI p.1 → X4_readBoth_l7 (RDf k) (n + 1) d (nI i) C = bnd (f_X8_next C) (fun C2 => bnd (RDf k 7 d C2) (fun C3 => bnd2 (f_X6_emit 407 (nI p.1) 0 C3) (fun _ C4 => X4_readBoth_l7 (RDf k) n d (nI (i + 1)) C4))) := by
  intro n i C p hi hf hp hc
  have := A152 p hp
  subst this
  have hc : C 404 2 = (152 : Int32) := hc
  rw [X4_readBoth_l7, if_neg (show ¬ (300 : Int32) ≤ nI i from nI_ge hi (by decide)), is_v hf, if_pos hc, if_neg n10, nI_1]
  rfl
theorem either_lf {k : Nat} {d : Int32} : ∀ n i C, ¬ C 406 1 = 0 → X4_readEither_l7 (RDf k) (n + 1) d (nI i) C = some C := by
  intro n i C hf
  rw [X4_readEither_l7]
  by_cases c : (300 : Int32) ≤ nI i
  · rw [if_pos c]
  · rw [if_neg c, is_f hf, if_pos (by rfl)]
theorem either_ln {k : Nat} {d : Int32} : ∀ n i C, C 406 1 = 0 → (∀ p, p ∈ [(153, 407)] → ¬ C 404 2 = nI p.1) → X4_readEither_l7 (RDf k) (n + 1) d (nI i) C = some C := by
  intro n i C hf hn
  have h1 : ¬ C 404 2 = (153 : Int32) := hn (153, 407) (by decide)
  rw [X4_readEither_l7, is_v hf, if_neg h1, if_pos rfl]
  by_cases c : (300 : Int32) ≤ nI i
  · rw [if_pos c]
  · rw [if_neg c]
theorem either_ly {k : Nat} {d : Int32} : ∀ n i C (p : Nat × Nat), i < 300 → C 406 1 = 0 → p ∈ [(153, 407)] → C 404 2 = nI p.1 → X4_readEither_l7 (RDf k) (n + 1) d (nI i) C = bnd (f_X8_next C) (fun C2 => bnd (RDf k 6 d C2) (fun C3 => bnd2 (f_X6_emit 407 (nI p.1) 0 C3) (fun _ C4 => X4_readEither_l7 (RDf k) n d (nI (i + 1)) C4))) := by
  intro n i C p hi hf hp hc
  have := A153 p hp
  subst this
  have hc : C 404 2 = (153 : Int32) := hc
  rw [X4_readEither_l7, if_neg (show ¬ (300 : Int32) ≤ nI i from nI_ge hi (by decide)), is_v hf, if_pos hc, if_neg n10, nI_1]
  rfl
theorem both_s {n d : Nat} (hd : d ≤ 8) (hA : AskS n d) : BothS (n + 1) d := by
  intro L b Lw s nf nw a fr m σ C O h
  have hd1 : 1 ≤ d := by
    have h1 := h.2.2.2.2.1
    have h2 := h.2.2.2.2.2.1
    omega
  exact level_g (r := 2) (B := 0) (S := 3) (S0 := 0) (e := 1) (e0 := 2) (N := 2 * d) (W := 4 * d - 1) (X := 5 * d - 2) (τ := true) (T0 := []) (T1 := [(152, 406)]) (Gd := Gd2) (rec := RDf n 7 (nI d)) (lf := fun k i C => X4_readBoth_l7 (RDf n) k (nI d) (nI i) C) (fn := RDf (n + 1) 6 (nI d)) (fun C => rfl) (by omega) (by omega) (by omega) (by omega) (by omega) (by omega) T152 both_lf both_ln both_ly (asksOn_w (fun p hp => Or.inl (A152 p hp))) (fun s nw m σ C O h => ask_q hA hd1 hd h)
    (fun p hp m σ c o v h1 h2 h3 => by
      have := A152 p hp
      subst this
      exact Sg.bo h1 (Or.inl rfl) h2 h3) h
theorem either_s {n d : Nat} (hd : d ≤ 8) (hB : BothS n d) : EitherS (n + 1) d := by
  intro L b Lw s nf nw a fr m σ C O h
  have hd1 : 1 ≤ d := by
    have h1 := h.2.2.2.2.1
    have h2 := h.2.2.2.2.2.1
    omega
  exact level_g (r := 1) (B := 1) (S := 3) (S0 := 0) (e := 1) (e0 := 2) (N := 2 * d) (W := 4 * d - 2) (X := 5 * d - 3) (τ := true) (T0 := [152]) (T1 := [(153, 407)]) (Gd := Gd2) (rec := RDf n 6 (nI d)) (lf := fun k i C => X4_readEither_l7 (RDf n) k (nI d) (nI i) C) (fn := RDf (n + 1) 5 (nI d)) (fun C => rfl) (by omega) (by omega) (by omega) (by omega) (by omega) (by omega) T153 either_lf either_ln either_ly (asksOn_w (fun p hp => Or.inr (A153 p hp))) (fun s nw m σ C O h => hB L b Lw s nf nw a fr m σ C O (h.mono (Nat.le_refl _) (Nat.le_refl _) (by omega) (by omega) (fun _ h => h)))
    (fun p hp m σ c o v h1 h2 h3 => by
      have := A153 p hp
      subst this
      exact Sg.bo h1 (Or.inr rfl) h2 h3) h
/-- a choice, cut behind its three parts -/
noncomputable def cT3 (r6 : Int32) (C : CM) : Option CM := bnd (f_X4_expect 159 C) (fun C9 => bnd (f_X6_leadHere 407 r6 C9) (fun C10 => some C10))
noncomputable def cT2 (n : Nat) (d r3 : Int32) (C : CM) : Option CM := bnd (f_X4_expect 158 C) (fun C5 => bnd2 (f_X6_emit 407 158 0 C5) (fun r6 C6 => bnd (f_X6_leadHere 407 r3 C6) (fun C7 => bnd (RDf n 0 d C7) (fun C8 => cT3 r6 C8))))
noncomputable def cT1 (n : Nat) (d : Int32) (C : CM) : Option CM := bnd (f_X4_expect 157 C) (fun C2 => bnd2 (f_X6_emit 407 157 0 C2) (fun r3 C3 => bnd (RDf n 0 d C3) (fun C4 => cT2 n d r3 C4)))
theorem cT0 {n : Nat} {d : Int32} {C : CM} : RDf (n + 1) 4 d C = bnd (RDf n 5 d C) (fun C1 => cT1 n d C1) := rfl
section
variable {A : Nat} {C C8 : CM} {O : OM} {d : Int32} {k : Nat}
theorem cT3_e {r6 : Int32} (ef : EF A C O C8) : ∃ C1, cT3 r6 C8 = some C1 ∧ EF A C O C1 := by
  obtain ⟨C9, a1, a2, a3, a4, a5⟩ := lead_t r6 ef.ln
  exact ⟨C9, by unfold cT3; rw [exp_f ef.ne, bnd_s, a1, bnd_s], ef.keep a2 a3 a5⟩
theorem cT2_e {r3 : Int32} (ef : EF A C O C8) : ∃ C1, cT2 (k + 3) d r3 C8 = some C1 ∧ EF A C O C1 := by
  obtain ⟨r6, C9, a1, a2, a3, a4, a5⟩ := emit_t 158 0 ef.ln
  have e9 := ef.keep a2 a3 a5
  obtain ⟨C10, b1, b2, b3, b4, b5⟩ := lead_t r3 e9.ln
  have e10 := e9.keep b2 b3 b5
  obtain ⟨C11, c1, c2⟩ := cT3_e (r6 := r6) e10
  exact ⟨C11, by unfold cT2; rw [exp_f ef.ne, bnd_s, a1, bnd2_s, b1, bnd_s, sum_f e10.ne, bnd_s, c1], c2⟩
theorem cT1_e (ef : EF A C O C8) : ∃ C1, cT1 (k + 3) d C8 = some C1 ∧ EF A C O C1 := by
  obtain ⟨r3, C9, a1, a2, a3, a4, a5⟩ := emit_t 157 0 ef.ln
  have e9 := ef.keep a2 a3 a5
  obtain ⟨C11, c1, c2⟩ := cT2_e (k := k) (d := d) (r3 := r3) e9
  exact ⟨C11, by unfold cT1; rw [exp_f ef.ne, bnd_s, a1, bnd2_s, sum_f e9.ne, bnd_s, c1], c2⟩
end
theorem lead_v {C : CM} {p l t : Nat} (h : C 407 5 = nI l) (hp : p < l) (hl : l ≤ 300) (hc : C 408 p = nI t) (ht : t < 256) : f_X6_leadHere 407 (nI p) C = some (up2 C 408 p (nI (256 * l + t))) := by
  have e1 : irm (nI t) (256 : Int32) = nI t := by
    have := pk_rem (a := t) (d := 256) (by omega) (by decide) (by decide)
    rw [Nat.mod_eq_of_lt ht] at this
    exact this
  obtain ⟨l, rfl⟩ : ∃ j, l = j + 1 := ⟨l - 1, by omega⟩
  unfold f_X6_leadHere f_X11_within
  rw [h, nI_pred, if_neg (nI_pos (by omega)), if_neg (nI_nlt (by omega) (by omega)), if_neg (by decide), gd_p (inbN (by omega) (by decide)), gd_p (inbN (by omega) (by decide)), nI_clamp (by omega), hc, e1, show (256 : Int32) = nI 256 from rfl, pk_mul, nI_add, Nat.mul_comm]
theorem PZ.c8 {L : Nat} {b : Nat → Nat} {Lw s d nf nw lc no k : Nat} {C : CM} {O : OM} {x : Int32} (h : PZ L b Lw s d nf nw lc no C O) : PZ L b Lw s d nf nw lc no (up2 C 408 k x) O := by
  obtain ⟨ts, f1, f2, g1, g2, hL, lw, kw, op, fn, wn, ln, on⟩ := h
  exact ⟨ts.congr (up2_ne (by decide)) (up2_ne (by decide)) (fun _ _ _ => rfl) rfl, by rw [up2_ne (by decide)]; exact f1, by rw [up2_ne (by decide)]; exact f2, g1, g2, hL, by rw [up2_ne (by decide)]; exact lw, kw, op, fn, wn, by rw [up2_ne (by decide)]; exact ln, on⟩
theorem KPR.c8 {nf nw lc no k : Nat} {C : CM} {O : OM} {x : Int32} (h : lc ≤ k) : KPR nf nw lc no C O (up2 C 408 k x) O := ⟨FrP.em1, FrQ.refl, fun _ _ => rfl, fun _ _ => ⟨rfl, rfl⟩, fun _ _ => ⟨rfl, rfl⟩, fun j hj => u2n (by omega), fun _ _ => ⟨rfl, rfl⟩⟩
