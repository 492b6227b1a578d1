/-! The reader: pieces of the state; errors; a sum's end -/
section
variable {L : Nat} {b : Nat → Nat} {Lw s d nf nw lc no : Nat} {C : CM} {O : OM}
theorem KPR.tr {C1 C2 : CM} {O1 O2 : OM} (h : KPR nf nw lc no C O C1 O1) (g : KPR nf nw lc no C1 O1 C2 O2) : KPR nf nw lc no C O C2 O2 := h.trans g (Nat.le_refl _) (Nat.le_refl _) (Nat.le_refl _) (Nat.le_refl _)
theorem PZ.row {c k : Nat} {x : Int32} (h : PZ L b Lw s d nf nw lc no C O) (h1 : c ≠ 446) (h2 : c ≠ 449) : PZ L b Lw s d nf nw lc no C (oup O c k x) := by
  obtain ⟨ts, f1, f2, g1, g2, hL, lw, kw, op, fn, wn, ln, on⟩ := h
  have e : (oup O c k x).1 446 = O.1 446 := oup_ne (fun e => h1 e.symm)
  exact ⟨ts.congr rfl rfl (fun k _ _ => by rw [e]) (oup_ne (fun e => h2 e.symm)), f1, f2, by rw [e]; exact g1, by rw [e]; exact g2, hL, lw, by rw [e]; exact kw, by rw [e]; exact op, by rw [e]; exact fn, by rw [e]; exact wn, ln, by rw [e]; exact on⟩
theorem PZ.fr {nf' : Nat} (h : PZ L b Lw s d nf nw lc no C O) : PZ L b Lw s d nf' nw lc no C (oup O 446 22 (nI nf')) := by
  obtain ⟨ts, f1, f2, g1, g2, hL, lw, kw, op, fn, wn, ln, on⟩ := h
  exact ⟨ts.congr rfl rfl (fun k a1 a2 => o2n (by omega)) (oup_ne (by decide)), f1, f2, by rw [o2n (by decide)]; exact g1, by rw [o2n (by decide)]; exact g2, hL, lw, by rw [o2n (by decide)]; exact kw, by rw [o2n (by decide)]; exact op, o2s, by rw [o2n (by decide)]; exact wn, ln, by rw [o2n (by decide)]; exact on⟩
theorem PZ.op {d' : Nat} (h : PZ L b Lw s d nf nw lc no C O) : PZ L b Lw s d' nf nw lc no C (oup O 446 21 (nI d')) := by
  obtain ⟨ts, f1, f2, g1, g2, hL, lw, kw, op, fn, wn, ln, on⟩ := h
  exact ⟨ts.congr rfl rfl (fun k a1 a2 => o2n (by omega)) (oup_ne (by decide)), f1, f2, by rw [o2n (by decide)]; exact g1, by rw [o2n (by decide)]; exact g2, hL, lw, by rw [o2n (by decide)]; exact kw, o2s, by rw [o2n (by decide)]; exact fn, by rw [o2n (by decide)]; exact wn, ln, by rw [o2n (by decide)]; exact on⟩
theorem PZ.on {no' : Nat} (h : PZ L b Lw s d nf nw lc no C O) : PZ L b Lw s d nf nw lc no' C (oup O 446 37 (nI no')) := by
  obtain ⟨ts, f1, f2, g1, g2, hL, lw, kw, op, fn, wn, ln, on⟩ := h
  exact ⟨ts.congr rfl rfl (fun k a1 a2 => o2n (by omega)) (oup_ne (by decide)), f1, f2, by rw [o2n (by decide)]; exact g1, by rw [o2n (by decide)]; exact g2, hL, lw, by rw [o2n (by decide)]; exact kw, by rw [o2n (by decide)]; exact op, by rw [o2n (by decide)]; exact fn, by rw [o2n (by decide)]; exact wn, ln, o2s⟩
theorem PZ.emO {x y : Int32} {k : Nat} (h : PZ L b Lw s d nf nw lc no C O) : PZ L b Lw s d nf nw lc (no + 1) C (oup (oup (oup O 468 k x) 469 k y) 446 37 (nI (no + 1))) := ((h.row (c := 468) (by decide) (by decide)).row (c := 469) (by decide) (by decide)).on
theorem PZ.next (h : PZ L b Lw s d nf nw lc no C O) (hn : ¬ C 404 2 = 1) : ∃ C1 O1 s1, f_X8_next C = some C1 ∧ f_X12_next O = some O1 ∧ s < s1 ∧ PZ L b Lw s1 d nf nw lc no C1 O1 ∧ FC4 C C1 ∧ FO6 O O1 := by
  obtain ⟨ts, f1, f2, g1, g2, hL, lw, kw, op, fn, wn, ln, on⟩ := h
  obtain ⟨C1, O1, s1, r1, r2, r3, r4, r5, r6⟩ := ts.next hn
  exact ⟨C1, O1, s1, r1, r2, r4, ⟨r3, by rw [r5.1 406 (by decide)]; exact f1, by rw [r5.1 406 (by decide)]; exact f2, by rw [r6.2.1 19 (by decide)]; exact g1, by rw [r6.2.1 20 (by decide)]; exact g2, hL, by rw [r5.1 406 (by decide)]; exact lw, by rw [r6.2.1 31 (by decide)]; exact kw, by rw [r6.2.1 21 (by decide)]; exact op, by rw [r6.2.1 22 (by decide)]; exact fn, by rw [r6.2.1 25 (by decide)]; exact wn, by rw [r5.1 407 (by decide)]; exact ln, by rw [r6.2.1 37 (by decide)]; exact on⟩, r5, r6⟩
theorem KPR.em {k : Nat} {x y : Int32} (h : no ≤ k) {z : Int32} : KPR nf nw lc no C O C (oup (oup (oup O 468 k x) 469 k y) 446 37 z) :=
  ((KPR.o (c := 468) (k := k) (by omega)).tr (KPR.o (c := 469) (k := k) (by omega))).tr (KPR.o (c := 446) (k := 37) (by omega))
theorem KPR.fo {x y : Int32} : KPR nf nw lc no C O C (oup (oup O 446 22 x) 446 21 y) := (KPR.o (c := 446) (k := 22) (by omega)).tr (KPR.o (c := 446) (k := 21) (by omega))
/-- an error, told on both sides -/
theorem err_rc {A v : Nat} {C0 : CM} {O0 : OM} (z : PZ L b Lw s d nf nw lc no C O) (hlc : lc ≤ 300) (hv : 1 ≤ v) (hv6 : v ≤ 6) (fp : FrP C0 C) (fq : FrQ O0 O) (rc : RC A O0 0 (oup (oup O 446 19 (nI v)) 446 20 (nI s))) : ∃ C2, f_X4_fail (nI v) C = some C2 ∧ EF A C0 O0 C2 := by
  obtain ⟨ts, f1, f2, g1, g2, hL, lw, kw, op, fn, wn, ln, on⟩ := z
  exact ⟨_, fail_v f1 ts.at.1, (EF.made hv hv6 rc fq ⟨lc, hlc, ln⟩).pre RC.refl fp FrQ.refl⟩
theorem works_end {r B S e : Nat} {τ : Bool} {T : List Nat} {a fr m : Nat} {σ : List Bool} {A : Nat} {C1 : CM} {O1 : OM} {s1 m1 no1 : Nat} {pd : List Nat} (h : OKQ r B S e τ T L b Lw s d nf nw a fr m σ A C O C1 O1 s1 m1 no1 pd) (hr : r ≤ 4) (hB : B ≤ 7) (hnf : nf < 1000) (hnw : nw ≤ 70) (hfr : fr ≤ a + 24) (ha : a + m ≤ s) (hb : WB r nf nw O) :
    ∃ O2, f_X12_works (nI r) O1 = some O2 ∧ PZ L b Lw s1 d nf nw (a + m1) (fr + m1) C1 O2 ∧ KPR nf nw (a + m) (fr + m) C O C1 O2 ∧ (∀ k, k ≠ 25 → k ≠ 37 → O2.1 446 k = O1.1 446 k) ∧ (∀ c, c ≠ 446 → c ≠ 468 → c ≠ 469 → O2.1 c = O1.1 c) ∧ Sg a fr Lw m m1 σ (τ :: σ) (C1 408) (O2.1 468) (O2.1 469) := by
  obtain ⟨q1, q2, q3, q4, q5, q6, q7, q8, q9, q10, q11, q12, q13⟩ := h
  have hle := q3.1.le
  obtain ⟨O2, e1, e2, e3, e4, e5, e6⟩ := flush_l q3 hr hnf (by omega) (by omega) q7 q9 (hb.congr (fun j hj => q6.2.2.2.2.1 j hj))
  rw [q4] at e2 e6
  refine ⟨O2, e1, e2, q6.trans e3 (Nat.le_refl _) (Nat.le_refl _) (by omega) (by omega), e4, e5, q12.mono (fun i b1 b2 => ?_)⟩
  obtain ⟨x1, x2⟩ := e6 (fr + i) (by omega)
  exact ⟨rfl, x1, x2⟩
theorem opens_v {f : Nat} (h : PZ L b Lw s d nf nw lc no C O) (hn : ¬ C 404 2 = 1) (hd : d < 8) (hnf : nf < 40) : ∃ C1 O1 s1, f_X8_next C = some C1 ∧ f_X12_opensSign (nI f) O = some (1, O1) ∧ s < s1 ∧ PZ L b Lw s1 (d + 1) (nf + 1) nw lc no C1 O1 ∧ KPR nf nw lc no C O C1 O1 ∧ O1.1 446 28 = O.1 446 28 ∧ O1.1 458 nf = nI f := by
  have h' := h
  obtain ⟨ts, f1, f2, g1, g2, hL, lw, kw, op, fn, wn, ln, on⟩ := h'
  obtain ⟨C1, O1, s1, r1, r2, r3, r4, r5, r6⟩ := (((h.op (d' := d + 1)).row (c := 458) (k := nf) (x := nI f) (by decide) (by decide)).fr (nf' := nf + 1)).next hn
  refine ⟨C1, O1, s1, r1, ?_, r3, r4, ?_, ?_, ?_⟩
  · unfold f_X12_opensSign
    rw [op, if_neg (fun e => by have := (nI_eq (b := 8) (by omega) (by decide)).mp e; omega), nI_1, openF_v (O := oup O 446 21 (nI (d + 1))) (nf := nf) (by rw [o2n (by decide)]; exact fn) hnf, bnd_s, r2, bnd_s]
  · exact (((KPR.o (c := 446) (k := 21) (by omega)).tr (KPR.o (c := 458) (k := nf) (by omega))).tr (KPR.o (c := 446) (k := 22) (by omega))).tr (KPR.n r5 r6)
  · rw [r6.2.1 28 (by decide), o2n (by decide), oup_ne (by decide), o2n (by decide)]
  · rw [r6.1 458 (by decide), oup_ne (by decide), o2s]
theorem opens_8 {f : Int32} (h : PZ L b Lw s 8 nf nw lc no C O) : f_X12_opensSign f O = some (0, oup (oup O 446 19 (nI 3)) 446 20 (nI s)) := by
  obtain ⟨ts, f1, f2, g1, g2, hL, lw, kw, op, fn, wn, ln, on⟩ := h
  unfold f_X12_opensSign
  rw [op, if_pos (show nI 8 = (8 : Int32) from rfl), errs_v g1 ts.at.2, bnd_s]
  rfl
theorem exp_y {t : Int32} (hf : C 406 1 = 0) (ht : C 404 2 = t) {C1 : CM} (hx : f_X8_next C = some C1) : f_X4_expect t C = some C1 := by
  unfold f_X4_expect
  rw [is_v hf, if_pos ht, if_neg n10, hx, bnd_s]
theorem exp_n {t : Int32} (hf : C 406 1 = 0) (ht : ¬ C 404 2 = t) {C1 : CM} (hx : f_X4_fail 1 C = some C1) : f_X4_expect t C = some C1 := by
  unfold f_X4_expect
  rw [is_v hf, if_neg ht, if_pos rfl, hx, bnd_s]
theorem goes_no {q : Nat} (h : PZ L b Lw s d (q + 1) nw lc no C O) (hq : q < 40) (hT : ∀ t, t ∈ [42, 47, 43, 45] → ¬ C 404 2 = nI t) : f_X12_goesOn O = X12_goesOn_j65 (O.1 458 q) O := by
  obtain ⟨ts, f1, f2, g1, g2, hL, lw, kw, op, fn, wn, ln, on⟩ := h
  unfold f_X12_goesOn
  rw [top_v fn hq, bnd_s]
  by_cases k1 : O.1 446 17 = 3
  · rw [if_pos k1, if_neg (show ¬ O.1 446 18 = (43 : Int32) from fun e => hT 43 (by decide) ((tk_s ts.tk (g := 43) (o := 43) (by decide)).mpr ⟨k1, e⟩)), if_neg (show ¬ O.1 446 18 = (45 : Int32) from fun e => hT 45 (by decide) ((tk_s ts.tk (g := 45) (o := 45) (by decide)).mpr ⟨k1, e⟩)), if_neg (show ¬ O.1 446 18 = (42 : Int32) from fun e => hT 42 (by decide) ((tk_s ts.tk (g := 42) (o := 42) (by decide)).mpr ⟨k1, e⟩)), if_neg (show ¬ O.1 446 18 = (47 : Int32) from fun e => hT 47 (by decide) ((tk_s ts.tk (g := 47) (o := 47) (by decide)).mpr ⟨k1, e⟩))]
  · rw [if_neg k1]
def CMP : List (Nat × Nat) := [(60, 60), (62, 62), (61, 61), (35, 35), (4, 300), (5, 301)]
theorem cmp_w : ∀ w, w < 32 → f_X4_isComparison (nI (128 + w)) = 0 := by decide
theorem cmp_s : ∀ p, p ∈ SGN → (p ∈ CMP ∧ ¬ f_X4_isComparison (nI p.1) = 0 ∧ ¬ f_X12_isAsking (nI p.2) = 0) ∨ (f_X4_isComparison (nI p.1) = 0 ∧ f_X12_isAsking (nI p.2) = 0) := by decide
theorem ask_cmp (ts : TS L b s C O) : (∃ p, p ∈ CMP ∧ C 404 2 = nI p.1 ∧ O.1 446 17 = 3 ∧ O.1 446 18 = nI p.2 ∧ ¬ f_X4_isComparison (C 404 2) = 0 ∧ ¬ f_X12_isAsking (O.1 446 18) = 0) ∨ (f_X4_isComparison (C 404 2) = 0 ∧ (O.1 446 17 = 3 → f_X12_isAsking (O.1 446 18) = 0)) := by
  rcases ts.tk with ⟨a, a1⟩ | ⟨w', a1, a2, a3, a4⟩ | ⟨v, _, a, _, a1, _⟩ | ⟨a, a1 | ⟨a1, a2⟩⟩ | ⟨g, o, a1, a2, a3, a4⟩
  · exact Or.inr ⟨by rw [a]; decide, fun e => by rw [a1] at e; exact absurd e (by decide)⟩
  · exact Or.inr ⟨by rw [a2]; exact cmp_w w' a1, fun e => by rw [a3] at e; exact absurd e (by decide)⟩
  · exact Or.inr ⟨by rw [a]; decide, fun e => by rw [a1] at e; exact absurd e (by decide)⟩
  · exact Or.inr ⟨by rw [a]; decide, fun e => by rw [a1] at e; exact absurd e (by decide)⟩
  · exact Or.inr ⟨by rw [a]; decide, fun _ => by rw [a2]; decide⟩
  · rcases cmp_s _ a1 with ⟨k1, k2, k3⟩ | ⟨k1, k2⟩
    · exact Or.inl ⟨(g, o), k1, a2, a3, a4, by rw [a2]; exact k2, by rw [a4]; exact k3⟩
    · exact Or.inr ⟨by rw [a2]; exact k1, fun _ => by rw [a4]; exact k2⟩
theorem goes_bad {q F : Nat} (h : PZ L b Lw s d (q + 1) nw lc no C O) (hq : q < 40) (hF : O.1 458 q = nI F) (hT : ∀ t, t ∈ [42, 47, 43, 45] → ¬ C 404 2 = nI t)
    (hx : (F = 6 ∧ ¬ C 404 2 = nI 41) ∨ (F = 8 ∧ ¬ C 404 2 = nI 158) ∨ (F = 9 ∧ ¬ C 404 2 = nI 159) ∨ (F = 4 ∧ f_X4_isComparison (C 404 2) = 0) ∨ (F = 1 ∧ ¬ C 404 2 = nI 59)) : f_X12_goesOn O = some (oup (oup O 446 19 (nI 1)) 446 20 (nI s)) := by
  rw [goes_no h hq hT, hF]
  obtain ⟨ts, f1, f2, g1, g2, hL, lw, kw, op, fn, wn, ln, on⟩ := h
  have e346 : X12_goesOn_j346 O = some (oup (oup O 446 19 (nI 1)) 446 20 (nI s)) := by
    unfold X12_goesOn_j346
    rw [show (1 : Int32) = nI 1 from rfl, errs_v g1 ts.at.2, bnd_s]
  unfold X12_goesOn_j65 X12_goesOn_j116 X12_goesOn_j148 X12_goesOn_j217 X12_goesOn_j282
  rcases hx with ⟨rfl, hx⟩ | ⟨rfl, hx⟩ | ⟨rfl, hx⟩ | ⟨rfl, hx⟩ | ⟨rfl, hx⟩
  · have k := ts.sign 41 41 (by decide)
    rw [if_neg hx] at k
    have k' : f_X12_isSign 41 O = 0 := k
    rw [if_pos (show nI 6 = (6 : Int32) from rfl), if_pos k', if_neg (show ¬ nI 6 = (8 : Int32) by decide), if_neg (show ¬ nI 6 = (9 : Int32) by decide), if_neg (show ¬ nI 6 = (4 : Int32) by decide), if_neg (show ¬ nI 6 = (5 : Int32) by decide), if_neg (show ¬ nI 6 = (1 : Int32) by decide), e346]
  · have k := ts.word 30 (by decide)
    rw [if_neg hx] at k
    have k' : f_X12_isWord 22 O = 0 := k
    rw [if_neg (show ¬ nI 8 = (6 : Int32) by decide), if_pos (show nI 8 = (8 : Int32) from rfl), if_pos k', if_neg (show ¬ nI 8 = (9 : Int32) by decide), if_neg (show ¬ nI 8 = (4 : Int32) by decide), if_neg (show ¬ nI 8 = (5 : Int32) by decide), if_neg (show ¬ nI 8 = (1 : Int32) by decide), e346]
  · have k := ts.word 31 (by decide)
    rw [if_neg hx] at k
    have k' : f_X12_isWord 23 O = 0 := k
    rw [if_neg (show ¬ nI 9 = (6 : Int32) by decide), if_neg (show ¬ nI 9 = (8 : Int32) by decide), if_pos (show nI 9 = (9 : Int32) from rfl), if_pos k', if_neg (show ¬ nI 9 = (4 : Int32) by decide), if_neg (show ¬ nI 9 = (5 : Int32) by decide), if_neg (show ¬ nI 9 = (1 : Int32) by decide), e346]
  · have kk : O.1 446 17 = 3 → f_X12_isAsking (O.1 446 18) = 0 := by
      rcases ask_cmp ts with ⟨p, _, _, _, _, k5, _⟩ | ⟨_, k2⟩
      · exact absurd hx k5
      · exact k2
    rw [if_neg (show ¬ nI 4 = (6 : Int32) by decide), if_neg (show ¬ nI 4 = (8 : Int32) by decide), if_neg (show ¬ nI 4 = (9 : Int32) by decide), if_pos (show nI 4 = (4 : Int32) from rfl), if_neg (show ¬ nI 4 = (5 : Int32) by decide), if_neg (show ¬ nI 4 = (1 : Int32) by decide), e346]
    by_cases c : O.1 446 17 = 3
    · rw [if_pos c, if_pos (kk c)]
    · rw [if_neg c]
  · have k := ts.sign 59 59 (by decide)
    rw [if_neg hx] at k
    have k' : f_X12_isSign 59 O = 0 := k
    rw [if_neg (show ¬ nI 1 = (6 : Int32) by decide), if_neg (show ¬ nI 1 = (8 : Int32) by decide), if_neg (show ¬ nI 1 = (9 : Int32) by decide), if_neg (show ¬ nI 1 = (4 : Int32) by decide), if_neg (show ¬ nI 1 = (5 : Int32) by decide), if_pos (show nI 1 = (1 : Int32) from rfl), if_pos k', e346]
end
