/-! The reader: a part is of one of the kinds -/
theorem withinN {x : Int32} (h : ∀ t, t < 10 → ¬ x = nI (139 + t)) : f_X11_within x 139 148 = 0 := by
  unfold f_X11_within
  by_cases c : x < 139
  · rw [if_pos c]
  · rw [if_neg c]
    by_cases c2 : (148 : Int32) < x
    · rw [if_pos c2]
    · exfalso
      rcases pk_ix x (n := 149) (by decide) with g | g | ⟨j, g1, g2⟩
      · exact c (Int32.lt_of_lt_of_le g (by decide))
      · exact c2 (Int32.lt_of_lt_of_le (by decide) g)
      · rw [g2] at c
        have hj : 139 ≤ j := by
          by_cases hj : 139 ≤ j
          · exact hj
          · exact absurd (nI_lt (show j < 139 by omega) (by decide)) c
        exact h (j - 139) (by omega) (by rw [g2, show 139 + (j - 139) = j by omega])
theorem name_no : ∀ w, w < 32 → (w < 11 ∨ 20 < w) → (if nI (wm w) = (11 : Int32) then (1 : Int32) else if nI (wm w) = (12 : Int32) then 4 else if nI (wm w) = (24 : Int32) then 0 else if nI (wm w) = (25 : Int32) then 2 else if nI (wm w) = (26 : Int32) then 3 else if nI (wm w) < (27 : Int32) then -1 else nI (wm w) - 27 + 5) = -1 := by decide
theorem nameN {L s : Nat} {b : Nat → Nat} {C : CM} {O : OM} (h : TS L b s C O) (hno : ∀ t, t < 10 → ¬ C 404 2 = nI (139 + t)) : f_X12_nameNow O = -1 := by
  unfold f_X12_nameNow
  by_cases c : O.1 446 17 = 1
  · rw [if_pos c]
    rcases h.tk with ⟨_, a⟩ | ⟨w', a1, a2, a3, a4⟩ | ⟨v, _, _, _, a, _⟩ | ⟨_, a | ⟨a, _⟩⟩ | ⟨g', o', _, _, a, _⟩
    · rw [a] at c; exact absurd c (by decide)
    · rw [a4]
      refine name_no w' a1 ?_
      by_cases c1 : w' < 11
      · exact Or.inl c1
      · by_cases c2 : 20 < w'
        · exact Or.inr c2
        · exact absurd (by rw [a2, show 139 + (w' - 11) = 128 + w' by omega]) (hno (w' - 11) (by omega))
    · rw [a] at c; exact absurd c (by decide)
    · rw [a] at c; exact absurd c (by decide)
    · rw [a] at c; exact absurd c (by decide)
    · rw [a] at c; exact absurd c (by decide)
  · rw [if_neg c]
theorem part_oth {n d : Nat} {L : Nat} {b : Nat → Nat} {Lw s nf nw a fr m : Nat} {σ : List Bool} {C : CM} {O : OM} (h : PreP L b Lw s d nf nw a fr m σ C O) (hno : ∀ t, t < 10 → ¬ C 404 2 = nI (139 + t)) (h2 : ¬ C 404 2 = 2) (h40 : ¬ C 404 2 = nI 40) (h45 : ¬ C 404 2 = nI 45) (h155 : ¬ C 404 2 = nI 155) (h156 : ¬ C 404 2 = nI 156) :
    ∃ C1, RDf (n + 1) 2 (nI d) C = some C1 ∧ PostP L b Lw s d nf nw a fr m σ (PT s + 1) C O C1 := by
  have hp := h
  obtain ⟨⟨ts, f1, f2, g1, g2, hL, lw, kw, op, fn, wn, ln, on⟩, st, hs, hfr, n1, n2, n3, n4, n5, n6⟩ := h
  have eC : RDf (n + 1) 2 (nI d) C = bnd (f_X4_fail 1 C) (fun C12 => some C12) := by
    show f_X4_readPart (RDf n) (nI d) C = _
    unfold f_X4_readPart
    rw [is_v f1, is_v f1, is_v f1, is_v f1, is_v f1, if_neg (show ¬ C 404 2 = (40 : Int32) from h40), if_neg (show ¬ C 404 2 = (45 : Int32) from h45), if_neg (show ¬ C 404 2 = (155 : Int32) from h155), if_neg (show ¬ C 404 2 = (156 : Int32) from h156), if_neg h2, if_pos rfl, if_pos rfl, if_pos rfl, if_pos rfl, if_pos rfl, if_pos (withinN hno)]
  have w20 := ts.word 28 (by decide)
  have w19 := ts.word 27 (by decide)
  have s40 := ts.sign 40 40 (by decide)
  have s45 := ts.sign 45 45 (by decide)
  rw [if_neg h156] at w20
  rw [if_neg h155] at w19
  rw [if_neg h40] at s40
  rw [if_neg h45] at s45
  have w20' : f_X12_isWord 20 O = 0 := w20
  have w19' : f_X12_isWord 19 O = 0 := w19
  have s40' : f_X12_isSign 40 O = 0 := s40
  have s45' : f_X12_isSign 45 O = 0 := s45
  have eO : f_X12_begins O = bnd (f_X12_errs (nI 1) O) (fun O2 => some O2) := by
    unfold f_X12_begins
    rw [if_neg (fun e => h2 ((tk_n ts.tk).mpr e)), if_pos (nameN ts hno), w20', s40', s45', w19', if_pos rfl, if_pos rfl, if_pos rfl, if_pos rfl]
    rfl
  obtain ⟨C1, r1, r2⟩ := part_err (v := 1) hp (by decide) (by decide) eO
  exact ⟨C1, by rw [eC, show (1 : Int32) = nI 1 from rfl, r1]; rfl, r2⟩
theorem part_s {n d : Nat} (hN : NestS n d) : PartS (n + 1) d := by
  intro L b Lw s nf nw a fr m σ C O h
  by_cases h2 : C 404 2 = 2
  · exact part_num h h2
  · by_cases hn : ∃ t, t < 10 ∧ C 404 2 = nI (139 + t)
    · obtain ⟨t, t1, t2⟩ := hn
      exact part_name h t1 t2
    · by_cases hx : C 404 2 = nI 40 ∨ C 404 2 = nI 45 ∨ C 404 2 = nI 155 ∨ C 404 2 = nI 156
      · obtain ⟨C1, r1, r2⟩ := hN L b Lw s nf nw a fr m σ C O h hx
        refine ⟨C1, ?_, r2⟩
        have f1 : C 406 1 = 0 := h.1.2.1
        show f_X4_readPart (RDf n) (nI d) C = _
        unfold f_X4_readPart X4_readPart_j38
        rw [r1, bnd_s, is_v f1, is_v f1, is_v f1, is_v f1]
        by_cases c1 : C 404 2 = 40
        · rw [if_pos c1, if_neg n10]
        · rw [if_neg c1, if_pos rfl]
          by_cases c2 : C 404 2 = 45
          · rw [if_pos c2, if_neg n10]
          · rw [if_neg c2, if_pos rfl]
            by_cases c3 : C 404 2 = 155
            · rw [if_pos c3, if_neg n10]
            · rw [if_neg c3, if_pos rfl]
              by_cases c4 : C 404 2 = 156
              · rw [if_pos c4, if_neg n10]
              · exfalso
                rcases hx with e | e | e | e
                · exact c1 e
                · exact c2 e
                · exact c3 e
                · exact c4 e
      · exact part_oth h (fun t ht e => hn ⟨t, ht, e⟩) h2 (fun e => hx (Or.inl e)) (fun e => hx (Or.inr (Or.inl e))) (fun e => hx (Or.inr (Or.inr (Or.inl e)))) (fun e => hx (Or.inr (Or.inr (Or.inr e))))
