/-! The reader: a part, from a nested one -/
theorem tk_v {tk vl so ti : Int32} (h : TK tk vl so ti) (e : tk = 2) : ∃ v, v < 10000000 ∧ vl = nI (min v 10000) ∧ ti = nI v := by
  rcases h with ⟨a, _⟩ | ⟨w', a1, a2, a3, a4⟩ | ⟨v, a0, a, a1, _, a2⟩ | ⟨a, _⟩ | ⟨g, o, a1, a2, _⟩
  · rw [a] at e; exact absurd e (by decide)
  · rw [a2] at e; have := (nI_eq (b := 2) (by omega) (by decide)).mp e; omega
  · exact ⟨v, a0, a1, a2⟩
  · rw [a] at e; exact absurd e (by decide)
  · have h2 : g < 128 := (sgn_a _ a1).2.2.2.1
    have h3 : g ≠ 2 := (sgn_a _ a1).2.2.1
    rw [a2] at e; exact absurd ((nI_eq (b := 2) (by omega) (by decide)).mp e) h3
theorem part_num {n d : Nat} {L : Nat} {b : Nat → Nat} {Lw s nf nw a fr m : Nat} {σ : List Bool} {C : CM} {O : OM} (h : PreP L b Lw s d nf nw a fr m σ C O) (h2 : C 404 2 = 2) :
    ∃ C1, RDf (n + 1) 2 (nI d) C = some C1 ∧ PostP L b Lw s d nf nw a fr m σ (PT s + 1) C O C1 := by
  have hp := h
  obtain ⟨⟨ts, f1, f2, g1, g2, hL, lw, kw, op, fn, wn, ln, on⟩, st, hs, hfr, n1, n2, n3, n4, n5, n6⟩ := h
  obtain ⟨v, v1, v2, v3⟩ := tk_v ts.tk h2
  have s2 := (tk_n ts.tk).mp h2
  have eC : RDf (n + 1) 2 (nI d) C = if C 404 3 ≤ 9999 then bnd2 (f_X6_emit 407 2 (C 404 3) C) (fun r C10 => bnd (f_X8_next C10) (fun C11 => some C11)) else bnd (f_X4_fail 2 C) (fun C17 => some C17) := by
    show f_X4_readPart (RDf n) (nI d) C = _
    unfold f_X4_readPart
    rw [is_v f1, is_v f1, is_v f1, is_v f1, is_v f1, h2, if_neg (show ¬ (2 : Int32) = 40 by decide), if_neg (show ¬ (2 : Int32) = 45 by decide), if_neg (show ¬ (2 : Int32) = 155 by decide), if_neg (show ¬ (2 : Int32) = 156 by decide), if_pos (show (2 : Int32) = 2 from rfl), if_pos rfl, if_pos rfl, if_pos rfl, if_pos rfl, if_neg n10]
  have eO : f_X12_begins O = if O.1 446 18 ≤ 9999 then bnd (f_X12_emits 400 (O.1 446 18) O) (fun O1 => bnd (f_X12_next O1) (fun O2 => bnd (f_X12_oneIsOver O2) (fun O3 => some O3))) else bnd (f_X12_errs 2 O) (fun O2 => some O2) := by
    unfold f_X12_begins
    rw [if_pos s2]
  rw [eC, v2, show (9999 : Int32) = nI 9999 from rfl]
  by_cases c : v ≤ 9999
  · have emin : min v 10000 = v := by omega
    rw [emin, if_pos (nI_le c (by decide))]
    refine part_leaf hp (by rw [h2]; decide) 2 (nI v) 400 (nI v) ?_ (fun c' o' v' q1 q2 q3 => Sg.num (by omega) c (by rw [q1, show (256 : Int32) = nI 256 from rfl, show (2 : Int32) = nI 2 from rfl, pk_mul, nI_add, Nat.mul_comm]) q2 q3)
    rw [eO, v3, show (9999 : Int32) = nI 9999 from rfl, if_pos (nI_le c (by decide))]
  · rw [if_neg (nI_ge (by omega) (by omega))]
    obtain ⟨C1, r1, r2⟩ := part_err (v := 2) hp (by decide) (by decide) (by rw [eO, v3, show (9999 : Int32) = nI 9999 from rfl, if_neg (nI_ge (by omega) (by omega))]; rfl)
    refine ⟨C1, ?_, r2⟩
    rw [show (2 : Int32) = nI 2 from rfl, r1]
    rfl
