/-! The reader: a part that is a name, or nothing of all -/
theorem withinY {t : Nat} (h : 139 ≤ t) (h2 : t ≤ 148) : ¬ f_X11_within (nI t) 139 148 = 0 := by
  unfold f_X11_within
  rw [show (139 : Int32) = nI 139 from rfl, show (148 : Int32) = nI 148 from rfl, if_neg (nI_nlt h (by omega)), if_neg (nI_nlt h2 (by decide))]
  decide
theorem part_name {n d : Nat} {L : Nat} {b : Nat → Nat} {Lw s nf nw a fr m t : Nat} {σ : List Bool} {C : CM} {O : OM} (h : PreP L b Lw s d nf nw a fr m σ C O) (ht : t < 10) (h2 : C 404 2 = nI (139 + t)) :
    ∃ C1, RDf (n + 1) 2 (nI d) C = some C1 ∧ PostP L b Lw s d nf nw a fr m σ (PT s + 1) C O C1 := by
  have hp := h
  obtain ⟨⟨ts, f1, f2, g1, g2, hL, lw, kw, op, fn, wn, ln, on⟩, st, hs, hfr, n1, n2, n3, n4, n5, n6⟩ := h
  have ne : ∀ k : Nat, k < 1000 → k ≠ 139 + t → ¬ nI (139 + t) = nI k := fun k hk hne e => hne ((nI_eq (by omega) (by omega)).mp e).symm
  have s1 : O.1 446 17 = 1 := ((tk_w ts.tk (w := 11 + t) (by omega)).mp (by rw [h2, show 128 + (11 + t) = 139 + t by omega])).1
  obtain ⟨nm1, nm2⟩ := nameY ts ht h2
  have eC : RDf (n + 1) 2 (nI d) C = if mayL Lw t then bnd2 (f_X6_emit 407 (nI (139 + t)) 0 C) (fun r C10 => bnd (f_X8_next C10) (fun C11 => some C11)) else bnd (f_X4_fail 5 C) (fun C12 => some C12) := by
    show f_X4_readPart (RDf n) (nI d) C = _
    unfold f_X4_readPart
    rw [is_v f1, is_v f1, is_v f1, is_v f1, is_v f1, h2, if_neg (show ¬ nI (139 + t) = (40 : Int32) from ne 40 (by decide) (by omega)), if_neg (show ¬ nI (139 + t) = (45 : Int32) from ne 45 (by decide) (by omega)), if_neg (show ¬ nI (139 + t) = (155 : Int32) from ne 155 (by decide) (by omega)), if_neg (show ¬ nI (139 + t) = (156 : Int32) from ne 156 (by decide) (by omega)), if_neg (show ¬ nI (139 + t) = (2 : Int32) from ne 2 (by decide) (by omega)), if_pos rfl, if_pos rfl, if_pos rfl, if_pos rfl, if_pos rfl, if_neg (withinY (by omega) (by omega)), ofL hL ht lw, if_pos f1]
    cases mayL Lw t <;> rfl
  have eO : f_X12_begins O = if mayL Lw t then bnd (f_X12_emits 401 (nI (nmR t)) O) (fun O1 => bnd (f_X12_next O1) (fun O2 => bnd (f_X12_oneIsOver O2) (fun O3 => some O3))) else bnd (f_X12_errs 5 O) (fun O2 => some O2) := by
    unfold f_X12_begins
    rw [if_neg (by rw [s1]; decide), if_neg nm2, nm1, kw, mayY Lw hL t ht]
    cases mayL Lw t <;> rfl
  rw [eC]
  cases hm : mayL Lw t
  · rw [if_neg (by decide)]
    obtain ⟨C1, r1, r2⟩ := part_err (v := 5) hp (by decide) (by decide) (by rw [eO, hm]; rfl)
    refine ⟨C1, ?_, r2⟩
    rw [show (5 : Int32) = nI 5 from rfl, r1]
    rfl
  · rw [if_pos rfl]
    refine part_leaf hp (by rw [h2]; exact ne 1 (by decide) (by omega)) (nI (139 + t)) 0 401 (nI (nmR t)) ?_ (fun c' o' v' q1 q2 q3 => Sg.nam (by omega) ht hm (by rw [q1, Int32.zero_mul, Int32.zero_add]) q2 q3)
    rw [eO, hm, if_pos rfl]
