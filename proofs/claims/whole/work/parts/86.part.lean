/-! The reader: names on both sides, what a part ends in -/
theorem nameY {L s : Nat} {b : Nat → Nat} {C : CM} {O : OM} (h : TS L b s C O) {t : Nat} (ht : t < 10) (hc : C 404 2 = nI (139 + t)) : f_X12_nameNow O = nI (nmR t) ∧ ¬ f_X12_nameNow O = -1 := by
  have e : nI (139 + t) = nI (128 + (11 + t)) := by rw [show 128 + (11 + t) = 139 + t by omega]
  obtain ⟨h1, h2⟩ := (tk_w h.tk (w := 11 + t) (by omega)).mp (by rw [hc, e])
  have : f_X12_nameNow O = nI (nmR t) := by
    unfold f_X12_nameNow
    rw [if_pos h1, h2]
    clear h2 e hc h1
    revert t
    decide
  refine ⟨this, ?_⟩
  rw [this]
  clear this h2 e hc h1
  revert t
  decide
theorem mayY : ∀ Lw, Lw < 4 → ∀ t, t < 10 → f_X12_mayName (nI (nmR t)) (nI Lw) = if mayL Lw t then 1 else 0 := by decide
theorem ofL {C : CM} {Lw t : Nat} (hL : Lw < 4) (ht : t < 10) (lw : C 406 4 = nI (128 + Lw)) : f_X4_isOfLaw (nI (139 + t)) C = if mayL Lw t then 1 else 0 := by
  unfold f_X4_isOfLaw X4_isOfLaw_j72 X4_isOfLaw_j114
  rw [lw]
  clear lw
  revert t
  revert Lw
  decide
def PostP (L : Nat) (b : Nat → Nat) (Lw s d nf nw a fr m : Nat) (σ : List Bool) (A : Nat) (C : CM) (O : OM) (C1 : CM) : Prop :=
  EF A C O C1 ∨ ∃ O1 s1 m1, MD f_X12_oneIsOver A O (PT s1 + 2) O1 ∧ PZ L b Lw s1 d nf nw (a + m1) (fr + m1) C1 O1 ∧ KPR nf nw (a + m) (fr + m) C O C1 O1 ∧ m < m1 ∧ m1 + s ≤ m + s1 ∧ Sg a fr Lw m m1 σ (false :: σ) (C1 408) (O1.1 468) (O1.1 469)
def PreP (L : Nat) (b : Nat → Nat) (Lw s d nf nw a fr m : Nat) (σ : List Bool) (C : CM) (O : OM) : Prop :=
  PZ L b Lw s d nf nw (a + m) (fr + m) C O ∧ O.1 446 28 = 1 ∧ a + m ≤ s ∧ fr ≤ a + 24 ∧ 1 ≤ nf ∧ nf ≤ 2 * d + 1 ∧ nw ≤ 4 * d + 2 ∧ σ.length ≤ 5 * d + 2 ∧ d ≤ 8 ∧ WB 5 nf nw O
def PartS (n d : Nat) : Prop := ∀ L b Lw s nf nw a fr m σ C O, PreP L b Lw s d nf nw a fr m σ C O → ∃ C1, RDf n 2 (nI d) C = some C1 ∧ PostP L b Lw s d nf nw a fr m σ (PT s + 1) C O C1
def NestS (n d : Nat) : Prop := ∀ L b Lw s nf nw a fr m σ C O, PreP L b Lw s d nf nw a fr m σ C O → (C 404 2 = nI 40 ∨ C 404 2 = nI 45 ∨ C 404 2 = nI 155 ∨ C 404 2 = nI 156) → ∃ C1, RDf n 3 (nI d) C = some C1 ∧ PostP L b Lw s d nf nw a fr m σ (PT s + 1) C O C1
/-- an error that begins makes -/
theorem part_err {L : Nat} {b : Nat → Nat} {Lw s d nf nw a fr m v : Nat} {σ : List Bool} {C : CM} {O : OM} (h : PreP L b Lw s d nf nw a fr m σ C O) (hv : 1 ≤ v) (hv6 : v ≤ 6) (hb : f_X12_begins O = bnd (f_X12_errs (nI v) O) (fun O2 => some O2)) :
    ∃ C1, f_X4_fail (nI v) C = some C1 ∧ PostP L b Lw s d nf nw a fr m σ (PT s + 1) C O C1 := by
  obtain ⟨⟨ts, f1, f2, g1, g2, hL, lw, kw, op, fn, wn, ln, on⟩, st, hs, hfr, _⟩ := h
  obtain ⟨t1, t2⟩ := ts.at
  have hle := ts.le
  refine ⟨_, fail_v f1 t1, Or.inl (EF.made hv hv6 (RC.one (fun n => lp_1 g1 st) (by rw [hb, errs_v g1 t2]; rfl) (by omega)) FrQ.refl ⟨a + m, by omega, ln⟩)⟩
/-- a step of code that begins makes -/
theorem part_leaf {L : Nat} {b : Nat → Nat} {Lw s d nf nw a fr m : Nat} {σ : List Bool} {C : CM} {O : OM} (h : PreP L b Lw s d nf nw a fr m σ C O) (hn : ¬ C 404 2 = 1) (t v o w : Int32)
    (hb : f_X12_begins O = bnd (f_X12_emits o w O) (fun O1 => bnd (f_X12_next O1) (fun O2 => bnd (f_X12_oneIsOver O2) (fun O3 => some O3))))
    (hsg : ∀ c o' v' : Nat → Int32, c (a + m) = v * 256 + t → o' (fr + m) = o → v' (fr + m) = w → Sg a fr Lw m (m + 1) σ (false :: σ) c o' v') :
    ∃ C1, bnd2 (f_X6_emit 407 t v C) (fun r C10 => bnd (f_X8_next C10) (fun C11 => some C11)) = some C1 ∧ PostP L b Lw s d nf nw a fr m σ (PT s + 1) C O C1 := by
  obtain ⟨hz, st, hs, hfr, h1, h2, h3, h4, h5, h6⟩ := h
  obtain ⟨ts, f1, f2, g1, g2, hL, lw, kw, op, fn, wn, ln, on⟩ := hz
  have hle := ts.lt hn
  obtain ⟨C1, O1, C2, O2, s1, e1, e2, e3, e4, e5, e6, e7, e8, e9, e10⟩ := leaf ⟨ts, f1, f2, g1, g2, hL, lw, kw, op, fn, wn, ln, on⟩ hn hs (by omega) t v o w
  have hle2 := e6.1.le
  refine ⟨C2, by rw [e1, bnd2_s, e2, bnd_s], Or.inr ⟨O2, s1, m + 1, ?_, e6, e7, by omega, by omega, hsg _ _ _ e8 e9 e10⟩⟩
  refine MD.one (fun n => lp_1 g1 st) (f := f_X12_oneIsOver) (g := f_X12_begins) ?_ (by unfold PT; omega)
  rw [hb, e3, bnd_s, e4, bnd_s]
  cases f_X12_oneIsOver O2 <;> rfl
