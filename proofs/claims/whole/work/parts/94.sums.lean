/-! The reader: products and sums -/
def Gd1 (F : Nat) : Prop := F < 100 ∧ F ≠ 7 ∧ F ≠ 10 ∧ F ≠ 11
def ProdS (n d : Nat) : Prop := ∀ L b Lw s nf nw a fr m σ C O, PreQ 1 4 (2 * d + 1) (4 * d + 1) (5 * d + 1) Gd1 L b Lw s d nf nw a fr m σ C O → ∃ C1, RDf n 1 (nI d) C = some C1 ∧ PostQ 4 1 2 2 false [42, 47] L b Lw s d nf nw a fr m σ (PT s + 1) C O C1
def SumS (n d : Nat) : Prop := ∀ L b Lw s nf nw a fr m σ C O, PreQ 1 3 (2 * d + 1) (4 * d) (5 * d) Gd1 L b Lw s d nf nw a fr m σ C O → ∃ C1, RDf n 0 (nI d) C = some C1 ∧ PostQ 3 2 2 2 false [42, 47, 43, 45] L b Lw s d nf nw a fr m σ (PT s + 1) C O C1
theorem goesOn_w {T1 : List (Nat × Nat)} {L : Nat} {b : Nat → Nat} {nf : Nat} (h1 : 1 ≤ nf) (h2 : nf ≤ 40) (hT : ∀ p, p ∈ T1 → p = (42, 42) ∨ p = (47, 47) ∨ p = (43, 43) ∨ p = (45, 45)) : StepH 2 1 T1 L b nf := by
  intro p hp s C O ts h19 h28 h22 hc n
  obtain ⟨q, rfl⟩ : ∃ q, nf = q + 1 := ⟨nf - 1, by omega⟩
  rw [lp_2 h19 h28]
  have e : f_X12_goesOn O = bnd (f_X12_waitsFor (nI p.2) O) (fun O3 => some (oup O3 446 28 (nI 1))) := by
    unfold f_X12_goesOn X12_goesOn_j49
    rw [top_v h22 (by omega), bnd_s]
    rcases hT p hp with rfl | rfl | rfl | rfl
    · obtain ⟨k1, k2⟩ := (tk_s ts.tk (g := 42) (o := 42) (by decide)).mp hc
      rw [if_pos k1, k2, if_neg (by decide), if_neg (by decide), if_pos (by decide)]
      rfl
    · obtain ⟨k1, k2⟩ := (tk_s ts.tk (g := 47) (o := 47) (by decide)).mp hc
      rw [if_pos k1, k2, if_neg (by decide), if_neg (by decide), if_neg (by decide), if_pos (by decide)]
      rfl
    · obtain ⟨k1, k2⟩ := (tk_s ts.tk (g := 43) (o := 43) (by decide)).mp hc
      rw [if_pos k1, k2, if_pos (by decide)]
      rfl
    · obtain ⟨k1, k2⟩ := (tk_s ts.tk (g := 45) (o := 45) (by decide)).mp hc
      rw [if_pos k1, k2, if_neg (by decide), if_pos (by decide)]
      rfl
  rw [e]
theorem T42 : ∀ p, p ∈ [(42, 42), (47, 47)] → p.1 < 256 ∧ p.1 ≠ 1 ∧ p.2 < 1000 ∧ rk p.2 = 4 := by decide
theorem T43 : ∀ p, p ∈ [(43, 43), (45, 45)] → p.1 < 256 ∧ p.1 ≠ 1 ∧ p.2 < 1000 ∧ rk p.2 = 3 := by decide
theorem A42 : ∀ p, p ∈ [(42, 42), (47, 47)] → (p = (42, 42) ∨ p = (47, 47)) := by decide
theorem A43 : ∀ p, p ∈ [(43, 43), (45, 45)] → (p = (43, 43) ∨ p = (45, 45)) := by decide
theorem prod_lf {k : Nat} {d : Int32} : ∀ n i C, ¬ C 406 1 = 0 → X4_readProduct_l7 (RDf k) (n + 1) d (nI i) C = some C := by
  intro n i C hf
  rw [X4_readProduct_l7]
  by_cases c : (300 : Int32) ≤ nI i
  · rw [if_pos c]
  · rw [if_neg c, is_f hf, if_pos (by rfl), is_f hf, if_pos (by rfl)]
theorem prod_ln {k : Nat} {d : Int32} : ∀ n i C, C 406 1 = 0 → (∀ p, p ∈ [(42, 42), (47, 47)] → ¬ C 404 2 = nI p.1) → X4_readProduct_l7 (RDf k) (n + 1) d (nI i) C = some C := by
  intro n i C hf hn
  have h1 : ¬ C 404 2 = (42 : Int32) := hn (42, 42) (by decide)
  have h2 : ¬ C 404 2 = (47 : Int32) := hn (47, 47) (by decide)
  rw [X4_readProduct_l7, is_v hf, is_v hf, if_neg h1, if_neg h2, if_pos rfl, if_pos rfl]
  by_cases c : (300 : Int32) ≤ nI i
  · rw [if_pos c]
  · rw [if_neg c]
theorem prod_ly {k : Nat} {d : Int32} : ∀ n i C (p : Nat × Nat), i < 300 → C 406 1 = 0 → p ∈ [(42, 42), (47, 47)] → C 404 2 = nI p.1 → X4_readProduct_l7 (RDf k) (n + 1) d (nI i) C = bnd (f_X8_next C) (fun C2 => bnd (RDf k 2 d C2) (fun C3 => bnd2 (f_X6_emit 407 (nI p.1) 0 C3) (fun _ C4 => X4_readProduct_l7 (RDf k) n d (nI (i + 1)) C4))) := by
  intro n i C p hi hf hp hc
  rw [X4_readProduct_l7, if_neg (show ¬ (300 : Int32) ≤ nI i from nI_ge hi (by decide)), is_v hf, is_v hf]
  unfold X4_readProduct_j32
  rw [nI_1]
  rcases A42 p hp with rfl | rfl
  · rw [hc, if_neg (show ¬ (if nI 42 = (42 : Int32) then (1 : Int32) else 0) = 0 by decide)]
  · rw [hc, if_pos (show (if nI 47 = (42 : Int32) then (1 : Int32) else 0) = 0 by decide), if_neg (show ¬ (if nI 47 = (47 : Int32) then (1 : Int32) else 0) = 0 by decide)]
theorem sum_lf {k : Nat} {d : Int32} : ∀ n i C, ¬ C 406 1 = 0 → X4_readSum_l7 (RDf k) (n + 1) d (nI i) C = some C := by
  intro n i C hf
  rw [X4_readSum_l7]
  by_cases c : (300 : Int32) ≤ nI i
  · rw [if_pos c]
  · rw [if_neg c, is_f hf, if_pos (by rfl), is_f hf, if_pos (by rfl)]
theorem sum_ln {k : Nat} {d : Int32} : ∀ n i C, C 406 1 = 0 → (∀ p, p ∈ [(43, 43), (45, 45)] → ¬ C 404 2 = nI p.1) → X4_readSum_l7 (RDf k) (n + 1) d (nI i) C = some C := by
  intro n i C hf hn
  have h1 : ¬ C 404 2 = (43 : Int32) := hn (43, 43) (by decide)
  have h2 : ¬ C 404 2 = (45 : Int32) := hn (45, 45) (by decide)
  rw [X4_readSum_l7, is_v hf, is_v hf, if_neg h1, if_neg h2, if_pos rfl, if_pos rfl]
  by_cases c : (300 : Int32) ≤ nI i
  · rw [if_pos c]
  · rw [if_neg c]
theorem sum_ly {k : Nat} {d : Int32} : ∀ n i C (p : Nat × Nat), i < 300 → C 406 1 = 0 → p ∈ [(43, 43), (45, 45)] → C 404 2 = nI p.1 → X4_readSum_l7 (RDf k) (n + 1) d (nI i) C = bnd (f_X8_next C) (fun C2 => bnd (RDf k 1 d C2) (fun C3 => bnd2 (f_X6_emit 407 (nI p.1) 0 C3) (fun _ C4 => X4_readSum_l7 (RDf k) n d (nI (i + 1)) C4))) := by
  intro n i C p hi hf hp hc
  rw [X4_readSum_l7, if_neg (show ¬ (300 : Int32) ≤ nI i from nI_ge hi (by decide)), is_v hf, is_v hf]
  unfold X4_readSum_j32
  rw [nI_1]
  rcases A43 p hp with rfl | rfl
  · rw [hc, if_neg (show ¬ (if nI 43 = (43 : Int32) then (1 : Int32) else 0) = 0 by decide)]
  · rw [hc, if_pos (show (if nI 45 = (43 : Int32) then (1 : Int32) else 0) = 0 by decide), if_neg (show ¬ (if nI 45 = (45 : Int32) then (1 : Int32) else 0) = 0 by decide)]
/-- a part as an operand -/
theorem part_q {n d : Nat} (hd : d ≤ 8) (hP : PartS n d) {L : Nat} {b : Nat → Nat} {Lw s nf nw a fr m : Nat} {σ : List Bool} {C : CM} {O : OM} (h : PreQ 1 5 (2 * d + 1) (4 * d + 1 + 1) (5 * d + 1 + 1) Gd1 L b Lw s d nf nw a fr m σ C O) :
    ∃ C1, RDf n 2 (nI d) C = some C1 ∧ PostQ 5 0 2 2 false [] L b Lw s d nf nw a fr m σ (PT s + 1) C O C1 := by
  obtain ⟨p1, p2, p3, p4, p5, p6, p7, p8, p9, F, p10, p11, p12, p13, p14⟩ := h
  obtain ⟨C1, r1, r2⟩ := hP L b Lw s nf nw a fr m σ C O ⟨p1, p2, p3, p4, p5, p6, by omega, by omega, hd, p9⟩
  refine ⟨C1, r1, ?_⟩
  rcases r2 with r2 | ⟨O1, s1, m1, k1, k2, k3, k4, k5, k6⟩
  · exact Or.inl r2
  · obtain ⟨q, rfl⟩ : ∃ q, nf = q + 1 := ⟨nf - 1, by omega⟩
    have k2' := k2
    obtain ⟨-, -, -, -, -, -, -, -, -, fn, -, -, -⟩ := k2'
    have hF : O1.1 458 q = nI F := by rw [k3.2.2.1 q (by omega)]; exact p10
    have go := k1.go (one_good fn (by omega) hF p11 p12 p13 p14)
    refine Or.inr ⟨_, s1, m1, fr + m1, [], go, o2s, k2.st, by rfl, by omega, k3.trans (KPR.o (nf := q + 1) (nw := nw) (lc := a + m) (no := fr + m) (c := 446) (k := 28) (by omega)) (Nat.le_refl _) (Nat.le_refl _) (Nat.le_refl _) (Nat.le_refl _), True.intro, Nat.le_refl _, PDk.nil, k4, k5, k6.mono (fun i b1 b2 => ⟨rfl, ?_, ?_⟩), fun t ht => by cases ht⟩
    · unfold vo
      rw [if_pos (by omega), oup_ne (by decide)]
    · unfold vv
      rw [if_pos (by omega), oup_ne (by decide)]
theorem prod_s {n d : Nat} (hd : d ≤ 8) (hP : PartS n d) : ProdS (n + 1) d := by
  intro L b Lw s nf nw a fr m σ C O h
  exact level_g (r := 4) (B := 0) (S := 2) (S0 := 1) (e := 2) (e0 := 1) (N := 2 * d + 1) (W := 4 * d + 1) (X := 5 * d + 1) (τ := false) (T0 := []) (T1 := [(42, 42), (47, 47)]) (Gd := Gd1) (rec := RDf n 2 (nI d)) (lf := fun k i C => X4_readProduct_l7 (RDf n) k (nI d) (nI i) C) (fn := RDf (n + 1) 1 (nI d)) (fun C => rfl) (by omega) (by omega) (by omega) (by omega) (by omega) (by omega) T42 prod_lf prod_ln prod_ly (goesOn_w h.2.2.2.2.1 (by have := h.2.2.2.2.2.1; omega) (fun p hp => by rcases A42 p hp with e | e; exact Or.inl e; exact Or.inr (Or.inl e))) (fun s nw m σ C O h => part_q hd hP h)
    (fun p hp m σ c o v h1 h2 h3 => by
      rcases A42 p hp with rfl | rfl
      · exact Sg.ar h1 (Or.inr (Or.inr (Or.inl rfl))) h2 h3
      · exact Sg.ar h1 (Or.inr (Or.inr (Or.inr rfl))) h2 h3) h
theorem sum_s {n d : Nat} (hd : d ≤ 8) (hP : ProdS n d) : SumS (n + 1) d := by
  intro L b Lw s nf nw a fr m σ C O h
  exact level_g (r := 3) (B := 1) (S := 2) (S0 := 1) (e := 2) (e0 := 1) (N := 2 * d + 1) (W := 4 * d) (X := 5 * d) (τ := false) (T0 := [42, 47]) (T1 := [(43, 43), (45, 45)]) (Gd := Gd1) (rec := RDf n 1 (nI d)) (lf := fun k i C => X4_readSum_l7 (RDf n) k (nI d) (nI i) C) (fn := RDf (n + 1) 0 (nI d)) (fun C => rfl) (by omega) (by omega) (by omega) (by omega) (by omega) (by omega) T43 sum_lf sum_ln sum_ly (goesOn_w h.2.2.2.2.1 (by have := h.2.2.2.2.2.1; omega) (fun p hp => by rcases A43 p hp with e | e; exact Or.inr (Or.inr (Or.inl e)); exact Or.inr (Or.inr (Or.inr e)))) (fun s nw m σ C O h => hP L b Lw s nf nw a fr m σ C O h)
    (fun p hp m σ c o v h1 h2 h3 => by
      rcases A43 p hp with rfl | rfl
      · exact Sg.ar h1 (Or.inl rfl) h2 h3
      · exact Sg.ar h1 (Or.inr (Or.inl rfl)) h2 h3) h
