/-! The reader: what the token is, on both sides; waits that are worked off -/
theorem sgn_a : ∀ p, p ∈ SGN → p.1 ≠ 0 ∧ p.1 ≠ 1 ∧ p.1 ≠ 2 ∧ p.1 < 128 ∧ p.2 ≠ 44 ∧ p.2 < 1000 := by decide
theorem sgn_f : ∀ p, p ∈ SGN → ∀ q, q ∈ SGN → p.1 = q.1 → p.2 = q.2 := by decide
theorem sgn_g : ∀ p, p ∈ SGN → ∀ q, q ∈ SGN → p.2 = q.2 → p.1 = q.1 := by decide
theorem wm_inj {w w' : Nat} (h : w < 32) (h' : w' < 32) (e : wm w = wm w') : w = w' := by
  unfold wm at e
  by_cases c1 : w < 13
  · rw [if_pos c1] at e
    by_cases c2 : w' < 13
    · rw [if_pos c2] at e; exact e
    · rw [if_neg c2] at e
      by_cases c3 : w' < 21
      · rw [if_pos c3] at e; omega
      · rw [if_neg c3] at e; omega
  · rw [if_neg c1] at e
    by_cases c2 : w' < 13
    · rw [if_pos c2] at e
      by_cases c3 : w < 21
      · rw [if_pos c3] at e; omega
      · rw [if_neg c3] at e; omega
    · rw [if_neg c2] at e
      by_cases c3 : w < 21
      · rw [if_pos c3] at e
        by_cases c4 : w' < 21
        · rw [if_pos c4] at e; omega
        · rw [if_neg c4] at e; omega
      · rw [if_neg c3] at e
        by_cases c4 : w' < 21
        · rw [if_pos c4] at e; omega
        · rw [if_neg c4] at e; omega
section
variable {tk vl so ti : Int32} (h : TK tk vl so ti)
theorem tk_w (h : TK tk vl so ti) {w : Nat} (hw : w < 32) : tk = nI (128 + w) ↔ (so = 1 ∧ ti = nI (wm w)) := by
  have hm := wm_lt hw
  constructor
  · intro e
    rcases h with ⟨a, _⟩ | ⟨w', a1, a2, a3, a4⟩ | ⟨v, _, a, _⟩ | ⟨a, _⟩ | ⟨g, o, a1, a2, _⟩
    · rw [a] at e; have := (nI_eq (a := 1) (by decide) (by omega)).mp e; omega
    · rw [a2] at e; have := (nI_eq (by omega) (by omega)).mp e
      have e2 : w' = w := by omega
      subst e2
      exact ⟨a3, a4⟩
    · rw [a] at e; have := (nI_eq (a := 2) (by decide) (by omega)).mp e; omega
    · rw [a] at e; have := (nI_eq (a := 0) (by decide) (by omega)).mp e; omega
    · have := (sgn_a _ a1).2.2.2.1
      have h2 : g < 128 := this
      rw [a2] at e; have := (nI_eq (by omega) (by omega)).mp e; omega
  · rintro ⟨e1, e2⟩
    rcases h with ⟨_, a⟩ | ⟨w', a1, a2, a3, a4⟩ | ⟨v, _, _, _, a, _⟩ | ⟨_, a | ⟨a, _⟩⟩ | ⟨g, o, _, _, a, _⟩
    · rw [a] at e1; exact absurd e1 (by decide)
    · have hm' := wm_lt a1
      rw [a4] at e2
      have := wm_inj a1 hw ((nI_eq (by omega) (by omega)).mp e2)
      rw [a2, this]
    · rw [a] at e1; exact absurd e1 (by decide)
    · rw [a] at e1; exact absurd e1 (by decide)
    · rw [a] at e1; exact absurd e1 (by decide)
    · rw [a] at e1; exact absurd e1 (by decide)
theorem tk_s (h : TK tk vl so ti) {g o : Nat} (hg : (g, o) ∈ SGN) : tk = nI g ↔ (so = 3 ∧ ti = nI o) := by
  obtain ⟨q1, q2, q3, q4, q5, q6⟩ := sgn_a _ hg
  have q1 : g ≠ 0 := q1
  have q2 : g ≠ 1 := q2
  have q3 : g ≠ 2 := q3
  have q4 : g < 128 := q4
  have q5 : o ≠ 44 := q5
  have q6 : o < 1000 := q6
  constructor
  · intro e
    rcases h with ⟨a, _⟩ | ⟨w', a1, a2, a3, a4⟩ | ⟨v, _, a, _⟩ | ⟨a, _⟩ | ⟨g', o', a1, a2, a3, a4⟩
    · rw [a] at e; have := (nI_eq (a := 1) (by decide) (by omega)).mp e; omega
    · rw [a2] at e; have := (nI_eq (by omega) (by omega)).mp e; omega
    · rw [a] at e; have := (nI_eq (a := 2) (by decide) (by omega)).mp e; omega
    · rw [a] at e; have := (nI_eq (a := 0) (by decide) (by omega)).mp e; omega
    · have h2 : g' < 128 := (sgn_a _ a1).2.2.2.1
      rw [a2] at e
      have e3 := sgn_f _ a1 _ hg ((nI_eq (by omega) (by omega)).mp e)
      have e4 : o' = o := e3
      exact ⟨a3, by rw [a4, e4]⟩
  · rintro ⟨e1, e2⟩
    rcases h with ⟨_, a⟩ | ⟨w', a1, a2, a3, a4⟩ | ⟨v, _, _, _, a, _⟩ | ⟨_, a | ⟨_, a⟩⟩ | ⟨g', o', a1, a2, a3, a4⟩
    · rw [a] at e1; exact absurd e1 (by decide)
    · rw [a3] at e1; exact absurd e1 (by decide)
    · rw [a] at e1; exact absurd e1 (by decide)
    · rw [a] at e1; exact absurd e1 (by decide)
    · rw [a] at e2; have := (nI_eq (a := 44) (by decide) (by omega)).mp e2; omega
    · have h2 : o' < 1000 := (sgn_a _ a1).2.2.2.2.2
      rw [a4] at e2
      have e3 := sgn_g _ a1 _ hg ((nI_eq (by omega) (by omega)).mp e2)
      have e4 : g' = g := e3
      rw [a2, e4]
theorem tk_n (h : TK tk vl so ti) : tk = 2 ↔ so = 2 := by
  constructor
  · intro e
    rcases h with ⟨a, _⟩ | ⟨w', a1, a2, a3, a4⟩ | ⟨v, _, _, _, a, _⟩ | ⟨a, _⟩ | ⟨g, o, a1, a2, _⟩
    · rw [a] at e; exact absurd e (by decide)
    · rw [a2] at e; have := (nI_eq (b := 2) (by omega) (by decide)).mp e; omega
    · exact a
    · rw [a] at e; exact absurd e (by decide)
    · have h2 : g < 128 := (sgn_a _ a1).2.2.2.1
      have h3 : g ≠ 2 := (sgn_a _ a1).2.2.1
      rw [a2] at e; exact absurd ((nI_eq (b := 2) (by omega) (by decide)).mp e) h3
  · intro e1
    rcases h with ⟨_, a⟩ | ⟨w', a1, a2, a3, a4⟩ | ⟨v, _, a, _, _, _⟩ | ⟨_, a | ⟨a, _⟩⟩ | ⟨g', o', a1, a2, a3, a4⟩
    · rw [a] at e1; exact absurd e1 (by decide)
    · rw [a3] at e1; exact absurd e1 (by decide)
    · exact a
    · rw [a] at e1; exact absurd e1 (by decide)
    · rw [a] at e1; exact absurd e1 (by decide)
    · rw [a3] at e1; exact absurd e1 (by decide)
theorem tk_e (h : TK tk vl so ti) : tk = 1 ↔ so = 0 := by
  constructor
  · intro e
    rcases h with ⟨_, a⟩ | ⟨w', a1, a2, a3, a4⟩ | ⟨v, _, a, _, _, _⟩ | ⟨a, _⟩ | ⟨g, o, a1, a2, _⟩
    · exact a
    · rw [a2] at e; have := (nI_eq (b := 1) (by omega) (by decide)).mp e; omega
    · rw [a] at e; exact absurd e (by decide)
    · rw [a] at e; exact absurd e (by decide)
    · have h2 : g < 128 := (sgn_a _ a1).2.2.2.1
      have h3 : g ≠ 1 := (sgn_a _ a1).2.1
      rw [a2] at e; exact absurd ((nI_eq (b := 1) (by omega) (by decide)).mp e) h3
  · intro e1
    rcases h with ⟨a, _⟩ | ⟨w', a1, a2, a3, a4⟩ | ⟨v, _, _, _, a, _⟩ | ⟨_, a | ⟨a, _⟩⟩ | ⟨g', o', a1, a2, a3, a4⟩
    · exact a
    · rw [a3] at e1; exact absurd e1 (by decide)
    · rw [a] at e1; exact absurd e1 (by decide)
    · rw [a] at e1; exact absurd e1 (by decide)
    · rw [a] at e1; exact absurd e1 (by decide)
    · rw [a3] at e1; exact absurd e1 (by decide)
end
theorem TS.tk {L s : Nat} {b : Nat → Nat} {C : CM} {O : OM} (h : TS L b s C O) : TK (C 404 2) (C 404 3) (O.1 446 17) (O.1 446 18) := by
  obtain ⟨_, _, e, _, _, _, _, _, _, c7, _⟩ := h
  exact c7
theorem TS.at {L s : Nat} {b : Nat → Nat} {C : CM} {O : OM} (h : TS L b s C O) : C 404 4 = nI s ∧ O.1 446 16 = nI s := by
  obtain ⟨_, _, e, _, _, c3, c4, _⟩ := h
  exact ⟨c3, c4⟩
theorem TS.word {L s : Nat} {b : Nat → Nat} {C : CM} {O : OM} (h : TS L b s C O) (w : Nat) (hw : w < 32) : f_X12_isWord (nI (wm w)) O = if C 404 2 = nI (128 + w) then 1 else 0 := by
  have := tk_w h.tk hw
  unfold f_X12_isWord
  by_cases c : C 404 2 = nI (128 + w)
  · rw [if_pos c, if_pos (this.mp c).1, if_pos (this.mp c).2]
  · rw [if_neg c]
    by_cases c1 : O.1 446 17 = 1
    · rw [if_pos c1, if_neg (fun e => c (this.mpr ⟨c1, e⟩))]
    · rw [if_neg c1]
theorem TS.sign {L s : Nat} {b : Nat → Nat} {C : CM} {O : OM} (h : TS L b s C O) (g o : Nat) (hg : (g, o) ∈ SGN) : f_X12_isSign (nI o) O = if C 404 2 = nI g then 1 else 0 := by
  have := tk_s h.tk hg
  unfold f_X12_isSign
  by_cases c : C 404 2 = nI g
  · rw [if_pos c, if_pos (this.mp c).1, if_pos (this.mp c).2]
  · rw [if_neg c]
    by_cases c1 : O.1 446 17 = 3
    · rw [if_pos c1, if_neg (fun e => c (this.mpr ⟨c1, e⟩))]
    · rw [if_neg c1]
/-- rows with what waits at their end -/
def vo (O : OM) (no : Nat) (pd : List Nat) (i : Nat) : Int32 := if i < no then O.1 468 i else nI (pd.getD (i - no) 0)
def vv (O : OM) (no : Nat) (i : Nat) : Int32 := if i < no then O.1 469 i else 0
def WT (O : OM) (nw nf : Nat) : List Nat → Prop
  | [] => True
  | p :: l => O.1 460 (nw + l.length) = nI p ∧ O.1 461 (nw + l.length) = nI nf ∧ WT O nw nf l
def rk (p : Nat) : Nat := if p = 407 then 1 else if p = 406 then 2 else if p = 43 then 3 else if p = 45 then 3 else 4
theorem rk_v {p : Nat} (h : p < 1000) : f_X12_rank (nI p) = nI (rk p) := by
  unfold f_X12_rank rk
  rw [show (407 : Int32) = nI 407 from rfl, show (406 : Int32) = nI 406 from rfl, show (43 : Int32) = nI 43 from rfl, show (45 : Int32) = nI 45 from rfl]
  by_cases c1 : p = 407
  · rw [if_pos c1, if_pos (by rw [c1])]; rfl
  · rw [if_neg c1, if_neg (fun e => c1 ((nI_eq (by omega) (by decide)).mp e))]
    by_cases c2 : p = 406
    · rw [if_pos c2, if_pos (by rw [c2])]; rfl
    · rw [if_neg c2, if_neg (fun e => c2 ((nI_eq (by omega) (by decide)).mp e))]
      by_cases c3 : p = 43
      · rw [if_pos c3, if_pos (by rw [c3])]; rfl
      · rw [if_neg c3, if_neg (fun e => c3 ((nI_eq (by omega) (by decide)).mp e))]
        by_cases c4 : p = 45
        · rw [if_pos c4, if_pos (by rw [c4])]; rfl
        · rw [if_neg c4, if_neg (fun e => c4 ((nI_eq (by omega) (by decide)).mp e))]; rfl
theorem WT.congr {O O1 : OM} {nw nf : Nat} : ∀ {pd : List Nat}, WT O nw nf pd → O1.1 460 = O.1 460 → O1.1 461 = O.1 461 → WT O1 nw nf pd := by
  intro pd
  induction pd with
  | nil => intro _ _ _; exact True.intro
  | cons p l ih => intro h h0 h1; exact ⟨by rw [h0]; exact h.1, by rw [h1]; exact h.2.1, ih h.2.2 h0 h1⟩
theorem works_l {nw nf r : Nat} (hr : r ≤ 4) (hnf : nf < 1000) : ∀ (pd : List Nat) (no n : Nat) (O : OM), O.1 446 22 = nI nf → O.1 446 25 = nI (nw + pd.length) → O.1 446 37 = nI no → nw + pd.length ≤ 80 → no + pd.length ≤ 400 → pd.length < n → WT O nw nf pd → (∀ p, p ∈ pd → p < 1000 ∧ r ≤ rk p) →
    (nw = 0 ∨ ∃ j p f, nw = j + 1 ∧ p < 1000 ∧ f < 1000 ∧ O.1 460 j = nI p ∧ O.1 461 j = nI f ∧ (f = nf → rk p < r)) →
    ∃ O1, X12_works_l0 n (nI r) O = some O1 ∧ O1.1 446 25 = nI nw ∧ O1.1 446 37 = nI (no + pd.length) ∧ (∀ c, c ≠ 446 → c ≠ 468 → c ≠ 469 → O1.1 c = O.1 c) ∧ (∀ k, k ≠ 25 → k ≠ 37 → O1.1 446 k = O.1 446 k) ∧ O1.2 = O.2 ∧
      ∀ i, i < no + pd.length → O1.1 468 i = vo O no pd i ∧ O1.1 469 i = vv O no i := by
  intro pd
  induction pd with
  | nil =>
    intro no n O h22 h25 h37 hw hno hn hWT hp hst
    obtain ⟨n, rfl⟩ : ∃ j, n = j + 1 := ⟨n - 1, by omega⟩
    rw [List.length_nil, Nat.add_zero] at h25 hw
    refine ⟨O, ?_, h25, h37, fun _ _ _ _ => rfl, fun _ _ _ => rfl, rfl, fun i hi => ?_⟩
    · rw [X12_works_l0, h25]
      rcases hst with rfl | ⟨j, p, f, rfl, hp, hf, g1, g2, g3⟩
      · rw [if_pos (show nI 0 ≤ 0 from Int32.le_refl _)]
      · rw [if_neg (nI_nle (by omega) (by omega)), nI_pred, gd_p (inbN (by omega) (by decide)), gd_p (inbN (by omega) (by decide)), nI_clamp (by omega), g2, h22]
        by_cases c : f = nf
        · rw [if_pos (by rw [c]), g1, rk_v hp, if_pos (nI_lt (g3 c) (by omega))]
        · rw [if_neg (fun e => c ((nI_eq (by omega) (by omega)).mp e))]
    · rw [List.length_nil, Nat.add_zero] at hi
      unfold vo vv
      rw [if_pos hi, if_pos hi]
      exact ⟨rfl, rfl⟩
  | cons p l ih =>
    intro no n O h22 h25 h37 hw hno hn hWT hp hst
    obtain ⟨n, rfl⟩ : ∃ j, n = j + 1 := ⟨n - 1, by omega⟩
    rw [List.length_cons] at h25 hw hno hn
    obtain ⟨w1, w2, w3⟩ := hWT
    obtain ⟨p1, p2⟩ := hp p (List.mem_cons_self ..)
    have hrk : rk p ≤ 4 := by unfold rk; split; omega; split; omega; split; omega; split <;> omega
    obtain ⟨Oa, hOa⟩ : ∃ Oa, Oa = oup (oup (oup (oup O 446 25 (nI (nw + l.length))) 468 no (nI p)) 469 no 0) 446 37 (nI (no + 1)) := ⟨_, rfl⟩
    have k60 : Oa.1 460 = O.1 460 := by rw [hOa, oup_ne (by decide), oup_ne (by decide), oup_ne (by decide), oup_ne (by decide)]
    have k61 : Oa.1 461 = O.1 461 := by rw [hOa, oup_ne (by decide), oup_ne (by decide), oup_ne (by decide), oup_ne (by decide)]
    have k68 : ∀ i, Oa.1 468 i = if i = no then nI p else O.1 468 i := fun i => by
      rw [hOa, oup_ne (by decide), oup_ne (by decide)]
      by_cases c : i = no
      · rw [c, o2s, if_pos rfl]
      · rw [o2n c, oup_ne (by decide), if_neg c]
    have k69 : ∀ i, Oa.1 469 i = if i = no then 0 else O.1 469 i := fun i => by
      rw [hOa, oup_ne (by decide)]
      by_cases c : i = no
      · rw [c, o2s, if_pos rfl]
      · rw [o2n c, oup_ne (by decide), oup_ne (by decide), if_neg c]
    have k46 : ∀ k, k ≠ 25 → k ≠ 37 → Oa.1 446 k = O.1 446 k := fun k a b => by rw [hOa, o2n b, oup_ne (by decide), oup_ne (by decide), o2n a]
    obtain ⟨O1, r1, r2, r3, r4, r5, r6, r7⟩ := ih (no + 1) n Oa (by rw [k46 22 (by decide) (by decide)]; exact h22) (by rw [hOa, o2n (by decide), oup_ne (by decide), oup_ne (by decide), o2s]) (by rw [hOa, o2s]) (by omega) (by omega) (by omega) (w3.congr k60 k61) (fun q hq => hp q (List.mem_cons_of_mem _ hq)) (by rw [k60, k61]; exact hst)
    refine ⟨O1, ?_, r2, by rw [r3, List.length_cons]; congr 1; omega, fun c a1 a2 a3 => ?_, fun k a1 a2 => by rw [r5 k a1 a2, k46 k a1 a2], by rw [r6, hOa]; rfl, fun i hi => ?_⟩
    · rw [X12_works_l0, h25, if_neg (nI_nle (by omega) (by omega)), show nw + (l.length + 1) = (nw + l.length) + 1 by omega, nI_pred, gd_p (inbN (by omega) (by decide)), gd_p (inbN (by omega) (by decide)), nI_clamp (by omega), w2, h22, if_pos rfl, w1, rk_v p1, if_neg (nI_nlt p2 (by omega)), o2s, gd_p (inbN (by omega) (by decide)), nI_clamp (by omega), oup_ne (by decide), w1, emits_v (O := oup O 446 25 (nI (nw + l.length))) (no := no) (by rw [o2n (by decide)]; exact h37) (by omega), bnd_s, ← hOa]
      exact r1
    · rw [r4 c a1 a2 a3, hOa, oup_ne a1, oup_ne a3, oup_ne a2, oup_ne a1]
    · rw [List.length_cons] at hi
      obtain ⟨g1, g2⟩ := r7 i (by omega)
      rw [g1, g2]
      unfold vo vv
      by_cases c : i < no
      · rw [if_pos (by omega), if_pos c, if_pos (by omega), if_pos c, k68, k69, if_neg (by omega), if_neg (by omega)]
        exact ⟨rfl, rfl⟩
      · by_cases c2 : i = no
        · rw [if_pos (by omega), if_neg c, if_pos (by omega), if_neg c, k68, k69, if_pos c2, if_pos c2, c2, Nat.sub_self]
          exact ⟨rfl, rfl⟩
        · rw [if_neg (by omega), if_neg c, if_neg (by omega), if_neg c, show i - no = (i - (no + 1)) + 1 by omega]
          exact ⟨rfl, rfl⟩
