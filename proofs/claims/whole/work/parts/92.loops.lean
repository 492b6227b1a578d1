/-! The reader: operators that wait, worked off or put behind; what a method with waits ends in -/
def PDk (r : Nat) (pd : List Nat) : Prop := ∀ p, p ∈ pd → p < 1000 ∧ r ≤ rk p
theorem WT.snoc {O : OM} {nw nf t : Nat} (h0 : O.1 460 nw = nI t) (h1 : O.1 461 nw = nI nf) : ∀ {pd : List Nat}, WT O (nw + 1) nf pd → WT O nw nf (pd ++ [t]) := by
  intro pd
  induction pd with
  | nil => intro _; exact ⟨h0, h1, True.intro⟩
  | cons p l ih =>
    intro h
    obtain ⟨a1, a2, a3⟩ := h
    have e : nw + (l ++ [t]).length = nw + 1 + l.length := by rw [List.length_append, List.length_singleton]; omega
    exact ⟨(congrArg (O.1 460) e).trans a1, (congrArg (O.1 461) e).trans a2, ih a3⟩
theorem vo_snoc {O : OM} {no t : Nat} {pd : List Nat} {i : Nat} (h : i < no + pd.length) : vo O no (pd ++ [t]) i = vo O no pd i := by
  unfold vo
  by_cases c : i < no
  · rw [if_pos c, if_pos c]
  · rw [if_neg c, if_neg c, List.getD_eq_getElem?_getD, List.getD_eq_getElem?_getD, List.getElem?_append_left (by omega)]
theorem vo_last {O : OM} {no t : Nat} {pd : List Nat} : vo O no (pd ++ [t]) (no + pd.length) = nI t := by
  unfold vo
  rw [if_neg (by omega), show no + pd.length - no = pd.length by omega, List.getD_eq_getElem?_getD, List.getElem?_append_right (by omega), Nat.sub_self]
  rfl
/-- the machine alone works the waits off -/
theorem flush_l {L : Nat} {b : Nat → Nat} {Lw s d nf nw lc no r : Nat} {C : CM} {O : OM} {pd : List Nat} (h : PZ L b Lw s d nf (nw + pd.length) lc no C O) (hr : r ≤ 4) (hnf : nf < 1000) (hw : nw + pd.length ≤ 80) (hno : no + pd.length ≤ 400) (hWT : WT O nw nf pd) (hp : PDk r pd) (hb : WB r nf nw O) :
    ∃ O1, f_X12_works (nI r) O = some O1 ∧ PZ L b Lw s d nf nw lc (no + pd.length) C O1 ∧ KPR nf nw lc no C O C O1 ∧ (∀ k, k ≠ 25 → k ≠ 37 → O1.1 446 k = O.1 446 k) ∧ (∀ c, c ≠ 446 → c ≠ 468 → c ≠ 469 → O1.1 c = O.1 c) ∧ ∀ i, i < no + pd.length → O1.1 468 i = vo O no pd i ∧ O1.1 469 i = vv O no i := by
  obtain ⟨ts, f1, f2, g1, g2, hL, lw, kw, op, fn, wn, ln, on⟩ := h
  obtain ⟨O1, e1, e2, e3, e4, e5, e6, e7⟩ := works_l hr hnf pd no FU O fn wn on hw hno (by unfold FU; omega) hWT hp (by
    cases nw with
    | zero => exact Or.inl rfl
    | succ j =>
      obtain ⟨p, f, h1, h2, h3, h4, h5⟩ := hb j (by omega)
      exact Or.inr ⟨j, p, f, rfl, h1, by omega, h2, h3, h5⟩)
  refine ⟨O1, e1, ⟨ts.congr rfl rfl (fun k a1 a2 => e5 k (by omega) (by omega)) (e4 449 (by decide) (by decide) (by decide)), f1, f2, by rw [e5 19 (by decide) (by decide)]; exact g1, by rw [e5 20 (by decide) (by decide)]; exact g2, hL, lw, by rw [e5 31 (by decide) (by decide)]; exact kw, by rw [e5 21 (by decide) (by decide)]; exact op, by rw [e5 22 (by decide) (by decide)]; exact fn, e2, ln, e3⟩, ⟨FrP.refl, ⟨fun c a1 a2 a3 a4 => e4 c a1 a3 a4, fun k a1 a2 => e5 k (by omega) a2, e6⟩, fun j _ => by rw [e4 458 (by decide) (by decide) (by decide)], fun j _ => ⟨by rw [e4 459 (by decide) (by decide) (by decide)], by rw [e4 462 (by decide) (by decide) (by decide)]⟩, fun j _ => ⟨by rw [e4 460 (by decide) (by decide) (by decide)], by rw [e4 461 (by decide) (by decide) (by decide)]⟩, fun _ _ => rfl, fun j hj => ?_⟩, e5, e4, e7⟩
  obtain ⟨q1, q2⟩ := e7 j (by omega)
  rw [q1, q2]
  unfold vo vv
  rw [if_pos hj, if_pos hj]
  exact ⟨rfl, rfl⟩
/-- an operator is told: it waits, and the next token -/
theorem wait_l {L : Nat} {b : Nat → Nat} {Lw s d nf nw lc no r q : Nat} {C : CM} {O : OM} {pd : List Nat} (h : PZ L b Lw s d nf (nw + pd.length) lc no C O) (hn : ¬ C 404 2 = 1) (hr : r ≤ 4) (hq : q < 1000) (hqr : rk q = r) (hnf : nf < 1000) (hw : nw + pd.length < 80) (hno : no + pd.length ≤ 400) (hWT : WT O nw nf pd) (hp : PDk r pd) (hb : WB r nf nw O) :
    ∃ C1 O1 s1, f_X8_next C = some C1 ∧ f_X12_waitsFor (nI q) O = some O1 ∧ s < s1 ∧ PZ L b Lw s1 d nf (nw + 1) lc (no + pd.length) C1 O1 ∧ KPR nf nw lc no C O C1 O1 ∧ O1.1 446 28 = O.1 446 28 ∧ O1.1 460 nw = nI q ∧ O1.1 461 nw = nI nf ∧ (∀ i, i < no + pd.length → O1.1 468 i = vo O no pd i ∧ O1.1 469 i = vv O no i) := by
  obtain ⟨Oa, e1, e2, e3, e4, e5, e6⟩ := flush_l h hr hnf (by omega) hno hWT hp hb
  obtain ⟨ts, f1, f2, g1, g2, hL, lw, kw, op, fn, wn, ln, on⟩ := e2
  obtain ⟨Ob, hOb⟩ : ∃ Ob, Ob = oup (oup (oup Oa 460 nw (nI q)) 461 nw (nI nf)) 446 25 (nI (nw + 1)) := ⟨_, rfl⟩
  have b46 : ∀ k, k ≠ 25 → Ob.1 446 k = Oa.1 446 k := fun k a1 => by rw [hOb, o2n a1, oup_ne (by decide), oup_ne (by decide)]
  have bc : ∀ c, c ≠ 446 → c ≠ 460 → c ≠ 461 → Ob.1 c = Oa.1 c := fun c a1 a2 a3 => by rw [hOb, oup_ne a1, oup_ne a3, oup_ne a2]
  have kb : KPR nf nw lc no C Oa C Ob := by
    rw [hOb]
    exact ((KPR.o (c := 460) (k := nw) (by omega)).trans (KPR.o (c := 461) (k := nw) (by omega)) (Nat.le_refl _) (Nat.le_refl _) (Nat.le_refl _) (Nat.le_refl _)).trans (KPR.o (c := 446) (k := 25) (by omega)) (Nat.le_refl _) (Nat.le_refl _) (Nat.le_refl _) (Nat.le_refl _)
  have tsb : TS L b s C Ob := ts.congr rfl rfl (fun k a1 a2 => b46 k (by omega)) (bc 449 (by decide) (by decide) (by decide))
  obtain ⟨C1, O1, s1, r1, r2, r3, r4, r5, r6⟩ := tsb.next hn
  have o6 : ∀ k, (k < 15 ∨ 18 < k) → k ≠ 25 → O1.1 446 k = Oa.1 446 k := fun k a1 a2 => by rw [r6.2.1 k a1, b46 k a2]
  refine ⟨C1, O1, s1, r1, ?_, r4, ⟨r3, by rw [r5.1 406 (by decide)]; exact f1, by rw [r5.1 406 (by decide)]; exact f2, by rw [o6 19 (by decide) (by decide)]; exact g1, by rw [o6 20 (by decide) (by decide)]; exact g2, hL, by rw [r5.1 406 (by decide)]; exact lw, by rw [o6 31 (by decide) (by decide)]; exact kw, by rw [o6 21 (by decide) (by decide)]; exact op, by rw [o6 22 (by decide) (by decide)]; exact fn, by rw [r6.2.1 25 (by decide), hOb, o2s], by rw [r5.1 407 (by decide)]; exact ln, by rw [o6 37 (by decide) (by decide)]; exact on⟩, ?_, ?_, ?_, ?_, fun i hi => ?_⟩
  · unfold f_X12_waitsFor
    rw [rk_v hq, hqr, e1, bnd_s, wn, gd_p (inbN (by omega) (by decide)), nI_clamp (by omega), oup_ne (show (446 : Nat) ≠ 460 by decide), wn, gd_p (inbN (by omega) (by decide)), nI_clamp (by omega), fn, oup_ne (show (446 : Nat) ≠ 461 by decide), oup_ne (show (446 : Nat) ≠ 460 by decide), wn, nI_1, ← hOb, r2, bnd_s]
  · exact (e3.trans kb (Nat.le_refl _) (Nat.le_refl _) (Nat.le_refl _) (Nat.le_refl _)).trans (KPR.n r5 r6) (Nat.le_refl _) (Nat.le_refl _) (Nat.le_refl _) (Nat.le_refl _)
  · rw [o6 28 (by decide) (by decide), e4 28 (by decide) (by decide)]
  · rw [r6.1 460 (by decide), hOb, oup_ne (by decide), oup_ne (by decide), o2s]
  · rw [r6.1 461 (by decide), hOb, oup_ne (by decide), o2s]
  · rw [r6.1 468 (by decide), r6.1 469 (by decide), bc 468 (by decide) (by decide) (by decide), bc 469 (by decide) (by decide) (by decide)]
    exact e6 i hi
def OKQ (r B S e : Nat) (τ : Bool) (T : List Nat) (L : Nat) (b : Nat → Nat) (Lw s d nf nw a fr m : Nat) (σ : List Bool) (A : Nat) (C : CM) (O : OM) (C1 : CM) (O1 : OM) (s1 m1 no1 : Nat) (pd : List Nat) : Prop :=
  RC A O (PT s1 + e) O1 ∧ O1.1 446 28 = nI S ∧ PZ L b Lw s1 d nf (nw + pd.length) (a + m1) no1 C1 O1 ∧ no1 + pd.length = fr + m1 ∧ fr + m ≤ no1 ∧ KPR nf nw (a + m) (fr + m) C O C1 O1 ∧ WT O1 nw nf pd ∧ pd.length ≤ B ∧ PDk r pd ∧ m < m1 ∧ m1 + s ≤ m + s1 ∧ Sg a fr Lw m m1 σ (τ :: σ) (C1 408) (vo O1 no1 pd) (vv O1 no1) ∧ ∀ t, t ∈ T → ¬ C1 404 2 = nI t
def PostQ (r B S e : Nat) (τ : Bool) (T : List Nat) (L : Nat) (b : Nat → Nat) (Lw s d nf nw a fr m : Nat) (σ : List Bool) (A : Nat) (C : CM) (O : OM) (C1 : CM) : Prop :=
  EF A C O C1 ∨ ∃ O1 s1 m1 no1 pd, OKQ r B S e τ T L b Lw s d nf nw a fr m σ A C O C1 O1 s1 m1 no1 pd
def PreQ (S0 r N W X : Nat) (Gd : Nat → Prop) (L : Nat) (b : Nat → Nat) (Lw s d nf nw a fr m : Nat) (σ : List Bool) (C : CM) (O : OM) : Prop :=
  PZ L b Lw s d nf nw (a + m) (fr + m) C O ∧ O.1 446 28 = nI S0 ∧ a + m ≤ s ∧ fr ≤ a + 24 ∧ 1 ≤ nf ∧ nf ≤ N ∧ nw ≤ W ∧ σ.length ≤ X ∧ WB r nf nw O ∧ ∃ F, O.1 458 (nf - 1) = nI F ∧ Gd F
theorem PreQ.mono {S0 r N W X r' N' W' X' : Nat} {Gd Gd' : Nat → Prop} {L : Nat} {b : Nat → Nat} {Lw s d nf nw a fr m : Nat} {σ : List Bool} {C : CM} {O : OM} (h : PreQ S0 r N W X Gd L b Lw s d nf nw a fr m σ C O) (hr : r ≤ r') (hN : N ≤ N') (hW : W ≤ W') (hX : X ≤ X') (hG : ∀ F, Gd F → Gd' F) : PreQ S0 r' N' W' X' Gd' L b Lw s d nf nw a fr m σ C O := by
  obtain ⟨h1, h2, h3, h4, h5, h6, h7, h8, h9, F, h10, h11⟩ := h
  exact ⟨h1, h2, h3, h4, h5, by omega, by omega, by omega, h9.r hr, F, h10, hG F h11⟩
