/-! The reader: a level of operators, in general -/
theorem PDk.nil {r : Nat} : PDk r [] := fun p h => by cases h
theorem PDk.le {r r' : Nat} {pd : List Nat} (h : PDk r' pd) (hr : r ≤ r') : PDk r pd := fun p hp => ⟨(h p hp).1, Nat.le_trans hr (h p hp).2⟩
theorem PDk.snoc {r q : Nat} {pd : List Nat} (h : PDk r pd) (h1 : q < 1000) (h2 : r ≤ rk q) : PDk r (pd ++ [q]) := fun p hp => by
  rcases List.mem_append.mp hp with g | g
  · exact h p g
  · rw [List.mem_singleton] at g
    subst g
    exact ⟨h1, h2⟩
theorem PZ.st {L : Nat} {b : Nat → Nat} {Lw s d nf nw lc no : Nat} {C : CM} {O : OM} {x : Int32} (h : PZ L b Lw s d nf nw lc no C O) : PZ L b Lw s d nf nw lc no C (oup O 446 28 x) := by
  obtain ⟨ts, f1, f2, g1, g2, hL, lw, kw, op, fn, wn, ln, on⟩ := h
  exact ⟨ts.congr rfl rfl (fun k a1 a2 => o2n (by omega)) (oup_ne (by decide)), f1, f2, by rw [o2n (by decide)]; exact g1, by rw [o2n (by decide)]; exact g2, hL, lw, by rw [o2n (by decide)]; exact kw, by rw [o2n (by decide)]; exact op, by rw [o2n (by decide)]; exact fn, by rw [o2n (by decide)]; exact wn, ln, by rw [o2n (by decide)]; exact on⟩
theorem PZ.em {L : Nat} {b : Nat → Nat} {Lw s d nf nw lc no k : Nat} {C : CM} {O : OM} {x : Int32} (h : PZ L b Lw s d nf nw lc no C O) : PZ L b Lw s d nf nw (lc + 1) no (up2 (up2 C 408 k x) 407 5 (nI (lc + 1))) O := by
  obtain ⟨ts, f1, f2, g1, g2, hL, lw, kw, op, fn, wn, ln, on⟩ := h
  exact ⟨ts.congr (by rw [up2_ne (by decide), up2_ne (by decide)]) (by rw [up2_ne (by decide), up2_ne (by decide)]) (fun _ _ _ => rfl) rfl, by rw [up2_ne (by decide), up2_ne (by decide)]; exact f1, by rw [up2_ne (by decide), up2_ne (by decide)]; exact f2, g1, g2, hL, by rw [up2_ne (by decide), up2_ne (by decide)]; exact lw, kw, op, fn, wn, u2s, on⟩
def StepH (S S0 : Nat) (T1 : List (Nat × Nat)) (L : Nat) (b : Nat → Nat) (nf : Nat) : Prop :=
  ∀ p, p ∈ T1 → ∀ s C O, TS L b s C O → O.1 446 19 = 0 → O.1 446 28 = nI S → O.1 446 22 = nI nf → C 404 2 = nI p.1 → ∀ n, lp (n + 1) O = bnd (bnd (f_X12_waitsFor (nI p.2) O) (fun O3 => some (oup O3 446 28 (nI S0)))) (fun O2 => lp n O2)
section
variable {r B S S0 e e0 N W X d : Nat} {τ : Bool} {T0 : List Nat} {T1 : List (Nat × Nat)} {Gd : Nat → Prop} {rec : CM → Option CM} {lf : Nat → Nat → CM → Option CM} {L : Nat} {b : Nat → Nat} {Lw nf a fr : Nat}
theorem loop_g (hr : r ≤ 4) (he : e0 ≤ e + 1) (hN : N ≤ 38) (hW : W ≤ 70) (hX : X ≤ 60) (hB : B ≤ 6)
    (hT1 : ∀ p, p ∈ T1 → p.1 < 256 ∧ p.1 ≠ 1 ∧ p.2 < 1000 ∧ rk p.2 = r)
    (h_f : ∀ n i C, ¬ C 406 1 = 0 → lf (n + 1) i C = some C)
    (h_no : ∀ n i C, C 406 1 = 0 → (∀ p, p ∈ T1 → ¬ C 404 2 = nI p.1) → lf (n + 1) i C = some C)
    (h_yes : ∀ n i C p, i < 300 → C 406 1 = 0 → p ∈ T1 → C 404 2 = nI p.1 → lf (n + 1) i C = bnd (f_X8_next C) (fun C2 => bnd (rec C2) (fun C3 => bnd2 (f_X6_emit 407 (nI p.1) 0 C3) (fun _ C4 => lf n (i + 1) C4))))
    (h_st : StepH S S0 T1 L b nf)
    (h_op : ∀ s nw m σ C O, PreQ S0 (r + 1) N (W + 1) (X + 1) Gd L b Lw s d nf nw a fr m σ C O → ∃ C1, rec C = some C1 ∧ PostQ (r + 1) B S e τ T0 L b Lw s d nf nw a fr m σ (PT s + e0) C O C1)
    (h_sg : ∀ p, p ∈ T1 → ∀ m (σ : List Bool) (c o v : Nat → Int32), σ.length ≤ 62 → c (a + m) = nI p.1 → o (fr + m) = nI p.2 → Sg a fr Lw m (m + 1) (τ :: τ :: σ) (τ :: σ) c o v)
    {s nw m : Nat} {σ : List Bool} {C : CM} {O : OM} {A : Nat}
    (hp : PreQ S0 r N W X Gd L b Lw s d nf nw a fr m σ C O) :
    ∀ n i C1 O1 s1 m1 no1 pd, 300 - i < n → i < s1 → OKQ r (B + 1) S e τ T0 L b Lw s d nf nw a fr m σ A C O C1 O1 s1 m1 no1 pd →
      ∃ C2, lf n i C1 = some C2 ∧ PostQ r (B + 1) S e τ (T0 ++ T1.map Prod.fst) L b Lw s d nf nw a fr m σ A C O C2 := by
  obtain ⟨p0, pst, p2, p3, p4, p5, p6, p7, p8, F, p9, p10⟩ := hp
  intro n
  induction n with
  | zero => intro i C1 O1 s1 m1 no1 pd h; exact absurd h (by omega)
  | succ n ih =>
    intro i C1 O1 s1 m1 no1 pd hn hi hok
    obtain ⟨q1, q2, q3, q4, q5, q6, q7, q8, q9, q10, q11, q12, q13⟩ := hok
    have q3' := q3
    obtain ⟨ts, f1, f2, g1, g2, hL, lw, kw, op, fn, wn, ln, on⟩ := q3'
    by_cases c : ∃ p, p ∈ T1 ∧ C1 404 2 = nI p.1
    · obtain ⟨p, c1, c2⟩ := c
      obtain ⟨t1, t2, t3, t4⟩ := hT1 p c1
      have hn1 : ¬ C1 404 2 = 1 := by rw [c2]; exact fun x => t2 ((nI_eq (b := 1) (by omega) (by decide)).mp x)
      have hlt := ts.lt hn1
      have hi3 : i < 300 := by omega
      have wb1 : WB r nf nw O1 := p8.congr (fun j hj => q6.2.2.2.2.1 j hj)
      obtain ⟨C2, O2, s2, w1, w2, w3, w4, w5, w6, w7, w8, w9⟩ := wait_l (r := r) (q := p.2) q3 hn1 hr t3 t4 (by omega) (by omega) (by omega) q7 q9 wb1
      rw [q4] at w4 w9
      have z3 : PZ L b Lw s2 d nf (nw + 1) (a + m1) (fr + m1) C2 (oup O2 446 28 (nI S0)) := w4.st
      have hle2 := w4.1.le
      have wb3 : WB (r + 1) nf (nw + 1) (oup O2 446 28 (nI S0)) := fun j hj => by
        rw [oup_ne (by decide), oup_ne (by decide)]
        by_cases g : j < nw
        · obtain ⟨x, f, h1, h2, h3, h4, h5⟩ := wb1 j g
          rw [(w5.2.2.2.2.1 j g).1, (w5.2.2.2.2.1 j g).2]
          exact ⟨x, f, h1, h2, h3, h4, fun e => Nat.lt_succ_of_lt (h5 e)⟩
        · have : j = nw := by omega
          subst this
          exact ⟨p.2, nf, t3, w7, w8, Nat.le_refl _, fun _ => by rw [t4]; exact Nat.lt_succ_self _⟩
      have fr3 : (oup O2 446 28 (nI S0)).1 458 (nf - 1) = nI F := by
        rw [oup_ne (by decide), w5.2.2.1 (nf - 1) (by omega), q6.2.2.1 (nf - 1) (by omega)]
        exact p9
      obtain ⟨C3, r1, r2⟩ := h_op s2 (nw + 1) m1 (τ :: σ) C2 (oup O2 446 28 (nI S0)) ⟨z3, o2s, by omega, p3, p4, p5, by omega, by rw [List.length_cons]; omega, wb3, F, fr3, p10⟩
      have rc : RC A O (PT s2 + e0) (oup O2 446 28 (nI S0)) := q1.trans (RC.one (g := fun O => bnd (f_X12_waitsFor (nI p.2) O) (fun O3 => some (oup O3 446 28 (nI S0)))) (h_st p c1 s1 C1 O1 ts g1 q2 fn c2) (by show bnd (f_X12_waitsFor (nI p.2) O1) _ = _; rw [w2, bnd_s]) (by unfold PT; omega))
      have kp : KPR nf nw (a + m) (fr + m) C O C2 (oup O2 446 28 (nI S0)) := (q6.trans w5 (Nat.le_refl _) (Nat.le_refl _) (by omega) (by omega)).trans (KPR.o (nf := nf) (nw := nw) (lc := a + m) (no := fr + m) (c := 446) (k := 28) (by omega)) (Nat.le_refl _) (Nat.le_refl _) (Nat.le_refl _) (Nat.le_refl _)
      rw [h_yes n i C1 p hi3 f1 c1 c2, w1, bnd_s, r1, bnd_s]
      rcases r2 with r2 | ⟨O4, s3, m3, no3, pd3, k1, k2, k3, k4, k5, k6, k7, k8, k9, k10, k11, k12, k13⟩
      · have ef := r2.pre rc kp.1 kp.2.1
        obtain ⟨r0, C4, a1, a2, a3, a4, a5⟩ := emit_t (nI p.1) 0 ef.ln
        have ef2 := ef.keep a2 a3 a5
        rw [a1, bnd2_s]
        obtain ⟨n, rfl⟩ : ∃ j, n = j + 1 := ⟨n - 1, by omega⟩
        exact ⟨C4, h_f n (i + 1) C4 ef2.ne, Or.inl ef2⟩
      · have hle3 := k3.1.le
        have k3' := k3
        obtain ⟨-, -, -, -, -, -, -, -, -, -, -, ln3, -⟩ := k3'
        have e4 := emit_v (t := nI p.1) (v := 0) ln3 (by omega)
        rw [e4, bnd2_s]
        obtain ⟨C4, hC4⟩ : ∃ C4, C4 = up2 (up2 C3 408 (a + m3) (0 * 256 + nI p.1)) 407 5 (nI (a + m3 + 1)) := ⟨_, rfl⟩
        have e8 : ∀ j, j ≠ a + m3 → C4 408 j = C3 408 j := fun j hj => by rw [hC4, up2_ne (by decide), u2n hj]
        have e8s : C4 408 (a + m3) = nI p.1 := by rw [hC4, up2_ne (by decide), u2s, Int32.zero_mul, Int32.zero_add]
        rw [← hC4]
        refine ih (i + 1) C4 O4 s3 (m3 + 1) no3 (pd3 ++ [p.2]) (by omega) (by omega) ⟨rc.trans k1, k2, ?_, ?_, by omega, ?_, ?_, ?_, ?_, by omega, by omega, ?_, ?_⟩
        · have := k3.em (k := a + m3) (x := 0 * 256 + nI p.1)
          rw [← hC4] at this
          rw [List.length_append, List.length_singleton, show nw + (pd3.length + 1) = nw + 1 + pd3.length by omega]
          exact this
        · rw [List.length_append, List.length_singleton]; omega
        · rw [hC4]
          exact (kp.trans k6 (Nat.le_refl _) (by omega) (by omega) (by omega)).trans (KPR.c (nf := nf) (nw := nw) (lc := a + m) (no := fr + m) (by omega)) (Nat.le_refl _) (Nat.le_refl _) (Nat.le_refl _) (Nat.le_refl _)
        · refine WT.snoc ?_ ?_ k7
          · rw [(k6.2.2.2.2.1 nw (by omega)).1, oup_ne (by decide)]; exact w7
          · rw [(k6.2.2.2.2.1 nw (by omega)).2, oup_ne (by decide)]; exact w8
        · rw [List.length_append, List.length_singleton]; omega
        · exact (k9.le (by omega)).snoc t3 (by omega)
        · refine ((q12.mono (fun i b1 b2 => ?_)).comp (k12.mono (fun i b1 b2 => ?_)) (by omega) (by omega)).comp (h_sg p c1 m3 σ (C4 408) (vo O4 no3 (pd3 ++ [p.2])) (vv O4 no3) (by omega) e8s ?_) (by omega) (by omega)
          · obtain ⟨x1, x2⟩ := w9 (fr + i) (by omega)
            obtain ⟨y1, y2⟩ := k6.2.2.2.2.2.2 (fr + i) (by omega)
            refine ⟨?_, ?_, ?_⟩
            · rw [e8 _ (by omega), k6.2.2.2.2.2.1 (a + i) (by omega), w5.2.2.2.2.2.1 (a + i) (by omega)]
            · rw [← x1]
              show (if fr + i < no3 then O4.1 468 (fr + i) else _) = _
              rw [if_pos (by omega), y1, oup_ne (by decide)]
            · rw [← x2]
              show (if fr + i < no3 then O4.1 469 (fr + i) else _) = _
              rw [if_pos (by omega), y2, oup_ne (by decide)]
          · exact ⟨e8 _ (by omega), vo_snoc (by omega), rfl⟩
          · rw [← k4]; exact vo_last
        · intro t ht
          rw [hC4, up2_ne (by decide), up2_ne (by decide)]
          exact k13 t ht
    · refine ⟨C1, h_no n i C1 f1 (fun p hp e => c ⟨p, hp, e⟩), Or.inr ⟨O1, s1, m1, no1, pd, q1, q2, q3, q4, q5, q6, q7, q8, q9, q10, q11, q12, fun t ht => ?_⟩⟩
      rcases List.mem_append.mp ht with g | g
      · exact q13 t g
      · obtain ⟨p, g1, g2⟩ := List.mem_map.mp g
        subst g2
        exact fun e => c ⟨p, g1, e⟩
theorem level_g {fn : CM → Option CM} (h_fn : ∀ C, fn C = bnd (rec C) (fun C1 => lf FU 0 C1)) (hr : r ≤ 4) (he : e0 ≤ e + 1) (hN : N ≤ 38) (hW : W ≤ 70) (hX : X ≤ 60) (hB : B ≤ 6)
    (hT1 : ∀ p, p ∈ T1 → p.1 < 256 ∧ p.1 ≠ 1 ∧ p.2 < 1000 ∧ rk p.2 = r)
    (h_f : ∀ n i C, ¬ C 406 1 = 0 → lf (n + 1) i C = some C)
    (h_no : ∀ n i C, C 406 1 = 0 → (∀ p, p ∈ T1 → ¬ C 404 2 = nI p.1) → lf (n + 1) i C = some C)
    (h_yes : ∀ n i C p, i < 300 → C 406 1 = 0 → p ∈ T1 → C 404 2 = nI p.1 → lf (n + 1) i C = bnd (f_X8_next C) (fun C2 => bnd (rec C2) (fun C3 => bnd2 (f_X6_emit 407 (nI p.1) 0 C3) (fun _ C4 => lf n (i + 1) C4))))
    (h_st : StepH S S0 T1 L b nf)
    (h_op : ∀ s nw m σ C O, PreQ S0 (r + 1) N (W + 1) (X + 1) Gd L b Lw s d nf nw a fr m σ C O → ∃ C1, rec C = some C1 ∧ PostQ (r + 1) B S e τ T0 L b Lw s d nf nw a fr m σ (PT s + e0) C O C1)
    (h_sg : ∀ p, p ∈ T1 → ∀ m (σ : List Bool) (c o v : Nat → Int32), σ.length ≤ 62 → c (a + m) = nI p.1 → o (fr + m) = nI p.2 → Sg a fr Lw m (m + 1) (τ :: τ :: σ) (τ :: σ) c o v)
    {s nw m : Nat} {σ : List Bool} {C : CM} {O : OM}
    (hp : PreQ S0 r N W X Gd L b Lw s d nf nw a fr m σ C O) :
    ∃ C1, fn C = some C1 ∧ PostQ r (B + 1) S e τ (T0 ++ T1.map Prod.fst) L b Lw s d nf nw a fr m σ (PT s + e0) C O C1 := by
  obtain ⟨C1, r1, r2⟩ := h_op s nw m σ C O (hp.mono (Nat.le_succ _) (Nat.le_refl _) (Nat.le_succ _) (Nat.le_succ _) (fun _ h => h))
  rw [h_fn, r1, bnd_s]
  rcases r2 with r2 | ⟨O4, s3, m3, no3, pd3, k1, k2, k3, k4, k5, k6, k7, k8, k9, k10, k11, k12, k13⟩
  · exact ⟨C1, h_f 9999 0 C1 r2.ne, Or.inl r2⟩
  · exact loop_g hr he hN hW hX hB hT1 h_f h_no h_yes h_st h_op h_sg hp FU 0 C1 O4 s3 m3 no3 pd3 (by unfold FU; omega) (by omega) ⟨k1, k2, k3, k4, k5, k6, k7, by omega, k9.le (Nat.le_succ _), k10, k11, k12, k13⟩
end
