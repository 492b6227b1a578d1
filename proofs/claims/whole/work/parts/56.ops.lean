/-! Whose laws; the tape; a lane -/
theorem whose_l {n t m e n' t' m' e' N : Nat} {rules : Int32} (hN : N ≤ 60) : ∀ d i m1 m2 best fC fR C O, RelX n t m e n' t' m' e' C (oup O 447 2 rules) → i + d = t → d < m1 → d < m2 → ((best = -1 ∧ fC = 2147483647) ∨ ∃ b, b < t ∧ best = nI b ∧ fC = fR) →
    ∃ res C1 O1, X11_whose_l21 m1 (nI N) best fC (nI i) C = some (res, C1) ∧ X12_whose_l27 (fun v2 v3 O => (X12_whose_j78 v2 v3 O)) m2 (nI N) rules best fR (nI i) O = some (res, O1) ∧ Rel C1 O1 := by
  intro d
  induction d with
  | zero =>
    intro i m1 m2 best fC fR C O h hi hm1 hm2 hb
    obtain ⟨m1, rfl⟩ : ∃ j, m1 = j + 1 := ⟨m1 - 1, by omega⟩
    obtain ⟨m2, rfl⟩ : ∃ j, m2 = j + 1 := ⟨m2 - 1, by omega⟩
    have hit : i = t := by omega
    subst hit
    have e1 : C 5 2 = nI i := h.1.2.1.2.2.1
    have e2 : O.1 447 1 = nI i := by
      have := h.1.2.1.2.2.2.1
      rw [oup_eq, pk_un (by decide)] at this
      exact this
    rw [X11_whose_l21, X12_whose_l27, e1, e2, if_pos (Int32.le_refl _), if_pos (Int32.le_refl _)]
    exact ⟨best, C, _, rfl, rfl, h.rel⟩
  | succ d ih =>
    intro i m1 m2 best fC fR C O h hi hm1 hm2 hb
    obtain ⟨m1, rfl⟩ : ∃ j, m1 = j + 1 := ⟨m1 - 1, by omega⟩
    obtain ⟨m2, rfl⟩ : ∃ j, m2 = j + 1 := ⟨m2 - 1, by omega⟩
    have e1 : C 5 2 = nI t := h.1.2.1.2.2.1
    have ht4 := h.1.1.2.1
    have h7 := h.1.1.1
    have e2 : O.1 447 1 = nI t := by
      have := h.1.2.1.2.2.2.1
      rw [oup_eq, pk_un (by decide)] at this
      exact this
    have hf : FrO1 447 (oup O 447 2 rules) (oup O 447 2 (nI i)) := fun c hc => by rw [oup_ne hc, oup_ne hc]
    obtain ⟨r, C1, O1, r1, r2, r3, r4, r5, r6⟩ := fore_both (O0 := oup O 447 2 (nI i)) (v := nI i) h hf (fun k hk => by rw [oup_eq, oup_eq, pk_un hk, pk_un hk]) (by rw [oup_eq, pk_us]) (Or.inr ⟨i, by omega, rfl⟩) hN
    have hr7 : r ≤ 7 := by
      rcases r4 with ⟨h0, -⟩ | ⟨h0, e1, e2, e3, e4⟩
      · exact absurd h0 (by decide)
      · have := zc_le n (O1.1 470) n
        omega
    have hO : CoO (oup O 447 2 rules) (oup O1 447 2 rules) := by
      refine ⟨fun c c1 c2 => ?_, fun k k1 k2 => ?_⟩
      · by_cases hc : c = 447
        · rw [hc, oup_eq, oup_eq, r6.1 447 (by decide) (by decide) (by decide), oup_eq]
          funext k
          by_cases hk : k = 2
          · rw [hk, pk_us, pk_us]
          · rw [pk_un hk, pk_un hk, pk_un hk]
        · rw [oup_ne hc, oup_ne hc, r6.1 c (by omega) (by omega) (by omega), oup_ne hc]
      · rw [oup_ne (by decide), oup_ne (by decide), r6.2 k (by omega), oup_ne (by decide)]
    have h2 := h.co r5 hO
    rw [X11_whose_l21, X12_whose_l27, e1, e2, if_neg (nI_ge (by omega) (by omega)), if_neg (nI_ge (by omega) (by omega)), r1, r2, bnd2_s, bnd2_s]
    simp only [X11_whose_j54, X12_whose_j72, X12_whose_j65, nI_1]
    rcases hb with ⟨b1, b2⟩ | ⟨b, hbt, b1, b2⟩
    · have hmax : ¬ fC ≤ nI r := by
        rw [b2, Int32.le_iff_toInt_le, nI_toInt (by omega), show (2147483647 : Int32).toInt = 2147483647 from rfl]
        omega
      rw [if_neg hmax, if_pos b1]
      exact ih (i + 1) m1 m2 (nI i) (nI r) (nI r) C1 O1 h2 (by omega) (by omega) (by omega) (Or.inr ⟨i, by omega, rfl, rfl⟩)
    · have hne : ¬ best = -1 := by rw [b1]; exact nm1_ne (by omega)
      rw [if_neg hne, b2]
      by_cases c : fR ≤ nI r
      · rw [if_pos c, if_pos c]
        exact ih (i + 1) m1 m2 best fR fR C1 O1 h2 (by omega) (by omega) (by omega) (Or.inr ⟨b, hbt, b1, rfl⟩)
      · rw [if_neg c, if_neg c]
        exact ih (i + 1) m1 m2 (nI i) (nI r) (nI r) C1 O1 h2 (by omega) (by omega) (by omega) (Or.inr ⟨i, by omega, rfl, rfl⟩)
theorem opp_whose : op_whose Rel := by
  intro C O h v
  obtain ⟨n, t, m, e, n', t', m', e', h'⟩ := h
  unfold f_X11_whose f_X12_whose
  rw [in_eq, show (60 : Int32) = nI 60 from rfl]
  rcases wi_1 (b := 60) (by decide) v with ⟨w1, -⟩ | ⟨N, k1, k2, rfl, w1⟩
  · rw [w1, if_pos rfl, if_pos rfl]
    exact ⟨_, _, _, rfl, rfl, h'.rel⟩
  · rw [w1, if_neg n10, if_neg n10]
    have ht4 := h'.1.1.2.1
    exact whose_l k2 t 0 FU FU (-1) _ 0 C O (by rw [oup_same _ rfl]; exact h') (by omega) (by unfold FU; omega) (by unfold FU; omega) (Or.inl ⟨rfl, rfl⟩)
theorem byt_x (x : Int32) : bytR (x &&& 255) (vp_nar .byte x.toInt8.toInt32) := by
  have e1 : x &&& 255 = nI (x.toBitVec.toNat % 2 ^ 8) := pk_and x 8 rfl
  have e2 : vp_nar .byte x.toInt8.toInt32 = x.toInt8.toInt32 := by
    unfold vp_nar
    rw [pk_nb]
  have hb : x.toBitVec.toNat % 2 ^ 8 < 256 := Nat.mod_lt _ (by decide)
  have e3 : x.toInt8.toInt32.toInt = x.toInt.bmod 256 := by
    rw [Int8.toInt_toInt32, Int32.toInt_toInt8]
  have e4 : x.toInt = if 2 * x.toBitVec.toNat < 2 ^ 32 then (x.toBitVec.toNat : Int) else (x.toBitVec.toNat : Int) - (2 ^ 32 : Nat) := BitVec.toInt_eq_toNat_cond _
  refine ⟨_, hb, e1, ?_⟩
  rw [e2]
  apply Int32.toInt_inj.mp
  rw [e3, e4]
  by_cases c : x.toBitVec.toNat % 2 ^ 8 < 128
  · rw [if_pos c, nI_toInt (by omega)]
    rw [Int.bmod_def]
    split <;> split <;> omega
  · rw [if_neg c, pk_sub_toInt (by omega) (by omega)]
    rw [Int.bmod_def]
    split <;> split <;> omega
theorem add_step {L f sh : Nat} {v : Int32} {C : CM} (hL : L < 300) (h : C 404 1 = nI L) (hs : sh < 100) : X8_add_l3 (f + 1) v (nI sh) C = X8_add_l3 f v (nI sh + (-8)) (up2 (up2 C 405 L ((v >>> (nI sh &&& 31)) &&& 255)) 404 1 (nI (L + 1))) := by
  have c : f_X11_within (nI L) 0 299 = 1 := by
    unfold f_X11_within
    rw [if_neg (nI_pos (by omega)), show (299 : Int32) = nI 299 from rfl, if_neg (nI_nlt (by omega) (by omega))]
  rw [X8_add_l3, if_neg (nI_pos (by omega)), h, c, if_neg n10, gd_p (inbN (by omega) (by decide)), nI_clamp (by omega), up2_ne (show 404 ≠ 405 by decide), h, nI_1]
  rfl
theorem put_step {L f sh : Nat} {v : Int32} {O : OM} (hL : L < 300) (h : O.1 446 3 = nI L) (hs : sh < 100) : X12_put_l3 (f + 1) v (nI sh) O = X12_put_l3 f v (nI sh - 8) (oup (oup O 449 L (vp_nar .byte ((v >>> (nI sh &&& 31)).toInt8.toInt32))) 446 3 (nI (L + 1))) := by
  rw [X12_put_l3, if_neg (nI_pos (by omega)), h, gd_p (inbN (by omega) (by decide)), nI_clamp (by omega), oup_ne (show 446 ≠ 449 by decide), h, nI_1]
/-- what a tape's step keeps -/
def TpR (L : Nat) (C C1 : CM) (O O1 : OM) : Prop := C1 404 1 = nI L ∧ O1.1 446 3 = nI L ∧ (∀ k, k < L → bytR (C1 405 k) (O1.1 449 k)) ∧ (∀ c, c ≠ 404 → c ≠ 405 → C1 c = C c) ∧ (∀ k, k ≠ 1 → C1 404 k = C 404 k) ∧ (∀ c, c ≠ 446 → c ≠ 449 → O1.1 c = O.1 c) ∧ ∀ k, k ≠ 3 → O1.1 446 k = O.1 446 k
theorem TpR.step {L : Nat} {C C1 : CM} {O O1 : OM} (h : TpR L C C1 O O1) (x : Int32) : TpR (L + 1) C (up2 (up2 C1 405 L (x &&& 255)) 404 1 (nI (L + 1))) O (oup (oup O1 449 L (vp_nar .byte (x.toInt8.toInt32))) 446 3 (nI (L + 1))) := by
  obtain ⟨a1, a2, a3, a4, a5, a6, a7⟩ := h
  refine ⟨by rw [up2_eq, pk_us], by rw [oup_eq, pk_us], fun k hk => ?_, fun c c1 c2 => by rw [up2_ne c1, up2_ne c2]; exact a4 c c1 c2, fun k hk => by rw [up2_eq, pk_un hk, up2_ne (by decide)]; exact a5 k hk, fun c c1 c2 => by rw [oup_ne c1, oup_ne c2]; exact a6 c c1 c2, fun k hk => by rw [oup_eq, pk_un hk, oup_ne (by decide)]; exact a7 k hk⟩
  rw [up2_ne (by decide), up2_eq, oup_ne (by decide), oup_eq]
  by_cases e : k = L
  · subst e
    rw [pk_us, pk_us]; exact byt_x x
  · rw [pk_un e, pk_un e]; exact a3 k (by omega)
theorem add_put {L : Nat} {C C1 : CM} {O O1 : OM} (h : TpR L C C1 O O1) (hL : L + 4 ≤ 300) (v : Int32) : ∃ C2 O2, f_X8_add v C1 = some C2 ∧ f_X12_put v O1 = some O2 ∧ TpR (L + 4) C C2 O O2 := by
  have h1 := h.step (v >>> (nI 24 &&& 31))
  have h2 := h1.step (v >>> (nI 16 &&& 31))
  have h3 := h2.step (v >>> (nI 8 &&& 31))
  have h4 := h3.step (v >>> (nI 0 &&& 31))
  refine ⟨_, _, ?_, ?_, h4⟩
  · unfold f_X8_add
    rw [show FU = 9995 + 1 + 1 + 1 + 1 + 1 from rfl, show (24 : Int32) = nI 24 from rfl, add_step (by omega) h.1 (by decide), show nI 24 + (-8) = nI 16 from rfl, add_step (by omega) h1.1 (by decide), show nI 16 + (-8) = nI 8 from rfl, add_step (by omega) h2.1 (by decide), show nI 8 + (-8) = nI 0 from rfl, add_step (by omega) h3.1 (by decide), X8_add_l3, if_pos (by decide)]
  · unfold f_X12_put
    rw [show FU = 9995 + 1 + 1 + 1 + 1 + 1 from rfl, show (24 : Int32) = nI 24 from rfl, put_step (by omega) h.2.1 (by decide), show nI 24 - 8 = nI 16 from rfl, put_step (by omega) h1.2.1 (by decide), show nI 16 - 8 = nI 8 from rfl, put_step (by omega) h2.2.1 (by decide), show nI 8 - 8 = nI 0 from rfl, put_step (by omega) h3.2.1 (by decide), X12_put_l3, if_pos (by decide)]
theorem opp_feed : op_feed Rel := by
  intro C O h v w x y z
  obtain ⟨n, t, m, e, n', t', m', e', h'⟩ := h
  obtain ⟨a, b, c, d, ⟨L, l1, l2, l3, l4⟩, f2, f3, f4, f5⟩ := h'
  unfold f_X11_feed f_X12_feed
  rw [l2, l3, show (20 : Int32) = nI 20 from rfl, show (300 : Int32) = nI 300 from rfl, nI_add]
  by_cases c0 : L + 20 ≤ 300
  · rw [if_pos (nI_le c0 (by decide)), if_pos (nI_le c0 (by decide))]
    have h0 : TpR L C C O O := ⟨l2, l3, l4, fun _ _ _ => rfl, fun _ _ => rfl, fun _ _ _ => rfl, fun _ _ => rfl⟩
    obtain ⟨C1, O1, p1, q1, h1⟩ := add_put h0 (by omega) v
    obtain ⟨C2, O2, p2, q2, h2⟩ := add_put h1 (by omega) w
    obtain ⟨C3, O3, p3, q3, h3⟩ := add_put h2 (by omega) x
    obtain ⟨C4, O4, p4, q4, h4⟩ := add_put h3 (by omega) y
    obtain ⟨C5, O5, p5, q5, h5⟩ := add_put h4 (by omega) z
    rw [p1, bnd_s, p2, bnd_s, p3, bnd_s, p4, bnd_s, p5, bnd_s, q1, bnd_s, q2, bnd_s, q3, bnd_s, q4, bnd_s, q5, bnd_s]
    obtain ⟨g1, g2, g3, g4, g5, g6, g7⟩ := h5
    have ht4 := a.1.2.1
    refine ⟨_, C5, O5, rfl, by rw [g1, g2], n, t, m, e, n', t', m', e', a.mono (fun p _ => ⟨by rw [g4 2 (by decide) (by decide)], by rw [g4 3 (by decide) (by decide)], by rw [g4 4 (by decide) (by decide)]⟩) (fun c h1 h2 => g4 c (by omega) (by omega)) (fun k _ => by rw [g6 447 (by decide) (by decide)]), b.mono (fun p _ => ⟨by rw [g4 2 (by decide) (by decide)], by rw [g4 3 (by decide) (by decide)], by rw [g4 4 (by decide) (by decide)]⟩) (fun c h1 h2 => g4 c (by omega) (by omega)) (fun k _ => by rw [g6 448 (by decide) (by decide)]), c, fun k hk => (d k hk).mono (fun j _ => g4 _ (by omega) (by omega)) (fun c h1 h2 => g6 c (by omega) (by omega)), ⟨L + 4 + 4 + 4 + 4 + 4, by omega, g1, g2, g3⟩, ?_, ?_, ?_, ?_⟩
    · rw [g4 406 (by decide) (by decide), g7 4 (by decide), g7 5 (by decide)]; exact f2
    · rw [g4 386 (by decide) (by decide), g4 385 (by decide) (by decide)]; exact f3
    · rw [g6 447 (by decide) (by decide), g4 391 (by decide) (by decide)]; exact f4
    · rw [g4 401 (by decide) (by decide)]; exact f5
  · rw [if_neg (nI_ge (by omega) (by omega)), if_neg (nI_ge (by omega) (by omega))]
    exact ⟨_, _, _, rfl, rfl, n, t, m, e, n', t', m', e', a, b, c, d, ⟨L, l1, l2, l3, l4⟩, f2, f3, f4, f5⟩
theorem lane_l (v2 v3 v4 v6 : Int32) : ∀ K m1 m2 st f s, K < 100 → K < m1 → K < m2 → X11_lane_l94 (fun v6 v8 v9 v10 => (X11_lane_j153 v6 v8 v9 v10)) m1 v2 v3 v4 v6 st (if K % 2 = 0 then f else s) (if K % 2 = 0 then s else f) (nI K - 1) = X12_lane_l82 (fun v6 v7 v8 v9 => (X12_lane_j179 v6 v7 v8 v9)) m2 v2 v3 v4 v6 st f s (nI K - 1) ∧ ∃ r, X12_lane_l82 (fun v6 v7 v8 v9 => (X12_lane_j179 v6 v7 v8 v9)) m2 v2 v3 v4 v6 st f s (nI K - 1) = some r := by
  intro K
  induction K with
  | zero =>
    intro m1 m2 st f s _ h1 h2
    obtain ⟨m1, rfl⟩ : ∃ j, m1 = j + 1 := ⟨m1 - 1, by omega⟩
    obtain ⟨m2, rfl⟩ : ∃ j, m2 = j + 1 := ⟨m2 - 1, by omega⟩
    have c : nI 0 - 1 < 0 := by decide
    rw [X11_lane_l94, X12_lane_l82, if_pos c, if_pos c]
    refine ⟨rfl, ?_⟩
    unfold X12_lane_j179
    by_cases c0 : v6 = 0
    · exact ⟨_, if_pos c0⟩
    · rw [if_neg c0]
      by_cases c1 : v6 = 1
      · exact ⟨_, if_pos c1⟩
      · exact ⟨_, if_neg c1⟩
  | succ K ih =>
    intro m1 m2 st f s hK h1 h2
    obtain ⟨m1, rfl⟩ : ∃ j, m1 = j + 1 := ⟨m1 - 1, by omega⟩
    obtain ⟨m2, rfl⟩ : ∃ j, m2 = j + 1 := ⟨m2 - 1, by omega⟩
    have c : ¬ nI K < 0 := nI_pos (by omega)
    have em : irm (nI K) 2 = nI (K % 2) := pk_rem (by omega) (by decide) (by decide)
    have en : nI K + (-1) = nI K - 1 := (Int32.sub_eq_add_neg _ _).symm
    have emax : f_J9_max_7cf53 0 (v4 - nI K * v3) = if 0 ≤ v4 - nI K * v3 then v4 - nI K * v3 else 0 := by
      unfold f_J9_max_7cf53
      by_cases d : 0 < v4 - nI K * v3
      · rw [if_pos d, if_pos (Int32.le_of_lt d)]
      · rw [if_neg d]
        by_cases d2 : 0 ≤ v4 - nI K * v3
        · rw [if_pos d2]; exact Int32.le_antisymm d2 (Int32.not_lt.mp d)
        · rw [if_neg d2]
    obtain ⟨t0, ht0⟩ : ∃ t0, t0 = if 0 ≤ v4 - nI K * v3 then v4 - nI K * v3 else 0 := ⟨_, rfl⟩
    have eref : X12_lane_l82 (fun v6 v7 v8 v9 => (X12_lane_j179 v6 v7 v8 v9)) (m2 + 1) v2 v3 v4 v6 st f s (nI K) = X12_lane_j116 (fun v2 v3 v4 v6 v7 v8 v9 v10 => X12_lane_l82 (fun v6 v7 v8 v9 => (X12_lane_j179 v6 v7 v8 v9)) m2 v2 v3 v4 v6 v7 v8 v9 v10) (fun v6 v7 v8 v9 => (X12_lane_j179 v6 v7 v8 v9)) v2 v3 v4 v6 st f s (nI K) (v2 + nI K * v3) t0 := by
      rw [X12_lane_l82, if_neg c, ht0]
      by_cases d : 0 ≤ v4 - nI K * v3
      · rw [if_pos d, if_pos d]
      · rw [if_neg d, if_neg d]
    rw [nI_pred, eref]
    rw [X11_lane_l94, if_neg c, emax, ← ht0]
    simp only [X11_lane_j147, X12_lane_j116, X12_lane_j134, X12_lane_j155, X12_lane_j171, X12_lane_j173, em, en]
    by_cases p : K % 2 = 0
    · have p1 : ¬ (K + 1) % 2 = 0 := by omega
      have p0 : nI (K % 2) = 0 := by rw [p]; rfl
      rw [if_neg p1, if_neg p1, if_pos p0, if_pos p0, if_pos p0]
      by_cases d : f < v2 + nI K * v3
      · rw [if_pos d, if_pos d]
        have := ih m1 m2 st f s (by omega) (by omega) (by omega)
        rw [if_pos p, if_pos p] at this
        exact this
      · rw [if_neg d, if_neg d]
        have := ih m1 m2 (nI K) (v2 + nI K * v3) t0 (by omega) (by omega) (by omega)
        rw [if_pos p, if_pos p] at this
        exact this
    · have p1 : (K + 1) % 2 = 0 := by omega
      have p0 : ¬ nI (K % 2) = 0 := by rw [show K % 2 = 1 by omega]; decide
      rw [if_pos p1, if_pos p1, if_neg p0, if_neg p0, if_neg p0]
      by_cases d : s < v2 + nI K * v3
      · rw [if_pos d, if_pos d]
        have := ih m1 m2 st f s (by omega) (by omega) (by omega)
        rw [if_neg p, if_neg p] at this
        exact this
      · rw [if_neg d, if_neg d]
        have := ih m1 m2 (nI K) t0 (v2 + nI K * v3) (by omega) (by omega) (by omega)
        rw [if_neg p, if_neg p] at this
        exact this
theorem opp_lane : op_lane Rel := by
  intro C O h v w x y z u
  unfold f_X11_lane f_X12_lane X11_lane_j68 X11_lane_j69
  rw [in_eq]
  rw [show (20 : Int32) = nI 20 from rfl]
  rcases wi_1 (b := 20) (by decide) v with ⟨w1, -⟩ | ⟨N, k1, k2, rfl, w1⟩
  · rw [w1, if_pos rfl, if_pos rfl, if_pos rfl]; exact ⟨_, rfl, rfl, h⟩
  rw [w1, if_neg n10, if_neg n10]
  by_cases c2 : f_X11_within w 0 99 = 0
  · rw [if_pos c2, if_pos c2, if_pos rfl]; exact ⟨_, rfl, rfl, h⟩
  rw [if_neg c2, if_neg c2]
  by_cases c3 : f_X11_within x 0 99 = 0
  · rw [if_pos c3, if_pos c3, if_pos rfl]; exact ⟨_, rfl, rfl, h⟩
  rw [if_neg c3, if_neg c3]
  by_cases c4 : f_X11_within y 0 999 = 0
  · rw [if_pos c4, if_pos c4, if_pos rfl]; exact ⟨_, rfl, rfl, h⟩
  rw [if_neg c4, if_neg c4]
  by_cases c5 : f_X11_within z 0 9999 = 0
  · rw [if_pos c5, if_pos c5, if_pos rfl]; exact ⟨_, rfl, rfl, h⟩
  rw [if_neg c5, if_neg c5]
  by_cases c6 : f_X11_within u 0 2 = 0
  · rw [if_pos c6, if_pos c6, if_pos rfl]; exact ⟨_, rfl, rfl, h⟩
  rw [if_neg c6, if_neg c6, if_neg n10]
  obtain ⟨l1, r, l2⟩ := lane_l w x y u N FU FU (nI N) z z (by omega) (by unfold FU; omega) (by unfold FU; omega)
  rw [ite_self] at l1
  exact ⟨r, l1.trans l2, l2, h⟩
