theorem set_out {n : Nat} {C0 : CM} {O0 : OM} (h : TW 0 n C0 O0) {D E : Nat → Int32} (hDE : ∀ p, p < n → ∀ C1 O1, (∀ c, c < 413 ∨ 421 < c → C1 c = C0 c) → (∀ c, c ≠ 473 → c ≠ 474 → O1.1 c = O0.1 c) →
    f_X7_owedTogether 6 (nI p) C1 = some (D p) ∧ f_X12_allOwedTo (nI p) O1 = some (D p) ∧ f_X7_owesTogether 6 (nI p) C1 = some (E p) ∧ f_X12_allOwedBy (nI p) O1 = some (E p))
    (v1 : Int32) (k161 : Int32 → CM → Option (Int32 × CM)) (k129 : Int32 → Int32 → OM → Option (Int32 × OM)) :
    ∀ d s m1 m2 C O, s + d = 2 ^ n → 1 ≤ s → d < m1 → d < m2 → (∀ c, c < 413 ∨ 421 < c → C c = C0 c) → (∀ c, c ≠ 473 → c ≠ 474 → O.1 c = O0.1 c) → (∀ s', s' < s → C 416 s' = O.1 474 s' ∧ C 415 s' = sD (fun p => D p - E p) s' n) →
      ∃ C1 O1, X5_mostEvenSets_l29 6 k161 m1 (nI (2 ^ n)) (nI s) C = k161 (nI (2 ^ n)) C1 ∧ X12_settled_l20 k129 m2 v1 (nI n) (nI s) O = k129 v1 (nI n) O1 ∧ (∀ c, c < 413 ∨ 421 < c → C1 c = C0 c) ∧ (∀ c, c ≠ 473 → c ≠ 474 → O1.1 c = O0.1 c) ∧ ∀ s', s' < 2 ^ n → C1 416 s' = O1.1 474 s' := by
  have h7 := h.1.2.1.1
  have hp : 2 ^ n ≤ 128 := Nat.pow_le_pow_right (by decide) h7
  intro d
  induction d with
  | zero =>
    intro s m1 m2 C O hs h1 hm1 hm2 hC hO hr
    obtain ⟨m1, rfl⟩ : ∃ m, m1 = m + 1 := ⟨m1 - 1, by omega⟩
    obtain ⟨m2, rfl⟩ : ∃ m, m2 = m + 1 := ⟨m2 - 1, by omega⟩
    have : s = 2 ^ n := by omega
    subst this
    rw [X5_mostEvenSets_l29, X12_settled_l20, b_sh n (by omega), if_pos (Int32.le_refl _), if_pos (Int32.le_refl _)]
    exact ⟨C, O, rfl, rfl, hC, hO, fun s' h' => (hr s' h').1⟩
  | succ d ih =>
    intro s m1 m2 C O hs h1 hm1 hm2 hC hO hr
    obtain ⟨m1, rfl⟩ : ∃ m, m1 = m + 1 := ⟨m1 - 1, by omega⟩
    obtain ⟨m2, rfl⟩ : ∃ m, m2 = m + 1 := ⟨m2 - 1, by omega⟩
    have hs8 : s < 128 := by omega
    obtain ⟨t1, t2, t3, t4⟩ := b_tz s hs8 (by omega)
    have htn : tz s < n := b_lt n (by omega) s (by omega) _ t4 t3
    have hlt : s - 2 ^ tz s < s := (b_sub s hs8 _ t4 t3).2.2
    obtain ⟨g1, -, g3, -⟩ := hDE (tz s) htn C O hC hO
    have hsum : C 415 (s - 2 ^ tz s) + (D (tz s) - E (tz s)) = sD (fun p => D p - E p) s n := by
      rw [(hr _ hlt).2, sD_sub (fun p => D p - E p) hs8 t4 t3 n h7, if_pos htn]
    obtain ⟨C1, x', r1, r2, r3, r4, r5⟩ := set_in h hDE hs8 v1 (nI (2 ^ n)) (fun v2 v3 C => (X5_mostEvenSets_j136 6 (fun v2 v3 C => X5_mostEvenSets_l29 6 k161 m1 v2 v3 C) k161 v2 v3 C)) (fun v1 v2 v3 v4 v5 O => (X12_settled_j104 (fun v1 v2 v3 O => X12_settled_l20 k129 m2 v1 v2 v3 O) k129 v1 v2 v3 v4 v5 O)) hO n 0 FU FU (up2 (up2 C 415 s (sD (fun p => D p - E p) s n)) 416 s 0) 0 (by omega) (by unfold FU; omega) (by unfold FU; omega) (fun c hc => by rw [up2_ne (by omega), up2_ne (by omega)]; exact hC c hc) (by rw [up2_eq, pk_us]) (fun s' h' => by rw [up2_eq, pk_un (by omega), up2_ne (by decide)]; exact (hr s' h').1)
    have e415 : C1 415 = upd (C 415) s (sD (fun p => D p - E p) s n) := by rw [r4 415 (by decide), up2_ne (by decide), up2_eq]
    have e416 : ∀ s', s' < s → C1 416 s' = C 416 s' := fun s' h' => by rw [r5 s' (by omega), up2_eq, pk_un (by omega), up2_ne (by decide)]
    have eC : ∀ c, c < 413 ∨ 421 < c → C1 c = C0 c := fun c hc => by rw [r4 c (by omega), up2_ne (by omega), up2_ne (by omega)]; exact hC c hc
    rw [X5_mostEvenSets_l29, X12_settled_l20, b_sh n (by omega), if_neg (nI_ge (by omega) (by omega)), if_neg (nI_ge (by omega) (by omega)), t1, g1, g3, bnd_s, bnd_s, t2, gd_p (inbN (by omega) (by decide)), gd_p (inbN hs8 (by decide)), gd_p (inbN hs8 (by decide)), nI_clamp (by omega), nI_clamp (by omega), hsum, show (0 : Int32) = nI 0 from rfl, show up2 (up2 C 415 s (sD (fun p => D p - E p) s n)) 416 s (nI 0) = up2 (up2 C 415 s (sD (fun p => D p - E p) s n)) 416 s 0 from rfl, r1,
      show X12_settled_l36 (fun v1 v2 v3 v4 v5 O => (X12_settled_j104 (fun v1 v2 v3 O => X12_settled_l20 k129 m2 v1 v2 v3 O) k129 v1 v2 v3 v4 v5 O)) FU v1 (nI n) (nI s) (nI 0) (nI 0) (nI 0) O = _ from r2]
    simp only [X5_mostEvenSets_j136, X5_mostEvenSets_j155, X12_settled_j104, X12_settled_j121, gd_p (inbN hs8 (show 128 < 2 ^ 31 by decide)), nI_clamp (show s < 2 ^ 31 by omega), nI_1]
    rw [e415, pk_us, r3]
    by_cases c : sD (fun p => D p - E p) s n = 0
    · rw [if_pos c, if_pos c]
      refine ih (s + 1) m1 m2 _ _ (by omega) (by omega) (by omega) (by omega) (fun c hc => by rw [up2_ne (by omega)]; exact eC c hc) (fun c c1 c2 => by rw [oup_ne c2]; exact hO c c1 c2) (fun s' h' => ?_)
      rw [up2_eq, up2_ne (by decide), oup_eq, e415]
      by_cases e : s' = s
      · subst e
        rw [pk_us, pk_us, pk_us]; exact ⟨rfl, rfl⟩
      · rw [pk_un e, pk_un e, pk_un e, e416 s' (by omega)]; exact hr s' (by omega)
    · rw [if_neg c, if_neg c, Int32.add_zero]
      refine ih (s + 1) m1 m2 _ _ (by omega) (by omega) (by omega) (by omega) eC (fun c c1 c2 => by rw [oup_ne c2]; exact hO c c1 c2) (fun s' h' => ?_)
      rw [oup_eq, e415]
      by_cases e : s' = s
      · subst e
        rw [pk_us, pk_us]; exact ⟨r3, rfl⟩
      · rw [pk_un e, pk_un e, e416 s' (by omega)]; exact hr s' (by omega)
theorem RelX.scr {n t m e n' t' m' e' : Nat} {C C1 : CM} {O O1 : OM} (h : RelX n t m e n' t' m' e' C O) (hC : ∀ c, c < 413 ∨ 421 < c → C1 c = C c) (hO : ∀ c, c ≠ 473 → c ≠ 474 → O1.1 c = O.1 c) : RelX n t m e n' t' m' e' C1 O1 := by
  obtain ⟨sc, s1, s2⟩ := h.2.2.2.2.2.2.2.2
  exact h.co ⟨fun c _ _ => hC c (by omega), hC _ (by decide), fun c _ _ => hC c (by omega), by rw [hC _ (by decide)], ⟨sc, s1, by rw [hC _ (by decide)]; exact s2⟩, by rw [hC _ (by decide)], by rw [hC _ (by decide)], by rw [hC _ (by decide)]⟩ ⟨fun c _ _ => hO c (by omega) (by omega), fun k _ _ => by rw [hO 446 (by decide) (by decide)]⟩
theorem opp_settled : op_settled Rel := by
  intro C O h v
  obtain ⟨n, t, m, e, n', t', m', e', h'⟩ := h
  have h7 := h'.1.1.1
  have hp : 2 ^ n ≤ 128 := Nat.pow_le_pow_right (by decide) h7
  have hp0 : 1 ≤ 2 ^ n := Nat.one_le_two_pow
  obtain ⟨O1, l1, l2, l3, l4, l5, l6⟩ := lay_rel h'
  obtain ⟨D, E, hDE⟩ := sum_at l5
  obtain ⟨C2, O2, r1, r2, r3, r4, r5⟩ := set_out l5 hDE (bz v) (fun v2 C => (X5_mostEvenSets_j161 6 v2 C)) (fun v1 v2 O => (X12_settled_j129 v1 v2 O)) (2 ^ n - 1) 1 FU FU (up2 (up2 C 415 0 0) 416 0 0) (oup O1 474 0 0) (by omega) (by omega) (by unfold FU; omega) (by unfold FU; omega) (fun c hc => by rw [up2_ne (by omega), up2_ne (by omega)]) (fun c c1 c2 => by rw [oup_ne c2]) (fun s' h' => by
    have : s' = 0 := by omega
    subst this
    rw [up2_eq, pk_us, oup_eq, pk_us, up2_ne (by decide), up2_eq, pk_us]
    refine ⟨rfl, ?_⟩
    have : ∀ k, sD (fun p => D p - E p) 0 k = 0 := by
      intro k
      induction k with
      | zero => rfl
      | succ k ih =>
        show (if bt 0 k then _ else _) = _
        rw [if_neg (by unfold bt; rw [Nat.zero_div]; decide)]; exact ih
    exact (this n).symm)
  have hr := l4.scr r3 r4
  have en : O1.1 447 0 = nI n := l4.1.2.1.2.1
  have ec : C 6 0 = nI n := h'.1.2.1.1
  have ec2 : C2 6 0 = nI n := (congrFun (r3 6 (by decide)) 0).trans ec
  have e128 : f_J9_min_7cf53 128 (nI (2 ^ n)) = nI (2 ^ n) := by
    rw [show (128 : Int32) = nI 128 from rfl, minN (by decide) (by omega), Nat.min_eq_right hp]
  have ep : nI (2 ^ n) - 1 = nI (2 ^ n - 1) := by
    have := nI_pred (2 ^ n - 1)
    rw [Nat.sub_add_cancel hp0] at this
    exact this
  have e1 : f_X5_mostEvenSets 6 C = some (O2.1 474 (2 ^ n - 1), C2) := by
    unfold f_X5_mostEvenSets
    rw [ec, b_sh n (by omega), e128, show (1 : Int32) = nI 1 from rfl, r1]
    show X5_mostEvenSets_j161 6 (nI (2 ^ n)) C2 = _
    unfold X5_mostEvenSets_j161
    rw [ep, gd_p (inbN (by omega) (by decide)), nI_clamp (by omega), r5 _ (by omega)]
  have e2 : f_X12_settled (bz v) O = some ((if bz v = 0 then nI n - O2.1 474 (2 ^ n - 1) else O2.1 474 (2 ^ n - 1)), O2) := by
    unfold f_X12_settled
    rw [l1, bnd_s, en, show (1 : Int32) = nI 1 from rfl, r2]
    show X12_settled_j129 (bz v) (nI n) O2 = _
    unfold X12_settled_j129
    rw [b_sh n (by omega), ep, gd_p (inbN (by omega) (by decide)), nI_clamp (by omega)]
    by_cases c : bz v = 0
    · rw [if_pos c, if_pos c]
    · rw [if_neg c, if_neg c]
  refine ⟨_, C2, O2, ?_, e2, hr.rel⟩
  unfold f_X11_settled
  rw [e1, bnd2_s]
  by_cases c : bz v = 0
  · rw [if_pos c, if_pos c, ec2]
  · rw [if_neg c, if_neg c]
