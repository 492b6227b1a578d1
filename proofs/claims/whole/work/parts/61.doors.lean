theorem wi_m1n {n : Nat} (hn : n < 2 ^ 30) (x : Int32) : (x = -1 ∧ f_X11_within x (-1) (nI n - 1) = 1) ∨ (¬ x = -1 ∧ f_X11_within x (-1) (nI n - 1) = f_X11_within x 0 (nI n - 1)) := by
  have em : (-1 : Int32).toInt = -1 := rfl
  have e0 : (0 : Int32).toInt = 0 := rfl
  have es : (nI n - 1).toInt = (n : Int) - 1 := pk_sub_toInt (a := n) (b := 1) hn (by decide)
  by_cases c : x = -1
  · refine Or.inl ⟨c, ?_⟩
    subst c
    unfold f_X11_within
    rw [if_neg (by decide), if_neg]
    rw [Int32.lt_iff_toInt_lt, es, em]
    omega
  · refine Or.inr ⟨c, ?_⟩
    unfold f_X11_within
    have c' : x.toInt ≠ -1 := fun h => c (Int32.toInt_inj.mp (h.trans em.symm))
    by_cases c1 : x < -1
    · rw [if_pos c1, if_pos]
      rw [Int32.lt_iff_toInt_lt, em] at c1
      rw [Int32.lt_iff_toInt_lt, e0]
      omega
    · rw [if_neg c1]
      rw [Int32.lt_iff_toInt_lt, em] at c1
      rw [if_neg (show ¬ x < 0 by rw [Int32.lt_iff_toInt_lt, e0]; omega)]
theorem b_full : ∀ n, n < 8 → ∀ p, p < n → bt (2 ^ n - 1) p = true := by decide +kernel
theorem opp_doors : op_doors Rel := by
  intro C O h v
  obtain ⟨n, t, m, e, n', t', m', e', h'⟩ := h
  have h7 := h'.1.1.1
  have hp : 2 ^ n ≤ 128 := Nat.pow_le_pow_right (by decide) h7
  have hp0 : 1 ≤ 2 ^ n := Nat.one_le_two_pow
  have ec : C 6 0 = nI n := h'.1.2.1.1
  obtain ⟨O1, l1, l2, l3, l4, l5, l6⟩ := lay_rel h'
  have en : O1.1 447 0 = nI n := l4.1.2.1.2.1
  obtain ⟨W, hW⟩ : ∃ W : Nat → Nat → Nat, W = fun p q => if p < 7 ∧ q < 7 then (O1.1 470 (21 + (7 * p + q))).toNatClampNeg else 0 := ⟨_, rfl⟩
  have hWv : ∀ p q, p < 7 → q < 7 → O1.1 470 (21 + (7 * p + q)) = nI (W p q) ∧ W p q ≤ 9999 := by
    intro p q h1 h2
    obtain ⟨k, hk, ek⟩ := l5.2.2.2.2.2.1 (7 * p + q) (by omega)
    have : W p q = k := by
      rw [hW]
      show (if p < 7 ∧ q < 7 then (O1.1 470 (21 + (7 * p + q))).toNatClampNeg else 0) = k
      rw [if_pos ⟨h1, h2⟩, ek, nI_clamp (by omega)]
    rw [this]; exact ⟨ek, hk⟩
  have hW9 : ∀ p q, W p q ≤ 9999 := by
    intro p q
    by_cases c : p < 7 ∧ q < 7
    · exact (hWv p q c.1 c.2).2
    · rw [hW]
      show (if p < 7 ∧ q < 7 then (O1.1 470 (21 + (7 * p + q))).toNatClampNeg else 0) ≤ 9999
      rw [if_neg c]; exact Nat.zero_le _
  have hWC : ∀ p q, p < 7 → q < 7 → C 10 (7 * p + q) = nI (W p q) := fun p q h1 h2 => (l5.2.1.2.2.2.2.2.2 _ (by omega)).trans (hWv p q h1 h2).1
  obtain ⟨O2, b, r1, r2, r3, r4⟩ := doorR_out h7 en (fun p q h1 h2 => (hWv p q h1 h2).1) hW9 v (fun v1 v2 O => (X12_doors_j129 v1 v2 O)) (2 ^ n - 1) 1 FU (oup O1 474 0 0) (fun _ => 0) (by omega) (by omega) (by unfold FU; omega) (fun c hc => oup_ne hc) (fun s' h' => by
    have : s' = 0 := by omega
    subst this
    rw [oup_eq, pk_us]; rfl) ⟨rfl, fun s' h' => ⟨Nat.zero_le _, fun h0 => absurd h0 (by omega)⟩⟩
  have e128 : f_J9_min_7cf53 128 (nI (2 ^ n)) = nI (2 ^ n) := by
    rw [show (128 : Int32) = nI 128 from rfl, minN (by decide) (by omega), Nat.min_eq_right hp]
  have ep : nI (2 ^ n) - 1 = nI (2 ^ n - 1) := by
    have := nI_pred (2 ^ n - 1)
    rw [Nat.sub_add_cancel hp0] at this
    exact this
  obtain ⟨C2, w1, w2, w3⟩ := weigh_out h7 ec hWC hW9 r4 (2 ^ n - 1) 1 FU (up2 C 416 (2 ^ n - 1) 0) (by omega) (by omega) (by unfold FU; omega) (fun c hc => up2_ne hc) (fun r hr => by
    have : r = 0 := by omega
    subst this
    rw [Nat.sub_zero, up2_eq, pk_us, r4.1]
    have : dWt W n 0 = 0 := sN_zero n (fun p _ => by
      show (if bt 0 p then 0 else dIn W n p 0) = 0
      rw [dIn_0]; split <;> rfl)
    rw [this]; rfl)
  have ew : f_X5_weighOrders 6 C = some C2 := by
    unfold f_X5_weighOrders
    rw [ec, b_sh n (by omega), e128, ep, gd_p (inbN (by omega) (by decide)), nI_clamp (by omega)]
    exact w1
  have hr : RelX n t m e n' t' m' e' C2 O2 := l4.scr (fun c hc => w2 c (by omega)) (fun c _ c2 => r2 c c2)
  have c60 : C2 6 0 = nI n := (congrFun (w2 6 (by decide)) 0).trans ec
  have hWC2 : ∀ p q, p < 7 → q < 7 → C2 10 (7 * p + q) = nI (W p q) := fun p q h1 h2 => by rw [w2 10 (by decide)]; exact hWC p q h1 h2
  have en2 : O2.1 447 0 = nI n := by rw [r2 447 (by decide)]; exact en
  have hWO2 : ∀ p q, p < 7 → q < 7 → O2.1 470 (21 + (7 * p + q)) = nI (W p q) := fun p q h1 h2 => by rw [r2 470 (by decide)]; exact (hWv p q h1 h2).1
  unfold f_X11_doors f_X12_doors f_X5_leastPaid
  rw [ew, bnd_s, bnd_s, l1, bnd_s, en, c60, in_eq]
  rcases wi_m1n (n := n) (by omega) v with ⟨x1, x2⟩ | ⟨x1, x2⟩
  · rw [if_pos x1, x2, if_neg n10, show (1 : Int32) = nI 1 from rfl, r1]
    simp only [X12_doors_j129]
    rw [if_pos x1, b_sh n (by omega), ep, gd_p (inbN (by omega) (by decide)), nI_clamp (by omega), r3 _ (by omega)]
    have hz := w3 (2 ^ n - 1) (by omega)
    rw [Nat.sub_self] at hz
    have : dWt W n (2 ^ n - 1) = 0 := sN_zero n (fun p hpn => by
      show (if bt (2 ^ n - 1) p then 0 else dIn W n p (2 ^ n - 1)) = 0
      rw [if_pos (b_full n (by omega) p hpn)])
    rw [this, Nat.add_zero] at hz
    rw [hz]
    exact ⟨_, _, _, rfl, rfl, hr.rel⟩
  · rw [if_neg x1, x2]
    rcases wi_n (n := n) (by omega) v with ⟨y1, -⟩ | ⟨i, hi, rfl, y1⟩
    · rw [y1, if_pos rfl, if_pos rfl]
      exact ⟨_, _, _, rfl, rfl, (l4.scr (C1 := C2) (O1 := O1) (fun c hc => w2 c (by omega)) (fun _ _ _ => rfl)).rel⟩
    · rw [y1, if_neg n10, if_neg n10, show (1 : Int32) = nI 1 from rfl, r1]
      simp only [X12_doors_j129]
      have hcnt : dIn (fun _ _ => 1) n 0 (2 ^ n - 1) + 0 = n := by
        have e1 : dIn (fun _ _ => 1) n 0 (2 ^ n - 1) = sN (fun _ => 1) n := sN_congr n (fun q hq => if_pos (b_full n (by omega) q hq))
        have e2 : ∀ k, sN (fun _ => 1) k = k := by
          intro k
          induction k with
          | zero => rfl
          | succ k ih => show sN (fun _ => 1) k + 1 = k + 1; rw [ih]
        rw [e1, e2, Nat.add_zero]
      obtain ⟨z, z1, z2⟩ := door_l h7 hi c60 hWC2 hW9 r4 w3 en2 hWO2 r3 (i + 1) 0 (2 ^ n - 1) (-1) FU FU (by omega) (by omega) hcnt (by unfold FU; omega) (by unfold FU; omega)
      rw [Nat.sub_self] at z1
      unfold f_X5_door
      rw [if_neg x1, b_sh n (by omega), ep, show X5_door_l8 6 FU (nI i) 0 (-1) 0 C2 = some z from z1, bnd_s, show X12_doors_l153 FU (nI i) (nI (2 ^ n - 1)) (-1) 0 O2 = some (z, O2) from z2]
      exact ⟨_, _, _, rfl, rfl, hr.rel⟩
