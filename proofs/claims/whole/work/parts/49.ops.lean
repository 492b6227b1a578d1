theorem opt_clear (t : Nat) : op_clear (RelT t) := by
  intro C O h v w x
  obtain ⟨n, m, e, n', t', m', e', h'⟩ := h
  have hn : C 6 0 = nI n := h'.1.2.1.1
  have h7 := h'.1.1.1
  have hA := h'.1.2.1.2.1
  have hno : ∀ c, f_X7_clearable 6 v w x C = some 0 → f_X12_clear v w x O = some (-1, c) → RelT t C c → ∃ r C' O', f_X11_clear v w x C = some (r, C') ∧ f_X12_clear v w x O = some (r, O') ∧ RelT t C' O' := by
    intro c c1 c2 c3
    refine ⟨-1, C, c, ?_, c2, c3⟩
    unfold f_X11_clear
    rw [c1, bnd_s, if_pos rfl]
  have hcN1 : f_X7_meet 6 v w C = some 0 → f_X7_clearable 6 v w x C = some 0 := fun c => by
    unfold f_X7_clearable
    rw [c, bnd_s, if_pos rfl]
  have hcN2 : (∃ a, f_X7_meet 6 v w C = some a) → f_X7_meet 6 w x C = some 0 → f_X7_clearable 6 v w x C = some 0 := fun ⟨a, ha⟩ c => by
    unfold f_X7_clearable
    rw [ha, bnd_s]
    by_cases d : a = 0
    · rw [if_pos d]
    · rw [if_neg d, c, bnd_s, if_pos rfl]
  have hcN3 : (∃ a, f_X7_meet 6 v w C = some a) → (∃ a, f_X7_meet 6 w x C = some a) → f_X7_meet 6 x v C = some 0 → f_X7_clearable 6 v w x C = some 0 := fun ⟨a, ha⟩ ⟨b, hb⟩ c => by
    unfold f_X7_clearable
    rw [ha, bnd_s]
    by_cases d : a = 0
    · rw [if_pos d]
    · rw [if_neg d, hb, bnd_s]
      by_cases d2 : b = 0
      · rw [if_pos d2]
      · rw [if_neg d2, c, bnd_s, if_pos rfl]
  rcases two_cases hn h7 hA v w with ⟨a1, a2, a3⟩ | ⟨p, r, hp, hr, hne, rfl, rfl, a1, a2⟩
  · exact hno O (hcN1 (meetN hn h7 a3)) (by unfold f_X12_clear; rw [a2, bnd_s, if_pos rfl]) h'.relT
  · rcases two_cases hn h7 hA (nI r) x with ⟨b1, b2, b3⟩ | ⟨r2, u, hr2, hu, hne2, er, rfl, b1, b2⟩
    · exact hno O (hcN2 ⟨_, meetY hn h7 hp hr⟩ (meetN hn h7 b3)) (by unfold f_X12_clear; rw [a2, bnd_s, if_neg n10, b2, bnd_s, if_pos rfl]) h'.relT
    · have er2 : r = r2 := (nI_eq (by omega) (by omega)).mp er
      subst er2
      obtain ⟨O1, l1, l2, l3, l4, l5, l6⟩ := lay_rel h'
      by_cases epu : p = u
      · subst epu
        exact hno O (hcN3 ⟨_, meetY hn h7 hp hr⟩ ⟨_, meetY hn h7 hr hp⟩ (meetN hn h7 (Or.inl rfl))) (by unfold f_X12_clear; rw [a2, bnd_s, if_neg n10, b2, bnd_s, if_neg n10, if_pos rfl]) h'.relT
      · have npu : ¬ nI p = nI u := fun e => epu ((nI_eq (by omega) (by omega)).mp e)
        have vI : ∀ i, i < 7 → C 9 i = O1.1 470 (14 + i) := l5.2.1.2.2.2.2.2.1
        have vP : ∀ i, i < 7 → C 8 i = O1.1 470 (7 + i) := l5.2.1.2.2.2.2.1
        have vO : ∀ i, i < 49 → C 10 i = O1.1 470 (21 + i) := l5.2.1.2.2.2.2.2.2
        have mC : ∀ i j, i < n → j < n → i ≠ j → f_X7_meet 6 (nI i) (nI j) C = some (if O1.1 470 (14 + i) = 0 ∧ O1.1 470 (14 + j) = 0 ∧ O1.1 470 (7 + i) = O1.1 470 (7 + j) then 1 else 0) := by
          intro i j hi hj hij
          rw [meetY hn h7 hi hj, ← vI i (by omega), ← vI j (by omega), ← vP i (by omega), ← vP j (by omega)]
          by_cases c : C 9 i = 0 ∧ C 9 j = 0 ∧ C 8 i = C 8 j
          · rw [if_pos ⟨hij, c⟩, if_pos c]
          · rw [if_neg (fun h => c h.2), if_neg c]
        have ref0 : f_X12_clear (nI p) (nI r) (nI u) O = bnd (f_X12_doMeet (nI p) (nI r) O1) (fun r7 => (if r7 = 0 then (some ((-1 : Int32), O1)) else (bnd (f_X12_doMeet (nI r) (nI u) O1) (fun r9 => (if r9 = 0 then (some ((-1 : Int32), O1)) else (gd (inb (f_X12_debtAt (nI p) (nI r)) 164) (gd (inb (f_X12_debtAt (nI r) (nI u)) 164) (if (O1.1 470 (f_X12_debtAt (nI p) (nI r)).toNatClampNeg) ≤ (O1.1 470 (f_X12_debtAt (nI r) (nI u)).toNatClampNeg) then (X12_clear_j91 (nI p) (nI r) (nI u) (O1.1 470 (f_X12_debtAt (nI p) (nI r)).toNatClampNeg) O1) else (gd (inb (f_X12_debtAt (nI r) (nI u)) 164) (X12_clear_j91 (nI p) (nI r) (nI u) (O1.1 470 (f_X12_debtAt (nI r) (nI u)).toNatClampNeg) O1)))))))))) := by
          unfold f_X12_clear
          rw [a2, bnd_s, if_neg n10, b2, bnd_s, if_neg n10, if_neg npu, l1, bnd_s]
        by_cases c1 : O1.1 470 (14 + p) = 0 ∧ O1.1 470 (14 + r) = 0 ∧ O1.1 470 (7 + p) = O1.1 470 (7 + r)
        · by_cases c2 : O1.1 470 (14 + r) = 0 ∧ O1.1 470 (14 + u) = 0 ∧ O1.1 470 (7 + r) = O1.1 470 (7 + u)
          · obtain ⟨a, ha, ea⟩ := l5.2.2.2.2.2.1 (7 * p + r) (by omega)
            obtain ⟨b, hb, eb⟩ := l5.2.2.2.2.2.1 (7 * r + u) (by omega)
            obtain ⟨d, hd, ed⟩ := l5.2.2.2.2.2.1 (7 * u + p) (by omega)
            have ecl : f_X7_clearable 6 (nI p) (nI r) (nI u) C = some (nI (min a (min b d))) := by
              unfold f_X7_clearable
              rw [mC p r hp hr hne, if_pos c1, bnd_s, if_neg n10, mC r u hr hu hne2, if_pos c2, bnd_s, if_neg n10, mC u p hu hp (fun h => epu h.symm), if_pos ⟨c2.2.1, c1.1, (c1.2.2.trans c2.2.2).symm⟩, bnd_s, if_neg n10, owedY hn h7 hp hr, bnd_s, owedY hn h7 hr hu, bnd_s, owedY hn h7 hu hp, bnd_s, vO _ (by omega), vO _ (by omega), vO _ (by omega), ea, eb, ed, minN (by omega) (by omega), minN (by omega) (by omega)]
            have d1 : 21 + (7 * p + r) < 164 := by omega
            have d2 : 21 + (7 * r + u) < 164 := by omega
            have d3 : 21 + (7 * u + p) < 164 := by omega
            have ref1 : f_X12_clear (nI p) (nI r) (nI u) O = X12_clear_j123 (nI p) (nI r) (nI u) (nI (min a (min b d))) O1 := by
              rw [ref0, doMeetR (by omega) (by omega), if_pos c1, bnd_s, if_neg n10, doMeetR (by omega) (by omega), if_pos c2, bnd_s, if_neg n10]
              unfold X12_clear_j91
              simp only [debtN', gd_p (inbN d1 (by decide)), gd_p (inbN d2 (by decide)), gd_p (inbN d3 (by decide)), nI_clamp (show 21 + (7 * p + r) < 2 ^ 31 by omega), nI_clamp (show 21 + (7 * r + u) < 2 ^ 31 by omega), nI_clamp (show 21 + (7 * u + p) < 2 ^ 31 by omega), ea, eb, ed]
              by_cases x1 : a ≤ b
              · rw [if_pos (nI_le x1 (by omega))]
                by_cases x2 : a ≤ d
                · rw [if_pos (nI_le x2 (by omega)), show min a (min b d) = a by omega]
                · rw [if_neg (nI_ge (by omega) (by omega)), show min a (min b d) = d by omega]
              · rw [if_neg (nI_ge (by omega) (by omega))]
                by_cases x2 : b ≤ d
                · rw [if_pos (nI_le x2 (by omega)), show min a (min b d) = b by omega]
                · rw [if_neg (nI_ge (by omega) (by omega)), show min a (min b d) = d by omega]
            obtain ⟨l, hl⟩ : ∃ l, l = min a (min b d) := ⟨_, rfl⟩
            rw [← hl] at ecl ref1
            by_cases c0 : l = 0
            · rw [c0] at ecl ref1
              refine hno O1 ecl ?_ l4.relT
              rw [ref1]
              unfold X12_clear_j123
              rw [if_pos (show nI 0 = 0 from rfl)]
            · obtain ⟨C3, O3, s1, s2, s3, s4, s5, s6⟩ := step_rel l4
              have hrow : ∀ k, k < 164 → O3.1 470 k = O3.1 447 (40 + k) := fun k hk => by
                rw [s5 470 (by decide), s6 _ (by omega) (by omega), l2 447 (by decide)]; exact l3 k hk
              have ht := s3.tw hrow
              have o3 : O3.1 470 = O1.1 470 := s5 470 (by decide)
              have g1 := KP.owe (k := a - l) ht.1 (p := p) (r := r) (by omega) (by omega) hne (by omega)
              have g2 := KP.owe (k := b - l) g1.1 (p := r) (r := u) (by omega) (by omega) hne2 (by omega)
              have g3 := KP.owe (k := d - l) g2.1 (p := u) (r := p) (by omega) (by omega) (fun h => epu h.symm) (by omega)
              have kb := (g1.trans (g2.trans g3)).kb ht.2
              obtain ⟨O5, f1, f2, f3, f4, f5⟩ := keep_rel s3 kb.2.1 kb.2.2.1 kb.1 kb.2.2.2
              have v1 : O3.1 470 (21 + (7 * p + r)) = nI a := by rw [o3]; exact ea
              have v2 : (oup O3 470 (21 + (7 * p + r)) (nI (a - l))).1 470 (21 + (7 * r + u)) = nI b := by rw [oup_eq, pk_un (by omega), o3]; exact eb
              have v3 : (oup (oup O3 470 (21 + (7 * p + r)) (nI (a - l))) 470 (21 + (7 * r + u)) (nI (b - l))).1 470 (21 + (7 * u + p)) = nI d := by rw [oup_eq, pk_un (by omega), oup_eq, pk_un (by omega), o3]; exact ed
              have q1 : f_X7_owed 6 (nI p) (nI r) C3 = some (nI a) := (owedY (s := 6) ht.1.1.1 h7 hp hr).trans (congrArg some ((ht.1.2.1.2.2.2.2.2.2 _ (by omega)).trans v1))
              have q2 : f_X7_owed 6 (nI r) (nI u) (up2 C3 10 (7 * p + r) (nI (a - l))) = some (nI b) := (owedY (s := 6) g1.1.1.1 h7 hr hu).trans (congrArg some ((g1.1.2.1.2.2.2.2.2.2 _ (by omega)).trans v2))
              have q3 : f_X7_owed 6 (nI u) (nI p) (up2 (up2 C3 10 (7 * p + r) (nI (a - l))) 10 (7 * r + u) (nI (b - l))) = some (nI d) := (owedY (s := 6) g2.1.1.1 h7 hu hp).trans (congrArg some ((g2.1.2.1.2.2.2.2.2.2 _ (by omega)).trans v3))
              have y1 : f_X7_setOwed 6 (nI p) (nI r) (nI a - nI l) C3 = some (up2 C3 10 (7 * p + r) (nI (a - l))) := by
                rw [← clampS ha (show l < 2 ^ 30 by omega)]; exact setY (s := 6) ht.1.1.1 h7 hp hr hne
              have y2 : f_X7_setOwed 6 (nI r) (nI u) (nI b - nI l) (up2 C3 10 (7 * p + r) (nI (a - l))) = some (up2 (up2 C3 10 (7 * p + r) (nI (a - l))) 10 (7 * r + u) (nI (b - l))) := by
                rw [← clampS hb (show l < 2 ^ 30 by omega)]; exact setY (s := 6) g1.1.1.1 h7 hr hu hne2
              have y3 : f_X7_setOwed 6 (nI u) (nI p) (nI d - nI l) (up2 (up2 C3 10 (7 * p + r) (nI (a - l))) 10 (7 * r + u) (nI (b - l))) = some (up2 (up2 (up2 C3 10 (7 * p + r) (nI (a - l))) 10 (7 * r + u) (nI (b - l))) 10 (7 * u + p) (nI (d - l))) := by
                rw [← clampS hd (show l < 2 ^ 30 by omega)]; exact setY (s := 6) g2.1.1.1 h7 hu hp (fun h => epu h.symm)
              have ec : f_X7_clears 6 (nI p) (nI r) (nI u) (nI l) C3 = some (up2 (up2 (up2 C3 10 (7 * p + r) (nI (a - l))) 10 (7 * r + u) (nI (b - l))) 10 (7 * u + p) (nI (d - l))) := by
                unfold f_X7_clears
                rw [q1, bnd_s, y1, bnd_s, q2, bnd_s, y2, bnd_s, q3, bnd_s, y3, bnd_s]
              refine ⟨nI l, _, O5, ?_, ?_, f5.relT⟩
              · unfold f_X11_clear
                rw [ecl, bnd_s, if_neg (nI_ne0 (by omega) (by omega)), s1, bnd_s, ec, bnd_s]; rfl
              · rw [ref1]
                unfold X12_clear_j123
                rw [if_neg (nI_ne0 (by omega) (by omega)), s2, bnd_s]
                simp only [debtN', gd_p (inbN d1 (by decide)), gd_p (inbN d2 (by decide)), gd_p (inbN d3 (by decide)), nI_clamp (show 21 + (7 * p + r) < 2 ^ 31 by omega), nI_clamp (show 21 + (7 * r + u) < 2 ^ 31 by omega), nI_clamp (show 21 + (7 * u + p) < 2 ^ 31 by omega)]
                rw [v1, pk_sub (show l ≤ a by omega), v2, pk_sub (show l ≤ b by omega), v3, pk_sub (show l ≤ d by omega), f1, bnd_s]
          · refine hno O1 (hcN2 ⟨_, mC p r hp hr hne⟩ (by rw [mC r u hr hu hne2, if_neg c2])) ?_ l4.relT
            rw [ref0, doMeetR (by omega) (by omega), if_pos c1, bnd_s, if_neg n10, doMeetR (by omega) (by omega), if_neg c2, bnd_s, if_pos rfl]
        · refine hno O1 (hcN1 (by rw [mC p r hp hr hne, if_neg c1])) ?_ l4.relT
          rw [ref0, doMeetR (by omega) (by omega), if_neg c1, bnd_s, if_pos rfl]
theorem hour_l {n t n' t' m' e' : Nat} : ∀ d i m1 m2 acc a b C O m e, RelX n t m e n' t' m' e' C O → O.1 447 110 = nI a → O.1 447 111 = nI b → a ≤ 9999 → b < 10 → 10 * a + b + d ≤ 99999 → d < m1 → d < m2 → i + d ≤ 60 →
    ∃ r C1 O1, X11_hour_l29 m1 (nI (i + d)) acc (nI i) C = some (r, C1) ∧ X12_hour_l41 m2 (nI (i + d)) acc (nI i) O = some (r, O1) ∧ RelT t C1 O1 := by
  intro d
  induction d with
  | zero =>
    intro i m1 m2 acc a b C O m e h _ _ _ _ _ hm1 hm2 hi
    obtain ⟨m1, rfl⟩ : ∃ j, m1 = j + 1 := ⟨m1 - 1, by omega⟩
    obtain ⟨m2, rfl⟩ : ∃ j, m2 = j + 1 := ⟨m2 - 1, by omega⟩
    rw [X11_hour_l29, X12_hour_l41, Nat.add_zero, if_pos (Int32.le_refl _), if_pos (Int32.le_refl _)]
    exact ⟨_, _, _, rfl, rfl, h.relT⟩
  | succ d ih =>
    intro i m1 m2 acc a b C O m e h ea eb ha hb hd hm1 hm2 hi
    obtain ⟨m1, rfl⟩ : ∃ j, m1 = j + 1 := ⟨m1 - 1, by omega⟩
    obtain ⟨m2, rfl⟩ : ∃ j, m2 = j + 1 := ⟨m2 - 1, by omega⟩
    obtain ⟨C3, O3, s1, s2, s3, s4, s5, s6⟩ := step_rel h
    obtain ⟨O4, l1, l2, l3, l4, l5, l6⟩ := lay_rel s3
    have ea4 : O4.1 470 70 = nI a := by rw [l3 70 (by decide), s6 _ (by decide) (by decide)]; exact ea
    have eb4 : O4.1 470 71 = nI b := by rw [l3 71 (by decide), s6 _ (by decide) (by decide)]; exact eb
    obtain ⟨j, C5, O5, d1, d2, -, d3, d4, d5, d6, d7⟩ := hour_both l5 l6 ea4 eb4 ha hb (by omega)
    obtain ⟨O6, f1, f2, f3, f4, f5⟩ := keep_rel l4 d4 d5 d3 (d6.bk0 BK.refl)
    rw [X11_hour_l29, X12_hour_l41, if_neg (nI_ge (by omega) (by omega)), if_neg (nI_ge (by omega) (by omega)), s1, bnd_s, d1, bnd2_s, s2, bnd_s, l1, bnd_s, d2, bnd2_s, f1, bnd_s, nI_1, show i + (d + 1) = i + 1 + d by omega]
    rcases d7 with ⟨g1, g2, g3⟩ | ⟨g1, g2, g3⟩
    · exact ih (i + 1) m1 m2 _ a (b + 1) C5 O6 _ _ f5 ((f3 70 (by decide)).trans g2) ((f3 71 (by decide)).trans g3) ha (by omega) (by omega) (by omega) (by omega) (by omega)
    · exact ih (i + 1) m1 m2 _ (a + 1) 0 C5 O6 _ _ f5 ((f3 70 (by decide)).trans g2) ((f3 71 (by decide)).trans g3) (by omega) (by omega) (by omega) (by omega) (by omega) (by omega)
theorem opt_hour (t : Nat) : op_hour (RelT t) := by
  intro C O h v
  obtain ⟨n, m, e, n', t', m', e', h'⟩ := h
  have hs := h'.1.2.2.2.2.2.1
  obtain ⟨a, ha, ea⟩ := hs.2.2.2.2.2.2.2.2.1
  obtain ⟨b, hb, eb⟩ := hs.2.2.2.2.2.2.2.2.2.1
  have ea' : O.1 447 110 = nI a := ea
  have eb' : O.1 447 111 = nI b := eb
  have eh := hoursTC (s := 6) (C := C) (hs.1.1.trans ea) (hs.1.2.1.trans eb) ha hb
  unfold f_X11_hour f_X12_hour
  rw [eh, show (60 : Int32) = nI 60 from rfl, minN (by decide) (by omega), in_eq, ea', eb', show (10 : Int32) = nI 10 from rfl, pk_mul, nI_add, show (99999 : Int32) = nI 99999 from rfl]
  rcases wi_1 (b := min 60 (99999 - (10 * a + b))) (by omega) v with ⟨w1, w2⟩ | ⟨p, p1, p2, rfl, w1⟩
  · rw [w1, if_pos rfl]
    refine ⟨-1, C, O, rfl, ?_, h'.relT⟩
    rcases wi_1 (b := 60) (by decide) v with ⟨x1, -⟩ | ⟨j, j1, j2, rfl, x1⟩
    · rw [x1, if_pos rfl]
    · have : ¬ (a * 10 + b + j ≤ 99999) := fun hh => w2 j j1 (by omega) rfl
      rw [x1, if_neg n10, nI_add, if_neg (nI_ge (by omega) (by omega))]
  · have x1 : f_X11_within (nI p) 1 (nI 60) = 1 := by
      unfold f_X11_within
      rw [show (1 : Int32) = nI 1 from rfl, if_neg (nI_nlt p1 (by omega)), if_neg (nI_nlt (by omega) (by omega))]
    rw [w1, x1, if_neg n10, if_neg n10, nI_add, if_pos (nI_le (by omega) (by decide))]
    have := hour_l p 0 FU FU 0 a b C O m e h' ea' eb' ha hb (by omega) (by unfold FU; omega) (by unfold FU; omega) (by omega)
    rw [Nat.zero_add] at this
    exact this
theorem opp_clear : op_clear Rel := by
  intro C O h
  obtain ⟨t, ht⟩ := h.t
  intro v w x
  obtain ⟨r, C1, O1, r1, r2, r3⟩ := opt_clear t C O ht v w x
  exact ⟨r, C1, O1, r1, r2, r3.rel⟩
theorem opp_hour : op_hour Rel := by
  intro C O h
  obtain ⟨t, ht⟩ := h.t
  intro v
  obtain ⟨r, C1, O1, r1, r2, r3⟩ := opt_hour t C O ht v
  exact ⟨r, C1, O1, r1, r2, r3.rel⟩
