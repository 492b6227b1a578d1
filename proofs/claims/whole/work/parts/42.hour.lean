/-! The day's ruins, an hour, a drawn deed -/
theorem up2_2 {C : CM} {i k : Nat} {x y : Int32} : up2 (up2 C i k x) i k y = up2 C i k y := by
  funext a b
  by_cases ha : a = i
  · subst ha
    rw [up2_eq, up2_eq, up2_eq]
    by_cases hb : b = k
    · subst hb; rw [pk_us, pk_us]
    · rw [pk_un hb, pk_un hb, pk_un hb]
  · rw [up2_ne ha, up2_ne ha, up2_ne ha]
theorem oup_2 {O : OM} {i k : Nat} {x y : Int32} : oup (oup O i k x) i k y = oup O i k y := by
  unfold oup
  rw [up2_2]
theorem day_l {q n : Nat} : ∀ d i m1 m2 a m C O, TW q n C O → BR q n m C O → i + d = n → d < m1 → d < m2 →
    ∃ j C1 O1, X9_passHour_l120 q m1 (nI a) (nI i) C = some (nI (a + j), C1) ∧ X12_dayBegins_l69 m2 (nI a) (nI i) O = some (nI (a + j), O1) ∧ j ≤ d ∧ TW q n C1 O1 ∧ FrT q C C1 ∧ FrTO O O1 ∧ BR q n (m + j) C1 O1 ∧ ZK O O1 := by
  intro d
  induction d with
  | zero =>
    intro i m1 m2 a m C O h hb hi hm1 hm2
    obtain ⟨m1, rfl⟩ : ∃ m, m1 = m + 1 := ⟨m1 - 1, by omega⟩
    obtain ⟨m2, rfl⟩ : ∃ m, m2 = m + 1 := ⟨m2 - 1, by omega⟩
    have : i = n := by omega
    subst this
    rw [X9_passHour_l120, X12_dayBegins_l69, h.1.1, h.1.2.1.2.1, if_pos (Int32.le_refl _), if_pos (Int32.le_refl _)]
    exact ⟨0, C, O, rfl, rfl, Nat.le_refl _, h, FrT.refl, FrTO.refl, hb, ZK.refl⟩
  | succ d ih =>
    intro i m1 m2 a m C O h hb hi hm1 hm2
    have h7 := h.1.2.1.1
    obtain ⟨m1, rfl⟩ : ∃ m, m1 = m + 1 := ⟨m1 - 1, by omega⟩
    obtain ⟨m2, rfl⟩ : ∃ m, m2 = m + 1 := ⟨m2 - 1, by omega⟩
    have hin : i < n := by omega
    obtain ⟨pp1, pp2, -, ⟨bk, hbk, ebk⟩, -⟩ := h.1.2.1.2.2 i hin
    have i17 : (17 : Int32) + nI i = nI (17 + i) := nI_add 17 i
    have i14 : (14 : Int32) + nI i = nI (14 + i) := nI_add 14 i
    obtain ⟨g, hg, eg⟩ := h.2.2.2.2.1 i (by omega)
    have egC : C (stI q + 3) i = nI g := (h.2.1.2.2.2.2.2.1 i (by omega)).trans eg
    have ka := KP.left (p := i) (k := bk) h (by omega) hbk
    have kb := KP.indoors (p := i) (k := g - 1) ka.1 (by omega) (by omega)
    have emax : f_J9_max_7cf53 0 (nI g - 1) = nI (g - 1) := by
      have : ∀ g, g < 4 → f_J9_max_7cf53 0 (nI g - 1) = nI (g - 1) := by decide +kernel
      exact this g hg
    have hkp := ka.trans kb
    have tb := kb.1
    have zk : ZK O (oup (oup O 470 i (nI bk)) 470 (14 + i) (nI (g - 1))) := (ZK.ne (by omega)).trans (ZK.ne (by omega))
    have hb2 := hb.bk h7 hkp.2.2.2 zk
    obtain ⟨S, s1, s2, s3⟩ := owes_both tb hin
    obtain ⟨k, Cr, Or, hk, r1, r2, r3, r4⟩ := ruin_both tb.1 tb.2.1 tb.2.2 hin
    have kr := KP.ofL tb r3 r4
    have hb3 := hb2.bk h7 kr.2.2.2 (ZK.of1 (r4 470 (by decide)))
    have s1' : f_X7_owesTogether (stI q) (nI i) Cr = some S := by
      obtain ⟨S', t1, t2, -⟩ := owes_both kr.1 hin
      have : f_X12_allOwedBy (nI i) Or = f_X12_allOwedBy (nI i) (oup (oup O 470 i (nI bk)) 470 (14 + i) (nI (g - 1))) := by
        obtain ⟨S2, q1, q2, -⟩ := owes_both (q := q) (n := n) (p := i) (C := up2 (up2 C (stI q + 1) i (nI bk)) (stI q + 3) i (nI (g - 1))) (O := Or) ⟨tb.1.mono FrT.refl (FrTO.of1 r4), by rw [r4 470 (by decide)]; exact tb.2.1, by rw [r4 470 (by decide)]; exact tb.2.2⟩ hin
        rw [q2, s2, ← s1, q1]
      rw [t1, ← t2, this, s2]
    have base : X9_passHour_l120 q (m1 + 1) (nI a) (nI i) C = (if S ≤ nI k then X9_passHour_l120 q m1 (nI a) (nI (i + 1)) Cr else (bnd (f_X7_ruins (stI q) (nI i) Cr) (fun C14 => X9_passHour_l120 q m1 (nI (a + 1)) (nI (i + 1)) C14))) := by
      rw [X9_passHour_l120, h.1.1, if_neg (leN hin h7), backY (by omega), bnd_s, ebk]
      unfold f_X7_sleeps
      rw [hasY h.1.1 h7 hin, if_neg (by decide), gd_p (inbN (by omega) (by decide)), gd_p (inbN (by omega) (by decide)), gd_p (inbN (by omega) (by decide)), nI_clamp (by omega), bnd_s, up2_ne (j := stI q + 3) (by omega), egC, emax, s1, bnd_s, r1, bnd2_s]
      simp only [X9_passHour_j177, nI_1]
    have base2 : X12_dayBegins_l69 (m2 + 1) (nI a) (nI i) O = (if S ≤ nI k then X12_dayBegins_l69 m2 (nI a) (nI (i + 1)) Or else X12_dayBegins_l150 (fun v1 v2 v3 O => (X12_dayBegins_j179 (fun v1 v2 O => X12_dayBegins_l69 m2 v1 v2 O) v1 v2 v3 O)) FU (nI a) (nI i) S (nI 0) Or) := by
      rw [X12_dayBegins_l69, h.1.2.1.2.1, if_neg (leN hin h7), i17, zN, i14, gd_p (inbN (by omega) (by decide)), gd_p (inbN (by omega) (by decide)), gd_p (inbN (by omega) (by decide)), gd_p (inbN (by omega) (by decide)), nI_clamp (by omega), nI_clamp (by omega), nI_clamp (by omega), ← pp2, ebk, oup_eq, pk_un (by omega), eg]
      simp only [X12_dayBegins_j131, gd_p (inbN (show 14 + i < 164 by omega) (by decide)), nI_clamp (show 14 + i < 2 ^ 31 by omega), X12_dayBegins_j218, nI_1]
      by_cases c : g = 0
      · subst c
        rw [if_pos (show nI 0 ≤ 0 from Int32.le_refl _), show (0 : Int32) = nI (0 - 1) from rfl, s2, bnd_s, r2, bnd2_s]
      · obtain ⟨g', rfl⟩ : ∃ g', g = g' + 1 := ⟨g - 1, by omega⟩
        rw [if_neg (nI_nle (by omega) (by omega)), nI_pred]
        rw [Nat.add_sub_cancel] at s2 r2
        rw [s2, bnd_s, r2, bnd2_s]
        rfl
    rw [base, base2]
    by_cases c : S ≤ nI k
    · rw [if_pos c, if_pos c]
      obtain ⟨j, C1, O1, p1, p2, p3, p4, p5, p6, p7, p8⟩ := ih (i + 1) m1 m2 a m Cr Or kr.1 hb3 (by omega) (by omega) (by omega)
      exact ⟨j, C1, O1, p1, p2, by omega, p4, (hkp.trans kr).2.1.trans p5, (hkp.trans kr).2.2.1.trans p6, p7, (zk.trans (ZK.of1 (r4 470 (by decide)))).trans p8⟩
    · rw [if_neg c, if_neg c]
      have hz : ¬ zp n (Or.1 470) i := by
        intro hz
        rw [r4 470 (by decide)] at hz
        exact c (by rw [s3 hz]; exact nI_pos' (by omega))
      obtain ⟨Cx, Ox, x1, x2, x3, x4, x5, x6, x7⟩ := ruin_step (v := nI a) kr.1 hb3 hin s1' hz (fun v1 v2 O => X12_dayBegins_l69 m2 v1 v2 O)
      obtain ⟨j, C1, O1, p1, p2, p3, p4, p5, p6, p7, p8⟩ := ih (i + 1) m1 m2 (a + 1) (m + 1) Cx Ox x3 x6 (by omega) (by omega) (by omega)
      rw [x1, bnd_s, x2, nI_1]
      exact ⟨j + 1, C1, O1, by rw [p1, show a + 1 + j = a + (j + 1) by omega], by rw [p2, show a + 1 + j = a + (j + 1) by omega], by omega, p4, ((hkp.trans kr).2.1.trans x4).trans p5, ((hkp.trans kr).2.2.1.trans x5).trans p6, by rw [show m + (j + 1) = m + 1 + j by omega]; exact p7, (zk.trans (ZK.of1 (r4 470 (by decide)))).trans (x7.trans p8)⟩
theorem hour_both {q n m a b : Nat} {C : CM} {O : OM} (h : TW q n C O) (hb : BR q n m C O) (ea : O.1 470 70 = nI a) (ebh : O.1 470 71 = nI b) (ha : a ≤ 9999) (hb10 : b < 10) (hc : a < 9999 ∨ b < 9) :
    ∃ j C1 O1, f_X9_passHour q C = some (nI j, C1) ∧ f_X12_hourPasses O = some (nI j, O1) ∧ j ≤ 7 ∧ TW q n C1 O1 ∧ FrT q C C1 ∧ FrTO O O1 ∧ BR q n (m + j) C1 O1 ∧
      ((b < 9 ∧ O1.1 470 70 = nI a ∧ O1.1 470 71 = nI (b + 1)) ∨ (b = 9 ∧ O1.1 470 70 = nI (a + 1) ∧ O1.1 470 71 = nI 0)) := by
  have h7 := h.1.2.1.1
  have eaC : C (stI q) 1 = nI a := h.2.1.1.trans ea
  have ebC : C (stI q) 2 = nI b := h.2.1.2.1.trans ebh
  unfold f_X9_passHour f_X12_hourPasses
  rw [up2_eq, pk_us, oup_eq, pk_us, ebC, ebh, nI_1, show (10 : Int32) = nI 10 from rfl]
  by_cases c : b < 9
  · have k := KP.hour (k := b + 1) h (by omega)
    rw [if_neg (nI_ge (by omega) (by omega)), if_neg (nI_ge (by omega) (by omega))]
    refine ⟨0, _, _, rfl, rfl, by omega, k.1, k.2.1, k.2.2.1, ?_, Or.inl ⟨c, by rw [oup_eq, pk_un (by decide)]; exact ea, by rw [oup_eq, pk_us]⟩⟩
    rcases hb with ⟨h0, e1, e2⟩ | ⟨h0, e1, e2, e3, e4⟩
    · subst h0
      exact Or.inl ⟨rfl, by rw [oup_eq, pk_un (by decide)]; exact (k.2.2.2.1).trans e1, fun j hj => by rw [oup_eq, pk_un (by omega)]; exact (congrFun k.2.2.2.2.1 j).trans (e2 j hj)⟩
    · refine Or.inr ⟨h0, (k.2.2.2.1).trans e1, ?_, by rw [oup_ne (by decide)]; exact e3, by rw [oup_ne (by decide), k.2.2.2.2.1]; exact e4⟩
      refine Nat.le_trans e2 (zc_mono n fun p hp hz r hr => ?_)
      rw [oup_eq, pk_un (by omega)]; exact hz r hr
  · have e9 : b = 9 := by omega
    subst e9
    rw [if_pos (Int32.le_refl _), if_pos (Int32.le_refl _)]
    simp only [up2_2, oup_2]
    have k1 := KP.hour (k := 0) h (by decide)
    have k2 := KP.day (k := a + 1) k1.1 (by omega)
    have k := k1.trans k2
    have e1 : (up2 C (stI q) 2 0) (stI q) 1 = nI a := by rw [up2_eq, pk_un (by decide)]; exact eaC
    have e2 : (oup O 470 71 0).1 470 70 = nI a := by rw [oup_eq, pk_un (by decide)]; exact ea
    rw [e1, e2, nI_1]
    have hb2 : BR q n m (up2 (up2 C (stI q) 2 (nI 0)) (stI q) 1 (nI (a + 1))) (oup (oup O 470 71 (nI 0)) 470 70 (nI (a + 1))) := by
      rcases hb with ⟨h0, f1, f2⟩ | ⟨h0, f1, f2, f3, f4⟩
      · subst h0
        exact Or.inl ⟨rfl, by rw [oup_eq, pk_un (by decide), oup_eq, pk_un (by decide)]; exact (k.2.2.2.1).trans f1, fun j hj => by rw [oup_eq, pk_un (by omega), oup_eq, pk_un (by omega)]; exact (congrFun k.2.2.2.2.1 j).trans (f2 j hj)⟩
      · refine Or.inr ⟨h0, (k.2.2.2.1).trans f1, ?_, by rw [oup_ne (by decide), oup_ne (by decide)]; exact f3, by rw [oup_ne (by decide), oup_ne (by decide), k.2.2.2.2.1]; exact f4⟩
        refine Nat.le_trans f2 (zc_mono n fun p hp hz r hr => ?_)
        rw [oup_eq, pk_un (by omega), oup_eq, pk_un (by omega)]; exact hz r hr
    obtain ⟨Ca, Oa, a1, a2, a3, a4⟩ := late_out (q := q) (n := n) (fun C => (X9_passHour_j116 q C)) (fun v1 O => (X12_dayBegins_j67 v1 O)) (nI 0) n 0 FU FU _ _ k.1 (by omega) (by unfold FU; omega) (by unfold FU; omega)
    have hb3 := hb2.bk h7 a3.2.2.2 a4
    obtain ⟨j, C1, O1, p1, p2, p3, p4, p5, p6, p7, p8⟩ := day_l n 0 FU FU 0 m Ca Oa a3.1 hb3 (by omega) (by unfold FU; omega) (by unfold FU; omega)
    rw [Nat.zero_add] at p1 p2
    refine ⟨j, C1, O1, ?_, ?_, by omega, p4, (k.trans a3).2.1.trans p5, (k.trans a3).2.2.1.trans p6, p7, Or.inr ⟨trivial, ?_, ?_⟩⟩
    · exact a1.trans p1
    · unfold f_X12_dayBegins
      rw [show X12_dayBegins_l4 (fun v1 O => (X12_dayBegins_j67 v1 O)) FU 0 0 (oup (oup O 470 71 0) 470 70 (nI (a + 1))) = some (nI j, O1) from a2.trans p2, bnd2_s]
    · rw [p8.2.1, a4.2.1, oup_eq, pk_us]
    · rw [p8.2.2, a4.2.2, oup_eq, pk_un (by decide), oup_eq, pk_us]
