/-! A way home: places as bits -/
theorem nI_or (a b : Nat) : nI a ||| nI b = nI (a ||| b) := Int32.toBitVec_inj.mp (by
  rw [Int32.toBitVec_or]
  exact BitVec.ofNat_or.symm)
theorem nI_and (a b : Nat) : nI a &&& nI b = nI (a &&& b) := Int32.toBitVec_inj.mp (by
  rw [Int32.toBitVec_and]
  exact BitVec.ofNat_and.symm)
theorem bt_tb (s p : Nat) : bt s p = s.testBit p := by
  rw [Nat.testBit_eq_decide_div_mod_eq]
  show (s / 2 ^ p % 2 == 1) = decide (s / 2 ^ p % 2 = 1)
  by_cases c : s / 2 ^ p % 2 = 1
  · rw [c]; rfl
  · rw [decide_eq_false c]; exact beq_false_of_ne c
theorem sh8 : ∀ x, x < 8 → (1 : Int32) <<< (nI x &&& 31) = nI (2 ^ x) := by decide +kernel
theorem or_lt {a b : Nat} (ha : a < 256) (hb : b < 256) : a ||| b < 256 := Nat.or_lt_two_pow (n := 8) ha hb
theorem and_lt {a b : Nat} (ha : a < 256) : a &&& b < 256 := Nat.lt_of_le_of_lt Nat.and_le_left ha
theorem p2_lt {x : Nat} (h : x < 8) : 2 ^ x < 256 := Nat.pow_lt_pow_right (by decide) h
theorem bt_or (a b y : Nat) : bt (a ||| b) y = (bt a y || bt b y) := by rw [bt_tb, bt_tb, bt_tb, Nat.testBit_or]
theorem bt_and (a b y : Nat) : bt (a &&& b) y = (bt a y && bt b y) := by rw [bt_tb, bt_tb, bt_tb, Nat.testBit_and]
theorem bt_p2 (x y : Nat) : bt (2 ^ x) y = decide (x = y) := by rw [bt_tb, Nat.testBit_two_pow]
theorem bt_hi {a y : Nat} (ha : a < 256) (hy : 8 ≤ y) : bt a y = false := by
  rw [bt_tb]
  exact Nat.testBit_lt_two_pow (Nat.lt_of_lt_of_le ha (Nat.pow_le_pow_right (n := 2) (by decide) hy))
theorem bt_ext {a b : Nat} (ha : a < 256) (hb : b < 256) (h : ∀ y, y < 8 → bt a y = bt b y) : a = b := by
  apply Nat.eq_of_testBit_eq
  intro y
  rw [← bt_tb, ← bt_tb]
  by_cases c : y < 8
  · exact h y c
  · rw [bt_hi ha (by omega), bt_hi hb (by omega)]
/-- all of d lies in m -/
def cov (m d : Nat) : Prop := ∀ y, y < 8 → bt d y = true → bt m y = true
theorem cov_and {m d : Nat} (hm : m < 256) (hd : d < 256) : (m &&& d = d) ↔ cov m d := by
  constructor
  · intro h y hy hd
    rw [← h, bt_and] at hd
    exact (Bool.and_eq_true _ _ ▸ hd).1
  · intro h
    refine bt_ext (and_lt hm) hd (fun y hy => ?_)
    rw [bt_and]
    cases c : bt d y
    · rw [Bool.and_false]
    · rw [h y hy c]; rfl
theorem cov_not {m d : Nat} (hm : m < 256) (hd : d < 256) : (nI d &&& (nI m ^^^ (-1 : Int32)) = 0) ↔ cov m d := by
  rw [mk1 d hd m hm]
  constructor
  · intro h y hy hdy
    have h0 : d &&& (255 - m) = 0 := (nI_eq (b := 0) (Nat.lt_trans (and_lt hd) (by decide)) (by decide)).mp h
    have := bt_and d (255 - m) y
    rw [h0, mk2 m hm y hy, hdy] at this
    cases c : bt m y
    · rw [c] at this
      have z : bt 0 y = false := by unfold bt; rw [Nat.zero_div]; rfl
      rw [z] at this; exact absurd this (by decide)
    · rfl
  · intro h
    have : d &&& (255 - m) = 0 := by
      refine bt_ext (and_lt hd) (by decide) (fun y hy => ?_)
      rw [bt_and, mk2 m hm y hy]
      have z : bt 0 y = false := by unfold bt; rw [Nat.zero_div]; rfl
      rw [z]
      cases c : bt d y
      · rfl
      · rw [h y hy c]; rfl
    rw [this]; rfl
/-- one's places: class's look and the reference's placesOf in step -/
theorem look_l {n p : Nat} {C : CM} {O : OM} (h : TW 0 n C O) (hp : p < n) (k91 : CM → Option CM) (k90 k90' : Int32 → Int32 → Int32 → OM → Option Int32) (v : Int32) (v' : Int32) : ∀ d i m1 m2 m3 a b D, i + d = n → d < m1 → d < m2 → d < m3 → a < 256 → b < 256 → (∀ c, c ≠ 413 → D c = C c) → D 413 4 = nI a → D 413 5 = nI b →
    ∃ a' b' D', a' < 256 ∧ b' < 256 ∧ X0_look_l21 6 k91 m1 (nI p) (nI i) D = k91 D' ∧ (∀ c, c ≠ 413 → D' c = C c) ∧ D' 413 4 = nI a' ∧ D' 413 5 = nI b' ∧ (∀ k, k ≠ 4 → k ≠ 5 → D' 413 k = D 413 k) ∧
      X12_placesOf_l8 k90 m2 (nI p) v (nI a) (nI (a ||| b)) (nI i) O = k90 v (nI a') (nI (a' ||| b')) O ∧ X12_placesOf_l8 k90' m3 (nI p) v' (nI a) (nI (a ||| b)) (nI i) O = k90' v' (nI a') (nI (a' ||| b')) O := by
  have h7 := h.1.2.1.1
  intro d
  induction d with
  | zero =>
    intro i m1 m2 m3 a b D hi hm1 hm2 hm3 ha hb hD h4 h5
    obtain ⟨m1, rfl⟩ : ∃ m, m1 = m + 1 := ⟨m1 - 1, by omega⟩
    obtain ⟨m2, rfl⟩ : ∃ m, m2 = m + 1 := ⟨m2 - 1, by omega⟩
    obtain ⟨m3, rfl⟩ : ∃ m, m3 = m + 1 := ⟨m3 - 1, by omega⟩
    have : i = n := by omega
    subst this
    refine ⟨a, b, D, ha, hb, ?_, hD, h4, h5, fun _ _ _ => rfl, ?_, ?_⟩
    · rw [X0_look_l21, show D 6 0 = nI i from (congrFun (hD 6 (by decide)) 0).trans h.1.1, if_pos (Int32.le_refl _)]
    · rw [X12_placesOf_l8, h.1.2.1.2.1, if_pos (Int32.le_refl _)]
    · rw [X12_placesOf_l8, h.1.2.1.2.1, if_pos (Int32.le_refl _)]
  | succ d ih =>
    intro i m1 m2 m3 a b D hi hm1 hm2 hm3 ha hb hD h4 h5
    obtain ⟨m1, rfl⟩ : ∃ m, m1 = m + 1 := ⟨m1 - 1, by omega⟩
    obtain ⟨m2, rfl⟩ : ∃ m, m2 = m + 1 := ⟨m2 - 1, by omega⟩
    obtain ⟨m3, rfl⟩ : ∃ m, m3 = m + 1 := ⟨m3 - 1, by omega⟩
    have hin : i < n := by omega
    have d60 : D 6 0 = nI n := (congrFun (hD 6 (by decide)) 0).trans h.1.1
    obtain ⟨x, hx, ex⟩ := h.2.2.2.1 i (by omega)
    obtain ⟨g, hg, eg⟩ := h.2.2.2.2.1 i (by omega)
    obtain ⟨o, ho, eo⟩ := h.2.2.2.2.2.1 (7 * p + i) (by omega)
    have i7 : (7 : Int32) + nI i = nI (7 + i) := nI_add 7 i
    have eiO : O.1 470 (14 + i) = nI g := eg
    have eiC : D (6 + 3) i = nI g := by rw [hD 9 (by decide)]; exact (h.2.1.2.2.2.2.2.1 i (by omega)).trans eg
    have exC : D (6 + 2) i = nI x := by rw [hD 8 (by decide)]; exact (h.2.1.2.2.2.2.1 i (by omega)).trans ex
    have eoC : D (6 + 4) (7 * p + i) = nI o := by rw [hD 10 (by decide)]; exact (h.2.1.2.2.2.2.2.2 _ (by omega)).trans eo
    have hx8 : x < 8 := hx
    have hp2 := p2_lt hx8
    rw [X0_look_l21, X12_placesOf_l8, X12_placesOf_l8, d60, h.1.2.1.2.1, if_neg (leN hin h7), if_neg (leN hin h7), if_neg (leN hin h7)]
    unfold X0_look_j85 X12_placesOf_j82 X12_placesOf_j84
    rw [nI_1]
    by_cases e : i = p
    · subst e
      rw [if_pos rfl, if_pos rfl, if_pos rfl]
      exact ih (i + 1) m1 m2 m3 a b D (by omega) (by omega) (by omega) (by omega) ha hb hD h4 h5
    · have ne : ¬ nI i = nI p := fun h => e ((nI_eq (by omega) (by omega)).mp h)
      rw [if_neg ne, if_neg ne, if_neg ne, outY (s := 6) d60 h7 hin, bnd_s, eiC, isOutR (by omega), bnd_s, bnd_s, eiO]
      by_cases c : g = 0
      · subst c
        rw [if_pos (show nI 0 = 0 from rfl), if_neg n10, if_neg n10, if_neg n10, placeY (s := 6) d60 h7 hin, bnd_s, exC, owedY (s := 6) d60 h7 hp hin, bnd_s, eoC, i7, debtN', gd_p (inbN (show 7 + i < 164 by omega) (by decide)), gd_p (inbN (show 21 + (7 * p + i) < 164 by omega) (by decide)), gd_p (inbN (show 7 + i < 164 by omega) (by decide)), gd_p (inbN (show 7 + i < 164 by omega) (by decide)), gd_p (inbN (show 21 + (7 * p + i) < 164 by omega) (by decide)), gd_p (inbN (show 7 + i < 164 by omega) (by decide)), nI_clamp (show 7 + i < 2 ^ 31 by omega), nI_clamp (show 21 + (7 * p + i) < 2 ^ 31 by omega), ex, eo, sh8 x hx8, h4, h5]
        by_cases c2 : o = 0
        · subst c2
          rw [if_pos (show nI 0 ≤ 0 from Int32.le_refl _), if_pos (show nI 0 ≤ 0 from Int32.le_refl _), if_pos (show nI 0 ≤ 0 from Int32.le_refl _), nI_or, nI_or, show nI a ||| (0 : Int32) = nI a from nI_or a 0 |>.trans (by rw [Nat.or_zero]), Nat.or_assoc]
          obtain ⟨a', b', D', q1, q2, q3, q4, q5, q6, q7, q8, q9⟩ := ih (i + 1) m1 m2 m3 a (b ||| 2 ^ x) (up2 D 413 5 (nI (b ||| 2 ^ x))) (by omega) (by omega) (by omega) (by omega) ha (or_lt hb hp2) (fun c hc => by rw [up2_ne hc]; exact hD c hc) (by rw [up2_eq, pk_un (by decide)]; exact h4) (by rw [up2_eq, pk_us])
          exact ⟨a', b', D', q1, q2, q3, q4, q5, q6, fun k k4 k5 => by rw [q7 k k4 k5, up2_eq, pk_un k5], q8, q9⟩
        · rw [if_neg (nI_nle (by omega) (by omega)), if_neg (nI_nle (by omega) (by omega)), if_neg (nI_nle (by omega) (by omega)), nI_or, nI_or, show a ||| b ||| 2 ^ x = a ||| 2 ^ x ||| b by rw [Nat.or_assoc, Nat.or_comm b, Nat.or_assoc]]
          obtain ⟨a', b', D', q1, q2, q3, q4, q5, q6, q7, q8, q9⟩ := ih (i + 1) m1 m2 m3 (a ||| 2 ^ x) b (up2 D 413 4 (nI (a ||| 2 ^ x))) (by omega) (by omega) (by omega) (by omega) (or_lt ha hp2) hb (fun c hc => by rw [up2_ne hc]; exact hD c hc) (by rw [up2_eq, pk_us]) (by rw [up2_eq, pk_un (by decide)]; exact h5)
          exact ⟨a', b', D', q1, q2, q3, q4, q5, q6, fun k k4 k5 => by rw [q7 k k4 k5, up2_eq, pk_un k4], q8, q9⟩
      · rw [if_neg (nI_ne0 (by omega) (by omega)), if_pos rfl, if_pos rfl, if_pos rfl]
        exact ih (i + 1) m1 m2 m3 a b D (by omega) (by omega) (by omega) (by omega) ha hb hD h4 h5
theorem look_both {n p : Nat} {C : CM} {O : OM} (h : TW 0 n C O) (hp : p < n) : ∃ x nd nv C1, x < 8 ∧ nd < 256 ∧ nv < 256 ∧ O.1 470 (7 + p) = nI x ∧ f_X0_look 6 (nI p) C = some C1 ∧ (∀ c, c ≠ 413 → C1 c = C c) ∧ C1 413 3 = nI x ∧ C1 413 4 = nI nd ∧ C1 413 5 = nI nv ∧ f_X12_placesOf (nI p) 0 O = some (nI nv) ∧ f_X12_placesOf (nI p) 1 O = some (nI nd) := by
  have h7 := h.1.2.1.1
  obtain ⟨x, hx, ex⟩ := h.2.2.2.1 p (by omega)
  have exC : C (6 + 2) p = nI x := (h.2.1.2.2.2.2.1 p (by omega)).trans ex
  obtain ⟨a, b, D, q1, q2, q3, q4, q5, q6, q7, q8, q9⟩ := look_l h hp (fun C => (X0_look_j91 6 C)) (fun v2 v3 v4 O => (X12_placesOf_j90 v2 v3 v4 O)) (fun v2 v3 v4 O => (X12_placesOf_j90 v2 v3 v4 O)) 0 1 n 0 FU FU FU 0 0 (up2 (up2 (up2 C 413 3 (nI x)) 413 4 0) 413 5 0) (by omega) (by unfold FU; omega) (by unfold FU; omega) (by unfold FU; omega) (by decide) (by decide) (fun c hc => by rw [up2_ne hc, up2_ne hc, up2_ne hc]) (by rw [up2_eq, pk_un (by decide), up2_eq, pk_us]; rfl) (by rw [up2_eq, pk_us]; rfl)
  have em : nI b &&& (nI a ^^^ (-1 : Int32)) = nI (b &&& (255 - a)) := mk1 b q2 a q1
  have em2 : nI (a ||| b) &&& ((255 : Int32) - nI a) = nI (b &&& (255 - a)) := by
    rw [mk3 a q1, nI_and]
    congr 1
    refine bt_ext (and_lt (or_lt q1 q2)) (and_lt q2) (fun y hy => ?_)
    rw [bt_and, bt_and, bt_or, mk2 a q1 y hy]
    cases bt a y <;> cases bt b y <;> rfl
  refine ⟨x, a, b &&& (255 - a), up2 D 413 5 (nI (b &&& (255 - a))), hx, q1, and_lt q2, ex, ?_, fun c hc => by rw [up2_ne hc]; exact q4 c hc, ?_, ?_, by rw [up2_eq, pk_us], ?_, ?_⟩
  · unfold f_X0_look
    rw [placeY (s := 6) h.1.1 h7 hp, bnd_s, exC, show (0 : Int32) = nI 0 from rfl, show up2 (up2 (up2 C 413 3 (nI x)) 413 4 (nI 0)) 413 5 (nI 0) = up2 (up2 (up2 C 413 3 (nI x)) 413 4 0) 413 5 0 from rfl, q3]
    simp only [X0_look_j91]
    rw [q5, q6, em]
  · rw [up2_eq, pk_un (by decide), q7 3 (by decide) (by decide), up2_eq, pk_un (by decide), up2_eq, pk_un (by decide), up2_eq, pk_us]
  · rw [up2_eq, pk_un (by decide)]; exact q5
  · unfold f_X12_placesOf
    rw [show X12_placesOf_l8 (fun v2 v3 v4 O => (X12_placesOf_j90 v2 v3 v4 O)) FU (nI p) 0 0 0 0 O = X12_placesOf_j90 0 (nI a) (nI (a ||| b)) O from q8]
    unfold X12_placesOf_j90
    rw [if_pos rfl, em2]
  · unfold f_X12_placesOf
    rw [show X12_placesOf_l8 (fun v2 v3 v4 O => (X12_placesOf_j90 v2 v3 v4 O)) FU (nI p) 1 0 0 0 O = X12_placesOf_j90 1 (nI a) (nI (a ||| b)) O from q9]
    unfold X12_placesOf_j90
    rw [if_neg n10]
