/-! The sets that explain the necks: the reference; explained, sure, corner -/
section
variable {n k : Nat} {O : OM} {w : Nat → Nat → Int32} {N : Nat → Int32}
theorem expl_in {S p : Nat} (hn : n ≤ 7) (h0 : O.1 447 0 = nI n) (hk : k = min n 5) (hw : ∀ p q, p < 7 → q < 7 → O.1 447 (40 + (21 + (7 * p + q))) = w p q) (hS : S < 1024) (hp : p < k) (k70 : Int32 → Int32 → Int32 → OM → Option Int32) :
    ∀ d q f, q + d = k → d < f → X12_explains_l15 k70 f (nI S) (nI p) (sI (fun q => if q ≠ p ∧ bt S (tw p q) = true then w p q else 0) q) (nI q) O = k70 (nI S) (nI p) (BF w k S p) O := by
  intro d
  induction d with
  | zero =>
    intro q f hq hf
    obtain ⟨f, rfl⟩ : ∃ j, f = j + 1 := ⟨f - 1, by omega⟩
    have : q = k := by omega
    subst this
    rw [X12_explains_l15, fewR hn h0, bnd_s, ← hk, if_pos (Int32.le_refl _)]; rfl
  | succ d ih =>
    intro q f hq hf
    obtain ⟨f, rfl⟩ : ∃ j, f = j + 1 := ⟨f - 1, by omega⟩
    have hqk : q < k := by omega
    have ih := ih (q + 1) f (by omega) (by omega)
    have es : sI (fun q => if q ≠ p ∧ bt S (tw p q) = true then w p q else 0) (q + 1) = sI (fun q => if q ≠ p ∧ bt S (tw p q) = true then w p q else 0) q + (if q ≠ p ∧ bt S (tw p q) = true then w p q else 0) := rfl
    rw [X12_explains_l15, fewR hn h0, bnd_s, ← hk, if_neg (nI_ge hqk (by omega))]
    simp only [X12_explains_j61, X12_explains_j62, nI_1]
    by_cases e : p = q
    · subst e
      rw [if_pos rfl]
      rw [es, if_neg (fun h => h.1 rfl)] at ih
      exact ih
    · have hne : ¬ nI p = nI q := fun h => e ((nI_eq (by omega) (by omega)).mp h)
      have h6 := tb6a k (by omega) p hp q hqk e
      have hm := (tb3 k (by omega)).2.2
      rw [if_neg hne, tb6b p (by omega) q (by omega) e, bt_has (by omega) (by omega)]
      by_cases c : bt S (tw p q) = true
      · have e40 : (40 : Int32) + nI (21 + (7 * p + q)) = nI (40 + (21 + (7 * p + q))) := nI_add 40 _
        rw [es, if_pos ⟨fun h => e h.symm, c⟩] at ih
        rw [if_neg (show ¬ (if bt S (tw p q) = true then (1 : Int32) else 0) = 0 by rw [if_pos c]; decide), debtN', e40, gd_p (inbN (by omega) (by decide)), nI_clamp (by omega), hw p q (by omega) (by omega)]
        exact ih
      · rw [es, if_neg (fun h => c h.2)] at ih
        rw [if_pos (show (if bt S (tw p q) = true then (1 : Int32) else 0) = 0 from if_neg c)]
        exact ih
theorem expl_out {S : Nat} (hn : n ≤ 7) (h0 : O.1 447 0 = nI n) (hk : k = min n 5) (hw : ∀ p q, p < 7 → q < 7 → O.1 447 (40 + (21 + (7 * p + q))) = w p q) (hN : ∀ p, p < 5 → O.1 447 (24 + p) = N p) (hS : S < 1024) :
    ∀ d p f, p + d = k → d < f → ((∀ i, p ≤ i → i < k → N i = -1 ∨ N i = BF w k S i) → X12_explains_l2 f (nI S) (nI p) O = some 1) ∧ ((∃ i, p ≤ i ∧ i < k ∧ ¬ (N i = -1 ∨ N i = BF w k S i)) → X12_explains_l2 f (nI S) (nI p) O = some 0) := by
  intro d
  induction d with
  | zero =>
    intro p f hp hf
    obtain ⟨f, rfl⟩ : ∃ j, f = j + 1 := ⟨f - 1, by omega⟩
    have : p = k := by omega
    subst this
    refine ⟨fun _ => ?_, fun ⟨i, h1, h2, _⟩ => by omega⟩
    rw [X12_explains_l2, fewR hn h0, bnd_s, ← hk, if_pos (Int32.le_refl _)]
  | succ d ih =>
    intro p f hp hf
    obtain ⟨f, rfl⟩ : ∃ j, f = j + 1 := ⟨f - 1, by omega⟩
    obtain ⟨i1, i2⟩ := ih (p + 1) f (by omega) (by omega)
    have hpk : p < k := by omega
    have e24 : (24 : Int32) + nI p = nI (24 + p) := nI_add 24 p
    have hin := expl_in hn h0 hk hw hS hpk (fun v1 v2 v3 O => (X12_explains_j70 (fun v1 v2 O => X12_explains_l2 f v1 v2 O) v1 v2 v3 O)) k 0 FU (by omega) (by unfold FU; omega)
    rw [X12_explains_l2, fewR hn h0, bnd_s, ← hk, if_neg (nI_ge hpk (by omega)), show (X12_explains_l15 (fun v1 v2 v3 O => (X12_explains_j70 (fun v1 v2 O => X12_explains_l2 f v1 v2 O) v1 v2 v3 O)) FU (nI S) (nI p) 0 0 O) = _ from hin]
    simp only [X12_explains_j70, X12_explains_j98, e24, gd_p (inbN (show 24 + p < 5130 by omega) (by decide)), nI_clamp (show 24 + p < 2 ^ 31 by omega), nI_1]
    rw [hN p (by omega)]
    by_cases c1 : N p = -1
    · rw [if_pos c1]
      refine ⟨fun h => i1 (fun i h1 h2 => h i (by omega) h2), fun ⟨i, h1, h2, h3⟩ => i2 ⟨i, ?_, h2, h3⟩⟩
      by_cases e : i = p
      · subst e; exact absurd (Or.inl c1) h3
      · omega
    · rw [if_neg c1]
      by_cases c2 : N p = BF w k S p
      · rw [if_pos c2]
        refine ⟨fun h => i1 (fun i h1 h2 => h i (by omega) h2), fun ⟨i, h1, h2, h3⟩ => i2 ⟨i, ?_, h2, h3⟩⟩
        by_cases e : i = p
        · subst e; exact absurd (Or.inr c2) h3
        · omega
      · rw [if_neg c2]
        refine ⟨fun h => ?_, fun _ => rfl⟩
        rcases h p (Nat.le_refl _) hpk with h | h
        · exact absurd h c1
        · exact absurd h c2
theorem explR {S : Nat} (hn : n ≤ 7) (h0 : O.1 447 0 = nI n) (hk : k = min n 5) (hw : ∀ p q, p < 7 → q < 7 → O.1 447 (40 + (21 + (7 * p + q))) = w p q) (hN : ∀ p, p < 5 → O.1 447 (24 + p) = N p) (hS : S < 1024) : f_X12_explains (nI S) O = some (if PF N w k S then 1 else 0) := by
  obtain ⟨x1, x2⟩ := expl_out hn h0 hk hw hN hS k 0 FU (by omega) (by unfold FU; omega)
  unfold f_X12_explains
  by_cases c : PF N w k S = true
  · rw [if_pos c]
    exact x1 (fun i _ hi => (of_decide_eq_true c) i hi)
  · rw [if_neg c]
    refine x2 ?_
    by_cases g : ∃ i, 0 ≤ i ∧ i < k ∧ ¬ (N i = -1 ∨ N i = BF w k S i)
    · exact g
    · exfalso
      apply c
      refine decide_eq_true (fun p hp => ?_)
      by_cases g2 : N p = -1 ∨ N p = BF w k S p
      · exact g2
      · exact absurd ⟨p, Nat.zero_le _, hp, g2⟩ g
theorem with_l (hn : n ≤ 7) (h0 : O.1 447 0 = nI n) (hk : k = min n 5) (hw : ∀ p q, p < 7 → q < 7 → O.1 447 (40 + (21 + (7 * p + q))) = w p q) (hN : ∀ p, p < 5 → O.1 447 (24 + p) = N p) (v : Int32) (g : Nat → Bool)
    (hv : (v = -1 ∧ ∀ S, g S = true) ∨ ∃ u, u < 10 ∧ v = nI u ∧ ∀ S, g S = bt S u) :
    ∀ d S f, S + d = 2 ^ mm k → d < f → X12_explainedWith_l19 f v (nI (mm k)) (nI (cN (fun S => PF N w k S && g S) S)) (nI S) O = some (nI (cN (fun S => PF N w k S && g S) (2 ^ mm k))) := by
  have hk6 : k < 6 := by omega
  have hm := (tb3 k hk6).2.2
  have h1024 : 2 ^ mm k ≤ 2 ^ 10 := Nat.pow_le_pow_right (by decide) hm
  intro d
  induction d with
  | zero =>
    intro S f hS hf
    obtain ⟨f, rfl⟩ : ∃ j, f = j + 1 := ⟨f - 1, by omega⟩
    have : S = 2 ^ mm k := by omega
    subst this
    rw [X12_explainedWith_l19, tb8 (mm k) (by omega), if_pos (Int32.le_refl _)]
  | succ d ih =>
    intro S f hS hf
    obtain ⟨f, rfl⟩ : ∃ j, f = j + 1 := ⟨f - 1, by omega⟩
    have ih := ih (S + 1) f (by omega) (by omega)
    rw [cN_s] at ih
    have hex := explR (S := S) hn h0 hk hw hN (by omega)
    have key : (g S = true → X12_explainedWith_j42 (fun v1 v2 v3 v4 O => X12_explainedWith_l19 f v1 v2 v3 v4 O) v (nI (mm k)) (nI S) (nI (cN (fun S => PF N w k S && g S) S)) O = some (nI (cN (fun S => PF N w k S && g S) (2 ^ mm k)))) ∧
        (g S = false → X12_explainedWith_j55 (fun v1 v2 v3 v4 O => X12_explainedWith_l19 f v1 v2 v3 v4 O) v (nI (mm k)) (nI S) (nI (cN (fun S => PF N w k S && g S) S)) O = some (nI (cN (fun S => PF N w k S && g S) (2 ^ mm k)))) := by
      constructor
      · intro hg
        unfold X12_explainedWith_j42 X12_explainedWith_j55 X12_explainedWith_j56
        rw [hex, bnd_s, nI_1]
        rw [hg, Bool.and_true] at ih
        cases hp : PF N w k S
        · rw [hp] at ih
          rw [if_pos (show (if false = true then (1 : Int32) else 0) = 0 from rfl), Int32.add_zero]
          exact ih
        · rw [hp] at ih
          rw [if_neg (show ¬ (if true = true then (1 : Int32) else 0) = 0 by decide), nI_1]
          exact ih
      · intro hg
        unfold X12_explainedWith_j55 X12_explainedWith_j56
        rw [hg, Bool.and_false] at ih
        rw [nI_1, Int32.add_zero]
        exact ih
    rw [X12_explainedWith_l19, tb8 (mm k) (by omega), if_neg (nI_ge (by omega) (by omega))]
    rcases hv with ⟨v1, v2⟩ | ⟨u, u1, u2, u3⟩
    · rw [if_pos v1]; exact key.1 (v2 S)
    · rw [if_neg (by rw [u2]; exact nm1_ne (by omega)), u2, bt_has (by omega) u1, ← u2]
      cases hb : bt S u
      · rw [if_pos (show (if false = true then (1 : Int32) else 0) = 0 from rfl)]
        exact key.2 (by rw [u3]; exact hb)
      · rw [if_neg (show ¬ (if true = true then (1 : Int32) else 0) = 0 by decide)]
        exact key.1 (by rw [u3]; exact hb)
theorem with_all (hn : n ≤ 7) (h0 : O.1 447 0 = nI n) (hk : k = min n 5) (hw : ∀ p q, p < 7 → q < 7 → O.1 447 (40 + (21 + (7 * p + q))) = w p q) (hN : ∀ p, p < 5 → O.1 447 (24 + p) = N p) : f_X12_explainedWith (-1) O = some (nI (cN (PF N w k) (2 ^ mm k))) := by
  have h1024 : 2 ^ mm k ≤ 2 ^ 10 := Nat.pow_le_pow_right (by decide) (tb3 k (by omega)).2.2
  have := with_l hn h0 hk hw hN (-1) (fun _ => true) (Or.inl ⟨rfl, fun _ => rfl⟩) (2 ^ mm k) 0 FU (by omega) (by unfold FU; omega)
  unfold f_X12_explainedWith
  rw [fewR hn h0, bnd_s, bnd_s, ← hk, tb7 k (by omega)]
  have e : ∀ m, cN (fun S => PF N w k S && true) m = cN (PF N w k) m := fun m => sN_congr m (fun i _ => by
    show (if (PF N w k i && true) then 1 else 0) = (if PF N w k i then 1 else 0)
    rw [Bool.and_true])
  rw [e, e] at this
  exact this
theorem with_two {u : Nat} (hn : n ≤ 7) (h0 : O.1 447 0 = nI n) (hk : k = min n 5) (hw : ∀ p q, p < 7 → q < 7 → O.1 447 (40 + (21 + (7 * p + q))) = w p q) (hN : ∀ p, p < 5 → O.1 447 (24 + p) = N p) (hu : u < 10) : f_X12_explainedWith (nI u) O = some (nI (cN (fun S => PF N w k S && bt S u) (2 ^ mm k))) := by
  have h1024 : 2 ^ mm k ≤ 2 ^ 10 := Nat.pow_le_pow_right (by decide) (tb3 k (by omega)).2.2
  have := with_l hn h0 hk hw hN (nI u) (fun S => bt S u) (Or.inr ⟨u, hu, rfl, fun _ => rfl⟩) (2 ^ mm k) 0 FU (by omega) (by unfold FU; omega)
  unfold f_X12_explainedWith
  rw [fewR hn h0, bnd_s, bnd_s, ← hk, tb7 k (by omega)]
  exact this
end
/-- both sides' counts -/
theorem reck_both {n t m e n' t' m' e' : Nat} {C : CM} {O : OM} (h : RelX n t m e n' t' m' e' C O) : ∃ (k all : Nat) (W : Nat → Nat) (C1 : CM), k = min n 5 ∧ f_X2_reckon 6 12 C = some C1 ∧ RelX n t m e n' t' m' e' C1 O ∧ f_X12_explainedWith (-1) O = some (nI all) ∧ (∀ u, u < mm k → f_X12_explainedWith (nI u) O = some (nI (W u))) ∧ all ≤ 1024 ∧ (∀ u, W u ≤ all) ∧
    C1 417 0 = nI all ∧ C1 417 1 = nI (mm k) ∧ ∀ j, j < mm k → C1 418 j = nI (lo k j) ∧ C1 419 j = nI (hgh k j) ∧ C1 420 j = nI (W (tw (lo k j) (hgh k j))) := by
  have h7 := h.1.1.1
  have h0 : C 6 0 = nI n := h.1.2.1.1
  have hA : O.1 447 0 = nI n := h.1.2.1.2.1
  have hv : ∀ i, i < 49 → C 10 i = O.1 447 (40 + (21 + i)) := h.1.2.2.2.2.2.1.1.2.2.2.2.2.2
  have hnk : ∀ p, p < 5 → C 12 p = O.1 447 (24 + p) ∧ (n ≤ p → O.1 447 (24 + p) = -1) := fun p hp => by
    obtain ⟨a1, -, a3⟩ := h.1.2.2.2.2.1 p hp
    exact ⟨a1, a3⟩
  obtain ⟨w, hw⟩ : ∃ w : Nat → Nat → Int32, w = fun p q => C 10 (7 * p + q) := ⟨_, rfl⟩
  have hwC : ∀ p q, p < 7 → q < 7 → C 10 (7 * p + q) = w p q := fun p q _ _ => by rw [hw]
  have hwO : ∀ p q, p < 7 → q < 7 → O.1 447 (40 + (21 + (7 * p + q))) = w p q := fun p q hp hq => by rw [hw]; exact (hv _ (by omega)).symm
  have hN : ∀ p, p < 5 → O.1 447 (24 + p) = C 12 p := fun p hp => (hnk p hp).1.symm
  obtain ⟨k, hk⟩ : ∃ k, k = min n 5 := ⟨_, rfl⟩
  have hk6 : k < 6 := by omega
  have hm := (tb3 k hk6).2.2
  have h1024 : 2 ^ mm k ≤ 2 ^ 10 := Nat.pow_le_pow_right (by decide) hm
  obtain ⟨C1, r1, s1, s2, s3, s4, -⟩ := reckC h7 h0 hk hwC (fun p hp hkp => by rw [(hnk p hp).1]; exact (hnk p hp).2 (by omega))
  have hWle : ∀ u, cN (fun S => PF (C 12) w k S && bt S u) (2 ^ mm k) ≤ cN (PF (C 12) w k) (2 ^ mm k) := by
    intro u
    have : ∀ N, cN (fun S => PF (C 12) w k S && bt S u) N ≤ cN (PF (C 12) w k) N := by
      intro N
      induction N with
      | zero => exact Nat.le_refl _
      | succ N ih =>
        rw [cN_s, cN_s]
        cases PF (C 12) w k N <;> cases bt N u <;> simp <;> omega
    exact this _
  refine ⟨k, cN (PF (C 12) w k) (2 ^ mm k), fun u => cN (fun S => PF (C 12) w k S && bt S u) (2 ^ mm k), C1, hk, r1, h.scr (fun c hc => s1 c (by omega)) (fun _ _ _ => rfl), with_all h7 hA hk hwO hN, fun u hu => with_two h7 hA hk hwO hN (by omega), Nat.le_trans (cN_le _ _) h1024, hWle, by rw [s3, cN_all _ _ hk6], s2, fun j hj => ?_⟩
  obtain ⟨a1, a2, a3⟩ := s4 j hj
  exact ⟨a1, a2, by rw [a3, cN_two _ _ hk6 hj]⟩
theorem opp_explained : op_explained Rel := by
  intro C O h
  obtain ⟨n, t, m, e, n', t', m', e', h'⟩ := h
  obtain ⟨k, all, W, C1, hk, r1, r2, r3, -, -, -, r4, -⟩ := reck_both h'
  unfold f_X11_explained f_X12_explained
  rw [r1, bnd_s, r3, bnd_s, r4]
  exact ⟨_, C1, rfl, rfl, r2.rel⟩
theorem maxN {a b : Nat} (ha : a < 2 ^ 31) (hb : b < 2 ^ 31) : f_J9_max_7cf53 (nI a) (nI b) = nI (max a b) := by
  unfold f_J9_max_7cf53
  by_cases c : a < b
  · rw [if_pos (nI_lt c hb), Nat.max_eq_right (by omega)]
  · rw [if_neg (nI_nlt (by omega) ha), Nat.max_eq_left (by omega)]
theorem sure_l {k a b all : Nat} {C : CM} (hk : k < 6) (hab : a < b) (hb : b < k) (h0 : C 417 0 = nI all) (hall : all ≤ 1024) (h1 : C 417 1 = nI (mm k)) (hr : ∀ j, j < mm k → C 418 j = nI (lo k j) ∧ C 419 j = nI (hgh k j)) (k43 : Int32 → CM → Option Int32) :
    ∀ d j f, j + d = mm k → d < f → (0 < all → j ≤ ixx k a b) → X2_sureOf_l2 k43 f (nI a) (nI b) (nI j) C = if 0 < all then k43 (nI (ixx k a b)) C else some (-1) := by
  have hm := (tb3 k hk).2.2
  obtain ⟨t1, t2, t3, t4, t5⟩ := tb1 k hk a (by omega) b hb hab
  intro d
  induction d with
  | zero =>
    intro j f hj hf hle
    obtain ⟨f, rfl⟩ : ∃ j, f = j + 1 := ⟨f - 1, by omega⟩
    have : j = mm k := by omega
    subst this
    rw [X2_sureOf_l2, h1, if_pos (Int32.le_refl _)]
    by_cases c : 0 < all
    · have := hle c; omega
    · rw [if_neg c]
  | succ d ih =>
    intro j f hj hf hle
    obtain ⟨f, rfl⟩ : ∃ j, f = j + 1 := ⟨f - 1, by omega⟩
    obtain ⟨g1, g2⟩ := hr j (by omega)
    obtain ⟨u1, u2, u3⟩ := tb4 k hk j (by omega)
    rw [X2_sureOf_l2, h1, if_neg (nI_ge (by omega) (by omega)), show (10 : Int32) = nI 10 from rfl, if_neg (nI_ge (by omega) (by decide)), gd_p (inbN (by omega) (by decide)), gd_p (inbN (by omega) (by decide)), nI_clamp (by omega), g1, g2, h0]
    simp only [X2_sureOf_j75, nI_1]
    by_cases c : 0 < all
    · by_cases e : j = ixx k a b
      · subst e
        rw [t1, t2, if_pos rfl, if_pos rfl, if_neg (nI_nle c (by omega)), if_pos c]
      · have ih := ih (j + 1) f (by omega) (by omega) (fun _ => by have := hle c; omega)
        by_cases e1 : nI (lo k j) = nI a
        · rw [if_pos e1]
          by_cases e2 : nI (hgh k j) = nI b
          · have q1 := (nI_eq (by omega) (by omega)).mp e1
            have q2 := (nI_eq (by omega) (by omega)).mp e2
            rw [q1, q2] at u3
            exact absurd u3.symm e
          · rw [if_neg e2]; exact ih
        · rw [if_neg e1]; exact ih
    · have hz : all = 0 := by omega
      have ih := ih (j + 1) f (by omega) (by omega) (fun h => absurd h c)
      rw [hz, if_pos (show nI 0 ≤ 0 from Int32.le_refl _)]
      rw [hz] at ih
      split
      · split
        · exact ih
        · exact ih
      · exact ih
theorem tw_comm (p q : Nat) (h : p ≠ q) : tw p q = tw (min p q) (max p q) := by
  unfold tw
  by_cases c : p < q
  · rw [if_pos c, Nat.min_eq_left (by omega), Nat.max_eq_right (by omega), if_pos c]
  · rw [if_neg c, Nat.min_eq_right (by omega), Nat.max_eq_left (by omega), if_pos (show q < p by omega)]
theorem opp_sure : op_sure Rel := by
  intro C O h v w
  obtain ⟨n, t, m, e, n', t', m', e', h'⟩ := h
  have h7 := h'.1.1.1
  have h0 : C 6 0 = nI n := h'.1.2.1.1
  have hA : O.1 447 0 = nI n := h'.1.2.1.2.1
  obtain ⟨k, all, W, C1, hk, r1, r2, r3, r4, r5, r6, r7, r8, r9⟩ := reck_both h'
  unfold f_X11_sure f_X12_sure f_X11_necksNow
  rw [fewR h7 hA, bnd_s, bnd_s, h0, show (5 : Int32) = nI 5 from rfl, minN (by decide) (by omega), show min 5 n = k by omega, ← hk, in_eq]
  rcases wi_n (n := k) (by omega) v with ⟨w1, -⟩ | ⟨p, hp, rfl, w1⟩
  · rw [w1, if_pos rfl, if_pos rfl]
    by_cases c : v = w
    · rw [if_pos c]; exact ⟨_, _, rfl, rfl, h'.rel⟩
    · rw [if_neg c]; exact ⟨_, _, rfl, rfl, h'.rel⟩
  rw [w1, if_neg n10, if_neg n10]
  rcases wi_n (n := k) (by omega) w with ⟨w2, -⟩ | ⟨q, hq, rfl, w2⟩
  · rw [w2, if_pos rfl, if_pos rfl]
    by_cases c : nI p = w
    · rw [if_pos c]; exact ⟨_, _, rfl, rfl, h'.rel⟩
    · rw [if_neg c]; exact ⟨_, _, rfl, rfl, h'.rel⟩
  rw [w2, if_neg n10, if_neg n10]
  by_cases e : p = q
  · subst e
    rw [if_pos rfl, if_pos rfl]; exact ⟨_, _, rfl, rfl, h'.rel⟩
  have hne : ¬ nI p = nI q := fun h => e ((nI_eq (by omega) (by omega)).mp h)
  have h6 := tb6a k (by omega) p hp q hq e
  obtain ⟨t1, t2, t3, t4, t5⟩ := tb1 k (by omega) (min p q) (by omega) (max p q) (by omega) (by omega)
  have hs := sure_l (C := C1) (k := k) (a := min p q) (b := max p q) (by omega) (by omega) (by omega) r7 r5 r8 (fun j hj => ⟨(r9 j hj).1, (r9 j hj).2.1⟩) (fun v3 C => (X2_sureOf_j43 v3 C)) (mm k) 0 FU (by omega) (by unfold FU; have := (tb3 k (by omega)).2.2; omega) (fun _ => Nat.zero_le _)
  have hW : C1 420 (ixx k (min p q) (max p q)) = nI (W (tw p q)) := by
    have := (r9 _ t5).2.2
    rw [t1, t2] at this
    rw [this, ← tw_comm p q e]
  rw [if_neg hne, if_neg hne, r1, bnd_s, minN (by omega) (by omega), maxN (by omega) (by omega), r3, bnd_s, tb6b p (by omega) q (by omega) e, r4 _ h6.2, bnd_s]
  unfold f_X2_sureOf
  rw [show (0 : Int32) = nI 0 from rfl, hs]
  by_cases c : 0 < all
  · rw [if_pos c]
    simp only [X2_sureOf_j43]
    rw [gd_p (inbN t3 (by decide)), gd_p (inbN t3 (by decide)), nI_clamp (by omega), hW, r7, show (0 : Int32) = nI 0 from rfl, if_neg (show ¬ nI all = nI 0 from nI_ne0 c (by omega))]
    by_cases c1 : nI (W (tw p q)) = nI all
    · rw [if_pos c1, bnd_s]
      exact ⟨_, C1, rfl, rfl, r2.rel⟩
    · rw [if_neg c1]
      by_cases c2 : nI (W (tw p q)) = nI 0
      · rw [if_pos c2, bnd_s]
        exact ⟨_, C1, rfl, rfl, r2.rel⟩
      · rw [if_neg c2, bnd_s]
        exact ⟨_, C1, rfl, rfl, r2.rel⟩
  · have hz : all = 0 := by omega
    rw [if_neg c, hz, if_pos rfl, bnd_s]
    exact ⟨_, C1, rfl, rfl, r2.rel⟩
