/-! A way home: the row laid; walks and how far they reach -/
theorem yet_init {NV ND : Nat} (hND : ND < 256) (k38 : Int32 → OM → Option OM) : ∀ d i f O, i + d = 2048 → d < f → ∃ O', X12_laysYet_l2 k38 f (nI ND) (nI NV) (nI i) O = k38 (nI NV) O' ∧ FrO1 473 O O' ∧ (∀ s, i ≤ s → s < 2048 → (goal ND s → O'.1 473 s = nI 0) ∧ (¬ goal ND s → O'.1 473 s = nI 99)) ∧ ∀ s, s < i → O'.1 473 s = O.1 473 s := by
  intro d
  induction d with
  | zero =>
    intro i f O hi hf
    obtain ⟨f, rfl⟩ : ∃ j, f = j + 1 := ⟨f - 1, by omega⟩
    have : i = 2048 := by omega
    subst this
    rw [X12_laysYet_l2, show (2048 : Int32) = nI 2048 from rfl, if_pos (Int32.le_refl _)]
    exact ⟨O, rfl, FrO1.refl, fun s a b => absurd a (by omega), fun _ _ => rfl⟩
  | succ d ih =>
    intro i f O hi hf
    obtain ⟨f, rfl⟩ : ∃ j, f = j + 1 := ⟨f - 1, by omega⟩
    have e2 : irm (nI i) 256 = nI (i % 256) := pk_rem (d := 256) (by omega) (by decide) (by decide)
    have hm : i % 256 < 256 := Nat.mod_lt _ (by decide)
    rw [X12_laysYet_l2, show (2048 : Int32) = nI 2048 from rfl, if_neg (nI_ge (by omega) (by decide)), e2, nI_and]
    unfold X12_laysYet_j31
    rw [gd_p (inbN (show i < 2048 by omega) (by decide)), gd_p (inbN (show i < 2048 by omega) (by decide)), nI_clamp (by omega), nI_1]
    have go : ∀ v, ∃ O', X12_laysYet_l2 k38 f (nI ND) (nI NV) (nI (i + 1)) (oup O 473 i v) = k38 (nI NV) O' ∧ FrO1 473 O O' ∧ O'.1 473 i = v ∧ (∀ s, i + 1 ≤ s → s < 2048 → (goal ND s → O'.1 473 s = nI 0) ∧ (¬ goal ND s → O'.1 473 s = nI 99)) ∧ ∀ s, s < i → O'.1 473 s = O.1 473 s := by
      intro v
      obtain ⟨O', r1, r2, r3, r4⟩ := ih (i + 1) f (oup O 473 i v) (by omega) (by omega)
      exact ⟨O', r1, fun c hc => (r2 c hc).trans (oup_ne hc), by rw [r4 i (by omega), oup_eq, pk_us], r3, fun s hs => by rw [r4 s (by omega), oup_eq, pk_un (by omega)]⟩
    have hg : nI (i % 256 &&& ND) = nI ND ↔ goal ND i := by
      rw [nI_eq (Nat.lt_trans (and_lt hm) (by decide)) (by omega)]
      exact cov_and hm hND
    by_cases c : goal ND i
    · rw [if_pos (hg.mpr c)]
      obtain ⟨O', r1, r2, r3, r4, r5⟩ := go 0
      refine ⟨O', r1, r2, fun s a b => ?_, r5⟩
      by_cases e : s = i
      · subst e; exact ⟨fun _ => r3, fun h => absurd c h⟩
      · exact r4 s (by omega) b
    · rw [if_neg (fun h => c (hg.mp h))]
      obtain ⟨O', r1, r2, r3, r4, r5⟩ := go 99
      refine ⟨O', r1, r2, fun s a b => ?_, r5⟩
      by_cases e : s = i
      · subst e; exact ⟨fun h => absurd h c, fun _ => r3⟩
      · exact r4 s (by omega) b
theorem laysYet {NV ND : Nat} {O : OM} (hNV : NV < 256) (hND : ND < 256) : ∃ V O', f_X12_laysYet (nI ND) (nI NV) O = some O' ∧ FrO1 473 O O' ∧ (∀ s, s < 2048 → O'.1 473 s = nI (V s)) ∧ YV NV ND V ∧ ∀ s b, s < 2048 → vld1 NV s b → V s ≤ V (stN s b) + 1 := by
  obtain ⟨Oa, a1, a2, a3, -⟩ := yet_init (NV := NV) hND (fun v2 O => (X12_laysYet_j38 v2 O)) 2048 0 FU O (by omega) (by unfold FU; omega)
  obtain ⟨V0, hV0⟩ : ∃ V0 : Nat → Nat, V0 = fun s => (Oa.1 473 s).toNatClampNeg := ⟨_, rfl⟩
  have hv : ∀ s, s < 2048 → (goal ND s → V0 s = 0) ∧ (¬ goal ND s → V0 s = 99) ∧ Oa.1 473 s = nI (V0 s) := by
    intro s hs
    obtain ⟨g1, g2⟩ := a3 s (Nat.zero_le _) hs
    by_cases c : goal ND s
    · have e : V0 s = 0 := by rw [hV0]; show (Oa.1 473 s).toNatClampNeg = 0; rw [g1 c]; rfl
      exact ⟨fun _ => e, fun h => absurd c h, by rw [e]; exact g1 c⟩
    · have e : V0 s = 99 := by rw [hV0]; show (Oa.1 473 s).toNatClampNeg = 99; rw [g2 c]; rfl
      exact ⟨fun h => absurd h c, fun _ => e, by rw [e]; exact g2 c⟩
  have hy : YV NV ND V0 := ⟨fun s hs g => (hv s hs).1 g, fun s hs g => by rw [(hv s hs).2.1 g]; decide, fun s hs => by
    by_cases c : goal ND s
    · rw [(hv s hs).1 c]; decide
    · rw [(hv s hs).2.1 c]; decide, fun s hs g => Or.inl ((hv s hs).2.1 g)⟩
  obtain ⟨V, O', r1, r2, r3, r4, r5⟩ := passes_l (ND := ND) hNV 99 0 9999 V0 Oa (by omega) (by omega) (fun s hs => (hv s hs).2.2) hy (fun s b hs hvv hlt => absurd hlt (by omega))
  refine ⟨V, O', ?_, a2.trans r2, r3, r4, r5⟩
  unfold f_X12_laysYet
  rw [show (0 : Int32) = nI 0 from rfl, a1]
  exact r1
/-! Walks: which way at each step -/
def stt (s : Nat) (w : Nat → Bool) : Nat → Nat
  | 0 => s
  | n + 1 => stN (stt s w n) (w n)
def vldW (NV s : Nat) (w : Nat → Bool) (n : Nat) : Prop := ∀ i, i < n → vld1 NV (stt s w i) (w i)
theorem stt_lt {s : Nat} (hs : s < 2048) (w : Nat → Bool) (n : Nat) : stt s w n < 2048 := by
  cases n with
  | zero => exact hs
  | succ n => exact stN_lt _ _
theorem stt_sh (s : Nat) (w : Nat → Bool) : ∀ n, stt s w (n + 1) = stt (stN s (w 0)) (fun i => w (i + 1)) n := by
  intro n
  induction n with
  | zero => rfl
  | succ n ih =>
    show stN (stt s w (n + 1)) (w (n + 1)) = stN (stt (stN s (w 0)) (fun i => w (i + 1)) n) (w (n + 1))
    rw [ih]
theorem stt_congr (s : Nat) {w w' : Nat → Bool} : ∀ n, (∀ i, i < n → w i = w' i) → stt s w n = stt s w' n := by
  intro n
  induction n with
  | zero => intro _; rfl
  | succ n ih =>
    intro h
    show stN (stt s w n) (w n) = stN (stt s w' n) (w' n)
    rw [ih (fun i hi => h i (by omega)), h n (by omega)]
theorem vldW_congr {NV s : Nat} {w w' : Nat → Bool} {n : Nat} (h : ∀ i, i < n → w i = w' i) (hv : vldW NV s w n) : vldW NV s w' n := fun i hi => by
  rw [← stt_congr s i (fun j hj => h j (by omega)), ← h i hi]; exact hv i hi
/-- no walk is shorter than told -/
theorem walk_ge {NV ND : Nat} {V : Nat → Nat} (hy : YV NV ND V) (hf : ∀ s b, s < 2048 → vld1 NV s b → V s ≤ V (stN s b) + 1) : ∀ n s w, s < 2048 → vldW NV s w n → V s ≤ V (stt s w n) + n := by
  intro n
  induction n with
  | zero => intro s w hs _; exact Nat.le_refl _
  | succ n ih =>
    intro s w hs hv
    have h1 := ih s w hs (fun i hi => hv i (by omega))
    have h2 := hf _ _ (stt_lt hs w n) (hv n (by omega))
    show V s ≤ V (stN (stt s w n) (w n)) + (n + 1)
    omega
/-- a walk as short as told -/
theorem walk_ex {NV ND : Nat} {V : Nat → Nat} (hy : YV NV ND V) (hf : ∀ s b, s < 2048 → vld1 NV s b → V s ≤ V (stN s b) + 1) : ∀ n s, s < 2048 → V s = n → n < 99 → ∃ w, vldW NV s w n ∧ goal ND (stt s w n) := by
  intro n
  induction n with
  | zero =>
    intro s hs hV _
    refine ⟨fun _ => true, fun i hi => absurd hi (by omega), ?_⟩
    by_cases c : goal ND s
    · exact c
    · have := hy.2.1 s hs c
      omega
  | succ n ih =>
    intro s hs hV h99
    have ng : ¬ goal ND s := fun g => by have := hy.1 s hs g; omega
    rcases hy.2.2.2 s hs ng with e | ⟨b, b1, b2⟩
    · omega
    · have b3 := hf s b hs b1
      obtain ⟨w, w1, w2⟩ := ih (stN s b) (stN_lt s b) (by omega) (by omega)
      obtain ⟨w', h0, h1⟩ : ∃ w' : Nat → Bool, w' 0 = b ∧ ∀ i, w' (i + 1) = w i := ⟨fun i => match i with | 0 => b | i + 1 => w i, rfl, fun _ => rfl⟩
      have e : (fun i => w' (i + 1)) = w := funext h1
      refine ⟨w', fun i hi => ?_, ?_⟩
      · cases i with
        | zero => rw [h0]; exact b1
        | succ i => rw [stt_sh, h0, e, h1]; exact w1 i (by omega)
      · rw [stt_sh, h0, e]; exact w2
/-! How far a walk goes to either side -/
def wX (w : Nat → Bool) : Nat → Int
  | 0 => 0
  | n + 1 => wX w n + (if w n then 1 else -1)
def wR (w : Nat → Bool) : Nat → Int
  | 0 => 0
  | n + 1 => max (wR w n) (wX w (n + 1))
def wL (w : Nat → Bool) : Nat → Int
  | 0 => 0
  | n + 1 => max (wL w n) (-(wX w (n + 1)))
theorem w_in (w : Nat → Bool) : ∀ n, 0 ≤ wR w n ∧ 0 ≤ wL w n ∧ wX w n ≤ wR w n ∧ -(wL w n) ≤ wX w n := by
  intro n
  induction n with
  | zero => exact ⟨Int.le_refl _, Int.le_refl _, Int.le_refl _, Int.le_refl _⟩
  | succ n ih =>
    show 0 ≤ max (wR w n) (wX w (n + 1)) ∧ 0 ≤ max (wL w n) (-(wX w (n + 1))) ∧ wX w (n + 1) ≤ max (wR w n) (wX w (n + 1)) ∧ -(max (wL w n) (-(wX w (n + 1)))) ≤ wX w (n + 1)
    omega
theorem w_s (w : Nat → Bool) (n : Nat) : (wX w (n + 1) = wX w n + 1 ∧ w n = true ∨ wX w (n + 1) = wX w n - 1 ∧ w n = false) ∧ wR w (n + 1) = max (wR w n) (wX w (n + 1)) ∧ wL w (n + 1) = max (wL w n) (-(wX w (n + 1))) := by
  refine ⟨?_, rfl, rfl⟩
  cases h : w n
  · exact Or.inr ⟨by show wX w n + (if w n then 1 else -1) = _; rw [h]; rfl, rfl⟩
  · exact Or.inl ⟨by show wX w n + (if w n then 1 else -1) = _; rw [h]; rfl, rfl⟩
/-- a walk takes twice its reach, less how far it ends -/
theorem w_f (w : Nat → Bool) : ∀ n : Nat, 2 * (wL w n + wR w n) - wX w n ≤ n ∨ 2 * (wL w n + wR w n) + wX w n ≤ n := by
  intro n
  induction n with
  | zero => exact Or.inl (Int.le_refl _)
  | succ n ih =>
    obtain ⟨h1, h2, h3⟩ := w_s w n
    obtain ⟨g1, g2, g3, g4⟩ := w_in w n
    rw [h2, h3]
    rcases h1 with ⟨e, -⟩ | ⟨e, -⟩ <;> (rw [e]; omega)
/-- walks that take no more than that -/
def tight (w : Nat → Bool) (n : Nat) : Prop := ∀ t, t ≤ n → ((t : Int) = 2 * (wL w t + wR w t) - wX w t ∧ 0 ≤ wX w t) ∨ ((t : Int) = 2 * (wL w t + wR w t) + wX w t ∧ wX w t ≤ 0)
theorem w_tight (w : Nat → Bool) (n : Nat) (hn : ((n : Int) ≤ 2 * (wL w n + wR w n) - wX w n ∧ 0 ≤ wX w n) ∨ ((n : Int) ≤ 2 * (wL w n + wR w n) + wX w n ∧ wX w n ≤ 0)) : tight w n := by
  have key : ∀ d t, t + d = n → ((t : Int) ≤ 2 * (wL w t + wR w t) - wX w t ∧ 0 ≤ wX w t) ∨ ((t : Int) ≤ 2 * (wL w t + wR w t) + wX w t ∧ wX w t ≤ 0) := by
    intro d
    induction d with
    | zero =>
      intro t ht
      have : t = n := by omega
      subst this
      exact hn
    | succ d ih =>
      intro t ht
      have h := ih (t + 1) (by omega)
      obtain ⟨h1, h2, h3⟩ := w_s w t
      obtain ⟨g1, g2, g3, g4⟩ := w_in w t
      rw [h2, h3] at h
      rcases h1 with ⟨e, -⟩ | ⟨e, -⟩ <;> (rw [e] at h; omega)
  intro t ht
  have h1 := key (n - t) t (by omega)
  have h2 := w_f w t
  have h3 := w_in w t
  omega
/-- a tight walk that begins upward and ends at its farthest turns once at most -/
theorem K_up (w : Nat → Bool) (n : Nat) (h1 : 1 ≤ n) (ht : tight w n) (h0 : w 0 = true) (hend : wX w n = max (wL w n) (wR w n) ∨ -(wX w n) = max (wL w n) (wR w n)) : ∃ a, 1 ≤ a ∧ a ≤ n ∧ ∀ i, i < n → w i = decide (i < a) := by
  have key : ∀ t, 1 ≤ t → t ≤ n → ((∀ i, i < t → w i = true) ∧ wX w t = t ∧ wR w t = t ∧ wL w t = 0) ∨ (∃ a, 1 ≤ a ∧ a < t ∧ (∀ i, i < t → w i = decide (i < a)) ∧ wR w t = a ∧ wX w t = 2 * a - t ∧ wL w t = max 0 ((t : Int) - 2 * a)) ∨ (0 < wL w t ∧ 0 < wR w t ∧ -(wL w t) < wX w t ∧ wX w t ≤ 0) := by
    intro t
    induction t with
    | zero => intro h; omega
    | succ t ih =>
      intro _ htn
      obtain ⟨s1, s2, s3⟩ := w_s w t
      obtain ⟨g1, g2, g3, g4⟩ := w_in w t
      have t1 := ht (t + 1) htn
      have t0 := ht t (by omega)
      by_cases c : t = 0
      · subst c
        refine Or.inl ⟨fun i hi => by rw [show i = 0 by omega]; exact h0, ?_⟩
        rcases s1 with ⟨e, -⟩ | ⟨-, e⟩
        · have x0 : wX w 0 = 0 := rfl
          have r0 : wR w 0 = 0 := rfl
          have l0 : wL w 0 = 0 := rfl
          rw [s2, s3, e, x0, r0, l0]
          omega
        · rw [h0] at e; exact absurd e (by decide)
      · rcases ih (by omega) (by omega) with ⟨p1, p2, p3, p4⟩ | ⟨a, a1, a2, a3, a4, a5, a6⟩ | ⟨q1, q2, q3, q4⟩
        · rcases s1 with ⟨e, ew⟩ | ⟨e, ew⟩
          · refine Or.inl ⟨fun i hi => ?_, ?_, ?_, ?_⟩
            · by_cases ei : i = t
              · rw [ei]; exact ew
              · exact p1 i (by omega)
            · rw [e, p2]; omega
            · rw [s2, e, p2, p3]; omega
            · rw [s3, e, p2, p4]; omega
          · refine Or.inr (Or.inl ⟨t, by omega, by omega, fun i hi => ?_, ?_, ?_, ?_⟩)
            · by_cases ei : i = t
              · rw [ei, ew, decide_eq_false (by omega)]
              · rw [p1 i (by omega), decide_eq_true (by omega)]
            · rw [s2, e, p2, p3]; omega
            · rw [e, p2]; omega
            · rw [s3, e, p2, p4]; omega
        · rcases s1 with ⟨e, ew⟩ | ⟨e, ew⟩
          · by_cases cx : wX w t < 0
            · refine Or.inr (Or.inr ⟨?_, ?_, ?_, ?_⟩)
              · rw [s3]; omega
              · rw [s2]; omega
              · rw [s3, e]; omega
              · rw [e]; omega
            · exfalso
              rw [s2, s3, e] at t1
              omega
          · refine Or.inr (Or.inl ⟨a, a1, by omega, fun i hi => ?_, ?_, ?_, ?_⟩)
            · by_cases ei : i = t
              · rw [ei, ew, decide_eq_false (by omega)]
              · exact a3 i (by omega)
            · rw [s2, e]; omega
            · rw [e]; omega
            · rw [s3, e]; omega
        · rcases s1 with ⟨e, ew⟩ | ⟨e, ew⟩
          · by_cases cx : wX w t < 0
            · refine Or.inr (Or.inr ⟨?_, ?_, ?_, ?_⟩)
              · rw [s3]; omega
              · rw [s2]; omega
              · rw [s3, e]; omega
              · rw [e]; omega
            · exfalso
              rw [s2, s3, e] at t1
              omega
          · exfalso
            rw [s2, s3, e] at t1
            omega
  rcases key n h1 (Nat.le_refl _) with ⟨p1, -⟩ | ⟨a, a1, a2, a3, -⟩ | ⟨q1, q2, q3, q4⟩
  · exact ⟨n, h1, Nat.le_refl _, fun i hi => by rw [p1 i hi, decide_eq_true hi]⟩
  · exact ⟨a, a1, by omega, a3⟩
  · omega
theorem w_neg (w : Nat → Bool) : ∀ n, wX (fun i => !w i) n = -(wX w n) ∧ wR (fun i => !w i) n = wL w n ∧ wL (fun i => !w i) n = wR w n := by
  intro n
  induction n with
  | zero => exact ⟨rfl, rfl, rfl⟩
  | succ n ih =>
    obtain ⟨i1, i2, i3⟩ := ih
    have e : wX (fun i => !w i) (n + 1) = -(wX w (n + 1)) := by
      show wX (fun i => !w i) n + (if (!w n) = true then 1 else -1) = -(wX w n + (if w n then 1 else -1))
      rw [i1]
      cases w n <;> simp <;> omega
    refine ⟨e, ?_, ?_⟩
    · show max (wR (fun i => !w i) n) (wX (fun i => !w i) (n + 1)) = max (wL w n) (-(wX w (n + 1)))
      rw [i2, e]
    · show max (wL (fun i => !w i) n) (-(wX (fun i => !w i) (n + 1))) = max (wR w n) (wX w (n + 1))
      rw [i3, e, Int.neg_neg]
theorem K_down (w : Nat → Bool) (n : Nat) (h1 : 1 ≤ n) (ht : tight w n) (h0 : w 0 = false) (hend : wX w n = max (wL w n) (wR w n) ∨ -(wX w n) = max (wL w n) (wR w n)) : ∃ a, 1 ≤ a ∧ a ≤ n ∧ ∀ i, i < n → w i = !decide (i < a) := by
  obtain ⟨a, a1, a2, a3⟩ := K_up (fun i => !w i) n h1 (fun t htn => by
    obtain ⟨e1, e2, e3⟩ := w_neg w t
    have := ht t htn
    rw [e1, e2, e3]; omega) (by show (!w 0) = true; rw [h0]; rfl) (by
    obtain ⟨e1, e2, e3⟩ := w_neg w n
    rw [e1, e2, e3]; omega)
  refine ⟨a, a1, a2, fun i hi => ?_⟩
  have : (!w i) = decide (i < a) := a3 i hi
  rw [← this, Bool.not_not]
