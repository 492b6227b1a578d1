/-! A way home: the class's search -/
theorem and_bit : ∀ m, m < 256 → ∀ x, x < 8 → (nI m &&& ((1 : Int32) <<< (nI x &&& 31))) = (if bt m x then nI (2 ^ x) else 0) := by decide +kernel
theorem p2_ne : ∀ x, x < 8 → ¬ nI (2 ^ x) = 0 := by decide +kernel
theorem fl_plc {x : Nat} (hx : x < 8) (b : Bool) : f_J9_floorMod_7cf53 (nI x + (if b then 1 else -1)) 8 = some (nI (plc x b)) := by
  cases b
  · exact (walk_dec2 x hx).1
  · exact (walk_dec1 x hx).1
/-- which way a walk with one turn goes -/
def cw (b : Bool) (t : Nat) : Nat → Bool := fun i => if b then decide (i < t) else !decide (i < t)
theorem cw_t (t : Nat) : cw true t = cU t := rfl
theorem cw_f (t : Nat) : cw false t = cD t := rfl
def wy (b : Bool) : Int32 := if b then 1 else -1
theorem step_cw {b : Bool} {t i : Nat} {D : CM} (h1 : D 413 1 = wy b) (h2 : D 413 2 = nI t) (ht : t < 1000) (hi : i < 1000) : f_X0_step (nI i) D = wy (cw b t i) := by
  unfold f_X0_step
  rw [h1, h2]
  by_cases c : i < t
  · rw [if_neg (nI_ge c (by omega))]
    unfold cw
    rw [decide_eq_true c]
    cases b <;> rfl
  · rw [if_pos (nI_le (by omega) (by omega))]
    unfold cw
    rw [decide_eq_false c]
    cases b <;> rfl
section
variable {NV ND x0 : Nat} {C0 : CM}
def Fs (NV ND x0 n : Nat) (w : Nat → Bool) : Prop := vldW NV (s0N x0) w n ∧ goal ND (stt (s0N x0) w n)
def CFm (NV ND x0 : Nat) (C0 C : CM) : Prop := (∀ c, c ≠ 413 → C c = C0 c) ∧ C 413 3 = nI x0 ∧ C 413 4 = nI ND ∧ C 413 5 = nI NV
def FDm (NV ND x0 : Nat) (C0 D : CM) (n : Nat) (b : Bool) (t : Nat) : Prop := CFm NV ND x0 C0 D ∧ D 413 0 = nI n ∧ D 413 1 = wy b ∧ D 413 2 = nI t
theorem reach_l {n t : Nat} {b : Bool} {D : CM} (hx : x0 < 8) (hNV : NV < 256) (hND : ND < 256) (hD : FDm NV ND x0 C0 D n b t) (hn : n < 100) (ht : t < 1000) : ∀ d i f, i + d = n → d < f → (∀ j, j < i → vld1 NV (stt (s0N x0) (cw b t) j) (cw b t j)) →
    (Fs NV ND x0 n (cw b t) → X0_reaches_l30 (fun v5 C => X0_reaches_j81 v5 C) f (nI n) (nI (stt (s0N x0) (cw b t) i / 256)) (nI (stt (s0N x0) (cw b t) i % 256)) (nI i) D = some (1, D)) ∧
    (¬ Fs NV ND x0 n (cw b t) → X0_reaches_l30 (fun v5 C => X0_reaches_j81 v5 C) f (nI n) (nI (stt (s0N x0) (cw b t) i / 256)) (nI (stt (s0N x0) (cw b t) i % 256)) (nI i) D = some (0, D)) := by
  obtain ⟨⟨d1, d2, d3, d4⟩, d5, d6, d7⟩ := hD
  have hs0 := (s0N_div hx).2.2
  intro d
  induction d with
  | zero =>
    intro i f hi hf hv
    obtain ⟨f, rfl⟩ : ∃ j, f = j + 1 := ⟨f - 1, by omega⟩
    have : i = n := by omega
    subst this
    have hm : stt (s0N x0) (cw b t) i % 256 < 256 := Nat.mod_lt _ (by decide)
    rw [X0_reaches_l30, if_pos (Int32.le_refl _)]
    unfold X0_reaches_j81
    rw [d3]
    refine ⟨fun h => ?_, fun h => ?_⟩
    · rw [if_pos ((cov_not hm hND).mpr h.2)]
    · rw [if_neg (fun e => h ⟨hv, (cov_not hm hND).mp e⟩)]
  | succ d ih =>
    intro i f hi hf hv
    obtain ⟨f, rfl⟩ : ∃ j, f = j + 1 := ⟨f - 1, by omega⟩
    have hlt := stt_lt hs0 (cw b t) i
    have hp : stt (s0N x0) (cw b t) i / 256 < 8 := by omega
    have hpl := plc_lt (stt (s0N x0) (cw b t) i / 256) (cw b t i)
    have est : f_X0_step (nI i) D = (if cw b t i then 1 else -1) := step_cw d6 d7 ht (by omega)
    rw [X0_reaches_l30, if_neg (nI_ge (by omega) (by omega)), est, fl_plc hp, bnd_s, d4, and_bit NV hNV _ hpl]
    by_cases c : bt NV (plc (stt (s0N x0) (cw b t) i / 256) (cw b t i)) = true
    · rw [if_pos c, if_neg (p2_ne _ hpl)]
      refine ⟨fun h => ?_, fun _ => rfl⟩
      have := h.1 i (by omega)
      unfold vld1 at this
      rw [c] at this; exact absurd this (by decide)
    · rw [if_neg c, if_pos rfl, sh8 _ hpl, nI_or, nI_1]
      have e1 := stN_div (stt (s0N x0) (cw b t) i) (cw b t i)
      have ih := ih (i + 1) f (by omega) (by omega) (fun j hj => by
        by_cases e : j = i
        · rw [e]; exact (Bool.not_eq_true _).mp c
        · exact hv j (by omega))
      rw [show stt (s0N x0) (cw b t) (i + 1) = stN (stt (s0N x0) (cw b t) i) (cw b t i) from rfl, e1.1, e1.2] at ih
      exact ih
theorem reach {n t : Nat} {b : Bool} {C : CM} (hx : x0 < 8) (hNV : NV < 256) (hND : ND < 256) (hC : CFm NV ND x0 C0 C) (hn : n < 100) (ht : t < 1000) : ∃ D, FDm NV ND x0 C0 D n b t ∧ (Fs NV ND x0 n (cw b t) → f_X0_reaches (nI n) (wy b) (nI t) C = some (1, D)) ∧ (¬ Fs NV ND x0 n (cw b t) → f_X0_reaches (nI n) (wy b) (nI t) C = some (0, D)) := by
  obtain ⟨c1, c2, c3, c4⟩ := hC
  obtain ⟨D, hD⟩ : ∃ D, D = up2 (up2 (up2 C 413 0 (nI n)) 413 1 (wy b)) 413 2 (nI t) := ⟨_, rfl⟩
  have g : ∀ k, 3 ≤ k → D 413 k = C 413 k := fun k hk => by rw [hD, up2_eq, pk_un (by omega), up2_eq, pk_un (by omega), up2_eq, pk_un (by omega)]
  have hFD : FDm NV ND x0 C0 D n b t := by
    refine ⟨⟨fun c hc => by rw [hD, up2_ne hc, up2_ne hc, up2_ne hc]; exact c1 c hc, by rw [g 3 (by decide)]; exact c2, by rw [g 4 (by decide)]; exact c3, by rw [g 5 (by decide)]; exact c4⟩, ?_, ?_, ?_⟩
    · rw [hD, up2_eq, pk_un (by decide), up2_eq, pk_un (by decide), up2_eq, pk_us]
    · rw [hD, up2_eq, pk_un (by decide), up2_eq, pk_us]
    · rw [hD, up2_eq, pk_us]
  have hr := reach_l hx hNV hND hFD hn ht n 0 FU (by omega) (by unfold FU; omega) (fun j hj => absurd hj (by omega))
  rw [show stt (s0N x0) (cw b t) 0 = s0N x0 from rfl, (s0N_div hx).1, (s0N_div hx).2.1] at hr
  have e : f_X0_reaches (nI n) (wy b) (nI t) C = X0_reaches_l30 (fun v5 C => X0_reaches_j81 v5 C) FU (nI n) (nI x0) (nI (2 ^ x0)) (nI 0) D := by
    unfold f_X0_reaches
    rw [← hD, hFD.1.2.1, sh8 x0 hx]; rfl
  exact ⟨D, hFD, fun h => e.trans (hr.1 h), fun h => e.trans (hr.2 h)⟩
theorem find_up {n : Nat} (hx : x0 < 8) (hNV : NV < 256) (hND : ND < 256) (hn : n < 100) (k53 : Int32 → CM → Option (Int32 × CM)) : ∀ t f C, t ≤ n → t < f → CFm NV ND x0 C0 C → (∀ t', t < t' → t' ≤ n → ¬ Fs NV ND x0 n (cw true t')) →
    (∃ t0 D, 1 ≤ t0 ∧ t0 ≤ n ∧ Fs NV ND x0 n (cw true t0) ∧ (∀ t', t0 < t' → t' ≤ n → ¬ Fs NV ND x0 n (cw true t')) ∧ X0_find_l29 6 k53 f (nI n) (nI t) C = some (1, D) ∧ FDm NV ND x0 C0 D n true t0) ∨
    (∃ D, CFm NV ND x0 C0 D ∧ (∀ t', 1 ≤ t' → t' ≤ n → ¬ Fs NV ND x0 n (cw true t')) ∧ X0_find_l29 6 k53 f (nI n) (nI t) C = k53 (nI n) D) := by
  intro t
  induction t with
  | zero =>
    intro f C htn hf hC hno
    obtain ⟨f, rfl⟩ : ∃ j, f = j + 1 := ⟨f - 1, by omega⟩
    rw [X0_find_l29, if_pos (show nI 0 ≤ 0 from Int32.le_refl _)]
    exact Or.inr ⟨C, hC, fun t' h1 h2 => hno t' h1 h2, rfl⟩
  | succ t ih =>
    intro f C htn hf hC hno
    obtain ⟨f, rfl⟩ : ∃ j, f = j + 1 := ⟨f - 1, by omega⟩
    obtain ⟨D, d1, d2, d3⟩ := reach (b := true) (t := t + 1) hx hNV hND hC hn (by omega)
    rw [X0_find_l29, if_neg (nI_nle (by omega) (by omega))]
    by_cases c : Fs NV ND x0 n (cw true (t + 1))
    · rw [show f_X0_reaches (nI n) 1 (nI (t + 1)) C = some (1, D) from d2 c, bnd2_s, if_neg n10]
      exact Or.inl ⟨t + 1, D, by omega, htn, c, hno, rfl, d1⟩
    · rw [show f_X0_reaches (nI n) 1 (nI (t + 1)) C = some (0, D) from d3 c, bnd2_s, if_pos rfl, pk_m1]
      exact ih f D (by omega) (by omega) d1.1 (fun t' h1 h2 => by
        by_cases e : t' = t + 1
        · rw [e]; exact c
        · exact hno t' (by omega) h2)
theorem find_dn {n : Nat} (hx : x0 < 8) (hNV : NV < 256) (hND : ND < 256) (hn : n < 100) (k81 : Int32 → CM → Option (Int32 × CM)) : ∀ d t f C, t + d = n + 1 → 1 ≤ t → d < f → CFm NV ND x0 C0 C → (∀ t', 1 ≤ t' → t' < t → ¬ Fs NV ND x0 n (cw false t')) →
    (∃ t0 D, 1 ≤ t0 ∧ t0 ≤ n ∧ Fs NV ND x0 n (cw false t0) ∧ (∀ t', 1 ≤ t' → t' < t0 → ¬ Fs NV ND x0 n (cw false t')) ∧ X0_find_l56 6 k81 f (nI n) (nI t) C = some (1, D) ∧ FDm NV ND x0 C0 D n false t0) ∨
    (∃ D, CFm NV ND x0 C0 D ∧ (∀ t', 1 ≤ t' → t' ≤ n → ¬ Fs NV ND x0 n (cw false t')) ∧ X0_find_l56 6 k81 f (nI n) (nI t) C = k81 (nI n) D) := by
  intro d
  induction d with
  | zero =>
    intro t f C ht h1 hf hC hno
    obtain ⟨f, rfl⟩ : ∃ j, f = j + 1 := ⟨f - 1, by omega⟩
    rw [X0_find_l56, if_pos (nI_lt (by omega) (by omega))]
    exact Or.inr ⟨C, hC, fun t' a b => hno t' a (by omega), rfl⟩
  | succ d ih =>
    intro t f C ht h1 hf hC hno
    obtain ⟨f, rfl⟩ : ∃ j, f = j + 1 := ⟨f - 1, by omega⟩
    obtain ⟨D, d1, d2, d3⟩ := reach (b := false) (t := t) hx hNV hND hC hn (by omega)
    rw [X0_find_l56, if_neg (nI_nlt (by omega) (by omega))]
    by_cases c : Fs NV ND x0 n (cw false t)
    · rw [show f_X0_reaches (nI n) (-1) (nI t) C = some (1, D) from d2 c, bnd2_s, if_neg n10]
      exact Or.inl ⟨t, D, h1, by omega, c, hno, rfl, d1⟩
    · rw [show f_X0_reaches (nI n) (-1) (nI t) C = some (0, D) from d3 c, bnd2_s, if_pos rfl, nI_1]
      exact ih (t + 1) f D (by omega) (by omega) (by omega) d1.1 (fun t' a b => by
        by_cases e : t' = t
        · rw [e]; exact c
        · exact hno t' a (by omega))
def noFs (NV ND x0 n : Nat) : Prop := ∀ t b, 1 ≤ t → t ≤ n → ¬ Fs NV ND x0 n (cw b t)
theorem find_l (hx : x0 < 8) (hNV : NV < 256) (hND : ND < 256) : ∀ d n f C, n + d = 10 → 1 ≤ n → d < f → CFm NV ND x0 C0 C → (∀ n', 1 ≤ n' → n' < n → noFs NV ND x0 n') →
    (∃ n1 b t0 D, 1 ≤ n1 ∧ n1 ≤ 9 ∧ 1 ≤ t0 ∧ t0 ≤ n1 ∧ Fs NV ND x0 n1 (cw b t0) ∧ (b = true → ∀ t', t0 < t' → t' ≤ n1 → ¬ Fs NV ND x0 n1 (cw true t')) ∧ (b = false → (∀ t', 1 ≤ t' → t' ≤ n1 → ¬ Fs NV ND x0 n1 (cw true t')) ∧ ∀ t', 1 ≤ t' → t' < t0 → ¬ Fs NV ND x0 n1 (cw false t')) ∧
      (∀ n', 1 ≤ n' → n' < n1 → noFs NV ND x0 n') ∧ X0_find_l20 6 f (nI n) C = some (1, D) ∧ FDm NV ND x0 C0 D n1 b t0) ∨
    (∃ D, CFm NV ND x0 C0 D ∧ (∀ n', 1 ≤ n' → n' ≤ 9 → noFs NV ND x0 n') ∧ X0_find_l20 6 f (nI n) C = some (0, D)) := by
  intro d
  induction d with
  | zero =>
    intro n f C hn h1 hf hC hno
    obtain ⟨f, rfl⟩ : ∃ j, f = j + 1 := ⟨f - 1, by omega⟩
    have : n = 10 := by omega
    subst this
    rw [X0_find_l20, show (9 : Int32) = nI 9 from rfl, if_pos (nI_lt (by decide) (by decide))]
    exact Or.inr ⟨C, hC, fun n' a b => hno n' a (by omega), rfl⟩
  | succ d ih =>
    intro n f C hn h1 hf hC hno
    obtain ⟨f, rfl⟩ : ∃ j, f = j + 1 := ⟨f - 1, by omega⟩
    rw [X0_find_l20, show (9 : Int32) = nI 9 from rfl, if_neg (nI_nlt (by omega) (by decide))]
    rcases find_up (C0 := C0) hx hNV hND (show n < 100 by omega) (fun v3 C => (X0_find_j53 6 (fun v3 C => X0_find_l20 6 f v3 C) v3 C)) n FU C (Nat.le_refl _) (by unfold FU; omega) hC (fun t' a b => absurd a (by omega)) with ⟨t0, D, a1, a2, a3, a4, a5, a6⟩ | ⟨D, a1, a2, a3⟩
    · exact Or.inl ⟨n, true, t0, D, h1, by omega, a1, a2, a3, fun _ => a4, fun h => absurd h (by decide), hno, a5, a6⟩
    · rw [a3]
      simp only [X0_find_j53]
      rcases find_dn (C0 := C0) hx hNV hND (show n < 100 by omega) (fun v3 C => (X0_find_j81 6 (fun v3 C => X0_find_l20 6 f v3 C) v3 C)) n 1 FU D (by omega) (by omega) (by unfold FU; omega) a1 (fun t' a b => absurd a (by omega)) with ⟨t0, D', b1, b2, b3, b4, b5, b6⟩ | ⟨D', b1, b2, b3⟩
      · exact Or.inl ⟨n, false, t0, D', h1, by omega, b1, b2, b3, fun h => absurd h (by decide), fun _ => ⟨a2, b4⟩, hno, b5, b6⟩
      · rw [show (1 : Int32) = nI 1 from rfl, b3]
        simp only [X0_find_j81, nI_1]
        refine ih (n + 1) f D' (by omega) (by omega) (by omega) b1 (fun n' a b => ?_)
        by_cases e : n' = n
        · subst e
          intro t b' h1 h2
          cases b'
          · exact b2 t h1 h2
          · exact a2 t h1 h2
        · exact hno n' a (by omega)
end
