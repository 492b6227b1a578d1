/-! A way home: the shortest walks turn once at most -/
def rs (x0 : Nat) (j : Int) : Nat := ((x0 + j) % 8).toNat
def s0N (x0 : Nat) : Nat := 256 * x0 + 2 ^ x0
theorem s0N_div {x0 : Nat} (h : x0 < 8) : s0N x0 / 256 = x0 ∧ s0N x0 % 256 = 2 ^ x0 ∧ s0N x0 < 2048 := by
  have := p2_lt h
  have h0 := Nat.two_pow_pos x0
  obtain ⟨b, hb⟩ : ∃ b, b = 2 ^ x0 := ⟨_, rfl⟩
  unfold s0N
  rw [← hb] at this h0 ⊢
  omega
theorem rs_lt (x0 : Nat) (j : Int) : rs x0 j < 8 := by unfold rs; omega
theorem rs_step (x0 : Nat) (j : Int) (b : Bool) : plc (rs x0 j) b = rs x0 (j + (if b then 1 else -1)) := by
  unfold plc rs
  cases b
  · show ((((x0 : Int) + j) % 8).toNat + 7) % 8 = (((x0 : Int) + (j + -1)) % 8).toNat
    omega
  · show ((((x0 : Int) + j) % 8).toNat + 1) % 8 = (((x0 : Int) + (j + 1)) % 8).toNat
    omega
theorem stt_place {x0 : Nat} (h : x0 < 8) (w : Nat → Bool) : ∀ n, stt (s0N x0) w n / 256 = rs x0 (wX w n) := by
  intro n
  induction n with
  | zero =>
    show s0N x0 / 256 = rs x0 0
    rw [(s0N_div h).1]
    unfold rs
    omega
  | succ n ih =>
    show stN (stt (s0N x0) w n) (w n) / 256 = rs x0 (wX w n + (if w n then 1 else -1))
    rw [(stN_div _ _).1, ih, rs_step]
theorem stt_mask {x0 : Nat} (h : x0 < 8) (w : Nat → Bool) : ∀ n y, y < 8 → (bt (stt (s0N x0) w n % 256) y = true ↔ ∃ j : Int, -(wL w n) ≤ j ∧ j ≤ wR w n ∧ rs x0 j = y) := by
  intro n
  induction n with
  | zero =>
    intro y hy
    show bt (s0N x0 % 256) y = true ↔ ∃ j : Int, -0 ≤ j ∧ j ≤ 0 ∧ rs x0 j = y
    rw [(s0N_div h).2.1, bt_p2]
    constructor
    · intro e
      have e := of_decide_eq_true e
      exact ⟨0, by omega, by omega, by unfold rs; omega⟩
    · rintro ⟨j, j1, j2, j3⟩
      apply decide_eq_true
      have : j = 0 := by omega
      subst this
      unfold rs at j3
      omega
  | succ n ih =>
    intro y hy
    obtain ⟨h1, h2, h3⟩ := w_s w n
    obtain ⟨g1, g2, g3, g4⟩ := w_in w n
    have hp := stt_place h w (n + 1)
    show bt (stN (stt (s0N x0) w n) (w n) % 256) y = true ↔ _
    have hpl : plc (stt (s0N x0) w n / 256) (w n) = rs x0 (wX w (n + 1)) := by
      rw [← hp]
      exact (stN_div _ _).1.symm
    rw [(stN_div _ _).2, bt_or, bt_p2, hpl, Bool.or_eq_true, ih y hy]
    constructor
    · rintro (⟨j, j1, j2, j3⟩ | e)
      · exact ⟨j, by omega, by omega, j3⟩
      · exact ⟨wX w (n + 1), by omega, by omega, of_decide_eq_true e⟩
    · rintro ⟨j, j1, j2, j3⟩
      by_cases c : -(wL w n) ≤ j ∧ j ≤ wR w n
      · exact Or.inl ⟨j, c.1, c.2, j3⟩
      · refine Or.inr (decide_eq_true ?_)
        have : j = wX w (n + 1) := by
          rcases h1 with ⟨e, -⟩ | ⟨e, -⟩ <;> omega
        rw [← this]; exact j3
def okN (NV x0 : Nat) (j : Int) : Prop := bt NV (rs x0 j) = false
theorem vld_iff {NV x0 : Nat} (h : x0 < 8) (w : Nat → Bool) (n : Nat) : vldW NV (s0N x0) w n ↔ ∀ i, i < n → okN NV x0 (wX w (i + 1)) := by
  have e : ∀ i, vld1 NV (stt (s0N x0) w i) (w i) ↔ okN NV x0 (wX w (i + 1)) := by
    intro i
    unfold vld1 okN
    rw [show plc (stt (s0N x0) w i / 256) (w i) = rs x0 (wX w (i + 1)) by rw [← stt_place h w (i + 1)]; exact (stN_div _ _).1.symm]
  exact ⟨fun hv i hi => (e i).mp (hv i hi), fun hv i hi => (e i).mpr (hv i hi)⟩
theorem ok_all {NV x0 : Nat} {w : Nat → Bool} : ∀ n, (∀ i, i < n → okN NV x0 (wX w (i + 1))) → (∀ j : Int, -(wL w n) ≤ j → j ≤ wR w n → j ≠ 0 → okN NV x0 j) ∧ (0 < wL w n → 0 < wR w n → okN NV x0 0) ∧ (0 < n → okN NV x0 (wX w n)) := by
  intro n
  induction n with
  | zero =>
    intro _
    refine ⟨fun j a b c => ?_, fun a => ?_, fun a => absurd a (by omega)⟩
    · have l0 : wL w 0 = 0 := rfl
      have r0 : wR w 0 = 0 := rfl
      omega
    · have l0 : wL w 0 = 0 := rfl
      omega
  | succ n ih =>
    intro h
    obtain ⟨i1, i2, i3⟩ := ih (fun i hi => h i (by omega))
    obtain ⟨h1, h2, h3⟩ := w_s w n
    obtain ⟨g1, g2, g3, g4⟩ := w_in w n
    have hx := h n (by omega)
    refine ⟨fun j a b c => ?_, fun a b => ?_, fun _ => hx⟩
    · by_cases cj : -(wL w n) ≤ j ∧ j ≤ wR w n
      · exact i1 j cj.1 cj.2 c
      · have : j = wX w (n + 1) := by
          rcases h1 with ⟨e, -⟩ | ⟨e, -⟩ <;> omega
        rw [this]; exact hx
    · by_cases c : 0 < wL w n ∧ 0 < wR w n
      · exact i2 c.1 c.2
      · have hx0 : wX w n = 0 := by
          rcases h1 with ⟨e, -⟩ | ⟨e, -⟩ <;> omega
        have hn0 : 0 < n := by
          rcases Nat.eq_zero_or_pos n with e | e
          · subst e
            have l0 : wL w 0 = 0 := rfl
            have r0 : wR w 0 = 0 := rfl
            rcases h1 with ⟨e, -⟩ | ⟨e, -⟩ <;> omega
          · exact e
        rw [← hx0]; exact i3 hn0
/-- up to a, then down -/
def cU (a : Nat) : Nat → Bool := fun i => decide (i < a)
theorem cU_w (a : Nat) : ∀ t : Nat, wX (cU a) t = (if t ≤ a then (t : Int) else 2 * a - t) ∧ wR (cU a) t = min t a ∧ wL (cU a) t = max 0 ((t : Int) - 2 * a) := by
  intro t
  induction t with
  | zero => exact ⟨by rw [if_pos (Nat.zero_le _)]; rfl, by show (0 : Int) = min (0 : Nat) a; omega, by show (0 : Int) = _; omega⟩
  | succ t ih =>
    obtain ⟨i1, i2, i3⟩ := ih
    have e : wX (cU a) (t + 1) = (if t + 1 ≤ a then ((t + 1 : Nat) : Int) else 2 * a - ((t + 1 : Nat) : Int)) := by
      show wX (cU a) t + (if decide (t < a) = true then 1 else -1) = _
      rw [i1]
      by_cases c : t < a
      · rw [if_pos (by omega), if_pos (decide_eq_true c), if_pos (by omega)]; omega
      · rw [if_neg (show ¬ decide (t < a) = true by rw [decide_eq_false c]; decide), if_neg (show ¬ t + 1 ≤ a by omega)]
        by_cases c2 : t ≤ a
        · rw [if_pos c2]; omega
        · rw [if_neg c2]; omega
    refine ⟨e, ?_, ?_⟩
    · show max (wR (cU a) t) (wX (cU a) (t + 1)) = _
      rw [e, i2]
      by_cases c : t + 1 ≤ a
      · rw [if_pos c]; omega
      · rw [if_neg c]; omega
    · show max (wL (cU a) t) (-(wX (cU a) (t + 1))) = _
      rw [e, i3]
      by_cases c : t + 1 ≤ a
      · rw [if_pos c]; omega
      · rw [if_neg c]; omega
def cD (a : Nat) : Nat → Bool := fun i => !decide (i < a)
theorem cD_w (a t : Nat) : wX (cD a) t = -(if t ≤ a then (t : Int) else 2 * a - t) ∧ wL (cD a) t = min t a ∧ wR (cD a) t = max 0 ((t : Int) - 2 * a) := by
  obtain ⟨e1, e2, e3⟩ := w_neg (cU a) t
  obtain ⟨f1, f2, f3⟩ := cU_w a t
  exact ⟨by rw [← f1]; exact e1, by rw [← f2]; exact e3, by rw [← f3]; exact e2⟩
section
variable {NV ND x0 : Nat} {V : Nat → Nat}
theorem goal_of (h : x0 < 8) {w w' : Nat → Bool} {n n' : Nat} (hg : goal ND (stt (s0N x0) w n)) (hl : ∀ j : Int, -(wL w n) ≤ j → j ≤ wR w n → ∃ j', -(wL w' n') ≤ j' ∧ j' ≤ wR w' n' ∧ rs x0 j' = rs x0 j) : goal ND (stt (s0N x0) w' n') := by
  intro y hy hd
  obtain ⟨j, j1, j2, j3⟩ := (stt_mask h w n y hy).mp (hg y hy hd)
  obtain ⟨j', a1, a2, a3⟩ := hl j j1 j2
  exact (stt_mask h w' n' y hy).mpr ⟨j', a1, a2, a3.trans j3⟩
theorem min_walk (hx : x0 < 8) (hy : YV NV ND V) (hf : ∀ s b, s < 2048 → vld1 NV s b → V s ≤ V (stN s b) + 1) {w : Nat → Bool} {n : Nat} (hv : vldW NV (s0N x0) w n) (hg : goal ND (stt (s0N x0) w n)) (hn : V (s0N x0) = n) :
    n ≤ 9 ∧ tight w n ∧ (wX w n = max (wL w n) (wR w n) ∨ -(wX w n) = max (wL w n) (wR w n)) := by
  have hs0 := (s0N_div hx).2.2
  have best : ∀ w' n', vldW NV (s0N x0) w' n' → goal ND (stt (s0N x0) w' n') → n ≤ n' := by
    intro w' n' h1 h2
    have h3 := walk_ge hy hf n' _ w' hs0 h1
    have h4 := hy.1 _ (stt_lt hs0 w' n') h2
    omega
  obtain ⟨o1, o2, -⟩ := ok_all n ((vld_iff hx w n).mp hv)
  obtain ⟨g1, g2, g3, g4⟩ := w_in w n
  have hwf := w_f w n
  obtain ⟨L, hL⟩ : ∃ L : Nat, (L : Int) = wL w n := ⟨(wL w n).toNat, by omega⟩
  obtain ⟨R, hR⟩ : ∃ R : Nat, (R : Int) = wR w n := ⟨(wR w n).toNat, by omega⟩
  have hup : R ≤ L → n ≤ 2 * R + L := by
    intro hRL
    refine best (cU R) (2 * R + L) ((vld_iff hx _ _).mpr (fun i hi => ?_)) (goal_of hx hg (fun j j1 j2 => ⟨j, ?_, ?_, rfl⟩))
    · rw [(cU_w R (i + 1)).1]
      by_cases c : i + 1 ≤ R
      · rw [if_pos c]; exact o1 _ (by omega) (by omega) (by omega)
      · rw [if_neg c]
        by_cases c0 : 2 * (R : Int) - ((i + 1 : Nat) : Int) = 0
        · rw [c0]; exact o2 (by omega) (by omega)
        · exact o1 _ (by omega) (by omega) c0
    · rw [(cU_w R (2 * R + L)).2.2]; omega
    · rw [(cU_w R (2 * R + L)).2.1]; omega
  have hdn : L ≤ R → n ≤ 2 * L + R := by
    intro hRL
    refine best (cD L) (2 * L + R) ((vld_iff hx _ _).mpr (fun i hi => ?_)) (goal_of hx hg (fun j j1 j2 => ⟨j, ?_, ?_, rfl⟩))
    · rw [(cD_w L (i + 1)).1]
      by_cases c : i + 1 ≤ L
      · rw [if_pos c]; exact o1 _ (by omega) (by omega) (by omega)
      · rw [if_neg c]
        by_cases c0 : -(2 * (L : Int) - ((i + 1 : Nat) : Int)) = 0
        · rw [c0]; exact o2 (by omega) (by omega)
        · exact o1 _ (by omega) (by omega) c0
    · rw [(cD_w L (2 * L + R)).2.1]; omega
    · rw [(cD_w L (2 * L + R)).2.2]; omega
  have h7 : 7 ≤ L + R → n ≤ 7 := by
    intro h
    refine best (cU 7) 7 ((vld_iff hx _ _).mpr (fun i hi => ?_)) ?_
    · rw [(cU_w 7 (i + 1)).1, if_pos (by omega)]
      by_cases c : i + 1 ≤ R
      · exact o1 _ (by omega) (by omega) (by omega)
      · have := o1 (((i + 1 : Nat) : Int) - 8) (by omega) (by omega) (by omega)
        unfold okN at this ⊢
        rw [show rs x0 ((i + 1 : Nat) : Int) = rs x0 (((i + 1 : Nat) : Int) - 8) by unfold rs; omega]
        exact this
    · intro y hy8 _
      refine (stt_mask hx (cU 7) 7 y hy8).mpr ⟨((y : Int) - x0) % 8, ?_, ?_, ?_⟩
      · rw [(cU_w 7 7).2.2]; omega
      · rw [(cU_w 7 7).2.1]; omega
      · unfold rs; omega
  refine ⟨by omega, w_tight w n ?_, ?_⟩
  · omega
  · omega
end
