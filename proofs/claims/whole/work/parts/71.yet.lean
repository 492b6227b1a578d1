/-! A way home: how far from each state -/
def plc (x : Nat) (b : Bool) : Nat := (x + (if b then 1 else 7)) % 8
def stN (s : Nat) (b : Bool) : Nat := 256 * plc (s / 256) b + (s % 256 ||| 2 ^ plc (s / 256) b)
theorem plc_lt (x : Nat) (b : Bool) : plc x b < 8 := Nat.mod_lt _ (by decide)
theorem stN_lt (s : Nat) (b : Bool) : stN s b < 2048 := by
  have h1 := plc_lt (s / 256) b
  have h2 := or_lt (Nat.mod_lt s (show 0 < 256 by decide)) (p2_lt h1)
  unfold stN
  omega
theorem stN_div (s : Nat) (b : Bool) : stN s b / 256 = plc (s / 256) b ∧ stN s b % 256 = (s % 256 ||| 2 ^ plc (s / 256) b) := by
  have h1 := plc_lt (s / 256) b
  have h2 := or_lt (Nat.mod_lt s (show 0 < 256 by decide)) (p2_lt h1)
  unfold stN
  omega
theorem plc_way : ∀ x, x < 8 → irm (nI x + 1 + 8) 8 = nI (plc x true) ∧ irm (nI x + (-1) + 8) 8 = nI (plc x false) := by decide +kernel
theorem stepN {s : Nat} (hs : s < 2048) (b : Bool) : f_X12_stepTo (nI s) (if b then 1 else -1) = nI (stN s b) := by
  have e1 : nI s / 256 = nI (s / 256) := pk_div (d := 256) (by omega) (by decide) (by decide)
  have e2 : irm (nI s) 256 = nI (s % 256) := pk_rem (d := 256) (by omega) (by decide) (by decide)
  have hx : s / 256 < 8 := by omega
  have e3 : irm (nI (s / 256) + (if b then 1 else -1) + 8) 8 = nI (plc (s / 256) b) := by
    cases b
    · exact (plc_way _ hx).2
    · exact (plc_way _ hx).1
  unfold f_X12_stepTo
  rw [e1, e2, e3, sh8 _ (plc_lt _ _), nI_or, show (256 : Int32) = nI 256 from rfl, pk_mul, nI_add]; rfl
section
variable (NV ND : Nat)
def vld1 (s : Nat) (b : Bool) : Prop := bt NV (plc (s / 256) b) = false
def goal (s : Nat) : Prop := cov (s % 256) ND
/-- what the reference's row tells of the states -/
def YV (V : Nat → Nat) : Prop := (∀ s, s < 2048 → goal ND s → V s = 0) ∧ (∀ s, s < 2048 → ¬ goal ND s → 1 ≤ V s) ∧ (∀ s, s < 2048 → V s ≤ 99) ∧ ∀ s, s < 2048 → ¬ goal ND s → V s = 99 ∨ ∃ b, vld1 NV s b ∧ V (stN s b) + 1 ≤ V s
end
theorem has_place {NV s : Nat} (hNV : NV < 256) (b : Bool) : f_X12_has (nI NV) (nI (stN s b) / 256) = if bt NV (plc (s / 256) b) then 1 else 0 := by
  have e1 : nI (stN s b) / 256 = nI (stN s b / 256) := pk_div (d := 256) (by have := stN_lt s b; omega) (by decide) (by decide)
  rw [e1, (stN_div s b).1, bt_has (by omega) (by have := plc_lt (s / 256) b; omega)]
/-- one pass so far: rows below i relaxed -/
def PS (NV ND k i : Nat) (V0 V : Nat → Nat) (mo : Int32) : Prop := YV NV ND V ∧ (∀ s, s < 2048 → V s ≤ V0 s) ∧ (∀ s, s < 2048 → V s = V0 s ∨ k + 1 ≤ V s) ∧ (∀ s b, s < i → s < 2048 → vld1 NV s b → V (stN s b) ≤ k → V s ≤ V (stN s b) + 1) ∧
  ((mo = 0 ∧ ∀ s b, s < i → s < 2048 → vld1 NV s b → V s ≤ V (stN s b) + 1) ∨ (mo = 1 ∧ k + 1 ≤ 98))
theorem relax {NV ND k i : Nat} {V0 V : Nat → Nat} {mo : Int32} (hi : i < 2048) (hco : ∀ s b, s < 2048 → vld1 NV s b → V0 (stN s b) < k → V0 s ≤ V0 (stN s b) + 1) (h : YV NV ND V ∧ (∀ s, s < 2048 → V s ≤ V0 s) ∧ (∀ s, s < 2048 → V s = V0 s ∨ k + 1 ≤ V s)) (b : Bool) (hv : vld1 NV i b) (hlt : V (stN i b) + 1 < V i) :
    YV NV ND (fun s => if s = i then V (stN i b) + 1 else V s) ∧ (∀ s, s < 2048 → (fun s => if s = i then V (stN i b) + 1 else V s) s ≤ V0 s) ∧ (∀ s, s < 2048 → (fun s => if s = i then V (stN i b) + 1 else V s) s = V0 s ∨ k + 1 ≤ (fun s => if s = i then V (stN i b) + 1 else V s) s) ∧ k ≤ V (stN i b) ∧ k + 1 ≤ 98 := by
  obtain ⟨⟨y1, y2, y3, y4⟩, h2, h3⟩ := h
  have hst := stN_lt i b
  have hk : k ≤ V (stN i b) := by
    by_cases c : k ≤ V (stN i b)
    · exact c
    · exfalso
      have e : V (stN i b) = V0 (stN i b) := by
        rcases h3 _ hst with e | e
        · exact e
        · omega
      have := hco i b hi hv (by omega)
      have := h2 i hi
      omega
  have h99 := y3 i hi
  have ng : ¬ goal ND i := fun g => by
    have := y1 i hi g
    omega
  refine ⟨⟨fun s hs g => ?_, fun s hs g => ?_, fun s hs => ?_, fun s hs g => ?_⟩, fun s hs => ?_, fun s hs => ?_, hk, by omega⟩
  · show (if s = i then V (stN i b) + 1 else V s) = 0
    rw [if_neg (fun e => ng (by rw [← e]; exact g))]; exact y1 s hs g
  · show 1 ≤ (if s = i then V (stN i b) + 1 else V s)
    split
    · omega
    · exact y2 s hs g
  · show (if s = i then V (stN i b) + 1 else V s) ≤ 99
    split
    · omega
    · exact y3 s hs
  · show (if s = i then V (stN i b) + 1 else V s) = 99 ∨ ∃ b', vld1 NV s b' ∧ (if stN s b' = i then V (stN i b) + 1 else V (stN s b')) + 1 ≤ (if s = i then V (stN i b) + 1 else V s)
    have hsi : ∀ b', stN s b' = s → False := by
      intro b' e
      have e1 := (stN_div s b').1
      rw [e] at e1
      have hp : s / 256 < 8 := by omega
      unfold plc at e1
      cases b' <;> simp at e1 <;> omega
    by_cases e : s = i
    · subst e
      rw [if_pos rfl]
      refine Or.inr ⟨b, hv, ?_⟩
      rw [if_neg (fun e => hsi b e)]
      exact Nat.le_refl _
    · rw [if_neg e]
      rcases y4 s hs g with g1 | ⟨b', g1, g2⟩
      · exact Or.inl g1
      · refine Or.inr ⟨b', g1, ?_⟩
        by_cases e2 : stN s b' = i
        · rw [if_pos e2]
          rw [e2] at g2
          omega
        · rw [if_neg e2]; exact g2
  · show (if s = i then V (stN i b) + 1 else V s) ≤ V0 s
    by_cases e : s = i
    · rw [if_pos e, e]
      have := h2 i hi
      omega
    · rw [if_neg e]; exact h2 s hs
  · show (if s = i then V (stN i b) + 1 else V s) = V0 s ∨ k + 1 ≤ (if s = i then V (stN i b) + 1 else V s)
    by_cases e : s = i
    · rw [if_pos e]; exact Or.inr (by omega)
    · rw [if_neg e]; exact h3 s hs
/-- a state relaxed one way -/
theorem way1 {NV ND k i : Nat} {V0 V : Nat → Nat} {mo : Int32} {O : OM} (hNV : NV < 256) (hi : i < 2048) (hco : ∀ s b, s < 2048 → vld1 NV s b → V0 (stN s b) < k → V0 s ≤ V0 (stN s b) + 1) (b : Bool) (P : Bool → Prop)
    (hV : ∀ s, s < 2048 → O.1 473 s = nI (V s)) (h : YV NV ND V ∧ (∀ s, s < 2048 → V s ≤ V0 s) ∧ (∀ s, s < 2048 → V s = V0 s ∨ k + 1 ≤ V s)) (hp : ∀ s b, s < i → s < 2048 → vld1 NV s b → V (stN s b) ≤ k → V s ≤ V (stN s b) + 1) (hpi : ∀ b', P b' → vld1 NV i b' → V i ≤ V (stN i b') + 1)
    (hm : (mo = 0 ∧ (∀ s b, s < i → s < 2048 → vld1 NV s b → V s ≤ V (stN s b) + 1)) ∨ (mo = 1 ∧ k + 1 ≤ 98)) (k131 : Int32 → Int32 → Int32 → OM → Option OM) (f : Nat) (v5 : Int32) (hv5 : v5 = if b then 1 else -1) (h25 : ¬ (2 : Int32) ≤ v5) :
    ∃ V' mo' O', X12_laysYet_l60 k131 (f + 1) (nI NV) mo (nI i) v5 O = X12_laysYet_l60 k131 f (nI NV) mo' (nI i) (v5 + 2) O' ∧ FrO1 473 O O' ∧ (∀ s, s < 2048 → O'.1 473 s = nI (V' s)) ∧ (YV NV ND V' ∧ (∀ s, s < 2048 → V' s ≤ V0 s) ∧ (∀ s, s < 2048 → V' s = V0 s ∨ k + 1 ≤ V' s)) ∧ (∀ s b, s < i → s < 2048 → vld1 NV s b → V' (stN s b) ≤ k → V' s ≤ V' (stN s b) + 1) ∧
      (∀ b', (P b' ∨ b' = b) → vld1 NV i b' → V' i ≤ V' (stN i b') + 1) ∧ ((mo' = 0 ∧ (∀ s b, s < i → s < 2048 → vld1 NV s b → V' s ≤ V' (stN s b) + 1)) ∨ (mo' = 1 ∧ k + 1 ≤ 98)) := by
  have hst := stN_lt i b
  have hstep : f_X12_stepTo (nI i) v5 = nI (stN i b) := by rw [hv5]; exact stepN hi b
  have h99 := h.1.2.2.1
  rw [X12_laysYet_l60, if_neg h25, hstep, has_place hNV b]
  unfold X12_laysYet_j125
  by_cases c : bt NV (plc (i / 256) b) = true
  · rw [if_pos c, if_neg n10]
    refine ⟨V, mo, O, rfl, FrO1.refl, hV, h, hp, fun b' hb' hv' => ?_, hm⟩
    rcases hb' with hb' | hb'
    · exact hpi b' hb' hv'
    · subst hb'
      unfold vld1 at hv'
      rw [c] at hv'; exact absurd hv' (by decide)
  · have hv : vld1 NV i b := (Bool.not_eq_true _).mp c
    rw [if_neg c, if_pos rfl, gd_p (inbN hst (by decide)), gd_p (inbN hi (by decide)), gd_p (inbN hst (by decide)), gd_p (inbN hi (by decide)), nI_clamp (show i < 2 ^ 31 by omega), nI_clamp (show stN i b < 2 ^ 31 by omega), hV i hi, hV _ hst, nI_1]
    have b1 := h99 i hi
    have b2 := h99 _ hst
    by_cases g : V i ≤ V (stN i b) + 1
    · rw [if_pos (nI_le g (by omega))]
      refine ⟨V, mo, O, rfl, FrO1.refl, hV, h, hp, fun b' hb' hv' => ?_, hm⟩
      rcases hb' with hb' | hb'
      · exact hpi b' hb' hv'
      · subst hb'; exact g
    · rw [if_neg (nI_ge (by omega) (by omega))]
      obtain ⟨r1, r2, r3, r4, r5⟩ := relax (mo := mo) hi hco h b hv (by omega)
      have hne : ∀ b', stN i b' ≠ i := by
        intro b' e
        have e1 := (stN_div i b').1
        rw [e] at e1
        have hp : i / 256 < 8 := by omega
        unfold plc at e1
        cases b' <;> simp at e1 <;> omega
      obtain ⟨V', hV'⟩ : ∃ V' : Nat → Nat, V' = fun s => if s = i then V (stN i b) + 1 else V s := ⟨_, rfl⟩
      have va : V' i = V (stN i b) + 1 := by rw [hV']; exact if_pos rfl
      have vb : ∀ s, s ≠ i → V' s = V s := fun s hs => by rw [hV']; exact if_neg hs
      rw [← hV'] at r1 r2 r3
      refine ⟨V', 1, oup O 473 i (nI (V (stN i b) + 1)), rfl, fun c hc => oup_ne hc, fun s hs => ?_, ⟨r1, r2, r3⟩, fun s b' hs hs2 hvs hle => ?_, fun b' hb' hv' => ?_, Or.inr ⟨rfl, r5⟩⟩
      · rw [oup_eq]
        by_cases e : s = i
        · rw [e, pk_us, va]
        · rw [pk_un e, vb s e]; exact hV s hs
      · rw [vb s (by omega)]
        by_cases e : stN s b' = i
        · rw [e, va] at hle; omega
        · rw [vb _ e] at hle ⊢
          exact hp s b' hs hs2 hvs hle
      · rw [va, vb _ (hne b')]
        rcases hb' with hb' | hb'
        · have := hpi b' hb' hv'
          omega
        · subst hb'; exact Nat.le_refl _
theorem pass_l {NV ND k : Nat} {V0 : Nat → Nat} (hNV : NV < 256) (hco : ∀ s b, s < 2048 → vld1 NV s b → V0 (stN s b) < k → V0 s ≤ V0 (stN s b) + 1) (k137 : Int32 → Int32 → OM → Option OM) : ∀ d i f V mo O, i + d = 2048 → d < f → (∀ s, s < 2048 → O.1 473 s = nI (V s)) → PS NV ND k i V0 V mo →
    ∃ V' mo' O', X12_laysYet_l49 k137 f (nI NV) mo (nI i) O = k137 (nI NV) mo' O' ∧ FrO1 473 O O' ∧ (∀ s, s < 2048 → O'.1 473 s = nI (V' s)) ∧ PS NV ND k 2048 V0 V' mo' := by
  intro d
  induction d with
  | zero =>
    intro i f V mo O hi hf hV h
    obtain ⟨f, rfl⟩ : ∃ j, f = j + 1 := ⟨f - 1, by omega⟩
    have : i = 2048 := by omega
    subst this
    rw [X12_laysYet_l49, show (2048 : Int32) = nI 2048 from rfl, if_pos (Int32.le_refl _)]
    exact ⟨V, mo, O, rfl, FrO1.refl, hV, h⟩
  | succ d ih =>
    intro i f V mo O hi hf hV h
    obtain ⟨f, rfl⟩ : ∃ j, f = j + 1 := ⟨f - 1, by omega⟩
    obtain ⟨h1, h2, h3, h4, h5⟩ := h
    have hi2 : i < 2048 := by omega
    obtain ⟨V1, m1, O1, a1, a2, a3, a4, a5, a6, a7⟩ := way1 hNV hi2 hco false (fun _ => False) hV ⟨h1, h2, h3⟩ h4 (fun b' hb' => absurd hb' id) h5 (fun v2 v3 v4 O => (X12_laysYet_j131 (fun v2 v3 v4 O => X12_laysYet_l49 k137 f v2 v3 v4 O) k137 v2 v3 v4 O)) 9999 (-1) rfl (by decide)
    obtain ⟨V2, m2, O2, b1, b2, b3, b4, b5, b6, b7⟩ := way1 hNV hi2 hco true (fun b => b = false) a3 a4 a5 (fun b' hb' => a6 b' (Or.inr hb')) a7 (fun v2 v3 v4 O => (X12_laysYet_j131 (fun v2 v3 v4 O => X12_laysYet_l49 k137 f v2 v3 v4 O) k137 v2 v3 v4 O)) 9998 1 rfl (by decide)
    have all : ∀ b', vld1 NV i b' → V2 i ≤ V2 (stN i b') + 1 := fun b' hv' => b6 b' (by cases b' <;> simp) hv'
    have hps : PS NV ND k (i + 1) V0 V2 m2 := by
      refine ⟨b4.1, b4.2.1, b4.2.2, fun s b hs hs2 hv hle => ?_, ?_⟩
      · by_cases e : s = i
        · subst e; exact all b hv
        · exact b5 s b (by omega) hs2 hv hle
      · rcases b7 with ⟨c1, c2⟩ | c
        · refine Or.inl ⟨c1, fun s b hs hs2 hv => ?_⟩
          by_cases e : s = i
          · subst e; exact all b hv
          · exact c2 s b (by omega) hs2 hv
        · exact Or.inr c
    obtain ⟨V', mo', O', r1, r2, r3, r4⟩ := ih (i + 1) f V2 m2 O2 (by omega) (by omega) b3 hps
    refine ⟨V', mo', O', ?_, (a2.trans b2).trans r2, r3, r4⟩
    rw [X12_laysYet_l49, show (2048 : Int32) = nI 2048 from rfl, if_neg (nI_ge hi2 (by decide)), show FU = 9999 + 1 from rfl, a1, show (-1 : Int32) + 2 = 1 from rfl, show (9999 : Nat) = 9998 + 1 from rfl, b1, show (1 : Int32) + 2 = 3 from rfl, show (9998 : Nat) = 9997 + 1 from rfl, X12_laysYet_l60, if_pos (show (2 : Int32) ≤ 3 by decide)]
    simp only [X12_laysYet_j131, nI_1]
    exact r1
theorem passes_l {NV ND : Nat} (hNV : NV < 256) : ∀ d k f V O, k + d = 99 → d < f → (∀ s, s < 2048 → O.1 473 s = nI (V s)) → YV NV ND V → (∀ s b, s < 2048 → vld1 NV s b → V (stN s b) < k → V s ≤ V (stN s b) + 1) →
    ∃ V' O', X12_laysYet_l40 (f + 1) (nI NV) 1 O = some O' ∧ FrO1 473 O O' ∧ (∀ s, s < 2048 → O'.1 473 s = nI (V' s)) ∧ YV NV ND V' ∧ ∀ s b, s < 2048 → vld1 NV s b → V' s ≤ V' (stN s b) + 1 := by
  intro d
  induction d with
  | zero =>
    intro k f V O hk hf hV hy hco
    obtain ⟨f, rfl⟩ : ∃ j, f = j + 1 := ⟨f - 1, by omega⟩
    obtain ⟨V', mo', O', r1, r2, r3, r4⟩ := pass_l (V0 := V) (ND := ND) (k := k) hNV hco (fun v2 v3 O => (X12_laysYet_j137 (fun v2 v3 O => X12_laysYet_l40 (f + 1) v2 v3 O) v2 v3 O)) 2048 0 FU V 0 O (by omega) (by unfold FU; omega) hV ⟨hy, fun _ _ => Nat.le_refl _, fun _ _ => Or.inl rfl, fun s b hs => absurd hs (by omega), Or.inl ⟨rfl, fun s b hs => absurd hs (by omega)⟩⟩
    rw [X12_laysYet_l40, if_neg n10, show (0 : Int32) = nI 0 from rfl, show X12_laysYet_l49 (fun v2 v3 O => (X12_laysYet_j137 (fun v2 v3 O => X12_laysYet_l40 (f + 1) v2 v3 O) v2 v3 O)) FU (nI NV) (nI 0) (nI 0) O = _ from r1]
    unfold X12_laysYet_j137
    obtain ⟨p1, -, -, -, p5⟩ := r4
    rcases p5 with ⟨c1, c2⟩ | ⟨-, c⟩
    · rw [c1]
      show ∃ V' O'', X12_laysYet_l40 (f + 1) (nI NV) 0 O' = some O'' ∧ _
      rw [X12_laysYet_l40, if_pos rfl]
      exact ⟨V', O', rfl, r2, r3, p1, fun s b hs hv => c2 s b hs hs hv⟩
    · omega
  | succ d ih =>
    intro k f V O hk hf hV hy hco
    obtain ⟨f, rfl⟩ : ∃ j, f = j + 1 := ⟨f - 1, by omega⟩
    obtain ⟨V', mo', O', r1, r2, r3, r4⟩ := pass_l (V0 := V) (ND := ND) (k := k) hNV hco (fun v2 v3 O => (X12_laysYet_j137 (fun v2 v3 O => X12_laysYet_l40 (f + 1) v2 v3 O) v2 v3 O)) 2048 0 FU V 0 O (by omega) (by unfold FU; omega) hV ⟨hy, fun _ _ => Nat.le_refl _, fun _ _ => Or.inl rfl, fun s b hs => absurd hs (by omega), Or.inl ⟨rfl, fun s b hs => absurd hs (by omega)⟩⟩
    rw [X12_laysYet_l40, if_neg n10, show (0 : Int32) = nI 0 from rfl, show X12_laysYet_l49 (fun v2 v3 O => (X12_laysYet_j137 (fun v2 v3 O => X12_laysYet_l40 (f + 1) v2 v3 O) v2 v3 O)) FU (nI NV) (nI 0) (nI 0) O = _ from r1]
    unfold X12_laysYet_j137
    obtain ⟨p1, p2, p3, p4, p5⟩ := r4
    rcases p5 with ⟨c1, c2⟩ | ⟨c1, c2⟩
    · rw [c1]
      show ∃ V' O'', X12_laysYet_l40 (f + 1) (nI NV) 0 O' = some O'' ∧ _
      rw [X12_laysYet_l40, if_pos rfl]
      exact ⟨V', O', rfl, r2, r3, p1, fun s b hs hv => c2 s b hs hs hv⟩
    · rw [c1]
      obtain ⟨V2, O2, q1, q2, q3, q4, q5⟩ := ih (k + 1) f V' O' (by omega) (by omega) r3 p1 (fun s b hs hv hlt => p4 s b hs hs hv (by omega))
      exact ⟨V2, O2, q1, r2.trans q2, q3, q4, q5⟩
