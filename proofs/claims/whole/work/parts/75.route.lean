/-! A way home: both in step -/
section
variable {NV ND x0 : Nat} {V : Nat → Nat}
theorem Fs_congr {n : Nat} {w w' : Nat → Bool} (h : ∀ i, i < n → w i = w' i) (hF : Fs NV ND x0 n w) : Fs NV ND x0 n w' := ⟨vldW_congr h hF.1, by rw [← stt_congr (s0N x0) n h]; exact hF.2⟩
/-- the shortest walks -/
theorem short_cw (hx : x0 < 8) (hy : YV NV ND V) (hf : ∀ s b, s < 2048 → vld1 NV s b → V s ≤ V (stN s b) + 1) {w : Nat → Bool} {n : Nat} (hF : Fs NV ND x0 n w) (hn : V (s0N x0) = n) (h1 : 1 ≤ n) : ∃ b a, 1 ≤ a ∧ a ≤ n ∧ w 0 = b ∧ (∀ i, i < n → w i = cw b a i) ∧ Fs NV ND x0 n (cw b a) := by
  obtain ⟨m1, m2, m3⟩ := min_walk hx hy hf hF.1 hF.2 hn
  cases h0 : w 0
  · obtain ⟨a, a1, a2, a3⟩ := K_down w n h1 m2 h0 m3
    exact ⟨false, a, a1, a2, rfl, a3, Fs_congr a3 hF⟩
  · obtain ⟨a, a1, a2, a3⟩ := K_up w n h1 m2 h0 m3
    exact ⟨true, a, a1, a2, rfl, a3, Fs_congr a3 hF⟩
theorem Fs_ge (hx : x0 < 8) (hy : YV NV ND V) (hf : ∀ s b, s < 2048 → vld1 NV s b → V s ≤ V (stN s b) + 1) {w : Nat → Bool} {n : Nat} (hF : Fs NV ND x0 n w) : V (s0N x0) ≤ n := by
  have hs0 := (s0N_div hx).2.2
  have h1 := walk_ge hy hf n _ w hs0 hF.1
  have h2 := hy.1 _ (stt_lt hs0 w n) hF.2
  omega
/-- what the reference picks at each step is what the class found first -/
theorem pick (hx : x0 < 8) (hy : YV NV ND V) (hf : ∀ s b, s < 2048 → vld1 NV s b → V s ≤ V (stN s b) + 1) {n t0 : Nat} {b : Bool} (hn : V (s0N x0) = n) (hn9 : n ≤ 9) (h1 : 1 ≤ n) (ht1 : 1 ≤ t0) (ht : t0 ≤ n) (hF : Fs NV ND x0 n (cw b t0))
    (hu : b = true → ∀ t', t0 < t' → t' ≤ n → ¬ Fs NV ND x0 n (cw true t')) (hd : b = false → (∀ t', 1 ≤ t' → t' ≤ n → ¬ Fs NV ND x0 n (cw true t')) ∧ ∀ t', 1 ≤ t' → t' < t0 → ¬ Fs NV ND x0 n (cw false t')) {k : Nat} (hk : k < n) :
    V (stt (s0N x0) (cw b t0) k) = n - k ∧ ((vld1 NV (stt (s0N x0) (cw b t0) k) true ∧ V (stN (stt (s0N x0) (cw b t0) k) true) + 1 = V (stt (s0N x0) (cw b t0) k)) ↔ cw b t0 k = true) := by
  have hs0 := (s0N_div hx).2.2
  have lo : ∀ j, j ≤ n → n ≤ V (stt (s0N x0) (cw b t0) j) + j := fun j hj => by
    have := walk_ge hy hf j _ (cw b t0) hs0 (fun i hi => hF.1 i (by omega))
    omega
  have up : ∀ d j, j + d = n → V (stt (s0N x0) (cw b t0) j) ≤ d := by
    intro d
    induction d with
    | zero =>
      intro j hj
      have : j = n := by omega
      subst this
      rw [hy.1 _ (stt_lt hs0 _ _) hF.2]
      exact Nat.le_refl _
    | succ d ih =>
      intro j hj
      have h1 := ih (j + 1) (by omega)
      have h2 := hf _ _ (stt_lt hs0 (cw b t0) j) (hF.1 j (by omega))
      have h3 : stt (s0N x0) (cw b t0) (j + 1) = stN (stt (s0N x0) (cw b t0) j) (cw b t0 j) := rfl
      rw [h3] at h1
      omega
  have hVk : V (stt (s0N x0) (cw b t0) k) = n - k := by
    have a1 := lo k (by omega)
    have a2 := up (n - k) k (by omega)
    omega
  refine ⟨hVk, fun ⟨hv, he⟩ => ?_, fun hc => ?_⟩
  · -- a walk that goes up at k
    by_cases hc : cw b t0 k = true
    · exact hc
    · exfalso
      obtain ⟨w2, z1, z2⟩ := walk_ex hy hf (n - k - 1) (stN (stt (s0N x0) (cw b t0) k) true) (stN_lt _ _) (by omega) (by omega)
      obtain ⟨w, hw⟩ : ∃ w : Nat → Bool, w = fun i => if i < k then cw b t0 i else if i = k then true else w2 (i - (k + 1)) := ⟨_, rfl⟩
      have w1 : ∀ i, i < k → w i = cw b t0 i := fun i hi => by rw [hw]; exact if_pos hi
      have wk : w k = true := by rw [hw]; show (if k < k then _ else if k = k then true else _) = true; rw [if_neg (by omega), if_pos rfl]
      have w3 : ∀ i, w (k + 1 + i) = w2 i := fun i => by
        rw [hw]
        show (if k + 1 + i < k then _ else if k + 1 + i = k then true else w2 (k + 1 + i - (k + 1))) = w2 i
        rw [if_neg (by omega), if_neg (by omega), Nat.add_sub_cancel_left]
      have ek : stt (s0N x0) w k = stt (s0N x0) (cw b t0) k := stt_congr _ k w1
      have ek1 : stt (s0N x0) w (k + 1) = stN (stt (s0N x0) (cw b t0) k) true := by
        show stN (stt (s0N x0) w k) (w k) = _
        rw [ek, wk]
      have et : ∀ i, stt (s0N x0) w (k + 1 + i) = stt (stN (stt (s0N x0) (cw b t0) k) true) w2 i := by
        intro i
        induction i with
        | zero => exact ek1
        | succ i ih =>
          show stN (stt (s0N x0) w (k + 1 + i)) (w (k + 1 + i)) = stN (stt (stN (stt (s0N x0) (cw b t0) k) true) w2 i) (w2 i)
          rw [ih, w3]
      have hFw : Fs NV ND x0 n w := by
        refine ⟨fun i hi => ?_, ?_⟩
        · by_cases c1 : i < k
          · rw [stt_congr (s0N x0) i (fun j hj => w1 j (by omega)), w1 i c1]; exact hF.1 i hi
          · by_cases c2 : i = k
            · rw [c2, ek, wk]; exact hv
            · obtain ⟨j, rfl⟩ : ∃ j, i = k + 1 + j := ⟨i - (k + 1), by omega⟩
              rw [et, w3]; exact z1 j (by omega)
        · have := et (n - k - 1)
          rw [show k + 1 + (n - k - 1) = n by omega] at this
          rw [this]; exact z2
      obtain ⟨b', a, a1, a2, a3, a4, a5⟩ := short_cw hx hy hf hFw hn h1
      have hcf : cw b t0 k = false := (Bool.not_eq_true _).mp hc
      have hka := a4 k hk
      rw [wk] at hka
      cases b
      · -- the class's goes down first
        obtain ⟨d1, d2⟩ := hd rfl
        have hkt : k < t0 := by
          by_cases c : k < t0
          · exact c
          · unfold cw at hcf
            rw [if_neg (by decide), decide_eq_false c] at hcf
            exact absurd hcf (by decide)
        cases b'
        · have hak : ¬ k < a := by
            intro h
            unfold cw at hka
            rw [if_neg (by decide), decide_eq_true h] at hka
            exact absurd hka (by decide)
          exact d2 a a1 (by omega) a5
        · exact d1 a a1 a2 a5
      · have hkt : ¬ k < t0 := by
          intro h
          unfold cw at hcf
          rw [if_pos rfl, decide_eq_true h] at hcf
          exact absurd hcf (by decide)
        cases b'
        · have e0 := w1 0 (by omega)
          rw [a3] at e0
          unfold cw at e0
          rw [if_pos rfl, decide_eq_true (by omega)] at e0
          exact absurd e0 (by decide)
        · have hak : k < a := by
            by_cases c : k < a
            · exact c
            · unfold cw at hka
              rw [if_pos rfl, decide_eq_false c] at hka
              exact absurd hka (by decide)
          exact hu rfl a (by omega) a2 a5
  · have h1 := hF.1 k hk
    rw [hc] at h1
    refine ⟨h1, ?_⟩
    have e : stt (s0N x0) (cw b t0) (k + 1) = stN (stt (s0N x0) (cw b t0) k) true := by
      show stN (stt (s0N x0) (cw b t0) k) (cw b t0 k) = _
      rw [hc]
    have a1 := lo (k + 1) (by omega)
    have a2 := up (n - (k + 1)) (k + 1) (by omega)
    rw [e] at a1 a2
    omega
theorem greedy_l {O : OM} {i n t0 : Nat} {b : Bool} (hNV : NV < 256) (hx : x0 < 8) (hy : YV NV ND V) (hf : ∀ s b, s < 2048 → vld1 NV s b → V s ≤ V (stN s b) + 1) (hV : ∀ s, s < 2048 → O.1 473 s = nI (V s)) (hn : V (s0N x0) = n) (hn9 : n ≤ 9) (h1 : 1 ≤ n) (ht1 : 1 ≤ t0) (ht : t0 ≤ n) (hF : Fs NV ND x0 n (cw b t0))
    (hu : b = true → ∀ t', t0 < t' → t' ≤ n → ¬ Fs NV ND x0 n (cw true t')) (hd : b = false → (∀ t', 1 ≤ t' → t' ≤ n → ¬ Fs NV ND x0 n (cw true t')) ∧ ∀ t', 1 ≤ t' → t' < t0 → ¬ Fs NV ND x0 n (cw false t')) (hi : i < n) :
    ∀ d k f v5, k + d = i + 1 → d < f → (0 < k → v5 = wy (cw b t0 (k - 1))) → X12_route_l122 f (nI i) (nI NV) (nI (stt (s0N x0) (cw b t0) k)) v5 (nI k) O = some (wy (cw b t0 i), O) := by
  have hs0 := (s0N_div hx).2.2
  intro d
  induction d with
  | zero =>
    intro k f v5 hk hf' hv
    obtain ⟨f, rfl⟩ : ∃ j, f = j + 1 := ⟨f - 1, by omega⟩
    rw [X12_route_l122, if_pos (nI_lt (by omega) (by omega)), hv (by omega), show k - 1 = i by omega]
  | succ d ih =>
    intro k f v5 hk hf' hv
    obtain ⟨f, rfl⟩ : ∃ j, f = j + 1 := ⟨f - 1, by omega⟩
    have hsl := stt_lt hs0 (cw b t0) k
    have hst := stN_lt (stt (s0N x0) (cw b t0) k) true
    obtain ⟨p1, p2⟩ := pick hx hy hf hn hn9 h1 ht1 ht hF hu hd (show k < n by omega)
    have e1 : f_X12_stepTo (nI (stt (s0N x0) (cw b t0) k)) 1 = nI (stN (stt (s0N x0) (cw b t0) k) true) := stepN hsl true
    have e2 : f_X12_stepTo (nI (stt (s0N x0) (cw b t0) k)) (-1) = nI (stN (stt (s0N x0) (cw b t0) k) false) := stepN hsl false
    have h99 := hy.2.2.1 _ hst
    have next : ∀ c, cw b t0 k = c → X12_route_l122 f (nI i) (nI NV) (nI (stN (stt (s0N x0) (cw b t0) k) c)) (wy c) (nI (k + 1)) O = some (wy (cw b t0 i), O) := by
      intro c hc
      have := ih (k + 1) f (wy c) (by omega) (by omega) (fun _ => by rw [Nat.add_sub_cancel, hc])
      rw [show stt (s0N x0) (cw b t0) (k + 1) = stN (stt (s0N x0) (cw b t0) k) (cw b t0 k) from rfl, hc] at this
      exact this
    rw [X12_route_l122, if_neg (nI_nlt (by omega) (by omega)), e1, has_place hNV true]
    unfold X12_route_j172 X12_route_j173
    rw [e1, e2, nI_1]
    by_cases g : bt NV (plc (stt (s0N x0) (cw b t0) k / 256) true) = true
    · rw [if_pos g, if_neg n10]
      refine next false ((Bool.not_eq_true _).mp (fun hc => ?_))
      have := (p2.mpr hc).1
      unfold vld1 at this
      rw [g] at this; exact absurd this (by decide)
    · rw [if_neg g, if_pos rfl, gd_p (inbN hst (by decide)), gd_p (inbN hsl (by decide)), nI_clamp (show stt (s0N x0) (cw b t0) k < 2 ^ 31 by omega), nI_clamp (show stN (stt (s0N x0) (cw b t0) k) true < 2 ^ 31 by omega), hV _ hst, hV _ hsl, p1]
      obtain ⟨m, hm⟩ : ∃ m, n - k = m + 1 := ⟨n - k - 1, by omega⟩
      rw [hm, nI_pred]
      by_cases e : V (stN (stt (s0N x0) (cw b t0) k) true) = m
      · rw [e, if_pos rfl]
        exact next true (p2.mp ⟨(Bool.not_eq_true _).mp g, by rw [p1, e, hm]⟩)
      · rw [if_neg (fun h => e ((nI_eq (by omega) (by omega)).mp h))]
        refine next false ((Bool.not_eq_true _).mp (fun hc => e ?_))
        have := (p2.mpr hc).2
        rw [p1, hm] at this
        omega
end
theorem opp_route : op_route Rel := by
  intro C O h v w
  obtain ⟨n, t, m, e, n', t', m', e', h'⟩ := h
  have hn : C 6 0 = nI n := h'.1.2.1.1
  have h7 := h'.1.1.1
  have hA := h'.1.2.1.2.1
  unfold f_X11_route f_X12_route
  rcases one_cases hn h7 hA v with ⟨a1, a2, a3⟩ | ⟨p, hp, rfl, a1, a2⟩
  · rw [outN hn a3, bnd_s, if_pos rfl, a2, bnd_s, if_pos rfl]
    exact ⟨_, _, _, rfl, rfl, h'.rel⟩
  have hi : C (6 + 3) p = O.1 447 (54 + p) := by
    rw [show 54 + p = 40 + (14 + p) by omega]; exact h'.1.2.2.2.2.2.1.1.2.2.2.2.2.1 p (by omega)
  obtain ⟨g, hg, eg⟩ := h'.1.2.2.2.2.2.1.2.2.2.2.2.1 p (by omega)
  have eg' : O.1 447 (54 + p) = nI g := by rw [show 54 + p = 40 + (14 + p) by omega]; exact eg
  have e54 : (54 : Int32) + nI p = nI (54 + p) := nI_add 54 p
  rw [outY hn h7 hp, bnd_s, a2, bnd_s, hi, e54, gd_p (inbN (show 54 + p < 5130 by omega) (by decide)), nI_clamp (show 54 + p < 2 ^ 31 by omega), eg', if_neg n10]
  by_cases c0 : ¬ g = 0
  · rw [if_neg (nI_ne0 (by omega) (by omega)), if_pos rfl, if_neg (nI_nle (by omega) (by omega))]
    exact ⟨_, _, _, rfl, by split <;> rfl, h'.rel⟩
  have c0 : g = 0 := by omega
  subst c0
  rw [if_pos (show nI 0 = 0 from rfl), if_neg n10, if_pos (show nI 0 ≤ 0 from Int32.le_refl _)]
  obtain ⟨O1, l1, l2, l3, l4, l5, l6⟩ := lay_rel h'
  obtain ⟨x0, nd, nv, C1, hx, hnd, hnv, ex, k1, k2, k3, k4, k5, k6, k7⟩ := look_both l5 hp
  obtain ⟨V, O2, y1, y2, y3, y4, y5⟩ := laysYet (O := O1) hnv hnd
  have hs0 := s0N_div hx
  have cf : CFm nv nd x0 C C1 := ⟨k2, k3, k4, k5⟩
  obtain ⟨D0, d1, d2, d3⟩ := reach (b := true) (n := 0) (t := 0) hx hnv hnd cf (by decide) (by decide)
  have i7 : (7 : Int32) + nI p = nI (7 + p) := nI_add 7 p
  have ex2 : O2.1 470 (7 + p) = nI x0 := by rw [y2 470 (by decide)]; exact ex
  have es : (256 : Int32) * nI x0 + nI (2 ^ x0) = nI (s0N x0) := by rw [show (256 : Int32) = nI 256 from rfl, pk_mul, nI_add]; rfl
  have eV := y3 _ hs0.2.2
  have h99 := y4.2.2.1 _ hs0.2.2
  have relC : ∀ (D : CM) (n1 : Nat) (b : Bool) (t0 : Nat), FDm nv nd x0 C D n1 b t0 → RelX n t m e n' t' m' e' D O := fun D n1 b t0 hD => h'.scr (fun c hc => hD.1.1 c (by omega)) (fun _ _ _ => rfl)
  have relB : ∀ (D : CM), (∀ c, c ≠ 413 → D c = C c) → RelX n t m e n' t' m' e' D O2 := fun D hD => (l4.scr (C1 := D) (fun c hc => hD c (by omega)) (fun _ _ _ => rfl)).scr (fun _ _ => rfl) (fun c c1 _ => y2 c c1)
  -- what the class finds
  have find : (∃ n1 b t0 D, V (s0N x0) = n1 ∧ n1 ≤ 9 ∧ (1 ≤ n1 → 1 ≤ t0 ∧ t0 ≤ n1 ∧ Fs nv nd x0 n1 (cw b t0) ∧ (b = true → ∀ t', t0 < t' → t' ≤ n1 → ¬ Fs nv nd x0 n1 (cw true t')) ∧ (b = false → (∀ t', 1 ≤ t' → t' ≤ n1 → ¬ Fs nv nd x0 n1 (cw true t')) ∧ ∀ t', 1 ≤ t' → t' < t0 → ¬ Fs nv nd x0 n1 (cw false t'))) ∧ t0 < 1000 ∧ f_X0_find 6 (nI p) C = some (1, D) ∧ FDm nv nd x0 C D n1 b t0) ∨
      (∃ D, V (s0N x0) = 99 ∧ f_X0_find 6 (nI p) C = some (0, D) ∧ ∀ c, c ≠ 413 → D c = C c) := by
    unfold f_X0_find
    rw [k1, bnd_s]
    have d2' : Fs nv nd x0 0 (cw true 0) → f_X0_reaches 0 1 0 C1 = some (1, D0) := d2
    have d3' : ¬ Fs nv nd x0 0 (cw true 0) → f_X0_reaches 0 1 0 C1 = some (0, D0) := d3
    by_cases c : Fs nv nd x0 0 (cw true 0)
    · rw [d2' c, bnd2_s, if_neg n10]
      refine Or.inl ⟨0, true, 0, D0, ?_, by decide, fun h => absurd h (by decide), by decide, rfl, d1⟩
      have := Fs_ge hx y4 y5 c
      omega
    · rw [d3' c, bnd2_s, if_pos rfl]
      have hV0 : 1 ≤ V (s0N x0) := by
        refine y4.2.1 _ hs0.2.2 (fun hg => c ⟨fun i hi => absurd hi (by omega), hg⟩)
      have hshort : V (s0N x0) < 99 → ∃ b a, V (s0N x0) ≤ 9 ∧ 1 ≤ a ∧ a ≤ V (s0N x0) ∧ Fs nv nd x0 (V (s0N x0)) (cw b a) := by
        intro hlt
        obtain ⟨w, z1, z2⟩ := walk_ex y4 y5 _ _ hs0.2.2 rfl hlt
        obtain ⟨b, a, q1, q2, -, -, q3⟩ := short_cw hx y4 y5 ⟨z1, z2⟩ rfl hV0
        exact ⟨b, a, (min_walk hx y4 y5 z1 z2 rfl).1, q1, q2, q3⟩
      rcases find_l (C0 := C) hx hnv hnd 9 1 FU D0 (by decide) (by decide) (by decide) d1.1 (fun n' a b => absurd a (by omega)) with ⟨n1, b, t0, D, q1, q2, q3, q4, q5, q6, q7, q8, q9, q10⟩ | ⟨D, q1, q2, q3⟩
      · refine Or.inl ⟨n1, b, t0, D, ?_, q2, fun _ => ⟨q3, q4, q5, q6, q7⟩, by omega, q9, q10⟩
        have h1 := Fs_ge hx y4 y5 q5
        by_cases c2 : V (s0N x0) = n1
        · exact c2
        · obtain ⟨b', a, r1, r2, r3, r4⟩ := hshort (by omega)
          exact absurd r4 (q8 _ hV0 (by omega) a b' r2 r3)
      · refine Or.inr ⟨D, ?_, q3, q1.1⟩
        by_cases c2 : V (s0N x0) = 99
        · exact c2
        · obtain ⟨b', a, r1, r2, r3, r4⟩ := hshort (by omega)
          exact absurd r4 (q2 _ hV0 r1 a b' r2 r3)
  have pre : ∀ X : Option (Int32 × OM), (bnd (f_X12_laysNow O) fun O6 => bnd (f_X12_placesOf (nI p) 0 O6) fun r7 => bnd (f_X12_placesOf (nI p) 1 O6) fun r8 => bnd (f_X12_laysYet r8 r7 O6) fun O9 => X) = X := fun X => by
    rw [l1, bnd_s, k6, bnd_s, k7, bnd_s, y1, bnd_s]
  by_cases cw2 : w < -1
  · rw [if_pos cw2]
    have hw1 : ¬ w = -1 := fun e => by rw [e] at cw2; exact absurd cw2 (by decide)
    rcases find with ⟨n1, b, t0, D, -, f2, -, -, f5, f6⟩ | ⟨D, -, f2, f3⟩
    · rw [f5, bnd2_s, if_neg n10, if_neg hw1, f6.2.1]
      have wz : f_X11_within w 0 (nI n1 - 1) = 0 := by
        unfold f_X11_within
        rw [if_pos (Int32.lt_of_lt_of_le cw2 (by decide))]
      rw [wz, if_pos rfl]
      exact ⟨_, D, O, rfl, rfl, (relC D n1 b t0 f6).rel⟩
    · rw [f2, bnd2_s, if_pos rfl]
      exact ⟨_, D, O, rfl, rfl, (h'.scr (C1 := D) (O1 := O) (fun c hc => f3 c (by omega)) (fun _ _ _ => rfl)).rel⟩
  rw [if_neg cw2, l1, bnd_s, k6, bnd_s, k7, bnd_s, y1, bnd_s, i7, gd_p (inbN (show 7 + p < 164 by omega) (by decide)), gd_p (inbN (show 7 + p < 164 by omega) (by decide)), nI_clamp (show 7 + p < 2 ^ 31 by omega), ex2, sh8 x0 hx, es, gd_p (inbN hs0.2.2 (by decide)), gd_p (inbN hs0.2.2 (by decide)), gd_p (inbN hs0.2.2 (by decide)), nI_clamp (show s0N x0 < 2 ^ 31 by have := hs0.2.2; omega), eV]
  rcases find with ⟨n1, b, t0, D, f1, f2, f3, f4, f5, f6⟩ | ⟨D, f1, f2, f3⟩
  · rw [f1, if_neg (show ¬ nI n1 = 99 from fun e => by have := (nI_eq (b := 99) (by omega) (by decide)).mp e; omega), f5, bnd2_s, if_neg n10, f6.2.1]
    by_cases cm : w = -1
    · rw [if_pos cm, if_pos (show w < nI n1 by rw [cm, Int32.lt_iff_toInt_lt, nI_toInt (by omega)]; exact Int.lt_of_lt_of_le (by decide) (Int.natCast_nonneg n1)), if_pos cm]
      exact ⟨_, D, O2, rfl, rfl, (relB D f6.1.1).rel⟩
    · rw [if_neg cm, if_neg cm]
      rcases wi_n (n := n1) (by omega) w with ⟨w1, w2⟩ | ⟨i, hi, rfl, w1⟩
      · rw [w1, if_pos rfl]
        have hge : ¬ w < nI n1 := by
          rcases w2 with w2 | w2
          · exfalso
            rw [Int32.lt_iff_toInt_lt, show (0 : Int32).toInt = 0 from rfl] at w2
            rw [Int32.lt_iff_toInt_lt, show (-1 : Int32).toInt = -1 from rfl] at cw2
            exact cm (Int32.toInt_inj.mp (show w.toInt = (-1 : Int32).toInt by rw [show (-1 : Int32).toInt = -1 from rfl]; omega))
          · exact fun h => Int32.lt_irrefl (Int32.lt_of_lt_of_le h w2)
        rw [if_neg hge]
        exact ⟨_, D, O2, rfl, rfl, (relB D f6.1.1).rel⟩
      · obtain ⟨g1, g2, g3, g4, g5⟩ := f3 (by omega)
        rw [w1, if_neg n10, if_pos (nI_lt hi (by omega)), step_cw f6.2.2.1 f6.2.2.2 f4 (by omega)]
        have hgr := greedy_l hnv hx y4 y5 y3 f1 f2 (by omega) g1 g2 g3 g4 g5 hi (i + 1) 0 FU 1 (by omega) (by unfold FU; omega) (fun h => absurd h (by omega))
        rw [show stt (s0N x0) (cw b t0) 0 = s0N x0 from rfl] at hgr
        refine ⟨_, D, O2, rfl, hgr, (relB D f6.1.1).rel⟩
  · rw [f1, if_pos (show nI 99 = 99 from rfl), f2, bnd2_s, if_pos rfl]
    exact ⟨_, D, O2, rfl, rfl, (relB D f3).rel⟩
