theorem oupJ_row {O : OM} {h : Nat} {y : Int64} : (oupJ O 472 h y).2 472 = vp_updL (O.2 472) h y := by simp [oupJ]
theorem StkR_one {t u : Bool} {σ : List Bool} {f f' : Nat → Int32} {g g' : Nat → Int64} {x : Int32} {y : Int64} (h : StkR (t :: σ) f g) (hf : f' = upd f σ.length x) (hg : g' = vp_updL g σ.length y) (hv : VR u x y) : StkR (u :: σ) f' g' := by
  subst hf hg
  exact StkR_push h.2 hv
theorem la_sc {q sc : Nat} (hsc : sc = 383 ∨ sc = 407 ∨ 422 ≤ sc) (k : Nat) (hk : k = 1 ∨ k = 2 ∨ k = 3) : sc + k ≠ laI q ∧ sc + k ≠ laI q + 2 ∧ sc + k ≠ laI q + 1 := by
  unfold laI
  split <;> omega
theorem run_both {q sc a fr len L : Nat} {C : CM} {O : OM} {dp : Nat → List Bool} (hsc : sc = 383 ∨ sc = 407 ∨ 422 ≤ sc)
    (hlen : a + len ≤ 300) (hfr : fr + len < 1600) (hend : O.1 456 (fr + len) = nI 408) (hdl : dp len = [false]) (h64 : ∀ i, i ≤ len → (dp i).length ≤ 64)
    (hins : ∀ i, i < len → Ins a fr i len L dp (C (sc + 1) (a + i)) (O.1 456 (fr + i)) (O.1 457 (fr + i)))
    (hnm : ∀ t, t < 10 → mayL L t = true → VR false (C (laI q + 1) t) (O.1 471 (nmR t)).toInt64)
    (how : ∀ x y x' y' C1 O1, VR false x x' → VR false y y' → FrS q C C1 → O1.1 = O.1 → ∃ z z', f_X7_owed (stI q) x y C1 = some z ∧ f_X12_worked (nI 403) x' y' O1 = some z' ∧ VR false z z') :
    ∀ d i n m lft C1 O1, i + d = len → d < n → d < m → d ≤ lft → lft + 1 < 2 ^ 31 → FrS q C C1 → O1.1 = O.1 → C1 (laI q) 4 = nI (dp i).length → StkR (dp i) (C1 (laI q + 2)) (O1.2 472) →
      ∃ C2 O2 x y, X1_run_l34 q (fun C => (X1_run_j254 q C)) n sc (nI (a + i)) (nI (a + len)) (nI (lft + 1)) C1 = some (x, C2) ∧ X12_saysOf_l4 (fun O => (X12_saysOf_j234 O)) m (nI (dp i).length) (nI (fr + i)) O1 = some (y, O2) ∧ FrS q C C2 ∧ O2.1 = O.1 ∧ VR false x y := by
  intro d
  induction d using Nat.strongRecOn with
  | ind d ih =>
    intro i n m lft C1 O1 hi hn hm hl hl2 hC hO ht hs
    obtain ⟨n', rfl⟩ : ∃ n', n = n' + 1 := ⟨n - 1, by omega⟩
    obtain ⟨m', rfl⟩ : ∃ m', m = m' + 1 := ⟨m - 1, by omega⟩
    by_cases d0 : d = 0
    · have hil : i = len := by omega
      subst hil
      rw [hdl] at ht hs
      refine ⟨PO q C1 0, O1, C1 (laI q + 2) 0, O1.2 472 0, ?_, rr_end hfr (by rw [hO]; exact hend), hC.trans PO_fr, hO, hs.1⟩
      rw [X1_run_l34]
      rw [if_neg (nI_nle (by omega) hl2), if_pos (nI_le (Nat.le_refl _) (by omega))]
      show X1_run_j254 q C1 = _
      unfold X1_run_j254
      rw [pop1 (h := 0) ht (by decide)]; rfl
    · obtain ⟨l', rfl⟩ : ∃ l', lft = l' + 1 := ⟨lft - 1, by omega⟩
      have hil : i < len := by omega
      have hp1 : a + i < a + len := by omega
      have hl3 : l' + 1 + 1 < 2 ^ 31 := hl2
      have hf1 : fr + i < 1600 := by omega
      obtain ⟨s1, s2, -⟩ := la_sc (q := q) hsc 1 (Or.inl rfl)
      have hcc : C1 (sc + 1) (a + i) = C (sc + 1) (a + i) := by rw [hC.1 _ s1 s2]
      have ho : O1.1 456 (fr + i) = O.1 456 (fr + i) := by rw [hO]
      have hv : O1.1 457 (fr + i) = O.1 457 (fr + i) := by rw [hO]
      have h64' := h64 (i + 1) (by omega)
      have h64i := h64 i (by omega)
      have go : ∀ i' C1' O1', i < i' → i' ≤ len → FrS q C C1' → O1'.1 = O.1 → C1' (laI q) 4 = nI (dp i').length → StkR (dp i') (C1' (laI q + 2)) (O1'.2 472) →
          ∃ C2 O2 x y, X1_run_l34 q (fun C => (X1_run_j254 q C)) n' sc (nI (a + i')) (nI (a + len)) (nI (l' + 1)) C1' = some (x, C2) ∧ X12_saysOf_l4 (fun O => (X12_saysOf_j234 O)) m' (nI (dp i').length) (nI (fr + i')) O1' = some (y, O2) ∧ FrS q C C2 ∧ O2.1 = O.1 ∧ VR false x y :=
        fun i' C1' O1' a1 a2 a3 a4 a5 a6 => ih (len - i') (by omega) i' n' m' l' C1' O1' (by omega) (by omega) (by omega) (by omega) (by omega) a3 a4 a5 a6
      rcases hins i hil with ⟨k, hk, e1, e2, e3, e4⟩ | ⟨t, ht1, ht2, e1, e2, e3, e4⟩ | ⟨k, σ, hk, e1, e2, e3, e4⟩ | ⟨k, k2, σ, hk, e1, e2, e3, e4⟩ | ⟨k, k2, σ, hk, e1, e2, e3, e4⟩ | ⟨σ, e1, e2, e3, e4⟩ | ⟨σ, e1, e2, e3, e4⟩ | ⟨σ, e1, e2, e3, e4⟩ | ⟨j, σ, hj1, hj2, e1, e2, e3, e4, e5, e6⟩ | ⟨j, hj1, hj2, e1, e2, e3, e4⟩
      · have hL : (dp i).length + 1 ≤ 64 := by rw [e4] at h64'; exact h64'
        obtain ⟨C2, O2, x, y, r1, r2, r3⟩ := go (i + 1) (PU q C1 (dp i).length (nI k)) (oupJ O1 472 (dp i).length (nI k).toInt64) (by omega) (by omega) (hC.trans PU_fr) hO (by rw [PU_top, e4]; rfl) (by rw [e4, PU_row, oupJ_row]; exact StkR_push hs (VR_nI (by omega)))
        refine ⟨C2, O2, x, y, ?_, ?_, r3⟩
        · rw [rc_num hp1 hlen hl3 hk (hcc.trans e1) ht (by omega)]; exact r1
        · rw [rr_num hf1 (ho.trans e2) (hv.trans e3) (by omega)]; rw [e4] at r2; exact r2
      · have hL : (dp i).length + 1 ≤ 64 := by rw [e4] at h64'; exact h64'
        have hn1 : C1 (laI q + 1) = C (laI q + 1) := hC.1 _ (by omega) (by omega)
        have hn2 : O1.1 471 = O.1 471 := by rw [hO]
        have hnr : nmR t < 10 := by
          have : ∀ t, t < 10 → nmR t < 10 := by decide
          exact this t ht1
        obtain ⟨C2, O2, x, y, r1, r2, r3⟩ := go (i + 1) (PU q C1 (dp i).length (C1 (laI q + 1) t)) (oupJ O1 472 (dp i).length (O1.1 471 (nmR t)).toInt64) (by omega) (by omega) (hC.trans PU_fr) hO (by rw [PU_top, e4]; rfl) (by rw [e4, PU_row, oupJ_row, hn1, hn2]; exact StkR_push hs (hnm t ht1 ht2))
        refine ⟨C2, O2, x, y, ?_, ?_, r3⟩
        · rw [rc_name hp1 hlen hl3 ht1 (hcc.trans e1) ht (by omega)]; exact r1
        · rw [rr_name hf1 (ho.trans e2) (hv.trans e3) hnr (by omega)]; rw [e4] at r2; exact r2
      · have hL : σ.length + 2 ≤ 64 := by rw [e3] at h64i; exact h64i
        have hs' := hs
        rw [e3] at hs'
        have ht' : C1 (laI q) 4 = nI (σ.length + 2) := by rw [ht, e3]; rfl
        obtain ⟨z, z', g1, g2, g3⟩ := op_ar (O := O1) hs'.2.1 hs'.1 k hk
        obtain ⟨C2, O2, x, y, r1, r2, r3⟩ := go (i + 1) (PU q (PO q (PO q C1 (σ.length + 1)) σ.length) σ.length z) (oupJ O1 472 σ.length z') (by omega) (by omega) (((hC.trans PO_fr).trans PO_fr).trans PU_fr) hO (by rw [PU_top, e4]; rfl) (by rw [e4, PU_row, oupJ_row, PO_row, PO_row]; exact StkR_push hs'.2.2 g3)
        refine ⟨C2, O2, x, y, ?_, ?_, r3⟩
        · rw [rc_bin hp1 hlen hl3 (hcc.trans e1) (by omega) (by omega) ht' (by omega) g1]; exact r1
        · rw [e3]; show X12_saysOf_l4 _ _ (nI (σ.length + 2)) _ _ = _
          rw [rr_bin hf1 (ho.trans e2) (by omega) (by omega) (by omega) g2]; rw [e4] at r2; exact r2
      · have hL : σ.length + 2 ≤ 64 := by rw [e3] at h64i; exact h64i
        have hs' := hs
        rw [e3] at hs'
        have ht' : C1 (laI q) 4 = nI (σ.length + 2) := by rw [ht, e3]; rfl
        have hkk : k ≤ 62 ∧ 4 ≤ k ∧ k2 ≤ 301 := by
          rcases hk with h | h | h | h | h | h <;> (injection h with h1 h2; omega)
        obtain ⟨z, z', g1, g2, g3⟩ := op_cm (O := O1) hs'.2.1 hs'.1 k k2 hk
        obtain ⟨C2, O2, x, y, r1, r2, r3⟩ := go (i + 1) (PU q (PO q (PO q C1 (σ.length + 1)) σ.length) σ.length z) (oupJ O1 472 σ.length z') (by omega) (by omega) (((hC.trans PO_fr).trans PO_fr).trans PU_fr) hO (by rw [PU_top, e4]; rfl) (by rw [e4, PU_row, oupJ_row, PO_row, PO_row]; exact StkR_push hs'.2.2 g3)
        refine ⟨C2, O2, x, y, ?_, ?_, r3⟩
        · rw [rc_bin hp1 hlen hl3 (hcc.trans e1) (by omega) (by omega) ht' (by omega) g1]; exact r1
        · rw [e3]; show X12_saysOf_l4 _ _ (nI (σ.length + 2)) _ _ = _
          rw [rr_bin hf1 (ho.trans e2) (by omega) (by omega) (by omega) g2]; rw [e4] at r2; exact r2
      · have hL : σ.length + 2 ≤ 64 := by rw [e3] at h64i; exact h64i
        have hs' := hs
        rw [e3] at hs'
        have ht' : C1 (laI q) 4 = nI (σ.length + 2) := by rw [ht, e3]; rfl
        have hkk : (k = 152 ∨ k = 153) ∧ (k2 = 406 ∨ k2 = 407) := by
          rcases hk with h | h <;> (injection h with h1 h2; omega)
        obtain ⟨z, z', g1, g2, g3⟩ := op_bo (O := O1) hs'.2.1 hs'.1 k k2 hk
        obtain ⟨C2, O2, x, y, r1, r2, r3⟩ := go (i + 1) (PU q (PO q (PO q C1 (σ.length + 1)) σ.length) σ.length z) (oupJ O1 472 σ.length z') (by omega) (by omega) (((hC.trans PO_fr).trans PO_fr).trans PU_fr) hO (by rw [PU_top, e4]; rfl) (by rw [e4, PU_row, oupJ_row, PO_row, PO_row]; exact StkR_push hs'.2.2 g3)
        refine ⟨C2, O2, x, y, ?_, ?_, r3⟩
        · rw [rc_bin hp1 hlen hl3 (hcc.trans e1) (by omega) (by omega) ht' (by omega) g1]; exact r1
        · rw [e3]; show X12_saysOf_l4 _ _ (nI (σ.length + 2)) _ _ = _
          rw [rr_bin hf1 (ho.trans e2) (by omega) (by omega) (by omega) g2]; rw [e4] at r2; exact r2
      · have hL : σ.length + 2 ≤ 64 := by rw [e3] at h64i; exact h64i
        have hs' := hs
        rw [e3] at hs'
        have ht' : C1 (laI q) 4 = nI (σ.length + 2) := by rw [ht, e3]; rfl
        obtain ⟨z, z', g1, g2, g3⟩ := how _ _ _ _ (PO q (PO q C1 (σ.length + 1)) σ.length) O1 hs'.2.1 hs'.1 ((hC.trans PO_fr).trans PO_fr) hO
        obtain ⟨C2, O2, x, y, r1, r2, r3⟩ := go (i + 1) (PU q (PO q (PO q C1 (σ.length + 1)) σ.length) σ.length z) (oupJ O1 472 σ.length z') (by omega) (by omega) (((hC.trans PO_fr).trans PO_fr).trans PU_fr) hO (by rw [PU_top, e4]; rfl) (by rw [e4, PU_row, oupJ_row, PO_row, PO_row]; exact StkR_push hs'.2.2 g3)
        refine ⟨C2, O2, x, y, ?_, ?_, r3⟩
        · rw [rc_owed hp1 hlen hl3 (hcc.trans e1) ht' (by omega) g1]; exact r1
        · rw [e3]; show X12_saysOf_l4 _ _ (nI (σ.length + 2)) _ _ = _
          rw [rr_bin hf1 (ho.trans e2) (by omega) (by omega) (by omega) g2]; rw [e4] at r2; exact r2
      · have hL : σ.length + 1 ≤ 64 := by rw [e3] at h64i; exact h64i
        have hs' := hs
        rw [e3] at hs'
        have ht' : C1 (laI q) 4 = nI (σ.length + 1) := by rw [ht, e3]; rfl
        obtain ⟨C2, O2, x, y, r1, r2, r3⟩ := go (i + 1) (PU q (PO q C1 σ.length) σ.length (-C1 (laI q + 2) σ.length)) (oupJ O1 472 σ.length (-(O1.2 472 σ.length))) (by omega) (by omega) ((hC.trans PO_fr).trans PU_fr) hO (by rw [PU_top, e4]; rfl) (by rw [e4, PU_row, oupJ_row, PO_row]; exact StkR_push hs'.2 (VR_neg hs'.1))
        refine ⟨C2, O2, x, y, ?_, ?_, r3⟩
        · rw [rc_neg hp1 hlen hl3 (hcc.trans e1) ht' (by omega)]; exact r1
        · rw [e3]; show X12_saysOf_l4 _ _ (nI (σ.length + 1)) _ _ = _
          rw [rr_neg hf1 (ho.trans e2) (by omega)]; rw [e4] at r2; exact r2
      · have hL : σ.length + 1 ≤ 64 := by rw [e3] at h64i; exact h64i
        have hs' := hs
        rw [e3] at hs'
        have ht' : C1 (laI q) 4 = nI (σ.length + 1) := by rw [ht, e3]; rfl
        obtain ⟨C2, O2, x, y, r1, r2, r3⟩ := go (i + 1) (PU q (PO q C1 σ.length) σ.length (1 - C1 (laI q + 2) σ.length)) (oupJ O1 472 σ.length (1 - (O1.2 472 σ.length))) (by omega) (by omega) ((hC.trans PO_fr).trans PU_fr) hO (by rw [PU_top, e4]; rfl) (by rw [e4, PU_row, oupJ_row, PO_row]; exact StkR_push hs'.2 (VR_not hs'.1))
        refine ⟨C2, O2, x, y, ?_, ?_, r3⟩
        · rw [rc_not hp1 hlen hl3 (hcc.trans e1) ht' (by omega)]; exact r1
        · rw [e3]; show X12_saysOf_l4 _ _ (nI (σ.length + 1)) _ _ = _
          rw [rr_not hf1 (ho.trans e2) (by omega)]; rw [e4] at r2; exact r2
      · have hL : σ.length + 1 ≤ 64 := by rw [e4] at h64i; exact h64i
        have hs' := hs
        rw [e4] at hs'
        have ht' : C1 (laI q) 4 = nI (σ.length + 1) := by rw [ht, e4]; rfl
        obtain ⟨j', rfl⟩ : ∃ j', j = j' + 1 := ⟨j - 1, by omega⟩
        rcases VRt hs'.1 with ⟨c1, c2⟩ | ⟨c1, c2⟩
        · obtain ⟨C2, O2, x, y, r1, r2, r3⟩ := go (j' + 1) (PO q C1 σ.length) O1 hj1 hj2 (hC.trans PO_fr) hO (by rw [PO_top, e6]) (by rw [e6, PO_row]; exact hs'.2)
          refine ⟨C2, O2, x, y, ?_, ?_, r3⟩
          · rw [rc_then hp1 hlen hl3 (by omega) (hcc.trans e1) ht' (by omega), if_pos c1]; exact r1
          · rw [e4]; show X12_saysOf_l4 _ _ (nI (σ.length + 1)) _ _ = _
            rw [rr_if (j := fr + j') hf1 (ho.trans e2) (hv.trans e3) (by omega), if_pos c2]; rw [e6] at r2; exact r2
        · obtain ⟨C2, O2, x, y, r1, r2, r3⟩ := go (i + 1) (PO q C1 σ.length) O1 (by omega) (by omega) (hC.trans PO_fr) hO (by rw [PO_top, e5]) (by rw [e5, PO_row]; exact hs'.2)
          refine ⟨C2, O2, x, y, ?_, ?_, r3⟩
          · rw [rc_then hp1 hlen hl3 (by omega) (hcc.trans e1) ht' (by omega), if_neg (by rw [c1]; decide)]; exact r1
          · rw [e4]; show X12_saysOf_l4 _ _ (nI (σ.length + 1)) _ _ = _
            rw [rr_if (j := fr + j') hf1 (ho.trans e2) (hv.trans e3) (by omega), if_neg (by rw [c2]; decide)]; rw [e5] at r2; exact r2
      · obtain ⟨j', rfl⟩ : ∃ j', j = j' + 1 := ⟨j - 1, by omega⟩
        obtain ⟨C2, O2, x, y, r1, r2, r3⟩ := go (j' + 1) C1 O1 hj1 hj2 hC hO (by rw [ht, e4]) (by rw [e4]; exact hs)
        refine ⟨C2, O2, x, y, ?_, ?_, r3⟩
        · rw [rc_else hp1 hlen hl3 (by omega) (hcc.trans e1)]; exact r1
        · rw [rr_else (j := fr + j') hf1 (ho.trans e2) (hv.trans e3)]; rw [e4] at r2; exact r2
