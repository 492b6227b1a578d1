/-! The reader: any clause; all clauses -/
theorem clause_s {L : Nat} {b : Nat → Nat} {s a nc : Nat} {C : CM} {O : OM} (h : CLZ L b s a nc C O) (hn : ¬ C 404 2 = 1) :
    ∃ C1, f_X4_readClause C = some C1 ∧ GR C C1 ∧ (EG (PT s + 1) C O C1 ∨ ∃ O1 s1 a1, RC (PT s + 1) O (PT s1 + 1) O1 ∧ CLZ L b s1 a1 (nc + 1) C1 O1 ∧ GQ O O1 ∧ s < s1) := by
  have h0 := h
  obtain ⟨ts, ⟨f1, f2, g1, g2⟩, ⟨st, op, fn, wn⟩, ⟨c5, c6, o30, o37⟩, ⟨b1, b2, b3⟩, tcs, tls⟩ := h0
  have hle := ts.le
  have er : ∀ (v : Nat) (Oa : OM), Oa.1 446 19 = 0 → Oa.1 446 16 = nI s → f_X12_errs (nI v) Oa = some (oup (oup Oa 446 19 (nI v)) 446 20 (nI s)) := fun v Oa h1 h2 => errs_v h1 h2
  rcases word_cs ts with ⟨w, hw, hc, h17, h18⟩ | ⟨k1, k2⟩
  · have gq : GQ O (oup O 446 31 (nI w)) := GQ.o (by omega)
    have a19 : (oup O 446 31 (nI w)).1 446 19 = 0 := by rw [o2n (by decide)]; exact g1
    have a16 : (oup O 446 31 (nI w)).1 446 16 = nI s := by rw [o2n (by decide)]; exact ts.at.2
    have a30 : (oup O 446 31 (nI w)).1 446 30 = nI nc := by rw [o2n (by decide)]; exact o30
    have e11 : nI w ≤ (11 : Int32) := nI_le (show w ≤ 11 by omega) (by decide)
    have j73e : ∀ v : Nat, 1 ≤ v → v ≤ 6 → X12_clause_j73 (oup (oup (oup O 446 31 (nI w)) 446 19 (nI v)) 446 20 (nI s)) = some (oup (oup (oup O 446 31 (nI w)) 446 19 (nI v)) 446 20 (nI s)) := fun v h1 h2 => by
      unfold X12_clause_j73
      rw [if_neg (by rw [o2n (by decide), o2s]; exact nI_nle (by omega) (by omega))]
    have ew : f_X11_within (C 404 2) 128 139 = 1 := by rw [hc]; exact (wi_y (lo := 128) (hi := 139) (by omega) (by omega) (by decide)).1
    have j58 : nc < 24 ∨ (nc = 24 ∧ X12_clause_j58 (oup O 446 31 (nI w)) = some (oup (oup (oup O 446 31 (nI w)) 446 19 (nI 6)) 446 20 (nI s)) ∧ X4_readClause_j55 (nI (128 + w)) C = bnd (f_X4_fail 6 C) (fun C11 => some C11)) := by
      by_cases c : nc < 24
      · exact Or.inl c
      · have e : nc = 24 := by omega
        subst e
        refine Or.inr ⟨rfl, ?_, ?_⟩
        · unfold X12_clause_j58
          rw [a30, if_pos (show nI 24 = (24 : Int32) from rfl), show f_X12_errs 6 _ = _ from er 6 _ a19 a16, bnd_s, j73e 6 (by decide) (by decide)]
        · unfold X4_readClause_j55
          rw [c6, if_neg (show ¬ nI 24 < (24 : Int32) by decide)]
    unfold f_X4_readClause
    rw [ew, if_neg n10, hc]
    by_cases h4 : 4 ≤ w
    · rw [isLaw_n w hw h4, if_pos rfl]
      rcases j58 with c | ⟨c, d1, d2⟩
      · obtain ⟨C1, r1, r2, r3⟩ := clause_d h h4 hw hc h17 h18 c
        refine ⟨C1, r1, r2, ?_⟩
        rcases r3 with r3 | ⟨O1, s1, r4, r5, r6, r7⟩
        · exact Or.inl r3
        · exact Or.inr ⟨O1, s1, a, r4, r5, r6, r7⟩
      · obtain ⟨C1, r1, r2, r3⟩ := eg_err (v := 6) h hn (by decide) (by decide) (by
          unfold f_X12_clause
          rw [if_pos h17, h18, if_pos e11, o2s, if_pos (show (3 : Int32) < nI w from nI_lt (show 3 < w by omega) (by omega)), d1]) gq
        exact ⟨C1, by rw [d2, bnd_id]; exact r1, r2, Or.inl r3⟩
    · have h4' : w < 4 := by omega
      have n3 : ¬ (3 : Int32) < nI w := nI_nlt (show w ≤ 3 by omega) (by decide)
      obtain ⟨r, hr, t1, t2, t3⟩ := told_b (O := oup O 446 31 (nI w)) ((tls w h4').row) h4' b1 (by omega) a30
      rw [(isLawY h4').1, if_neg n10, t1, bnd_s]
      rcases hr with rfl | rfl
      · rw [if_pos rfl]
        rcases j58 with c | ⟨c, d1, d2⟩
        · exact clause_l h h4' hc h17 h18 c t2 (fun i hi => by have := t3 rfl i hi; rw [oup_ne (by decide)] at this; exact this)
        · obtain ⟨C1, r1, r2, r3⟩ := eg_err (v := 6) h hn (by decide) (by decide) (by
            unfold f_X12_clause
            rw [if_pos h17, h18, if_pos e11, o2s, if_neg n3, t2, bnd_s, if_pos rfl, d1]) gq
          exact ⟨C1, by rw [d2, bnd_id]; exact r1, r2, Or.inl r3⟩
      · obtain ⟨C1, r1, r2, r3⟩ := eg_err (v := 4) h hn (by decide) (by decide) (by
          unfold f_X12_clause
          rw [if_pos h17, h18, if_pos e11, o2s, if_neg n3, t2, bnd_s, if_neg n10, show f_X12_errs 4 _ = _ from er 4 _ a19 a16, bnd_s, j73e 4 (by decide) (by decide)]) gq
        exact ⟨C1, by rw [if_neg n10, bnd_id]; exact r1, r2, Or.inl r3⟩
  · obtain ⟨C1, r1, r2, r3⟩ := eg_err (v := 1) (Oa := O) h hn (by decide) (by decide) (by
      have e1 : X12_clause_j17 O = some (oup (oup O 446 19 (nI 1)) 446 20 (nI s)) := by
        unfold X12_clause_j17
        rw [show f_X12_errs 1 O = _ from er 1 O g1 ts.at.2, bnd_s]
      unfold f_X12_clause
      by_cases c : O.1 446 17 = 1
      · rw [if_pos c, if_neg (k2 c), e1]
      · rw [if_neg c, e1]) GQ.refl
    refine ⟨C1, ?_, r2, Or.inl r3⟩
    unfold f_X4_readClause
    rw [k1, if_pos rfl, bnd_id]
    exact r1
theorem EG.pre {A B : Nat} {C C0 C1 : CM} {O O0 : OM} (h : EG B C0 O0 C1) (hr : RC A O B O0) (hf : GR C C0) (hq : GQ O O0) : EG A C O C1 := by
  obtain ⟨O1, v, h1, h2, h3, h4, h5, h6, h7, h8⟩ := h
  exact ⟨O1, v, hr.trans h1, h2, h3, h4, h5, h6, hf.trans h7, hq.trans h8⟩
theorem EG.ne {A : Nat} {C C1 : CM} {O : OM} (h : EG A C O C1) : ¬ C1 406 1 = 0 := by
  obtain ⟨O1, v, h1, h2, h3, h4, h5, h6, h7, h8⟩ := h
  rw [h4]
  exact nI_ne0 (by omega) (by omega)
theorem all_s {L : Nat} {b : Nat → Nat} {k57 : CM → Option (Int32 × CM)} : ∀ d nc n s a C O, d + nc = 25 → d < n → CLZ L b s a nc C O →
    ∃ C1, X4_read_l26 k57 n (nI nc) C = k57 C1 ∧ GR C C1 ∧ (EG (PT s + 1) C O C1 ∨ ∃ O1 s1 a1 nc1, RC (PT s + 1) O (PT s1 + 1) O1 ∧ CLZ L b s1 a1 nc1 C1 O1 ∧ C1 404 2 = 1 ∧ GQ O O1) := by
  intro d
  induction d with
  | zero =>
    intro nc n s a C O hd hn h
    have := h.2.2.2.2.1.1
    omega
  | succ d ih =>
    intro nc n s a C O hd hn h
    obtain ⟨n, rfl⟩ : ∃ j, n = j + 1 := ⟨n - 1, by omega⟩
    have f1 : C 406 1 = 0 := h.2.1.1
    have hnc : nc ≤ 24 := h.2.2.2.2.1.1
    by_cases c : C 404 2 = 1
    · refine ⟨C, ?_, GR.refl, Or.inr ⟨O, s, a, nc, RC.refl, h, c, GQ.refl⟩⟩
      rw [X4_read_l26, if_neg (show ¬ (24 : Int32) < nI nc from nI_nlt hnc (by decide)), if_pos f1, is_v f1, if_pos c, if_neg n10]
    · obtain ⟨C2, r1, r2, r3⟩ := clause_s h c
      have e : X4_read_l26 k57 (n + 1) (nI nc) C = X4_read_l26 k57 n (nI (nc + 1)) C2 := by
        rw [X4_read_l26, if_neg (show ¬ (24 : Int32) < nI nc from nI_nlt hnc (by decide)), if_pos f1, is_v f1, if_neg c, if_pos rfl, r1, bnd_s, nI_1]
      rw [e]
      rcases r3 with r3 | ⟨O1, s1, a1, r4, r5, r6, r7⟩
      · obtain ⟨n, rfl⟩ : ∃ j, n = j + 1 := ⟨n - 1, by omega⟩
        refine ⟨C2, ?_, r2, Or.inl r3⟩
        rw [X4_read_l26]
        by_cases c2 : (24 : Int32) < nI (nc + 1)
        · rw [if_pos c2]
        · rw [if_neg c2, if_neg r3.ne]
      · obtain ⟨C1, q1, q2, q3⟩ := ih (nc + 1) n s1 a1 C2 O1 (by omega) (by omega) r5
        refine ⟨C1, q1, r2.trans q2, ?_⟩
        rcases q3 with q3 | ⟨O3, s3, a3, nc3, q4, q5, q6, q7⟩
        · exact Or.inl (q3.pre r4 r2 r6)
        · exact Or.inr ⟨O3, s3, a3, nc3, r4.trans q4, q5, q6, r6.trans q7⟩
