/-! Tokens: the next token on both sides, the end -/
section
variable {L : Nat} {b : Nat → Nat}
theorem sign_O {s x : Nat} {O : OM} (hO : OB L b O) (h15 : O.1 446 15 = nI s) (hs : s < L) (hx : b s = x) (h1 : ltr x = false) (h2 : dgt x = false) :
    ∃ O1 e, X12_next_j52 O = some O1 ∧ FO6 O O1 ∧ O1.1 446 16 = nI s ∧ s < e ∧ e ≤ L ∧ O1.1 446 15 = nI e ∧
      ((e = s + 2 ∧ s + 1 < L ∧ b (s + 1) = 61 ∧ O1.1 446 17 = 3 ∧ ((x = 60 ∧ O1.1 446 18 = 300) ∨ (x = 62 ∧ O1.1 446 18 = 301))) ∨ (e = s + 1 ∧ (x = 60 ∨ x = 62 → ¬ (s + 1 < L ∧ b (s + 1) = 61)) ∧ O1.1 446 18 = yb x ∧ O1.1 446 17 = if soB x then 3 else 4)) := by
  have h3 := hO.1
  have hx2 := (hO.2.2 s hs)
  rw [hx] at hx2
  obtain ⟨Ob, hOb⟩ : ∃ Ob, Ob = oup (oup (oup O 446 16 (nI s)) 446 15 (nI (s + 1))) 446 18 (yb x) := ⟨_, rfl⟩
  have hB : OB L b Ob := by rw [hOb]; exact ((hO.up (by decide)).up (by decide)).up (by decide)
  have b15 : Ob.1 446 15 = nI (s + 1) := by rw [hOb, o2n (by decide), o2s]
  have b16 : Ob.1 446 16 = nI s := by rw [hOb, o2n (by decide), o2n (by decide), o2s]
  have b18 : Ob.1 446 18 = yb x := by rw [hOb, o2s]
  have bF : FO6 O Ob := by rw [hOb]; exact ((FO6.refl.up (by decide) (by decide)).up (by decide) (by decide)).up (by decide) (by decide)
  have red : X12_next_j52 O = X12_next_j370 (yb x) (if soB x then 3 else 4) Ob := by
    unfold X12_next_j52 X12_next_j365
    rw [h15, o2n (by decide), o2n (by decide), h15, hO.2.1, if_neg (fun e => by have := (nI_eq (by omega) (by omega)).mp e; omega), gd_p (inbN (by omega) (by decide)), nI_clamp (by omega), oup_ne (by decide), hx2.2, ltr_O _ hx2.1, h1, if_pos (by rfl), dgt_O _ hx2.1, h2, if_pos (by rfl), nI_1, ← hOb]
    cases hsb : soB x
    · obtain ⟨q1, q2, q3, q4⟩ := so_0 x hx2.1 hsb
      rw [if_pos q1, if_pos q2, if_neg q3, if_neg q4]
      rfl
    · have q := so_1 x hx2.1 hsb
      by_cases q1 : f_X12_in (yb x) 59 62 = 0
      · rw [if_pos q1]
        by_cases q2 : f_X12_in (yb x) 40 45 = 0
        · rw [if_pos q2]
          by_cases q3 : yb x = 47
          · rw [if_pos q3]; rfl
          · rw [if_neg q3, if_pos (by rcases q with q | q | q | q; exact absurd q1 q; exact absurd q2 q; exact absurd q q3; exact q)]; rfl
        · rw [if_neg q2]; rfl
      · rw [if_neg q1]; rfl
  have y60 := yb_60 x hx2.1
  rw [red]
  obtain ⟨t0, ht0⟩ : ∃ t0 : Int32, t0 = if soB x then 3 else 4 := ⟨_, rfl⟩
  rw [← ht0]
  have B2 : OB L b (oup Ob 446 17 t0) := hB.up (by decide)
  have sb60 : x = 60 ∨ x = 62 → t0 = 3 := fun h => by rw [ht0]; rcases h with rfl | rfl <;> rfl
  have plain : (x = 60 ∨ x = 62 → ¬ (s + 1 < L ∧ b (s + 1) = 61)) → X12_next_j370 (yb x) t0 Ob = some (oup Ob 446 17 t0) := fun hno => by
    have j : x = 60 ∨ x = 62 → X12_next_j385 (yb x) (oup Ob 446 17 t0) = some (oup Ob 446 17 t0) := fun hx6 => by
      have := hno hx6
      unfold X12_next_j385
      rw [B2.2.1, o2n (by decide), b15]
      by_cases c1 : s + 1 < L
      · rw [if_neg (nI_ge c1 (by omega)), gd_p (inbN (by omega) (by decide)), nI_clamp (by omega), (B2.2.2 _ c1).2, if_neg (fun e => this ⟨c1, (yb_60 _ (B2.2.2 _ c1).1).2.2.mp e⟩)]
      · rw [if_pos (nI_le (by omega) (by omega))]
    unfold X12_next_j370
    by_cases c1 : x = 60
    · rw [if_pos (y60.1.mpr c1), j (Or.inl c1)]
    · rw [if_neg (fun e => c1 (y60.1.mp e))]
      by_cases c2 : x = 62
      · rw [if_pos (y60.2.1.mpr c2), j (Or.inr c2)]
      · rw [if_neg (fun e => c2 (y60.2.1.mp e))]
  have F2 : FO6 O (oup Ob 446 17 t0) := bF.up (by decide) (by decide)
  by_cases hl : (x = 60 ∨ x = 62) ∧ s + 1 < L ∧ b (s + 1) = 61
  · obtain ⟨hx6, c1, c2⟩ := hl
    have j : X12_next_j385 (yb x) (oup Ob 446 17 t0) = if yb x = 60 then X12_next_j426 300 (oup Ob 446 17 t0) else X12_next_j426 301 (oup Ob 446 17 t0) := by
      unfold X12_next_j385
      rw [B2.2.1, o2n (by decide), b15, if_neg (nI_ge c1 (by omega)), gd_p (inbN (by omega) (by decide)), nI_clamp (by omega), (B2.2.2 _ c1).2, if_pos ((yb_60 _ (B2.2.2 _ c1).1).2.2.mpr c2)]
    have fin : ∀ v : Int32, FO6 O (oup (oup (oup Ob 446 17 t0) 446 18 v) 446 15 ((oup (oup Ob 446 17 t0) 446 18 v).1 446 15 + 1)) := fun v => (F2.up (by decide) (by decide)).up (by decide) (by decide)
    have at15 : ∀ v : Int32, (oup (oup (oup Ob 446 17 t0) 446 18 v) 446 15 ((oup (oup Ob 446 17 t0) 446 18 v).1 446 15 + 1)).1 446 15 = nI (s + 2) := fun v => by rw [o2s, o2n (by decide), o2n (by decide), b15, nI_1]
    have at16 : ∀ v : Int32, (oup (oup (oup Ob 446 17 t0) 446 18 v) 446 15 ((oup (oup Ob 446 17 t0) 446 18 v).1 446 15 + 1)).1 446 16 = nI s := fun v => by rw [o2n (by decide), o2n (by decide), o2n (by decide), b16]
    have at17 : ∀ v : Int32, (oup (oup (oup Ob 446 17 t0) 446 18 v) 446 15 ((oup (oup Ob 446 17 t0) 446 18 v).1 446 15 + 1)).1 446 17 = 3 := fun v => by rw [o2n (by decide), o2n (by decide), o2s, sb60 hx6]
    have at18 : ∀ v : Int32, (oup (oup (oup Ob 446 17 t0) 446 18 v) 446 15 ((oup (oup Ob 446 17 t0) 446 18 v).1 446 15 + 1)).1 446 18 = v := fun v => by rw [o2n (by decide), o2s]
    unfold X12_next_j370
    by_cases c3 : x = 60
    · rw [if_pos (y60.1.mpr c3), j, if_pos (y60.1.mpr c3)]
      exact ⟨_, s + 2, rfl, fin 300, at16 300, by omega, by omega, at15 300, Or.inl ⟨rfl, c1, c2, at17 300, Or.inl ⟨c3, at18 300⟩⟩⟩
    · have c4 : x = 62 := by omega
      rw [if_neg (fun e => c3 (y60.1.mp e)), if_pos (y60.2.1.mpr c4), j, if_neg (fun e => c3 (y60.1.mp e))]
      exact ⟨_, s + 2, rfl, fin 301, at16 301, by omega, by omega, at15 301, Or.inl ⟨rfl, c1, c2, at17 301, Or.inr ⟨c4, at18 301⟩⟩⟩
  · rw [plain (fun h6 hq => hl ⟨h6, hq⟩)]
    refine ⟨_, s + 1, rfl, F2, ?_, by omega, by omega, ?_, Or.inr ⟨rfl, fun h6 hq => hl ⟨h6, hq⟩, ?_, ?_⟩⟩
    · rw [o2n (by decide), b16]
    · rw [o2n (by decide), b15]
    · rw [o2n (by decide), b18]
    · rw [o2s, ht0]
theorem next_both {a : Nat} {C : CM} {O : OM} (hC : CB L b C) (hO : OB L b O) (h5 : C 404 5 = nI a) (h15 : O.1 446 15 = nI a) (ha : a ≤ L) :
    ∃ C1 O1 s e, f_X8_next C = some C1 ∧ f_X12_next O = some O1 ∧ FC4 C C1 ∧ FO6 O O1 ∧ a ≤ s ∧ s ≤ e ∧ e ≤ L ∧ C1 404 4 = nI s ∧ O1.1 446 16 = nI s ∧ C1 404 5 = nI e ∧ O1.1 446 15 = nI e ∧
      TK (C1 404 2) (C1 404 3) (O1.1 446 17) (O1.1 446 18) ∧ ((C1 404 2 = 1 ∧ s = L) ∨ (¬ C1 404 2 = 1 ∧ s < e)) := by
  have h3 := hC.1
  obtain ⟨s, s1, s2, s3, s4⟩ := run_ex (fun i => spc (b i)) L (L - a) a (by omega)
  unfold f_X8_next f_X12_next
  rw [sp_C (b := b) (L := L) (fun C => X8_next_j50 C) (s - a) a FU C hC h5 (by omega) s2 (by unfold FU; omega) s3 s4, sp_OL (b := b) (L := L) (fun O => X12_next_j52 O) (s - a) a FU O hO h15 (by omega) s2 (by unfold FU; omega) s3 s4]
  obtain ⟨Ca, hCa⟩ : ∃ Ca, Ca = up2 (up2 (up2 C 404 5 (nI s)) 404 4 (nI s)) 404 3 0 := ⟨_, rfl⟩
  obtain ⟨Oa, hOa⟩ : ∃ Oa, Oa = oup O 446 15 (nI s) := ⟨_, rfl⟩
  have hB : CB L b Ca := by rw [hCa]; exact ((hC.up (by decide)).up (by decide)).up (by decide)
  have oB : OB L b Oa := by rw [hOa]; exact hO.up (by decide)
  have f4 : FC4 C Ca := by rw [hCa]; exact ((FC4.refl.up (by decide)).up (by decide)).up (by decide)
  have f6 : FO6 O Oa := by rw [hOa]; exact FO6.refl.up (by decide) (by decide)
  have a5 : Ca 404 5 = nI s := by rw [hCa, u2n (by decide), u2n (by decide), u2s]
  have a4 : Ca 404 4 = nI s := by rw [hCa, u2n (by decide), u2s]
  have a3 : Ca 404 3 = 0 := by rw [hCa, u2s]
  have a15 : Oa.1 446 15 = nI s := by rw [hOa, o2s]
  rw [← hOa]
  have red : X8_next_j50 (up2 C 404 5 (nI s)) = if nI s < nI L then (if f_X8_isLetter (nI (if s < L then b s else 0)) = 0 then (if f_X8_isDigit (nI (if s < L then b s else 0)) = 0 then bnd (f_X8_takeSign (nI (if s < L then b s else 0)) Ca) (fun C10 => some C10) else bnd (f_X8_takeNumber Ca) (fun C11 => some C11)) else bnd (f_X8_takeWord Ca) (fun C12 => some C12)) else some (up2 Ca 404 2 1) := by
    unfold X8_next_j50
    rw [u2s, ← hCa, a5, byC hB (by omega), bnd_s, hB.2.1]
  show ∃ C1 O1 s' e, X8_next_j50 (up2 C 404 5 (nI s)) = some C1 ∧ X12_next_j52 Oa = some O1 ∧ _
  rw [red]
  have tr4 : ∀ C1, FC4 Ca C1 → FC4 C C1 := fun C1 h => ⟨fun c hc => (h.1 c hc).trans (f4.1 c hc), h.2.trans f4.2⟩
  have tr6 : ∀ O1, FO6 Oa O1 → FO6 O O1 := fun O1 h => ⟨fun c hc => (h.1 c hc).trans (f6.1 c hc), fun k hk => (h.2.1 k hk).trans (f6.2.1 k hk), h.2.2.trans f6.2.2⟩
  by_cases c : s < L
  · have hx := hO.2.2 s c
    rw [if_pos (nI_lt c (by omega)), if_pos c, ltr_C _ hx.1, dgt_C _ hx.1]
    have o16 : ∀ O1 : OM, O1 = oup Oa 446 16 (nI s) → OB L b O1 ∧ O1.1 446 15 = nI s ∧ O1.1 446 16 = nI s ∧ FO6 Oa O1 := fun O1 h => by
      rw [h]
      exact ⟨oB.up (by decide), by rw [o2n (by decide)]; exact a15, o2s, FO6.refl.up (by decide) (by decide)⟩
    cases hl : ltr (b s)
    · cases hd : dgt (b s)
      · -- a sign
        rw [if_pos (by rfl), if_pos (by rfl)]
        obtain ⟨C1, e1, p1, p2, p3, p4, p5, p6, p7, p8⟩ := sign_C hB a5 c rfl
        obtain ⟨O1, e2, q1, q2, q3, q4, q5, q6, q7⟩ := sign_O oB a15 c rfl hl hd
        rw [p1, bnd_s, q1]
        rcases p8 with ⟨r1, r2, r3, r4⟩ | ⟨r1, r2, r3⟩
        · rcases q7 with ⟨t1, t2, t3, t4, t5⟩ | ⟨t1, t2, t3, t4⟩
          · have he : e2 = e1 := by omega
            subst he
            refine ⟨C1, O1, s, e2, rfl, rfl, tr4 _ p2, tr6 _ q2, s1, by omega, q5, by rw [p3, a4], q3, p7, q6, Or.inr (Or.inr (Or.inr (Or.inr ?_))), Or.inr ⟨?_, q4⟩⟩
            · rcases r4 with ⟨g1, g2⟩ | ⟨g1, g2⟩
              · exact ⟨4, 300, by decide, g2, t4, by rcases t5 with ⟨g3, g4⟩ | ⟨g3, g4⟩; exact g4; omega⟩
              · exact ⟨5, 301, by decide, g2, t4, by rcases t5 with ⟨g3, g4⟩ | ⟨g3, g4⟩; omega; exact g4⟩
            · rcases r4 with ⟨g1, g2⟩ | ⟨g1, g2⟩ <;> rw [g2] <;> decide
          · exact absurd ⟨r2, r3⟩ (t2 (by rcases r4 with ⟨g1, _⟩ | ⟨g1, _⟩; exact Or.inl g1; exact Or.inr g1))
        · rcases q7 with ⟨t1, t2, t3, t4, t5⟩ | ⟨t1, t2, t3, t4⟩
          · exact absurd ⟨t2, t3⟩ (r2 (by rcases t5 with ⟨g1, _⟩ | ⟨g1, _⟩; exact Or.inl g1; exact Or.inr g1))
          · have he : e2 = e1 := by omega
            subst he
            have hsg := sg_so (b s) hx.1
            refine ⟨C1, O1, s, e2, rfl, rfl, tr4 _ p2, tr6 _ q2, s1, by omega, q5, by rw [p3, a4], q3, p7, q6, ?_, Or.inr ⟨?_, q4⟩⟩
            · rcases hsg with ⟨g1, g2⟩ | ⟨g1, g2, g3, g4⟩
              · refine Or.inr (Or.inr (Or.inr (Or.inl ⟨by rw [r3, g1]; rfl, ?_⟩)))
                rcases g2 with g2 | g2
                · left; rw [t4, g2]; rfl
                · right; rw [t3, t4, g2]; exact ⟨by decide, by decide⟩
              · refine Or.inr (Or.inr (Or.inr (Or.inr ⟨b s, b s, g1, by rw [r3, g2], by rw [t4, g3]; rfl, by rw [t3, yb_lo g4]⟩)))
            · rw [r3, show (1 : Int32) = nI 1 from rfl]
              intro e
              have hb : sg (b s) ≤ b s := by unfold sg; split <;> omega
              have := (nI_eq (by omega) (by decide)).mp e
              have hno : ∀ x, x < 256 → sg x ≠ 1 := by decide +kernel
              exact hno _ hx.1 this
      · -- a number
        rw [if_pos (by rfl), if_neg (by decide)]
        obtain ⟨e, e1, e2, e3, e4⟩ := run_ex (fun i => dgt (b i)) L (L - s) s (by omega)
        have hse : s < e := by
          by_cases h : s = e
          · have := e4 (by omega)
            rw [← h] at this
            exact absurd (hd.symm.trans this) (by decide)
          · omega
        obtain ⟨Ob, hOb⟩ : ∃ Ob, Ob = oup (oup (oup Oa 446 16 (nI s)) 446 17 2) 446 18 0 := ⟨_, rfl⟩
        have o1 : OB L b Ob := by rw [hOb]; exact ((oB.up (by decide)).up (by decide)).up (by decide)
        obtain ⟨C1, O1, v1, r1, r2, r3, r4, r5, r6, r7, r8, r9, r10, r11, r12, r13⟩ := num_l (b := b) (L := L) (e := e) (e - s) s FU FU 0 (up2 Ca 404 2 2) Ob (hB.up (by decide)) o1 (by rw [u2n (by decide)]; exact a5) (by rw [hOb, o2n (by decide), o2n (by decide), o2n (by decide)]; exact a15) (by rw [u2n (by decide)]; exact a3) (by rw [hOb, o2s]; rfl) (by decide) (by omega) e2 (by unfold FU; omega) (by unfold FU; omega) e3 e4
        have redO : X12_next_j52 Oa = X12_next_l232 FU Ob := by
          unfold X12_next_j52
          rw [a15, o2n (by decide), o2n (by decide), a15, oB.2.1, if_neg (fun e => by have := (nI_eq (by omega) (by omega)).mp e; omega), gd_p (inbN (by omega) (by decide)), nI_clamp (by omega), oup_ne (by decide), (oB.2.2 s c).2, ltr_O _ hx.1, hl, if_pos (by rfl), dgt_O _ hx.1, hd, if_neg (by decide), ← hOb]
        unfold f_X8_takeNumber
        rw [r1, bnd_s, redO, r2]
        have g1 : C1 404 2 = 2 := by rw [r6, u2s]
        refine ⟨C1, O1, s, e, rfl, rfl, ?_, ?_, s1, by omega, e2, ?_, ?_, r10, r11, Or.inr (Or.inr (Or.inl ⟨v1, r5, g1, r12, ?_, r13⟩)), Or.inr ⟨by rw [g1]; decide, hse⟩⟩
        · exact tr4 _ ⟨fun c' hc => by rw [r3.1 c' hc, up2_ne hc], by rw [r3.2, u2n (by decide)]⟩
        · exact tr6 _ ⟨fun c' hc => by rw [r4.1 c' hc, hOb, oup_ne hc, oup_ne hc, oup_ne hc], fun k hk => by rw [r4.2.1 k hk, hOb, o2n (by omega), o2n (by omega), o2n (by omega)], by rw [r4.2.2, hOb]; rfl⟩
        · rw [r7, u2n (by decide)]; exact a4
        · rw [r8, hOb, o2n (by decide), o2n (by decide), o2s]
        · rw [r9, hOb, o2n (by decide), o2s]
    · -- a word
      rw [if_neg (by decide)]
      obtain ⟨e, e1, e2, e3, e4⟩ := run_ex (fun i => ltr (b i)) L (L - s) s (by omega)
      have hse : s < e := by
        by_cases h : s = e
        · have := e4 (by omega)
          rw [← h] at this
          exact absurd (hl.symm.trans this) (by decide)
        · omega
      obtain ⟨n, rfl⟩ : ∃ n, e = s + n := ⟨e - s, by omega⟩
      have hy : ∀ i, i < n → ltr (b (s + i)) = true := fun i hi => e3 _ (by omega) (by omega)
      obtain ⟨g1, g2, g3, g4⟩ := o16 _ rfl
      have redO : X12_next_j52 Oa = X12_next_l99 (fun v2 v4 O => (X12_next_j173 v2 v4 O)) FU 0 0 (oup Oa 446 16 (nI s)) := by
        unfold X12_next_j52
        rw [a15, o2n (by decide), o2n (by decide), a15, oB.2.1, if_neg (fun e => by have := (nI_eq (by omega) (by omega)).mp e; omega), gd_p (inbN (by omega) (by decide)), nI_clamp (by omega), oup_ne (by decide), (oB.2.2 s c).2, ltr_O _ hx.1, hl, if_neg (by decide)]
      rw [word_C hB a4 a5 e2 hy e4, bnd_s, redO, word_O g1 g2 e2 hy e4]
      have fC : FC4 Ca (up2 (up2 Ca 404 5 (nI (s + n))) 404 2 (tkW (fW (bsF b s n) WL 0))) := (FC4.refl.up (by decide)).up (by decide)
      have c2 : up2 (up2 Ca 404 5 (nI (s + n))) 404 2 (tkW (fW (bsF b s n) WL 0)) 404 2 = tkW (fW (bsF b s n) WL 0) := u2s
      have c4 : up2 (up2 Ca 404 5 (nI (s + n))) 404 2 (tkW (fW (bsF b s n) WL 0)) 404 4 = nI s := by rw [u2n (by decide), u2n (by decide)]; exact a4
      have c5 : up2 (up2 Ca 404 5 (nI (s + n))) 404 2 (tkW (fW (bsF b s n) WL 0)) 404 5 = nI (s + n) := by rw [u2n (by decide), u2s]
      have fO : ∀ v u, FO6 Oa (oup (oup (oup (oup Oa 446 16 (nI s)) 446 15 (nI (s + n))) 446 18 v) 446 17 u) := fun v u => ((g4.up (by decide) (by decide)).up (by decide) (by decide)).up (by decide) (by decide)
      cases hf : fW (bsF b s n) WL 0 with
      | some w =>
        have hw := (fW_some WL 0 w hf).2.1
        rw [hf] at c2 c4 c5 fC
        have hw2 : w < 32 := by have : WL.length = 32 := rfl; omega
        refine ⟨_, _, s, s + n, rfl, rfl, tr4 _ fC, tr6 _ (fO _ _), s1, by omega, e2, c4, ?_, c5, ?_, Or.inr (Or.inl ⟨w, hw2, c2, o2s, by rw [o2n (by decide), o2s]⟩), Or.inr ⟨?_, hse⟩⟩
        · rw [o2n (by decide), o2n (by decide), o2n (by decide), o2s]
        · rw [o2n (by decide), o2n (by decide), o2s]
        · rw [c2]
          exact fun e => by have := (nI_eq (a := 128 + w) (b := 1) (by omega) (by decide)).mp e; omega
      | none =>
        rw [hf] at c2 c4 c5 fC
        refine ⟨_, _, s, s + n, rfl, rfl, tr4 _ fC, tr6 _ (fO _ _), s1, by omega, e2, c4, ?_, c5, ?_, Or.inr (Or.inr (Or.inr (Or.inl ⟨c2, Or.inl o2s⟩))), Or.inr ⟨by rw [c2]; decide, hse⟩⟩
        · rw [o2n (by decide), o2n (by decide), o2n (by decide), o2s]
        · rw [o2n (by decide), o2n (by decide), o2s]
  · have hsL : s = L := by omega
    rw [if_neg (nI_nlt (by omega) (by omega))]
    unfold X12_next_j52
    rw [a15, o2n (by decide), o2n (by decide), a15, oB.2.1, if_pos (by rw [hsL])]
    refine ⟨_, _, s, s, rfl, rfl, tr4 _ (FC4.refl.up (by decide)), tr6 _ ((FO6.refl.up (by decide) (by decide)).up (by decide) (by decide)), s1, Nat.le_refl _, s2, ?_, ?_, ?_, ?_, Or.inl ⟨u2s, o2s⟩, Or.inl ⟨u2s, hsL⟩⟩
    · rw [u2n (by decide)]; exact a4
    · rw [o2n (by decide), o2s]
    · rw [u2n (by decide)]; exact a5
    · rw [o2n (by decide), o2n (by decide)]; exact a15
end
