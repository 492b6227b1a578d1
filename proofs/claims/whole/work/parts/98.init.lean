/-! The start: nothing told yet -/
theorem OL_A : ∀ k, (OL 5).1 447 k = if k = 2 then -1 else if k = 112 then 97 else if 24 ≤ k ∧ k < 29 then -1 else 0 := by
  intro k
  show upd (upd (upd (upd (upd (upd (upd (O0.1 447) 2 (-1)) 112 97) (24 + 0) (-1)) (24 + 1) (-1)) (24 + 2) (-1)) (24 + 3) (-1)) (24 + 4) (-1) k = _
  unfold upd
  have e0 : O0.1 447 k = 0 := rfl
  rw [e0]
  by_cases c1 : k = 2
  · subst c1; rfl
  by_cases c2 : k = 112
  · subst c2; rfl
  rw [if_neg c1, if_neg c2, if_neg c1, if_neg c2]
  by_cases d4 : k = 24 + 4
  · rw [if_pos d4, if_pos (by omega)]
  by_cases d3 : k = 24 + 3
  · rw [if_neg d4, if_pos d3, if_pos (by omega)]
  by_cases d2 : k = 24 + 2
  · rw [if_neg d4, if_neg d3, if_pos d2, if_pos (by omega)]
  by_cases d1 : k = 24 + 1
  · rw [if_neg d4, if_neg d3, if_neg d2, if_pos d1, if_pos (by omega)]
  by_cases d0 : k = 24 + 0
  · rw [if_neg d4, if_neg d3, if_neg d2, if_neg d1, if_pos d0, if_pos (by omega)]
  rw [if_neg d4, if_neg d3, if_neg d2, if_neg d1, if_neg d0, if_neg (by omega)]
theorem A_z {A : Nat → Int32} (h : ∀ k, k < 5130 → A k = if k = 2 then -1 else if k = 112 then 97 else if 24 ≤ k ∧ k < 29 then -1 else 0) {k : Nat} (hk : k < 5130) (h1 : k ≠ 2) (h2 : k ≠ 112) (h3 : k < 24 ∨ 29 ≤ k) : A k = 0 := by
  rw [h k hk, if_neg h1, if_neg h2, if_neg (by omega)]
theorem rw_init {w : Nat} {A : Nat → Int32} (hw : w = 5 ∨ w = 194) (h : ∀ k, k < 5130 → A k = if k = 2 then -1 else if k = 112 then 97 else if 24 ≤ k ∧ k < 29 then -1 else 0) : RW w 0 0 0 0 C0 A := by
  have z : ∀ k, k < 5130 → k ≠ 2 → k ≠ 112 → (k < 24 ∨ 29 ≤ k) → A k = 0 := fun k a b c d => A_z h a b c d
  have e2 : A 2 = -1 := by rw [h 2 (by decide), if_pos rfl]
  have e112 : A 112 = 97 := by rw [h 112 (by decide), if_neg (by decide), if_pos rfl]
  have en : ∀ k, k < 5 → A (24 + k) = -1 := fun k hk => by rw [h _ (by omega), if_neg (by omega), if_neg (by omega), if_pos (by omega)]
  have zz : ∀ k, k < 164 → k ≠ 72 → rowN A k = nI 0 := fun k hk hne => z (40 + k) (by omega) (by omega) (by omega) (by omega)
  have wok : WOK (rowN A) := ⟨fun p hp => ⟨0, by decide, zz _ (by omega) (by omega)⟩, fun p hp => ⟨0, by decide, zz _ (by omega) (by omega)⟩, fun p hp => ⟨0, by decide, zz _ (by omega) (by omega)⟩, fun p hp => ⟨0, by decide, zz _ (by omega) (by omega)⟩, fun p hp => zz _ (by omega) (by omega), ⟨0, by decide, zz _ (by omega) (by omega)⟩, ⟨0, by decide, zz _ (by omega) (by omega)⟩, ⟨97, by decide, e112⟩, ⟨0, by decide, zz _ (by omega) (by omega)⟩⟩
  rcases hw with rfl | rfl
  · refine ⟨⟨by decide, by decide, by decide, by decide⟩, ⟨rfl, z 0 (by decide) (by decide) (by decide) (by decide), rfl, z 1 (by decide) (by decide) (by decide) (by decide), rfl, z 3 (by decide) (by decide) (by decide) (by decide), rfl⟩, ⟨e2.symm, Or.inl e2⟩, fun p hp => absurd hp (by omega), fun k hk => ⟨?_, Or.inl (en k hk), fun _ => en k hk⟩, ⟨⟨(zz 70 (by decide) (by decide)).symm, (zz 71 (by decide) (by decide)).symm, e112.symm, fun p hp => (zz _ (by omega) (by omega)).symm, fun p hp => (zz _ (by omega) (by omega)).symm, fun p hp => (zz _ (by omega) (by omega)).symm, fun p hp => (zz _ (by omega) (by omega)).symm⟩, (zz 73 (by decide) (by decide)).symm, fun j hj => (zz _ (by omega) (by omega)).symm, wok⟩, fun j hj => absurd hj (by omega)⟩
    rw [en k hk]
    show (if k < 5 then (-1 : Int32) else 0) = -1
    rw [if_pos hk]
  · refine ⟨⟨by decide, by decide, by decide, by decide⟩, ⟨rfl, z 0 (by decide) (by decide) (by decide) (by decide), rfl, z 1 (by decide) (by decide) (by decide) (by decide), rfl, z 3 (by decide) (by decide) (by decide) (by decide), rfl⟩, ⟨e2.symm, Or.inl e2⟩, fun p hp => absurd hp (by omega), fun k hk => ⟨?_, Or.inl (en k hk), fun _ => en k hk⟩, ⟨⟨(zz 70 (by decide) (by decide)).symm, (zz 71 (by decide) (by decide)).symm, e112.symm, fun p hp => (zz _ (by omega) (by omega)).symm, fun p hp => (zz _ (by omega) (by omega)).symm, fun p hp => (zz _ (by omega) (by omega)).symm, fun p hp => (zz _ (by omega) (by omega)).symm⟩, (zz 73 (by decide) (by decide)).symm, fun j hj => (zz _ (by omega) (by omega)).symm, wok⟩, fun j hj => absurd hj (by omega)⟩
    rw [en k hk]
    show (if k < 5 then (-1 : Int32) else 0) = -1
    rw [if_pos hk]
theorem rel_init : ∃ O1, f_X12_copies 1 (OL 5) = some O1 ∧ Rel C0 O1 := by
  obtain ⟨O1, r1, r2, r3⟩ := copies_out (OL 5)
  have h7 : ∀ k, k < 5130 → O1.1 447 k = if k = 2 then -1 else if k = 112 then 97 else if 24 ≤ k ∧ k < 29 then -1 else 0 := fun k _ => by rw [r2 447 (by decide)]; exact OL_A k
  have h8 : ∀ k, k < 5130 → O1.1 448 k = if k = 2 then -1 else if k = 112 then 97 else if 24 ≤ k ∧ k < 29 then -1 else 0 := fun k hk => by rw [r3 k hk]; exact OL_A k
  have e446 : ∀ k, O1.1 446 k = O0.1 446 k := fun k => by rw [r2 446 (by decide)]; rfl
  refine ⟨O1, r1, 0, 0, 0, 0, 0, 0, 0, 0, rw_init (Or.inl rfl) h7, rw_init (Or.inr rfl) h8, ⟨Nat.le_refl _, Nat.le_refl _⟩, fun k hk => absurd hk (by omega), ⟨0, by decide, rfl, by rw [e446]; rfl, fun k hk => absurd hk (by omega)⟩, ⟨by rw [e446]; rfl, by rw [e446]; rfl⟩, fun L hL => rfl, ⟨fun _ => rfl, fun j hj hv => ?_⟩, 383, Or.inl rfl, rfl⟩
  rw [h7 2 (by decide), if_pos rfl] at hv
  exact absurd hv.symm (nm1_ne (by omega))
theorem ops_rel : Ops Rel := ⟨opp_person, opp_bow, opp_owe, opp_walk, opp_feast, opp_clear, opp_hour, opp_weeks, opp_feed, opp_end, opp_text, opp_fault, opp_by, opp_played, opp_undo, opp_of, opp_two, opp_more, opp_book, opp_foretold, opp_indoors, opp_first, opp_whose, opp_route, opp_settled, opp_lane, opp_doors, opp_neck, opp_explained, opp_sure, opp_corner, opp_image, opp_back, opp_about⟩
