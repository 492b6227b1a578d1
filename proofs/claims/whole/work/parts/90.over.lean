/-! The reader: one is over -/
theorem emits_22 {o v : Int32} {O O5 : OM} (h : f_X12_emits o v O = some O5) : O5.1 446 22 = O.1 446 22 := by
  unfold f_X12_emits gd at h
  split at h
  · split at h
    · have := Option.some.inj h
      rw [← this, o2n (by decide), oup_ne (by decide), oup_ne (by decide)]
    · cases h
  · cases h
theorem one_ind (k : OM → Option OM) : ∀ nf m1 m2 O, nf < 41 → O.1 446 22 = nI nf → nf < m1 → nf < m2 → X12_oneIsOver_l0 k m1 O = X12_oneIsOver_l0 k m2 O := by
  intro nf
  induction nf with
  | zero =>
    intro m1 m2 O _ h h1 h2
    obtain ⟨m1, rfl⟩ : ∃ j, m1 = j + 1 := ⟨m1 - 1, by omega⟩
    obtain ⟨m2, rfl⟩ : ∃ j, m2 = j + 1 := ⟨m2 - 1, by omega⟩
    have : f_X12_top O = none := by
      unfold f_X12_top
      rw [h]
      exact if_neg (by decide)
    rw [X12_oneIsOver_l0, X12_oneIsOver_l0, this]
    rfl
  | succ nf ih =>
    intro m1 m2 O hn h h1 h2
    obtain ⟨m1, rfl⟩ : ∃ j, m1 = j + 1 := ⟨m1 - 1, by omega⟩
    obtain ⟨m2, rfl⟩ : ∃ j, m2 = j + 1 := ⟨m2 - 1, by omega⟩
    have j37 : ∀ t0, X12_oneIsOver_j37 (fun O => X12_oneIsOver_l0 k m1 O) k t0 O = X12_oneIsOver_j37 (fun O => X12_oneIsOver_l0 k m2 O) k t0 O := fun t0 => by
      unfold X12_oneIsOver_j37
      cases he : f_X12_emits t0 0 O with
      | none => rfl
      | some O5 =>
        rw [bnd_s, bnd_s]
        refine ih m1 m2 _ (by omega) ?_ (by omega) (by omega)
        rw [o2n (by decide), o2s, emits_22 he, h, nI_pred]
    have j18 : X12_oneIsOver_j18 (fun O => X12_oneIsOver_l0 k m1 O) k O = X12_oneIsOver_j18 (fun O => X12_oneIsOver_l0 k m2 O) k O := by
      unfold X12_oneIsOver_j18
      rw [j37, j37]
    rw [X12_oneIsOver_l0, X12_oneIsOver_l0, j18]
theorem one_good {q F : Nat} {O : OM} (h : O.1 446 22 = nI (q + 1)) (hq : q < 40) (hF : O.1 458 q = nI F) (h0 : F < 100) (h7 : F ≠ 7) (h10 : F ≠ 10) (h11 : F ≠ 11) : f_X12_oneIsOver O = some (oup O 446 28 2) := by
  have ne : ∀ k : Nat, k < 100 → F ≠ k → ¬ nI F = nI k := fun k hk hne e => hne ((nI_eq (by omega) (by omega)).mp e)
  unfold f_X12_oneIsOver
  rw [show FU = 9999 + 1 from rfl, X12_oneIsOver_l0, top_v h hq, bnd_s, bnd_s, hF, if_neg (show ¬ nI F = (7 : Int32) from ne 7 (by decide) h7), if_neg (show ¬ nI F = (11 : Int32) from ne 11 (by decide) h11)]
  unfold X12_oneIsOver_j64
  rw [top_v (O := oup O 446 28 2) (nf := q) (by rw [o2n (by decide)]; exact h) hq, bnd_s, oup_ne (by decide), hF, if_neg (show ¬ nI F = (10 : Int32) from ne 10 (by decide) h10)]
/-- a frame that one more step of code ends: a minus, or a second of owed -/
theorem one_pop {q F d no : Nat} {O : OM} (h : O.1 446 22 = nI (q + 1)) (hq : q < 40) (hF : O.1 458 q = nI F) (h7 : F = 7 ∨ F = 11) (hd : O.1 446 21 = nI (d + 1)) (hno : O.1 446 37 = nI no) (hn : no < 400) :
    f_X12_oneIsOver O = f_X12_oneIsOver (oup (oup (oup (oup (oup O 468 no (if F = 7 then 402 else 403)) 469 no 0) 446 37 (nI (no + 1))) 446 22 (nI q)) 446 21 (nI d)) := by
  have e37 : ∀ t0 : Int32, X12_oneIsOver_j37 (fun O => X12_oneIsOver_l0 (fun O => (X12_oneIsOver_j64 O)) 9999 O) (fun O => (X12_oneIsOver_j64 O)) t0 O = f_X12_oneIsOver (oup (oup (oup (oup (oup O 468 no t0) 469 no 0) 446 37 (nI (no + 1))) 446 22 (nI q)) 446 21 (nI d)) := fun t0 => by
    unfold X12_oneIsOver_j37
    rw [emits_v hno hn, bnd_s]
    have e22 : (oup (oup (oup O 468 no t0) 469 no 0) 446 37 (nI (no + 1))).1 446 22 - 1 = nI q := by rw [o2n (by decide), oup_ne (by decide), oup_ne (by decide), h, nI_pred]
    have e21 : (oup (oup (oup (oup O 468 no t0) 469 no 0) 446 37 (nI (no + 1))) 446 22 (nI q)).1 446 21 - 1 = nI d := by rw [o2n (by decide), o2n (by decide), oup_ne (by decide), oup_ne (by decide), hd, nI_pred]
    rw [e22, e21]
    unfold f_X12_oneIsOver
    exact one_ind _ q 9999 FU _ (by omega) (by rw [o2n (by decide), o2s]) (by omega) (by unfold FU; omega)
  have top : f_X12_oneIsOver O = X12_oneIsOver_l0 (fun O => (X12_oneIsOver_j64 O)) (9999 + 1) O := rfl
  rw [top, X12_oneIsOver_l0, top_v h hq, bnd_s, bnd_s, hF]
  have j18 : X12_oneIsOver_j18 (fun O => X12_oneIsOver_l0 (fun O => (X12_oneIsOver_j64 O)) 9999 O) (fun O => (X12_oneIsOver_j64 O)) O = f_X12_oneIsOver (oup (oup (oup (oup (oup O 468 no (if F = 7 then 402 else 403)) 469 no 0) 446 37 (nI (no + 1))) 446 22 (nI q)) 446 21 (nI d)) := by
    unfold X12_oneIsOver_j18
    rw [top_v h hq, bnd_s, hF, e37, e37]
    rcases h7 with rfl | rfl
    · rw [if_pos (show nI 7 = 7 from rfl), if_pos rfl]
    · rw [if_neg (by decide), if_neg (by decide)]
  rw [j18]
  rcases h7 with rfl | rfl
  · rw [if_pos (show nI 7 = 7 from rfl)]
  · rw [if_neg (by decide), if_pos (show nI 11 = 11 from rfl)]
