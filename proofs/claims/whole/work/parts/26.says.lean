section
variable {n p h : Nat} {k : OM → Option (Int64 × OM)} {O : OM}
theorem neN {m : Nat} (j : Nat) (J : Int32) (e : J = nI j) (hm : m < 2 ^ 31) (hj : j < 2 ^ 31) (hne : m ≠ j) : ¬ nI m = J := fun h => hne ((nI_eq hm hj).mp (h.trans e))
theorem rr_end (h1 : p < 1600) (ho : O.1 456 p = nI 408) : X12_saysOf_l4 k (n + 1) (nI h) (nI p) O = k O := by
  rw [X12_saysOf_l4]
  simp only [gd_p (inbN h1 (by decide))]
  rw [nI_clamp (by omega), ho, if_pos (show nI 408 = (408 : Int32) from rfl)]
theorem rr_num {v : Nat} (h1 : p < 1600) (ho : O.1 456 p = nI 400) (hv : O.1 457 p = nI v) (hh : h < 200) :
    X12_saysOf_l4 k (n + 1) (nI h) (nI p) O = X12_saysOf_l4 k n (nI (h + 1)) (nI (p + 1)) (oupJ O 472 h (nI v).toInt64) := by
  rw [X12_saysOf_l4]
  simp only [gd_p (inbN h1 (by decide))]
  rw [nI_clamp (by omega), ho, if_neg (show ¬ nI 400 = (408 : Int32) by decide), if_pos (show nI 400 = (400 : Int32) from rfl)]
  unfold X12_saysOf_j40 X12_saysOf_j75 X12_saysOf_j228
  simp only [gd_p (inbN h1 (by decide))]
  rw [if_pos (show nI 400 = (400 : Int32) from rfl), gd_p (inbN hh (by decide)), nI_clamp (n := p) (by omega), hv, nI_clamp (by omega), nI_1, nI_1]
theorem rr_name {t : Nat} (h1 : p < 1600) (ho : O.1 456 p = nI 401) (hv : O.1 457 p = nI t) (ht : t < 10) (hh : h < 200) :
    X12_saysOf_l4 k (n + 1) (nI h) (nI p) O = X12_saysOf_l4 k n (nI (h + 1)) (nI (p + 1)) (oupJ O 472 h (O.1 471 t).toInt64) := by
  rw [X12_saysOf_l4]
  simp only [gd_p (inbN h1 (by decide))]
  rw [nI_clamp (by omega), ho, if_neg (show ¬ nI 401 = (408 : Int32) by decide), if_neg (show ¬ nI 401 = (400 : Int32) by decide), if_pos (show nI 401 = (401 : Int32) from rfl)]
  unfold X12_saysOf_j40 X12_saysOf_j75 X12_saysOf_j228
  simp only [gd_p (inbN h1 (by decide))]
  rw [if_neg (show ¬ nI 401 = (400 : Int32) by decide), nI_clamp (by omega), hv, gd_p (inbN ht (by decide)), gd_p (inbN hh (by decide)), nI_clamp (by omega), nI_clamp (by omega), nI_1, nI_1]
/-- to the steps behind numbers and names -/
theorem rr_if {j : Nat} (h1 : p < 1600) (ho : O.1 456 p = nI 404) (hv : O.1 457 p = nI (j + 1)) (hh : h < 200) :
    X12_saysOf_l4 k (n + 1) (nI (h + 1)) (nI p) O = X12_saysOf_l4 k n (nI h) (if O.2 472 h = 0 then nI (j + 1) else nI (p + 1)) O := by
  rw [X12_saysOf_l4]
  simp only [gd_p (inbN h1 (by decide))]
  rw [nI_clamp (by omega), ho, if_neg (show ¬ nI 404 = (408 : Int32) by decide), if_neg (show ¬ nI 404 = (400 : Int32) by decide), if_neg (show ¬ nI 404 = (401 : Int32) by decide), if_pos (show nI 404 = (404 : Int32) from rfl), pk_m1, gd_p (inbN hh (by decide)), nI_clamp (by omega)]
  unfold X12_saysOf_j116 X12_saysOf_j228
  by_cases c : O.2 472 h = 0
  · rw [if_pos ((lg_cmp_eq _ _).mpr c), if_pos c, hv, nI_pred, nI_1]
  · rw [if_neg (fun e => c ((lg_cmp_eq _ _).mp e)), if_neg c, nI_1]
theorem rr_else {j : Nat} (h1 : p < 1600) (ho : O.1 456 p = nI 409) (hv : O.1 457 p = nI (j + 1)) :
    X12_saysOf_l4 k (n + 1) (nI h) (nI p) O = X12_saysOf_l4 k n (nI h) (nI (j + 1)) O := by
  rw [X12_saysOf_l4]
  simp only [gd_p (inbN h1 (by decide))]
  rw [nI_clamp (by omega), ho, if_neg (show ¬ nI 409 = (408 : Int32) by decide), if_neg (show ¬ nI 409 = (400 : Int32) by decide), if_neg (show ¬ nI 409 = (401 : Int32) by decide), if_neg (show ¬ nI 409 = (404 : Int32) by decide), if_pos (show nI 409 = (409 : Int32) from rfl), hv]
  unfold X12_saysOf_j228
  rw [nI_pred, nI_1]
theorem rr_neg (h1 : p < 1600) (ho : O.1 456 p = nI 402) (hh : h < 200) :
    X12_saysOf_l4 k (n + 1) (nI (h + 1)) (nI p) O = X12_saysOf_l4 k n (nI (h + 1)) (nI (p + 1)) (oupJ O 472 h (-(O.2 472 h))) := by
  rw [X12_saysOf_l4]
  simp only [gd_p (inbN h1 (by decide))]
  rw [nI_clamp (by omega), ho, if_neg (show ¬ nI 402 = (408 : Int32) by decide), if_neg (show ¬ nI 402 = (400 : Int32) by decide), if_neg (show ¬ nI 402 = (401 : Int32) by decide), if_neg (show ¬ nI 402 = (404 : Int32) by decide), if_neg (show ¬ nI 402 = (409 : Int32) by decide), if_pos (show nI 402 = (402 : Int32) from rfl), nI_pred, gd_p (inbN hh (by decide)), gd_p (inbN hh (by decide)), nI_clamp (by omega)]
  unfold X12_saysOf_j228
  rw [nI_1]
theorem rr_not (h1 : p < 1600) (ho : O.1 456 p = nI 405) (hh : h < 200) :
    X12_saysOf_l4 k (n + 1) (nI (h + 1)) (nI p) O = X12_saysOf_l4 k n (nI (h + 1)) (nI (p + 1)) (oupJ O 472 h (1 - (O.2 472 h))) := by
  rw [X12_saysOf_l4]
  simp only [gd_p (inbN h1 (by decide))]
  rw [nI_clamp (by omega), ho, if_neg (show ¬ nI 405 = (408 : Int32) by decide), if_neg (show ¬ nI 405 = (400 : Int32) by decide), if_neg (show ¬ nI 405 = (401 : Int32) by decide), if_neg (show ¬ nI 405 = (404 : Int32) by decide), if_neg (show ¬ nI 405 = (409 : Int32) by decide), if_neg (show ¬ nI 405 = (402 : Int32) by decide), if_pos (show nI 405 = (405 : Int32) from rfl), nI_pred, gd_p (inbN hh (by decide)), gd_p (inbN hh (by decide)), nI_clamp (by omega)]
  unfold X12_saysOf_j228
  rw [nI_1]
theorem rr_bin {m : Nat} {z : Int64} (h1 : p < 1600) (ho : O.1 456 p = nI m) (hm : m < 1000) (hn : m ≠ 408 ∧ m ≠ 400 ∧ m ≠ 401 ∧ m ≠ 404 ∧ m ≠ 409 ∧ m ≠ 402 ∧ m ≠ 405) (hh : h + 1 < 200)
    (hz : f_X12_worked (nI m) (O.2 472 h) (O.2 472 (h + 1)) O = some z) :
    X12_saysOf_l4 k (n + 1) (nI (h + 2)) (nI p) O = X12_saysOf_l4 k n (nI (h + 1)) (nI (p + 1)) (oupJ O 472 h z) := by
  obtain ⟨n1, n2, n3, n4, n5, n6, n7⟩ := hn
  have hm' : m < 2 ^ 31 := by omega
  have e1 : nI (h + 2) + (-1) = nI (h + 1) := pk_m1 (h + 1)
  rw [X12_saysOf_l4]
  simp only [gd_p (inbN h1 (by decide))]
  rw [nI_clamp (by omega), ho, if_neg (neN 408 408 rfl hm' (by decide) n1), if_neg (neN 400 400 rfl hm' (by decide) n2), if_neg (neN 401 401 rfl hm' (by decide) n3), if_neg (neN 404 404 rfl hm' (by decide) n4), if_neg (neN 409 409 rfl hm' (by decide) n5), if_neg (neN 402 402 rfl hm' (by decide) n6), if_neg (neN 405 405 rfl hm' (by decide) n7),
    e1, nI_pred]
  simp only [gd_p (inbN (p := h) (N := 200) (by omega) (by decide)), gd_p (inbN hh (by decide))]
  rw [nI_clamp (n := h) (by omega), nI_clamp (by omega), hz, bnd_s]
  unfold X12_saysOf_j228
  rw [nI_1]
end
