/-! The reader: the first of owed is over -/
theorem one_first {q : Nat} {O : OM} (h : O.1 446 22 = nI (q + 1)) (hq : q < 40) (hF : O.1 458 q = nI 10) : f_X12_oneIsOver O = f_X12_bySecond (oup O 446 28 2) := by
  unfold f_X12_oneIsOver
  rw [show FU = 9999 + 1 from rfl, X12_oneIsOver_l0, top_v h hq, bnd_s, bnd_s, hF, if_neg (show ¬ nI 10 = (7 : Int32) by decide), if_neg (show ¬ nI 10 = (11 : Int32) by decide)]
  unfold X12_oneIsOver_j64
  rw [top_v (O := oup O 446 28 2) (nf := q) (by rw [o2n (by decide)]; exact h) hq, bnd_s, oup_ne (by decide), hF, if_pos (show nI 10 = (10 : Int32) from rfl)]
  cases f_X12_bySecond (oup O 446 28 2) <;> rfl
