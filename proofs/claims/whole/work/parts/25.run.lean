def PU (q : Nat) (C : CM) (h : Nat) (x : Int32) : CM := up2 (up2 C (laI q + 2) h x) (laI q) 4 (nI (h + 1))
def PO (q : Nat) (C : CM) (h : Nat) : CM := up2 C (laI q) 4 (nI h)
theorem PU_top {q h : Nat} {C : CM} {x : Int32} : PU q C h x (laI q) 4 = nI (h + 1) := by unfold PU; rw [up2_eq, pk_us]
theorem PU_row {q h : Nat} {C : CM} {x : Int32} : PU q C h x (laI q + 2) = upd (C (laI q + 2)) h x := by unfold PU; rw [up2_ne (by omega), up2_eq]
theorem PU_fr {q h : Nat} {C : CM} {x : Int32} : FrS q C (PU q C h x) := FrS.put.trans FrS.top
theorem PO_top {q h : Nat} {C : CM} : PO q C h (laI q) 4 = nI h := by unfold PO; rw [up2_eq, pk_us]
theorem PO_row {q h : Nat} {C : CM} : PO q C h (laI q + 2) = C (laI q + 2) := by unfold PO; rw [up2_ne (by omega)]
theorem PO_fr {q h : Nat} {C : CM} : FrS q C (PO q C h) := FrS.top
theorem push1 {q h : Nat} {C : CM} (x : Int32) (hh : C (laI q) 4 = nI h) (h64 : h < 64) : f_X1_push q x C = some (PU q C h x) := pushL x hh h64
theorem pop1 {q h : Nat} {C : CM} (hh : C (laI q) 4 = nI (h + 1)) (h64 : h < 64) : f_X1_pop q C = some (C (laI q + 2) h, PO q C h) := popL hh h64
section
variable {q n sc p e lft h : Nat} {k254 : CM → Option (Int32 × CM)} {C : CM}
theorem rc_num (h1 : p < e) (h2 : e ≤ 300) (h3 : lft + 1 < 2 ^ 31) {k : Nat} (hk : k ≤ 9999) (hc : C (sc + 1) p = nI (256 * k + 2)) (ht : C (laI q) 4 = nI h) (h64 : h < 64) :
    X1_run_l34 q k254 (n + 1) sc (nI p) (nI e) (nI (lft + 1)) C = X1_run_l34 q k254 n sc (nI (p + 1)) (nI e) (nI lft) (PU q C h (nI k)) := by
  have e1 : (256 * k + 2) % 256 = 2 := by omega
  have e2 : (256 * k + 2) / 256 = k := by omega
  rw [run_un h1 h2 h3 hc (by omega), e1, e2, if_pos (show nI 2 = (2 : Int32) from rfl), push1 _ ht h64]; rfl
theorem rc_name (h1 : p < e) (h2 : e ≤ 300) (h3 : lft + 1 < 2 ^ 31) {t : Nat} (hk : t < 10) (hc : C (sc + 1) p = nI (139 + t)) (ht : C (laI q) 4 = nI h) (h64 : h < 64) :
    X1_run_l34 q k254 (n + 1) sc (nI p) (nI e) (nI (lft + 1)) C = X1_run_l34 q k254 n sc (nI (p + 1)) (nI e) (nI lft) (PU q C h (C (laI q + 1) t)) := by
  have e1 : (139 + t) % 256 = 139 + t := by omega
  have e3 : nI (139 + t) - (139 : Int32) = nI t := by
    have : nI (139 + t) - nI 139 = nI (139 + t - 139) := pk_sub (by omega)
    rw [show (139 : Int32) = nI 139 from rfl, this, Nat.add_sub_cancel_left]
  have c1 : ¬ nI (139 + t) = (2 : Int32) := fun h => by have := (nI_eq (b := 2) (by omega) (by decide)).mp h; omega
  have c2 : f_X11_within (nI (139 + t)) 139 148 = 1 := by
    unfold f_X11_within
    rw [show (139 : Int32) = nI 139 from rfl, show (148 : Int32) = nI 148 from rfl, if_neg (nI_nlt (by omega) (by omega)), if_neg (nI_nlt (by omega) (by omega))]
  rw [run_un h1 h2 h3 hc (by omega), e1, if_neg c1, c2, if_neg (by decide), e3, gd_p (inbN hk (by decide)), nI_clamp (by omega), push1 _ ht h64]; rfl
/-- to the last block of a step -/
theorem rc_j {m : Nat} (h1 : p < e) (h2 : e ≤ 300) (h3 : lft + 1 < 2 ^ 31) (hc : C (sc + 1) p = nI m) (hm : m < 256) (hn : m ≠ 2 ∧ (m < 139 ∨ 148 < m) ∧ m ≠ 158 ∧ m ≠ 157) :
    X1_run_l34 q k254 (n + 1) sc (nI p) (nI e) (nI (lft + 1)) C = X1_run_j146 q (fun u2 v3 v4 v5 C => X1_run_l34 q k254 n u2 v3 v4 v5 C) k254 sc (nI (p + 1)) (nI e) (nI (lft + 1)) (nI m) C := by
  have ne : ∀ (j : Nat) (J : Int32), J = nI j → j < 1000 → m ≠ j → ¬ nI m = J := fun j J e hj hne h => hne ((nI_eq (by omega) (by omega)).mp (h.trans e))
  have c2 : f_X11_within (nI m) 139 148 = 0 := by
    unfold f_X11_within
    rw [show (139 : Int32) = nI 139 from rfl, show (148 : Int32) = nI 148 from rfl]
    rcases hn.2.1 with hh | hh
    · rw [if_pos (nI_lt hh (by decide))]
    · rw [if_neg (nI_nlt (by omega) (by omega)), if_pos (nI_lt hh (by omega))]
  rw [run_un h1 h2 h3 hc (by omega), Nat.mod_eq_of_lt hm, if_neg (ne 2 2 rfl (by decide) hn.1), c2, if_pos rfl, if_neg (ne 158 158 rfl (by decide) hn.2.2.1), if_neg (ne 157 157 rfl (by decide) hn.2.2.2)]
theorem rc_bin {m : Nat} {z : Int32} (h1 : p < e) (h2 : e ≤ 300) (h3 : lft + 1 < 2 ^ 31) (hc : C (sc + 1) p = nI m) (hm : m < 256) (hn : (m ≠ 2 ∧ (m < 139 ∨ 148 < m) ∧ m ≠ 158 ∧ m ≠ 157) ∧ m ≠ 155 ∧ m ≠ 3 ∧ m ≠ 154) (ht : C (laI q) 4 = nI (h + 2)) (h64 : h + 1 < 64)
    (hz : f_X1_joined (nI m) (C (laI q + 2) h) (C (laI q + 2) (h + 1)) = some z) :
    X1_run_l34 q k254 (n + 1) sc (nI p) (nI e) (nI (lft + 1)) C = X1_run_l34 q k254 n sc (nI (p + 1)) (nI e) (nI lft) (PU q (PO q (PO q C (h + 1)) h) h z) := by
  have ne : ∀ (j : Nat) (J : Int32), J = nI j → j < 1000 → m ≠ j → ¬ nI m = J := fun j J e hj hne h => hne ((nI_eq (by omega) (by omega)).mp (h.trans e))
  rw [rc_j h1 h2 h3 hc hm hn.1]
  unfold X1_run_j146
  rw [if_neg (ne 155 155 rfl (by decide) hn.2.1), if_neg (ne 3 3 rfl (by decide) hn.2.2.1), if_neg (ne 154 154 rfl (by decide) hn.2.2.2), if_neg (ne 157 157 rfl (by decide) hn.1.2.2.2), pop1 (h := h + 1) ht h64, bnd2_s, pop1 (h := h) PO_top (by omega), bnd2_s, PO_row, hz, bnd_s, push1 _ PO_top (by omega), bnd_s]
  unfold X1_run_j248
  rw [pk_m1]
theorem rc_owed {z : Int32} (h1 : p < e) (h2 : e ≤ 300) (h3 : lft + 1 < 2 ^ 31) (hc : C (sc + 1) p = nI 155) (ht : C (laI q) 4 = nI (h + 2)) (h64 : h + 1 < 64)
    (hz : f_X7_owed (stI q) (C (laI q + 2) h) (C (laI q + 2) (h + 1)) (PO q (PO q C (h + 1)) h) = some z) :
    X1_run_l34 q k254 (n + 1) sc (nI p) (nI e) (nI (lft + 1)) C = X1_run_l34 q k254 n sc (nI (p + 1)) (nI e) (nI lft) (PU q (PO q (PO q C (h + 1)) h) h z) := by
  rw [rc_j h1 h2 h3 hc (by decide) (by decide)]
  unfold X1_run_j146
  rw [if_pos (show nI 155 = (155 : Int32) from rfl), pop1 (h := h + 1) ht h64, bnd2_s, pop1 (h := h) PO_top (by omega), bnd2_s, PO_row, hz, bnd_s, push1 _ PO_top (by omega), bnd_s]
  unfold X1_run_j248
  rw [pk_m1]
theorem rc_neg (h1 : p < e) (h2 : e ≤ 300) (h3 : lft + 1 < 2 ^ 31) (hc : C (sc + 1) p = nI 3) (ht : C (laI q) 4 = nI (h + 1)) (h64 : h < 64) :
    X1_run_l34 q k254 (n + 1) sc (nI p) (nI e) (nI (lft + 1)) C = X1_run_l34 q k254 n sc (nI (p + 1)) (nI e) (nI lft) (PU q (PO q C h) h (-C (laI q + 2) h)) := by
  rw [rc_j h1 h2 h3 hc (by decide) (by decide)]
  unfold X1_run_j146
  rw [if_neg (show ¬ nI 3 = (155 : Int32) by decide), if_pos (show nI 3 = (3 : Int32) from rfl), pop1 (h := h) ht h64, bnd2_s, push1 _ PO_top (by omega), bnd_s]
  unfold X1_run_j248
  rw [pk_m1]
theorem rc_not (h1 : p < e) (h2 : e ≤ 300) (h3 : lft + 1 < 2 ^ 31) (hc : C (sc + 1) p = nI 154) (ht : C (laI q) 4 = nI (h + 1)) (h64 : h < 64) :
    X1_run_l34 q k254 (n + 1) sc (nI p) (nI e) (nI (lft + 1)) C = X1_run_l34 q k254 n sc (nI (p + 1)) (nI e) (nI lft) (PU q (PO q C h) h (1 - C (laI q + 2) h)) := by
  rw [rc_j h1 h2 h3 hc (by decide) (by decide)]
  unfold X1_run_j146
  rw [if_neg (show ¬ nI 154 = (155 : Int32) by decide), if_neg (show ¬ nI 154 = (3 : Int32) by decide), if_pos (show nI 154 = (154 : Int32) from rfl), pop1 (h := h) ht h64, bnd2_s, push1 _ PO_top (by omega), bnd_s]
  unfold X1_run_j248
  rw [pk_m1]
theorem rc_then {j : Nat} (h1 : p < e) (h2 : e ≤ 300) (h3 : lft + 1 < 2 ^ 31) (hj : j ≤ 300) (hc : C (sc + 1) p = nI (256 * j + 157)) (ht : C (laI q) 4 = nI (h + 1)) (h64 : h < 64) :
    X1_run_l34 q k254 (n + 1) sc (nI p) (nI e) (nI (lft + 1)) C = X1_run_l34 q k254 n sc (if C (laI q + 2) h = 0 then nI j else nI (p + 1)) (nI e) (nI lft) (PO q C h) := by
  have e1 : (256 * j + 157) % 256 = 157 := by omega
  have e2 : (256 * j + 157) / 256 = j := by omega
  rw [run_un h1 h2 h3 hc (by omega), e1, e2, if_neg (show ¬ nI 157 = (2 : Int32) by decide), if_pos (show f_X11_within (nI 157) 139 148 = 0 from rfl), if_neg (show ¬ nI 157 = (158 : Int32) by decide), if_pos (show nI 157 = (157 : Int32) from rfl), pop1 (h := h) ht h64, bnd2_s]
  by_cases c : C (laI q + 2) h = 0
  · rw [if_pos c, if_pos c]
  · rw [if_neg c, if_neg c]
    unfold X1_run_j146 X1_run_j248
    rw [if_neg (show ¬ nI 157 = (155 : Int32) by decide), if_neg (show ¬ nI 157 = (3 : Int32) by decide), if_neg (show ¬ nI 157 = (154 : Int32) by decide), if_pos (show nI 157 = (157 : Int32) from rfl), pk_m1]
theorem rc_else {j : Nat} (h1 : p < e) (h2 : e ≤ 300) (h3 : lft + 1 < 2 ^ 31) (hj : j ≤ 300) (hc : C (sc + 1) p = nI (256 * j + 158)) :
    X1_run_l34 q k254 (n + 1) sc (nI p) (nI e) (nI (lft + 1)) C = X1_run_l34 q k254 n sc (nI j) (nI e) (nI lft) C := by
  have e1 : (256 * j + 158) % 256 = 158 := by omega
  have e2 : (256 * j + 158) / 256 = j := by omega
  rw [run_un h1 h2 h3 hc (by omega), e1, e2, if_neg (show ¬ nI 158 = (2 : Int32) by decide), if_pos (show f_X11_within (nI 158) 139 148 = 0 from rfl), if_pos (show nI 158 = (158 : Int32) from rfl)]
end
