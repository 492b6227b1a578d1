/-! Tokens: bytes, letters, words -/
def yb (b : Nat) : Int32 := if b < 128 then nI b else nI b - nI 256
def ltr (b : Nat) : Bool := (decide (97 ≤ b) && decide (b ≤ 122)) || (decide (65 ≤ b) && decide (b ≤ 90))
def dgt (b : Nat) : Bool := decide (48 ≤ b) && decide (b ≤ 57)
theorem ltr_C : ∀ b, b < 256 → f_X8_isLetter (nI b) = (if ltr b then 1 else 0) := by decide +kernel
theorem ltr_O : ∀ b, b < 256 → f_X12_isLetter (yb b) = (if ltr b then 1 else 0) := by decide +kernel
theorem dgt_C : ∀ b, b < 256 → f_X8_isDigit (nI b) = (if dgt b then 1 else 0) := by decide +kernel
theorem dgt_O : ∀ b, b < 256 → f_X12_in (yb b) 48 57 = (if dgt b then 1 else 0) := by decide +kernel
theorem yb_lo {b : Nat} (h : b < 128) : yb b = nI b := if_pos h
theorem ltr_r {b : Nat} (h : ltr b = true) : 65 ≤ b ∧ b ≤ 122 := by
  unfold ltr at h
  simp at h
  omega
theorem dgt_r {b : Nat} (h : dgt b = true) : 48 ≤ b ∧ b ≤ 57 := by
  unfold dgt at h
  simp at h
  omega
def WL : List (List Nat) := [[115, 105, 122, 101], [109, 111, 114, 101], [108, 97, 116, 101], [114, 117, 105, 110], [111, 110, 101], [98, 111, 119], [111, 119, 101], [119, 97, 108, 107], [114, 101, 116, 114, 101, 97, 116], [99, 108, 101, 97, 114], [102, 101, 97, 115, 116], [104, 111, 117, 114], [98, 97, 99, 107], [100, 97, 121], [119, 104, 111], [97, 103, 101], [119, 104, 111, 109], [111, 116, 104, 101, 114], [111, 119, 101, 115], [100, 117, 101], [103, 105, 118, 101, 110], [97, 116], [116, 111], [111, 102], [97, 110, 100], [111, 114], [110, 111, 116], [111, 119, 101, 100], [105, 102], [116, 104, 101, 110], [101, 108, 115, 101], [101, 110, 100]]
def flW : List (List Nat) → List Nat
  | [] => []
  | w :: l => w ++ 32 :: flW l
theorem ch_fl : ∀ k, k < 147 → chs0 (nI k) = nI ((flW WL).getD k 0) := by decide +kernel
theorem fl_len : (flW WL).length = 147 := by decide +kernel
def bsF (b : Nat → Nat) : Nat → Nat → List Nat
  | _, 0 => []
  | i, m + 1 => b i :: bsF b (i + 1) m
def encR : List Nat → Nat
  | [] => 0
  | x :: l => 64 * encR l + (x - 64)
def ER (b : Nat → Nat) (s : Nat) : Nat → Nat
  | 0 => 0
  | n + 1 => 64 * ER b s n + (b (s + n) - 64)
theorem bsF_len {b : Nat → Nat} : ∀ n s, (bsF b s n).length = n := by
  intro n
  induction n with
  | zero => intro s; rfl
  | succ n ih => intro s; show (bsF b (s + 1) n).length + 1 = n + 1; rw [ih]
theorem bsF_snoc {b : Nat → Nat} : ∀ n s, bsF b s (n + 1) = bsF b s n ++ [b (s + n)] := by
  intro n
  induction n with
  | zero => intro s; rfl
  | succ n ih =>
    intro s
    show b s :: bsF b (s + 1) (n + 1) = b s :: (bsF b (s + 1) n ++ [b (s + (n + 1))])
    rw [ih, show s + 1 + n = s + (n + 1) by omega]
theorem ER_enc {b : Nat → Nat} {s : Nat} : ∀ n, ER b s n = encR (bsF b s n).reverse := by
  intro n
  induction n with
  | zero => rfl
  | succ n ih =>
    rw [bsF_snoc, List.reverse_append]
    show 64 * ER b s n + (b (s + n) - 64) = 64 * encR (bsF b s n).reverse + (b (s + n) - 64)
    rw [ih]
theorem encR_inj : ∀ (l l' : List Nat), (∀ x, x ∈ l → 65 ≤ x ∧ x ≤ 122) → (∀ x, x ∈ l' → 65 ≤ x ∧ x ≤ 122) → encR l = encR l' → l = l' := by
  intro l
  induction l with
  | nil =>
    intro l' _ h' e
    cases l' with
    | nil => rfl
    | cons y l' =>
      have := h' y (List.mem_cons_self ..)
      unfold encR at e
      omega
  | cons x l ih =>
    intro l' h h' e
    have hx := h x (List.mem_cons_self ..)
    cases l' with
    | nil =>
      unfold encR at e
      omega
    | cons y l' =>
      have hy := h' y (List.mem_cons_self ..)
      unfold encR at e
      have e1 : encR l = encR l' := by omega
      have e2 : x = y := by omega
      rw [e2, ih l' (fun z hz => h z (List.mem_cons_of_mem _ hz)) (fun z hz => h' z (List.mem_cons_of_mem _ hz)) e1]
theorem bsF_mem {b : Nat → Nat} {P : Nat → Prop} : ∀ n s, (∀ i, i < n → P (b (s + i))) → ∀ x, x ∈ bsF b s n → P x := by
  intro n
  induction n with
  | zero => intro s _ x hx; exact absurd hx (List.not_mem_nil)
  | succ n ih =>
    intro s h x hx
    rcases List.mem_cons.mp hx with rfl | hx
    · exact h 0 (by omega)
    · exact ih (s + 1) (fun i hi => by rw [show s + 1 + i = s + (i + 1) by omega]; exact h (i + 1) (by omega)) x hx
theorem ER_lt {b : Nat → Nat} {s : Nat} : ∀ n, (∀ i, i < n → 65 ≤ b (s + i) ∧ b (s + i) ≤ 122) → ER b s n < 64 ^ n := by
  intro n
  induction n with
  | zero => intro _; exact Nat.one_pos
  | succ n ih =>
    intro h
    have h1 := ih (fun i hi => h i (by omega))
    have h2 := h n (by omega)
    show 64 * ER b s n + (b (s + n) - 64) < 64 ^ (n + 1)
    rw [Nat.pow_succ]
    omega
def fW (l : List Nat) : List (List Nat) → Nat → Option Nat
  | [], _ => none
  | w :: ws, k => if w = l then some k else fW l ws (k + 1)
theorem fW_some {l : List Nat} : ∀ ws k r, fW l ws k = some r → k ≤ r ∧ r < k + ws.length ∧ ws.getD (r - k) [] = l := by
  intro ws
  induction ws with
  | nil => intro k r h; unfold fW at h; cases h
  | cons w ws ih =>
    intro k r h
    unfold fW at h
    by_cases c : w = l
    · rw [if_pos c] at h
      have : k = r := Option.some.inj h
      subst this
      refine ⟨Nat.le_refl _, by simp, ?_⟩
      rw [Nat.sub_self]
      exact c
    · rw [if_neg c] at h
      obtain ⟨h1, h2, h3⟩ := ih (k + 1) r h
      refine ⟨by omega, by simp; omega, ?_⟩
      rw [show r - k = (r - (k + 1)) + 1 by omega]
      exact h3
theorem fW_none {l : List Nat} : ∀ ws k, fW l ws k = none → l ∉ ws := by
  intro ws
  induction ws with
  | nil => intro k _; exact List.not_mem_nil
  | cons w ws ih =>
    intro k h
    unfold fW at h
    by_cases c : w = l
    · rw [if_pos c] at h; cases h
    · rw [if_neg c] at h
      intro hm
      rcases List.mem_cons.mp hm with e | hm
      · exact c e.symm
      · exact ih (k + 1) h hm
def wm (w : Nat) : Nat := if w < 13 then w else if w < 21 then w + 11 else w - 8
theorem wm_lt {w : Nat} (h : w < 32) : wm w < 32 := by unfold wm; split; omega; split <;> omega
theorem WL_let : ∀ w, w ∈ WL → ∀ x, x ∈ w → 97 ≤ x ∧ x ≤ 122 := by decide +kernel
theorem WL_len : ∀ w, w ∈ WL → w.length ≤ 7 := by decide +kernel
theorem wo_yes : ∀ i, i < 32 → f_X12_wordOf (lN (encR (WL.getD i []).reverse)) = nI (wm i) := by decide +kernel
theorem lg_ne {E c : Nat} (hE : E < 2 ^ 63) (hc : c < 2 ^ 63) (h : E ≠ c) : ¬ lg_cmp (lN E) (lN c) = 0 := by
  unfold lg_cmp
  by_cases h1 : lN E > lN c
  · rw [if_pos h1]; decide
  · rw [if_neg h1, if_neg (fun e => h ((pk_lEQ hE hc).mp e))]; decide
theorem KW_has : ∀ c, c ∈ ([13541029, 11992229, 11672869, 13326958, 195493, 142327, 196069, 14555947, 3476587960436, 598890610, 647372020, 10681714, 9050347, 2164, 3375, 3046, 138148, 3058, 191476, 12548452, 2662, 13797742, 9882853, 154532, 149625, 227887, 137701, 14584813, 802326898, 12548467, 150885, 665282926] : List Nat) → c ∈ WL.map (fun w => encR w.reverse) := by decide +kernel
theorem wo_no {E : Nat} (hE : E < 2 ^ 63) (h : E ∉ ([13541029, 11992229, 11672869, 13326958, 195493, 142327, 196069, 14555947, 3476587960436, 598890610, 647372020, 10681714, 9050347, 2164, 3375, 3046, 138148, 3058, 191476, 12548452, 2662, 13797742, 9882853, 154532, 149625, 227887, 137701, 14584813, 802326898, 12548467, 150885, 665282926] : List Nat)) : f_X12_wordOf (lN E) = -1 := by
  have g : ∀ c, c ∈ ([13541029, 11992229, 11672869, 13326958, 195493, 142327, 196069, 14555947, 3476587960436, 598890610, 647372020, 10681714, 9050347, 2164, 3375, 3046, 138148, 3058, 191476, 12548452, 2662, 13797742, 9882853, 154532, 149625, 227887, 137701, 14584813, 802326898, 12548467, 150885, 665282926] : List Nat) → E ≠ c := fun c hc e => h (e ▸ hc)
  unfold f_X12_wordOf
  rw [if_neg (show ¬ lg_cmp (lN E) (13541029 : Int64) = 0 from lg_ne (c := 13541029) hE (by decide) (g 13541029 (by decide)))]
  rw [if_neg (show ¬ lg_cmp (lN E) (11992229 : Int64) = 0 from lg_ne (c := 11992229) hE (by decide) (g 11992229 (by decide)))]
  rw [if_neg (show ¬ lg_cmp (lN E) (11672869 : Int64) = 0 from lg_ne (c := 11672869) hE (by decide) (g 11672869 (by decide)))]
  rw [if_neg (show ¬ lg_cmp (lN E) (13326958 : Int64) = 0 from lg_ne (c := 13326958) hE (by decide) (g 13326958 (by decide)))]
  rw [if_neg (show ¬ lg_cmp (lN E) (195493 : Int64) = 0 from lg_ne (c := 195493) hE (by decide) (g 195493 (by decide)))]
  rw [if_neg (show ¬ lg_cmp (lN E) (142327 : Int64) = 0 from lg_ne (c := 142327) hE (by decide) (g 142327 (by decide)))]
  rw [if_neg (show ¬ lg_cmp (lN E) (196069 : Int64) = 0 from lg_ne (c := 196069) hE (by decide) (g 196069 (by decide)))]
  rw [if_neg (show ¬ lg_cmp (lN E) (14555947 : Int64) = 0 from lg_ne (c := 14555947) hE (by decide) (g 14555947 (by decide)))]
  rw [if_neg (show ¬ lg_cmp (lN E) (3476587960436 : Int64) = 0 from lg_ne (c := 3476587960436) hE (by decide) (g 3476587960436 (by decide)))]
  rw [if_neg (show ¬ lg_cmp (lN E) (598890610 : Int64) = 0 from lg_ne (c := 598890610) hE (by decide) (g 598890610 (by decide)))]
  rw [if_neg (show ¬ lg_cmp (lN E) (647372020 : Int64) = 0 from lg_ne (c := 647372020) hE (by decide) (g 647372020 (by decide)))]
  rw [if_neg (show ¬ lg_cmp (lN E) (10681714 : Int64) = 0 from lg_ne (c := 10681714) hE (by decide) (g 10681714 (by decide)))]
  rw [if_neg (show ¬ lg_cmp (lN E) (9050347 : Int64) = 0 from lg_ne (c := 9050347) hE (by decide) (g 9050347 (by decide)))]
  rw [if_neg (show ¬ lg_cmp (lN E) (2164 : Int64) = 0 from lg_ne (c := 2164) hE (by decide) (g 2164 (by decide)))]
  rw [if_neg (show ¬ lg_cmp (lN E) (3375 : Int64) = 0 from lg_ne (c := 3375) hE (by decide) (g 3375 (by decide)))]
  rw [if_neg (show ¬ lg_cmp (lN E) (3046 : Int64) = 0 from lg_ne (c := 3046) hE (by decide) (g 3046 (by decide)))]
  rw [if_neg (show ¬ lg_cmp (lN E) (138148 : Int64) = 0 from lg_ne (c := 138148) hE (by decide) (g 138148 (by decide)))]
  rw [if_neg (show ¬ lg_cmp (lN E) (3058 : Int64) = 0 from lg_ne (c := 3058) hE (by decide) (g 3058 (by decide)))]
  rw [if_neg (show ¬ lg_cmp (lN E) (191476 : Int64) = 0 from lg_ne (c := 191476) hE (by decide) (g 191476 (by decide)))]
  rw [if_neg (show ¬ lg_cmp (lN E) (12548452 : Int64) = 0 from lg_ne (c := 12548452) hE (by decide) (g 12548452 (by decide)))]
  rw [if_neg (show ¬ lg_cmp (lN E) (2662 : Int64) = 0 from lg_ne (c := 2662) hE (by decide) (g 2662 (by decide)))]
  rw [if_neg (show ¬ lg_cmp (lN E) (13797742 : Int64) = 0 from lg_ne (c := 13797742) hE (by decide) (g 13797742 (by decide)))]
  rw [if_neg (show ¬ lg_cmp (lN E) (9882853 : Int64) = 0 from lg_ne (c := 9882853) hE (by decide) (g 9882853 (by decide)))]
  rw [if_neg (show ¬ lg_cmp (lN E) (154532 : Int64) = 0 from lg_ne (c := 154532) hE (by decide) (g 154532 (by decide)))]
  rw [if_neg (show ¬ lg_cmp (lN E) (149625 : Int64) = 0 from lg_ne (c := 149625) hE (by decide) (g 149625 (by decide)))]
  rw [if_neg (show ¬ lg_cmp (lN E) (227887 : Int64) = 0 from lg_ne (c := 227887) hE (by decide) (g 227887 (by decide)))]
  rw [if_neg (show ¬ lg_cmp (lN E) (137701 : Int64) = 0 from lg_ne (c := 137701) hE (by decide) (g 137701 (by decide)))]
  rw [if_neg (show ¬ lg_cmp (lN E) (14584813 : Int64) = 0 from lg_ne (c := 14584813) hE (by decide) (g 14584813 (by decide)))]
  rw [if_neg (show ¬ lg_cmp (lN E) (802326898 : Int64) = 0 from lg_ne (c := 802326898) hE (by decide) (g 802326898 (by decide)))]
  rw [if_neg (show ¬ lg_cmp (lN E) (12548467 : Int64) = 0 from lg_ne (c := 12548467) hE (by decide) (g 12548467 (by decide)))]
  rw [if_neg (show ¬ lg_cmp (lN E) (150885 : Int64) = 0 from lg_ne (c := 150885) hE (by decide) (g 150885 (by decide)))]
  rw [if_neg (show ¬ lg_cmp (lN E) (665282926 : Int64) = 0 from lg_ne (c := 665282926) hE (by decide) (g 665282926 (by decide)))]
theorem wo_none {E : List Nat} (h1 : ∀ x, x ∈ E → 65 ≤ x ∧ x ≤ 122) (h2 : encR E.reverse < 2 ^ 63) (h : E ∉ WL) : f_X12_wordOf (lN (encR E.reverse)) = -1 := by
  refine wo_no h2 (fun hm => ?_)
  obtain ⟨w, hw, e⟩ := List.mem_map.mp (KW_has _ hm)
  have := encR_inj w.reverse E.reverse (fun x hx => by have := WL_let w hw x (List.mem_reverse.mp hx); omega) (fun x hx => h1 x (List.mem_reverse.mp hx)) e
  exact h (List.reverse_inj.mp this ▸ hw)
