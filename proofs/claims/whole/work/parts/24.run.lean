/-! A law's code on both sides: what relates the steps, and the run in lockstep -/
def nmR (t : Nat) : Nat := match t with | 0 => 1 | 1 => 4 | 2 => 0 | 3 => 2 | 4 => 3 | k => k
def mayL (L t : Nat) : Bool := match t with
  | 1 => L == 0 || L == 3 | 5 => L != 3 | 6 => L != 3 | 7 => L == 0 || L == 2 | 8 => L == 0 | 9 => L == 1 | _ => true
def Ins (a fr i len L : Nat) (dp : Nat → List Bool) (c o v : Int32) : Prop :=
  (∃ k, k ≤ 9999 ∧ c = nI (256 * k + 2) ∧ o = nI 400 ∧ v = nI k ∧ dp (i + 1) = false :: dp i) ∨
  (∃ t, t < 10 ∧ mayL L t = true ∧ c = nI (139 + t) ∧ o = nI 401 ∧ v = nI (nmR t) ∧ dp (i + 1) = false :: dp i) ∨
  (∃ k σ, (k = 43 ∨ k = 45 ∨ k = 42 ∨ k = 47) ∧ c = nI k ∧ o = nI k ∧ dp i = false :: false :: σ ∧ dp (i + 1) = false :: σ) ∨
  (∃ k m σ, ((k, m) = (60, 60) ∨ (k, m) = (62, 62) ∨ (k, m) = (61, 61) ∨ (k, m) = (35, 35) ∨ (k, m) = (4, 300) ∨ (k, m) = (5, 301)) ∧ c = nI k ∧ o = nI m ∧ dp i = false :: false :: σ ∧ dp (i + 1) = true :: σ) ∨
  (∃ k m σ, ((k, m) = (152, 406) ∨ (k, m) = (153, 407)) ∧ c = nI k ∧ o = nI m ∧ dp i = true :: true :: σ ∧ dp (i + 1) = true :: σ) ∨
  (∃ σ, c = nI 155 ∧ o = nI 403 ∧ dp i = false :: false :: σ ∧ dp (i + 1) = false :: σ) ∨
  (∃ σ, c = nI 3 ∧ o = nI 402 ∧ dp i = false :: σ ∧ dp (i + 1) = false :: σ) ∨
  (∃ σ, c = nI 154 ∧ o = nI 405 ∧ dp i = true :: σ ∧ dp (i + 1) = true :: σ) ∨
  (∃ j σ, i < j ∧ j ≤ len ∧ c = nI (256 * (a + j) + 157) ∧ o = nI 404 ∧ v = nI (fr + j) ∧ dp i = true :: σ ∧ dp (i + 1) = σ ∧ dp j = σ) ∨
  (∃ j, i < j ∧ j ≤ len ∧ c = nI (256 * (a + j) + 158) ∧ o = nI 409 ∧ v = nI (fr + j) ∧ dp j = dp i)
/-- the frame of a run: the pile and its top alone -/
def FrS (q : Nat) (C C1 : CM) : Prop := (∀ c, c ≠ laI q → c ≠ laI q + 2 → C1 c = C c) ∧ ∀ k, k ≠ 4 → C1 (laI q) k = C (laI q) k
theorem FrS.refl {q : Nat} {C : CM} : FrS q C C := ⟨fun _ _ _ => rfl, fun _ _ => rfl⟩
theorem FrS.trans {q : Nat} {C C1 C2 : CM} (h : FrS q C C1) (h2 : FrS q C1 C2) : FrS q C C2 := ⟨fun c a b => (h2.1 c a b).trans (h.1 c a b), fun k a => (h2.2 k a).trans (h.2 k a)⟩
theorem FrS.top {q : Nat} {C : CM} {x : Int32} : FrS q C (up2 C (laI q) 4 x) := ⟨fun c a _ => up2_ne a, fun k a => by rw [up2_eq, pk_un a]⟩
theorem FrS.put {q h : Nat} {C : CM} {x : Int32} : FrS q C (up2 C (laI q + 2) h x) := ⟨fun c _ b => up2_ne b, fun k _ => by rw [up2_ne (j := laI q) (by omega)]⟩
theorem step6 {sc p : Nat} {C : CM} (h : p < 300) : f_X6_step sc (nI p) C = some (C (sc + 1) p) := by
  have e : (299 : Int32) = nI 299 := rfl
  unfold f_X6_step f_X11_within
  rw [if_neg (nI_pos (by omega)), e, if_neg (nI_nlt (by omega) (by omega)), if_neg (by decide), gd_p (inbN h (by decide)), nI_clamp (by omega)]
theorem run_un {q n sc p e lft m : Nat} {k : CM → Option (Int32 × CM)} {C : CM} (h1 : p < e) (h2 : e ≤ 300) (h3 : lft + 1 < 2 ^ 31) (hc : C (sc + 1) p = nI m) (hm : m < 2 ^ 31) :
    X1_run_l34 q k (n + 1) sc (nI p) (nI e) (nI (lft + 1)) C = (if nI (m % 256) = (2 : Int32) then (bnd (f_X1_push q (nI (m / 256)) C) (fun C32 => X1_run_l34 q k n sc (nI (p + 1)) (nI e) (nI lft) C32)) else (if (f_X11_within (nI (m % 256)) (139 : Int32) (148 : Int32)) = 0 then (if nI (m % 256) = (158 : Int32) then X1_run_l34 q k n sc (nI (m / 256)) (nI e) (nI lft) C else (if nI (m % 256) = (157 : Int32) then (bnd2 (f_X1_pop q C) (fun r28 C28 => (if r28 = 0 then X1_run_l34 q k n sc (nI (m / 256)) (nI e) (nI lft) C28 else (X1_run_j146 q (fun u2 v3 v4 v5 C => X1_run_l34 q k n u2 v3 v4 v5 C) k sc (nI (p + 1)) (nI e) (nI (lft + 1)) (nI (m % 256)) C28)))) else (X1_run_j146 q (fun u2 v3 v4 v5 C => X1_run_l34 q k n u2 v3 v4 v5 C) k sc (nI (p + 1)) (nI e) (nI (lft + 1)) (nI (m % 256)) C))) else (gd (inb (nI (m % 256) - (139 : Int32)) 10) (bnd (f_X1_push q (C (laI q + 1) (nI (m % 256) - (139 : Int32)).toNatClampNeg) C) (fun C31 => X1_run_l34 q k n sc (nI (p + 1)) (nI e) (nI lft) C31))))) := by
  have e1 : irm (nI m) (256 : Int32) = nI (m % 256) := pk_rem (d := 256) hm (by decide) (by decide)
  have e2 : nI m / (256 : Int32) = nI (m / 256) := pk_div (d := 256) hm (by decide) (by decide)
  have hl : ¬ nI (lft + 1) ≤ 0 := by
    by_cases h : lft + 1 < 2 ^ 31
    · exact nI_nle (by omega) h
    · omega
  show (if nI (lft + 1) ≤ 0 then _ else _) = _
  rw [if_neg hl, if_neg (nI_ge h1 (by omega)), step6 (by omega), hc]
  simp only [bnd_s, e1, e2, X1_run_j248, X1_run_j140, nI_1, pk_m1]
