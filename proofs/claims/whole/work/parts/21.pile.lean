/-! The pile of a law's run, on both sides -/
theorem pushL {q : Nat} {C : CM} {h : Nat} (x : Int32) (hh : C (laI q) 4 = nI h) (h64 : h < 64) : f_X1_push q x C = some (up2 (up2 C (laI q + 2) h x) (laI q) 4 (nI (h + 1))) := by
  have e : (64 : Int32) = nI 64 := rfl
  unfold f_X1_push
  rw [hh, if_neg (nI_pos (by omega)), e, if_neg (nI_ge h64 (by decide)), gd_p (inbN h64 (by decide)), nI_clamp (by omega), up2_ne (j := laI q) (by omega), hh, nI_1]
theorem popL {q : Nat} {C : CM} {h : Nat} (hh : C (laI q) 4 = nI (h + 1)) (h64 : h < 64) : f_X1_pop q C = some (C (laI q + 2) h, up2 C (laI q) 4 (nI h)) := by
  have e : (64 : Int32) = nI 64 := rfl
  have e1 : nI (h + 1) - 1 = nI h := nI_pred h
  unfold f_X1_pop
  rw [hh, e, if_neg (nI_nle (by omega) (by omega)), if_pos (nI_le (by omega) (by decide)), e1, up2_eq, pk_us, gd_p (inbN h64 (by decide)), nI_clamp (by omega), up2_ne (j := laI q + 2) (by omega)]
/-- a value of the pile: a condition (true) or a number -/
def VR (t : Bool) (x : Int32) (y : Int64) : Prop := y = x.toInt64 ∧ (t = true → x = 0 ∨ x = 1) ∧ -1000000 ≤ x.toInt ∧ x.toInt ≤ 1000000
def StkR : List Bool → (Nat → Int32) → (Nat → Int64) → Prop
  | [], _, _ => True
  | t :: τ, f, g => VR t (f τ.length) (g τ.length) ∧ StkR τ f g
theorem StkR_upd {τ : List Bool} {f f' : Nat → Int32} {g g' : Nat → Int64} (h : StkR τ f g) (hf : ∀ k, k < τ.length → f' k = f k) (hg : ∀ k, k < τ.length → g' k = g k) : StkR τ f' g' := by
  induction τ with
  | nil => exact True.intro
  | cons t τ ih =>
    have hl : (t :: τ).length = τ.length + 1 := rfl
    exact ⟨by rw [hf _ (by omega), hg _ (by omega)]; exact h.1, ih h.2 (fun k hk => hf k (by omega)) (fun k hk => hg k (by omega))⟩
theorem StkR_push {τ : List Bool} {t : Bool} {f : Nat → Int32} {g : Nat → Int64} {x : Int32} {y : Int64} (h : StkR τ f g) (hv : VR t x y) : StkR (t :: τ) (upd f τ.length x) (vp_updL g τ.length y) := by
  refine ⟨?_, StkR_upd h (fun k hk => pk_un (by omega)) (fun k hk => pk_uLn (by omega))⟩
  rw [pk_us, pk_uLs]; exact hv
