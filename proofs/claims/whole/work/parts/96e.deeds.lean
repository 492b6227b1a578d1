/-! The reader: numbers of deeds -/
theorem wi_y {k lo hi : Nat} (h1 : lo ≤ k) (h2 : k ≤ hi) (hb : hi < 2 ^ 31) : f_X11_within (nI k) (nI lo) (nI hi) = 1 ∧ f_X12_in (nI k) (nI lo) (nI hi) = 1 := by
  unfold f_X11_within f_X12_in
  rw [if_neg (nI_nlt h1 (by omega)), if_neg (nI_nlt h2 hb)]
  exact ⟨rfl, rfl⟩
theorem wi_o {k lo hi : Nat} (h : k < lo ∨ hi < k) (hk : k < 2 ^ 31) (hl : lo < 2 ^ 31) : f_X11_within (nI k) (nI lo) (nI hi) = 0 ∧ f_X12_in (nI k) (nI lo) (nI hi) = 0 := by
  unfold f_X11_within f_X12_in
  by_cases c : k < lo
  · rw [if_pos (nI_lt c hl)]
    exact ⟨rfl, rfl⟩
  · rw [if_neg (nI_nlt (by omega) hk), if_pos (nI_lt (by omega) hk)]
    exact ⟨rfl, rfl⟩
theorem bnd2_id {α β : Type} (x : Option (α × β)) : bnd2 x (fun r y => some (r, y)) = x := by
  cases x with
  | none => rfl
  | some p => cases p; rfl
/-- both go on, or both are in the same fault -/
def DS (L : Nat) (b : Nat → Nat) (s0 : Nat) (C : CM) (O : OM) : Prop :=
  (C 406 1 = 0 ∧ C 406 2 = -1 ∧ O.1 446 19 = 0 ∧ O.1 446 20 = -1 ∧ ∃ s, s0 ≤ s ∧ TS L b s C O) ∨ ∃ v, 1 ≤ v ∧ v ≤ 6 ∧ C 406 1 = nI v ∧ O.1 446 19 = nI v ∧ O.1 446 20 = C 406 2
theorem DS.row {L : Nat} {b : Nat → Nat} {s0 : Nat} {C : CM} {O : OM} (h : DS L b s0 C O) {c k : Nat} {x : Int32} (h1 : c ≠ 446) (h2 : c ≠ 449) : DS L b s0 C (oup O c k x) := by
  have e : (oup O c k x).1 446 = O.1 446 := oup_ne (fun e => h1 e.symm)
  rcases h with ⟨a1, a2, a3, a4, s, a5, a6⟩ | ⟨v, a1, a2, a3, a4, a5⟩
  · exact Or.inl ⟨a1, a2, by rw [e]; exact a3, by rw [e]; exact a4, s, a5, a6.congr rfl rfl (fun k _ _ => by rw [e]) (oup_ne (fun e => h2 e.symm))⟩
  · exact Or.inr ⟨v, a1, a2, a3, by rw [e]; exact a4, by rw [e]; exact a5⟩
theorem ds_err {L : Nat} {b : Nat → Nat} {s0 s v : Nat} {C : CM} {O : OM} (hv : 1 ≤ v) (hv6 : v ≤ 6) : DS L b s0 (up2 (up2 C 406 1 (nI v)) 406 2 (nI s)) (oup (oup O 446 19 (nI v)) 446 20 (nI s)) :=
  Or.inr ⟨v, hv, hv6, by rw [u2n (by decide), u2s], by rw [o2n (by decide), o2s], by rw [o2s, u2s]⟩
def DF (p : Nat) (C : CM) (O : OM) (C1 : CM) (O1 : OM) : Prop :=
  (∀ c, c ≠ 404 → c ≠ 406 → c ≠ 412 → C1 c = C c) ∧ C1 404 1 = C 404 1 ∧ (∀ k, k ≠ 1 → k ≠ 2 → C1 406 k = C 406 k) ∧ (∀ k, k ≠ p → C1 412 k = C 412 k) ∧ (∀ c, c ≠ 446 → O1.1 c = O.1 c) ∧ (∀ k, k < 15 ∨ 20 < k → O1.1 446 k = O.1 446 k) ∧ O1.2 = O.2
theorem DF.refl {p : Nat} {C : CM} {O : OM} : DF p C O C O := ⟨fun _ _ _ _ => rfl, rfl, fun _ _ _ => rfl, fun _ _ => rfl, fun _ _ => rfl, fun _ _ => rfl, rfl⟩
theorem DF.trans {p : Nat} {C C1 C2 : CM} {O O1 O2 : OM} (h : DF p C O C1 O1) (g : DF p C1 O1 C2 O2) : DF p C O C2 O2 :=
  ⟨fun c a b d => (g.1 c a b d).trans (h.1 c a b d), g.2.1.trans h.2.1, fun k a b => (g.2.2.1 k a b).trans (h.2.2.1 k a b), fun k a => (g.2.2.2.1 k a).trans (h.2.2.2.1 k a), fun c a => (g.2.2.2.2.1 c a).trans (h.2.2.2.2.1 c a), fun k a => (g.2.2.2.2.2.1 k a).trans (h.2.2.2.2.2.1 k a), g.2.2.2.2.2.2.trans h.2.2.2.2.2.2⟩
theorem DF.n {p : Nat} {C C1 : CM} {O O1 : OM} (h : FC4 C C1) (g : FO6 O O1) : DF p C O C1 O1 :=
  ⟨fun c a _ _ => h.1 c a, h.2, fun k _ _ => by rw [h.1 406 (by decide)], fun k _ => by rw [h.1 412 (by decide)], g.1, fun k a => g.2.1 k (by omega), g.2.2⟩
theorem DF.er {p : Nat} {C : CM} {O : OM} {x y x' y' : Int32} : DF p C O (up2 (up2 C 406 1 x) 406 2 y) (oup (oup O 446 19 x') 446 20 y') :=
  ⟨fun c _ a _ => by rw [up2_ne a, up2_ne a], by rw [up2_ne (by decide), up2_ne (by decide)], fun k a b => by rw [u2n b, u2n a], fun k _ => by rw [up2_ne (by decide), up2_ne (by decide)], fun c a => by rw [oup_ne a, oup_ne a], fun k a => by rw [o2n (by omega), o2n (by omega)], rfl⟩
theorem DF.t {p : Nat} {C : CM} {O : OM} {x : Int32} : DF p C O (up2 C 412 p x) O :=
  ⟨fun c _ _ a => up2_ne a, by rw [up2_ne (by decide)], fun k _ _ => by rw [up2_ne (by decide)], fun k a => u2n a, fun _ _ => rfl, fun _ _ => rfl, rfl⟩
theorem tell_v {C : CM} {nc i : Nat} {x : Int32} (h : C 407 6 = nI (nc + 1)) (hi : i < 3) (hnc : nc < 24) : f_X6_tellNumber 407 (nI i) x C = some (up2 C 412 (3 * nc + i) x) := by
  have e : (nI nc) * (3 : Int32) + nI i = nI (3 * nc + i) := by rw [show (3 : Int32) = nI 3 from rfl, pk_mul, nI_add, Nat.mul_comm]
  unfold f_X6_tellNumber
  rw [h, nI_pred, e, show f_X11_within (nI i) 0 2 = 1 from (wi_y (lo := 0) (hi := 2) (by omega) (by omega) (by decide)).1, show f_X11_within (nI (3 * nc + i)) 0 71 = 1 from (wi_y (lo := 0) (hi := 71) (by omega) (by omega) (by decide)).1, if_neg n10, if_neg n10, gd_p (inbN (by omega) (by decide)), nI_clamp (by omega)]
section
variable {L : Nat} {b : Nat → Nat} {s0 : Nat} {C : CM} {O : OM}
theorem num_d {i nc lo hi : Nat} (hi3 : i < 3) (hnc : nc < 24) (hlh : lo ≤ hi) (hh : hi ≤ 9999) (h6 : C 407 6 = nI (nc + 1)) (h : DS L b s0 C O) :
    ∃ C1 O1 v, f_X4_readNumber (nI i) (nI lo) (nI hi) C = some C1 ∧ f_X12_number (nI lo) (nI hi) O = some (v, O1) ∧ DS L b s0 C1 O1 ∧ DF (3 * nc + i) C O C1 O1 ∧ (C1 406 1 = 0 → C 406 1 = 0 ∧ C1 412 (3 * nc + i) = v ∧ ∃ x, lo ≤ x ∧ x ≤ hi ∧ v = nI x) := by
  unfold f_X4_readNumber f_X12_number X12_number_j15
  rcases h with ⟨f1, f2, g1, g2, s, hs, ts⟩ | ⟨v, hv, hv6, f1, g1, g2⟩
  · rw [is_v f1, g1, if_neg (show ¬ (0 : Int32) < 0 by decide)]
    have bad : ∀ v : Nat, 1 ≤ v → v ≤ 6 → f_X4_fail (nI v) C = some (up2 (up2 C 406 1 (nI v)) 406 2 (nI s)) ∧ f_X12_errs (nI v) O = some (oup (oup O 446 19 (nI v)) 446 20 (nI s)) := fun v _ _ => ⟨fail_v f1 ts.at.1, errs_v g1 ts.at.2⟩
    have ne0 : ∀ v : Nat, 1 ≤ v → v ≤ 6 → (up2 (up2 C 406 1 (nI v)) 406 2 (nI s)) 406 1 = 0 → False := fun v h1 h2 e => by
      rw [u2n (by decide), u2s] at e
      exact nI_ne0 (by omega) (by omega) e
    by_cases c : C 404 2 = 2
    · obtain ⟨v, v1, v2, v3⟩ := tk_v ts.tk c
      rw [if_pos c, if_neg n10, if_pos ((tk_n ts.tk).mp c), v2, v3]
      by_cases r : lo ≤ v ∧ v ≤ hi
      · have em : min v 10000 = v := by omega
        rw [em, (wi_y r.1 r.2 (by omega)).1, (wi_y r.1 r.2 (by omega)).2, if_neg n10, if_neg n10, tell_v h6 hi3 hnc, bnd_s]
        have ts2 : TS L b s (up2 C 412 (3 * nc + i) (nI v)) O := ts.congr (up2_ne (by decide)) (up2_ne (by decide)) (fun _ _ _ => rfl) rfl
        obtain ⟨C1, O1, s1, x1, x2, x3, x4, x5, x6⟩ := ts2.next (by rw [up2_ne (by decide), c]; decide)
        refine ⟨C1, O1, nI v, by rw [x1, bnd_s], by rw [x2, bnd_s], Or.inl ⟨?_, ?_, ?_, ?_, s1, by omega, x3⟩, DF.t.trans (DF.n x5 x6), fun _ => ⟨f1, ?_, v, r.1, r.2, rfl⟩⟩
        · rw [x5.1 406 (by decide), up2_ne (by decide)]; exact f1
        · rw [x5.1 406 (by decide), up2_ne (by decide)]; exact f2
        · rw [x6.2.1 19 (by decide)]; exact g1
        · rw [x6.2.1 20 (by decide)]; exact g2
        · rw [x5.1 412 (by decide), u2s]
      · rw [(wi_o (k := min v 10000) (lo := lo) (hi := hi) (by omega) (by omega) (by omega)).1, (wi_o (k := v) (lo := lo) (hi := hi) (by omega) (by omega) (by omega)).2, if_pos rfl, if_pos rfl, show f_X4_fail 2 C = _ from (bad 2 (by decide) (by decide)).1, show f_X12_errs 2 O = _ from (bad 2 (by decide) (by decide)).2, bnd_s, bnd_s]
        exact ⟨_, _, _, rfl, rfl, ds_err (by decide) (by decide), DF.er, fun e => absurd e (ne0 2 (by decide) (by decide))⟩
    · rw [if_neg c, if_pos rfl, if_neg (fun e => c ((tk_n ts.tk).mpr e)), show f_X4_fail 1 C = _ from (bad 1 (by decide) (by decide)).1, show f_X12_errs 1 O = _ from (bad 1 (by decide) (by decide)).2, bnd_s, bnd_s]
      exact ⟨_, _, _, rfl, rfl, ds_err (by decide) (by decide), DF.er, fun e => absurd e (ne0 1 (by decide) (by decide))⟩
  · have fn : ¬ C 406 1 = 0 := by rw [f1]; exact nI_ne0 (by omega) (by omega)
    have gn : ¬ O.1 446 19 = 0 := by rw [g1]; exact nI_ne0 (by omega) (by omega)
    have e1 : f_X12_errs 1 O = some O := by
      unfold f_X12_errs
      rw [if_neg gn]
    rw [is_f fn, if_pos rfl, fail_f fn, bnd_s, g1, if_pos (show (0 : Int32) < nI v from nI_lt (show 0 < v by omega) (by omega)), e1, bnd_s]
    exact ⟨C, O, _, rfl, rfl, Or.inr ⟨v, hv, hv6, f1, g1, g2⟩, DF.refl, fun e => absurd e fn⟩
theorem exp_d {w : Nat} (hw : w < 32) (h : DS L b s0 C O) :
    ∃ C3 O3, f_X4_expect (nI (128 + w)) C = some C3 ∧ (∀ lo hi, f_X12_numberBehind (nI (wm w)) lo hi O = f_X12_number lo hi O3) ∧ DS L b s0 C3 O3 ∧ (∀ p, DF p C O C3 O3) ∧ (C3 406 1 = 0 → C 406 1 = 0) := by
  rcases h with ⟨f1, f2, g1, g2, s, hs, ts⟩ | ⟨v, hv, hv6, f1, g1, g2⟩
  · by_cases c : C 404 2 = nI (128 + w)
    · obtain ⟨C1, O1, s1, x1, x2, x3, x4, x5, x6⟩ := ts.next (by rw [c]; exact fun e => by have := (nI_eq (b := 1) (by omega) (by decide)).mp e; omega)
      refine ⟨C1, O1, exp_y f1 c x1, fun lo hi => ?_, Or.inl ⟨by rw [x5.1 406 (by decide)]; exact f1, by rw [x5.1 406 (by decide)]; exact f2, by rw [x6.2.1 19 (by decide)]; exact g1, by rw [x6.2.1 20 (by decide)]; exact g2, s1, by omega, x3⟩, fun p => DF.n x5 x6, fun _ => f1⟩
      unfold f_X12_numberBehind X12_numberBehind_j20 X12_numberBehind_j31
      rw [if_pos g1, ts.word w hw, if_pos c, if_neg n10, if_pos g1, x2, bnd_s, bnd2_id]
    · refine ⟨_, _, exp_n f1 c (show f_X4_fail 1 C = some (up2 (up2 C 406 1 (nI 1)) 406 2 (nI s)) from fail_v f1 ts.at.1), fun lo hi => ?_, ds_err (s := s) (v := 1) (O := O) (by decide) (by decide), fun p => DF.er, fun _ => f1⟩
      unfold f_X12_numberBehind X12_numberBehind_j20 X12_numberBehind_j31
      rw [if_pos g1, ts.word w hw, if_neg c, if_pos rfl, show f_X12_errs 1 O = some (oup (oup O 446 19 (nI 1)) 446 20 (nI s)) from errs_v g1 ts.at.2, bnd_s, if_neg (by rw [o2n (by decide), o2s]; decide), bnd2_id]
  · have fn : ¬ C 406 1 = 0 := by rw [f1]; exact nI_ne0 (by omega) (by omega)
    have gn : ¬ O.1 446 19 = 0 := by rw [g1]; exact nI_ne0 (by omega) (by omega)
    refine ⟨C, O, exp_f fn, fun lo hi => ?_, Or.inr ⟨v, hv, hv6, f1, g1, g2⟩, fun p => DF.refl, fun e => e⟩
    unfold f_X12_numberBehind X12_numberBehind_j20 X12_numberBehind_j31
    rw [if_neg gn, if_neg gn, bnd2_id]
/-- a word and a number behind it -/
theorem beh_d {w i nc hi : Nat} (hw : w < 32) (hi3 : i < 3) (hnc : nc < 24) (hh : hi ≤ 9999) (h6 : C 407 6 = nI (nc + 1)) (h : DS L b s0 C O) :
    ∃ C3 C1 O1 v, f_X4_expect (nI (128 + w)) C = some C3 ∧ f_X4_readNumber (nI i) (nI 0) (nI hi) C3 = some C1 ∧ f_X12_numberBehind (nI (wm w)) (nI 0) (nI hi) O = some (v, O1) ∧ DS L b s0 C1 O1 ∧ DF (3 * nc + i) C O C1 O1 ∧ (C1 406 1 = 0 → C 406 1 = 0 ∧ C1 412 (3 * nc + i) = v) := by
  obtain ⟨C3, O3, r1, r2, r3, r4, r5⟩ := exp_d hw h
  obtain ⟨C1, O1, v, q1, q2, q3, q4, q5⟩ := num_d (lo := 0) hi3 hnc (Nat.zero_le _) hh (by rw [(r4 0).1 407 (by decide) (by decide) (by decide)]; exact h6) r3
  exact ⟨C3, C1, O1, v, r1, q1, by rw [r2]; exact q2, q3, (r4 _).trans q4, fun e => ⟨r5 (q5 e).1, (q5 e).2.1⟩⟩
end
def DX (nc : Nat) (C : CM) (O : OM) (C1 : CM) (O1 : OM) : Prop :=
  (∀ c, c ≠ 404 → c ≠ 406 → c ≠ 412 → C1 c = C c) ∧ C1 404 1 = C 404 1 ∧ (∀ k, k ≠ 1 → k ≠ 2 → C1 406 k = C 406 k) ∧ (∀ k, k < 3 * nc → C1 412 k = C 412 k) ∧ (∀ c, c ≠ 446 → c ≠ 465 → c ≠ 466 → c ≠ 467 → O1.1 c = O.1 c) ∧ (∀ k, k < 15 ∨ 20 < k → O1.1 446 k = O.1 446 k) ∧ (∀ c k, k < nc → c = 465 ∨ c = 466 ∨ c = 467 → O1.1 c k = O.1 c k) ∧ O1.2 = O.2
theorem DF.x {p nc : Nat} {C C1 : CM} {O O1 : OM} (h : DF p C O C1 O1) (hp : 3 * nc ≤ p) : DX nc C O C1 O1 :=
  ⟨h.1, h.2.1, h.2.2.1, fun k hk => h.2.2.2.1 k (by omega), fun c a _ _ _ => h.2.2.2.2.1 c a, h.2.2.2.2.2.1, fun c k _ hc => by rw [h.2.2.2.2.1 c (by omega)], h.2.2.2.2.2.2⟩
theorem DX.trans {nc : Nat} {C C1 C2 : CM} {O O1 O2 : OM} (h : DX nc C O C1 O1) (g : DX nc C1 O1 C2 O2) : DX nc C O C2 O2 :=
  ⟨fun c a b d => (g.1 c a b d).trans (h.1 c a b d), g.2.1.trans h.2.1, fun k a b => (g.2.2.1 k a b).trans (h.2.2.1 k a b), fun k a => (g.2.2.2.1 k a).trans (h.2.2.2.1 k a), fun c a b d e => (g.2.2.2.2.1 c a b d e).trans (h.2.2.2.2.1 c a b d e), fun k a => (g.2.2.2.2.2.1 k a).trans (h.2.2.2.2.2.1 k a), fun c k a b => (g.2.2.2.2.2.2.1 c k a b).trans (h.2.2.2.2.2.2.1 c k a b), g.2.2.2.2.2.2.2.trans h.2.2.2.2.2.2.2⟩
theorem DX.told {nc : Nat} {C : CM} {O : OM} {x y z : Int32} : DX nc C O C (oup (oup (oup O 465 nc x) 466 nc y) 467 nc z) := by
  refine ⟨fun _ _ _ _ => rfl, rfl, fun _ _ _ => rfl, fun _ _ => rfl, fun c a b d e => by rw [oup_ne e, oup_ne d, oup_ne b], fun k _ => by rw [oup_ne (by decide), oup_ne (by decide), oup_ne (by decide)], fun c k a hc => ?_, rfl⟩
  rcases hc with rfl | rfl | rfl
  · rw [oup_ne (by decide), oup_ne (by decide), o2n (by omega)]
  · rw [oup_ne (by decide), o2n (by omega), oup_ne (by decide)]
  · rw [o2n (by omega), oup_ne (by decide), oup_ne (by decide)]
theorem j193_v {O : OM} {nc : Nat} {x y z : Int32} (h : O.1 446 30 = nI nc) (hnc : nc < 24) : X12_doing_j193 x y z O = some (oup (oup (oup O 465 nc x) 466 nc y) 467 nc z) := by
  unfold X12_doing_j193
  rw [h, gd_p (inbN (by omega) (by decide)), nI_clamp (by omega), oup_ne (by decide), h, gd_p (inbN (by omega) (by decide)), nI_clamp (by omega), oup_ne (by decide), oup_ne (by decide), h, gd_p (inbN (by omega) (by decide)), nI_clamp (by omega)]
