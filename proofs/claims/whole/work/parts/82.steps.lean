/-! The reader: the machine's steps -/
noncomputable def lp (n : Nat) (O : OM) : Option (Int32 × OM) := X12_text_l74 (fun O => (X12_text_j167 O)) n O
def PT (s : Nat) : Nat := 2 * (300 - s)
/-- from O on, with A to spend, the machine comes to O1 with B left -/
def RC (A : Nat) (O : OM) (B : Nat) (O1 : OM) : Prop := ∃ m, m + B ≤ A ∧ ∀ n, lp (n + m) O = lp n O1
theorem RC.refl {A : Nat} {O : OM} : RC A O A O := ⟨0, by omega, fun _ => rfl⟩
theorem RC.trans {A B D : Nat} {O O1 O2 : OM} (h : RC A O B O1) (h2 : RC B O1 D O2) : RC A O D O2 := by
  obtain ⟨m, h1, h3⟩ := h
  obtain ⟨m2, h4, h5⟩ := h2
  exact ⟨m2 + m, by omega, fun n => by rw [show n + (m2 + m) = (n + m2) + m by omega, h3, h5]⟩
theorem RC.le {A B B1 : Nat} {O O1 : OM} (h : RC A O B O1) (hb : B1 ≤ B) : RC A O B1 O1 := by
  obtain ⟨m, h1, h3⟩ := h
  exact ⟨m, by omega, h3⟩
theorem RC.ge {A A1 B : Nat} {O O1 : OM} (h : RC A O B O1) (ha : A ≤ A1) : RC A1 O B O1 := by
  obtain ⟨m, h1, h3⟩ := h
  exact ⟨m, by omega, h3⟩
/-- the machine comes into a step, in front of f at O1 -/
def MD (f : OM → Option OM) (A : Nat) (O : OM) (B : Nat) (O1 : OM) : Prop := ∃ m, m + 1 + B ≤ A ∧ ∀ n, lp (n + m + 1) O = bnd (f O1) (fun O2 => lp n O2)
theorem RC.md {f : OM → Option OM} {A B D : Nat} {O O1 O2 : OM} (h : RC A O B O1) (h2 : MD f B O1 D O2) : MD f A O D O2 := by
  obtain ⟨m, h1, h3⟩ := h
  obtain ⟨m2, h4, h5⟩ := h2
  exact ⟨m2 + m, by omega, fun n => by rw [show n + (m2 + m) + 1 = (n + m2 + 1) + m by omega, h3, h5]⟩
theorem MD.go {f : OM → Option OM} {A B : Nat} {O O1 O2 : OM} (h : MD f A O B O1) (hf : f O1 = some O2) : RC A O B O2 := by
  obtain ⟨m, h1, h3⟩ := h
  exact ⟨m + 1, by omega, fun n => by rw [show n + (m + 1) = n + m + 1 by omega, h3, hf, bnd_s]⟩
theorem MD.sub {f g : OM → Option OM} {A B : Nat} {O O1 O2 : OM} (h : MD f A O B O1) (hf : f O1 = g O2) : MD g A O B O2 := by
  obtain ⟨m, h1, h3⟩ := h
  exact ⟨m, h1, fun n => by rw [h3, hf]⟩
theorem MD.le {f : OM → Option OM} {A B B1 : Nat} {O O1 : OM} (h : MD f A O B O1) (hb : B1 ≤ B) : MD f A O B1 O1 := by
  obtain ⟨m, h1, h3⟩ := h
  exact ⟨m, by omega, h3⟩
section
variable {O : OM} (hw : O.1 446 19 = 0)
theorem lp_0 (hw : O.1 446 19 = 0) (h : O.1 446 28 = 0) {n : Nat} : lp (n + 1) O = bnd (f_X12_asks O) (fun O2 => lp n O2) := by
  unfold lp
  rw [X12_text_l74, if_pos hw, if_neg (by rw [h]; decide)]
  unfold X12_text_j96
  rw [if_pos h]
theorem lp_1 (hw : O.1 446 19 = 0) (h : O.1 446 28 = 1) {n : Nat} : lp (n + 1) O = bnd (f_X12_begins O) (fun O2 => lp n O2) := by
  unfold lp
  rw [X12_text_l74, if_pos hw, if_neg (by rw [h]; decide)]
  unfold X12_text_j96
  rw [if_neg (by rw [h]; decide), if_pos h]
theorem lp_2 (hw : O.1 446 19 = 0) (h : O.1 446 28 = 2) {n : Nat} : lp (n + 1) O = bnd (f_X12_goesOn O) (fun O2 => lp n O2) := by
  unfold lp
  rw [X12_text_l74, if_pos hw, if_neg (by rw [h]; decide)]
  unfold X12_text_j96
  rw [if_neg (by rw [h]; decide), if_neg (by rw [h]; decide), if_pos h]
theorem lp_3 (hw : O.1 446 19 = 0) (h : O.1 446 28 = 3) {n : Nat} : lp (n + 1) O = bnd (f_X12_asksOn O) (fun O2 => lp n O2) := by
  unfold lp
  rw [X12_text_l74, if_pos hw, if_neg (by rw [h]; decide)]
  unfold X12_text_j96
  rw [if_neg (by rw [h]; decide), if_neg (by rw [h]; decide), if_neg (by rw [h]; decide), if_pos h]
theorem lp_4 (hw : O.1 446 19 = 0) (h : O.1 446 28 = 4) (h2 : ¬ O.1 446 17 = 0) {n : Nat} : lp (n + 1) O = bnd (f_X12_clause O) (fun O2 => lp n O2) := by
  unfold lp
  rw [X12_text_l74, if_pos hw, if_pos h, if_neg h2]
  unfold X12_text_j96
  rw [if_neg (by rw [h]; decide), if_neg (by rw [h]; decide), if_neg (by rw [h]; decide), if_neg (by rw [h]; decide)]
theorem lp_end (hw : O.1 446 19 = 0) (h : O.1 446 28 = 4) (h2 : O.1 446 17 = 0) {n : Nat} : lp (n + 1) O = X12_text_j167 O := by
  unfold lp
  rw [X12_text_l74, if_pos hw, if_pos h, if_pos h2]
theorem lp_err (hw : ¬ O.1 446 19 = 0) {n : Nat} : lp (n + 1) O = X12_text_j167 O := by
  unfold lp
  rw [X12_text_l74, if_neg hw]
theorem RC.one {A B : Nat} {O1 : OM} {g : OM → Option OM} (h : ∀ n, lp (n + 1) O = bnd (g O) (fun O2 => lp n O2)) (hg : g O = some O1) (hb : B + 1 ≤ A) : RC A O B O1 := ⟨1, by omega, fun n => by rw [h, hg, bnd_s]⟩
theorem MD.one {A B : Nat} {O1 : OM} {g f : OM → Option OM} (h : ∀ n, lp (n + 1) O = bnd (g O) (fun O2 => lp n O2)) (hg : g O = f O1) (hb : B + 1 ≤ A) : MD f A O B O1 := ⟨0, by omega, fun n => by rw [show n + 0 + 1 = n + 1 from rfl, h, hg]⟩
theorem errs_v (hw : O.1 446 19 = 0) {s : Nat} (hs : O.1 446 16 = nI s) {v : Int32} : f_X12_errs v O = some (oup (oup O 446 19 v) 446 20 (nI s)) := by
  unfold f_X12_errs
  rw [if_pos hw, o2n (by decide), hs]
theorem emits_v {no : Nat} (h : O.1 446 37 = nI no) (hn : no < 400) {o v : Int32} : f_X12_emits o v O = some (oup (oup (oup O 468 no o) 469 no v) 446 37 (nI (no + 1))) := by
  unfold f_X12_emits
  rw [h, gd_p (inbN (by omega) (by decide)), oup_ne (by decide), h, gd_p (inbN (by omega) (by decide)), nI_clamp (by omega), oup_ne (by decide), oup_ne (by decide), h, nI_1]
theorem openF_v {nf : Nat} (h : O.1 446 22 = nI nf) (hn : nf < 40) {f : Int32} : f_X12_opensFrame f O = some (oup (oup O 458 nf f) 446 22 (nI (nf + 1))) := by
  unfold f_X12_opensFrame
  rw [h, gd_p (inbN (by omega) (by decide)), nI_clamp (by omega), oup_ne (by decide), h, nI_1]
theorem top_v {nf : Nat} (h : O.1 446 22 = nI (nf + 1)) (hn : nf < 40) : f_X12_top O = some (O.1 458 nf) := by
  unfold f_X12_top
  rw [h, nI_pred, gd_p (inbN (by omega) (by decide)), nI_clamp (by omega)]
end
theorem fail_v {C : CM} {s : Nat} {v : Int32} (hf : C 406 1 = 0) (hs : C 404 4 = nI s) : f_X4_fail v C = some (up2 (up2 C 406 1 v) 406 2 (nI s)) := by
  unfold f_X4_fail
  rw [if_pos hf, up2_ne (by decide), hs]
theorem emit_v {C : CM} {l : Nat} {t v : Int32} (h : C 407 5 = nI l) (hl : l < 300) : f_X6_emit 407 t v C = some (nI l, up2 (up2 C 408 l (v * 256 + t)) 407 5 (nI (l + 1))) := by
  unfold f_X6_emit f_X11_within X6_emit_j44
  rw [h, if_neg (nI_pos (by omega)), show (299 : Int32) = nI 299 from rfl, if_neg (nI_nlt (by omega) (by omega)), if_neg (by decide), gd_p (inbN (by omega) (by decide)), nI_clamp (by omega), up2_ne (show (407 : Nat) ≠ 407 + 1 by decide), h, nI_1, u2s, nI_pred]
theorem is_v {C : CM} {t : Int32} (hf : C 406 1 = 0) : f_X4_is t C = if C 404 2 = t then 1 else 0 := by
  unfold f_X4_is
  rw [if_pos hf]
/-- both in the same fault -/
def EF (A : Nat) (C0 : CM) (O : OM) (C1 : CM) : Prop :=
  ∃ O1 v, RC A O 0 O1 ∧ 1 ≤ v ∧ v ≤ 6 ∧ C1 406 1 = nI v ∧ O1.1 446 19 = nI v ∧ O1.1 446 20 = C1 406 2 ∧ FrP C0 C1 ∧ FrQ O O1 ∧ LN C1
theorem EF.ne {A : Nat} {C0 C1 : CM} {O : OM} (h : EF A C0 O C1) : ¬ C1 406 1 = 0 := by
  obtain ⟨O1, v, h1, h2, h3, h4, h5⟩ := h
  rw [h4]
  exact nI_ne0 (by omega) (by omega)
theorem EF.ln {A : Nat} {C0 C1 : CM} {O : OM} (h : EF A C0 O C1) : LN C1 := by
  obtain ⟨O1, v, h1, h2, h3, h4, h5, h6, h7, h8, h9⟩ := h
  exact h9
theorem EF.keep {A : Nat} {C0 C1 C2 : CM} {O : OM} (h : EF A C0 O C1) (hf : FrP C1 C2) (h6 : C2 406 = C1 406) (hl : LN C2) : EF A C0 O C2 := by
  obtain ⟨O1, v, h1, h2, h3, h4, h5, h6', h7, h8, h9⟩ := h
  exact ⟨O1, v, h1, h2, h3, by rw [h6]; exact h4, h5, by rw [h6]; exact h6', h7.trans hf, h8, hl⟩
theorem EF.pre {A B : Nat} {C C0 C1 : CM} {O O0 : OM} (h : EF B C0 O0 C1) (hr : RC A O B O0) (hf : FrP C C0) (hq : FrQ O O0) : EF A C O C1 := by
  obtain ⟨O1, v, h1, h2, h3, h4, h5, h6, h7, h8, h9⟩ := h
  exact ⟨O1, v, hr.trans h1, h2, h3, h4, h5, h6, hf.trans h7, hq.trans h8, h9⟩
/-- an error made by a step, on both sides at the token's start -/
theorem EF.made {A v s : Nat} {C : CM} {O O0 : OM} (hv : 1 ≤ v) (hv6 : v ≤ 6) (hr : RC A O 0 (oup (oup O0 446 19 (nI v)) 446 20 (nI s))) (hq : FrQ O O0) (hl : LN C) : EF A C O (up2 (up2 C 406 1 (nI v)) 406 2 (nI s)) := by
  obtain ⟨l, l1, l2⟩ := hl
  refine ⟨_, v, hr, hv, hv6, by rw [u2n (by decide), u2s], by rw [o2n (by decide), o2s], by rw [o2s, u2s], FrP.fl, hq.trans ((FrQ.s (by decide)).trans (FrQ.s (by decide))), l, l1, by rw [up2_ne (by decide), up2_ne (by decide)]; exact l2⟩
