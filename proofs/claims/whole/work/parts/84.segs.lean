/-! The reader: pieces of code -/
theorem Ins.congr {a fr i len len' L : Nat} {dp dp' : Nat → List Bool} {c o v : Int32} (h : Ins a fr i len L dp c o v) (hi : i < len) (hl : len ≤ len') (hd : ∀ k, i ≤ k → k ≤ len → dp' k = dp k) : Ins a fr i len' L dp' c o v := by
  have d0 := hd i (Nat.le_refl _) (by omega)
  have d1 := hd (i + 1) (by omega) (by omega)
  unfold Ins
  rw [d0, d1]
  rcases h with h | h | h | h | h | h | h | h | ⟨j, σ, h1, h2, h3, h4, h5, h6, h7, h8⟩ | ⟨j, h1, h2, h3, h4, h5, h6⟩
  · exact Or.inl h
  · exact Or.inr (Or.inl h)
  · exact Or.inr (Or.inr (Or.inl h))
  · exact Or.inr (Or.inr (Or.inr (Or.inl h)))
  · exact Or.inr (Or.inr (Or.inr (Or.inr (Or.inl h))))
  · exact Or.inr (Or.inr (Or.inr (Or.inr (Or.inr (Or.inl h)))))
  · exact Or.inr (Or.inr (Or.inr (Or.inr (Or.inr (Or.inr (Or.inl h))))))
  · exact Or.inr (Or.inr (Or.inr (Or.inr (Or.inr (Or.inr (Or.inr (Or.inl h)))))))
  · exact Or.inr (Or.inr (Or.inr (Or.inr (Or.inr (Or.inr (Or.inr (Or.inr (Or.inl ⟨j, σ, h1, by omega, h3, h4, h5, h6, h7, by rw [hd j (by omega) h2]; exact h8⟩))))))))
  · exact Or.inr (Or.inr (Or.inr (Or.inr (Or.inr (Or.inr (Or.inr (Or.inr (Or.inr ⟨j, h1, by omega, h3, h4, h5, by rw [hd j (by omega) h2]; exact h6⟩))))))))
def Sg (a fr Lw m0 m1 : Nat) (σ τ : List Bool) (c o v : Nat → Int32) : Prop :=
  ∃ dp : Nat → List Bool, dp m0 = σ ∧ dp m1 = τ ∧ (∀ i, m0 ≤ i → i ≤ m1 → (dp i).length ≤ 64) ∧ ∀ i, m0 ≤ i → i < m1 → Ins a fr i m1 Lw dp (c (a + i)) (o (fr + i)) (v (fr + i))
theorem Sg.mono {a fr Lw m0 m1 : Nat} {σ τ : List Bool} {c o v c' o' v' : Nat → Int32} (h : Sg a fr Lw m0 m1 σ τ c o v) (hr : ∀ i, m0 ≤ i → i < m1 → c' (a + i) = c (a + i) ∧ o' (fr + i) = o (fr + i) ∧ v' (fr + i) = v (fr + i)) : Sg a fr Lw m0 m1 σ τ c' o' v' := by
  obtain ⟨dp, h1, h2, h3, h4⟩ := h
  refine ⟨dp, h1, h2, h3, fun i a1 a2 => ?_⟩
  obtain ⟨e1, e2, e3⟩ := hr i a1 a2
  rw [e1, e2, e3]
  exact h4 i a1 a2
theorem Sg.comp {a fr Lw m0 m1 m2 : Nat} {σ τ υ : List Bool} {c o v : Nat → Int32} (h : Sg a fr Lw m0 m1 σ τ c o v) (g : Sg a fr Lw m1 m2 τ υ c o v) (h01 : m0 ≤ m1) (h12 : m1 ≤ m2) : Sg a fr Lw m0 m2 σ υ c o v := by
  obtain ⟨dp, h1, h2, h3, h4⟩ := h
  obtain ⟨dq, g1, g2, g3, g4⟩ := g
  have e1 : ∀ k, k ≤ m1 → (fun i => if i ≤ m1 then dp i else dq i) k = dp k := fun k hk => if_pos hk
  have e2 : ∀ k, m1 ≤ k → (fun i => if i ≤ m1 then dp i else dq i) k = dq k := fun k hk => by
    by_cases c : k = m1
    · show (if k ≤ m1 then dp k else dq k) = dq k
      rw [if_pos (by omega), c, h2, g1]
    · exact if_neg (by omega)
  refine ⟨fun i => if i ≤ m1 then dp i else dq i, by rw [e1 _ h01]; exact h1, by rw [e2 _ h12]; exact g2, fun i a1 a2 => ?_, fun i a1 a2 => ?_⟩
  · by_cases c : i ≤ m1
    · rw [e1 _ c]; exact h3 i a1 c
    · rw [e2 _ (by omega)]; exact g3 i (by omega) a2
  · by_cases c : i < m1
    · exact (h4 i a1 c).congr c h12 (fun k _ b => e1 k b)
    · exact (g4 i (by omega) a2).congr a2 (Nat.le_refl _) (fun k b _ => e2 k (by omega))
theorem Sg.nil {a fr Lw m : Nat} {σ : List Bool} {c o v : Nat → Int32} (h : σ.length ≤ 64) : Sg a fr Lw m m σ σ c o v := ⟨fun _ => σ, rfl, rfl, fun _ _ _ => h, fun i a1 a2 => absurd a1 (by omega)⟩
def d2 (m : Nat) (σ τ : List Bool) (i : Nat) : List Bool := if i = m then σ else τ
theorem d2_0 {m : Nat} {σ τ : List Bool} : d2 m σ τ m = σ := if_pos rfl
theorem d2_1 {m : Nat} {σ τ : List Bool} : d2 m σ τ (m + 1) = τ := if_neg (by omega)
theorem Sg.one {a fr Lw m : Nat} {σ τ : List Bool} {c o v : Nat → Int32} (h1 : σ.length ≤ 64) (h2 : τ.length ≤ 64) (h : Ins a fr m (m + 1) Lw (d2 m σ τ) (c (a + m)) (o (fr + m)) (v (fr + m))) : Sg a fr Lw m (m + 1) σ τ c o v := by
  refine ⟨d2 m σ τ, d2_0, d2_1, fun i a1 a2 => ?_, fun i a1 a2 => ?_⟩
  · unfold d2; split
    · exact h1
    · exact h2
  · have : i = m := by omega
    subst this
    exact h
section
variable {a fr Lw m : Nat} {σ : List Bool} {c o v : Nat → Int32}
theorem Sg.num {k : Nat} (hs : σ.length ≤ 63) (hk : k ≤ 9999) (h1 : c (a + m) = nI (256 * k + 2)) (h2 : o (fr + m) = nI 400) (h3 : v (fr + m) = nI k) : Sg a fr Lw m (m + 1) σ (false :: σ) c o v :=
  Sg.one (by omega) (by rw [List.length_cons]; omega) (Or.inl ⟨k, hk, h1, h2, h3, by rw [d2_0, d2_1]⟩)
theorem Sg.nam {t : Nat} (hs : σ.length ≤ 63) (ht : t < 10) (hm : mayL Lw t = true) (h1 : c (a + m) = nI (139 + t)) (h2 : o (fr + m) = nI 401) (h3 : v (fr + m) = nI (nmR t)) : Sg a fr Lw m (m + 1) σ (false :: σ) c o v :=
  Sg.one (by omega) (by rw [List.length_cons]; omega) (Or.inr (Or.inl ⟨t, ht, hm, h1, h2, h3, by rw [d2_0, d2_1]⟩))
theorem Sg.ar {k : Nat} (hs : σ.length ≤ 62) (hk : k = 43 ∨ k = 45 ∨ k = 42 ∨ k = 47) (h1 : c (a + m) = nI k) (h2 : o (fr + m) = nI k) : Sg a fr Lw m (m + 1) (false :: false :: σ) (false :: σ) c o v :=
  Sg.one (by rw [List.length_cons, List.length_cons]; omega) (by rw [List.length_cons]; omega) (Or.inr (Or.inr (Or.inl ⟨k, σ, hk, h1, h2, by rw [d2_0], by rw [d2_1]⟩)))
theorem Sg.cm {k q : Nat} (hs : σ.length ≤ 62) (hk : (k, q) = (60, 60) ∨ (k, q) = (62, 62) ∨ (k, q) = (61, 61) ∨ (k, q) = (35, 35) ∨ (k, q) = (4, 300) ∨ (k, q) = (5, 301)) (h1 : c (a + m) = nI k) (h2 : o (fr + m) = nI q) : Sg a fr Lw m (m + 1) (false :: false :: σ) (true :: σ) c o v :=
  Sg.one (by rw [List.length_cons, List.length_cons]; omega) (by rw [List.length_cons]; omega) (Or.inr (Or.inr (Or.inr (Or.inl ⟨k, q, σ, hk, h1, h2, by rw [d2_0], by rw [d2_1]⟩))))
theorem Sg.bo {k q : Nat} (hs : σ.length ≤ 62) (hk : (k, q) = (152, 406) ∨ (k, q) = (153, 407)) (h1 : c (a + m) = nI k) (h2 : o (fr + m) = nI q) : Sg a fr Lw m (m + 1) (true :: true :: σ) (true :: σ) c o v :=
  Sg.one (by rw [List.length_cons, List.length_cons]; omega) (by rw [List.length_cons]; omega) (Or.inr (Or.inr (Or.inr (Or.inr (Or.inl ⟨k, q, σ, hk, h1, h2, by rw [d2_0], by rw [d2_1]⟩)))))
theorem Sg.owe (hs : σ.length ≤ 62) (h1 : c (a + m) = nI 155) (h2 : o (fr + m) = nI 403) : Sg a fr Lw m (m + 1) (false :: false :: σ) (false :: σ) c o v :=
  Sg.one (by rw [List.length_cons, List.length_cons]; omega) (by rw [List.length_cons]; omega) (Or.inr (Or.inr (Or.inr (Or.inr (Or.inr (Or.inl ⟨σ, h1, h2, by rw [d2_0], by rw [d2_1]⟩))))))
theorem Sg.neg (hs : σ.length ≤ 63) (h1 : c (a + m) = nI 3) (h2 : o (fr + m) = nI 402) : Sg a fr Lw m (m + 1) (false :: σ) (false :: σ) c o v :=
  Sg.one (by rw [List.length_cons]; omega) (by rw [List.length_cons]; omega) (Or.inr (Or.inr (Or.inr (Or.inr (Or.inr (Or.inr (Or.inl ⟨σ, h1, h2, by rw [d2_0], by rw [d2_1]⟩)))))))
theorem Sg.not (hs : σ.length ≤ 63) (h1 : c (a + m) = nI 154) (h2 : o (fr + m) = nI 405) : Sg a fr Lw m (m + 1) (true :: σ) (true :: σ) c o v :=
  Sg.one (by rw [List.length_cons]; omega) (by rw [List.length_cons]; omega) (Or.inr (Or.inr (Or.inr (Or.inr (Or.inr (Or.inr (Or.inr (Or.inl ⟨σ, h1, h2, by rw [d2_0], by rw [d2_1]⟩))))))))
/-- then, else -/
theorem Sg.cho {m2 m3 : Nat} (hs : σ.length ≤ 63) (g1 : Sg a fr Lw (m + 1) m2 σ (false :: σ) c o v) (g2 : Sg a fr Lw (m2 + 1) m3 σ (false :: σ) c o v) (l1 : m + 1 ≤ m2) (l2 : m2 + 1 < m3)
    (h1 : c (a + m) = nI (256 * (a + (m2 + 1)) + 157)) (h2 : o (fr + m) = nI 404) (h3 : v (fr + m) = nI (fr + (m2 + 1))) (h4 : c (a + m2) = nI (256 * (a + m3) + 158)) (h5 : o (fr + m2) = nI 409) (h6 : v (fr + m2) = nI (fr + m3)) :
    Sg a fr Lw m m3 (true :: σ) (false :: σ) c o v := by
  obtain ⟨dp, p1, p2, p3, p4⟩ := g1
  obtain ⟨dq, q1, q2, q3, q4⟩ := g2
  obtain ⟨dr, hdr⟩ : ∃ dr : Nat → List Bool, dr = fun i => if i ≤ m then true :: σ else if i ≤ m2 then dp i else dq i := ⟨_, rfl⟩
  have e0 : dr m = true :: σ := by rw [hdr]; exact if_pos (Nat.le_refl _)
  have e1 : ∀ k, m + 1 ≤ k → k ≤ m2 → dr k = dp k := fun k a1 a2 => by
    rw [hdr]
    show (if k ≤ m then _ else if k ≤ m2 then dp k else dq k) = dp k
    rw [if_neg (by omega), if_pos a2]
  have e2 : ∀ k, m2 + 1 ≤ k → dr k = dq k := fun k a1 => by
    rw [hdr]
    show (if k ≤ m then _ else if k ≤ m2 then dp k else dq k) = dq k
    rw [if_neg (by omega), if_neg (by omega)]
  refine ⟨dr, e0, by rw [e2 _ (by omega)]; exact q2, fun i a1 a2 => ?_, fun i a1 a2 => ?_⟩
  · by_cases c1 : i = m
    · rw [c1, e0, List.length_cons]; omega
    · by_cases c2 : i ≤ m2
      · rw [e1 i (by omega) c2]; exact p3 i (by omega) c2
      · rw [e2 i (by omega)]; exact q3 i (by omega) a2
  · by_cases c1 : i = m
    · subst c1
      exact Or.inr (Or.inr (Or.inr (Or.inr (Or.inr (Or.inr (Or.inr (Or.inr (Or.inl ⟨m2 + 1, σ, by omega, by omega, h1, h2, h3, e0, by rw [e1 _ (Nat.le_refl _) l1]; exact p1, by rw [e2 _ (Nat.le_refl _)]; exact q1⟩))))))))
    · by_cases c2 : i < m2
      · exact (p4 i (by omega) c2).congr c2 (by omega) (fun k b1 b2 => e1 k (by omega) b2)
      · by_cases c3 : i = m2
        · subst c3
          exact Or.inr (Or.inr (Or.inr (Or.inr (Or.inr (Or.inr (Or.inr (Or.inr (Or.inr ⟨m3, by omega, Nat.le_refl _, h4, h5, h6, by rw [e2 _ (by omega), e1 _ l1 (Nat.le_refl _), q2, p2]⟩))))))))
        · exact (q4 i (by omega) a2).congr a2 (Nat.le_refl _) (fun k b1 b2 => e2 k (by omega))
end
