def chs0 (x : Int32) : Int32 := (strB.getD 0 []).getD x.toNatClampNeg 0
def ixF (c : Int32) : List Int32 → Nat → Int32
  | [], _ => -1
  | b :: l, k => if b = c then nI k else ixF c l (k + 1)
def ixs1 (c : Int32) : Int32 := ixF c (strB.getD 1 []) 0
theorem nclamp {x : Int32} {n : Nat} (h : ¬ (x < 0 ∨ n ≤ x.toNatClampNeg)) (hn : n < 2 ^ 31) : ∃ k, k < n ∧ x = nI k := vp_in_of h hn
theorem ch_all : ∀ q, q < 2 → ∀ b ∈ strB.getD q [], ((b &&& (255 : Int32)).toUInt32 % 65536).toInt32 = b ∧ narrow .char (.int b) = .int b ∧ (b.toInt8.toInt32 = b ∧ 0 ≤ b ∧ b ≤ 255) := by decide +kernel
theorem getD_mem {l : List Int32} {k : Nat} (hk : k < l.length) : l.getD k 0 ∈ l := by
  rw [List.getD_eq_getElem?_getD, List.getElem?_eq_getElem hk]
  exact List.getElem_mem hk
theorem drop_getD {l : List Int32} {k : Nat} (hk : k < l.length) : l.drop k = l.getD k 0 :: l.drop (k + 1) := by
  rw [List.getD_eq_getElem?_getD, List.getElem?_eq_getElem hk]
  exact List.drop_eq_getElem_cons hk
theorem ch_mem {q k : Nat} (hk : k < (strB.getD q []).length) : (strB.getD q []).getD k 0 ∈ strB.getD q [] := getD_mem hk
theorem charAt_0 {x : Int32} (hx : inb x 147) : f_J0_charAt_5068e 0 x = some (chs0 x) := by
  obtain ⟨k, hk, rfl⟩ := nclamp hx (by decide)
  have e : (nI k).toNatClampNeg = k := nI_clamp (by omega)
  have hlen : (strB.getD 0 []).length = 147 := by decide +kernel
  have hm := ch_mem (q := 0) (k := k) (by omega)
  obtain ⟨h1, h2, -⟩ := ch_all 0 (by decide) _ hm
  have hL : f_J0_isLatin1_aae02 0 = some 1 := by decide +kernel
  have hc : f_J1_charAt_3b067 0 (nI k) = some (chs0 (nI k)) := by
    rw [f_J1_charAt_3b067, f_J0_checkIndex_df160, f_J3_checkIndex_8e157]
    rw [if_neg (nI_pos (by omega)), if_pos (show nI k < nI (strL.getD 0 0) from nI_lt hk (by decide))]
    show gd _ _ = _
    rw [gd_p (show inb (nI k) (strL.getD 0 0) from hx), e, h1, gd_p h2, chs0, e]
  rw [f_J0_charAt_5068e, hL, bnd_s, if_neg (by decide), hc, bnd_s, gd_p]
  rw [chs0, e]; exact h2
theorem ixF_ne {c : Int32} (l : List Int32) (k : Nat) (h : ∀ b ∈ l, b ≠ c) : ixF c l k = -1 := by
  induction l generalizing k with
  | nil => rfl
  | cons b l ih => rw [ixF, if_neg (h b List.mem_cons_self)]; exact ih _ (fun b hb => h b (List.mem_cons_of_mem _ hb))
theorem ixl (c : Int32) (hc : c.toInt8.toInt32 = c) : ∀ (d n k : Nat), k + d = 11 → d < n → J1_indexOfChar_4cfef_l7 1 n (nI 11) c (nI k) = some (ixF c ((strB.getD 1 []).drop k) k) := by
  intro d
  induction d with
  | zero =>
    intro n k hk hn
    obtain ⟨n, rfl⟩ : ∃ n', n = n' + 1 := ⟨n - 1, by omega⟩
    obtain rfl : k = 11 := by omega
    rw [J1_indexOfChar_4cfef_l7, if_pos (by decide)]
    rfl
  | succ d ih =>
    intro n k hk hn
    obtain ⟨n, rfl⟩ : ∃ n', n = n' + 1 := ⟨n - 1, by omega⟩
    have hlen : (strB.getD 1 []).length = 11 := by decide +kernel
    have e : (nI k).toNatClampNeg = k := nI_clamp (by omega)
    have hin : inb (nI k) (strL.getD 1 0) := nI_in (show k < 11 by omega) (by decide)
    have hd := drop_getD (l := strB.getD 1 []) (k := k) (by omega)
    rw [J1_indexOfChar_4cfef_l7, if_neg (nI_ge (by omega) (by decide)), gd_p hin, e, hd, ixF]
    by_cases q : (strB.getD 1 []).getD k 0 = c
    · rw [if_pos q, if_pos q]
    · rw [if_neg q, if_neg q, nI_1]
      exact ih n (k + 1) (by omega) (by omega)
theorem indexOf_1 (x : Int32) : f_J0_indexOf_0f7a4 1 x = some (ixs1 x) := by
  have hL : f_J0_isLatin1_aae02 1 = some 1 := by decide +kernel
  have hn : f_J0_length_8abf5 1 = some 11 := by decide +kernel
  have key : f_J1_indexOf_4cfef 1 x 0 11 = some (ixs1 x) := by
    rw [f_J1_indexOf_4cfef]
    have hb := fun b hb => (ch_all 1 (by decide) b hb).2.2
    by_cases h0 : x < 0
    · rw [if_pos (by rw [f_J1_canEncode_9a6ad, if_pos h0]), ixs1, ixF_ne]
      intro b hb1 e
      subst e
      exact absurd (hb _ hb1).2.1 (by simpa using h0)
    · by_cases h1 : (255 : Int32) < x
      · rw [if_pos (by rw [f_J1_canEncode_9a6ad, if_neg h0, if_pos h1]), ixs1, ixF_ne]
        intro b hb1 e
        subst e
        exact absurd (hb _ hb1).2.2 (by simpa using h1)
      · rw [if_neg (by rw [f_J1_canEncode_9a6ad, if_neg h0, if_neg h1]; decide)]
        have e1 : f_J9_max_7cf53 0 0 = 0 := by decide +kernel
        have e2 : f_J9_min_7cf53 11 (nI (strL.getD 1 0)) = nI 11 := by decide +kernel
        rw [e1, e2, if_pos (by decide), f_J1_indexOfChar_4cfef]
        have key2 : J1_indexOfChar_4cfef_l7 1 FU (nI 11) x.toInt8.toInt32 0 = some (ixs1 x) := by
          have h := ixl x.toInt8.toInt32 (by simp) 11 FU 0 rfl (by decide)
          rw [show (nI 0) = (0 : Int32) from rfl] at h
          rw [h, ixs1]
          congr 1
          rw [List.drop_zero]
          -- a byte that the text holds is below 128
          have hall : ∀ (l : List Int32) (k : Nat), (∀ b ∈ l, b.toInt8.toInt32 = b ∧ 0 ≤ b ∧ b ≤ 127) → ixF x.toInt8.toInt32 l k = ixF x l k := by
            intro l
            induction l with
            | nil => intro k _; rfl
            | cons b l ih =>
              intro k hb2
              have hq := hb2 b List.mem_cons_self
              have eq : (b = x.toInt8.toInt32) ↔ b = x := by
                obtain ⟨n, hn, rfl⟩ := nI_of h0
                have hn2 : n ≤ 255 := by
                  rcases Nat.lt_or_ge 255 n with q | q
                  · exact absurd (show (255 : Int32) < nI n from nI_lt (a := 255) q hn) h1
                  · exact q
                have : ∀ n, n ≤ 255 → ∀ j, j ≤ 127 → ((nI j = (nI n).toInt8.toInt32) ↔ nI j = nI n) := by decide +kernel
                obtain ⟨j, hj, rfl⟩ := nI_of2 (M := 127) (n := 127) (by decide) (by simpa using hq.2.1) hq.2.2
                exact this n hn2 j hj
              rw [ixF, ixF]
              by_cases q : b = x
              · rw [if_pos (eq.mpr q), if_pos q]
              · rw [if_neg (fun z => q (eq.mp z)), if_neg q]
                exact ih _ (fun b hb => hb2 b (List.mem_cons_of_mem _ hb))
          exact hall _ _ (by decide +kernel)
        rw [key2]; rfl
  rw [f_J0_indexOf_0f7a4, f_J0_indexOf_7cf53, hL, bnd_s, if_neg (by decide), hn, bnd_s, key]; rfl
section GOS
variable {p : Program} {l : Launch} {e : Env} {hR : Nat} {s : State} {m : MethodId} {args : Array Value} {below : List Frame} {meth : Method} {c : Code} {Q : State → Prop} {G : GT} {nL : Nat} {M : CM × OM} {pc index : Nat} {lv : List (Nat × Value)} {st : List Value} {cc : ByteArray} {own : String}
theorem go_ldcS0 (K : Kx p s m args meth c cc nL RX8 G) (hdg : decode cc pc = .ok (.ldc 59, 2)) (k : GO p l e hR s m args below meth c Q G nL M (pc + 2) lv (.ref (G.2.2.2.1 0) :: st)) : GO p l e hR s m args below meth c Q G nL M pc lv st :=
  fun H o ls h1 h2 h3 => va_ldcS K.1 K.2.1 K.2.2.2.1 K.2.2.2.2.2.1.2.2.2.1 hdg (k H o ls h1 h2 h3)
theorem go_ldcS1 (K : Kx p s m args meth c cc nL RX8 G) (hdg : decode cc pc = .ok (.ldc 76, 2)) (k : GO p l e hR s m args below meth c Q G nL M (pc + 2) lv (.ref (G.2.2.2.1 1) :: st)) : GO p l e hR s m args below meth c Q G nL M pc lv st :=
  fun H o ls h1 h2 h3 => va_ldcS K.1 K.2.1 K.2.2.2.1 K.2.2.2.2.2.1.2.2.2.2.1 hdg (k H o ls h1 h2 h3)
theorem go_slen0 (K : Kx p s m args meth c cc nL own G) (hl : Cond.methodLink own index yJ0_length_8abf5 ∈ TT) (hh : 6 < hR) (hW : (st.map fun v => v.category).sum ≤ 8) (hdg : decode cc pc = .ok (.invokevirtual index, 3)) (k : GO p l e hR s m args below meth c Q G nL M (pc + 3) lv (.int (147 : Int32) :: st)) : GO p l e hR s m args below meth c Q G nL M pc lv (.ref (G.2.2.2.1 0) :: st) :=
  go_cVIs (As := []) K (c_J0_length_8abf5 l G q_0 M 147 (by decide +kernel)) cf_J0_length_8abf5 cv_J0_length_8abf5 hl q_0 (Nat.lt_of_le_of_lt (by decide) hh) rfl rfl hW hdg rfl k
theorem go_charAt0 (K : Kx p s m args meth c cc nL own G) {x : Int32} (hx : inb x 147) (hl : Cond.methodLink own index yJ0_charAt_5068e ∈ TT) (hh : 6 < hR) (hW : (st.map fun v => v.category).sum ≤ 8) (hdg : decode cc pc = .ok (.invokevirtual index, 3)) (k : GO p l e hR s m args below meth c Q G nL M (pc + 3) lv (.int (chs0 x) :: st)) : GO p l e hR s m args below meth c Q G nL M pc lv (.int x :: .ref (G.2.2.2.1 0) :: st) :=
  go_cVIs (As := [.int x]) K (c_J0_charAt_5068e l G q_0 x M (chs0 x) (charAt_0 hx)) cf_J0_charAt_5068e cv_J0_charAt_5068e hl q_0 (Nat.lt_of_le_of_lt (by decide) hh) rfl rfl hW hdg rfl k
theorem go_indexOf1 (K : Kx p s m args meth c cc nL own G) {x : Int32} (hl : Cond.methodLink own index yJ0_indexOf_0f7a4 ∈ TT) (hh : 6 < hR) (hW : (st.map fun v => v.category).sum ≤ 8) (hdg : decode cc pc = .ok (.invokevirtual index, 3)) (k : GO p l e hR s m args below meth c Q G nL M (pc + 3) lv (.int (ixs1 x) :: st)) : GO p l e hR s m args below meth c Q G nL M pc lv (.int x :: .ref (G.2.2.2.1 1) :: st) :=
  go_cVIs (As := [.int x]) K (c_J0_indexOf_0f7a4 l G q_1 x M (ixs1 x) (indexOf_1 x)) cf_J0_indexOf_0f7a4 cv_J0_indexOf_0f7a4 hl q_1 (Nat.lt_of_le_of_lt (by decide) hh) rfl rfl hW hdg rfl k
end GOS
