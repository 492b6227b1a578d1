def FU : Nat := 10000
abbrev irm (x y : Int32) : Int32 := x - x / y * y
abbrev ius (x y : Int32) : Int32 := (x.toUInt32 >>> (y.toUInt32 &&& Int32.toUInt32 31)).toInt32
abbrev isSc (j : Nat) : Prop := j = 383 ∨ (422 ≤ j ∧ j < 446 ∧ (j - 422) % 6 = 0)
theorem in_k {x : Int32} {n k : Nat} (h1 : ¬ x < 0 ∧ x.toNatClampNeg = k) (h2 : k < n) : vp_in x n := fun h => h.elim h1.1 (fun q => by rw [h1.2] at q; omega)
theorem sw_ne {x v : Int32} (h : ¬ x = v) {k : Int} (hk : v.toInt = k) : x.toInt ≠ k := fun e => h (Int32.toInt_inj.mp (e.trans hk.symm))
theorem isSc_at {j : Nat} (h : isSc j) : ScAt j := by
  have h6 : ∀ k, k < 4 → ScAt (422 + 6 * k) := by
    intro k hk
    rcases (show k = 0 ∨ k = 1 ∨ k = 2 ∨ k = 3 by omega) with rfl | rfl | rfl | rfl <;> exact ⟨by decide, rfl, rfl, rfl, rfl, rfl, rfl⟩
  rcases h with rfl | ⟨h1, h2, h3⟩
  · exact ⟨by decide, rfl, rfl, rfl, rfl, rfl, rfl⟩
  · have e : j = 422 + 6 * ((j - 422) / 6) := by omega
    rw [e]; exact h6 _ (by omega)
theorem st_6 : StAt 6 := ⟨by decide, rfl, rfl, rfl, rfl, rfl, rfl⟩
theorem st_195 : StAt 195 := ⟨by decide, rfl, rfl, rfl, rfl, rfl, rfl⟩
theorem st_395 : StAt 395 := ⟨by decide, rfl, rfl, rfl, rfl, rfl, rfl⟩
theorem sc_383 : ScAt 383 := ⟨by decide, rfl, rfl, rfl, rfl, rfl, rfl⟩
theorem sc_407 : ScAt 407 := ⟨by decide, rfl, rfl, rfl, rfl, rfl, rfl⟩
theorem wh_5 : WhAt 5 := Or.inl rfl
theorem wh_194 : WhAt 194 := Or.inr rfl
theorem q_0 : 0 < 2 := by decide
theorem q_1 : 1 < 2 := by decide
theorem st_lt {s : Nat} (h : StAt s) (k : Nat) (hk : k ≤ 5) : s + k < NN := by have := h.1; unfold NN; omega
theorem sc_lt {s : Nat} (h : ScAt s) (k : Nat) (hk : k ≤ 5) : s + k < NN := by have := h.1; unfold NN; omega
theorem wh_lt {w : Nat} (h : WhAt w) (k : Nat) (hk : k ≤ 8) : w + k < NN := by unfold NN; rcases h with rfl | rfl <;> omega
theorem wh_st {w : Nat} (h : WhAt w) : StAt (w + 1) := by
  rcases h with rfl | rfl
  · exact st_6
  · exact st_195
theorem wh_nk {w : Nat} (h : WhAt w) : SH (w + 7) = (20, 5) := by rcases h with rfl | rfl <;> rfl
theorem wh_bf {w : Nat} (h : WhAt w) : SH (w + 8) = (25, 30) := by rcases h with rfl | rfl <;> rfl
theorem q2 {q : Nat} (h : q < 2) : q = 0 ∨ q = 1 := by omega
theorem st_q {q : Nat} (h : q < 2) : StAt (stI q) := by
  rcases q2 h with rfl | rfl
  · exact st_6
  · exact st_395
theorem la_lt {q : Nat} (h : q < 2) (k : Nat) (hk : k ≤ 2) : laI q + k < NN := by rcases q2 h with rfl | rfl <;> (show _ + k < 475; simp only [laI]; split <;> omega)
theorem la_nm {q : Nat} (h : q < 2) : SH (laI q + 1) = (20, 10) := by rcases q2 h with rfl | rfl <;> rfl
theorem la_sk {q : Nat} (h : q < 2) : SH (laI q + 2) = (20, 64) := by rcases q2 h with rfl | rfl <;> rfl
theorem st_bf0 : ∀ k, k < 30 → StAt (5 + 8 + 1 + 6 * k) ∧ StAt (194 + 8 + 1 + 6 * k) := by
  unfold StAt
  decide +kernel
theorem st_bf {w : Nat} (h : WhAt w) {x : Int32} (g : vp_in x 30) : StAt (w + 8 + 1 + 6 * x.toNatClampNeg) := by
  have hk : x.toNatClampNeg < 30 := Nat.not_le.mp fun q => g (Or.inr q)
  rcases h with rfl | rfl
  · exact (st_bf0 _ hk).1
  · exact (st_bf0 _ hk).2
theorem sc_tx {x : Int32} (g : vp_in x 4) : ScAt (422 + 6 * x.toNatClampNeg) := by
  have hk : x.toNatClampNeg < 4 := Nat.not_le.mp fun q => g (Or.inr q)
  exact isSc_at (Or.inr (by omega))
theorem sh_2 : SH 2 = (20, 7) := rfl
theorem sh_3 : SH 3 = (20, 7) := rfl
theorem sh_4 : SH 4 = (20, 7) := rfl
theorem sh_389 : SH 389 = (24, 4) := rfl
theorem sh_405 : SH 405 = (20, 300) := rfl
theorem sh_415 : SH 415 = (20, 128) := rfl
theorem sh_416 : SH 416 = (20, 128) := rfl
theorem sh_418 : SH 418 = (20, 10) := rfl
theorem sh_419 : SH 419 = (20, 10) := rfl
theorem sh_420 : SH 420 = (20, 10) := rfl
theorem sh_421 : SH 421 = (20, 5) := rfl
theorem sh_447 : SH 447 = (21, 5130) := rfl
theorem sh_448 : SH 448 = (21, 5130) := rfl
theorem sh_449 : SH 449 = (22, 300) := rfl
theorem sh_450 : SH 450 = (21, 4) := rfl
theorem sh_451 : SH 451 = (21, 96) := rfl
theorem sh_452 : SH 452 = (21, 96) := rfl
theorem sh_453 : SH 453 = (21, 96) := rfl
theorem sh_454 : SH 454 = (21, 96) := rfl
theorem sh_455 : SH 455 = (21, 96) := rfl
theorem sh_456 : SH 456 = (21, 1600) := rfl
theorem sh_457 : SH 457 = (21, 1600) := rfl
theorem sh_458 : SH 458 = (21, 40) := rfl
theorem sh_459 : SH 459 = (21, 41) := rfl
theorem sh_460 : SH 460 = (21, 80) := rfl
theorem sh_461 : SH 461 = (21, 80) := rfl
theorem sh_462 : SH 462 = (21, 41) := rfl
theorem sh_463 : SH 463 = (21, 24) := rfl
theorem sh_464 : SH 464 = (21, 24) := rfl
theorem sh_465 : SH 465 = (21, 24) := rfl
theorem sh_466 : SH 466 = (21, 24) := rfl
theorem sh_467 : SH 467 = (21, 24) := rfl
theorem sh_468 : SH 468 = (21, 400) := rfl
theorem sh_469 : SH 469 = (21, 400) := rfl
theorem sh_470 : SH 470 = (21, 164) := rfl
theorem sh_471 : SH 471 = (21, 10) := rfl
theorem sh_472 : SH 472 = (23, 200) := rfl
theorem sh_473 : SH 473 = (21, 2048) := rfl
theorem sh_474 : SH 474 = (21, 128) := rfl
section GOF
variable {p : Program} {l : Launch} {e : Env} {hR : Nat} {s : State} {m : MethodId} {args : Array Value} {below : List Frame} {meth : Method} {c : Code} {Q : State → Prop} {G : GT} {nL : Nat} {M : CM × OM} {C : CM} {O : OM} {pc index i q : Nat} {lv : List (Nat × Value)} {st : List Value} {cc : ByteArray} {own : String}
theorem go_fold {x y : Int32} (h : x = y) (k : GO p l e hR s m args below meth c Q G nL M (pc) lv (.int y :: st)) : GO p l e hR s m args below meth c Q G nL M (pc) lv (.int x :: st) := h ▸ k
theorem go_iushr (K : Kx p s m args meth c cc nL own G) {x y : Int32} (hdg : decode cc pc = .ok (.iushr, 1)) (k : GO p l e hR s m args below meth c Q G nL M (pc + 1) lv (.int (ius x y) :: st)) : GO p l e hR s m args below meth c Q G nL M (pc) lv (.int y :: .int x :: st) := fun H o ls h1 h2 h3 => lv_iushr K.1 K.2.1 hdg rfl (k H o ls h1 h2 h3)
theorem se_X11 : SH (0) = (0, 0) := rfl
theorem ls_X11 : 0 < NN := by decide
theorem ce_X11 (f g : Nat → Int32) (h : Nat → Int64) : cellE G f g h (0) (SH (0)) = .inr (11, fsX (gB G) (0) f g 0 11) := by rw [se_X11]; rfl
theorem rv_X11 : RV G M (0) RX11 := ⟨11, _, _, rfl, rfl, ls_X11, ce_X11 (M.1 (0)) (M.2.1 (0)) (M.2.2 (0))⟩
theorem gf_X11 (K : Kx p s m args meth c cc nL own G) (k : Nat) (hk : k < 12) (hl : Cond.fieldLink own index (TX11 k).1 (TX11 k).2.1 (TX11 k).2.2.1 ∈ TT) {v : Value} (hv : (fsX (gB G) (0) (C (0)) (O.1 (0)) 0 11)[k]? = some v) (hdg : decode cc pc = .ok (.getfield index, 3)) (kk : GO p l e hR s m args below meth c Q G nL (C, O) (pc + 3) lv (v :: st)) : GO p l e hR s m args below meth c Q G nL (C, O) (pc) lv (.ref (gB G + 0) :: st) := go_getf K (ls_X11) (ce_X11 _ _ _) rfl inX11 k hk hl hv hdg kk
theorem se_X3 : SH (1) = (1, 0) := rfl
theorem ls_X3 : 1 < NN := by decide
theorem ce_X3 (f g : Nat → Int32) (h : Nat → Int64) : cellE G f g h (1) (SH (1)) = .inr (3, fsX (gB G) (1) f g 0 3) := by rw [se_X3]; rfl
theorem rv_X3 : RV G M (1) RX3 := ⟨3, _, _, rfl, rfl, ls_X3, ce_X3 (M.1 (1)) (M.2.1 (1)) (M.2.2 (1))⟩
theorem gf_X3 (K : Kx p s m args meth c cc nL own G) (k : Nat) (hk : k < 3) (hl : Cond.fieldLink own index (TX3 k).1 (TX3 k).2.1 (TX3 k).2.2.1 ∈ TT) {v : Value} (hv : (fsX (gB G) (1) (C (1)) (O.1 (1)) 0 3)[k]? = some v) (hdg : decode cc pc = .ok (.getfield index, 3)) (kk : GO p l e hR s m args below meth c Q G nL (C, O) (pc + 3) lv (v :: st)) : GO p l e hR s m args below meth c Q G nL (C, O) (pc) lv (.ref (gB G + 1) :: st) := go_getf K (ls_X3) (ce_X3 _ _ _) rfl inX3 k hk hl hv hdg kk
theorem se_X10 (hs : WhAt i) : SH (i) = (2, 0) := by rcases hs with rfl | rfl <;> rfl
theorem ls_X10 (hs : WhAt i) : i < NN := wh_lt hs 0 (by decide)
theorem ce_X10 (hs : WhAt i) (f g : Nat → Int32) (h : Nat → Int64) : cellE G f g h (i) (SH (i)) = .inr (10, fsX (gB G) (i) f g 0 10) := by rw [se_X10 hs]; rfl
theorem rv_X10 (hs : WhAt i) : RV G M (i) RX10 := ⟨10, _, _, rfl, rfl, ls_X10 hs, ce_X10 hs (M.1 (i)) (M.2.1 (i)) (M.2.2 (i))⟩
theorem gf_X10 (K : Kx p s m args meth c cc nL own G) (hs : WhAt i) (k : Nat) (hk : k < 7) (hl : Cond.fieldLink own index (TX10 k).1 (TX10 k).2.1 (TX10 k).2.2.1 ∈ TT) {v : Value} (hv : (fsX (gB G) (i) (C (i)) (O.1 (i)) 0 10)[k]? = some v) (hdg : decode cc pc = .ok (.getfield index, 3)) (kk : GO p l e hR s m args below meth c Q G nL (C, O) (pc + 3) lv (v :: st)) : GO p l e hR s m args below meth c Q G nL (C, O) (pc) lv (.ref (gB G + i) :: st) := go_getf K (ls_X10 hs) (ce_X10 hs _ _ _) rfl inX10 k hk hl hv hdg kk
theorem pf_X10 (K : Kx p s m args meth c cc nL own G) (hs : WhAt i) (k : Nat) (hk : k < 7) (hl : Cond.fieldLink own index (TX10 k).1 (TX10 k).2.1 (TX10 k).2.2.1 ∈ TT) (hfin : (TX10 k).2.2.2 = false) (hty : tyX10 k = .int) {x : Int32} (hs2 : (fsX (gB G) (i) (C (i)) (O.1 (i)) 0 10).set k (.int x) = fsX (gB G) (i) (upd (C (i)) k x) (O.1 (i)) 0 10) (hdg : decode cc pc = .ok (.putfield index, 3)) (kk : GO p l e hR s m args below meth c Q G nL (up2 C (i) k x, O) (pc + 3) lv (st)) : GO p l e hR s m args below meth c Q G nL (C, O) (pc) lv (.int x :: .ref (gB G + i) :: st) := go_putf K (ls_X10 hs) (ce_X10 hs _ _ _) rfl inX10 tyX10_ok nmX10 k hk hl hfin (by rw [hty]; rfl) (by rw [hty]; rfl) (by first | exact hk | simp) (M' := (up2 C (i) k x, O)) (fun j hj => ⟨up2_ne hj, rfl, rfl⟩) (by rw [ce_X10 hs, hs2]; simp only [oup, up2_eq]) hdg kk
theorem se_X7 (hs : StAt i) : SH (i) = (3, 0) := hs.2.1
theorem ls_X7 (hs : StAt i) : i < NN := st_lt hs 0 (by decide)
theorem ce_X7 (hs : StAt i) (f g : Nat → Int32) (h : Nat → Int64) : cellE G f g h (i) (SH (i)) = .inr (7, fsX (gB G) (i) f g 0 7) := by rw [se_X7 hs]; rfl
theorem rv_X7 (hs : StAt i) : RV G M (i) RX7 := ⟨7, _, _, rfl, rfl, ls_X7 hs, ce_X7 hs (M.1 (i)) (M.2.1 (i)) (M.2.2 (i))⟩
theorem gf_X7 (K : Kx p s m args meth c cc nL own G) (hs : StAt i) (k : Nat) (hk : k < 10) (hl : Cond.fieldLink own index (TX7 k).1 (TX7 k).2.1 (TX7 k).2.2.1 ∈ TT) {v : Value} (hv : (fsX (gB G) (i) (C (i)) (O.1 (i)) 0 7)[k]? = some v) (hdg : decode cc pc = .ok (.getfield index, 3)) (kk : GO p l e hR s m args below meth c Q G nL (C, O) (pc + 3) lv (v :: st)) : GO p l e hR s m args below meth c Q G nL (C, O) (pc) lv (.ref (gB G + i) :: st) := go_getf K (ls_X7 hs) (ce_X7 hs _ _ _) rfl inX7 k hk hl hv hdg kk
theorem pf_X7 (K : Kx p s m args meth c cc nL own G) (hs : StAt i) (k : Nat) (hk : k < 10) (hl : Cond.fieldLink own index (TX7 k).1 (TX7 k).2.1 (TX7 k).2.2.1 ∈ TT) (hfin : (TX7 k).2.2.2 = false) (hty : tyX7 k = .int) {x : Int32} (hs2 : (fsX (gB G) (i) (C (i)) (O.1 (i)) 0 7).set k (.int x) = fsX (gB G) (i) (upd (C (i)) k x) (O.1 (i)) 0 7) (hdg : decode cc pc = .ok (.putfield index, 3)) (kk : GO p l e hR s m args below meth c Q G nL (up2 C (i) k x, O) (pc + 3) lv (st)) : GO p l e hR s m args below meth c Q G nL (C, O) (pc) lv (.int x :: .ref (gB G + i) :: st) := go_putf K (ls_X7 hs) (ce_X7 hs _ _ _) rfl inX7 tyX7_ok nmX7 k hk hl hfin (by rw [hty]; rfl) (by rw [hty]; rfl) (by first | exact hk | simp) (M' := (up2 C (i) k x, O)) (fun j hj => ⟨up2_ne hj, rfl, rfl⟩) (by rw [ce_X7 hs, hs2]; simp only [oup, up2_eq]) hdg kk
theorem se_X6 (hs : ScAt i) : SH (i) = (4, 0) := hs.2.1
theorem ls_X6 (hs : ScAt i) : i < NN := sc_lt hs 0 (by decide)
theorem ce_X6 (hs : ScAt i) (f g : Nat → Int32) (h : Nat → Int64) : cellE G f g h (i) (SH (i)) = .inr (6, fsX (gB G) (i) f g 0 6) := by rw [se_X6 hs]; rfl
theorem rv_X6 (hs : ScAt i) : RV G M (i) RX6 := ⟨6, _, _, rfl, rfl, ls_X6 hs, ce_X6 hs (M.1 (i)) (M.2.1 (i)) (M.2.2 (i))⟩
theorem gf_X6 (K : Kx p s m args meth c cc nL own G) (hs : ScAt i) (k : Nat) (hk : k < 7) (hl : Cond.fieldLink own index (TX6 k).1 (TX6 k).2.1 (TX6 k).2.2.1 ∈ TT) {v : Value} (hv : (fsX (gB G) (i) (C (i)) (O.1 (i)) 0 6)[k]? = some v) (hdg : decode cc pc = .ok (.getfield index, 3)) (kk : GO p l e hR s m args below meth c Q G nL (C, O) (pc + 3) lv (v :: st)) : GO p l e hR s m args below meth c Q G nL (C, O) (pc) lv (.ref (gB G + i) :: st) := go_getf K (ls_X6 hs) (ce_X6 hs _ _ _) rfl inX6 k hk hl hv hdg kk
theorem pf_X6 (K : Kx p s m args meth c cc nL own G) (hs : ScAt i) (k : Nat) (hk : k < 7) (hl : Cond.fieldLink own index (TX6 k).1 (TX6 k).2.1 (TX6 k).2.2.1 ∈ TT) (hfin : (TX6 k).2.2.2 = false) (hty : tyX6 k = .int) {x : Int32} (hs2 : (fsX (gB G) (i) (C (i)) (O.1 (i)) 0 6).set k (.int x) = fsX (gB G) (i) (upd (C (i)) k x) (O.1 (i)) 0 6) (hdg : decode cc pc = .ok (.putfield index, 3)) (kk : GO p l e hR s m args below meth c Q G nL (up2 C (i) k x, O) (pc + 3) lv (st)) : GO p l e hR s m args below meth c Q G nL (C, O) (pc) lv (.int x :: .ref (gB G + i) :: st) := go_putf K (ls_X6 hs) (ce_X6 hs _ _ _) rfl inX6 tyX6_ok nmX6 k hk hl hfin (by rw [hty]; rfl) (by rw [hty]; rfl) (by first | exact hk | simp) (M' := (up2 C (i) k x, O)) (fun j hj => ⟨up2_ne hj, rfl, rfl⟩) (by rw [ce_X6 hs, hs2]; simp only [oup, up2_eq]) hdg kk
theorem se_X9 (hs : q < 2) : SH (twI q) = (5, q) := by rcases q2 hs with rfl | rfl <;> rfl
theorem ls_X9 (hs : q < 2) : twI q < NN := by rcases q2 hs with rfl | rfl <;> decide
theorem ce_X9 (hs : q < 2) (f g : Nat → Int32) (h : Nat → Int64) : cellE G f g h (twI q) (SH (twI q)) = .inr (9, fsX (gB G) (twI q) f g q 9) := by rw [se_X9 hs]; rfl
theorem rv_X9 (hs : q < 2) : RV G M (twI q) RX9 := ⟨9, _, _, rfl, rfl, ls_X9 hs, ce_X9 hs (M.1 (twI q)) (M.2.1 (twI q)) (M.2.2 (twI q))⟩
theorem gf_X9 (K : Kx p s m args meth c cc nL own G) (hs : q < 2) (k : Nat) (hk : k < 3) (hl : Cond.fieldLink own index (TX9 k).1 (TX9 k).2.1 (TX9 k).2.2.1 ∈ TT) {v : Value} (hv : (fsX (gB G) (twI q) (C (twI q)) (O.1 (twI q)) q 9)[k]? = some v) (hdg : decode cc pc = .ok (.getfield index, 3)) (kk : GO p l e hR s m args below meth c Q G nL (C, O) (pc + 3) lv (v :: st)) : GO p l e hR s m args below meth c Q G nL (C, O) (pc) lv (.ref (gB G + twI q) :: st) := go_getf K (ls_X9 hs) (ce_X9 hs _ _ _) rfl inX9 k hk hl hv hdg kk
theorem se_X1 (hs : q < 2) : SH (laI q) = (6, q) := by rcases q2 hs with rfl | rfl <;> rfl
theorem ls_X1 (hs : q < 2) : laI q < NN := la_lt hs 0 (by decide)
theorem ce_X1 (hs : q < 2) (f g : Nat → Int32) (h : Nat → Int64) : cellE G f g h (laI q) (SH (laI q)) = .inr (1, fsX (gB G) (laI q) f g q 1) := by rw [se_X1 hs]; rfl
theorem rv_X1 (hs : q < 2) : RV G M (laI q) RX1 := ⟨1, _, _, rfl, rfl, ls_X1 hs, ce_X1 hs (M.1 (laI q)) (M.2.1 (laI q)) (M.2.2 (laI q))⟩
theorem gf_X1 (K : Kx p s m args meth c cc nL own G) (hs : q < 2) (k : Nat) (hk : k < 6) (hl : Cond.fieldLink own index (TX1 k).1 (TX1 k).2.1 (TX1 k).2.2.1 ∈ TT) {v : Value} (hv : (fsX (gB G) (laI q) (C (laI q)) (O.1 (laI q)) q 1)[k]? = some v) (hdg : decode cc pc = .ok (.getfield index, 3)) (kk : GO p l e hR s m args below meth c Q G nL (C, O) (pc + 3) lv (v :: st)) : GO p l e hR s m args below meth c Q G nL (C, O) (pc) lv (.ref (gB G + laI q) :: st) := go_getf K (ls_X1 hs) (ce_X1 hs _ _ _) rfl inX1 k hk hl hv hdg kk
theorem pf_X1 (K : Kx p s m args meth c cc nL own G) (hs : q < 2) (k : Nat) (hk : k < 6) (hl : Cond.fieldLink own index (TX1 k).1 (TX1 k).2.1 (TX1 k).2.2.1 ∈ TT) (hfin : (TX1 k).2.2.2 = false) (hty : tyX1 k = .int) {x : Int32} (hs2 : (fsX (gB G) (laI q) (C (laI q)) (O.1 (laI q)) q 1).set k (.int x) = fsX (gB G) (laI q) (upd (C (laI q)) k x) (O.1 (laI q)) q 1) (hdg : decode cc pc = .ok (.putfield index, 3)) (kk : GO p l e hR s m args below meth c Q G nL (up2 C (laI q) k x, O) (pc + 3) lv (st)) : GO p l e hR s m args below meth c Q G nL (C, O) (pc) lv (.int x :: .ref (gB G + laI q) :: st) := go_putf K (ls_X1 hs) (ce_X1 hs _ _ _) rfl inX1 tyX1_ok nmX1 k hk hl hfin (by rw [hty]; rfl) (by rw [hty]; rfl) (by first | exact hk | simp) (M' := (up2 C (laI q) k x, O)) (fun j hj => ⟨up2_ne hj, rfl, rfl⟩) (by rw [ce_X1 hs, hs2]; simp only [oup, up2_eq]) hdg kk
theorem se_X8 : SH (404) = (7, 0) := rfl
theorem ls_X8 : 404 < NN := by decide
theorem ce_X8 (f g : Nat → Int32) (h : Nat → Int64) : cellE G f g h (404) (SH (404)) = .inr (8, fsX (gB G) (404) f g 0 8) := by rw [se_X8]; rfl
theorem rv_X8 : RV G M (404) RX8 := ⟨8, _, _, rfl, rfl, ls_X8, ce_X8 (M.1 (404)) (M.2.1 (404)) (M.2.2 (404))⟩
theorem gf_X8 (K : Kx p s m args meth c cc nL own G) (k : Nat) (hk : k < 6) (hl : Cond.fieldLink own index (TX8 k).1 (TX8 k).2.1 (TX8 k).2.2.1 ∈ TT) {v : Value} (hv : (fsX (gB G) (404) (C (404)) (O.1 (404)) 0 8)[k]? = some v) (hdg : decode cc pc = .ok (.getfield index, 3)) (kk : GO p l e hR s m args below meth c Q G nL (C, O) (pc + 3) lv (v :: st)) : GO p l e hR s m args below meth c Q G nL (C, O) (pc) lv (.ref (gB G + 404) :: st) := go_getf K (ls_X8) (ce_X8 _ _ _) rfl inX8 k hk hl hv hdg kk
theorem pf_X8 (K : Kx p s m args meth c cc nL own G) (k : Nat) (hk : k < 6) (hl : Cond.fieldLink own index (TX8 k).1 (TX8 k).2.1 (TX8 k).2.2.1 ∈ TT) (hfin : (TX8 k).2.2.2 = false) (hty : tyX8 k = .int) {x : Int32} (hs2 : (fsX (gB G) (404) (C (404)) (O.1 (404)) 0 8).set k (.int x) = fsX (gB G) (404) (upd (C (404)) k x) (O.1 (404)) 0 8) (hdg : decode cc pc = .ok (.putfield index, 3)) (kk : GO p l e hR s m args below meth c Q G nL (up2 C (404) k x, O) (pc + 3) lv (st)) : GO p l e hR s m args below meth c Q G nL (C, O) (pc) lv (.int x :: .ref (gB G + 404) :: st) := go_putf K (ls_X8) (ce_X8 _ _ _) rfl inX8 tyX8_ok nmX8 k hk hl hfin (by rw [hty]; rfl) (by rw [hty]; rfl) (by first | exact hk | simp) (M' := (up2 C (404) k x, O)) (fun j hj => ⟨up2_ne hj, rfl, rfl⟩) (by rw [ce_X8, hs2]; simp only [oup, up2_eq]) hdg kk
theorem se_X4 : SH (406) = (8, 0) := rfl
theorem ls_X4 : 406 < NN := by decide
theorem ce_X4 (f g : Nat → Int32) (h : Nat → Int64) : cellE G f g h (406) (SH (406)) = .inr (4, fsX (gB G) (406) f g 0 4) := by rw [se_X4]; rfl
theorem rv_X4 : RV G M (406) RX4 := ⟨4, _, _, rfl, rfl, ls_X4, ce_X4 (M.1 (406)) (M.2.1 (406)) (M.2.2 (406))⟩
theorem gf_X4 (K : Kx p s m args meth c cc nL own G) (k : Nat) (hk : k < 5) (hl : Cond.fieldLink own index (TX4 k).1 (TX4 k).2.1 (TX4 k).2.2.1 ∈ TT) {v : Value} (hv : (fsX (gB G) (406) (C (406)) (O.1 (406)) 0 4)[k]? = some v) (hdg : decode cc pc = .ok (.getfield index, 3)) (kk : GO p l e hR s m args below meth c Q G nL (C, O) (pc + 3) lv (v :: st)) : GO p l e hR s m args below meth c Q G nL (C, O) (pc) lv (.ref (gB G + 406) :: st) := go_getf K (ls_X4) (ce_X4 _ _ _) rfl inX4 k hk hl hv hdg kk
theorem pf_X4 (K : Kx p s m args meth c cc nL own G) (k : Nat) (hk : k < 5) (hl : Cond.fieldLink own index (TX4 k).1 (TX4 k).2.1 (TX4 k).2.2.1 ∈ TT) (hfin : (TX4 k).2.2.2 = false) (hty : tyX4 k = .int) {x : Int32} (hs2 : (fsX (gB G) (406) (C (406)) (O.1 (406)) 0 4).set k (.int x) = fsX (gB G) (406) (upd (C (406)) k x) (O.1 (406)) 0 4) (hdg : decode cc pc = .ok (.putfield index, 3)) (kk : GO p l e hR s m args below meth c Q G nL (up2 C (406) k x, O) (pc + 3) lv (st)) : GO p l e hR s m args below meth c Q G nL (C, O) (pc) lv (.int x :: .ref (gB G + 406) :: st) := go_putf K (ls_X4) (ce_X4 _ _ _) rfl inX4 tyX4_ok nmX4 k hk hl hfin (by rw [hty]; rfl) (by rw [hty]; rfl) (by first | exact hk | simp) (M' := (up2 C (406) k x, O)) (fun j hj => ⟨up2_ne hj, rfl, rfl⟩) (by rw [ce_X4, hs2]; simp only [oup, up2_eq]) hdg kk
theorem se_X0 : SH (413) = (9, 0) := rfl
theorem ls_X0 : 413 < NN := by decide
theorem ce_X0 (f g : Nat → Int32) (h : Nat → Int64) : cellE G f g h (413) (SH (413)) = .inr (0, fsX (gB G) (413) f g 0 0) := by rw [se_X0]; rfl
theorem rv_X0 : RV G M (413) RX0 := ⟨0, _, _, rfl, rfl, ls_X0, ce_X0 (M.1 (413)) (M.2.1 (413)) (M.2.2 (413))⟩
theorem gf_X0 (K : Kx p s m args meth c cc nL own G) (k : Nat) (hk : k < 6) (hl : Cond.fieldLink own index (TX0 k).1 (TX0 k).2.1 (TX0 k).2.2.1 ∈ TT) {v : Value} (hv : (fsX (gB G) (413) (C (413)) (O.1 (413)) 0 0)[k]? = some v) (hdg : decode cc pc = .ok (.getfield index, 3)) (kk : GO p l e hR s m args below meth c Q G nL (C, O) (pc + 3) lv (v :: st)) : GO p l e hR s m args below meth c Q G nL (C, O) (pc) lv (.ref (gB G + 413) :: st) := go_getf K (ls_X0) (ce_X0 _ _ _) rfl inX0 k hk hl hv hdg kk
theorem pf_X0 (K : Kx p s m args meth c cc nL own G) (k : Nat) (hk : k < 6) (hl : Cond.fieldLink own index (TX0 k).1 (TX0 k).2.1 (TX0 k).2.2.1 ∈ TT) (hfin : (TX0 k).2.2.2 = false) (hty : tyX0 k = .int) {x : Int32} (hs2 : (fsX (gB G) (413) (C (413)) (O.1 (413)) 0 0).set k (.int x) = fsX (gB G) (413) (upd (C (413)) k x) (O.1 (413)) 0 0) (hdg : decode cc pc = .ok (.putfield index, 3)) (kk : GO p l e hR s m args below meth c Q G nL (up2 C (413) k x, O) (pc + 3) lv (st)) : GO p l e hR s m args below meth c Q G nL (C, O) (pc) lv (.int x :: .ref (gB G + 413) :: st) := go_putf K (ls_X0) (ce_X0 _ _ _) rfl inX0 tyX0_ok nmX0 k hk hl hfin (by rw [hty]; rfl) (by rw [hty]; rfl) (by first | exact hk | simp) (M' := (up2 C (413) k x, O)) (fun j hj => ⟨up2_ne hj, rfl, rfl⟩) (by rw [ce_X0, hs2]; simp only [oup, up2_eq]) hdg kk
theorem se_X5 : SH (414) = (10, 0) := rfl
theorem ls_X5 : 414 < NN := by decide
theorem ce_X5 (f g : Nat → Int32) (h : Nat → Int64) : cellE G f g h (414) (SH (414)) = .inr (5, fsX (gB G) (414) f g 0 5) := by rw [se_X5]; rfl
theorem rv_X5 : RV G M (414) RX5 := ⟨5, _, _, rfl, rfl, ls_X5, ce_X5 (M.1 (414)) (M.2.1 (414)) (M.2.2 (414))⟩
theorem gf_X5 (K : Kx p s m args meth c cc nL own G) (k : Nat) (hk : k < 2) (hl : Cond.fieldLink own index (TX5 k).1 (TX5 k).2.1 (TX5 k).2.2.1 ∈ TT) {v : Value} (hv : (fsX (gB G) (414) (C (414)) (O.1 (414)) 0 5)[k]? = some v) (hdg : decode cc pc = .ok (.getfield index, 3)) (kk : GO p l e hR s m args below meth c Q G nL (C, O) (pc + 3) lv (v :: st)) : GO p l e hR s m args below meth c Q G nL (C, O) (pc) lv (.ref (gB G + 414) :: st) := go_getf K (ls_X5) (ce_X5 _ _ _) rfl inX5 k hk hl hv hdg kk
theorem se_X2 : SH (417) = (11, 0) := rfl
theorem ls_X2 : 417 < NN := by decide
theorem ce_X2 (f g : Nat → Int32) (h : Nat → Int64) : cellE G f g h (417) (SH (417)) = .inr (2, fsX (gB G) (417) f g 0 2) := by rw [se_X2]; rfl
theorem rv_X2 : RV G M (417) RX2 := ⟨2, _, _, rfl, rfl, ls_X2, ce_X2 (M.1 (417)) (M.2.1 (417)) (M.2.2 (417))⟩
theorem gf_X2 (K : Kx p s m args meth c cc nL own G) (k : Nat) (hk : k < 6) (hl : Cond.fieldLink own index (TX2 k).1 (TX2 k).2.1 (TX2 k).2.2.1 ∈ TT) {v : Value} (hv : (fsX (gB G) (417) (C (417)) (O.1 (417)) 0 2)[k]? = some v) (hdg : decode cc pc = .ok (.getfield index, 3)) (kk : GO p l e hR s m args below meth c Q G nL (C, O) (pc + 3) lv (v :: st)) : GO p l e hR s m args below meth c Q G nL (C, O) (pc) lv (.ref (gB G + 417) :: st) := go_getf K (ls_X2) (ce_X2 _ _ _) rfl inX2 k hk hl hv hdg kk
theorem pf_X2 (K : Kx p s m args meth c cc nL own G) (k : Nat) (hk : k < 6) (hl : Cond.fieldLink own index (TX2 k).1 (TX2 k).2.1 (TX2 k).2.2.1 ∈ TT) (hfin : (TX2 k).2.2.2 = false) (hty : tyX2 k = .int) {x : Int32} (hs2 : (fsX (gB G) (417) (C (417)) (O.1 (417)) 0 2).set k (.int x) = fsX (gB G) (417) (upd (C (417)) k x) (O.1 (417)) 0 2) (hdg : decode cc pc = .ok (.putfield index, 3)) (kk : GO p l e hR s m args below meth c Q G nL (up2 C (417) k x, O) (pc + 3) lv (st)) : GO p l e hR s m args below meth c Q G nL (C, O) (pc) lv (.int x :: .ref (gB G + 417) :: st) := go_putf K (ls_X2) (ce_X2 _ _ _) rfl inX2 tyX2_ok nmX2 k hk hl hfin (by rw [hty]; rfl) (by rw [hty]; rfl) (by first | exact hk | simp) (M' := (up2 C (417) k x, O)) (fun j hj => ⟨up2_ne hj, rfl, rfl⟩) (by rw [ce_X2, hs2]; simp only [oup, up2_eq]) hdg kk
theorem se_X12 : SH (446) = (12, 0) := rfl
theorem ls_X12 : 446 < NN := by decide
theorem ce_X12 (f g : Nat → Int32) (h : Nat → Int64) : cellE G f g h (446) (SH (446)) = .inr (12, fsX (gB G) (446) f g 0 12) := by rw [se_X12]; rfl
theorem rv_X12 : RV G M (446) RX12 := ⟨12, _, _, rfl, rfl, ls_X12, ce_X12 (M.1 (446)) (M.2.1 (446)) (M.2.2 (446))⟩
theorem gf_X12 (K : Kx p s m args meth c cc nL own G) (k : Nat) (hk : k < 46) (hl : Cond.fieldLink own index (TX12 k).1 (TX12 k).2.1 (TX12 k).2.2.1 ∈ TT) {v : Value} (hv : (fsX (gB G) (446) (C (446)) (O.1 (446)) 0 12)[k]? = some v) (hdg : decode cc pc = .ok (.getfield index, 3)) (kk : GO p l e hR s m args below meth c Q G nL (C, O) (pc + 3) lv (v :: st)) : GO p l e hR s m args below meth c Q G nL (C, O) (pc) lv (.ref (gB G + 446) :: st) := go_getf K (ls_X12) (ce_X12 _ _ _) rfl inX12 k hk hl hv hdg kk
theorem pf_X12 (K : Kx p s m args meth c cc nL own G) (k : Nat) (hk : k < 46) (hl : Cond.fieldLink own index (TX12 k).1 (TX12 k).2.1 (TX12 k).2.2.1 ∈ TT) (hfin : (TX12 k).2.2.2 = false) (hty : tyX12 k = .int) {x : Int32} (hs2 : (fsX (gB G) (446) (C (446)) (O.1 (446)) 0 12).set k (.int x) = fsX (gB G) (446) (C (446)) (upd (O.1 (446)) k x) 0 12) (hdg : decode cc pc = .ok (.putfield index, 3)) (kk : GO p l e hR s m args below meth c Q G nL (C, oup O 446 k x) (pc + 3) lv (st)) : GO p l e hR s m args below meth c Q G nL (C, O) (pc) lv (.int x :: .ref (gB G + 446) :: st) := go_putf K (ls_X12) (ce_X12 _ _ _) rfl inX12 tyX12_ok nmX12 k hk hl hfin (by rw [hty]; rfl) (by rw [hty]; rfl) (by first | exact hk | simp) (M' := (C, oup O 446 k x)) (fun j hj => ⟨rfl, up2_ne hj, rfl⟩) (by rw [ce_X12, hs2]; simp only [oup, up2_eq]) hdg kk
theorem pf_script (K : Kx p s m args meth c cc nL own G) (hs : q < 2) {j : Nat} (hj : ScAt j) (hl : Cond.fieldLink own index (TX1 5).1 (TX1 5).2.1 (TX1 5).2.2.1 ∈ TT) (hdg : decode cc pc = .ok (.putfield index, 3)) (kk : GO p l e hR s m args below meth c Q G nL (up2 C (laI q) 5 (nI j), O) (pc + 3) lv (st)) : GO p l e hR s m args below meth c Q G nL (C, O) (pc) lv (.ref (gB G + j) :: .ref (gB G + laI q) :: st) :=
  go_putf K (ls_X1 hs) (ce_X1 hs _ _ _) rfl inX1 tyX1_ok nmX1 5 (by decide) hl rfl rfl rfl (Nat.le_of_ble_eq_true rfl) (M' := (up2 C (laI q) 5 (nI j), O)) (fun j hj => ⟨up2_ne hj, rfl, rfl⟩) (by
    have e : (nI j).toNatClampNeg = j := nI_clamp (by have := hj.1; omega)
    rw [ce_X1 hs]
    simp only [up2_eq]
    show (Sum.inr (1, [.ref (gB G + 1), .ref (gB G + stI q), .ref (gB G + (laI q + 1)), .ref (gB G + (laI q + 2)), .int (C (laI q) 4), .ref (gB G + j)]) : va_E) = .inr (1, [.ref (gB G + 1), .ref (gB G + stI q), .ref (gB G + (laI q + 1)), .ref (gB G + (laI q + 2)), .int (upd (C (laI q)) 5 (nI j) 4), .ref (gB G + (upd (C (laI q)) 5 (nI j) 5).toNatClampNeg)])
    have e4 : upd (C (laI q)) 5 (nI j) 4 = C (laI q) 4 := rfl
    have e5 : upd (C (laI q)) 5 (nI j) 5 = nI j := rfl
    rw [e4, e5, e]) hdg kk
end GOF
