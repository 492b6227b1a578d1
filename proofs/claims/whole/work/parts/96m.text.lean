/-! text -/
theorem opp_text : op_text Rel := by
  intro C O h
  obtain ⟨n, t, m, e, n', t', m', e', h'⟩ := h
  have h'' := h'
  obtain ⟨a, b, c, d, ⟨L, l1, l2, l3, l4⟩, f2, f3, f4, f5⟩ := h'
  have t4 : t ≤ 4 := a.1.2.1
  have ct : C 5 2 = nI t := a.2.1.2.2.1
  have at' : O.1 447 1 = nI t := a.2.1.2.2.2.1
  unfold f_X11_text
  rw [ct]
  by_cases ht : t < 4
  · have n4 : ¬ O.1 447 1 = 4 := by
      rw [at']
      exact fun e => by have := (nI_eq (b := 4) (by omega) (by decide)).mp e; omega
    rw [if_pos (show nI t < (4 : Int32) from nI_lt ht (by decide))]
    obtain ⟨bb, C2, O2, s, r1, r2, r3, r4, r5, r6⟩ := text_init l1 l2 l3 l4 n4
    obtain ⟨C3, q1, q2, q3⟩ := all_s (k57 := fun C => X4_read_j57 C) 25 0 FU s 0 C2 O2 (by decide) (by unfold FU; omega) r3
    have er : f_X4_read C = X4_read_j57 C3 := r1.trans q1
    have gr : GR C C3 := r4.trans q2
    have hle := r3.1.le
    rcases q3 with ⟨Oe, v, k1, k2, k3, k4, k5, k6, k7, k8⟩ | ⟨O3, s3, a3, nc, k1, k2, k3, k4⟩
    · obtain ⟨n0, e0⟩ := lp_go k1 (by unfold PT; omega)
      have g19 : ¬ Oe.1 446 19 = 0 := by rw [k5]; exact nI_ne0 (by omega) (by omega)
      obtain ⟨O4, hO4⟩ : ∃ O4, O4 = oup (oup Oe 446 4 (Oe.1 446 19)) 446 5 (Oe.1 446 20) := ⟨_, rfl⟩
      have ej : X12_text_j167 Oe = some (-1, O4) := by
        unfold X12_text_j167
        rw [o2n (show (20 : Nat) ≠ 4 by decide), o2n (show (19 : Nat) ≠ 5 by decide), o2n (show (19 : Nat) ≠ 4 by decide), if_neg (by rw [k5]; exact nI_nle (by omega) (by omega)), ← hO4]
      have ec : f_X4_read C = some (0, C3) := by
        rw [er]
        unfold X4_read_j57
        rw [if_neg (by rw [k4]; exact nI_ne0 (by omega) (by omega))]
      have kc : ∀ c, (c < 404 ∨ 412 < c) → (up2 C3 404 1 0) c = C c := fun c hc => by rw [up2_ne (by omega), gr.1 c hc]
      have ko : ∀ c, c ≠ 446 → (c < 458 ∨ 469 < c) → O4.1 c = O.1 c := fun c h1 h2 => by rw [hO4, oup_ne h1, oup_ne h1, k8.1 c h1 h2, r5 c h1]
      refine ⟨-1, up2 C3 404 1 0, O4, by rw [ec, bnd2_s, if_pos rfl], by rw [r2, e0, lp_err g19, ej], n, t, m, e, n', t', m', e', a.mono (fun p _ => ⟨by rw [kc 2 (by decide)], by rw [kc 3 (by decide)], by rw [kc 4 (by decide)]⟩) (fun c h1 h2 => kc c (by omega)) (fun k _ => by rw [ko 447 (by decide) (by decide)]), b.mono (fun p _ => ⟨by rw [kc 2 (by decide)], by rw [kc 3 (by decide)], by rw [kc 4 (by decide)]⟩) (fun c h1 h2 => kc c (by omega)) (fun k _ => by rw [ko 448 (by decide) (by decide)]), c, fun k hk => (d k hk).mono (fun j hj => kc _ (by omega)) (fun c h1 h2 => ko c (by omega) (by omega)), ⟨0, by decide, by rw [u2s]; rfl, ?_, fun k hk => absurd hk (by omega)⟩, ⟨?_, ?_⟩, fun L hL => by rw [kc 386 (by decide), kc 385 (by decide)]; exact f3 L hL, by rw [ko 447 (by decide) (by decide), kc 391 (by decide)]; exact f4, by rw [kc 401 (by decide)]; exact f5⟩
      · rw [hO4, o2n (by decide), o2n (by decide), k8.2.1 3 (by decide)]
        exact r6
      · rw [up2_ne (by decide), hO4, o2n (by decide), o2s, k5]
        exact k4
      · rw [up2_ne (by decide), hO4, o2s, k6]
    · have k2' := k2
      obtain ⟨ts3, ⟨p1, p2, p3, p4⟩, ⟨st3, -, -, -⟩, ⟨p5, p6, p30, p37⟩, ⟨b1, b2, b3⟩, -, -⟩ := k2'
      have hle3 := ts3.le
      obtain ⟨n0, e0⟩ := lp_go k1 (by unfold PT; omega)
      have o17 : O3.1 446 17 = 0 := (tk_e ts3.tk).mp k3
      have grO : ∀ c, c ≠ 446 → (c < 458 ∨ 469 < c) → O3.1 c = O.1 c := fun c h1 h2 => by rw [k4.1 c h1 h2, r5 c h1]
      obtain ⟨O4, hO4⟩ : ∃ O4, O4 = oup (oup O3 446 4 0) 446 5 (-1) := ⟨_, rfl⟩
      obtain ⟨O5, hO5⟩ : ∃ O5, O5 = oup O4 450 t (nI nc) := ⟨_, rfl⟩
      have o4 : ∀ k, k ≠ 4 → k ≠ 5 → O4.1 446 k = O3.1 446 k := fun k h1 h2 => by rw [hO4, o2n h2, o2n h1]
      have o4c : ∀ c, c ≠ 446 → O4.1 c = O3.1 c := fun c h1 => by rw [hO4, oup_ne h1, oup_ne h1]
      have o5c : ∀ c, c ≠ 446 → c ≠ 450 → O5.1 c = O3.1 c := fun c h1 h2 => by rw [hO5, oup_ne h2, o4c c h1]
      have o546 : O5.1 446 = O4.1 446 := by rw [hO5, oup_ne (by decide)]
      obtain ⟨O6, u1, u2, u3, u4, u5⟩ := cl_l ht b1 (fun v1 O => X12_text_j316 v1 O) nc 0 FU O5 (by omega) (by unfold FU; omega) (by rw [o546, o4 30 (by decide) (by decide)]; exact p30)
      obtain ⟨O7, w1, w2, w3, w4, w5⟩ := or_l (no := a3 + nc) ht (by omega) (fun v1 O => X12_text_j394 v1 O) (a3 + nc) 0 FU O6 (by omega) (by unfold FU; omega) (by rw [u2 446 (by decide), o546, o4 37 (by decide) (by decide)]; exact p37)
      have o7 : ∀ c, c < 450 ∨ 457 < c → O7.1 c = O5.1 c := fun c hc => by rw [w2 c (by omega) (by omega), u2 c (by omega)]
      have at7 : O7.1 447 1 = nI t := by rw [o7 447 (by decide), o5c 447 (by decide) (by decide), grO 447 (by decide) (by decide)]; exact at'
      have ej : X12_text_j167 O3 = some (nI t, oup O7 447 1 (nI (t + 1))) := by
        unfold X12_text_j167
        rw [o2n (show (20 : Nat) ≠ 4 by decide), p3, p4, ← hO4, o4 19 (by decide) (by decide), p3, if_pos (Int32.le_refl _), o4c 447 (by decide), grO 447 (by decide) (by decide), at', gd_p (inbN ht (by decide)), nI_clamp (by omega), o4 30 (by decide) (by decide), p30, ← hO5]
        have e1 : X12_text_l211 (fun v1 O => (X12_text_j316 v1 O)) FU (nI t) 0 O5 = X12_text_j316 (nI t) O6 := u1
        rw [e1]
        unfold X12_text_j316
        have e2 : X12_text_l318 (fun v1 O => (X12_text_j394 v1 O)) FU (nI t) 0 O6 = X12_text_j394 (nI t) O7 := w1
        rw [e2]
        unfold X12_text_j394
        rw [at7, nI_1]
      have ec : f_X4_read C = some (1, C3) := by
        rw [er]
        unfold X4_read_j57
        rw [if_pos p1]
      obtain ⟨C4, v1, v2, v3, v4, v5, v6, v7, v8⟩ := copySc (s := 422 + 6 * t) (up2 C3 404 1 0) (by omega)
      have es : f_X11_script (nI t) = some (422 + 6 * t) := by
        unfold f_X11_script
        rw [show f_X11_within (nI t) 0 3 = 1 from (wi_y (lo := 0) (hi := 3) (by omega) (by omega) (by decide)).1, if_neg n10, gd_p (inbN ht (by decide)), nI_clamp (by omega)]
      obtain ⟨C5, hC5⟩ : ∃ C5, C5 = up2 C4 5 2 (nI (t + 1)) := ⟨_, rfl⟩
      obtain ⟨O8, hO8⟩ : ∃ O8, O8 = oup O7 447 1 (nI (t + 1)) := ⟨_, rfl⟩
      rw [← hO8] at ej
      have kc : ∀ c, (c < 404 ∨ 412 < c) → c ≠ 5 → (c < 422 + 6 * t ∨ 422 + 6 * t + 5 < c) → C5 c = C c := fun c h1 h2 h3 => by rw [hC5, up2_ne h2, v2 c h3, up2_ne (by omega), gr.1 c h1]
      have ks : ∀ j, j ≤ 5 → C5 (422 + 6 * t + j) = C4 (422 + 6 * t + j) := fun j hj => by rw [hC5, up2_ne (by omega)]
      have ks0 : C5 (422 + 6 * t) = C4 (422 + 6 * t) := by rw [hC5, up2_ne (by omega)]
      have k406 : C5 406 = C3 406 := by rw [hC5, up2_ne (by decide), v2 406 (by omega), up2_ne (by decide)]
      have o8c : ∀ c, c ≠ 447 → O8.1 c = O7.1 c := fun c hc => by rw [hO8, oup_ne hc]
      have ko : ∀ c, c ≠ 446 → c ≠ 447 → (c < 450 ∨ 469 < c) → O8.1 c = O.1 c := fun c h1 h2 h3 => by rw [o8c c h2, o7 c (by omega), o5c c h1 (by omega), grO c h1 (by omega)]
      have o8A : ∀ k, k ≠ 1 → O8.1 447 k = O.1 447 k := fun k hk => by rw [hO8, o2n hk, o7 447 (by decide), o5c 447 (by decide) (by decide), grO 447 (by decide) (by decide)]
      have o846 : ∀ k, O8.1 446 k = O4.1 446 k := fun k => by rw [o8c 446 (by decide), o7 446 (by decide), o546]
      have o450 : ∀ k, k ≠ t → O8.1 450 k = O.1 450 k := fun k hk => by rw [o8c 450 (by decide), w2 450 (by decide) (by decide), u2 450 (by decide), hO5, o2n hk, o4c 450 (by decide), grO 450 (by decide) (by decide)]
      have o451 : ∀ c x, 451 ≤ c → c ≤ 455 → x < 24 * t → O8.1 c x = O.1 c x := fun c x h1 h2 h3 => by rw [o8c c (by omega), w2 c (by omega) (by omega), u5 c x h1 h2 (by omega), o5c c (by omega) (by omega), grO c (by omega) (by omega)]
      have o456 : ∀ x, x < 400 * t → O8.1 456 x = O.1 456 x ∧ O8.1 457 x = O.1 457 x := fun x hx => by
        rw [o8c 456 (by decide), o8c 457 (by decide), (w5 x (by omega)).1, (w5 x (by omega)).2, u2 456 (by decide), u2 457 (by decide), o5c 456 (by decide) (by decide), o5c 457 (by decide) (by decide), grO 456 (by decide) (by decide), grO 457 (by decide) (by decide)]
        exact ⟨rfl, rfl⟩
      refine ⟨nI t, C5, O8, ?_, by rw [r2, e0, lp_end p3 st3 o17, ej], n, t + 1, m, e, n', t', m', e', a.text ht (by rw [hC5, u2s]) (fun k hk => ?_) (fun c h1 h2 => kc c (by omega) h1 (by omega)) (by rw [hO8, o2s]) o8A, b.mono (fun p _ => ⟨by rw [kc 2 (by decide) (by decide) (by omega)], by rw [kc 3 (by decide) (by decide) (by omega)], by rw [kc 4 (by decide) (by decide) (by omega)]⟩) (fun c h1 h2 => kc c (by omega) (by omega) (by omega)) (fun k _ => by rw [ko 448 (by decide) (by decide) (by decide)]), ⟨c.1, by omega⟩, fun k hk => ?_, ⟨0, by decide, ?_, ?_, fun k hk => absurd hk (by omega)⟩, ⟨?_, ?_⟩, fun L hL => by rw [kc 386 (by decide) (by decide) (by omega), kc 385 (by decide) (by decide) (by omega)]; exact f3 L hL, by rw [o8A 2 (by decide), kc 391 (by decide) (by decide) (by omega)]; exact f4, by rw [kc 401 (by decide) (by decide) (by omega)]; exact f5⟩
      · rw [ec, bnd2_s, if_neg n10, es, bnd_s, v1, bnd_s, nI_1, hC5]
      · rw [hC5, u2n hk, v2 5 (by omega), up2_ne (by decide), gr.1 5 (by decide)]
      · by_cases ek : k = t
        · subst ek
          refine TextR.new k2 ht (by rw [ks0, v3, up2_ne (by decide)]) (fun i hi => by rw [ks 1 (by decide), v4 i hi, up2_ne (by decide)]) (fun i hi => by rw [ks 2 (by decide), v5 i hi, up2_ne (by decide)]) (fun i hi => by rw [ks 3 (by decide), v6 i hi, up2_ne (by decide)]) (fun i hi => by rw [ks 4 (by decide), v7 i hi, up2_ne (by decide)]) (fun i hi => by rw [ks 5 (by decide), v8 i hi, up2_ne (by decide)]) ?_ (fun j hj => ?_) (fun j hj => ?_)
          · rw [o8c 450 (by decide), w2 450 (by decide) (by decide), u2 450 (by decide), hO5, o2s]
          · have := u4 j (Nat.zero_le _) hj
            rw [o5c 463 (by decide) (by decide), o5c 464 (by decide) (by decide), o5c 465 (by decide) (by decide), o5c 466 (by decide) (by decide), o5c 467 (by decide) (by decide)] at this
            rw [o8c 451 (by decide), o8c 452 (by decide), o8c 453 (by decide), o8c 454 (by decide), o8c 455 (by decide), w2 451 (by decide) (by decide), w2 452 (by decide) (by decide), w2 453 (by decide) (by decide), w2 454 (by decide) (by decide), w2 455 (by decide) (by decide)]
            exact this
          · have := w4 j (Nat.zero_le _) hj
            rw [u2 468 (by decide), u2 469 (by decide), o5c 468 (by decide) (by decide), o5c 469 (by decide) (by decide)] at this
            rw [o8c 456 (by decide), o8c 457 (by decide)]
            exact this
        · exact (d k (by omega)).keep (t := t) (by omega) (fun j hj => kc _ (by omega) (by omega) (by omega)) (o450 k ek) o451 o456
      · rw [hC5, up2_ne (by decide), v2 404 (by omega), u2s]; rfl
      · rw [o846 3, o4 3 (by decide) (by decide), k4.2.1 3 (by decide)]
        exact r6
      · rw [k406, o846 4, hO4, o2n (by decide), o2s]
        exact p1
      · rw [k406, o846 5, hO4, o2s]
        exact p2
  · have e4 : t = 4 := by omega
    subst e4
    rw [if_neg (show ¬ nI 4 < (4 : Int32) by decide)]
    refine ⟨-1, C, O, rfl, ?_, n, 4, m, e, n', t', m', e', h''⟩
    unfold f_X12_text
    rw [if_pos (show O.1 447 1 = 4 from at')]
