section OT
variable {n : Int}
theorem jO_g {G G' : hp} {T : Int → Option Nat} (h : jO G T) (e : ∀ h c, 87 ≤ h → G h = some c → G' h = some c) : jO G' T := fun i i0 i1 => by
  rcases h i i0 i1 with k | ⟨x, fs, k1, k2, k3⟩
  · exact .inl k
  · exact .inr ⟨x, fs, k1, k2, e _ _ k2 k3⟩
theorem Rel_tx {G : hp} {v v' : Nat → Nat → Int} {N N' : Nat → Int → Int} {T : Nat → Int → Option Nat} {u u' : Nat → Int} {M M' : Nat → Int → Int} (h : Rel n G v N T u M) (e1 : ∀ k, k ≠ 49 → v' k = v k) (e2 : ∀ j, j < 50 ∨ 55 < j → N' j = N j) (e3 : u' 23 = u 23) (e4 : ∀ j, j = 70 ∨ j = 71 ∨ j = 73 → M' j = M j) (e5 : ∀ i, i < 681 * M 70 1 → M' 72 i = M 72 i) (hl : jL (v' 49 6) (v' 49 7) (v' 49 8) (u' 4) (u' 5) (u' 6) (N' 50) (M 73)) : Rel (n + 1) G v' N' T u' M' := by
  obtain ⟨⟨hY, hK, hC, hF, hB, hT, hS, hD, hX, hG⟩, ⟨iY, iK, iC, iF, iB, iT, iS, iD, iX, iG⟩, hM, hL, hW, hH, hN⟩ := h
  have g1 : jG G (T 27) (M' 72) (M 70) := fun k k0 k1 => TX_X (fun i i0 i1 => e5 i (by omega)) (hG k k0 k1)
  have g2 : jG G (T 48) (M' 72) (M 71) := fun k k0 k1 => TX_X (fun i i0 i1 => e5 i (by omega)) (iG k k0 k1)
  have m70 := e4 70 (by omega)
  have m71 := e4 71 (by omega)
  have m73 := e4 73 (by omega)
  unfold Rel
  simp (disch := first | decide | omega) only [e1, e2, m70, m71, m73]
  exact ⟨⟨hY, hK, hC, hF, jB_up hB, hT, hS, hD, hX, g1⟩, ⟨iY, iK, iC, iF, jB_up iB, iT, iS, iD, iX, g2⟩, hM, hl, by rw [e3]; exact hW, hH, hN⟩
set_option maxHeartbeats 8000000 in
theorem op_text : OP n (mX11_text 8) (mX12_text 69) := by
  intro G v N T u M h
  obtain ⟨⟨hY, hK, hC, hF, hB, hT, hS, hD, hX, hG⟩, hI, hM, hL, hW, hH, hN⟩ := id h
  obtain ⟨⟨x1, x2⟩, x3, x4⟩ := id hX
  by_cases d4 : M 70 1 = 4
  · refine ⟨-1, G, v, N, T, u, M, Rel_up h, fun Q q => ?_, fun Q q => ?_⟩
    · have e : v 10 12 = 4 := by omega
      simp (disch := first | omega | decide) only [mX11_text, ↓kh_c8, ↓kh_g8_0, ↓kh_g8_1, ↓kh_g8_2, ↓kh_g8_3, ↓kh_g8_4, ↓kh_g8_5, ↓kh_g8_6, ↓kh_g8_7, ↓kh_c10, ↓kh_g10_0, ↓kh_g10_1, ↓kh_g10_2, ↓kh_g10_3, ↓kh_g10_4, ↓kh_g10_5, ↓kh_g10_6, ↓kh_g10_7, ↓kh_g10_8, ↓kh_g10_9, ↓kh_g10_10, ↓kh_g10_11, ↓kh_g10_12, ↓kh_p10_12, ↓kh_g10_13, ↓kh_p10_13, ↓kh_g10_14, ↓kh_p10_14, ↓kh_g10_15, ↓kh_p10_15, ↓be_y, ↓be_n, ↓bf_y, ↓bf_n, ↓bl_y, ↓bl_n, ↓bm_y, ↓bm_n, ↓bg_y, ↓bg_n, ↓bs_y, ↓bs_n, ↓bo_y, ↓bo_n, ↓bp_y, ↓bp_n, ↓forall_eq, ↓within_y, ↓within_n, ↓isIn_y, ↓isIn_n, and_true, true_and, and_self, us_at, us_ne, w32_id, um_eq, um_ne, um_um, uu_eq, uu_ne, uu_uu, vv_eq, vv_ne, vv_vv, ne_eq, not_false_eq_true, not_true_eq_false, reduceCtorEq, Int.reduceAdd, Int.reduceSub, Int.reduceMul, Int.reduceNeg, Nat.reduceEqDiff, or_true, true_or, true_implies, false_implies, Int.reduceLT, Int.reduceLE, Int.reduceEq, e]
      exact q
    · simp (disch := first | omega | decide) only [mX12_text, ↓rh_rcv, ↓rh_g0, ↓rh_r70, ↓rh_w70, ↓be_y, ↓be_n, ↓bf_y, ↓bf_n, ↓bl_y, ↓bl_n, ↓bm_y, ↓bm_n, ↓bg_y, ↓bg_n, ↓bs_y, ↓bs_n, ↓bo_y, ↓bo_n, ↓bp_y, ↓bp_n, ↓forall_eq, ↓within_y, ↓within_n, ↓isIn_y, ↓isIn_n, and_true, true_and, and_self, us_at, us_ne, w32_id, um_eq, um_ne, um_um, uu_eq, uu_ne, uu_uu, vv_eq, vv_ne, vv_vv, ne_eq, not_false_eq_true, not_true_eq_false, reduceCtorEq, Int.reduceAdd, Int.reduceSub, Int.reduceMul, Int.reduceNeg, Nat.reduceEqDiff, or_true, true_or, true_implies, false_implies, Int.reduceLT, Int.reduceLE, Int.reduceEq, d4]
      exact q
  · have c4 : M 70 1 < 4 := by omega
    obtain ⟨⟨l1, l2⟩, l3, l4, l5⟩ := hL
    have hT2 : tapok (M 73) (u 4) := ⟨by omega, fun i i0 i1 => by have := l5 i i0 i1; omega⟩
    have hp2 : tpr N v (M 73) (u 4) := ⟨l1, fun i i0 i1 => l5 i i0 i1⟩
    obtain ⟨cn, s', cl', v', N', u', M', g1, g2, g2b, g3, g4, g5, g6, g7, g8, g9, g10⟩ := tx_b (T := T) (v := v) (N := N) (u := u) (M := M) hT2 hp2 rfl rfl ⟨x2.1, c4⟩
    have cn3 : cn ≤ 300 := by omega
    have m70 : M' 70 = M 70 := g7 70 (by decide) (by decide)
    have v10 : v' 10 = v 10 := g4 10 (by decide)
    have e12 : v 10 12 = M 70 1 := x1
    rcases s' with ⟨j, o⟩ | ⟨k, e⟩
    · obtain ⟨hC', hR', hv'⟩ := g1.1 j o rfl
      obtain ⟨⟨m0, hc⟩, c2, c3, -⟩ := id hC'
      have jl := crd_l hc
      have f0 : v' 49 7 = 0 := hc.2.2.2.1
      have f8 : v' 49 8 = -1 := hc.2.2.2.2.1
      have f12 : v' 49 12 = (o.length : Int) := hc.2.2.2.2.2.2.2.1
      obtain ⟨⟨a, a1, a2⟩, jo1, jo2⟩ := id hN
      have fr : fre G a := ⟨a1, a2⟩
      obtain ⟨fc, fo, t1, t2, t3⟩ := txt_c (v := v') (N := N') (T := T) (u := u) (M := M) fr (m := (cl'.length : Int)) (n := (o.length : Int)) (by omega) (by omega) f0 f12 c2
      have gq : ∀ h c, 87 ≤ h → G h = some c → (hs (hs (hs (hs G a (cO 8 [vr (some (a + 1)), vr (some (a + 2)), vr (some (a + 3))])) (a + 1) (cA 0 (3 * (cl'.length : Int)) fc)) (a + 2) (cA 0 (o.length : Int) fo)) (a + 3) (cA 0 4 (N' 55))) h = some c := fun h c hh e => by
        have : h < a := by
          rcases Nat.lt_or_ge h a with t | t
          · exact t
          · rw [(a2 h (.inr hh)).2 (.inr t)] at e; exact absurd e (by simp)
        rw [hs_ne (by omega), hs_ne (by omega), hs_ne (by omega), hs_ne (by omega)]
        exact e
      have frn : fre (hs (hs (hs (hs G a (cO 8 [vr (some (a + 1)), vr (some (a + 2)), vr (some (a + 3))])) (a + 1) (cA 0 (3 * (cl'.length : Int)) fc)) (a + 2) (cA 0 (o.length : Int) fo)) (a + 3) (cA 0 4 (N' 55))) (a + 1 + 1 + 1 + 1) := fre_s (fre_s (fre_s (fre_s fr)))
      have q0 : (hs (hs (hs (hs G a (cO 8 [vr (some (a + 1)), vr (some (a + 2)), vr (some (a + 3))])) (a + 1) (cA 0 (3 * (cl'.length : Int)) fc)) (a + 2) (cA 0 (o.length : Int) fo)) (a + 3) (cA 0 4 (N' 55))) a = some (cO 8 [vr (some (a + 1)), vr (some (a + 2)), vr (some (a + 3))]) := by rw [hs_ne (by omega), hs_ne (by omega), hs_ne (by omega), hs_eq]
      have q1 : (hs (hs (hs (hs G a (cO 8 [vr (some (a + 1)), vr (some (a + 2)), vr (some (a + 3))])) (a + 1) (cA 0 (3 * (cl'.length : Int)) fc)) (a + 2) (cA 0 (o.length : Int) fo)) (a + 3) (cA 0 4 (N' 55))) (a + 1) = some (cA 0 (3 * (cl'.length : Int)) fc) := by rw [hs_ne (by omega), hs_ne (by omega), hs_eq]
      have q2 : (hs (hs (hs (hs G a (cO 8 [vr (some (a + 1)), vr (some (a + 2)), vr (some (a + 3))])) (a + 1) (cA 0 (3 * (cl'.length : Int)) fc)) (a + 2) (cA 0 (o.length : Int) fo)) (a + 3) (cA 0 4 (N' 55))) (a + 2) = some (cA 0 (o.length : Int) fo) := by rw [hs_ne (by omega), hs_eq]
      have q3 : (hs (hs (hs (hs G a (cO 8 [vr (some (a + 1)), vr (some (a + 2)), vr (some (a + 3))])) (a + 1) (cA 0 (3 * (cl'.length : Int)) fc)) (a + 2) (cA 0 (o.length : Int) fo)) (a + 3) (cA 0 4 (N' 55))) (a + 3) = some (cA 0 4 (N' 55)) := hs_eq _ _ _
      have nw := TX_new (k := M 70 1) (X := M' 72) hC' hR' hv' cn3 g3 rfl (a := a) (b := a + 1) (c := a + 2) (d := a + 3) (by omega) q0 q1 q2 q3 t1 t2 (fun i _ _ => rfl)
      generalize hs (hs (hs (hs G a (cO 8 [vr (some (a + 1)), vr (some (a + 2)), vr (some (a + 3))])) (a + 1) (cA 0 (3 * (cl'.length : Int)) fc)) (a + 2) (cA 0 (o.length : Int) fo)) (a + 3) (cA 0 4 (N' 55)) = G' at *
      have RT0 := Rel_tx (v' := vv v' 49 6 0) (N' := N') (u' := uu (uu (uu u' 5 0) 6 (-1)) 4 0) (M' := M') h (fun k hk => by simp [vv, hk]; exact g4 k hk) (fun j hj => g5 j (by omega)) (by rw [uu_ne (by decide), uu_ne (by decide), uu_ne (by decide)]; exact g6 23 (by omega)) (fun j hj => g7 j (by omega) (by omega)) (fun i hi => g8 i (.inl hi)) ⟨⟨by simp [vv, uu], by simp [uu]⟩, ⟨by simp [vv, uu, f0], by simp [uu]⟩, ⟨by simp [vv, uu, f8], by simp [uu]⟩, fun i i0 i1 => by simp [uu] at i1; omega⟩
      obtain ⟨⟨hY, hK, hC, hF, hB, hT, hS, hD, hX, hG⟩, hI, hM, hL, hW, hH, hN⟩ := id RT0
      rw [m70] at hY hK hC hF hB hT hS hD hX hG
      refine ⟨M 70 1, G', vv (vv v' 49 6 0) 10 12 (M 70 1 + 1), N', ut T 27 (us (T 27) (M 70 1) (some a)), uu (uu (uu u' 5 0) 6 (-1)) 4 0, um M' 70 (us (M 70) 1 (M 70 1 + 1)), ?_, fun Q q => ?_, fun Q q => ?_⟩
      · have tu27 : (ut T 27 (us (T 27) (M 70 1) (some a))) 27 = us (T 27) (M 70 1) (some a) := by simp [ut]
        have tu48 : (ut T 27 (us (T 27) (M 70 1) (some a))) 48 = T 48 := by simp [ut]
        have w12 : (vv (vv v' 49 6 0) 10 12 (M 70 1 + 1)) 10 12 = M 70 1 + 1 := by simp [vv, uu]
        have w13 : (vv (vv v' 49 6 0) 10 12 (M 70 1 + 1)) 10 13 = (vv v' 49 6 0) 10 13 := by simp [vv, uu]
        have w14 : (vv (vv v' 49 6 0) 10 12 (M 70 1 + 1)) 10 14 = (vv v' 49 6 0) 10 14 := by simp [vv, uu]
        have w15 : (vv (vv v' 49 6 0) 10 12 (M 70 1 + 1)) 10 15 = (vv v' 49 6 0) 10 15 := by simp [vv, uu]
        have wne : ∀ j, j ≠ 10 → (vv (vv v' 49 6 0) 10 12 (M 70 1 + 1)) j = (vv v' 49 6 0) j := fun j hj => by simp [vv, hj]
        obtain ⟨iY, iK, iC, iF, iB, iT, iS, iD, iX, iG⟩ := hI
        rw [m70] at hM
        unfold Rel
        simp (disch := first | decide | omega) only [um_eq, um_ne, w12, w13, w14, w15, wne, tu27, tu48]
        refine ⟨⟨jY_A (fun i hi => us_ne (by omega)) hY, jK_A (fun i hi => us_ne (by omega)) hK, jC_A (fun i hi => us_ne (by omega)) hC, jF_A (fun i hi => us_ne (by omega)) hF, jB_A (fun i hi => us_ne (by omega)) hB, jT_A (fun i hi => us_ne (by omega)) hT, jS_A (fun i hi => us_ne (by omega)) hS, jD_A (fun i hi => us_ne (by omega)) hD, ?_, ?_⟩, ⟨iY, iK, iC, iF, iB, iT, iS, iD, iX, fun k k0 k1 => TX_G gq (iG k k0 k1)⟩, ⟨?_, ?_⟩, hL, hW, hH, ⟨a + 1 + 1 + 1 + 1, frn.1, frn.2⟩, ?_, jO_g jo2 gq⟩
        · obtain ⟨y1, y2, y3⟩ := hX
          refine ⟨by rw [us_eq]; omega, ?_, ?_⟩
          · rw [us_ne (by decide), us_eq]; omega
          · rw [us_ne (by decide)]; exact y3
        · intro k k0 k1
          rw [us_eq] at k1
          by_cases e : k = M 70 1
          · subst e; rw [us_eq]; exact nw
          · rw [us_ne e]; exact TX_G gq (hG k k0 (by omega))
        · rw [us_ne (by decide)]; exact hM.1
        · rw [us_eq]; have := hM.2; omega
        · intro i i0 i1
          by_cases e : i = M 70 1
          · subst e; rw [us_eq]; exact .inr ⟨a, _, rfl, a1, q0⟩
          · rw [us_ne e]; exact jO_g jo1 gq i i0 i1
      · simp (disch := first | omega | decide) only [mX11_text, ↓kh_c8, ↓kh_g8_0, ↓kh_g8_1, ↓kh_g8_2, ↓kh_g8_3, ↓kh_g8_4, ↓kh_g8_5, ↓kh_g8_6, ↓kh_g8_7, ↓kh_c10, ↓kh_g10_0, ↓kh_g10_1, ↓kh_g10_2, ↓kh_g10_3, ↓kh_g10_4, ↓kh_g10_5, ↓kh_g10_6, ↓kh_g10_7, ↓kh_g10_8, ↓kh_g10_9, ↓kh_g10_10, ↓kh_g10_11, ↓kh_g10_12, ↓kh_p10_12, ↓kh_g10_13, ↓kh_p10_13, ↓kh_g10_14, ↓kh_p10_14, ↓kh_g10_15, ↓kh_p10_15, ↓kh_c49, ↓kh_g49_0, ↓kh_g49_1, ↓kh_g49_2, ↓kh_g49_3, ↓kh_g49_4, ↓kh_g49_5, ↓kh_g49_6, ↓kh_p49_6, ↓kh_g49_7, ↓kh_p49_7, ↓kh_g49_8, ↓kh_p49_8, ↓kh_g49_9, ↓kh_p49_9, ↓kh_g49_10, ↓kh_p49_10, ↓kh_g49_11, ↓kh_p49_11, ↓kh_g49_12, ↓kh_p49_12, ↓kh_g49_13, ↓kh_p49_13, ↓kh_g49_14, ↓kh_p49_14, ↓be_y, ↓be_n, ↓bf_y, ↓bf_n, ↓bl_y, ↓bl_n, ↓bm_y, ↓bm_n, ↓bg_y, ↓bg_n, ↓bs_y, ↓bs_n, ↓bo_y, ↓bo_n, ↓bp_y, ↓bp_n, ↓forall_eq, ↓within_y, ↓within_n, ↓isIn_y, ↓isIn_n, and_true, true_and, and_self, us_at, us_ne, w32_id, um_eq, um_ne, um_um, uu_eq, uu_ne, uu_uu, vv_eq, vv_ne, vv_vv, ne_eq, not_false_eq_true, not_true_eq_false, reduceCtorEq, Int.reduceAdd, Int.reduceSub, Int.reduceMul, Int.reduceNeg, Nat.reduceEqDiff, or_true, true_or, true_implies, false_implies, Int.reduceLT, Int.reduceLE, Int.reduceEq, e12]
        refine g9 _ _ (t3 _ ?_)
        have e12' : (vv v' 49 6 0) 10 12 = M 70 1 := by simp [vv, v10]; exact e12
        simp (disch := first | omega | decide) only [w32_id, ↓kh_c8, ↓kh_g8_0, ↓kh_g8_1, ↓kh_g8_2, ↓kh_g8_3, ↓kh_g8_4, ↓kh_g8_5, ↓kh_g8_6, ↓kh_g8_7, ↓kh_c49, ↓kh_g49_0, ↓kh_g49_1, ↓kh_g49_2, ↓kh_g49_3, ↓kh_g49_4, ↓kh_g49_5, ↓kh_g49_6, ↓kh_p49_6, ↓kh_g49_7, ↓kh_p49_7, ↓kh_g49_8, ↓kh_p49_8, ↓kh_g49_9, ↓kh_p49_9, ↓kh_g49_10, ↓kh_p49_10, ↓kh_g49_11, ↓kh_p49_11, ↓kh_g49_12, ↓kh_p49_12, ↓kh_g49_13, ↓kh_p49_13, ↓kh_g49_14, ↓kh_p49_14, ↓be_y, ↓be_n, ↓bf_y, ↓bf_n, ↓bl_y, ↓bl_n, ↓bm_y, ↓bm_n, ↓bg_y, ↓bg_n, ↓bs_y, ↓bs_n, ↓bo_y, ↓bo_n, ↓bp_y, ↓bp_n, ↓forall_eq, ↓within_y, ↓within_n, ↓isIn_y, ↓isIn_n, and_true, true_and, and_self, us_at, us_ne, w32_id, um_eq, um_ne, um_um, uu_eq, uu_ne, uu_uu, vv_eq, vv_ne, vv_vv, ne_eq, not_false_eq_true, not_true_eq_false, reduceCtorEq, Int.reduceAdd, Int.reduceSub, Int.reduceMul, Int.reduceNeg, Nat.reduceEqDiff, or_true, true_or, true_implies, false_implies, Int.reduceLT, Int.reduceLE, Int.reduceEq]
        intro b hb
        simp only [Option.some.injEq] at hb
        subst hb
        simp (disch := first | omega | decide) only [w32_id, ↓kh_c8, ↓kh_g8_0, ↓kh_g8_1, ↓kh_g8_2, ↓kh_g8_3, ↓kh_g8_4, ↓kh_g8_5, ↓kh_g8_6, ↓kh_g8_7, ↓kh_c10, ↓kh_g10_0, ↓kh_g10_1, ↓kh_g10_2, ↓kh_g10_3, ↓kh_g10_4, ↓kh_g10_5, ↓kh_g10_6, ↓kh_g10_7, ↓kh_g10_8, ↓kh_g10_9, ↓kh_g10_10, ↓kh_g10_11, ↓kh_g10_12, ↓kh_p10_12, ↓kh_g10_13, ↓kh_p10_13, ↓kh_g10_14, ↓kh_p10_14, ↓kh_g10_15, ↓kh_p10_15, ↓be_y, ↓be_n, ↓bf_y, ↓bf_n, ↓bl_y, ↓bl_n, ↓bm_y, ↓bm_n, ↓bg_y, ↓bg_n, ↓bs_y, ↓bs_n, ↓bo_y, ↓bo_n, ↓bp_y, ↓bp_n, ↓forall_eq, ↓within_y, ↓within_n, ↓isIn_y, ↓isIn_n, and_true, true_and, and_self, us_at, us_ne, w32_id, um_eq, um_ne, um_um, uu_eq, uu_ne, uu_uu, vv_eq, vv_ne, vv_vv, ne_eq, not_false_eq_true, not_true_eq_false, reduceCtorEq, Int.reduceAdd, Int.reduceSub, Int.reduceMul, Int.reduceNeg, Nat.reduceEqDiff, or_true, true_or, true_implies, false_implies, Int.reduceLT, Int.reduceLE, Int.reduceEq, e12']
        rw [kh_sr27 (by omega) (by omega) (fun b hb => by
          simp only [Option.some.injEq] at hb
          subst hb
          exact ⟨_, by rw [kr_g (.inr a1)]; exact q0⟩)]
        simp (disch := first | omega | decide) only [w32_id, ↓kh_c8, ↓kh_g8_0, ↓kh_g8_1, ↓kh_g8_2, ↓kh_g8_3, ↓kh_g8_4, ↓kh_g8_5, ↓kh_g8_6, ↓kh_g8_7, ↓kh_c10, ↓kh_g10_0, ↓kh_g10_1, ↓kh_g10_2, ↓kh_g10_3, ↓kh_g10_4, ↓kh_g10_5, ↓kh_g10_6, ↓kh_g10_7, ↓kh_g10_8, ↓kh_g10_9, ↓kh_g10_10, ↓kh_g10_11, ↓kh_g10_12, ↓kh_p10_12, ↓kh_g10_13, ↓kh_p10_13, ↓kh_g10_14, ↓kh_p10_14, ↓kh_g10_15, ↓kh_p10_15, ↓be_y, ↓be_n, ↓bf_y, ↓bf_n, ↓bl_y, ↓bl_n, ↓bm_y, ↓bm_n, ↓bg_y, ↓bg_n, ↓bs_y, ↓bs_n, ↓bo_y, ↓bo_n, ↓bp_y, ↓bp_n, ↓forall_eq, ↓within_y, ↓within_n, ↓isIn_y, ↓isIn_n, and_true, true_and, and_self, us_at, us_ne, w32_id, um_eq, um_ne, um_um, uu_eq, uu_ne, uu_uu, vv_eq, vv_ne, vv_vv, ne_eq, not_false_eq_true, not_true_eq_false, reduceCtorEq, Int.reduceAdd, Int.reduceSub, Int.reduceMul, Int.reduceNeg, Nat.reduceEqDiff, or_true, true_or, true_implies, false_implies, Int.reduceLT, Int.reduceLE, Int.reduceEq, e12']
        rw [show M 70 1 + 1 - 1 = M 70 1 by omega]
        exact q
      · simp (disch := first | omega | decide) only [mX12_text, ↓rh_rcv, ↓rh_g0, ↓rh_r70, ↓rh_w70, ↓be_y, ↓be_n, ↓bf_y, ↓bf_n, ↓bl_y, ↓bl_n, ↓bm_y, ↓bm_n, ↓bg_y, ↓bg_n, ↓bs_y, ↓bs_n, ↓bo_y, ↓bo_n, ↓bp_y, ↓bp_n, ↓forall_eq, ↓within_y, ↓within_n, ↓isIn_y, ↓isIn_n, and_true, true_and, and_self, us_at, us_ne, w32_id, um_eq, um_ne, um_um, uu_eq, uu_ne, uu_uu, vv_eq, vv_ne, vv_vv, ne_eq, not_false_eq_true, not_true_eq_false, reduceCtorEq, Int.reduceAdd, Int.reduceSub, Int.reduceMul, Int.reduceNeg, Nat.reduceEqDiff, or_true, true_or, true_implies, false_implies, Int.reduceLT, Int.reduceLE, Int.reduceEq]
        refine g10 _ _ ?_
        unfold rcd
        have e70 : M' 70 1 = M 70 1 := by rw [m70]
        simp (disch := first | omega | decide) only [mX12_text_J36, ↓rh_rcv, ↓rh_g0, ↓rh_g4, ↓rh_p4, ↓rh_g5, ↓rh_p5, ↓rh_g6, ↓rh_p6, ↓rh_g8, ↓rh_p8, ↓rh_r70, ↓rh_w70, ↓be_y, ↓be_n, ↓bf_y, ↓bf_n, ↓bl_y, ↓bl_n, ↓bm_y, ↓bm_n, ↓bg_y, ↓bg_n, ↓bs_y, ↓bs_n, ↓bo_y, ↓bo_n, ↓bp_y, ↓bp_n, ↓forall_eq, ↓within_y, ↓within_n, ↓isIn_y, ↓isIn_n, and_true, true_and, and_self, us_at, us_ne, w32_id, um_eq, um_ne, um_um, uu_eq, uu_ne, uu_uu, vv_eq, vv_ne, vv_vv, ne_eq, not_false_eq_true, not_true_eq_false, reduceCtorEq, Int.reduceAdd, Int.reduceSub, Int.reduceMul, Int.reduceNeg, Nat.reduceEqDiff, or_true, true_or, true_implies, false_implies, Int.reduceLT, Int.reduceLE, Int.reduceEq, e70]
        rw [show M 70 1 + 1 - 1 = M 70 1 by omega]
        rw [m70]
        exact q
    · obtain ⟨k1, k2, k3, k4, k5⟩ := g1.2 k e rfl
      have pb := lpl_b (W := M 73) (L := u 4) (by omega) e
      have xb := lxp_b (W := M 73) (L := u 4) (by omega) e
      refine ⟨-1, G, vv v' 49 6 0, N', T, uu (uu (uu u' 5 k) 6 (lpl (M 73) (u 4) e)) 4 0, M', ?_, fun Q q => ?_, fun Q q => ?_⟩
      · refine Rel_tx h (fun k hk => by simp [vv, hk]; exact g4 k hk) (fun j hj => g5 j (by omega)) (by rw [uu_ne (by decide), uu_ne (by decide), uu_ne (by decide)]; exact g6 23 (by omega)) (fun j hj => g7 j (by omega) (by omega)) (fun i hi => g8 i (.inl hi)) ⟨⟨by simp [vv, uu], by simp [uu]⟩, ⟨by simp [vv, uu, k1], by simp [uu]; omega⟩, ⟨by simp [vv, uu, k2], by simp [uu]; omega⟩, fun i i0 i1 => by simp [uu] at i1; omega⟩
      · have nz : ¬ w32 k = 0 := by rw [w32_id (by omega) (by omega)]; omega
        simp (disch := first | omega | decide) only [mX11_text, ↓kh_c8, ↓kh_g8_0, ↓kh_g8_1, ↓kh_g8_2, ↓kh_g8_3, ↓kh_g8_4, ↓kh_g8_5, ↓kh_g8_6, ↓kh_g8_7, ↓kh_c10, ↓kh_g10_0, ↓kh_g10_1, ↓kh_g10_2, ↓kh_g10_3, ↓kh_g10_4, ↓kh_g10_5, ↓kh_g10_6, ↓kh_g10_7, ↓kh_g10_8, ↓kh_g10_9, ↓kh_g10_10, ↓kh_g10_11, ↓kh_g10_12, ↓kh_p10_12, ↓kh_g10_13, ↓kh_p10_13, ↓kh_g10_14, ↓kh_p10_14, ↓kh_g10_15, ↓kh_p10_15, ↓kh_c49, ↓kh_g49_0, ↓kh_g49_1, ↓kh_g49_2, ↓kh_g49_3, ↓kh_g49_4, ↓kh_g49_5, ↓kh_g49_6, ↓kh_p49_6, ↓kh_g49_7, ↓kh_p49_7, ↓kh_g49_8, ↓kh_p49_8, ↓kh_g49_9, ↓kh_p49_9, ↓kh_g49_10, ↓kh_p49_10, ↓kh_g49_11, ↓kh_p49_11, ↓kh_g49_12, ↓kh_p49_12, ↓kh_g49_13, ↓kh_p49_13, ↓kh_g49_14, ↓kh_p49_14, ↓be_y, ↓be_n, ↓bf_y, ↓bf_n, ↓bl_y, ↓bl_n, ↓bm_y, ↓bm_n, ↓bg_y, ↓bg_n, ↓bs_y, ↓bs_n, ↓bo_y, ↓bo_n, ↓bp_y, ↓bp_n, ↓forall_eq, ↓within_y, ↓within_n, ↓isIn_y, ↓isIn_n, and_true, true_and, and_self, us_at, us_ne, w32_id, um_eq, um_ne, um_um, uu_eq, uu_ne, uu_uu, vv_eq, vv_ne, vv_vv, ne_eq, not_false_eq_true, not_true_eq_false, reduceCtorEq, Int.reduceAdd, Int.reduceSub, Int.reduceMul, Int.reduceNeg, Nat.reduceEqDiff, or_true, true_or, true_implies, false_implies, Int.reduceLT, Int.reduceLE, Int.reduceEq, e12]
        refine g9 _ _ ?_
        simp (disch := first | omega | decide) only [mX2_readTape_J86, ↓kh_c49, ↓kh_g49_0, ↓kh_g49_1, ↓kh_g49_2, ↓kh_g49_3, ↓kh_g49_4, ↓kh_g49_5, ↓kh_g49_6, ↓kh_p49_6, ↓kh_g49_7, ↓kh_p49_7, ↓kh_g49_8, ↓kh_p49_8, ↓kh_g49_9, ↓kh_p49_9, ↓kh_g49_10, ↓kh_p49_10, ↓kh_g49_11, ↓kh_p49_11, ↓kh_g49_12, ↓kh_p49_12, ↓kh_g49_13, ↓kh_p49_13, ↓kh_g49_14, ↓kh_p49_14, ↓be_y, ↓be_n, ↓bf_y, ↓bf_n, ↓bl_y, ↓bl_n, ↓bm_y, ↓bm_n, ↓bg_y, ↓bg_n, ↓bs_y, ↓bs_n, ↓bo_y, ↓bo_n, ↓bp_y, ↓bp_n, ↓forall_eq, ↓within_y, ↓within_n, ↓isIn_y, ↓isIn_n, and_true, true_and, and_self, us_at, us_ne, w32_id, um_eq, um_ne, um_um, uu_eq, uu_ne, uu_uu, vv_eq, vv_ne, vv_vv, ne_eq, not_false_eq_true, not_true_eq_false, reduceCtorEq, Int.reduceAdd, Int.reduceSub, Int.reduceMul, Int.reduceNeg, Nat.reduceEqDiff, or_true, true_or, true_implies, false_implies, Int.reduceLT, Int.reduceLE, Int.reduceEq, k1, nz]
        simp (disch := first | omega | decide) only [w32_id, ↓kh_c8, ↓kh_g8_0, ↓kh_g8_1, ↓kh_g8_2, ↓kh_g8_3, ↓kh_g8_4, ↓kh_g8_5, ↓kh_g8_6, ↓kh_g8_7, ↓kh_c49, ↓kh_g49_0, ↓kh_g49_1, ↓kh_g49_2, ↓kh_g49_3, ↓kh_g49_4, ↓kh_g49_5, ↓kh_g49_6, ↓kh_p49_6, ↓kh_g49_7, ↓kh_p49_7, ↓kh_g49_8, ↓kh_p49_8, ↓kh_g49_9, ↓kh_p49_9, ↓kh_g49_10, ↓kh_p49_10, ↓kh_g49_11, ↓kh_p49_11, ↓kh_g49_12, ↓kh_p49_12, ↓kh_g49_13, ↓kh_p49_13, ↓kh_g49_14, ↓kh_p49_14, ↓be_y, ↓be_n, ↓bf_y, ↓bf_n, ↓bl_y, ↓bl_n, ↓bm_y, ↓bm_n, ↓bg_y, ↓bg_n, ↓bs_y, ↓bs_n, ↓bo_y, ↓bo_n, ↓bp_y, ↓bp_n, ↓forall_eq, ↓within_y, ↓within_n, ↓isIn_y, ↓isIn_n, and_true, true_and, and_self, us_at, us_ne, w32_id, um_eq, um_ne, um_um, uu_eq, uu_ne, uu_uu, vv_eq, vv_ne, vv_vv, ne_eq, not_false_eq_true, not_true_eq_false, reduceCtorEq, Int.reduceAdd, Int.reduceSub, Int.reduceMul, Int.reduceNeg, Nat.reduceEqDiff, or_true, true_or, true_implies, false_implies, Int.reduceLT, Int.reduceLE, Int.reduceEq]
        exact ⟨q, fun _ => trivial⟩
      · simp (disch := first | omega | decide) only [mX12_text, ↓rh_rcv, ↓rh_g0, ↓rh_r70, ↓rh_w70, ↓be_y, ↓be_n, ↓bf_y, ↓bf_n, ↓bl_y, ↓bl_n, ↓bm_y, ↓bm_n, ↓bg_y, ↓bg_n, ↓bs_y, ↓bs_n, ↓bo_y, ↓bo_n, ↓bp_y, ↓bp_n, ↓forall_eq, ↓within_y, ↓within_n, ↓isIn_y, ↓isIn_n, and_true, true_and, and_self, us_at, us_ne, w32_id, um_eq, um_ne, um_um, uu_eq, uu_ne, uu_uu, vv_eq, vv_ne, vv_vv, ne_eq, not_false_eq_true, not_true_eq_false, reduceCtorEq, Int.reduceAdd, Int.reduceSub, Int.reduceMul, Int.reduceNeg, Nat.reduceEqDiff, or_true, true_or, true_implies, false_implies, Int.reduceLT, Int.reduceLE, Int.reduceEq]
        refine g10 _ _ ?_
        unfold rcd
        simp (disch := first | omega | decide) only [mX12_text_J36, ↓rh_rcv, ↓rh_g0, ↓rh_g4, ↓rh_p4, ↓rh_g5, ↓rh_p5, ↓rh_g6, ↓rh_p6, ↓rh_g8, ↓rh_p8, ↓rh_r70, ↓rh_w70, ↓be_y, ↓be_n, ↓bf_y, ↓bf_n, ↓bl_y, ↓bl_n, ↓bm_y, ↓bm_n, ↓bg_y, ↓bg_n, ↓bs_y, ↓bs_n, ↓bo_y, ↓bo_n, ↓bp_y, ↓bp_n, ↓forall_eq, ↓within_y, ↓within_n, ↓isIn_y, ↓isIn_n, and_true, true_and, and_self, us_at, us_ne, w32_id, um_eq, um_ne, um_um, uu_eq, uu_ne, uu_uu, vv_eq, vv_ne, vv_vv, ne_eq, not_false_eq_true, not_true_eq_false, reduceCtorEq, Int.reduceAdd, Int.reduceSub, Int.reduceMul, Int.reduceNeg, Nat.reduceEqDiff, or_true, true_or, true_implies, false_implies, Int.reduceLT, Int.reduceLE, Int.reduceEq, k3]
        exact q
end OT
