section FT
variable {n x1 x2 : Int} {F : hp} {v : Nat → Nat → Int} {N : Nat → Int → Int} {T : Nat → Int → Option Nat} {u : Nat → Int} {M : Nat → Int → Int} {Q : Int → hp → Prop}
-- foretold
theorem ft_loop (hx : 0 ≤ x1 ∧ x1 ≤ 60) : ∀ (k : Nat) (i : Int) (N : Nat → Int → Int) (u : Nat → Int) (M : Nat → Int → Int), wR (N 68) (M 70) → u 23 = 0 → i + k = x1 → 0 ≤ i → ∃ Y' u' A', wR Y' A' ∧ yaw (M 70) A' ∧ u' 23 = 0 ∧ (∀ j, j ≠ 24 → u' j = u j) ∧ (∀ (F : hp) (Q : Int → hp → Prop), mX11_foretold_J66 Q 8 x2 (kh F v (um N 68 Y') T) → mX11_foretold_L37 Q (k + 1) 8 x1 x2 i (kh F v N T)) ∧ (∀ (F : hp) (Q : Int → hp → Prop), mX12_foretold_L55 Q 1 69 x1 x2 x1 (rh F u' (um M 70 A')) → mX12_foretold_L55 Q (k + 1) 69 x1 x2 i (rh F u M)) := by
  intro k
  induction k with
  | zero =>
    intro i N u M h h23 hi h0
    refine ⟨N 68, u, M 70, h, yaw_r _, h23, fun _ _ => rfl, fun F Q q => ?_, fun F Q q => ?_⟩
    · rw [mX11_foretold_L37]
      rw [um_self] at q
      simp (disch := first | omega | decide) only [w32_id, ↓kh_c8, ↓kh_g8_0, ↓kh_g8_1, ↓kh_g8_2, ↓kh_g8_3, ↓kh_g8_4, ↓kh_g8_5, ↓kh_g8_6, ↓kh_g8_7, ↓be_y, ↓be_n, ↓bf_y, ↓bf_n, ↓bl_y, ↓bl_n, ↓bm_y, ↓bm_n, ↓bg_y, ↓bg_n, ↓bs_y, ↓bs_n, ↓bo_y, ↓bo_n, ↓bp_y, ↓bp_n, ↓forall_eq, ↓within_y, ↓within_n, ↓isIn_y, ↓isIn_n, and_true, true_and, and_self, us_at, us_ne, w32_id, um_eq, um_ne, um_um, uu_eq, uu_ne, uu_uu, vv_eq, vv_ne, vv_vv, ne_eq, not_false_eq_true, not_true_eq_false, reduceCtorEq, Int.reduceAdd, Int.reduceSub, Int.reduceMul, Int.reduceNeg, Nat.reduceEqDiff, or_true, true_or, true_implies, false_implies, Int.reduceLT, Int.reduceLE, Int.reduceEq]
      exact q
    · rw [um_self] at q
      obtain rfl : i = x1 := by omega
      exact q
  | succ k ih =>
    intro i N u M h h23 hi h0
    have e0 := (wR_d h).1.1
    have y0 := h.2.1
    by_cases d : M 70 7 < 9999
    · obtain ⟨b, Y2, A2, b1, b2, b3, b4, b5, b6⟩ := ps1_68 (u := u) (M := M) (v := v) (N := N) (T := T) h d h23
      obtain ⟨Y', u', A', i1, i2, i3, i4, i5, i6⟩ := ih (i + 1) (um N 68 Y2) (uu u 24 (u 24 + b)) (um M 70 A2) b2 h23 (by omega) (by omega)
      simp only [um_um] at i5 i6
      refine ⟨Y', u', A', i1, yaw_t b3 i2, i3, fun j hj => by rw [i4 j hj, uu_ne hj], fun F Q q => ?_, fun F Q q => ?_⟩
      · rw [mX11_foretold_L37]
        simp (disch := first | omega | decide) only [mX10_hourCanPass, ↓kh_c8, ↓kh_g8_0, ↓kh_g8_1, ↓kh_g8_2, ↓kh_g8_3, ↓kh_g8_4, ↓kh_g8_5, ↓kh_g8_6, ↓kh_g8_7, ↓kh_c67, ↓kh_g67_0, ↓kh_r68, ↓kh_w68, ↓kh_n68, ↓be_y, ↓be_n, ↓bf_y, ↓bf_n, ↓bl_y, ↓bl_n, ↓bm_y, ↓bm_n, ↓bg_y, ↓bg_n, ↓bs_y, ↓bs_n, ↓bo_y, ↓bo_n, ↓bp_y, ↓bp_n, ↓forall_eq, ↓within_y, ↓within_n, ↓isIn_y, ↓isIn_n, and_true, true_and, and_self, us_at, us_ne, w32_id, um_eq, um_ne, um_um, uu_eq, uu_ne, uu_uu, vv_eq, vv_ne, vv_vv, ne_eq, not_false_eq_true, not_true_eq_false, reduceCtorEq, Int.reduceAdd, Int.reduceSub, Int.reduceMul, Int.reduceNeg, Nat.reduceEqDiff, or_true, true_or, true_implies, false_implies, Int.reduceLT, Int.reduceLE, Int.reduceEq, e0]
        refine b5 _ _ ?_
        exact i5 F Q q
      · rw [mX12_foretold_L55]
        simp (disch := first | omega | decide) only [mX12_foretold_J77, ↓rh_rcv, ↓rh_g0, ↓rh_r70, ↓rh_w70, ↓be_y, ↓be_n, ↓bf_y, ↓bf_n, ↓bl_y, ↓bl_n, ↓bm_y, ↓bm_n, ↓bg_y, ↓bg_n, ↓bs_y, ↓bs_n, ↓bo_y, ↓bo_n, ↓bp_y, ↓bp_n, ↓forall_eq, ↓within_y, ↓within_n, ↓isIn_y, ↓isIn_n, and_true, true_and, and_self, us_at, us_ne, w32_id, um_eq, um_ne, um_um, uu_eq, uu_ne, uu_uu, vv_eq, vv_ne, vv_vv, ne_eq, not_false_eq_true, not_true_eq_false, reduceCtorEq, Int.reduceAdd, Int.reduceSub, Int.reduceMul, Int.reduceNeg, Nat.reduceEqDiff, or_true, true_or, true_implies, false_implies, Int.reduceLT, Int.reduceLE, Int.reduceEq]
        refine b6 _ _ ?_
        exact i6 F Q q
    · refine ⟨N 68, u, M 70, h, yaw_r _, h23, fun _ _ => rfl, fun F Q q => ?_, fun F Q q => ?_⟩
      · rw [um_self] at q
        rw [mX11_foretold_L37]
        simp (disch := first | omega | decide) only [mX10_hourCanPass, ↓kh_c8, ↓kh_g8_0, ↓kh_g8_1, ↓kh_g8_2, ↓kh_g8_3, ↓kh_g8_4, ↓kh_g8_5, ↓kh_g8_6, ↓kh_g8_7, ↓kh_c67, ↓kh_g67_0, ↓kh_r68, ↓kh_w68, ↓kh_n68, ↓be_y, ↓be_n, ↓bf_y, ↓bf_n, ↓bl_y, ↓bl_n, ↓bm_y, ↓bm_n, ↓bg_y, ↓bg_n, ↓bs_y, ↓bs_n, ↓bo_y, ↓bo_n, ↓bp_y, ↓bp_n, ↓forall_eq, ↓within_y, ↓within_n, ↓isIn_y, ↓isIn_n, and_true, true_and, and_self, us_at, us_ne, w32_id, um_eq, um_ne, um_um, uu_eq, uu_ne, uu_uu, vv_eq, vv_ne, vv_vv, ne_eq, not_false_eq_true, not_true_eq_false, reduceCtorEq, Int.reduceAdd, Int.reduceSub, Int.reduceMul, Int.reduceNeg, Nat.reduceEqDiff, or_true, true_or, true_implies, false_implies, Int.reduceLT, Int.reduceLE, Int.reduceEq, e0]
        exact q
      · rw [um_self] at q
        have go : ∀ (m : Nat) (j : Int), j + m = x1 → 0 ≤ j → mX12_foretold_L55 Q (m + 1) 69 x1 x2 j (rh F u M) := by
          intro m
          induction m with
          | zero =>
            intro j hj j0
            obtain rfl : j = x1 := by omega
            exact q
          | succ m im =>
            intro j hj j0
            rw [mX12_foretold_L55]
            simp (disch := first | omega | decide) only [mX12_foretold_J77, ↓rh_rcv, ↓rh_g0, ↓rh_r70, ↓rh_w70, ↓be_y, ↓be_n, ↓bf_y, ↓bf_n, ↓bl_y, ↓bl_n, ↓bm_y, ↓bm_n, ↓bg_y, ↓bg_n, ↓bs_y, ↓bs_n, ↓bo_y, ↓bo_n, ↓bp_y, ↓bp_n, ↓forall_eq, ↓within_y, ↓within_n, ↓isIn_y, ↓isIn_n, and_true, true_and, and_self, us_at, us_ne, w32_id, um_eq, um_ne, um_um, uu_eq, uu_ne, uu_uu, vv_eq, vv_ne, vv_vv, ne_eq, not_false_eq_true, not_true_eq_false, reduceCtorEq, Int.reduceAdd, Int.reduceSub, Int.reduceMul, Int.reduceNeg, Nat.reduceEqDiff, or_true, true_or, true_implies, false_implies, Int.reduceLT, Int.reduceLE, Int.reduceEq]
            exact im (j + 1) (by omega) (by omega)
        exact go (k + 1) i (by omega) h0
theorem ft24 {C : Int → Int} (q : ∃ k, mX12_foretold_L55 Q k 69 x1 x2 0 (rh F (uu u 23 0) (um M 78 (cpy (M 70) C 7 7 29)))) : ∀ (k : Nat) (i : Int), i + k = 36 → 7 ≤ i → mX12_foretold_L24 Q (k + 1) 69 x1 x2 i (rh F u (um M 78 (cpy (M 70) C 7 7 (i - 7)))) := by
  intro k
  induction k with
  | zero =>
    intro i hi h0
    obtain rfl : i = 36 := by omega
    rw [mX12_foretold_L24]
    simp (disch := first | omega | decide) only [w32_id, ↓rh_rcv, ↓rh_g0, ↓rh_g23, ↓rh_p23, ↓rh_g25, ↓rh_r70, ↓rh_w70, ↓rh_r78, ↓rh_w78, ↓be_y, ↓be_n, ↓bf_y, ↓bf_n, ↓bl_y, ↓bl_n, ↓bm_y, ↓bm_n, ↓bg_y, ↓bg_n, ↓bs_y, ↓bs_n, ↓bo_y, ↓bo_n, ↓bp_y, ↓bp_n, ↓forall_eq, ↓within_y, ↓within_n, ↓isIn_y, ↓isIn_n, and_true, true_and, and_self, us_at, us_ne, w32_id, um_eq, um_ne, um_um, uu_eq, uu_ne, uu_uu, vv_eq, vv_ne, vv_vv, ne_eq, not_false_eq_true, not_true_eq_false, reduceCtorEq, Int.reduceAdd, Int.reduceSub, Int.reduceMul, Int.reduceNeg, Nat.reduceEqDiff, or_true, true_or, true_implies, false_implies, Int.reduceLT, Int.reduceLE, Int.reduceEq]
    exact q
  | succ k ih =>
    intro i hi h0
    rw [mX12_foretold_L24]
    simp (disch := first | omega | decide) only [w32_id, ↓rh_rcv, ↓rh_g0, ↓rh_g23, ↓rh_p23, ↓rh_g25, ↓rh_r70, ↓rh_w70, ↓rh_r78, ↓rh_w78, ↓be_y, ↓be_n, ↓bf_y, ↓bf_n, ↓bl_y, ↓bl_n, ↓bm_y, ↓bm_n, ↓bg_y, ↓bg_n, ↓bs_y, ↓bs_n, ↓bo_y, ↓bo_n, ↓bp_y, ↓bp_n, ↓forall_eq, ↓within_y, ↓within_n, ↓isIn_y, ↓isIn_n, and_true, true_and, and_self, us_at, us_ne, w32_id, um_eq, um_ne, um_um, uu_eq, uu_ne, uu_uu, vv_eq, vv_ne, vv_vv, ne_eq, not_false_eq_true, not_true_eq_false, reduceCtorEq, Int.reduceAdd, Int.reduceSub, Int.reduceMul, Int.reduceNeg, Nat.reduceEqDiff, or_true, true_or, true_implies, false_implies, Int.reduceLT, Int.reduceLE, Int.reduceEq]
    have e := cpy_step (f := M 70) (g := C) (sp := 7) (dp := 7) (i := i - 7) (by omega)
    rw [show 7 + (i - 7) = i by omega, show i - 7 + 1 = i + 1 - 7 by omega] at e
    rw [e]
    exact ih (i + 1) (by omega) (by omega)
theorem ft139 {C : Int → Int} {r : Int} (q : Q r (rh F (uu u 23 1) (um M 70 (cpy (M 78) C 7 7 29)))) : ∀ (k : Nat) (i : Int), i + k = 36 → 7 ≤ i → mX12_foretold_L139 Q (k + 1) 69 r i (rh F u (um M 70 (cpy (M 78) C 7 7 (i - 7)))) := by
  intro k
  induction k with
  | zero =>
    intro i hi h0
    obtain rfl : i = 36 := by omega
    rw [mX12_foretold_L139]
    simp (disch := first | omega | decide) only [w32_id, ↓rh_rcv, ↓rh_g0, ↓rh_g23, ↓rh_p23, ↓rh_g25, ↓rh_r70, ↓rh_w70, ↓rh_r78, ↓rh_w78, ↓be_y, ↓be_n, ↓bf_y, ↓bf_n, ↓bl_y, ↓bl_n, ↓bm_y, ↓bm_n, ↓bg_y, ↓bg_n, ↓bs_y, ↓bs_n, ↓bo_y, ↓bo_n, ↓bp_y, ↓bp_n, ↓forall_eq, ↓within_y, ↓within_n, ↓isIn_y, ↓isIn_n, and_true, true_and, and_self, us_at, us_ne, w32_id, um_eq, um_ne, um_um, uu_eq, uu_ne, uu_uu, vv_eq, vv_ne, vv_vv, ne_eq, not_false_eq_true, not_true_eq_false, reduceCtorEq, Int.reduceAdd, Int.reduceSub, Int.reduceMul, Int.reduceNeg, Nat.reduceEqDiff, or_true, true_or, true_implies, false_implies, Int.reduceLT, Int.reduceLE, Int.reduceEq]
    exact q
  | succ k ih =>
    intro i hi h0
    rw [mX12_foretold_L139]
    simp (disch := first | omega | decide) only [w32_id, ↓rh_rcv, ↓rh_g0, ↓rh_g23, ↓rh_p23, ↓rh_g25, ↓rh_r70, ↓rh_w70, ↓rh_r78, ↓rh_w78, ↓be_y, ↓be_n, ↓bf_y, ↓bf_n, ↓bl_y, ↓bl_n, ↓bm_y, ↓bm_n, ↓bg_y, ↓bg_n, ↓bs_y, ↓bs_n, ↓bo_y, ↓bo_n, ↓bp_y, ↓bp_n, ↓forall_eq, ↓within_y, ↓within_n, ↓isIn_y, ↓isIn_n, and_true, true_and, and_self, us_at, us_ne, w32_id, um_eq, um_ne, um_um, uu_eq, uu_ne, uu_uu, vv_eq, vv_ne, vv_vv, ne_eq, not_false_eq_true, not_true_eq_false, reduceCtorEq, Int.reduceAdd, Int.reduceSub, Int.reduceMul, Int.reduceNeg, Nat.reduceEqDiff, or_true, true_or, true_implies, false_implies, Int.reduceLT, Int.reduceLE, Int.reduceEq]
    have e := cpy_step (f := M 78) (g := C) (sp := 7) (dp := 7) (i := i - 7) (by omega)
    rw [show 7 + (i - 7) = i by omega, show i - 7 + 1 = i + 1 - 7 by omega] at e
    rw [e]
    exact ih (i + 1) (by omega) (by omega)
theorem ft_sum (h : wR (N 68) (M 70)) (hd : x2 = 2) : ∀ (k : Nat) (i a : Int), i + k = 5 → 0 ≤ i → ∃ r : Int, (∀ (F : hp) (Q : Int → hp → Prop), Q r (kh F v N T) → mX10_wornTogether_L4 Q (k + 1) 67 a i (kh F v N T)) ∧ (∀ (F : hp) (Q : Int → hp → Prop), mX12_foretold_J135 Q 69 r (rh F u M) → mX12_foretold_L105 Q (k + 1) 69 x2 a i (rh F u M)) := by
  have e9 := (wR_d h).2
  intro k
  induction k with
  | zero =>
    intro i a hi h0
    refine ⟨a, fun F Q q => ?_, fun F Q q => ?_⟩
    · rw [mX10_wornTogether_L4]
      simp (disch := first | omega | decide) only [w32_id, ↓kh_c67, ↓kh_g67_0, ↓kh_r68, ↓kh_w68, ↓kh_n68, ↓be_y, ↓be_n, ↓bf_y, ↓bf_n, ↓bl_y, ↓bl_n, ↓bm_y, ↓bm_n, ↓bg_y, ↓bg_n, ↓bs_y, ↓bs_n, ↓bo_y, ↓bo_n, ↓bp_y, ↓bp_n, ↓forall_eq, ↓within_y, ↓within_n, ↓isIn_y, ↓isIn_n, and_true, true_and, and_self, us_at, us_ne, w32_id, um_eq, um_ne, um_um, uu_eq, uu_ne, uu_uu, vv_eq, vv_ne, vv_vv, ne_eq, not_false_eq_true, not_true_eq_false, reduceCtorEq, Int.reduceAdd, Int.reduceSub, Int.reduceMul, Int.reduceNeg, Nat.reduceEqDiff, or_true, true_or, true_implies, false_implies, Int.reduceLT, Int.reduceLE, Int.reduceEq]
      exact q
    · rw [mX12_foretold_L105]
      simp (disch := first | omega | decide) only [w32_id, ↓rh_rcv, ↓rh_g0, ↓rh_r70, ↓rh_w70, ↓be_y, ↓be_n, ↓bf_y, ↓bf_n, ↓bl_y, ↓bl_n, ↓bm_y, ↓bm_n, ↓bg_y, ↓bg_n, ↓bs_y, ↓bs_n, ↓bo_y, ↓bo_n, ↓bp_y, ↓bp_n, ↓forall_eq, ↓within_y, ↓within_n, ↓isIn_y, ↓isIn_n, and_true, true_and, and_self, us_at, us_ne, w32_id, um_eq, um_ne, um_um, uu_eq, uu_ne, uu_uu, vv_eq, vv_ne, vv_vv, ne_eq, not_false_eq_true, not_true_eq_false, reduceCtorEq, Int.reduceAdd, Int.reduceSub, Int.reduceMul, Int.reduceNeg, Nat.reduceEqDiff, or_true, true_or, true_implies, false_implies, Int.reduceLT, Int.reduceLE, Int.reduceEq]
      exact q
  | succ k ih =>
    intro i a hi h0
    have e := (e9 i h0 (by omega)).1
    obtain ⟨r, g1, g2⟩ := ih (i + 1) (a + M 70 (31 + i)) (by omega) (by omega)
    refine ⟨r, fun F Q q => ?_, fun F Q q => ?_⟩
    · rw [mX10_wornTogether_L4]
      simp (disch := first | omega | decide) only [mX10_wornOf, ↓kh_c67, ↓kh_g67_0, ↓kh_r68, ↓kh_w68, ↓kh_n68, ↓be_y, ↓be_n, ↓bf_y, ↓bf_n, ↓bl_y, ↓bl_n, ↓bm_y, ↓bm_n, ↓bg_y, ↓bg_n, ↓bs_y, ↓bs_n, ↓bo_y, ↓bo_n, ↓bp_y, ↓bp_n, ↓forall_eq, ↓within_y, ↓within_n, ↓isIn_y, ↓isIn_n, and_true, true_and, and_self, us_at, us_ne, w32_id, um_eq, um_ne, um_um, uu_eq, uu_ne, uu_uu, vv_eq, vv_ne, vv_vv, ne_eq, not_false_eq_true, not_true_eq_false, reduceCtorEq, Int.reduceAdd, Int.reduceSub, Int.reduceMul, Int.reduceNeg, Nat.reduceEqDiff, or_true, true_or, true_implies, false_implies, Int.reduceLT, Int.reduceLE, Int.reduceEq, e]
      exact g1 F Q q
    · rw [mX12_foretold_L105]
      simp (disch := first | omega | decide) only [w32_id, ↓rh_rcv, ↓rh_g0, ↓rh_r70, ↓rh_w70, ↓be_y, ↓be_n, ↓bf_y, ↓bf_n, ↓bl_y, ↓bl_n, ↓bm_y, ↓bm_n, ↓bg_y, ↓bg_n, ↓bs_y, ↓bs_n, ↓bo_y, ↓bo_n, ↓bp_y, ↓bp_n, ↓forall_eq, ↓within_y, ↓within_n, ↓isIn_y, ↓isIn_n, and_true, true_and, and_self, us_at, us_ne, w32_id, um_eq, um_ne, um_um, uu_eq, uu_ne, uu_uu, vv_eq, vv_ne, vv_vv, ne_eq, not_false_eq_true, not_true_eq_false, reduceCtorEq, Int.reduceAdd, Int.reduceSub, Int.reduceMul, Int.reduceNeg, Nat.reduceEqDiff, or_true, true_or, true_implies, false_implies, Int.reduceLT, Int.reduceLE, Int.reduceEq]
      exact g2 F Q q
set_option maxHeartbeats 4000000 in
theorem op_foretold (h1 : -2147483648 ≤ x1 ∧ x1 ≤ 2147483647) (h2 : -2147483648 ≤ x2 ∧ x2 ≤ 2147483647) : OP n (mX11_foretold 8 x1 x2) (mX12_foretold 69 x1 x2) := by
  refine op_to (fun G v N T u M h => ?_)
  obtain ⟨⟨hY, hK, hC, hF, hB, hT, hS, hD, hX, hG⟩, hI, hM, hL, hW, hH, hN⟩ := id h
  have hc := jY_c hY
  by_cases c : (1 ≤ x1 ∧ x1 ≤ 60) ∧ 0 ≤ x2 ∧ x2 ≤ 2
  · have w0 : wR (cpy (N 12) (N 68) 0 0 60) (M 70) := by
      refine ⟨fun k g0 g1 => ?_, yok_cg (jY_k hY) (fun k g0 g1 => cp_l g0 g1)⟩
      rw [cp_l g0 (by omega)]
      have := hY.1 k g0 (by omega)
      rw [this]
      unfold zp
      rw [if_pos (by omega)]
    obtain ⟨Y', u', A', i1, i2, i3, i4, i5, i6⟩ := ft_loop (v := v) (T := T) (x1 := x1) (x2 := x2) (by omega) x1.toNat 0 (um N 68 (cpy (N 12) (N 68) 0 0 60)) (uu u 23 0) (um M 78 (cpy (M 70) (M 78) 7 7 29)) w0 rfl (by omega) (by omega)
    have rest : um (um M 78 (cpy (M 70) (M 78) 7 7 29)) 70 (cpy (cpy (M 70) (M 78) 7 7 29) A' 7 7 29) = um M 78 (cpy (M 70) (M 78) 7 7 29) := by
      have e : cpy (cpy (M 70) (M 78) 7 7 29) A' 7 7 29 = M 70 := by
        funext j
        by_cases d : 7 ≤ j ∧ j < 7 + 29
        · rw [cpy_in d, cpy_in (by omega)]
          congr 1
          omega
        · rw [cpy_out (by omega)]
          exact i2 j (by omega)
      rw [e]
      funext j
      by_cases hj : j = 70
      · subst hj; rfl
      · rw [um_ne hj]
    have fin : ∃ r : Int, (∀ (F : hp) (Q : Int → hp → Prop), Q r (kh F v (um N 68 Y') T) → mX11_foretold_J66 Q 8 x2 (kh F v (um N 68 Y') T)) ∧ (∀ (F : hp) (Q : Int → hp → Prop), mX12_foretold_J135 Q 69 r (rh F u' (um (um M 78 (cpy (M 70) (M 78) 7 7 29)) 70 A')) → mX12_foretold_L55 Q 1 69 x1 x2 x1 (rh F u' (um (um M 78 (cpy (M 70) (M 78) 7 7 29)) 70 A'))) := by
      by_cases d : x2 = 2
      · obtain ⟨r, g1, g2⟩ := ft_sum (v := v) (N := um N 68 Y') (T := T) (u := u') (M := um (um M 78 (cpy (M 70) (M 78) 7 7 29)) 70 A') i1 d 5 0 0 (by omega) (by omega)
        refine ⟨r, fun F Q q => ?_, fun F Q q => ?_⟩
        · simp (disch := first | omega | decide) only [mX11_foretold_J66, mX10_wornTogether, ↓kh_c8, ↓kh_g8_0, ↓kh_g8_1, ↓kh_g8_2, ↓kh_g8_3, ↓kh_g8_4, ↓kh_g8_5, ↓kh_g8_6, ↓kh_g8_7, ↓kh_c67, ↓kh_g67_0, ↓kh_r68, ↓kh_w68, ↓kh_n68, ↓be_y, ↓be_n, ↓bf_y, ↓bf_n, ↓bl_y, ↓bl_n, ↓bm_y, ↓bm_n, ↓bg_y, ↓bg_n, ↓bs_y, ↓bs_n, ↓bo_y, ↓bo_n, ↓bp_y, ↓bp_n, ↓forall_eq, ↓within_y, ↓within_n, ↓isIn_y, ↓isIn_n, and_true, true_and, and_self, us_at, us_ne, w32_id, um_eq, um_ne, um_um, uu_eq, uu_ne, uu_uu, vv_eq, vv_ne, vv_vv, ne_eq, not_false_eq_true, not_true_eq_false, reduceCtorEq, Int.reduceAdd, Int.reduceSub, Int.reduceMul, Int.reduceNeg, Nat.reduceEqDiff, or_true, true_or, true_implies, false_implies, Int.reduceLT, Int.reduceLE, Int.reduceEq]
          exact ⟨6, g1 F Q q⟩
        · rw [mX12_foretold_L55]
          simp (disch := first | omega | decide) only [mX12_foretold_J101, ↓rh_rcv, ↓rh_g0, ↓rh_r70, ↓rh_w70, ↓be_y, ↓be_n, ↓bf_y, ↓bf_n, ↓bl_y, ↓bl_n, ↓bm_y, ↓bm_n, ↓bg_y, ↓bg_n, ↓bs_y, ↓bs_n, ↓bo_y, ↓bo_n, ↓bp_y, ↓bp_n, ↓forall_eq, ↓within_y, ↓within_n, ↓isIn_y, ↓isIn_n, and_true, true_and, and_self, us_at, us_ne, w32_id, um_eq, um_ne, um_um, uu_eq, uu_ne, uu_uu, vv_eq, vv_ne, vv_vv, ne_eq, not_false_eq_true, not_true_eq_false, reduceCtorEq, Int.reduceAdd, Int.reduceSub, Int.reduceMul, Int.reduceNeg, Nat.reduceEqDiff, or_true, true_or, true_implies, false_implies, Int.reduceLT, Int.reduceLE, Int.reduceEq]
          exact ⟨6, g2 F Q q⟩
      · have e := (wR_d i1).1
        have ew : Y' (2 + x2) = A' (9 + x2) := by
          obtain rfl | rfl : x2 = 0 ∨ x2 = 1 := by omega
          · exact e.2.2.1
          · exact e.2.2.2.1
        refine ⟨A' (9 + x2), fun F Q q => ?_, fun F Q q => ?_⟩
        · simp (disch := first | omega | decide) only [mX11_foretold_J66, mX10_wheelsOf, ↓kh_c8, ↓kh_g8_0, ↓kh_g8_1, ↓kh_g8_2, ↓kh_g8_3, ↓kh_g8_4, ↓kh_g8_5, ↓kh_g8_6, ↓kh_g8_7, ↓kh_c67, ↓kh_g67_0, ↓kh_r68, ↓kh_w68, ↓kh_n68, ↓be_y, ↓be_n, ↓bf_y, ↓bf_n, ↓bl_y, ↓bl_n, ↓bm_y, ↓bm_n, ↓bg_y, ↓bg_n, ↓bs_y, ↓bs_n, ↓bo_y, ↓bo_n, ↓bp_y, ↓bp_n, ↓forall_eq, ↓within_y, ↓within_n, ↓isIn_y, ↓isIn_n, and_true, true_and, and_self, us_at, us_ne, w32_id, um_eq, um_ne, um_um, uu_eq, uu_ne, uu_uu, vv_eq, vv_ne, vv_vv, ne_eq, not_false_eq_true, not_true_eq_false, reduceCtorEq, Int.reduceAdd, Int.reduceSub, Int.reduceMul, Int.reduceNeg, Nat.reduceEqDiff, or_true, true_or, true_implies, false_implies, Int.reduceLT, Int.reduceLE, Int.reduceEq, ew]
          exact q
        · rw [mX12_foretold_L55]
          simp (disch := first | omega | decide) only [mX12_foretold_J101, ↓rh_rcv, ↓rh_g0, ↓rh_r70, ↓rh_w70, ↓be_y, ↓be_n, ↓bf_y, ↓bf_n, ↓bl_y, ↓bl_n, ↓bm_y, ↓bm_n, ↓bg_y, ↓bg_n, ↓bs_y, ↓bs_n, ↓bo_y, ↓bo_n, ↓bp_y, ↓bp_n, ↓forall_eq, ↓within_y, ↓within_n, ↓isIn_y, ↓isIn_n, and_true, true_and, and_self, us_at, us_ne, w32_id, um_eq, um_ne, um_um, uu_eq, uu_ne, uu_uu, vv_eq, vv_ne, vv_vv, ne_eq, not_false_eq_true, not_true_eq_false, reduceCtorEq, Int.reduceAdd, Int.reduceSub, Int.reduceMul, Int.reduceNeg, Nat.reduceEqDiff, or_true, true_or, true_implies, false_implies, Int.reduceLT, Int.reduceLE, Int.reduceEq]
          refine ⟨1, ?_⟩
          rw [mX12_foretold_L105]
          simp (disch := first | omega | decide) only [w32_id, ↓rh_rcv, ↓rh_g0, ↓rh_r70, ↓rh_w70, ↓be_y, ↓be_n, ↓bf_y, ↓bf_n, ↓bl_y, ↓bl_n, ↓bm_y, ↓bm_n, ↓bg_y, ↓bg_n, ↓bs_y, ↓bs_n, ↓bo_y, ↓bo_n, ↓bp_y, ↓bp_n, ↓forall_eq, ↓within_y, ↓within_n, ↓isIn_y, ↓isIn_n, and_true, true_and, and_self, us_at, us_ne, w32_id, um_eq, um_ne, um_um, uu_eq, uu_ne, uu_uu, vv_eq, vv_ne, vv_vv, ne_eq, not_false_eq_true, not_true_eq_false, reduceCtorEq, Int.reduceAdd, Int.reduceSub, Int.reduceMul, Int.reduceNeg, Nat.reduceEqDiff, or_true, true_or, true_implies, false_implies, Int.reduceLT, Int.reduceLE, Int.reduceEq]
          exact q
    obtain ⟨r, f1, f2⟩ := fin
    refine ⟨r, v, um N 68 Y', uu u' 23 1, um M 78 (cpy (M 70) (M 78) 7 7 29), Rel_up ⟨h.1, h.2.1, h.2.2.1, ?_, rfl, hH, hN⟩, fun F Q q => ?_, fun F Q q => ?_⟩
    · show jL (v 49 6) (v 49 7) (v 49 8) (u' 4) (u' 5) (u' 6) (N 50) (M 73)
      rw [i4 4 (by decide), i4 5 (by decide), i4 6 (by decide)]
      exact hL
    · simp (disch := first | omega | decide) only [mX11_foretold, mX10_copyFrom, ↓kh_c8, ↓kh_g8_0, ↓kh_g8_1, ↓kh_g8_2, ↓kh_g8_3, ↓kh_g8_4, ↓kh_g8_5, ↓kh_g8_6, ↓kh_g8_7, ↓kh_c10, ↓kh_g10_0, ↓kh_g10_1, ↓kh_g10_2, ↓kh_g10_3, ↓kh_g10_4, ↓kh_g10_5, ↓kh_g10_6, ↓kh_g10_7, ↓kh_g10_8, ↓kh_g10_9, ↓kh_g10_10, ↓kh_g10_11, ↓kh_g10_12, ↓kh_p10_12, ↓kh_g10_13, ↓kh_p10_13, ↓kh_g10_14, ↓kh_p10_14, ↓kh_g10_15, ↓kh_p10_15, ↓kh_c11, ↓kh_g11_0, ↓kh_r12, ↓kh_w12, ↓kh_n12, ↓kh_c67, ↓kh_g67_0, ↓kh_r68, ↓kh_w68, ↓kh_n68, ↓kh_cp12_33, ↓kh_cp12_68, ↓kh_cp12_12, ↓kh_cp12_14, ↓be_y, ↓be_n, ↓bf_y, ↓bf_n, ↓bl_y, ↓bl_n, ↓bm_y, ↓bm_n, ↓bg_y, ↓bg_n, ↓bs_y, ↓bs_n, ↓bo_y, ↓bo_n, ↓bp_y, ↓bp_n, ↓forall_eq, ↓within_y, ↓within_n, ↓isIn_y, ↓isIn_n, and_true, true_and, and_self, us_at, us_ne, w32_id, um_eq, um_ne, um_um, uu_eq, uu_ne, uu_uu, vv_eq, vv_ne, vv_vv, ne_eq, not_false_eq_true, not_true_eq_false, reduceCtorEq, Int.reduceAdd, Int.reduceSub, Int.reduceMul, Int.reduceNeg, Nat.reduceEqDiff, or_true, true_or, true_implies, false_implies, Int.reduceLT, Int.reduceLE, Int.reduceEq]
      simp only [um_um] at i5
      exact ⟨_, i5 F Q (f1 F Q q)⟩
    · simp (disch := first | omega | decide) only [mX12_foretold, ↓rh_rcv, ↓rh_g0, ↓rh_r70, ↓rh_w70, ↓be_y, ↓be_n, ↓bf_y, ↓bf_n, ↓bl_y, ↓bl_n, ↓bm_y, ↓bm_n, ↓bg_y, ↓bg_n, ↓bs_y, ↓bs_n, ↓bo_y, ↓bo_n, ↓bp_y, ↓bp_n, ↓forall_eq, ↓within_y, ↓within_n, ↓isIn_y, ↓isIn_n, and_true, true_and, and_self, us_at, us_ne, w32_id, um_eq, um_ne, um_um, uu_eq, uu_ne, uu_uu, vv_eq, vv_ne, vv_vv, ne_eq, not_false_eq_true, not_true_eq_false, reduceCtorEq, Int.reduceAdd, Int.reduceSub, Int.reduceMul, Int.reduceNeg, Nat.reduceEqDiff, or_true, true_or, true_implies, false_implies, Int.reduceLT, Int.reduceLE, Int.reduceEq]
      refine ⟨30, ?_⟩
      have g := ft24 (F := F) (u := u) (M := M) (Q := Q) (x1 := x1) (x2 := x2) (C := M 78) ⟨_, i6 F Q (f2 F Q ?_)⟩ 29 7 (by omega) (by omega)
      · rw [show (7 : Int) - 7 = 0 by rfl, cpy_0, um_self] at g
        exact g
      · simp (disch := first | omega | decide) only [mX12_foretold_J135, ↓rh_rcv, ↓rh_g0, ↓rh_r70, ↓rh_w70, ↓be_y, ↓be_n, ↓bf_y, ↓bf_n, ↓bl_y, ↓bl_n, ↓bm_y, ↓bm_n, ↓bg_y, ↓bg_n, ↓bs_y, ↓bs_n, ↓bo_y, ↓bo_n, ↓bp_y, ↓bp_n, ↓forall_eq, ↓within_y, ↓within_n, ↓isIn_y, ↓isIn_n, and_true, true_and, and_self, us_at, us_ne, w32_id, um_eq, um_ne, um_um, uu_eq, uu_ne, uu_uu, vv_eq, vv_ne, vv_vv, ne_eq, not_false_eq_true, not_true_eq_false, reduceCtorEq, Int.reduceAdd, Int.reduceSub, Int.reduceMul, Int.reduceNeg, Nat.reduceEqDiff, or_true, true_or, true_implies, false_implies, Int.reduceLT, Int.reduceLE, Int.reduceEq]
        refine ⟨30, ?_⟩
        have g := ft139 (F := F) (u := u') (M := um (um M 78 (cpy (M 70) (M 78) 7 7 29)) 70 A') (Q := Q) (C := A') (r := r) ?_ 29 7 (by omega) (by omega)
        · rw [show (7 : Int) - 7 = 0 by rfl, cpy_0, um_um] at g
          exact g
        · rw [um_um]
          show Q r (rh F (uu u' 23 1) (um (um M 78 (cpy (M 70) (M 78) 7 7 29)) 70 (cpy (cpy (M 70) (M 78) 7 7 29) A' 7 7 29)))
          rw [rest]
          exact q
  · refine ⟨-1, v, N, u, M, Rel_up h, fun F Q q => ?_, fun F Q q => ?_⟩
    · by_cases d0 : 1 ≤ x1 ∧ x1 ≤ 60 <;> by_cases d1 : 0 ≤ x2 ∧ x2 ≤ 2 <;> first | (exfalso; omega) | (simp (disch := omega) only [mX11_foretold, kh_c8, kh_g8_0, kh_g8_1, kh_g8_2, kh_g8_3, kh_g8_4, kh_g8_5, kh_g8_6, kh_g8_7, ↓i_pos, ↓i_neg, and_true, true_and, and_self, w32_id, us_at, us_ne, um_eq, um_ne, um_um, uu_eq, uu_ne, uu_uu, vv_eq, vv_ne, vv_vv, forall_eq, within_y, within_n, isIn_y, isIn_n, ne_eq, not_false_eq_true, not_true_eq_false, reduceCtorEq, Int.reduceAdd, Int.reduceSub, Int.reduceMul, Int.reduceNeg, Nat.reduceEqDiff, or_true, true_or, true_implies, false_implies, Int.reduceLT, Int.reduceLE, Int.reduceEq, iMax_l, iMax_r, iMin_l, iMin_r]; first | done | exact q)
    · by_cases d0 : 1 ≤ x1 ∧ x1 ≤ 60 <;> by_cases d1 : 0 ≤ x2 ∧ x2 ≤ 2 <;> first | (exfalso; omega) | (simp (disch := omega) only [mX12_foretold, rh_rcv, rh_g0, ↓i_pos, ↓i_neg, and_true, true_and, and_self, w32_id, us_at, us_ne, um_eq, um_ne, um_um, uu_eq, uu_ne, uu_uu, vv_eq, vv_ne, vv_vv, forall_eq, within_y, within_n, isIn_y, isIn_n, ne_eq, not_false_eq_true, not_true_eq_false, reduceCtorEq, Int.reduceAdd, Int.reduceSub, Int.reduceMul, Int.reduceNeg, Nat.reduceEqDiff, or_true, true_or, true_implies, false_implies, Int.reduceLT, Int.reduceLE, Int.reduceEq, iMax_l, iMax_r, iMin_l, iMin_r]; first | done | exact q)
end FT
-- ===== bytes =====
theorem iB_b (x : Int) : -128 ≤ iB x ∧ iB x ≤ 127 := by
  unfold iB
  rw [Int8.toInt_toInt32]
  have h1 := Int8.toInt_lt (Int32.ofInt x).toInt8
  have h2 := Int8.le_toInt (Int32.ofInt x).toInt8
  omega
theorem iB_i {x : Int} (h : -128 ≤ x ∧ x ≤ 127) : iB x = x := by
  unfold iB
  rw [Int8.toInt_toInt32, Int32.toInt_toInt8]
  have e : (Int32.ofInt x).toInt = x := w32_id (by omega) (by omega)
  rw [e]
  exact Int.bmod_eq_of_le (by omega) (by omega)
theorem iB_m (x : Int) : iAnd x 255 = iB x % 256 := by
  have e1 : iB x % 256 = (Int32.ofInt x).toInt % 256 := by
    unfold iB
    rw [Int8.toInt_toInt32, Int32.toInt_toInt8]
    exact Int.bmod_emod
  have h1 := Int32.toInt_lt (Int32.ofInt x)
  have h2 := Int32.le_toInt (Int32.ofInt x)
  have e2 : iAnd x 255 = iAnd (Int32.ofInt x).toInt 255 := by
    unfold iAnd
    rw [Int32.ofInt_toInt]
  rw [e1, e2]
  generalize hy : (Int32.ofInt x).toInt = y at h1 h2
  by_cases d : 0 ≤ y
  · have := and_p 8 (by decide) (x := y) d (by omega)
    exact this
  · have e3 : iAnd y 255 = iAnd 255 y := by unfold iAnd; rw [Int32.and_comm]
    have e4 : iAnd 255 y = iAnd 255 (iXor (-1 - y) (-1)) := by
      have e5 : iXor (-1 - y) (-1) = y := by
        rw [xnot]
        have : ~~~ (Int32.ofInt (-1 - y)) = Int32.ofInt y := by
          rw [Int32.not_eq_neg_sub, show Int32.ofInt (-1 - y) = Int32.ofInt (-1) - Int32.ofInt y from Int32.ofInt_sub _ _]
          have : Int32.ofInt (-1) = -1 := by decide
          rw [this]
          generalize Int32.ofInt y = z
          apply Int32.toBitVec_inj.1
          simp
        rw [this, ← hy, Int32.ofInt_toInt]
      rw [e5]
    obtain ⟨a, ha⟩ := Int.eq_ofNat_of_zero_le (show 0 ≤ -1 - y by omega)
    have e6 := andn (a := 255) (b := a) (by decide) (by omega)
    rw [e3, e4, ha]
    rw [show ((255 : Nat) : Int) = 255 from rfl] at e6
    rw [e6]
    rw [Nat.and_comm, show (255 : Nat) = 2 ^ 8 - 1 from rfl, Nat.and_two_pow_sub_one_eq_mod]
    omega
section FE
variable {n x1 x2 x3 x4 x5 : Int} {T : Nat → Int → Option Nat}
theorem four_b {x : Int} : ∀ (k : Nat) (s : Int) (v : Nat → Nat → Int) (N : Nat → Int → Int) (u : Nat → Int) (M : Nat → Int → Int), jL (v 49 6) (v 49 7) (v 49 8) (u 4) (u 5) (u 6) (N 50) (M 73) → s + 8 = 8 * (k : Int) → k ≤ 4 → u 4 + (k : Int) ≤ 300 → ∃ R W, jL (u 4 + k) (v 49 7) (v 49 8) (u 4 + k) (u 5) (u 6) R W ∧ (∀ (F : hp) (Q : hp → Prop), Q (kh F (vv v 49 6 (u 4 + k)) (um N 50 R) T) → mX2_takeFour_L3 Q (k + 1) 49 x s (kh F v N T)) ∧ (∀ (F : hp) (Q : hp → Prop), Q (rh F (uu u 4 (u 4 + k)) (um M 73 W)) → mX12_four_L3 Q (k + 1) 69 x s (rh F u M)) := by
  intro k
  induction k with
  | zero =>
    intro s v N u M h hs hk hu
    have e := h.1.1
    have z : u 4 + ((0 : Nat) : Int) = u 4 := by simp
    rw [z]
    refine ⟨N 50, M 73, by have h' := h; rw [e] at h'; exact h', fun F Q q => ?_, fun F Q q => ?_⟩
    · rw [← e, vv_self, um_self] at q
      rw [mX2_takeFour_L3]
      simp (disch := first | omega | decide) only [w32_id, ↓kh_c49, ↓kh_g49_0, ↓kh_g49_1, ↓kh_g49_2, ↓kh_g49_3, ↓kh_g49_4, ↓kh_g49_5, ↓kh_g49_6, ↓kh_p49_6, ↓kh_g49_7, ↓kh_p49_7, ↓kh_g49_8, ↓kh_p49_8, ↓kh_g49_9, ↓kh_p49_9, ↓kh_g49_10, ↓kh_p49_10, ↓kh_g49_11, ↓kh_p49_11, ↓kh_g49_12, ↓kh_p49_12, ↓kh_g49_13, ↓kh_p49_13, ↓kh_g49_14, ↓kh_p49_14, ↓kh_r50, ↓kh_w50, ↓kh_n50, ↓be_y, ↓be_n, ↓bf_y, ↓bf_n, ↓bl_y, ↓bl_n, ↓bm_y, ↓bm_n, ↓bg_y, ↓bg_n, ↓bs_y, ↓bs_n, ↓bo_y, ↓bo_n, ↓bp_y, ↓bp_n, ↓forall_eq, ↓within_y, ↓within_n, ↓isIn_y, ↓isIn_n, and_true, true_and, and_self, us_at, us_ne, w32_id, um_eq, um_ne, um_um, uu_eq, uu_ne, uu_uu, vv_eq, vv_ne, vv_vv, ne_eq, not_false_eq_true, not_true_eq_false, reduceCtorEq, Int.reduceAdd, Int.reduceSub, Int.reduceMul, Int.reduceNeg, Nat.reduceEqDiff, or_true, true_or, true_implies, false_implies, Int.reduceLT, Int.reduceLE, Int.reduceEq]
      exact q
    · have e2 : uu u 4 (u 4) = u := by funext j; by_cases hj : j = 4 <;> simp [uu, hj]
      rw [e2, um_self] at q
      rw [mX12_four_L3]
      simp (disch := first | omega | decide) only [w32_id, ↓rh_rcv, ↓rh_g3, ↓rh_g4, ↓rh_p4, ↓rh_r73, ↓rh_w73, ↓be_y, ↓be_n, ↓bf_y, ↓bf_n, ↓bl_y, ↓bl_n, ↓bm_y, ↓bm_n, ↓bg_y, ↓bg_n, ↓bs_y, ↓bs_n, ↓bo_y, ↓bo_n, ↓bp_y, ↓bp_n, ↓forall_eq, ↓within_y, ↓within_n, ↓isIn_y, ↓isIn_n, and_true, true_and, and_self, us_at, us_ne, w32_id, um_eq, um_ne, um_um, uu_eq, uu_ne, uu_uu, vv_eq, vv_ne, vv_vv, ne_eq, not_false_eq_true, not_true_eq_false, reduceCtorEq, Int.reduceAdd, Int.reduceSub, Int.reduceMul, Int.reduceNeg, Nat.reduceEqDiff, or_true, true_or, true_implies, false_implies, Int.reduceLT, Int.reduceLE, Int.reduceEq]
      exact q
  | succ k ih =>
    intro s v N u M h hs hk hu
    have e := h.1.1
    have b := h.1.2
    have b1 := iB_b (iShr x s)
    have b2 := iB_i b1
    have b3 := iB_m (iShr x s)
    have h' : jL (vv v 49 6 (u 4 + 1) 49 6) (vv v 49 6 (u 4 + 1) 49 7) (vv v 49 6 (u 4 + 1) 49 8) (uu u 4 (u 4 + 1) 4) (uu u 4 (u 4 + 1) 5) (uu u 4 (u 4 + 1) 6) (um N 50 (us (N 50) (u 4) (iB (iShr x s))) 50) (um M 73 (us (M 73) (u 4) (iB (iShr x s) % 256)) 73) := by
      refine ⟨⟨rfl, by show 0 ≤ u 4 + 1; omega, by show u 4 + 1 ≤ 300; omega⟩, h.2.1, h.2.2.1, fun i g0 g1 => ?_⟩
      have g1 : i < u 4 + 1 := g1
      show (-128 ≤ us (N 50) (u 4) _ i ∧ us (N 50) (u 4) _ i ≤ 127) ∧ us (M 73) (u 4) _ i = us (N 50) (u 4) _ i % 256
      by_cases d : i = u 4
      · rw [us_at d, us_at d]
        exact ⟨b1, rfl⟩
      · rw [us_ne d, us_ne d]
        exact h.2.2.2 i g0 (by omega)
    obtain ⟨R, W, g1, g2, g3⟩ := ih (s + -8) _ _ _ _ h' (by omega) (by omega) (by show u 4 + 1 + k ≤ 300; omega)
    have e4 : uu u 4 (u 4 + 1) 4 = u 4 + 1 := rfl
    have e5 : u 4 + 1 + (k : Int) = u 4 + ((k + 1 : Nat) : Int) := by omega
    rw [e4, e5] at g1 g2 g3
    refine ⟨R, W, g1, fun F Q q => ?_, fun F Q q => ?_⟩
    · rw [mX2_takeFour_L3]
      simp (disch := first | omega | decide) only [w32_id, ↓kh_c49, ↓kh_g49_0, ↓kh_g49_1, ↓kh_g49_2, ↓kh_g49_3, ↓kh_g49_4, ↓kh_g49_5, ↓kh_g49_6, ↓kh_p49_6, ↓kh_g49_7, ↓kh_p49_7, ↓kh_g49_8, ↓kh_p49_8, ↓kh_g49_9, ↓kh_p49_9, ↓kh_g49_10, ↓kh_p49_10, ↓kh_g49_11, ↓kh_p49_11, ↓kh_g49_12, ↓kh_p49_12, ↓kh_g49_13, ↓kh_p49_13, ↓kh_g49_14, ↓kh_p49_14, ↓kh_r50, ↓kh_w50, ↓kh_n50, ↓be_y, ↓be_n, ↓bf_y, ↓bf_n, ↓bl_y, ↓bl_n, ↓bm_y, ↓bm_n, ↓bg_y, ↓bg_n, ↓bs_y, ↓bs_n, ↓bo_y, ↓bo_n, ↓bp_y, ↓bp_n, ↓forall_eq, ↓within_y, ↓within_n, ↓isIn_y, ↓isIn_n, and_true, true_and, and_self, us_at, us_ne, w32_id, um_eq, um_ne, um_um, uu_eq, uu_ne, uu_uu, vv_eq, vv_ne, vv_vv, ne_eq, not_false_eq_true, not_true_eq_false, reduceCtorEq, Int.reduceAdd, Int.reduceSub, Int.reduceMul, Int.reduceNeg, Nat.reduceEqDiff, or_true, true_or, true_implies, false_implies, Int.reduceLT, Int.reduceLE, Int.reduceEq, e, b2]
      simp only [vv_vv, um_um] at g2
      exact g2 F Q q
    · rw [mX12_four_L3]
      simp (disch := first | omega | decide) only [w32_id, ↓rh_rcv, ↓rh_g3, ↓rh_g4, ↓rh_p4, ↓rh_r73, ↓rh_w73, ↓be_y, ↓be_n, ↓bf_y, ↓bf_n, ↓bl_y, ↓bl_n, ↓bm_y, ↓bm_n, ↓bg_y, ↓bg_n, ↓bs_y, ↓bs_n, ↓bo_y, ↓bo_n, ↓bp_y, ↓bp_n, ↓forall_eq, ↓within_y, ↓within_n, ↓isIn_y, ↓isIn_n, and_true, true_and, and_self, us_at, us_ne, w32_id, um_eq, um_ne, um_um, uu_eq, uu_ne, uu_uu, vv_eq, vv_ne, vv_vv, ne_eq, not_false_eq_true, not_true_eq_false, reduceCtorEq, Int.reduceAdd, Int.reduceSub, Int.reduceMul, Int.reduceNeg, Nat.reduceEqDiff, or_true, true_or, true_implies, false_implies, Int.reduceLT, Int.reduceLE, Int.reduceEq, b3]
      simp only [uu_uu, um_um] at g3
      exact g3 F Q q
theorem four_o {x : Int} {G : hp} {v : Nat → Nat → Int} {N : Nat → Int → Int} {u : Nat → Int} {M : Nat → Int → Int} (h : Rel n G v N T u M) (hu : u 4 ≤ 296) : ∃ v' N' u' M', Rel n G v' N' T u' M' ∧ u' 4 = u 4 + 4 ∧ (∀ (F : hp) (Q : hp → Prop), Q (kh F v' N' T) → mX2_takeFour 49 x (kh F v N T) Q) ∧ (∀ (F : hp) (Q : hp → Prop), Q (rh F u' M') → mX12_four 69 x (rh F u M) Q) := by
  obtain ⟨R, W, g1, g2, g3⟩ := four_b (x := x) (T := T) 4 24 v N u M h.2.2.2.1 (by omega) (by omega) (by omega)
  exact ⟨vv v 49 6 (u 4 + 4), um N 50 R, uu u 4 (u 4 + 4), um M 73 W, ⟨h.1, h.2.1, h.2.2.1, g1, h.2.2.2.2⟩, rfl, fun F Q q => ⟨5, g2 F Q q⟩, fun F Q q => ⟨5, g3 F Q q⟩⟩
set_option maxHeartbeats 4000000 in
theorem op_feed : OP n (mX11_feed 8 x1 x2 x3 x4 x5) (mX12_feed 69 x1 x2 x3 x4 x5) := by
  refine op_to (fun G v N T u M h => ?_)
  have hL := h.2.2.2.1
  have e6 := hL.1.1
  have hb := hL.1.2
  by_cases c : u 4 + 20 ≤ 300
  · obtain ⟨v1, N1, u1, M1, a1, a2, a3, a4⟩ := four_o (x := x1) h (by omega)
    obtain ⟨v2, N2, u2, M2, b1, b2, b3, b4⟩ := four_o (x := x2) a1 (by omega)
    obtain ⟨v3, N3, u3, M3, c1, c2, c3, c4⟩ := four_o (x := x3) b1 (by omega)
    obtain ⟨v4, N4, u4, M4, d1, d2, d3, d4⟩ := four_o (x := x4) c1 (by omega)
    obtain ⟨v5, N5, u5, M5, e1, e2, e3, e4⟩ := four_o (x := x5) d1 (by omega)
    have e7 := e1.2.2.2.1.1.1
    refine ⟨u5 4, v5, N5, u5, M5, Rel_up e1, fun F Q q => ?_, fun F Q q => ?_⟩
    · simp (disch := first | omega | decide) only [mX11_feed, ↓kh_c8, ↓kh_g8_0, ↓kh_g8_1, ↓kh_g8_2, ↓kh_g8_3, ↓kh_g8_4, ↓kh_g8_5, ↓kh_g8_6, ↓kh_g8_7, ↓kh_c49, ↓kh_g49_0, ↓kh_g49_1, ↓kh_g49_2, ↓kh_g49_3, ↓kh_g49_4, ↓kh_g49_5, ↓kh_g49_6, ↓kh_p49_6, ↓kh_g49_7, ↓kh_p49_7, ↓kh_g49_8, ↓kh_p49_8, ↓kh_g49_9, ↓kh_p49_9, ↓kh_g49_10, ↓kh_p49_10, ↓kh_g49_11, ↓kh_p49_11, ↓kh_g49_12, ↓kh_p49_12, ↓kh_g49_13, ↓kh_p49_13, ↓kh_g49_14, ↓kh_p49_14, ↓be_y, ↓be_n, ↓bf_y, ↓bf_n, ↓bl_y, ↓bl_n, ↓bm_y, ↓bm_n, ↓bg_y, ↓bg_n, ↓bs_y, ↓bs_n, ↓bo_y, ↓bo_n, ↓bp_y, ↓bp_n, ↓forall_eq, ↓within_y, ↓within_n, ↓isIn_y, ↓isIn_n, and_true, true_and, and_self, us_at, us_ne, w32_id, um_eq, um_ne, um_um, uu_eq, uu_ne, uu_uu, vv_eq, vv_ne, vv_vv, ne_eq, not_false_eq_true, not_true_eq_false, reduceCtorEq, Int.reduceAdd, Int.reduceSub, Int.reduceMul, Int.reduceNeg, Nat.reduceEqDiff, or_true, true_or, true_implies, false_implies, Int.reduceLT, Int.reduceLE, Int.reduceEq, e6]
      refine a3 _ _ ?_
      simp (disch := first | omega | decide) only [w32_id, ↓kh_c8, ↓kh_g8_0, ↓kh_g8_1, ↓kh_g8_2, ↓kh_g8_3, ↓kh_g8_4, ↓kh_g8_5, ↓kh_g8_6, ↓kh_g8_7, ↓kh_c49, ↓kh_g49_0, ↓kh_g49_1, ↓kh_g49_2, ↓kh_g49_3, ↓kh_g49_4, ↓kh_g49_5, ↓kh_g49_6, ↓kh_p49_6, ↓kh_g49_7, ↓kh_p49_7, ↓kh_g49_8, ↓kh_p49_8, ↓kh_g49_9, ↓kh_p49_9, ↓kh_g49_10, ↓kh_p49_10, ↓kh_g49_11, ↓kh_p49_11, ↓kh_g49_12, ↓kh_p49_12, ↓kh_g49_13, ↓kh_p49_13, ↓kh_g49_14, ↓kh_p49_14, ↓be_y, ↓be_n, ↓bf_y, ↓bf_n, ↓bl_y, ↓bl_n, ↓bm_y, ↓bm_n, ↓bg_y, ↓bg_n, ↓bs_y, ↓bs_n, ↓bo_y, ↓bo_n, ↓bp_y, ↓bp_n, ↓forall_eq, ↓within_y, ↓within_n, ↓isIn_y, ↓isIn_n, and_true, true_and, and_self, us_at, us_ne, w32_id, um_eq, um_ne, um_um, uu_eq, uu_ne, uu_uu, vv_eq, vv_ne, vv_vv, ne_eq, not_false_eq_true, not_true_eq_false, reduceCtorEq, Int.reduceAdd, Int.reduceSub, Int.reduceMul, Int.reduceNeg, Nat.reduceEqDiff, or_true, true_or, true_implies, false_implies, Int.reduceLT, Int.reduceLE, Int.reduceEq]
      refine b3 _ _ ?_
      simp (disch := first | omega | decide) only [w32_id, ↓kh_c8, ↓kh_g8_0, ↓kh_g8_1, ↓kh_g8_2, ↓kh_g8_3, ↓kh_g8_4, ↓kh_g8_5, ↓kh_g8_6, ↓kh_g8_7, ↓kh_c49, ↓kh_g49_0, ↓kh_g49_1, ↓kh_g49_2, ↓kh_g49_3, ↓kh_g49_4, ↓kh_g49_5, ↓kh_g49_6, ↓kh_p49_6, ↓kh_g49_7, ↓kh_p49_7, ↓kh_g49_8, ↓kh_p49_8, ↓kh_g49_9, ↓kh_p49_9, ↓kh_g49_10, ↓kh_p49_10, ↓kh_g49_11, ↓kh_p49_11, ↓kh_g49_12, ↓kh_p49_12, ↓kh_g49_13, ↓kh_p49_13, ↓kh_g49_14, ↓kh_p49_14, ↓be_y, ↓be_n, ↓bf_y, ↓bf_n, ↓bl_y, ↓bl_n, ↓bm_y, ↓bm_n, ↓bg_y, ↓bg_n, ↓bs_y, ↓bs_n, ↓bo_y, ↓bo_n, ↓bp_y, ↓bp_n, ↓forall_eq, ↓within_y, ↓within_n, ↓isIn_y, ↓isIn_n, and_true, true_and, and_self, us_at, us_ne, w32_id, um_eq, um_ne, um_um, uu_eq, uu_ne, uu_uu, vv_eq, vv_ne, vv_vv, ne_eq, not_false_eq_true, not_true_eq_false, reduceCtorEq, Int.reduceAdd, Int.reduceSub, Int.reduceMul, Int.reduceNeg, Nat.reduceEqDiff, or_true, true_or, true_implies, false_implies, Int.reduceLT, Int.reduceLE, Int.reduceEq]
      refine c3 _ _ ?_
      simp (disch := first | omega | decide) only [w32_id, ↓kh_c8, ↓kh_g8_0, ↓kh_g8_1, ↓kh_g8_2, ↓kh_g8_3, ↓kh_g8_4, ↓kh_g8_5, ↓kh_g8_6, ↓kh_g8_7, ↓kh_c49, ↓kh_g49_0, ↓kh_g49_1, ↓kh_g49_2, ↓kh_g49_3, ↓kh_g49_4, ↓kh_g49_5, ↓kh_g49_6, ↓kh_p49_6, ↓kh_g49_7, ↓kh_p49_7, ↓kh_g49_8, ↓kh_p49_8, ↓kh_g49_9, ↓kh_p49_9, ↓kh_g49_10, ↓kh_p49_10, ↓kh_g49_11, ↓kh_p49_11, ↓kh_g49_12, ↓kh_p49_12, ↓kh_g49_13, ↓kh_p49_13, ↓kh_g49_14, ↓kh_p49_14, ↓be_y, ↓be_n, ↓bf_y, ↓bf_n, ↓bl_y, ↓bl_n, ↓bm_y, ↓bm_n, ↓bg_y, ↓bg_n, ↓bs_y, ↓bs_n, ↓bo_y, ↓bo_n, ↓bp_y, ↓bp_n, ↓forall_eq, ↓within_y, ↓within_n, ↓isIn_y, ↓isIn_n, and_true, true_and, and_self, us_at, us_ne, w32_id, um_eq, um_ne, um_um, uu_eq, uu_ne, uu_uu, vv_eq, vv_ne, vv_vv, ne_eq, not_false_eq_true, not_true_eq_false, reduceCtorEq, Int.reduceAdd, Int.reduceSub, Int.reduceMul, Int.reduceNeg, Nat.reduceEqDiff, or_true, true_or, true_implies, false_implies, Int.reduceLT, Int.reduceLE, Int.reduceEq]
      refine d3 _ _ ?_
      simp (disch := first | omega | decide) only [w32_id, ↓kh_c8, ↓kh_g8_0, ↓kh_g8_1, ↓kh_g8_2, ↓kh_g8_3, ↓kh_g8_4, ↓kh_g8_5, ↓kh_g8_6, ↓kh_g8_7, ↓kh_c49, ↓kh_g49_0, ↓kh_g49_1, ↓kh_g49_2, ↓kh_g49_3, ↓kh_g49_4, ↓kh_g49_5, ↓kh_g49_6, ↓kh_p49_6, ↓kh_g49_7, ↓kh_p49_7, ↓kh_g49_8, ↓kh_p49_8, ↓kh_g49_9, ↓kh_p49_9, ↓kh_g49_10, ↓kh_p49_10, ↓kh_g49_11, ↓kh_p49_11, ↓kh_g49_12, ↓kh_p49_12, ↓kh_g49_13, ↓kh_p49_13, ↓kh_g49_14, ↓kh_p49_14, ↓be_y, ↓be_n, ↓bf_y, ↓bf_n, ↓bl_y, ↓bl_n, ↓bm_y, ↓bm_n, ↓bg_y, ↓bg_n, ↓bs_y, ↓bs_n, ↓bo_y, ↓bo_n, ↓bp_y, ↓bp_n, ↓forall_eq, ↓within_y, ↓within_n, ↓isIn_y, ↓isIn_n, and_true, true_and, and_self, us_at, us_ne, w32_id, um_eq, um_ne, um_um, uu_eq, uu_ne, uu_uu, vv_eq, vv_ne, vv_vv, ne_eq, not_false_eq_true, not_true_eq_false, reduceCtorEq, Int.reduceAdd, Int.reduceSub, Int.reduceMul, Int.reduceNeg, Nat.reduceEqDiff, or_true, true_or, true_implies, false_implies, Int.reduceLT, Int.reduceLE, Int.reduceEq]
      refine e3 _ _ ?_
      simp (disch := first | omega | decide) only [w32_id, ↓kh_c8, ↓kh_g8_0, ↓kh_g8_1, ↓kh_g8_2, ↓kh_g8_3, ↓kh_g8_4, ↓kh_g8_5, ↓kh_g8_6, ↓kh_g8_7, ↓kh_c49, ↓kh_g49_0, ↓kh_g49_1, ↓kh_g49_2, ↓kh_g49_3, ↓kh_g49_4, ↓kh_g49_5, ↓kh_g49_6, ↓kh_p49_6, ↓kh_g49_7, ↓kh_p49_7, ↓kh_g49_8, ↓kh_p49_8, ↓kh_g49_9, ↓kh_p49_9, ↓kh_g49_10, ↓kh_p49_10, ↓kh_g49_11, ↓kh_p49_11, ↓kh_g49_12, ↓kh_p49_12, ↓kh_g49_13, ↓kh_p49_13, ↓kh_g49_14, ↓kh_p49_14, ↓be_y, ↓be_n, ↓bf_y, ↓bf_n, ↓bl_y, ↓bl_n, ↓bm_y, ↓bm_n, ↓bg_y, ↓bg_n, ↓bs_y, ↓bs_n, ↓bo_y, ↓bo_n, ↓bp_y, ↓bp_n, ↓forall_eq, ↓within_y, ↓within_n, ↓isIn_y, ↓isIn_n, and_true, true_and, and_self, us_at, us_ne, w32_id, um_eq, um_ne, um_um, uu_eq, uu_ne, uu_uu, vv_eq, vv_ne, vv_vv, ne_eq, not_false_eq_true, not_true_eq_false, reduceCtorEq, Int.reduceAdd, Int.reduceSub, Int.reduceMul, Int.reduceNeg, Nat.reduceEqDiff, or_true, true_or, true_implies, false_implies, Int.reduceLT, Int.reduceLE, Int.reduceEq, e7]
      exact q
    · simp (disch := first | omega | decide) only [mX12_feed, ↓rh_rcv, ↓rh_g4, ↓rh_p4, ↓be_y, ↓be_n, ↓bf_y, ↓bf_n, ↓bl_y, ↓bl_n, ↓bm_y, ↓bm_n, ↓bg_y, ↓bg_n, ↓bs_y, ↓bs_n, ↓bo_y, ↓bo_n, ↓bp_y, ↓bp_n, ↓forall_eq, ↓within_y, ↓within_n, ↓isIn_y, ↓isIn_n, and_true, true_and, and_self, us_at, us_ne, w32_id, um_eq, um_ne, um_um, uu_eq, uu_ne, uu_uu, vv_eq, vv_ne, vv_vv, ne_eq, not_false_eq_true, not_true_eq_false, reduceCtorEq, Int.reduceAdd, Int.reduceSub, Int.reduceMul, Int.reduceNeg, Nat.reduceEqDiff, or_true, true_or, true_implies, false_implies, Int.reduceLT, Int.reduceLE, Int.reduceEq]
      refine a4 _ _ ?_
      simp (disch := first | omega | decide) only [w32_id, ↓rh_rcv, ↓rh_g4, ↓rh_p4, ↓be_y, ↓be_n, ↓bf_y, ↓bf_n, ↓bl_y, ↓bl_n, ↓bm_y, ↓bm_n, ↓bg_y, ↓bg_n, ↓bs_y, ↓bs_n, ↓bo_y, ↓bo_n, ↓bp_y, ↓bp_n, ↓forall_eq, ↓within_y, ↓within_n, ↓isIn_y, ↓isIn_n, and_true, true_and, and_self, us_at, us_ne, w32_id, um_eq, um_ne, um_um, uu_eq, uu_ne, uu_uu, vv_eq, vv_ne, vv_vv, ne_eq, not_false_eq_true, not_true_eq_false, reduceCtorEq, Int.reduceAdd, Int.reduceSub, Int.reduceMul, Int.reduceNeg, Nat.reduceEqDiff, or_true, true_or, true_implies, false_implies, Int.reduceLT, Int.reduceLE, Int.reduceEq]
      refine b4 _ _ ?_
      simp (disch := first | omega | decide) only [w32_id, ↓rh_rcv, ↓rh_g4, ↓rh_p4, ↓be_y, ↓be_n, ↓bf_y, ↓bf_n, ↓bl_y, ↓bl_n, ↓bm_y, ↓bm_n, ↓bg_y, ↓bg_n, ↓bs_y, ↓bs_n, ↓bo_y, ↓bo_n, ↓bp_y, ↓bp_n, ↓forall_eq, ↓within_y, ↓within_n, ↓isIn_y, ↓isIn_n, and_true, true_and, and_self, us_at, us_ne, w32_id, um_eq, um_ne, um_um, uu_eq, uu_ne, uu_uu, vv_eq, vv_ne, vv_vv, ne_eq, not_false_eq_true, not_true_eq_false, reduceCtorEq, Int.reduceAdd, Int.reduceSub, Int.reduceMul, Int.reduceNeg, Nat.reduceEqDiff, or_true, true_or, true_implies, false_implies, Int.reduceLT, Int.reduceLE, Int.reduceEq]
      refine c4 _ _ ?_
      simp (disch := first | omega | decide) only [w32_id, ↓rh_rcv, ↓rh_g4, ↓rh_p4, ↓be_y, ↓be_n, ↓bf_y, ↓bf_n, ↓bl_y, ↓bl_n, ↓bm_y, ↓bm_n, ↓bg_y, ↓bg_n, ↓bs_y, ↓bs_n, ↓bo_y, ↓bo_n, ↓bp_y, ↓bp_n, ↓forall_eq, ↓within_y, ↓within_n, ↓isIn_y, ↓isIn_n, and_true, true_and, and_self, us_at, us_ne, w32_id, um_eq, um_ne, um_um, uu_eq, uu_ne, uu_uu, vv_eq, vv_ne, vv_vv, ne_eq, not_false_eq_true, not_true_eq_false, reduceCtorEq, Int.reduceAdd, Int.reduceSub, Int.reduceMul, Int.reduceNeg, Nat.reduceEqDiff, or_true, true_or, true_implies, false_implies, Int.reduceLT, Int.reduceLE, Int.reduceEq]
      refine d4 _ _ ?_
      simp (disch := first | omega | decide) only [w32_id, ↓rh_rcv, ↓rh_g4, ↓rh_p4, ↓be_y, ↓be_n, ↓bf_y, ↓bf_n, ↓bl_y, ↓bl_n, ↓bm_y, ↓bm_n, ↓bg_y, ↓bg_n, ↓bs_y, ↓bs_n, ↓bo_y, ↓bo_n, ↓bp_y, ↓bp_n, ↓forall_eq, ↓within_y, ↓within_n, ↓isIn_y, ↓isIn_n, and_true, true_and, and_self, us_at, us_ne, w32_id, um_eq, um_ne, um_um, uu_eq, uu_ne, uu_uu, vv_eq, vv_ne, vv_vv, ne_eq, not_false_eq_true, not_true_eq_false, reduceCtorEq, Int.reduceAdd, Int.reduceSub, Int.reduceMul, Int.reduceNeg, Nat.reduceEqDiff, or_true, true_or, true_implies, false_implies, Int.reduceLT, Int.reduceLE, Int.reduceEq]
      refine e4 _ _ ?_
      simp (disch := first | omega | decide) only [w32_id, ↓rh_rcv, ↓rh_g4, ↓rh_p4, ↓be_y, ↓be_n, ↓bf_y, ↓bf_n, ↓bl_y, ↓bl_n, ↓bm_y, ↓bm_n, ↓bg_y, ↓bg_n, ↓bs_y, ↓bs_n, ↓bo_y, ↓bo_n, ↓bp_y, ↓bp_n, ↓forall_eq, ↓within_y, ↓within_n, ↓isIn_y, ↓isIn_n, and_true, true_and, and_self, us_at, us_ne, w32_id, um_eq, um_ne, um_um, uu_eq, uu_ne, uu_uu, vv_eq, vv_ne, vv_vv, ne_eq, not_false_eq_true, not_true_eq_false, reduceCtorEq, Int.reduceAdd, Int.reduceSub, Int.reduceMul, Int.reduceNeg, Nat.reduceEqDiff, or_true, true_or, true_implies, false_implies, Int.reduceLT, Int.reduceLE, Int.reduceEq]
      exact q
  · refine ⟨-1, v, N, u, M, Rel_up h, fun F Q q => ?_, fun F Q q => ?_⟩
    · simp (disch := first | omega | decide) only [mX11_feed, ↓kh_c8, ↓kh_g8_0, ↓kh_g8_1, ↓kh_g8_2, ↓kh_g8_3, ↓kh_g8_4, ↓kh_g8_5, ↓kh_g8_6, ↓kh_g8_7, ↓kh_c49, ↓kh_g49_0, ↓kh_g49_1, ↓kh_g49_2, ↓kh_g49_3, ↓kh_g49_4, ↓kh_g49_5, ↓kh_g49_6, ↓kh_p49_6, ↓kh_g49_7, ↓kh_p49_7, ↓kh_g49_8, ↓kh_p49_8, ↓kh_g49_9, ↓kh_p49_9, ↓kh_g49_10, ↓kh_p49_10, ↓kh_g49_11, ↓kh_p49_11, ↓kh_g49_12, ↓kh_p49_12, ↓kh_g49_13, ↓kh_p49_13, ↓kh_g49_14, ↓kh_p49_14, ↓be_y, ↓be_n, ↓bf_y, ↓bf_n, ↓bl_y, ↓bl_n, ↓bm_y, ↓bm_n, ↓bg_y, ↓bg_n, ↓bs_y, ↓bs_n, ↓bo_y, ↓bo_n, ↓bp_y, ↓bp_n, ↓forall_eq, ↓within_y, ↓within_n, ↓isIn_y, ↓isIn_n, and_true, true_and, and_self, us_at, us_ne, w32_id, um_eq, um_ne, um_um, uu_eq, uu_ne, uu_uu, vv_eq, vv_ne, vv_vv, ne_eq, not_false_eq_true, not_true_eq_false, reduceCtorEq, Int.reduceAdd, Int.reduceSub, Int.reduceMul, Int.reduceNeg, Nat.reduceEqDiff, or_true, true_or, true_implies, false_implies, Int.reduceLT, Int.reduceLE, Int.reduceEq, e6]
      exact q
    · simp (disch := first | omega | decide) only [mX12_feed, ↓rh_rcv, ↓rh_g4, ↓rh_p4, ↓be_y, ↓be_n, ↓bf_y, ↓bf_n, ↓bl_y, ↓bl_n, ↓bm_y, ↓bm_n, ↓bg_y, ↓bg_n, ↓bs_y, ↓bs_n, ↓bo_y, ↓bo_n, ↓bp_y, ↓bp_n, ↓forall_eq, ↓within_y, ↓within_n, ↓isIn_y, ↓isIn_n, and_true, true_and, and_self, us_at, us_ne, w32_id, um_eq, um_ne, um_um, uu_eq, uu_ne, uu_uu, vv_eq, vv_ne, vv_vv, ne_eq, not_false_eq_true, not_true_eq_false, reduceCtorEq, Int.reduceAdd, Int.reduceSub, Int.reduceMul, Int.reduceNeg, Nat.reduceEqDiff, or_true, true_or, true_implies, false_implies, Int.reduceLT, Int.reduceLE, Int.reduceEq]
      exact q
end FE
