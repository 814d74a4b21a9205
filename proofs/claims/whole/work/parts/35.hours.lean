section HO
variable {n x1 x2 : Int}
-- hours pass
theorem Rel_u {G : hp} {v : Nat → Nat → Int} {N : Nat → Int → Int} {T : Nat → Int → Option Nat} {u : Nat → Int} {M : Nat → Int → Int} {x : Int} (h : Rel n G v N T u M) : Rel n G v N T (uu u 24 x) M := h
theorem hours_b {G : hp} {T : Nat → Int → Option Nat} (hx : 0 ≤ x1 ∧ x1 ≤ 60) : ∀ (k : Nat) (i : Int) (v : Nat → Nat → Int) (N : Nat → Int → Int) (u : Nat → Int) (M : Nat → Int → Int), Rel n G v N T u M → i + k = x1 → 0 ≤ i → ∃ v' N' u' M', Rel n G v' N' T u' M' ∧ (∀ (F : hp) (Q : Int → hp → Prop), Q (u' 24) (kh F v' N' T) → mX9_passHours_L4 Q (k + 1) 9 x1 (u 24) i (kh F v N T)) ∧ (∀ (F : hp) (Q : Int → hp → Prop), Q (if M 70 7 + k ≤ 9999 then 1 else 0) (rh F u' M') → mX12_arePassed_L7 Q (k + 1) 69 x1 i (rh F u M)) := by
  intro k
  induction k with
  | zero =>
    intro i v N u M h hi h0
    have y7 := (jY_d h.1.1).2.2.2.2.2.1
    refine ⟨v, N, u, M, h, fun F Q q => ?_, fun F Q q => ?_⟩
    · rw [mX9_passHours_L4]
      simp (disch := first | omega | decide) only [w32_id, ↓kh_c9, ↓kh_g9_0, ↓kh_g9_1, ↓be_y, ↓be_n, ↓bf_y, ↓bf_n, ↓bl_y, ↓bl_n, ↓bm_y, ↓bm_n, ↓bg_y, ↓bg_n, ↓bs_y, ↓bs_n, ↓bo_y, ↓bo_n, ↓bp_y, ↓bp_n, ↓forall_eq, ↓within_y, ↓within_n, ↓isIn_y, ↓isIn_n, and_true, true_and, and_self, us_at, us_ne, w32_id, um_eq, um_ne, um_um, uu_eq, uu_ne, uu_uu, vv_eq, vv_ne, vv_vv, ne_eq, not_false_eq_true, not_true_eq_false, reduceCtorEq, Int.reduceAdd, Int.reduceSub, Int.reduceMul, Int.reduceNeg, Nat.reduceEqDiff, or_true, true_or, true_implies, false_implies, Int.reduceLT, Int.reduceLE, Int.reduceEq]
      exact q
    · rw [mX12_arePassed_L7]
      rw [if_pos (by omega)] at q
      simp (disch := first | omega | decide) only [w32_id, ↓rh_rcv, ↓rh_g0, ↓rh_r70, ↓rh_w70, ↓be_y, ↓be_n, ↓bf_y, ↓bf_n, ↓bl_y, ↓bl_n, ↓bm_y, ↓bm_n, ↓bg_y, ↓bg_n, ↓bs_y, ↓bs_n, ↓bo_y, ↓bo_n, ↓bp_y, ↓bp_n, ↓forall_eq, ↓within_y, ↓within_n, ↓isIn_y, ↓isIn_n, and_true, true_and, and_self, us_at, us_ne, w32_id, um_eq, um_ne, um_um, uu_eq, uu_ne, uu_uu, vv_eq, vv_ne, vv_vv, ne_eq, not_false_eq_true, not_true_eq_false, reduceCtorEq, Int.reduceAdd, Int.reduceSub, Int.reduceMul, Int.reduceNeg, Nat.reduceEqDiff, or_true, true_or, true_implies, false_implies, Int.reduceLT, Int.reduceLE, Int.reduceEq]
      exact q
  | succ k ih =>
    intro i v N u M h hi h0
    have y7 := (jY_d h.1.1).2.2.2.2.2.1
    have e0 := (jY_d h.1.1).1.1
    by_cases d : M 70 7 < 9999
    · obtain ⟨v1, K1, A1, k1, k2, k3, k4, k5⟩ := keep_b h
      have a7 : A1 7 = M 70 7 := k2 7 (by omega)
      obtain ⟨b, Y2, A2, b1, b2, b3, b4, b5, b6⟩ := ps1_12 (u := u) (M := um M 70 A1) (v := v1) (N := um N 14 K1) (T := T) k1.1.1 (by show A1 7 < 9999; omega) k1.2.2.2.2.1
      have r2 := Rel_u (x := u 24 + b) (Rel_y k1 b2 b3)
      obtain ⟨v', N', u', M', i1, i2, i3⟩ := ih (i + 1) _ _ _ _ r2 (by omega) (by omega)
      have e24 : uu u 24 (u 24 + b) 24 = u 24 + b := rfl
      have e7 : um (um M 70 A1) 70 A2 70 7 = M 70 7 + 1 := by
        show A2 7 = _
        rw [b4]
        show A1 7 + 1 = _
        omega
      rw [e24] at i2
      rw [e7] at i3
      refine ⟨v', N', u', M', i1, fun F Q q => ?_, fun F Q q => ?_⟩
      · rw [mX9_passHours_L4]
        simp (disch := first | omega | decide) only [mX10_hourCanPass, ↓kh_c9, ↓kh_g9_0, ↓kh_g9_1, ↓kh_c10, ↓kh_g10_0, ↓kh_g10_1, ↓kh_g10_2, ↓kh_g10_3, ↓kh_g10_4, ↓kh_g10_5, ↓kh_g10_6, ↓kh_g10_7, ↓kh_g10_8, ↓kh_g10_9, ↓kh_g10_10, ↓kh_g10_11, ↓kh_g10_12, ↓kh_p10_12, ↓kh_g10_13, ↓kh_p10_13, ↓kh_g10_14, ↓kh_p10_14, ↓kh_g10_15, ↓kh_p10_15, ↓kh_c11, ↓kh_g11_0, ↓kh_r12, ↓kh_w12, ↓kh_n12, ↓kh_c13, ↓kh_g13_0, ↓kh_g13_1, ↓kh_p13_1, ↓kh_g13_2, ↓kh_p13_2, ↓kh_cp12_33, ↓kh_cp12_68, ↓kh_cp12_12, ↓kh_cp12_14, ↓be_y, ↓be_n, ↓bf_y, ↓bf_n, ↓bl_y, ↓bl_n, ↓bm_y, ↓bm_n, ↓bg_y, ↓bg_n, ↓bs_y, ↓bs_n, ↓bo_y, ↓bo_n, ↓bp_y, ↓bp_n, ↓forall_eq, ↓within_y, ↓within_n, ↓isIn_y, ↓isIn_n, and_true, true_and, and_self, us_at, us_ne, w32_id, um_eq, um_ne, um_um, uu_eq, uu_ne, uu_uu, vv_eq, vv_ne, vv_vv, ne_eq, not_false_eq_true, not_true_eq_false, reduceCtorEq, Int.reduceAdd, Int.reduceSub, Int.reduceMul, Int.reduceNeg, Nat.reduceEqDiff, or_true, true_or, true_implies, false_implies, Int.reduceLT, Int.reduceLE, Int.reduceEq, e0]
        refine k4 _ _ ?_
        simp (disch := first | omega | decide) only [w32_id, ↓kh_c9, ↓kh_g9_0, ↓kh_g9_1, ↓kh_c10, ↓kh_g10_0, ↓kh_g10_1, ↓kh_g10_2, ↓kh_g10_3, ↓kh_g10_4, ↓kh_g10_5, ↓kh_g10_6, ↓kh_g10_7, ↓kh_g10_8, ↓kh_g10_9, ↓kh_g10_10, ↓kh_g10_11, ↓kh_g10_12, ↓kh_p10_12, ↓kh_g10_13, ↓kh_p10_13, ↓kh_g10_14, ↓kh_p10_14, ↓kh_g10_15, ↓kh_p10_15, ↓kh_c11, ↓kh_g11_0, ↓be_y, ↓be_n, ↓bf_y, ↓bf_n, ↓bl_y, ↓bl_n, ↓bm_y, ↓bm_n, ↓bg_y, ↓bg_n, ↓bs_y, ↓bs_n, ↓bo_y, ↓bo_n, ↓bp_y, ↓bp_n, ↓forall_eq, ↓within_y, ↓within_n, ↓isIn_y, ↓isIn_n, and_true, true_and, and_self, us_at, us_ne, w32_id, um_eq, um_ne, um_um, uu_eq, uu_ne, uu_uu, vv_eq, vv_ne, vv_vv, ne_eq, not_false_eq_true, not_true_eq_false, reduceCtorEq, Int.reduceAdd, Int.reduceSub, Int.reduceMul, Int.reduceNeg, Nat.reduceEqDiff, or_true, true_or, true_implies, false_implies, Int.reduceLT, Int.reduceLE, Int.reduceEq]
        refine b5 _ _ ?_
        exact i2 F Q q
      · rw [mX12_arePassed_L7]
        rw [show M 70 7 + ((k + 1 : Nat) : Int) = M 70 7 + 1 + k by omega] at q
        simp (disch := first | omega | decide) only [w32_id, ↓rh_rcv, ↓rh_g0, ↓rh_r70, ↓rh_w70, ↓be_y, ↓be_n, ↓bf_y, ↓bf_n, ↓bl_y, ↓bl_n, ↓bm_y, ↓bm_n, ↓bg_y, ↓bg_n, ↓bs_y, ↓bs_n, ↓bo_y, ↓bo_n, ↓bp_y, ↓bp_n, ↓forall_eq, ↓within_y, ↓within_n, ↓isIn_y, ↓isIn_n, and_true, true_and, and_self, us_at, us_ne, w32_id, um_eq, um_ne, um_um, uu_eq, uu_ne, uu_uu, vv_eq, vv_ne, vv_vv, ne_eq, not_false_eq_true, not_true_eq_false, reduceCtorEq, Int.reduceAdd, Int.reduceSub, Int.reduceMul, Int.reduceNeg, Nat.reduceEqDiff, or_true, true_or, true_implies, false_implies, Int.reduceLT, Int.reduceLE, Int.reduceEq]
        refine k5 _ _ ?_
        simp (disch := first | omega | decide) only [w32_id, ↓rh_rcv, ↓rh_g0, ↓rh_r70, ↓rh_w70, ↓be_y, ↓be_n, ↓bf_y, ↓bf_n, ↓bl_y, ↓bl_n, ↓bm_y, ↓bm_n, ↓bg_y, ↓bg_n, ↓bs_y, ↓bs_n, ↓bo_y, ↓bo_n, ↓bp_y, ↓bp_n, ↓forall_eq, ↓within_y, ↓within_n, ↓isIn_y, ↓isIn_n, and_true, true_and, and_self, us_at, us_ne, w32_id, um_eq, um_ne, um_um, uu_eq, uu_ne, uu_uu, vv_eq, vv_ne, vv_vv, ne_eq, not_false_eq_true, not_true_eq_false, reduceCtorEq, Int.reduceAdd, Int.reduceSub, Int.reduceMul, Int.reduceNeg, Nat.reduceEqDiff, or_true, true_or, true_implies, false_implies, Int.reduceLT, Int.reduceLE, Int.reduceEq]
        refine b6 _ _ ?_
        exact i3 F Q q
    · refine ⟨v, N, u, M, h, fun F Q q => ?_, fun F Q q => ?_⟩
      · rw [mX9_passHours_L4]
        simp (disch := first | omega | decide) only [mX10_hourCanPass, ↓kh_c9, ↓kh_g9_0, ↓kh_g9_1, ↓kh_c10, ↓kh_g10_0, ↓kh_g10_1, ↓kh_g10_2, ↓kh_g10_3, ↓kh_g10_4, ↓kh_g10_5, ↓kh_g10_6, ↓kh_g10_7, ↓kh_g10_8, ↓kh_g10_9, ↓kh_g10_10, ↓kh_g10_11, ↓kh_g10_12, ↓kh_p10_12, ↓kh_g10_13, ↓kh_p10_13, ↓kh_g10_14, ↓kh_p10_14, ↓kh_g10_15, ↓kh_p10_15, ↓kh_c11, ↓kh_g11_0, ↓kh_r12, ↓kh_w12, ↓kh_n12, ↓kh_cp12_33, ↓kh_cp12_68, ↓kh_cp12_12, ↓kh_cp12_14, ↓be_y, ↓be_n, ↓bf_y, ↓bf_n, ↓bl_y, ↓bl_n, ↓bm_y, ↓bm_n, ↓bg_y, ↓bg_n, ↓bs_y, ↓bs_n, ↓bo_y, ↓bo_n, ↓bp_y, ↓bp_n, ↓forall_eq, ↓within_y, ↓within_n, ↓isIn_y, ↓isIn_n, and_true, true_and, and_self, us_at, us_ne, w32_id, um_eq, um_ne, um_um, uu_eq, uu_ne, uu_uu, vv_eq, vv_ne, vv_vv, ne_eq, not_false_eq_true, not_true_eq_false, reduceCtorEq, Int.reduceAdd, Int.reduceSub, Int.reduceMul, Int.reduceNeg, Nat.reduceEqDiff, or_true, true_or, true_implies, false_implies, Int.reduceLT, Int.reduceLE, Int.reduceEq, e0]
        exact q
      · rw [mX12_arePassed_L7]
        rw [if_neg (by omega)] at q
        simp (disch := first | omega | decide) only [w32_id, ↓rh_rcv, ↓rh_g0, ↓rh_r70, ↓rh_w70, ↓be_y, ↓be_n, ↓bf_y, ↓bf_n, ↓bl_y, ↓bl_n, ↓bm_y, ↓bm_n, ↓bg_y, ↓bg_n, ↓bs_y, ↓bs_n, ↓bo_y, ↓bo_n, ↓bp_y, ↓bp_n, ↓forall_eq, ↓within_y, ↓within_n, ↓isIn_y, ↓isIn_n, and_true, true_and, and_self, us_at, us_ne, w32_id, um_eq, um_ne, um_um, uu_eq, uu_ne, uu_uu, vv_eq, vv_ne, vv_vv, ne_eq, not_false_eq_true, not_true_eq_false, reduceCtorEq, Int.reduceAdd, Int.reduceSub, Int.reduceMul, Int.reduceNeg, Nat.reduceEqDiff, or_true, true_or, true_implies, false_implies, Int.reduceLT, Int.reduceLE, Int.reduceEq]
        exact q
set_option maxHeartbeats 4000000 in
theorem op_hour (h1 : -2147483648 ≤ x1 ∧ x1 ≤ 2147483647) : OP n (mX11_hour 8 x1) (mX12_hour 69 x1) := by
  refine op_to (fun G v N T u M h => ?_)
  obtain ⟨⟨hY, hK, hC, hF, hB, hT, hS, hD, hX, hG⟩, hI, hM, hL, hW, hH, hN⟩ := id h
  have hc := jY_c hY
  have y7 := (jY_d hY).2.2.2.2.2.1
  have e0 := (jY_d hY).1.1
  by_cases c : (1 ≤ x1 ∧ x1 ≤ 60) ∧ M 70 7 + x1 ≤ 9999
  · obtain ⟨v', N', u', M', k1, k2, k3⟩ := hours_b (x1 := x1) (by omega) x1.toNat 0 v N (uu u 24 0) M (Rel_u h) (by omega) (by omega)
    rw [if_pos (by omega)] at k3
    refine ⟨u' 24, v', N', u', M', Rel_up k1, fun F Q q => ?_, fun F Q q => ?_⟩
    · simp (disch := first | omega | decide) only [mX11_hour, mX10_hourNow, mX9_passHours, ↓kh_c8, ↓kh_g8_0, ↓kh_g8_1, ↓kh_g8_2, ↓kh_g8_3, ↓kh_g8_4, ↓kh_g8_5, ↓kh_g8_6, ↓kh_g8_7, ↓kh_c9, ↓kh_g9_0, ↓kh_g9_1, ↓kh_c10, ↓kh_g10_0, ↓kh_g10_1, ↓kh_g10_2, ↓kh_g10_3, ↓kh_g10_4, ↓kh_g10_5, ↓kh_g10_6, ↓kh_g10_7, ↓kh_g10_8, ↓kh_g10_9, ↓kh_g10_10, ↓kh_g10_11, ↓kh_g10_12, ↓kh_p10_12, ↓kh_g10_13, ↓kh_p10_13, ↓kh_g10_14, ↓kh_p10_14, ↓kh_g10_15, ↓kh_p10_15, ↓kh_c11, ↓kh_g11_0, ↓kh_r12, ↓kh_w12, ↓kh_n12, ↓kh_cp12_33, ↓kh_cp12_68, ↓kh_cp12_12, ↓kh_cp12_14, ↓be_y, ↓be_n, ↓bf_y, ↓bf_n, ↓bl_y, ↓bl_n, ↓bm_y, ↓bm_n, ↓bg_y, ↓bg_n, ↓bs_y, ↓bs_n, ↓bo_y, ↓bo_n, ↓bp_y, ↓bp_n, ↓forall_eq, ↓within_y, ↓within_n, ↓isIn_y, ↓isIn_n, and_true, true_and, and_self, us_at, us_ne, w32_id, um_eq, um_ne, um_um, uu_eq, uu_ne, uu_uu, vv_eq, vv_ne, vv_vv, ne_eq, not_false_eq_true, not_true_eq_false, reduceCtorEq, Int.reduceAdd, Int.reduceSub, Int.reduceMul, Int.reduceNeg, Nat.reduceEqDiff, or_true, true_or, true_implies, false_implies, Int.reduceLT, Int.reduceLE, Int.reduceEq, e0]
      exact ⟨_, k2 F Q q⟩
    · simp (disch := first | omega | decide) only [mX12_hour, mX12_arePassed, ↓rh_rcv, ↓rh_g0, ↓rh_g24, ↓rh_p24, ↓rh_r70, ↓rh_w70, ↓be_y, ↓be_n, ↓bf_y, ↓bf_n, ↓bl_y, ↓bl_n, ↓bm_y, ↓bm_n, ↓bg_y, ↓bg_n, ↓bs_y, ↓bs_n, ↓bo_y, ↓bo_n, ↓bp_y, ↓bp_n, ↓forall_eq, ↓within_y, ↓within_n, ↓isIn_y, ↓isIn_n, and_true, true_and, and_self, us_at, us_ne, w32_id, um_eq, um_ne, um_um, uu_eq, uu_ne, uu_uu, vv_eq, vv_ne, vv_vv, ne_eq, not_false_eq_true, not_true_eq_false, reduceCtorEq, Int.reduceAdd, Int.reduceSub, Int.reduceMul, Int.reduceNeg, Nat.reduceEqDiff, or_true, true_or, true_implies, false_implies, Int.reduceLT, Int.reduceLE, Int.reduceEq]
      refine ⟨_, k3 F _ ?_⟩
      simp (disch := first | omega | decide) only [w32_id, ↓rh_rcv, ↓rh_g0, ↓rh_g24, ↓rh_p24, ↓rh_r70, ↓rh_w70, ↓be_y, ↓be_n, ↓bf_y, ↓bf_n, ↓bl_y, ↓bl_n, ↓bm_y, ↓bm_n, ↓bg_y, ↓bg_n, ↓bs_y, ↓bs_n, ↓bo_y, ↓bo_n, ↓bp_y, ↓bp_n, ↓forall_eq, ↓within_y, ↓within_n, ↓isIn_y, ↓isIn_n, and_true, true_and, and_self, us_at, us_ne, w32_id, um_eq, um_ne, um_um, uu_eq, uu_ne, uu_uu, vv_eq, vv_ne, vv_vv, ne_eq, not_false_eq_true, not_true_eq_false, reduceCtorEq, Int.reduceAdd, Int.reduceSub, Int.reduceMul, Int.reduceNeg, Nat.reduceEqDiff, or_true, true_or, true_implies, false_implies, Int.reduceLT, Int.reduceLE, Int.reduceEq]
      exact q
  · refine ⟨-1, v, N, u, M, Rel_up h, fun F Q q => ?_, fun F Q q => ?_⟩
    · by_cases d0 : 1 ≤ x1 ∧ x1 ≤ 60 <;> first | (exfalso; omega) | (simp (disch := omega) only [mX11_hour, mX10_hourNow, e0, kh_c8, kh_g8_0, kh_g8_1, kh_g8_2, kh_g8_3, kh_g8_4, kh_g8_5, kh_g8_6, kh_g8_7, kh_c9, kh_g9_0, kh_g9_1, kh_c10, kh_g10_0, kh_g10_1, kh_g10_2, kh_g10_3, kh_g10_4, kh_g10_5, kh_g10_6, kh_g10_7, kh_g10_8, kh_g10_9, kh_g10_10, kh_g10_11, kh_g10_12, kh_p10_12, kh_g10_13, kh_p10_13, kh_g10_14, kh_p10_14, kh_g10_15, kh_p10_15, kh_c11, kh_g11_0, kh_r12, kh_w12, kh_n12, kh_cp12_33, kh_cp12_68, kh_cp12_12, kh_cp12_14, ↓i_pos, ↓i_neg, and_true, true_and, and_self, w32_id, us_at, us_ne, um_eq, um_ne, um_um, uu_eq, uu_ne, uu_uu, vv_eq, vv_ne, vv_vv, forall_eq, within_y, within_n, isIn_y, isIn_n, ne_eq, not_false_eq_true, not_true_eq_false, reduceCtorEq, Int.reduceAdd, Int.reduceSub, Int.reduceMul, Int.reduceNeg, Nat.reduceEqDiff, or_true, true_or, true_implies, false_implies, Int.reduceLT, Int.reduceLE, Int.reduceEq, iMax_l, iMax_r, iMin_l, iMin_r]; first | done | exact q)
    · by_cases d0 : 1 ≤ x1 ∧ x1 ≤ 60 <;> first | (exfalso; omega) | (simp (disch := omega) only [mX12_hour, rh_rcv, rh_g0, rh_g24, rh_p24, rh_r70, rh_w70, ↓i_pos, ↓i_neg, and_true, true_and, and_self, w32_id, us_at, us_ne, um_eq, um_ne, um_um, uu_eq, uu_ne, uu_uu, vv_eq, vv_ne, vv_vv, forall_eq, within_y, within_n, isIn_y, isIn_n, ne_eq, not_false_eq_true, not_true_eq_false, reduceCtorEq, Int.reduceAdd, Int.reduceSub, Int.reduceMul, Int.reduceNeg, Nat.reduceEqDiff, or_true, true_or, true_implies, false_implies, Int.reduceLT, Int.reduceLE, Int.reduceEq, iMax_l, iMax_r, iMin_l, iMin_r]; first | done | exact q)
-- a car comes
theorem car_b {G : hp} {v : Nat → Nat → Int} {N : Nat → Int → Int} {T : Nat → Int → Option Nat} {u : Nat → Int} {M : Nat → Int → Int} (h : Rel n G v N T u M) (h1 : 0 ≤ x1 ∧ x1 ≤ 3) (h2 : 1 ≤ x2 ∧ x2 ≤ 9) : ∃ r N' M', -1 ≤ r ∧ r ≤ 4 ∧ Rel n G v N' T u M' ∧ (∀ (F : hp) (Q : Int → hp → Prop), Q r (kh F v N' T) → mX5_addCar 10 x1 x2 (kh F v N T) Q) ∧ (∀ (F : hp) (Q : Int → hp → Prop), Q r (rh F u M') → mX12_car 69 x1 x2 (rh F u M) Q) := by
  obtain ⟨⟨hY, hK, hC, hF, hB, hT, hS, hD, hX, hG⟩, hI, hM, hR⟩ := id h
  have hc := jY_c hY
  have e4 := hc.1
  have k := jY_k hY
  have ys := yok_sum k
  have t0 := (jY_d hY).2.2.1 0 (by omega) (by omega)
  simp only [Int.reduceAdd] at t0
  have t0a := t0.1
  by_cases c : M 70 0 < 5
  · have nt : M 70 12 < 5 := by
      have a := k.2.2.2.2.2.2.2.2.1 1 (by omega) (by omega)
      have b := k.2.2.2.2.2.2.2.2.1 2 (by omega) (by omega)
      simp only [Int.reduceAdd] at a b
      omega
    have z1 : us (us (M 70) (36 + M 70 0) x1) (41 + M 70 0) x2 12 = M 70 12 := by simp (disch := omega) only [us_ne]
    have hy' : jY (us (us (us (N 12) 4 (M 70 0 + 1)) (14 + M 70 12) (M 70 0)) 11 (M 70 12 + 1)) (us (us (us (us (us (M 70) (36 + M 70 0) x1) (41 + M 70 0) x2) (15 + M 70 12) (M 70 0)) 12 (M 70 12 + 1)) 0 (M 70 0 + 1)) := by
      have p0 : jY (N 12) (us (us (M 70) (36 + M 70 0) x1) (41 + M 70 0) x2) := jY_A (fun i hi => by simp (disch := omega) only [us_ne]) hY
      have p1 := pR_n (t := 0) (x := M 70 12 + 1) (pR_t (t := 0) (i := M 70 12) (x := M 70 0) (pR_c (x := M 70 0 + 1) (jY_p p0)) (by omega) (by omega)) (by omega)
      simp only [Int.mul_zero, Int.add_zero] at p1
      rw [us_comm (f := us (us (M 70) (36 + M 70 0) x1) (41 + M 70 0) x2) (i := 0) (j := 15 + M 70 12) (by omega), us_comm (i := 0) (j := 12) (by omega)] at p1
      refine jY_mk p1 ?_
      have y := yok_add k (by omega)
      rw [e4, t0a] at y
      exact y
    refine ⟨M 70 0, um (um (um (um (um (um N 12 (us (us (us (N 12) 4 (M 70 0 + 1)) (14 + M 70 12) (M 70 0)) 11 (M 70 12 + 1))) 15 (us (N 15) (M 70 0) x1)) 16 (us (N 16) (M 70 0) x2)) 17 (us (N 17) (M 70 0) 1)) 18 (us (N 18) (M 70 0) 1)) 19 (us (N 19) (M 70 0) 0), um M 70 (us (us (us (us (us (M 70) (36 + M 70 0) x1) (41 + M 70 0) x2) (15 + M 70 12) (M 70 0)) 12 (M 70 12 + 1)) 0 (M 70 0 + 1)), by omega, by omega, ⟨⟨hy', ?_, ?_, jF_A (fun i hi => by simp (disch := omega) only [um_eq, um_ne, us_ne]) hF, jB_A (fun i hi => by simp (disch := omega) only [um_eq, um_ne, us_ne]) hB, jT_A (fun i hi => by simp (disch := omega) only [um_eq, um_ne, us_ne]) hT, jS_A (fun i hi => by simp (disch := omega) only [um_eq, um_ne, us_ne]) hS, jD_A (fun i hi => by simp (disch := omega) only [um_eq, um_ne, us_ne]) hD, jX_A (fun i hi => by simp (disch := omega) only [um_eq, um_ne, us_ne]) hX, jG_A (by simp (disch := omega) only [um_eq, um_ne, us_ne]) hG⟩, hI, ⟨?_, ?_⟩, hR⟩, fun F Q q => ?_, fun F Q q => ?_⟩
    · refine ⟨hK.1, ?_, fun j j0 j1 => ?_⟩
      · simp (disch := omega) only [um_eq, us_ne]
        exact hK.2.1
      · simp (disch := omega) only [um_eq, us_ne] at j1
        have k3 := hK.2.1
        obtain ⟨r1, r2⟩ := hK.2.2 j j0 j1
        refine ⟨yrel_cg r1 (fun i g0 g1 => rfl) (fun s g0 g1 => ?_), ?_⟩
        · simp (disch := omega) only [um_eq, us_ne]
        · simp (disch := omega) only [um_eq, us_ne, us_at]
          omega
    · intro r g0 g1
      have e3 := hC r g0 g1
      by_cases d1 : r = M 70 0
      · subst d1
        have e5 := e3.2.2.2.2.2.2 (Int.le_refl _)
        simp (disch := omega) only [um_eq, um_ne, us_at, us_ne]
        exact ⟨⟨trivial, h1⟩, ⟨trivial, by omega⟩, e3.2.2.1, e3.2.2.2.1, e3.2.2.2.2.1, fun _ => ⟨e5.1.symm, e5.2.1.symm, e5.2.2.symm⟩, fun g => by omega⟩
      · simp (disch := omega) only [um_eq, um_ne, us_at, us_ne]
        exact ⟨e3.1, e3.2.1, e3.2.2.1, e3.2.2.2.1, e3.2.2.2.2.1, fun g => e3.2.2.2.2.2.1 (by omega), fun g => e3.2.2.2.2.2.2 (by omega)⟩
    · simp (disch := omega) only [um_eq, um_ne, us_at]
      omega
    · simp (disch := omega) only [um_eq, um_ne, us_ne]
      exact hM.2
    · simp (disch := first | omega | decide) only [mX5_addCar, mX10_addCar, mX10_putUppermost, mX10_countOn, ↓kh_c10, ↓kh_g10_0, ↓kh_g10_1, ↓kh_g10_2, ↓kh_g10_3, ↓kh_g10_4, ↓kh_g10_5, ↓kh_g10_6, ↓kh_g10_7, ↓kh_g10_8, ↓kh_g10_9, ↓kh_g10_10, ↓kh_g10_11, ↓kh_g10_12, ↓kh_p10_12, ↓kh_g10_13, ↓kh_p10_13, ↓kh_g10_14, ↓kh_p10_14, ↓kh_g10_15, ↓kh_p10_15, ↓kh_c11, ↓kh_g11_0, ↓kh_r12, ↓kh_w12, ↓kh_n12, ↓kh_r15, ↓kh_w15, ↓kh_n15, ↓kh_r16, ↓kh_w16, ↓kh_n16, ↓kh_r17, ↓kh_w17, ↓kh_n17, ↓kh_r18, ↓kh_w18, ↓kh_n18, ↓kh_r19, ↓kh_w19, ↓kh_n19, ↓kh_cp12_33, ↓kh_cp12_68, ↓kh_cp12_12, ↓kh_cp12_14, ↓kh_cp15_36, ↓kh_cp16_37, ↓kh_cp17_38, ↓kh_cp18_39, ↓kh_cp19_40, ↓be_y, ↓be_n, ↓bf_y, ↓bf_n, ↓bl_y, ↓bl_n, ↓bm_y, ↓bm_n, ↓bg_y, ↓bg_n, ↓bs_y, ↓bs_n, ↓bo_y, ↓bo_n, ↓bp_y, ↓bp_n, ↓forall_eq, ↓within_y, ↓within_n, ↓isIn_y, ↓isIn_n, and_true, true_and, and_self, us_at, us_ne, w32_id, um_eq, um_ne, um_um, uu_eq, uu_ne, uu_uu, vv_eq, vv_ne, vv_vv, ne_eq, not_false_eq_true, not_true_eq_false, reduceCtorEq, Int.reduceAdd, Int.reduceSub, Int.reduceMul, Int.reduceNeg, Nat.reduceEqDiff, or_true, true_or, true_implies, false_implies, Int.reduceLT, Int.reduceLE, Int.reduceEq, e4, t0a, Int.mul_zero, Int.add_zero]
      exact q
    · simp (disch := first | omega | decide) only [mX12_car, mX12_come, ↓rh_rcv, ↓rh_g0, ↓rh_r70, ↓rh_w70, ↓be_y, ↓be_n, ↓bf_y, ↓bf_n, ↓bl_y, ↓bl_n, ↓bm_y, ↓bm_n, ↓bg_y, ↓bg_n, ↓bs_y, ↓bs_n, ↓bo_y, ↓bo_n, ↓bp_y, ↓bp_n, ↓forall_eq, ↓within_y, ↓within_n, ↓isIn_y, ↓isIn_n, and_true, true_and, and_self, us_at, us_ne, w32_id, um_eq, um_ne, um_um, uu_eq, uu_ne, uu_uu, vv_eq, vv_ne, vv_vv, ne_eq, not_false_eq_true, not_true_eq_false, reduceCtorEq, Int.reduceAdd, Int.reduceSub, Int.reduceMul, Int.reduceNeg, Nat.reduceEqDiff, or_true, true_or, true_implies, false_implies, Int.reduceLT, Int.reduceLE, Int.reduceEq, z1, Int.mul_zero, Int.add_zero]
      exact q
  · refine ⟨-1, N, M, by omega, by omega, h, fun F Q q => ?_, fun F Q q => ?_⟩
    · simp (disch := first | omega | decide) only [mX5_addCar, mX10_addCar, ↓kh_c10, ↓kh_g10_0, ↓kh_g10_1, ↓kh_g10_2, ↓kh_g10_3, ↓kh_g10_4, ↓kh_g10_5, ↓kh_g10_6, ↓kh_g10_7, ↓kh_g10_8, ↓kh_g10_9, ↓kh_g10_10, ↓kh_g10_11, ↓kh_g10_12, ↓kh_p10_12, ↓kh_g10_13, ↓kh_p10_13, ↓kh_g10_14, ↓kh_p10_14, ↓kh_g10_15, ↓kh_p10_15, ↓kh_c11, ↓kh_g11_0, ↓kh_r12, ↓kh_w12, ↓kh_n12, ↓kh_cp12_33, ↓kh_cp12_68, ↓kh_cp12_12, ↓kh_cp12_14, ↓be_y, ↓be_n, ↓bf_y, ↓bf_n, ↓bl_y, ↓bl_n, ↓bm_y, ↓bm_n, ↓bg_y, ↓bg_n, ↓bs_y, ↓bs_n, ↓bo_y, ↓bo_n, ↓bp_y, ↓bp_n, ↓forall_eq, ↓within_y, ↓within_n, ↓isIn_y, ↓isIn_n, and_true, true_and, and_self, us_at, us_ne, w32_id, um_eq, um_ne, um_um, uu_eq, uu_ne, uu_uu, vv_eq, vv_ne, vv_vv, ne_eq, not_false_eq_true, not_true_eq_false, reduceCtorEq, Int.reduceAdd, Int.reduceSub, Int.reduceMul, Int.reduceNeg, Nat.reduceEqDiff, or_true, true_or, true_implies, false_implies, Int.reduceLT, Int.reduceLE, Int.reduceEq, e4]
      exact q
    · simp (disch := first | omega | decide) only [mX12_car, ↓rh_rcv, ↓rh_g0, ↓rh_r70, ↓rh_w70, ↓be_y, ↓be_n, ↓bf_y, ↓bf_n, ↓bl_y, ↓bl_n, ↓bm_y, ↓bm_n, ↓bg_y, ↓bg_n, ↓bs_y, ↓bs_n, ↓bo_y, ↓bo_n, ↓bp_y, ↓bp_n, ↓forall_eq, ↓within_y, ↓within_n, ↓isIn_y, ↓isIn_n, and_true, true_and, and_self, us_at, us_ne, w32_id, um_eq, um_ne, um_um, uu_eq, uu_ne, uu_uu, vv_eq, vv_ne, vv_vv, ne_eq, not_false_eq_true, not_true_eq_false, reduceCtorEq, Int.reduceAdd, Int.reduceSub, Int.reduceMul, Int.reduceNeg, Nat.reduceEqDiff, or_true, true_or, true_implies, false_implies, Int.reduceLT, Int.reduceLE, Int.reduceEq]
      exact q
set_option maxHeartbeats 4000000 in
theorem op_car (h1 : -2147483648 ≤ x1 ∧ x1 ≤ 2147483647) (h2 : -2147483648 ≤ x2 ∧ x2 ≤ 2147483647) : OP n (mX11_car 8 x1 x2) (mX12_car 69 x1 x2) := by
  refine op_to (fun G v N T u M h => ?_)
  obtain ⟨⟨hY, hK, hC, hF, hB, hT, hS, hD, hX, hG⟩, hI, hM, hL, hW, hH, hN⟩ := id h
  have hc := jY_c hY
  by_cases c : (0 ≤ x1 ∧ x1 ≤ 3) ∧ 1 ≤ x2 ∧ x2 ≤ 9
  · obtain ⟨r, N', M', r1, r2, k1, k2, k3⟩ := car_b h c.1 c.2
    refine ⟨r, v, N', u, M', Rel_up k1, fun F Q q => ?_, fun F Q q => k3 F Q q⟩
    simp (disch := first | omega | decide) only [mX11_car, ↓kh_c8, ↓kh_g8_0, ↓kh_g8_1, ↓kh_g8_2, ↓kh_g8_3, ↓kh_g8_4, ↓kh_g8_5, ↓kh_g8_6, ↓kh_g8_7, ↓kh_c10, ↓kh_g10_0, ↓kh_g10_1, ↓kh_g10_2, ↓kh_g10_3, ↓kh_g10_4, ↓kh_g10_5, ↓kh_g10_6, ↓kh_g10_7, ↓kh_g10_8, ↓kh_g10_9, ↓kh_g10_10, ↓kh_g10_11, ↓kh_g10_12, ↓kh_p10_12, ↓kh_g10_13, ↓kh_p10_13, ↓kh_g10_14, ↓kh_p10_14, ↓kh_g10_15, ↓kh_p10_15, ↓be_y, ↓be_n, ↓bf_y, ↓bf_n, ↓bl_y, ↓bl_n, ↓bm_y, ↓bm_n, ↓bg_y, ↓bg_n, ↓bs_y, ↓bs_n, ↓bo_y, ↓bo_n, ↓bp_y, ↓bp_n, ↓forall_eq, ↓within_y, ↓within_n, ↓isIn_y, ↓isIn_n, and_true, true_and, and_self, us_at, us_ne, w32_id, um_eq, um_ne, um_um, uu_eq, uu_ne, uu_uu, vv_eq, vv_ne, vv_vv, ne_eq, not_false_eq_true, not_true_eq_false, reduceCtorEq, Int.reduceAdd, Int.reduceSub, Int.reduceMul, Int.reduceNeg, Nat.reduceEqDiff, or_true, true_or, true_implies, false_implies, Int.reduceLT, Int.reduceLE, Int.reduceEq]
    exact k2 F Q q
  · refine ⟨-1, v, N, u, M, Rel_up h, fun F Q q => ?_, fun F Q q => ?_⟩
    · by_cases d0 : 0 ≤ x1 ∧ x1 ≤ 3 <;> by_cases d1 : 1 ≤ x2 ∧ x2 ≤ 9 <;> first | (exfalso; omega) | (simp (disch := omega) only [mX11_car, kh_c8, kh_g8_0, kh_g8_1, kh_g8_2, kh_g8_3, kh_g8_4, kh_g8_5, kh_g8_6, kh_g8_7, kh_c10, kh_g10_0, kh_g10_1, kh_g10_2, kh_g10_3, kh_g10_4, kh_g10_5, kh_g10_6, kh_g10_7, kh_g10_8, kh_g10_9, kh_g10_10, kh_g10_11, kh_g10_12, kh_p10_12, kh_g10_13, kh_p10_13, kh_g10_14, kh_p10_14, kh_g10_15, kh_p10_15, ↓i_pos, ↓i_neg, and_true, true_and, and_self, w32_id, us_at, us_ne, um_eq, um_ne, um_um, uu_eq, uu_ne, uu_uu, vv_eq, vv_ne, vv_vv, forall_eq, within_y, within_n, isIn_y, isIn_n, ne_eq, not_false_eq_true, not_true_eq_false, reduceCtorEq, Int.reduceAdd, Int.reduceSub, Int.reduceMul, Int.reduceNeg, Nat.reduceEqDiff, or_true, true_or, true_implies, false_implies, Int.reduceLT, Int.reduceLE, Int.reduceEq, iMax_l, iMax_r, iMin_l, iMin_r]; first | done | exact q)
    · by_cases d0 : 0 ≤ x1 ∧ x1 ≤ 3 <;> by_cases d1 : 1 ≤ x2 ∧ x2 ≤ 9 <;> first | (exfalso; omega) | (simp (disch := omega) only [mX12_car, rh_rcv, rh_g0, rh_r70, rh_w70, ↓i_pos, ↓i_neg, and_true, true_and, and_self, w32_id, us_at, us_ne, um_eq, um_ne, um_um, uu_eq, uu_ne, uu_uu, vv_eq, vv_ne, vv_vv, forall_eq, within_y, within_n, isIn_y, isIn_n, ne_eq, not_false_eq_true, not_true_eq_false, reduceCtorEq, Int.reduceAdd, Int.reduceSub, Int.reduceMul, Int.reduceNeg, Nat.reduceEqDiff, or_true, true_or, true_implies, false_implies, Int.reduceLT, Int.reduceLE, Int.reduceEq, iMax_l, iMax_r, iMin_l, iMin_r]; first | done | exact q)
end HO
section UN
variable {n : Int} {F : hp} {v : Nat → Nat → Int} {N : Nat → Int → Int} {T : Nat → Int → Option Nat} {u : Nat → Int} {M : Nat → Int → Int} {Q : Int → hp → Prop}
-- the latest step is taken back
theorem un98 {B C : Int → Int} {x : Int} (hx : 124 ≤ x ∧ x ≤ 1864) (hC : ∀ i, 124 ≤ i → C i = B i) (q : Q (C 3) (rh F u (um M 70 (cpy B C (x + 1 + 29) 1924 30)))) : ∀ (k : Nat) (i : Int), i + k = 30 → 0 ≤ i → mX12_undo_L98 Q (k + 1) 69 x i (rh F u (um M 70 (cpy B C (x + 1 + 29) 1924 i))) := by
  intro k
  induction k with
  | zero =>
    intro i hi h0
    obtain rfl : i = 30 := by omega
    rw [mX12_undo_L98]
    simp (disch := first | omega | decide) only [cpy_out, ↓rh_rcv, ↓rh_g0, ↓rh_r70, ↓rh_w70, ↓be_y, ↓be_n, ↓bf_y, ↓bf_n, ↓bl_y, ↓bl_n, ↓bm_y, ↓bm_n, ↓bg_y, ↓bg_n, ↓bs_y, ↓bs_n, ↓bo_y, ↓bo_n, ↓bp_y, ↓bp_n, ↓forall_eq, ↓within_y, ↓within_n, ↓isIn_y, ↓isIn_n, and_true, true_and, and_self, us_at, us_ne, w32_id, um_eq, um_ne, um_um, uu_eq, uu_ne, uu_uu, vv_eq, vv_ne, vv_vv, ne_eq, not_false_eq_true, not_true_eq_false, reduceCtorEq, Int.reduceAdd, Int.reduceSub, Int.reduceMul, Int.reduceNeg, Nat.reduceEqDiff, or_true, true_or, true_implies, false_implies, Int.reduceLT, Int.reduceLE, Int.reduceEq]
    exact q
  | succ k ih =>
    intro i hi h0
    rw [mX12_undo_L98]
    simp (disch := first | omega | decide) only [cpy_out, hC, ↓rh_rcv, ↓rh_g0, ↓rh_r70, ↓rh_w70, ↓be_y, ↓be_n, ↓bf_y, ↓bf_n, ↓bl_y, ↓bl_n, ↓bm_y, ↓bm_n, ↓bg_y, ↓bg_n, ↓bs_y, ↓bs_n, ↓bo_y, ↓bo_n, ↓bp_y, ↓bp_n, ↓forall_eq, ↓within_y, ↓within_n, ↓isIn_y, ↓isIn_n, and_true, true_and, and_self, us_at, us_ne, w32_id, um_eq, um_ne, um_um, uu_eq, uu_ne, uu_uu, vv_eq, vv_ne, vv_vv, ne_eq, not_false_eq_true, not_true_eq_false, reduceCtorEq, Int.reduceAdd, Int.reduceSub, Int.reduceMul, Int.reduceNeg, Nat.reduceEqDiff, or_true, true_or, true_implies, false_implies, Int.reduceLT, Int.reduceLE, Int.reduceEq]
    rw [cpy_step (by omega)]
    exact ih (i + 1) (by omega) (by omega)
theorem un36 {B : Int → Int} {x : Int} (hx : 124 ≤ x ∧ x ≤ 1864) (q : ∃ k, mX12_undo_L74 Q k 69 x (B x) (rh F u (um M 70 (cpy B B (x + 1) 7 29)))) : ∀ (k : Nat) (i : Int), i + k = 29 → 0 ≤ i → mX12_undo_L36 Q (k + 1) 69 x i (rh F u (um M 70 (cpy B B (x + 1) 7 i))) := by
  intro k
  induction k with
  | zero =>
    intro i hi h0
    obtain rfl : i = 29 := by omega
    rw [mX12_undo_L36]
    simp (disch := first | omega | decide) only [cpy_out, ↓rh_rcv, ↓rh_g0, ↓rh_r70, ↓rh_w70, ↓be_y, ↓be_n, ↓bf_y, ↓bf_n, ↓bl_y, ↓bl_n, ↓bm_y, ↓bm_n, ↓bg_y, ↓bg_n, ↓bs_y, ↓bs_n, ↓bo_y, ↓bo_n, ↓bp_y, ↓bp_n, ↓forall_eq, ↓within_y, ↓within_n, ↓isIn_y, ↓isIn_n, and_true, true_and, and_self, us_at, us_ne, w32_id, um_eq, um_ne, um_um, uu_eq, uu_ne, uu_uu, vv_eq, vv_ne, vv_vv, ne_eq, not_false_eq_true, not_true_eq_false, reduceCtorEq, Int.reduceAdd, Int.reduceSub, Int.reduceMul, Int.reduceNeg, Nat.reduceEqDiff, or_true, true_or, true_implies, false_implies, Int.reduceLT, Int.reduceLE, Int.reduceEq]
    exact q
  | succ k ih =>
    intro i hi h0
    rw [mX12_undo_L36]
    simp (disch := first | omega | decide) only [cpy_out, ↓rh_rcv, ↓rh_g0, ↓rh_r70, ↓rh_w70, ↓be_y, ↓be_n, ↓bf_y, ↓bf_n, ↓bl_y, ↓bl_n, ↓bm_y, ↓bm_n, ↓bg_y, ↓bg_n, ↓bs_y, ↓bs_n, ↓bo_y, ↓bo_n, ↓bp_y, ↓bp_n, ↓forall_eq, ↓within_y, ↓within_n, ↓isIn_y, ↓isIn_n, and_true, true_and, and_self, us_at, us_ne, w32_id, um_eq, um_ne, um_um, uu_eq, uu_ne, uu_uu, vv_eq, vv_ne, vv_vv, ne_eq, not_false_eq_true, not_true_eq_false, reduceCtorEq, Int.reduceAdd, Int.reduceSub, Int.reduceMul, Int.reduceNeg, Nat.reduceEqDiff, or_true, true_or, true_implies, false_implies, Int.reduceLT, Int.reduceLE, Int.reduceEq]
    rw [cpy_step (by omega)]
    exact ih (i + 1) (by omega) (by omega)
theorem cpy_us {f g : Int → Int} {sp dp m i y : Int} (h : i < dp ∨ dp + m ≤ i) : cpy f (us g i y) sp dp m = us (cpy f g sp dp m) i y := by
  funext j
  by_cases d : j = i
  · subst d
    rw [us_eq, cpy_out h, us_eq]
  · rw [us_ne d]
    by_cases e : dp ≤ j ∧ j < dp + m
    · rw [cpy_in e, cpy_in e]
    · rw [cpy_out (by omega), cpy_out (by omega), us_ne d]
theorem undo_l {B : Int → Int} {x : Int} (hx : 124 ≤ x ∧ x ≤ 1864) (hB : 0 ≤ B 0 ∧ B 0 ≤ 5) : ∀ (k : Nat) (c : Int) (Y C : Int → Int), c + k = B 0 → 0 ≤ c → (∀ i, ¬ (7 ≤ i ∧ i < 36) → C i = B i) → jY Y (us (cpy B C (x + 1 + 29) 1924 30) 0 c) → ∃ Y' A', jY Y' A' ∧ (∀ i, ¬ ((7 ≤ i ∧ i < 36) ∨ (1924 ≤ i ∧ i < 1954)) → A' i = B i) ∧ (∀ (F : hp) (Q : Int → hp → Prop), Q 1 (kh F v (um N 12 Y') T) → mX6_takeBack_L61 Q (k + 1) (some 11) (B 0) c (kh F v (um N 12 Y) T)) ∧ (∀ (F : hp) (Q : Int → hp → Prop), Q (B 3) (rh F u (um M 70 A')) → mX12_undo_L74 Q (k + 1) 69 x c (rh F u (um M 70 C))) := by
  intro k
  induction k with
  | zero =>
    intro c Y C hc h0 hC hY
    have c0 : C 0 = B 0 := hC 0 (by omega)
    have e : us (cpy B C (x + 1 + 29) 1924 30) 0 c = cpy B C (x + 1 + 29) 1924 30 := by
      have := us_self (cpy B C (x + 1 + 29) 1924 30) 0
      rw [show cpy B C (x + 1 + 29) 1924 30 0 = c by rw [cpy_out (by omega)]; omega] at this
      exact this
    rw [e] at hY
    refine ⟨Y, cpy B C (x + 1 + 29) 1924 30, hY, fun i hi => by rw [cpy_out (by omega)]; exact hC i (by omega), fun F Q q => ?_, fun F Q q => ?_⟩
    · rw [mX6_takeBack_L61]
      simp (disch := first | omega | decide) only [w32_id, ↓kh_c11, ↓kh_g11_0, ↓kh_r12, ↓kh_w12, ↓kh_n12, ↓kh_cp12_33, ↓kh_cp12_68, ↓kh_cp12_12, ↓kh_cp12_14, ↓be_y, ↓be_n, ↓bf_y, ↓bf_n, ↓bl_y, ↓bl_n, ↓bm_y, ↓bm_n, ↓bg_y, ↓bg_n, ↓bs_y, ↓bs_n, ↓bo_y, ↓bo_n, ↓bp_y, ↓bp_n, ↓forall_eq, ↓within_y, ↓within_n, ↓isIn_y, ↓isIn_n, and_true, true_and, and_self, us_at, us_ne, w32_id, um_eq, um_ne, um_um, uu_eq, uu_ne, uu_uu, vv_eq, vv_ne, vv_vv, ne_eq, not_false_eq_true, not_true_eq_false, reduceCtorEq, Int.reduceAdd, Int.reduceSub, Int.reduceMul, Int.reduceNeg, Nat.reduceEqDiff, or_true, true_or, true_implies, false_implies, Int.reduceLT, Int.reduceLE, Int.reduceEq]
      exact q
    · rw [mX12_undo_L74]
      simp (disch := first | omega | decide) only [c0, ↓rh_rcv, ↓rh_g0, ↓rh_r70, ↓rh_w70, ↓be_y, ↓be_n, ↓bf_y, ↓bf_n, ↓bl_y, ↓bl_n, ↓bm_y, ↓bm_n, ↓bg_y, ↓bg_n, ↓bs_y, ↓bs_n, ↓bo_y, ↓bo_n, ↓bp_y, ↓bp_n, ↓forall_eq, ↓within_y, ↓within_n, ↓isIn_y, ↓isIn_n, and_true, true_and, and_self, us_at, us_ne, w32_id, um_eq, um_ne, um_um, uu_eq, uu_ne, uu_uu, vv_eq, vv_ne, vv_vv, ne_eq, not_false_eq_true, not_true_eq_false, reduceCtorEq, Int.reduceAdd, Int.reduceSub, Int.reduceMul, Int.reduceNeg, Nat.reduceEqDiff, or_true, true_or, true_implies, false_implies, Int.reduceLT, Int.reduceLE, Int.reduceEq]
      refine ⟨31, ?_⟩
      have g := un98 (F := F) (u := u) (M := M) (Q := Q) (B := B) (C := C) hx (fun i hi => hC i (by omega)) (by rw [hC 3 (by omega)]; exact q) 30 0 (by omega) (by omega)
      rw [cpy_0] at g
      exact g
  | succ k ih =>
    intro c Y C hc h0 hC hY
    have c0 : C 0 = B 0 := hC 0 (by omega)
    have ky := jY_k hY
    have d := jY_d hY
    have y4 : Y 4 = c := by rw [d.1.2.2.2.2.1, us_eq]
    have y11 := d.2.2.1 0 (by omega) (by omega)
    simp (disch := omega) only [Int.reduceAdd, us_ne, cpy_out] at y11
    have y11a := y11.1
    have ys := yok_sum ky
    have nt : C 12 < 5 := by
      have a := ky.2.2.2.2.2.2.2.2.1 1 (by omega) (by omega)
      have b := ky.2.2.2.2.2.2.2.2.1 2 (by omega) (by omega)
      simp only [Int.reduceAdd] at a b
      omega
    have z1 : us C (15 + C 12) c 12 = C 12 := us_ne (by omega)
    have hY' : jY (us (us (us Y 4 (c + 1)) (14 + C 12) c) 11 (C 12 + 1)) (us (cpy B (us (us C (15 + C 12) c) 12 (C 12 + 1)) (x + 1 + 29) 1924 30) 0 (c + 1)) := by
      have p1 := pR_n (t := 0) (x := C 12 + 1) (pR_t (t := 0) (i := C 12) (x := c) (pR_c (x := c + 1) (jY_p hY)) (by omega) (by omega)) (by omega)
      simp only [Int.mul_zero, Int.add_zero] at p1
      rw [us_us, us_comm (i := 0) (j := 15 + C 12) (by omega), us_comm (i := 0) (j := 12) (by omega)] at p1
      rw [cpy_us (by omega), cpy_us (by omega)]
      refine jY_mk p1 ?_
      have y := yok_add ky (by omega)
      rw [y4, y11a] at y
      exact y
    obtain ⟨Y', A', g1, g2, g3, g4⟩ := ih (c + 1) _ (us (us C (15 + C 12) c) 12 (C 12 + 1)) (by omega) (by omega) (fun i hi => by rw [us_ne (by omega), us_ne (by omega)]; exact hC i hi) hY'
    refine ⟨Y', A', g1, g2, fun F Q q => ?_, fun F Q q => ?_⟩
    · rw [mX6_takeBack_L61]
      simp (disch := first | omega | decide) only [mX10_addCar, mX10_putUppermost, mX10_countOn, ↓kh_c11, ↓kh_g11_0, ↓kh_r12, ↓kh_w12, ↓kh_n12, ↓kh_cp12_33, ↓kh_cp12_68, ↓kh_cp12_12, ↓kh_cp12_14, ↓be_y, ↓be_n, ↓bf_y, ↓bf_n, ↓bl_y, ↓bl_n, ↓bm_y, ↓bm_n, ↓bg_y, ↓bg_n, ↓bs_y, ↓bs_n, ↓bo_y, ↓bo_n, ↓bp_y, ↓bp_n, ↓forall_eq, ↓within_y, ↓within_n, ↓isIn_y, ↓isIn_n, and_true, true_and, and_self, us_at, us_ne, w32_id, um_eq, um_ne, um_um, uu_eq, uu_ne, uu_uu, vv_eq, vv_ne, vv_vv, ne_eq, not_false_eq_true, not_true_eq_false, reduceCtorEq, Int.reduceAdd, Int.reduceSub, Int.reduceMul, Int.reduceNeg, Nat.reduceEqDiff, or_true, true_or, true_implies, false_implies, Int.reduceLT, Int.reduceLE, Int.reduceEq, y4, y11a, Int.mul_zero, Int.add_zero]
      exact g3 F Q q
    · rw [mX12_undo_L74]
      simp (disch := first | omega | decide) only [mX12_come, ↓rh_rcv, ↓rh_g0, ↓rh_r70, ↓rh_w70, ↓be_y, ↓be_n, ↓bf_y, ↓bf_n, ↓bl_y, ↓bl_n, ↓bm_y, ↓bm_n, ↓bg_y, ↓bg_n, ↓bs_y, ↓bs_n, ↓bo_y, ↓bo_n, ↓bp_y, ↓bp_n, ↓forall_eq, ↓within_y, ↓within_n, ↓isIn_y, ↓isIn_n, and_true, true_and, and_self, us_at, us_ne, w32_id, um_eq, um_ne, um_um, uu_eq, uu_ne, uu_uu, vv_eq, vv_ne, vv_vv, ne_eq, not_false_eq_true, not_true_eq_false, reduceCtorEq, Int.reduceAdd, Int.reduceSub, Int.reduceMul, Int.reduceNeg, Nat.reduceEqDiff, or_true, true_or, true_implies, false_implies, Int.reduceLT, Int.reduceLE, Int.reduceEq, c0, z1, Int.mul_zero, Int.add_zero]
      exact g4 F Q q
set_option maxHeartbeats 4000000 in
theorem op_undo  : OP n (mX11_undo 8) (mX12_undo 69) := by
  refine op_to (fun G v N T u M h => ?_)
  obtain ⟨⟨hY, hK, hC, hF, hB, hT, hS, hD, hX, hG⟩, hI, hM, hL, hW, hH, hN⟩ := id h
  have hc := jY_c hY
  have k3 := hK.2.1
  have k3a := k3.1
  by_cases c : M 70 3 = 0
  · refine ⟨-1, v, N, u, M, Rel_up h, fun F Q q => ?_, fun F Q q => ?_⟩
    · simp (disch := first | omega | decide) only [mX11_undo, mX6_takeBack, ↓kh_c8, ↓kh_g8_0, ↓kh_g8_1, ↓kh_g8_2, ↓kh_g8_3, ↓kh_g8_4, ↓kh_g8_5, ↓kh_g8_6, ↓kh_g8_7, ↓kh_c10, ↓kh_g10_0, ↓kh_g10_1, ↓kh_g10_2, ↓kh_g10_3, ↓kh_g10_4, ↓kh_g10_5, ↓kh_g10_6, ↓kh_g10_7, ↓kh_g10_8, ↓kh_g10_9, ↓kh_g10_10, ↓kh_g10_11, ↓kh_g10_12, ↓kh_p10_12, ↓kh_g10_13, ↓kh_p10_13, ↓kh_g10_14, ↓kh_p10_14, ↓kh_g10_15, ↓kh_p10_15, ↓kh_c11, ↓kh_g11_0, ↓kh_c13, ↓kh_g13_0, ↓kh_g13_1, ↓kh_p13_1, ↓kh_g13_2, ↓kh_p13_2, ↓be_y, ↓be_n, ↓bf_y, ↓bf_n, ↓bl_y, ↓bl_n, ↓bm_y, ↓bm_n, ↓bg_y, ↓bg_n, ↓bs_y, ↓bs_n, ↓bo_y, ↓bo_n, ↓bp_y, ↓bp_n, ↓forall_eq, ↓within_y, ↓within_n, ↓isIn_y, ↓isIn_n, and_true, true_and, and_self, us_at, us_ne, w32_id, um_eq, um_ne, um_um, uu_eq, uu_ne, uu_uu, vv_eq, vv_ne, vv_vv, ne_eq, not_false_eq_true, not_true_eq_false, reduceCtorEq, Int.reduceAdd, Int.reduceSub, Int.reduceMul, Int.reduceNeg, Nat.reduceEqDiff, or_true, true_or, true_implies, false_implies, Int.reduceLT, Int.reduceLE, Int.reduceEq, k3a]
      exact q
    · simp (disch := first | omega | decide) only [mX12_undo, ↓rh_rcv, ↓rh_g0, ↓rh_r70, ↓rh_w70, ↓be_y, ↓be_n, ↓bf_y, ↓bf_n, ↓bl_y, ↓bl_n, ↓bm_y, ↓bm_n, ↓bg_y, ↓bg_n, ↓bs_y, ↓bs_n, ↓bo_y, ↓bo_n, ↓bp_y, ↓bp_n, ↓forall_eq, ↓within_y, ↓within_n, ↓isIn_y, ↓isIn_n, and_true, true_and, and_self, us_at, us_ne, w32_id, um_eq, um_ne, um_um, uu_eq, uu_ne, uu_uu, vv_eq, vv_ne, vv_vv, ne_eq, not_false_eq_true, not_true_eq_false, reduceCtorEq, Int.reduceAdd, Int.reduceSub, Int.reduceMul, Int.reduceNeg, Nat.reduceEqDiff, or_true, true_or, true_implies, false_implies, Int.reduceLT, Int.reduceLE, Int.reduceEq]
      exact q
  · obtain ⟨r1, r2⟩ := hK.2.2 (M 70 3 - 1) (by omega) (by omega)
    have p : 0 ≤ (v 13 1 + (M 70 3 - 1)) % 30 ∧ (v 13 1 + (M 70 3 - 1)) % 30 < 30 := by omega
    have ke := hK.1
    have e4 := hc.1
    generalize hx : 124 + 60 * (M 70 3 - 1) = x at r1 r2
    have hxb : 124 ≤ x ∧ x ≤ 1864 := by omega
    have ax : 0 ≤ M 70 x := by
      have a : N 14 (60 * ((v 13 1 + (M 70 3 - 1)) % 30) + 4) = zp 4 (M 70 (x + zs 4)) := r1.1 4 (by omega) (by omega)
      have b : 0 ≤ N 14 (60 * ((v 13 1 + (M 70 3 - 1)) % 30) + 4) ∧ N 14 (60 * ((v 13 1 + (M 70 3 - 1)) % 30) + 4) ≤ 5 := r1.2.1.2.2.2.2.1
      have e : zp 4 (M 70 (x + zs 4)) = M 70 x := by
        show M 70 (x + zs 4) = _
        rw [show zs 4 = 0 from rfl, Int.add_zero]
      omega
    have ay : cpy (N 14) (N 12) ((v 13 1 + (M 70 3 - 1)) % 30 * 60) 0 60 4 = M 70 x := by
      have a : N 14 (60 * ((v 13 1 + (M 70 3 - 1)) % 30) + 4) = zp 4 (M 70 (x + zs 4)) := r1.1 4 (by omega) (by omega)
      rw [cpy_in (by omega)]
      have e : zp 4 (M 70 (x + zs 4)) = M 70 x := by
        show M 70 (x + zs 4) = _
        rw [show zs 4 = 0 from rfl, Int.add_zero]
      rw [← e, ← a]
      congr 1
      omega
    have hj : jY (cpy (N 14) (N 12) ((v 13 1 + (M 70 3 - 1)) % 30 * 60) 0 60) (us (cpy (us (M 70) 3 (M 70 3 - 1)) (cpy (us (M 70) 3 (M 70 3 - 1)) (us (M 70) 3 (M 70 3 - 1)) (x + 1) 7 29) (x + 1 + 29) 1924 30) 0 (M 70 x)) := by
      refine yrel_cg r1 (fun i g0 g1 => ?_) (fun s g0 g1 => ?_)
      · rw [cpy_in (by omega)]
        congr 1
        omega
      · by_cases d : s = 0
        · subst d
          show us _ 0 _ (za 0) = _
          rw [show za 0 = 0 from rfl, us_eq, Int.add_zero]
        · by_cases d2 : s < 30
          · rw [za_1 (by omega), us_ne (by omega), cpy_out (by omega), cpy_in (by omega), us_ne (by omega)]
            congr 1
            omega
          · rw [za_2 (by omega), us_ne (by omega), cpy_in (by omega), us_ne (by omega)]
            congr 1
            omega
    have b0 : us (M 70) 3 (M 70 3 - 1) 0 = M 70 0 := us_ne (by omega)
    have bx : us (M 70) 3 (M 70 3 - 1) x = M 70 x := us_ne (by omega)
    have b3 : us (M 70) 3 (M 70 3 - 1) 3 = M 70 3 - 1 := us_eq _ _ _
    obtain ⟨Y', A', g1, g2, g3, g4⟩ := undo_l (v := vv v 13 2 (M 70 3 - 1)) (N := N) (T := T) (u := u) (M := M) (B := us (M 70) 3 (M 70 3 - 1)) (x := x) hxb (by rw [b0]; omega) (M 70 0 - M 70 x).toNat (M 70 x) _ (cpy (us (M 70) 3 (M 70 3 - 1)) (us (M 70) 3 (M 70 3 - 1)) (x + 1) 7 29) (by rw [b0]; omega) ax (fun i hi => cpy_out (by omega)) hj
    rw [b0] at g3
    rw [b3] at g4
    have ag : ∀ i, ¬ (i = 3 ∨ (7 ≤ i ∧ i < 36) ∨ (1924 ≤ i ∧ i < 1954)) → A' i = M 70 i := fun i hi => by rw [g2 i (by omega), us_ne (by omega)]
    have a3 : A' 3 = M 70 3 - 1 := by rw [g2 3 (by omega), b3]
    refine ⟨M 70 3 - 1, vv v 13 2 (M 70 3 - 1), um N 12 Y', u, um M 70 A', Rel_up ⟨⟨g1, ⟨hK.1, ?_, fun j j0 j1 => ?_⟩, jC_A (fun i hi => ag i (by omega)) hC, jF_A (fun i hi => ag i (by omega)) hF, jB_A (fun i hi => ag i (by omega)) hB, jT_A (fun i hi => ag i (by omega)) hT, jS_A (fun i hi => ag i (by omega)) hS, jD_A (fun i hi => ag i (by omega)) hD, jX_A (fun i hi => ag i (by omega)) hX, jG_A (ag 1 (by omega)) hG⟩, hI, ⟨by show _ ≤ A' 0; rw [ag 0 (by omega)]; exact hM.1, by show _ ≤ A' 1; rw [ag 1 (by omega)]; exact hM.2⟩, hL, hW, hH, hN⟩, fun F Q q => ?_, fun F Q q => ?_⟩
    · show vv v 13 2 (M 70 3 - 1) 13 2 = A' 3 ∧ 0 ≤ A' 3 ∧ A' 3 ≤ 30
      rw [a3]
      exact ⟨rfl, by omega, by omega⟩
    · have j1 : j < A' 3 := j1
      rw [a3] at j1
      obtain ⟨s1, s2⟩ := hK.2.2 j j0 (by omega)
      refine ⟨yrel_cg s1 (fun i g0 g1 => rfl) (fun s g0 g1 => ?_), ?_⟩
      · show A' _ = _
        rw [ag _ (by omega)]
      · show A' _ ≤ A' 0
        rw [ag _ (by omega), ag 0 (by omega)]
        exact s2
    · simp (disch := first | omega | decide) only [mX11_undo, mX6_takeBack, mX10_countCars, ↓kh_c8, ↓kh_g8_0, ↓kh_g8_1, ↓kh_g8_2, ↓kh_g8_3, ↓kh_g8_4, ↓kh_g8_5, ↓kh_g8_6, ↓kh_g8_7, ↓kh_c10, ↓kh_g10_0, ↓kh_g10_1, ↓kh_g10_2, ↓kh_g10_3, ↓kh_g10_4, ↓kh_g10_5, ↓kh_g10_6, ↓kh_g10_7, ↓kh_g10_8, ↓kh_g10_9, ↓kh_g10_10, ↓kh_g10_11, ↓kh_g10_12, ↓kh_p10_12, ↓kh_g10_13, ↓kh_p10_13, ↓kh_g10_14, ↓kh_p10_14, ↓kh_g10_15, ↓kh_p10_15, ↓kh_c11, ↓kh_g11_0, ↓kh_r12, ↓kh_w12, ↓kh_n12, ↓kh_c13, ↓kh_g13_0, ↓kh_g13_1, ↓kh_p13_1, ↓kh_g13_2, ↓kh_p13_2, ↓kh_r14, ↓kh_w14, ↓kh_n14, ↓kh_cp12_33, ↓kh_cp12_68, ↓kh_cp12_12, ↓kh_cp12_14, ↓kh_cp14_12, ↓kh_cp14_35, ↓be_y, ↓be_n, ↓bf_y, ↓bf_n, ↓bl_y, ↓bl_n, ↓bm_y, ↓bm_n, ↓bg_y, ↓bg_n, ↓bs_y, ↓bs_n, ↓bo_y, ↓bo_n, ↓bp_y, ↓bp_n, ↓forall_eq, ↓within_y, ↓within_n, ↓isIn_y, ↓isIn_n, and_true, true_and, and_self, us_at, us_ne, w32_id, um_eq, um_ne, um_um, uu_eq, uu_ne, uu_uu, vv_eq, vv_ne, vv_vv, ne_eq, not_false_eq_true, not_true_eq_false, reduceCtorEq, Int.reduceAdd, Int.reduceSub, Int.reduceMul, Int.reduceNeg, Nat.reduceEqDiff, or_true, true_or, true_implies, false_implies, Int.reduceLT, Int.reduceLE, Int.reduceEq, k3a, tm, e4, ay]
      refine ⟨_, g3 F _ ?_⟩
      simp (disch := first | omega | decide) only [w32_id, ↓kh_c8, ↓kh_g8_0, ↓kh_g8_1, ↓kh_g8_2, ↓kh_g8_3, ↓kh_g8_4, ↓kh_g8_5, ↓kh_g8_6, ↓kh_g8_7, ↓kh_c10, ↓kh_g10_0, ↓kh_g10_1, ↓kh_g10_2, ↓kh_g10_3, ↓kh_g10_4, ↓kh_g10_5, ↓kh_g10_6, ↓kh_g10_7, ↓kh_g10_8, ↓kh_g10_9, ↓kh_g10_10, ↓kh_g10_11, ↓kh_g10_12, ↓kh_p10_12, ↓kh_g10_13, ↓kh_p10_13, ↓kh_g10_14, ↓kh_p10_14, ↓kh_g10_15, ↓kh_p10_15, ↓kh_c13, ↓kh_g13_0, ↓kh_g13_1, ↓kh_p13_1, ↓kh_g13_2, ↓kh_p13_2, ↓be_y, ↓be_n, ↓bf_y, ↓bf_n, ↓bl_y, ↓bl_n, ↓bm_y, ↓bm_n, ↓bg_y, ↓bg_n, ↓bs_y, ↓bs_n, ↓bo_y, ↓bo_n, ↓bp_y, ↓bp_n, ↓forall_eq, ↓within_y, ↓within_n, ↓isIn_y, ↓isIn_n, and_true, true_and, and_self, us_at, us_ne, w32_id, um_eq, um_ne, um_um, uu_eq, uu_ne, uu_uu, vv_eq, vv_ne, vv_vv, ne_eq, not_false_eq_true, not_true_eq_false, reduceCtorEq, Int.reduceAdd, Int.reduceSub, Int.reduceMul, Int.reduceNeg, Nat.reduceEqDiff, or_true, true_or, true_implies, false_implies, Int.reduceLT, Int.reduceLE, Int.reduceEq]
      exact q
    · simp (disch := first | omega | decide) only [mX12_undo, ↓rh_rcv, ↓rh_g0, ↓rh_r70, ↓rh_w70, ↓be_y, ↓be_n, ↓bf_y, ↓bf_n, ↓bl_y, ↓bl_n, ↓bm_y, ↓bm_n, ↓bg_y, ↓bg_n, ↓bs_y, ↓bs_n, ↓bo_y, ↓bo_n, ↓bp_y, ↓bp_n, ↓forall_eq, ↓within_y, ↓within_n, ↓isIn_y, ↓isIn_n, and_true, true_and, and_self, us_at, us_ne, w32_id, um_eq, um_ne, um_um, uu_eq, uu_ne, uu_uu, vv_eq, vv_ne, vv_vv, ne_eq, not_false_eq_true, not_true_eq_false, reduceCtorEq, Int.reduceAdd, Int.reduceSub, Int.reduceMul, Int.reduceNeg, Nat.reduceEqDiff, or_true, true_or, true_implies, false_implies, Int.reduceLT, Int.reduceLE, Int.reduceEq, hx]
      refine ⟨30, ?_⟩
      have g := un36 (F := F) (u := u) (M := M) (Q := Q) (B := us (M 70) 3 (M 70 3 - 1)) (x := x) hxb ⟨_, by rw [bx]; exact g4 F Q q⟩ 29 0 (by omega) (by omega)
      rw [cpy_0] at g
      exact g
end UN
