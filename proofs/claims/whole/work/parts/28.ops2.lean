section O2
variable {n x1 x2 x3 : Int}
set_option maxHeartbeats 4000000 in
theorem op_trip (h1 : -2147483648 ≤ x1 ∧ x1 ≤ 2147483647) (h2 : -2147483648 ≤ x2 ∧ x2 ≤ 2147483647) (h3 : -2147483648 ≤ x3 ∧ x3 ≤ 2147483647) : OP n (mX11_trip 8 x1 x2 x3) (mX12_trip 69 x1 x2 x3) := by
  refine op_to (fun G v N T u M h => ?_)
  obtain ⟨⟨hY, hK, hC, hF, hB, hT, hS, hD, hX, hG⟩, hI, hM, hL, hW, hH, hN⟩ := id h
  have hc := jY_c hY
  obtain ⟨t1, t2, t3⟩ := hT
  by_cases c0 : x1 = -1
  · refine ⟨0, vv v 21 2 0, N, u, um M 70 (us (M 70) 4 0), ⟨⟨jY_A (fun i hi => by simp (disch := omega) only [um_eq, um_ne, us_ne]) hY, jK_A (fun i hi => by simp (disch := omega) only [um_eq, um_ne, us_ne]) hK, jC_A (fun i hi => by simp (disch := omega) only [um_eq, um_ne, us_ne]) hC, jF_A (fun i hi => by simp (disch := omega) only [um_eq, um_ne, us_ne]) hF, jB_up (jB_A (fun i hi => by simp (disch := omega) only [um_eq, um_ne, us_ne]) hB), ⟨t1, ⟨rfl, by simp (disch := omega) only [um_eq, us_at]; omega, by simp (disch := omega) only [um_eq, us_at]; omega⟩, fun i g0 g1 => by simp (disch := omega) only [um_eq, us_ne]; exact t3 i g0 g1⟩, jS_A (fun i hi => by simp (disch := omega) only [um_eq, um_ne, us_ne]) hS, jD_A (fun i hi => by simp (disch := omega) only [um_eq, um_ne, us_ne]) hD, jX_A (fun i hi => by simp (disch := omega) only [um_eq, um_ne, us_ne]) hX, jG_A (by simp (disch := omega) only [um_eq, um_ne, us_ne]) hG⟩, ⟨hI.1, hI.2.1, hI.2.2.1, hI.2.2.2.1, jB_up hI.2.2.2.2.1, hI.2.2.2.2.2⟩, ⟨by simp (disch := omega) only [um_eq, um_ne, us_ne]; exact hM.1, by simp (disch := omega) only [um_eq, um_ne, us_ne]; exact hM.2⟩, hL, hW, hH, hN⟩, fun F Q q => ?_, fun F Q q => ?_⟩
    · simp (disch := omega) only [mX11_trip, mX7_empty, kh_c8, kh_g8_0, kh_g8_1, kh_g8_2, kh_g8_3, kh_g8_4, kh_g8_5, kh_g8_6, kh_g8_7, kh_c10, kh_g10_0, kh_g10_1, kh_g10_2, kh_g10_3, kh_g10_4, kh_g10_5, kh_g10_6, kh_g10_7, kh_g10_8, kh_g10_9, kh_g10_10, kh_g10_11, kh_g10_12, kh_p10_12, kh_g10_13, kh_p10_13, kh_g10_14, kh_p10_14, kh_g10_15, kh_p10_15, kh_c21, kh_g21_0, kh_g21_1, kh_p21_1, kh_g21_2, kh_p21_2, ↓i_pos, ↓i_neg, and_true, true_and, and_self, w32_id, us_at, us_ne, um_eq, um_ne, um_um, uu_eq, uu_ne, uu_uu, vv_eq, vv_ne, vv_vv, forall_eq, within_y, within_n, isIn_y, isIn_n, ne_eq, not_false_eq_true, not_true_eq_false, reduceCtorEq, Int.reduceAdd, Int.reduceSub, Int.reduceMul, Int.reduceNeg, Nat.reduceEqDiff, or_true, true_or, true_implies, false_implies, Int.reduceLT, Int.reduceLE, Int.reduceEq, iMax_l, iMax_r, iMin_l, iMin_r]
      exact q
    · simp (disch := omega) only [mX12_trip, rh_rcv, rh_g0, rh_r70, rh_w70, ↓i_pos, ↓i_neg, and_true, true_and, and_self, w32_id, us_at, us_ne, um_eq, um_ne, um_um, uu_eq, uu_ne, uu_uu, vv_eq, vv_ne, vv_vv, forall_eq, within_y, within_n, isIn_y, isIn_n, ne_eq, not_false_eq_true, not_true_eq_false, reduceCtorEq, Int.reduceAdd, Int.reduceSub, Int.reduceMul, Int.reduceNeg, Nat.reduceEqDiff, or_true, true_or, true_implies, false_implies, Int.reduceLT, Int.reduceLE, Int.reduceEq, iMax_l, iMax_r, iMin_l, iMin_r]
      exact q
  by_cases c : ((0 ≤ x1 ∧ x1 ≤ 30) ∧ (x1 ≤ x2 ∧ x2 ≤ 30) ∧ 1 ≤ x3 ∧ x3 ≤ 9) ∧ M 70 4 < 8
  · refine ⟨M 70 4 + 1, vv v 21 2 (M 70 4 + 1), um N 22 (us (us (us (N 22) (3 * M 70 4) x1) (3 * M 70 4 + 1) x2) (3 * M 70 4 + 2) x3), u, um M 70 (us (us (us (us (M 70) (67 + 3 * M 70 4) x1) (67 + 3 * M 70 4 + 1) x2) (67 + 3 * M 70 4 + 2) x3) 4 (M 70 4 + 1)), ⟨⟨jY_A (fun i hi => by simp (disch := omega) only [um_eq, um_ne, us_ne]) hY, jK_A (fun i hi => by simp (disch := omega) only [um_eq, um_ne, us_ne]) hK, jC_A (fun i hi => by simp (disch := omega) only [um_eq, um_ne, us_ne]) hC, jF_A (fun i hi => by simp (disch := omega) only [um_eq, um_ne, us_ne]) hF, jB_up (jB_A (fun i hi => by simp (disch := omega) only [um_eq, um_ne, us_ne]) hB), ⟨t1, ⟨rfl, by simp (disch := omega) only [um_eq, us_at]; omega, by simp (disch := omega) only [um_eq, us_at]; omega⟩, fun i g0 g1 => ?_⟩, jS_A (fun i hi => by simp (disch := omega) only [um_eq, um_ne, us_ne]) hS, jD_A (fun i hi => by simp (disch := omega) only [um_eq, um_ne, us_ne]) hD, jX_A (fun i hi => by simp (disch := omega) only [um_eq, um_ne, us_ne]) hX, jG_A (by simp (disch := omega) only [um_eq, um_ne, us_ne]) hG⟩, ⟨hI.1, hI.2.1, hI.2.2.1, hI.2.2.2.1, jB_up hI.2.2.2.2.1, hI.2.2.2.2.2⟩, ⟨by simp (disch := omega) only [um_eq, um_ne, us_ne]; exact hM.1, by simp (disch := omega) only [um_eq, um_ne, us_ne]; exact hM.2⟩, hL, hW, hH, hN⟩, fun F Q q => ?_, fun F Q q => ?_⟩
    · have t4 := t3 i g0 g1
      obtain d | d | d | d : i = 3 * M 70 4 ∨ i = 3 * M 70 4 + 1 ∨ i = 3 * M 70 4 + 2 ∨ (i < 3 * M 70 4 ∨ 3 * M 70 4 + 2 < i) := by omega
      all_goals
        simp (disch := omega) only [um_eq, us_at, us_ne, true_and, and_true]
        omega
    · simp (disch := omega) only [mX11_trip, mX7_add, kh_c8, kh_g8_0, kh_g8_1, kh_g8_2, kh_g8_3, kh_g8_4, kh_g8_5, kh_g8_6, kh_g8_7, kh_c10, kh_g10_0, kh_g10_1, kh_g10_2, kh_g10_3, kh_g10_4, kh_g10_5, kh_g10_6, kh_g10_7, kh_g10_8, kh_g10_9, kh_g10_10, kh_g10_11, kh_g10_12, kh_p10_12, kh_g10_13, kh_p10_13, kh_g10_14, kh_p10_14, kh_g10_15, kh_p10_15, kh_c21, kh_g21_0, kh_g21_1, kh_p21_1, kh_g21_2, kh_p21_2, kh_r22, kh_w22, kh_n22, kh_cp22_43, ↓i_pos, ↓i_neg, and_true, true_and, and_self, w32_id, us_at, us_ne, um_eq, um_ne, um_um, uu_eq, uu_ne, uu_uu, vv_eq, vv_ne, vv_vv, forall_eq, within_y, within_n, isIn_y, isIn_n, ne_eq, not_false_eq_true, not_true_eq_false, reduceCtorEq, Int.reduceAdd, Int.reduceSub, Int.reduceMul, Int.reduceNeg, Nat.reduceEqDiff, or_true, true_or, true_implies, false_implies, Int.reduceLT, Int.reduceLE, Int.reduceEq, iMax_l, iMax_r, iMin_l, iMin_r, t1, t2.1]
      exact q
    · simp (disch := omega) only [mX12_trip, rh_rcv, rh_g0, rh_r70, rh_w70, ↓i_pos, ↓i_neg, and_true, true_and, and_self, w32_id, us_at, us_ne, um_eq, um_ne, um_um, uu_eq, uu_ne, uu_uu, vv_eq, vv_ne, vv_vv, forall_eq, within_y, within_n, isIn_y, isIn_n, ne_eq, not_false_eq_true, not_true_eq_false, reduceCtorEq, Int.reduceAdd, Int.reduceSub, Int.reduceMul, Int.reduceNeg, Nat.reduceEqDiff, or_true, true_or, true_implies, false_implies, Int.reduceLT, Int.reduceLE, Int.reduceEq, iMax_l, iMax_r, iMin_l, iMin_r]
      exact q
  · refine ⟨-2, v, N, u, M, Rel_up h, fun F Q q => ?_, fun F Q q => ?_⟩
    · by_cases d0 : 0 ≤ x1 ∧ x1 ≤ 30 <;> by_cases d1 : x1 ≤ x2 ∧ x2 ≤ 30 <;> by_cases d2 : 1 ≤ x3 ∧ x3 ≤ 9 <;> first | (exfalso; omega) | (simp (disch := omega) only [mX11_trip, mX7_add, t1, t2.1, kh_c8, kh_g8_0, kh_g8_1, kh_g8_2, kh_g8_3, kh_g8_4, kh_g8_5, kh_g8_6, kh_g8_7, kh_c10, kh_g10_0, kh_g10_1, kh_g10_2, kh_g10_3, kh_g10_4, kh_g10_5, kh_g10_6, kh_g10_7, kh_g10_8, kh_g10_9, kh_g10_10, kh_g10_11, kh_g10_12, kh_p10_12, kh_g10_13, kh_p10_13, kh_g10_14, kh_p10_14, kh_g10_15, kh_p10_15, kh_c21, kh_g21_0, kh_g21_1, kh_p21_1, kh_g21_2, kh_p21_2, kh_r22, kh_w22, kh_n22, kh_cp22_43, ↓i_pos, ↓i_neg, and_true, true_and, and_self, w32_id, us_at, us_ne, um_eq, um_ne, um_um, uu_eq, uu_ne, uu_uu, vv_eq, vv_ne, vv_vv, forall_eq, within_y, within_n, isIn_y, isIn_n, ne_eq, not_false_eq_true, not_true_eq_false, reduceCtorEq, Int.reduceAdd, Int.reduceSub, Int.reduceMul, Int.reduceNeg, Nat.reduceEqDiff, or_true, true_or, true_implies, false_implies, Int.reduceLT, Int.reduceLE, Int.reduceEq, iMax_l, iMax_r, iMin_l, iMin_r]; first | done | exact q)
    · by_cases d0 : 0 ≤ x1 ∧ x1 ≤ 30 <;> by_cases d1 : x1 ≤ x2 ∧ x2 ≤ 30 <;> by_cases d2 : 1 ≤ x3 ∧ x3 ≤ 9 <;> first | (exfalso; omega) | (simp (disch := omega) only [mX12_trip, rh_rcv, rh_g0, rh_r70, rh_w70, ↓i_pos, ↓i_neg, and_true, true_and, and_self, w32_id, us_at, us_ne, um_eq, um_ne, um_um, uu_eq, uu_ne, uu_uu, vv_eq, vv_ne, vv_vv, forall_eq, within_y, within_n, isIn_y, isIn_n, ne_eq, not_false_eq_true, not_true_eq_false, reduceCtorEq, Int.reduceAdd, Int.reduceSub, Int.reduceMul, Int.reduceNeg, Nat.reduceEqDiff, or_true, true_or, true_implies, false_implies, Int.reduceLT, Int.reduceLE, Int.reduceEq, iMax_l, iMax_r, iMin_l, iMin_r]; first | done | exact q)
set_option maxHeartbeats 4000000 in
theorem op_seen (h1 : -2147483648 ≤ x1 ∧ x1 ≤ 2147483647) (h2 : -2147483648 ≤ x2 ∧ x2 ≤ 2147483647) (h3 : -2147483648 ≤ x3 ∧ x3 ≤ 2147483647) : OP n (mX11_seen 8 x1 x2 x3) (mX12_seen 69 x1 x2 x3) := by
  refine op_to (fun G v N T u M h => ?_)
  obtain ⟨⟨hY, hK, hC, hF, hB, hT, hS, hD, hX, hG⟩, hI, hM, hL, hW, hH, hN⟩ := id h
  have hc := jY_c hY
  obtain ⟨t1, t2, t3⟩ := hS
  by_cases c0 : x1 = -1
  · refine ⟨0, vv v 23 2 0, N, u, um M 70 (us (M 70) 5 0), ⟨⟨jY_A (fun i hi => by simp (disch := omega) only [um_eq, um_ne, us_ne]) hY, jK_A (fun i hi => by simp (disch := omega) only [um_eq, um_ne, us_ne]) hK, jC_A (fun i hi => by simp (disch := omega) only [um_eq, um_ne, us_ne]) hC, jF_A (fun i hi => by simp (disch := omega) only [um_eq, um_ne, us_ne]) hF, jB_up (jB_A (fun i hi => by simp (disch := omega) only [um_eq, um_ne, us_ne]) hB), jT_A (fun i hi => by simp (disch := omega) only [um_eq, um_ne, us_ne]) hT, ⟨t1, ⟨rfl, by simp (disch := omega) only [um_eq, us_at]; omega, by simp (disch := omega) only [um_eq, us_at]; omega⟩, fun i g0 g1 => by simp (disch := omega) only [um_eq, us_ne]; exact t3 i g0 g1⟩, jD_A (fun i hi => by simp (disch := omega) only [um_eq, um_ne, us_ne]) hD, jX_A (fun i hi => by simp (disch := omega) only [um_eq, um_ne, us_ne]) hX, jG_A (by simp (disch := omega) only [um_eq, um_ne, us_ne]) hG⟩, ⟨hI.1, hI.2.1, hI.2.2.1, hI.2.2.2.1, jB_up hI.2.2.2.2.1, hI.2.2.2.2.2⟩, ⟨by simp (disch := omega) only [um_eq, um_ne, us_ne]; exact hM.1, by simp (disch := omega) only [um_eq, um_ne, us_ne]; exact hM.2⟩, hL, hW, hH, hN⟩, fun F Q q => ?_, fun F Q q => ?_⟩
    · simp (disch := omega) only [mX11_seen, mX7_empty, kh_c8, kh_g8_0, kh_g8_1, kh_g8_2, kh_g8_3, kh_g8_4, kh_g8_5, kh_g8_6, kh_g8_7, kh_c10, kh_g10_0, kh_g10_1, kh_g10_2, kh_g10_3, kh_g10_4, kh_g10_5, kh_g10_6, kh_g10_7, kh_g10_8, kh_g10_9, kh_g10_10, kh_g10_11, kh_g10_12, kh_p10_12, kh_g10_13, kh_p10_13, kh_g10_14, kh_p10_14, kh_g10_15, kh_p10_15, kh_c23, kh_g23_0, kh_g23_1, kh_p23_1, kh_g23_2, kh_p23_2, ↓i_pos, ↓i_neg, and_true, true_and, and_self, w32_id, us_at, us_ne, um_eq, um_ne, um_um, uu_eq, uu_ne, uu_uu, vv_eq, vv_ne, vv_vv, forall_eq, within_y, within_n, isIn_y, isIn_n, ne_eq, not_false_eq_true, not_true_eq_false, reduceCtorEq, Int.reduceAdd, Int.reduceSub, Int.reduceMul, Int.reduceNeg, Nat.reduceEqDiff, or_true, true_or, true_implies, false_implies, Int.reduceLT, Int.reduceLE, Int.reduceEq, iMax_l, iMax_r, iMin_l, iMin_r]
      exact q
    · simp (disch := omega) only [mX12_seen, rh_rcv, rh_g0, rh_r70, rh_w70, ↓i_pos, ↓i_neg, and_true, true_and, and_self, w32_id, us_at, us_ne, um_eq, um_ne, um_um, uu_eq, uu_ne, uu_uu, vv_eq, vv_ne, vv_vv, forall_eq, within_y, within_n, isIn_y, isIn_n, ne_eq, not_false_eq_true, not_true_eq_false, reduceCtorEq, Int.reduceAdd, Int.reduceSub, Int.reduceMul, Int.reduceNeg, Nat.reduceEqDiff, or_true, true_or, true_implies, false_implies, Int.reduceLT, Int.reduceLE, Int.reduceEq, iMax_l, iMax_r, iMin_l, iMin_r]
      exact q
  by_cases c : ((0 ≤ x1 ∧ x1 ≤ 3) ∧ (0 ≤ x2 ∧ x2 < M 70 0) ∧ 0 ≤ x3 ∧ x3 ≤ 2) ∧ M 70 5 < 4
  · refine ⟨M 70 5 + 1, vv v 23 2 (M 70 5 + 1), um N 24 (us (us (us (N 24) (3 * M 70 5) x1) (3 * M 70 5 + 1) x2) (3 * M 70 5 + 2) x3), u, um M 70 (us (us (us (us (M 70) (91 + 3 * M 70 5) x1) (91 + 3 * M 70 5 + 1) x2) (91 + 3 * M 70 5 + 2) x3) 5 (M 70 5 + 1)), ⟨⟨jY_A (fun i hi => by simp (disch := omega) only [um_eq, um_ne, us_ne]) hY, jK_A (fun i hi => by simp (disch := omega) only [um_eq, um_ne, us_ne]) hK, jC_A (fun i hi => by simp (disch := omega) only [um_eq, um_ne, us_ne]) hC, jF_A (fun i hi => by simp (disch := omega) only [um_eq, um_ne, us_ne]) hF, jB_up (jB_A (fun i hi => by simp (disch := omega) only [um_eq, um_ne, us_ne]) hB), jT_A (fun i hi => by simp (disch := omega) only [um_eq, um_ne, us_ne]) hT, ⟨t1, ⟨rfl, by simp (disch := omega) only [um_eq, us_at]; omega, by simp (disch := omega) only [um_eq, us_at]; omega⟩, fun i g0 g1 => ?_⟩, jD_A (fun i hi => by simp (disch := omega) only [um_eq, um_ne, us_ne]) hD, jX_A (fun i hi => by simp (disch := omega) only [um_eq, um_ne, us_ne]) hX, jG_A (by simp (disch := omega) only [um_eq, um_ne, us_ne]) hG⟩, ⟨hI.1, hI.2.1, hI.2.2.1, hI.2.2.2.1, jB_up hI.2.2.2.2.1, hI.2.2.2.2.2⟩, ⟨by simp (disch := omega) only [um_eq, um_ne, us_ne]; exact hM.1, by simp (disch := omega) only [um_eq, um_ne, us_ne]; exact hM.2⟩, hL, hW, hH, hN⟩, fun F Q q => ?_, fun F Q q => ?_⟩
    · have t4 := t3 i g0 g1
      obtain d | d : i = M 70 5 ∨ (i < M 70 5 ∨ M 70 5 < i) := by omega
      all_goals
        simp (disch := omega) only [um_eq, us_at, us_ne, true_and, and_true]
        omega
    · simp (disch := omega) only [mX11_seen, mX7_add, mX11_isCar, mX11_isTrack, mX10_countCars, kh_c8, kh_g8_0, kh_g8_1, kh_g8_2, kh_g8_3, kh_g8_4, kh_g8_5, kh_g8_6, kh_g8_7, kh_c10, kh_g10_0, kh_g10_1, kh_g10_2, kh_g10_3, kh_g10_4, kh_g10_5, kh_g10_6, kh_g10_7, kh_g10_8, kh_g10_9, kh_g10_10, kh_g10_11, kh_g10_12, kh_p10_12, kh_g10_13, kh_p10_13, kh_g10_14, kh_p10_14, kh_g10_15, kh_p10_15, kh_c11, kh_g11_0, kh_r12, kh_w12, kh_n12, kh_c23, kh_g23_0, kh_g23_1, kh_p23_1, kh_g23_2, kh_p23_2, kh_r24, kh_w24, kh_n24, kh_cp12_33, kh_cp12_68, kh_cp12_12, kh_cp12_14, kh_cp24_45, ↓i_pos, ↓i_neg, and_true, true_and, and_self, w32_id, us_at, us_ne, um_eq, um_ne, um_um, uu_eq, uu_ne, uu_uu, vv_eq, vv_ne, vv_vv, forall_eq, within_y, within_n, isIn_y, isIn_n, ne_eq, not_false_eq_true, not_true_eq_false, reduceCtorEq, Int.reduceAdd, Int.reduceSub, Int.reduceMul, Int.reduceNeg, Nat.reduceEqDiff, or_true, true_or, true_implies, false_implies, Int.reduceLT, Int.reduceLE, Int.reduceEq, iMax_l, iMax_r, iMin_l, iMin_r, t1, t2.1, (jY_d hY).1]
      exact q
    · simp (disch := omega) only [mX12_seen, mX12_isCar, mX12_isTrack, rh_rcv, rh_g0, rh_r70, rh_w70, ↓i_pos, ↓i_neg, and_true, true_and, and_self, w32_id, us_at, us_ne, um_eq, um_ne, um_um, uu_eq, uu_ne, uu_uu, vv_eq, vv_ne, vv_vv, forall_eq, within_y, within_n, isIn_y, isIn_n, ne_eq, not_false_eq_true, not_true_eq_false, reduceCtorEq, Int.reduceAdd, Int.reduceSub, Int.reduceMul, Int.reduceNeg, Nat.reduceEqDiff, or_true, true_or, true_implies, false_implies, Int.reduceLT, Int.reduceLE, Int.reduceEq, iMax_l, iMax_r, iMin_l, iMin_r]
      exact q
  · refine ⟨-2, v, N, u, M, Rel_up h, fun F Q q => ?_, fun F Q q => ?_⟩
    · by_cases d0 : 0 ≤ x1 ∧ x1 ≤ 3 <;> by_cases d1 : 0 ≤ x2 ∧ x2 < M 70 0 <;> by_cases d2 : 0 ≤ x3 ∧ x3 ≤ 2 <;> first | (exfalso; omega) | (simp (disch := omega) only [mX11_seen, mX7_add, mX11_isCar, mX11_isTrack, mX10_countCars, t1, t2.1, (jY_d hY).1, kh_c8, kh_g8_0, kh_g8_1, kh_g8_2, kh_g8_3, kh_g8_4, kh_g8_5, kh_g8_6, kh_g8_7, kh_c10, kh_g10_0, kh_g10_1, kh_g10_2, kh_g10_3, kh_g10_4, kh_g10_5, kh_g10_6, kh_g10_7, kh_g10_8, kh_g10_9, kh_g10_10, kh_g10_11, kh_g10_12, kh_p10_12, kh_g10_13, kh_p10_13, kh_g10_14, kh_p10_14, kh_g10_15, kh_p10_15, kh_c11, kh_g11_0, kh_r12, kh_w12, kh_n12, kh_c23, kh_g23_0, kh_g23_1, kh_p23_1, kh_g23_2, kh_p23_2, kh_r24, kh_w24, kh_n24, kh_cp12_33, kh_cp12_68, kh_cp12_12, kh_cp12_14, kh_cp24_45, ↓i_pos, ↓i_neg, and_true, true_and, and_self, w32_id, us_at, us_ne, um_eq, um_ne, um_um, uu_eq, uu_ne, uu_uu, vv_eq, vv_ne, vv_vv, forall_eq, within_y, within_n, isIn_y, isIn_n, ne_eq, not_false_eq_true, not_true_eq_false, reduceCtorEq, Int.reduceAdd, Int.reduceSub, Int.reduceMul, Int.reduceNeg, Nat.reduceEqDiff, or_true, true_or, true_implies, false_implies, Int.reduceLT, Int.reduceLE, Int.reduceEq, iMax_l, iMax_r, iMin_l, iMin_r]; first | done | exact q)
    · by_cases d0 : 0 ≤ x1 ∧ x1 ≤ 3 <;> by_cases d1 : 0 ≤ x2 ∧ x2 < M 70 0 <;> by_cases d2 : 0 ≤ x3 ∧ x3 ≤ 2 <;> first | (exfalso; omega) | (simp (disch := omega) only [mX12_seen, mX12_isCar, mX12_isTrack, rh_rcv, rh_g0, rh_r70, rh_w70, ↓i_pos, ↓i_neg, and_true, true_and, and_self, w32_id, us_at, us_ne, um_eq, um_ne, um_um, uu_eq, uu_ne, uu_uu, vv_eq, vv_ne, vv_vv, forall_eq, within_y, within_n, isIn_y, isIn_n, ne_eq, not_false_eq_true, not_true_eq_false, reduceCtorEq, Int.reduceAdd, Int.reduceSub, Int.reduceMul, Int.reduceNeg, Nat.reduceEqDiff, or_true, true_or, true_implies, false_implies, Int.reduceLT, Int.reduceLE, Int.reduceEq, iMax_l, iMax_r, iMin_l, iMin_r]; first | done | exact q)
set_option maxHeartbeats 4000000 in
theorem op_said (h1 : -2147483648 ≤ x1 ∧ x1 ≤ 2147483647) (h2 : -2147483648 ≤ x2 ∧ x2 ≤ 2147483647) : OP n (mX11_said 8 x1 x2) (mX12_said 69 x1 x2) := by
  refine op_to (fun G v N T u M h => ?_)
  obtain ⟨⟨hY, hK, hC, hF, hB, hT, hS, hD, hX, hG⟩, hI, hM, hL, hW, hH, hN⟩ := id h
  have hc := jY_c hY
  obtain ⟨t1, t2, t3⟩ := hD
  by_cases c0 : x1 = -1
  · refine ⟨0, vv v 25 2 0, N, u, um M 70 (us (M 70) 6 0), ⟨⟨jY_A (fun i hi => by simp (disch := omega) only [um_eq, um_ne, us_ne]) hY, jK_A (fun i hi => by simp (disch := omega) only [um_eq, um_ne, us_ne]) hK, jC_A (fun i hi => by simp (disch := omega) only [um_eq, um_ne, us_ne]) hC, jF_A (fun i hi => by simp (disch := omega) only [um_eq, um_ne, us_ne]) hF, jB_up (jB_A (fun i hi => by simp (disch := omega) only [um_eq, um_ne, us_ne]) hB), jT_A (fun i hi => by simp (disch := omega) only [um_eq, um_ne, us_ne]) hT, jS_A (fun i hi => by simp (disch := omega) only [um_eq, um_ne, us_ne]) hS, ⟨t1, ⟨rfl, by simp (disch := omega) only [um_eq, us_at]; omega, by simp (disch := omega) only [um_eq, us_at]; omega⟩, fun i g0 g1 => by simp (disch := omega) only [um_eq, us_ne]; exact t3 i g0 g1⟩, jX_A (fun i hi => by simp (disch := omega) only [um_eq, um_ne, us_ne]) hX, jG_A (by simp (disch := omega) only [um_eq, um_ne, us_ne]) hG⟩, ⟨hI.1, hI.2.1, hI.2.2.1, hI.2.2.2.1, jB_up hI.2.2.2.2.1, hI.2.2.2.2.2⟩, ⟨by simp (disch := omega) only [um_eq, um_ne, us_ne]; exact hM.1, by simp (disch := omega) only [um_eq, um_ne, us_ne]; exact hM.2⟩, hL, hW, hH, hN⟩, fun F Q q => ?_, fun F Q q => ?_⟩
    · simp (disch := omega) only [mX11_said, mX7_empty, kh_c8, kh_g8_0, kh_g8_1, kh_g8_2, kh_g8_3, kh_g8_4, kh_g8_5, kh_g8_6, kh_g8_7, kh_c10, kh_g10_0, kh_g10_1, kh_g10_2, kh_g10_3, kh_g10_4, kh_g10_5, kh_g10_6, kh_g10_7, kh_g10_8, kh_g10_9, kh_g10_10, kh_g10_11, kh_g10_12, kh_p10_12, kh_g10_13, kh_p10_13, kh_g10_14, kh_p10_14, kh_g10_15, kh_p10_15, kh_c25, kh_g25_0, kh_g25_1, kh_p25_1, kh_g25_2, kh_p25_2, ↓i_pos, ↓i_neg, and_true, true_and, and_self, w32_id, us_at, us_ne, um_eq, um_ne, um_um, uu_eq, uu_ne, uu_uu, vv_eq, vv_ne, vv_vv, forall_eq, within_y, within_n, isIn_y, isIn_n, ne_eq, not_false_eq_true, not_true_eq_false, reduceCtorEq, Int.reduceAdd, Int.reduceSub, Int.reduceMul, Int.reduceNeg, Nat.reduceEqDiff, or_true, true_or, true_implies, false_implies, Int.reduceLT, Int.reduceLE, Int.reduceEq, iMax_l, iMax_r, iMin_l, iMin_r]
      exact q
    · simp (disch := omega) only [mX12_said, rh_rcv, rh_g0, rh_r70, rh_w70, ↓i_pos, ↓i_neg, and_true, true_and, and_self, w32_id, us_at, us_ne, um_eq, um_ne, um_um, uu_eq, uu_ne, uu_uu, vv_eq, vv_ne, vv_vv, forall_eq, within_y, within_n, isIn_y, isIn_n, ne_eq, not_false_eq_true, not_true_eq_false, reduceCtorEq, Int.reduceAdd, Int.reduceSub, Int.reduceMul, Int.reduceNeg, Nat.reduceEqDiff, or_true, true_or, true_implies, false_implies, Int.reduceLT, Int.reduceLE, Int.reduceEq, iMax_l, iMax_r, iMin_l, iMin_r]
      exact q
  by_cases c : ((0 ≤ x1 ∧ x1 < M 70 0) ∧ -9 ≤ x2 ∧ x2 ≤ 9) ∧ M 70 6 < 8
  · refine ⟨M 70 6 + 1, vv v 25 2 (M 70 6 + 1), um N 26 (us (us (us (N 26) (3 * M 70 6) x1) (3 * M 70 6 + 1) x2) (3 * M 70 6 + 2) 0), u, um M 70 (us (us (us (M 70) (108 + 2 * M 70 6) x1) (108 + 2 * M 70 6 + 1) x2) 6 (M 70 6 + 1)), ⟨⟨jY_A (fun i hi => by simp (disch := omega) only [um_eq, um_ne, us_ne]) hY, jK_A (fun i hi => by simp (disch := omega) only [um_eq, um_ne, us_ne]) hK, jC_A (fun i hi => by simp (disch := omega) only [um_eq, um_ne, us_ne]) hC, jF_A (fun i hi => by simp (disch := omega) only [um_eq, um_ne, us_ne]) hF, jB_up (jB_A (fun i hi => by simp (disch := omega) only [um_eq, um_ne, us_ne]) hB), jT_A (fun i hi => by simp (disch := omega) only [um_eq, um_ne, us_ne]) hT, jS_A (fun i hi => by simp (disch := omega) only [um_eq, um_ne, us_ne]) hS, ⟨t1, ⟨rfl, by simp (disch := omega) only [um_eq, us_at]; omega, by simp (disch := omega) only [um_eq, us_at]; omega⟩, fun i g0 g1 => ?_⟩, jX_A (fun i hi => by simp (disch := omega) only [um_eq, um_ne, us_ne]) hX, jG_A (by simp (disch := omega) only [um_eq, um_ne, us_ne]) hG⟩, ⟨hI.1, hI.2.1, hI.2.2.1, hI.2.2.2.1, jB_up hI.2.2.2.2.1, hI.2.2.2.2.2⟩, ⟨by simp (disch := omega) only [um_eq, um_ne, us_ne]; exact hM.1, by simp (disch := omega) only [um_eq, um_ne, us_ne]; exact hM.2⟩, hL, hW, hH, hN⟩, fun F Q q => ?_, fun F Q q => ?_⟩
    · have t4 := t3 i g0 g1
      obtain d | d : i = M 70 6 ∨ (i < M 70 6 ∨ M 70 6 < i) := by omega
      all_goals
        simp (disch := omega) only [um_eq, us_at, us_ne, true_and, and_true]
        omega
    · simp (disch := omega) only [mX11_said, mX7_add, mX11_isCar, mX10_countCars, kh_c8, kh_g8_0, kh_g8_1, kh_g8_2, kh_g8_3, kh_g8_4, kh_g8_5, kh_g8_6, kh_g8_7, kh_c10, kh_g10_0, kh_g10_1, kh_g10_2, kh_g10_3, kh_g10_4, kh_g10_5, kh_g10_6, kh_g10_7, kh_g10_8, kh_g10_9, kh_g10_10, kh_g10_11, kh_g10_12, kh_p10_12, kh_g10_13, kh_p10_13, kh_g10_14, kh_p10_14, kh_g10_15, kh_p10_15, kh_c11, kh_g11_0, kh_r12, kh_w12, kh_n12, kh_c25, kh_g25_0, kh_g25_1, kh_p25_1, kh_g25_2, kh_p25_2, kh_r26, kh_w26, kh_n26, kh_cp12_33, kh_cp12_68, kh_cp12_12, kh_cp12_14, kh_cp26_47, ↓i_pos, ↓i_neg, and_true, true_and, and_self, w32_id, us_at, us_ne, um_eq, um_ne, um_um, uu_eq, uu_ne, uu_uu, vv_eq, vv_ne, vv_vv, forall_eq, within_y, within_n, isIn_y, isIn_n, ne_eq, not_false_eq_true, not_true_eq_false, reduceCtorEq, Int.reduceAdd, Int.reduceSub, Int.reduceMul, Int.reduceNeg, Nat.reduceEqDiff, or_true, true_or, true_implies, false_implies, Int.reduceLT, Int.reduceLE, Int.reduceEq, iMax_l, iMax_r, iMin_l, iMin_r, t1, t2.1, (jY_d hY).1]
      exact q
    · simp (disch := omega) only [mX12_said, mX12_isCar, rh_rcv, rh_g0, rh_r70, rh_w70, ↓i_pos, ↓i_neg, and_true, true_and, and_self, w32_id, us_at, us_ne, um_eq, um_ne, um_um, uu_eq, uu_ne, uu_uu, vv_eq, vv_ne, vv_vv, forall_eq, within_y, within_n, isIn_y, isIn_n, ne_eq, not_false_eq_true, not_true_eq_false, reduceCtorEq, Int.reduceAdd, Int.reduceSub, Int.reduceMul, Int.reduceNeg, Nat.reduceEqDiff, or_true, true_or, true_implies, false_implies, Int.reduceLT, Int.reduceLE, Int.reduceEq, iMax_l, iMax_r, iMin_l, iMin_r]
      exact q
  · refine ⟨-2, v, N, u, M, Rel_up h, fun F Q q => ?_, fun F Q q => ?_⟩
    · by_cases d0 : 0 ≤ x1 ∧ x1 < M 70 0 <;> by_cases d1 : -9 ≤ x2 ∧ x2 ≤ 9 <;> first | (exfalso; omega) | (simp (disch := omega) only [mX11_said, mX7_add, mX11_isCar, mX10_countCars, t1, t2.1, (jY_d hY).1, kh_c8, kh_g8_0, kh_g8_1, kh_g8_2, kh_g8_3, kh_g8_4, kh_g8_5, kh_g8_6, kh_g8_7, kh_c10, kh_g10_0, kh_g10_1, kh_g10_2, kh_g10_3, kh_g10_4, kh_g10_5, kh_g10_6, kh_g10_7, kh_g10_8, kh_g10_9, kh_g10_10, kh_g10_11, kh_g10_12, kh_p10_12, kh_g10_13, kh_p10_13, kh_g10_14, kh_p10_14, kh_g10_15, kh_p10_15, kh_c11, kh_g11_0, kh_r12, kh_w12, kh_n12, kh_c25, kh_g25_0, kh_g25_1, kh_p25_1, kh_g25_2, kh_p25_2, kh_r26, kh_w26, kh_n26, kh_cp12_33, kh_cp12_68, kh_cp12_12, kh_cp12_14, kh_cp26_47, ↓i_pos, ↓i_neg, and_true, true_and, and_self, w32_id, us_at, us_ne, um_eq, um_ne, um_um, uu_eq, uu_ne, uu_uu, vv_eq, vv_ne, vv_vv, forall_eq, within_y, within_n, isIn_y, isIn_n, ne_eq, not_false_eq_true, not_true_eq_false, reduceCtorEq, Int.reduceAdd, Int.reduceSub, Int.reduceMul, Int.reduceNeg, Nat.reduceEqDiff, or_true, true_or, true_implies, false_implies, Int.reduceLT, Int.reduceLE, Int.reduceEq, iMax_l, iMax_r, iMin_l, iMin_r]; first | done | exact q)
    · by_cases d0 : 0 ≤ x1 ∧ x1 < M 70 0 <;> by_cases d1 : -9 ≤ x2 ∧ x2 ≤ 9 <;> first | (exfalso; omega) | (simp (disch := omega) only [mX12_said, mX12_isCar, rh_rcv, rh_g0, rh_r70, rh_w70, ↓i_pos, ↓i_neg, and_true, true_and, and_self, w32_id, us_at, us_ne, um_eq, um_ne, um_um, uu_eq, uu_ne, uu_uu, vv_eq, vv_ne, vv_vv, forall_eq, within_y, within_n, isIn_y, isIn_n, ne_eq, not_false_eq_true, not_true_eq_false, reduceCtorEq, Int.reduceAdd, Int.reduceSub, Int.reduceMul, Int.reduceNeg, Nat.reduceEqDiff, or_true, true_or, true_implies, false_implies, Int.reduceLT, Int.reduceLE, Int.reduceEq, iMax_l, iMax_r, iMin_l, iMin_r]; first | done | exact q)
set_option maxHeartbeats 4000000 in
theorem op_book (h1 : -2147483648 ≤ x1 ∧ x1 ≤ 2147483647) (h2 : -2147483648 ≤ x2 ∧ x2 ≤ 2147483647) : OP n (mX11_book 8 x1 x2) (mX12_book 69 x1 x2) := by
  refine op_to (fun G v N T u M h => ?_)
  obtain ⟨⟨hY, hK, hC, hF, hB, hT, hS, hD, hX, hG⟩, hI, hM, hL, hW, hH, hN⟩ := id h
  have hc := jY_c hY
  have hl := (jY_d hY).2.2.2.2.2.2.2.2.2.2.2
  by_cases c0 : x1 = -1
  · refine ⟨M 70 11, v, N, u, M, Rel_up h, fun F Q q => ?_, fun F Q q => ?_⟩
    · simp (disch := omega) only [mX11_book, mX10_countLines, kh_c8, kh_g8_0, kh_g8_1, kh_g8_2, kh_g8_3, kh_g8_4, kh_g8_5, kh_g8_6, kh_g8_7, kh_c10, kh_g10_0, kh_g10_1, kh_g10_2, kh_g10_3, kh_g10_4, kh_g10_5, kh_g10_6, kh_g10_7, kh_g10_8, kh_g10_9, kh_g10_10, kh_g10_11, kh_g10_12, kh_p10_12, kh_g10_13, kh_p10_13, kh_g10_14, kh_p10_14, kh_g10_15, kh_p10_15, kh_c11, kh_g11_0, kh_r12, kh_w12, kh_n12, kh_cp12_33, kh_cp12_68, kh_cp12_12, kh_cp12_14, ↓i_pos, ↓i_neg, and_true, true_and, and_self, w32_id, us_at, us_ne, um_eq, um_ne, um_um, uu_eq, uu_ne, uu_uu, vv_eq, vv_ne, vv_vv, forall_eq, within_y, within_n, isIn_y, isIn_n, ne_eq, not_false_eq_true, not_true_eq_false, reduceCtorEq, Int.reduceAdd, Int.reduceSub, Int.reduceMul, Int.reduceNeg, Nat.reduceEqDiff, or_true, true_or, true_implies, false_implies, Int.reduceLT, Int.reduceLE, Int.reduceEq, iMax_l, iMax_r, iMin_l, iMin_r, (jY_d hY).1]
      exact q
    · simp (disch := omega) only [mX12_book, rh_rcv, rh_g0, rh_r70, rh_w70, ↓i_pos, ↓i_neg, and_true, true_and, and_self, w32_id, us_at, us_ne, um_eq, um_ne, um_um, uu_eq, uu_ne, uu_uu, vv_eq, vv_ne, vv_vv, forall_eq, within_y, within_n, isIn_y, isIn_n, ne_eq, not_false_eq_true, not_true_eq_false, reduceCtorEq, Int.reduceAdd, Int.reduceSub, Int.reduceMul, Int.reduceNeg, Nat.reduceEqDiff, or_true, true_or, true_implies, false_implies, Int.reduceLT, Int.reduceLE, Int.reduceEq, iMax_l, iMax_r, iMin_l, iMin_r]
      exact q
  by_cases c : (0 ≤ x1 ∧ x1 < M 70 11) ∧ 0 ≤ x2 ∧ x2 ≤ 3
  · obtain ⟨b1, b2, b3⟩ := (jY_d hY).2.2.2.2.1 x1 (by omega) (by omega)
    refine ⟨if x2 = 0 then M 70 (1924 + x1) / 54 else if x2 = 1 then M 70 (1924 + x1) / 9 % 6 - 1 else if x2 = 2 then M 70 (1924 + x1) / 3 % 3 else M 70 (1924 + x1) % 3, v, N, u, M, Rel_up h, fun F Q q => ?_, fun F Q q => ?_⟩
    · obtain d | d | d | d : x2 = 0 ∨ x2 = 1 ∨ x2 = 2 ∨ x2 = 3 := by omega
      all_goals
        subst d
        simp (disch := omega) only [mX11_book, mX10_countLines, mX10_lineTells, kh_c8, kh_g8_0, kh_g8_1, kh_g8_2, kh_g8_3, kh_g8_4, kh_g8_5, kh_g8_6, kh_g8_7, kh_c10, kh_g10_0, kh_g10_1, kh_g10_2, kh_g10_3, kh_g10_4, kh_g10_5, kh_g10_6, kh_g10_7, kh_g10_8, kh_g10_9, kh_g10_10, kh_g10_11, kh_g10_12, kh_p10_12, kh_g10_13, kh_p10_13, kh_g10_14, kh_p10_14, kh_g10_15, kh_p10_15, kh_c11, kh_g11_0, kh_r12, kh_w12, kh_n12, kh_cp12_33, kh_cp12_68, kh_cp12_12, kh_cp12_14, ↓i_pos, ↓i_neg, and_true, true_and, and_self, w32_id, us_at, us_ne, um_eq, um_ne, um_um, uu_eq, uu_ne, uu_uu, vv_eq, vv_ne, vv_vv, forall_eq, within_y, within_n, isIn_y, isIn_n, ne_eq, not_false_eq_true, not_true_eq_false, reduceCtorEq, Int.reduceAdd, Int.reduceSub, Int.reduceMul, Int.reduceNeg, Nat.reduceEqDiff, or_true, true_or, true_implies, false_implies, Int.reduceLT, Int.reduceLE, Int.reduceEq, iMax_l, iMax_r, iMin_l, iMin_r, (jY_d hY).1, b1, pk_0 b2 b3, pk_1 b2 b3, pk_2 b2 b3, pk_3 b2 b3]
        simpa using q
    · obtain d | d | d | d : x2 = 0 ∨ x2 = 1 ∨ x2 = 2 ∨ x2 = 3 := by omega
      all_goals
        subst d
        simp (disch := omega) only [mX12_book, mX12_entry, rh_rcv, rh_g0, rh_r70, rh_w70, ↓i_pos, ↓i_neg, and_true, true_and, and_self, w32_id, us_at, us_ne, um_eq, um_ne, um_um, uu_eq, uu_ne, uu_uu, vv_eq, vv_ne, vv_vv, forall_eq, within_y, within_n, isIn_y, isIn_n, ne_eq, not_false_eq_true, not_true_eq_false, reduceCtorEq, Int.reduceAdd, Int.reduceSub, Int.reduceMul, Int.reduceNeg, Nat.reduceEqDiff, or_true, true_or, true_implies, false_implies, Int.reduceLT, Int.reduceLE, Int.reduceEq, iMax_l, iMax_r, iMin_l, iMin_r, td, tm]
        simpa using q
  · refine ⟨-2, v, N, u, M, Rel_up h, fun F Q q => ?_, fun F Q q => ?_⟩
    · by_cases d0 : 0 ≤ x1 ∧ x1 < M 70 11 <;> by_cases d1 : 0 ≤ x2 ∧ x2 ≤ 3 <;> first | (exfalso; omega) | (simp (disch := omega) only [mX11_book, mX10_countLines, (jY_d hY).1, kh_c8, kh_g8_0, kh_g8_1, kh_g8_2, kh_g8_3, kh_g8_4, kh_g8_5, kh_g8_6, kh_g8_7, kh_c10, kh_g10_0, kh_g10_1, kh_g10_2, kh_g10_3, kh_g10_4, kh_g10_5, kh_g10_6, kh_g10_7, kh_g10_8, kh_g10_9, kh_g10_10, kh_g10_11, kh_g10_12, kh_p10_12, kh_g10_13, kh_p10_13, kh_g10_14, kh_p10_14, kh_g10_15, kh_p10_15, kh_c11, kh_g11_0, kh_r12, kh_w12, kh_n12, kh_cp12_33, kh_cp12_68, kh_cp12_12, kh_cp12_14, ↓i_pos, ↓i_neg, and_true, true_and, and_self, w32_id, us_at, us_ne, um_eq, um_ne, um_um, uu_eq, uu_ne, uu_uu, vv_eq, vv_ne, vv_vv, forall_eq, within_y, within_n, isIn_y, isIn_n, ne_eq, not_false_eq_true, not_true_eq_false, reduceCtorEq, Int.reduceAdd, Int.reduceSub, Int.reduceMul, Int.reduceNeg, Nat.reduceEqDiff, or_true, true_or, true_implies, false_implies, Int.reduceLT, Int.reduceLE, Int.reduceEq, iMax_l, iMax_r, iMin_l, iMin_r]; first | done | exact q)
    · by_cases d0 : 0 ≤ x1 ∧ x1 < M 70 11 <;> by_cases d1 : 0 ≤ x2 ∧ x2 ≤ 3 <;> first | (exfalso; omega) | (simp (disch := omega) only [mX12_book, rh_rcv, rh_g0, rh_r70, rh_w70, ↓i_pos, ↓i_neg, and_true, true_and, and_self, w32_id, us_at, us_ne, um_eq, um_ne, um_um, uu_eq, uu_ne, uu_uu, vv_eq, vv_ne, vv_vv, forall_eq, within_y, within_n, isIn_y, isIn_n, ne_eq, not_false_eq_true, not_true_eq_false, reduceCtorEq, Int.reduceAdd, Int.reduceSub, Int.reduceMul, Int.reduceNeg, Nat.reduceEqDiff, or_true, true_or, true_implies, false_implies, Int.reduceLT, Int.reduceLE, Int.reduceEq, iMax_l, iMax_r, iMin_l, iMin_r]; first | done | exact q)
set_option maxHeartbeats 4000000 in
theorem op_forbid (h1 : -2147483648 ≤ x1 ∧ x1 ≤ 2147483647) (h2 : -2147483648 ≤ x2 ∧ x2 ≤ 2147483647) (h3 : -2147483648 ≤ x3 ∧ x3 ≤ 2147483647) : OP n (mX11_forbid 8 x1 x2 x3) (mX12_forbid 69 x1 x2 x3) := by
  refine op_to (fun G v N T u M h => ?_)
  obtain ⟨⟨hY, hK, hC, hF, hB, hT, hS, hD, hX, hG⟩, hI, hM, hL, hW, hH, hN⟩ := id h
  have hc := jY_c hY
  by_cases c : (0 ≤ x1 ∧ x1 ≤ 3) ∧ 0 ≤ x2 ∧ x2 ≤ 3
  · obtain ⟨f0, f1⟩ := hF
    have a1 := f1 x1 (by omega) (by omega)
    have a2 := f1 x2 (by omega) (by omega)
    have s1 := shl1_b (j := 4 * x1 + x2) (by omega)
    have s2 := shl1_b (j := 4 * x2 + x1) (by omega)
    have s3 := shl1_b (j := x1) (by omega)
    have s4 := shl1_b (j := x2) (by omega)
    have p1 : iShl 1 (4 * x1 + x2) < ((2 ^ 16 : Nat) : Int) := by
      obtain ⟨a, ha⟩ := Int.eq_ofNat_of_zero_le (show 0 ≤ 4 * x1 + x2 by omega)
      rw [ha, shl_p a (by omega) (by omega) (by have := Nat.pow_lt_pow_right (a := 2) (by decide) (show a < 31 by omega); omega)]
      have := Nat.pow_lt_pow_right (a := 2) (by decide) (show a < 16 by omega)
      omega
    have p2 : iShl 1 (4 * x2 + x1) < ((2 ^ 16 : Nat) : Int) := by
      obtain ⟨a, ha⟩ := Int.eq_ofNat_of_zero_le (show 0 ≤ 4 * x2 + x1 by omega)
      rw [ha, shl_p a (by omega) (by omega) (by have := Nat.pow_lt_pow_right (a := 2) (by decide) (show a < 31 by omega); omega)]
      have := Nat.pow_lt_pow_right (a := 2) (by decide) (show a < 16 by omega)
      omega
    have p3 : iShl 1 x1 < ((2 ^ 4 : Nat) : Int) := by
      obtain ⟨a, ha⟩ := Int.eq_ofNat_of_zero_le c.1.1
      rw [ha, shl_p a (by omega) (by omega) (by have := Nat.pow_lt_pow_right (a := 2) (by decide) (show a < 31 by omega); omega)]
      have := Nat.pow_lt_pow_right (a := 2) (by decide) (show a < 4 by omega)
      omega
    have p4 : iShl 1 x2 < ((2 ^ 4 : Nat) : Int) := by
      obtain ⟨a, ha⟩ := Int.eq_ofNat_of_zero_le c.2.1
      rw [ha, shl_p a (by omega) (by omega) (by have := Nat.pow_lt_pow_right (a := 2) (by decide) (show a < 31 by omega); omega)]
      have := Nat.pow_lt_pow_right (a := 2) (by decide) (show a < 4 by omega)
      omega
    have ob := or_b 16 (by decide) ⟨s1.1, p1⟩ ⟨s2.1, p2⟩
    have e16 : ((2 ^ 16 : Nat) : Int) = 65536 := by decide
    have e4 : ((2 ^ 4 : Nat) : Int) = 16 := by decide
    rw [e16] at p1 p2
    rw [e4] at p3 p4
    have ob' := ob
    rw [e16] at ob'
    by_cases d : x3 = 0
    · refine ⟨1, vv v 10 15 (iAnd (v 10 15) (iXor (iOr (iShl 1 (4 * x1 + x2)) (iShl 1 (4 * x2 + x1))) (-1))), N, u, um M 70 (us (us (M 70) (56 + x1) (iAnd (M 70 (56 + x1)) (iXor (iShl 1 x2) (-1)))) (56 + x2) (iAnd (us (M 70) (56 + x1) (iAnd (M 70 (56 + x1)) (iXor (iShl 1 x2) (-1))) (56 + x2)) (iXor (iShl 1 x1) (-1)))), ⟨⟨jY_A (fun i hi => by simp (disch := omega) only [um_eq, um_ne, us_ne]) hY, jK_A (fun i hi => by simp (disch := omega) only [um_eq, um_ne, us_ne]) hK, jC_A (fun i hi => by simp (disch := omega) only [um_eq, um_ne, us_ne]) hC, ⟨?_, fun k g0 g1 => ?_⟩, jB_up (jB_A (fun i hi => by simp (disch := omega) only [um_eq, um_ne, us_ne]) hB), jT_A (fun i hi => by simp (disch := omega) only [um_eq, um_ne, us_ne]) hT, jS_A (fun i hi => by simp (disch := omega) only [um_eq, um_ne, us_ne]) hS, jD_A (fun i hi => by simp (disch := omega) only [um_eq, um_ne, us_ne]) hD, jX_A (fun i hi => by simp (disch := omega) only [um_eq, um_ne, us_ne]) hX, jG_A (by simp (disch := omega) only [um_eq, um_ne, us_ne]) hG⟩, ⟨hI.1, hI.2.1, hI.2.2.1, hI.2.2.2.1, jB_up hI.2.2.2.2.1, hI.2.2.2.2.2⟩, ⟨by simp (disch := omega) only [um_eq, um_ne, us_ne]; exact hM.1, by simp (disch := omega) only [um_eq, um_ne, us_ne]; exact hM.2⟩, hL, hW, hH, hN⟩, fun F Q q => ?_, fun F Q q => ?_⟩
      · have := andn_b (x := v 10 15) (y := iOr (iShl 1 (4 * x1 + x2)) (iShl 1 (4 * x2 + x1))) (by omega) (by omega)
        simp (disch := omega) only [vv_eq, uu_eq]
        omega
      · have a3 := f1 k g0 g1
        have b1 := andn_b (x := M 70 (56 + x1)) (y := iShl 1 x2) (by omega) (by omega)
        have b2 := andn_b (x := M 70 (56 + x2)) (y := iShl 1 x1) (by omega) (by omega)
        have b3 := andn_b (x := iAnd (M 70 (56 + x1)) (iXor (iShl 1 x2) (-1))) (y := iShl 1 x1) (by omega) (by omega)
        simp only [um_eq, vv_eq, uu_eq]
        by_cases d1 : x1 = x2
        · subst d1
          by_cases d2 : k = x1
          · subst d2
            simp (disch := omega) only [us_at]
            refine ⟨by omega, fun l g2 g3 => ?_⟩
            simp (disch := omega) only [tb_andn, tb_or, tb_one]
            rw [a3.2 l g2 g3]
            by_cases d3 : k = l
            · subst d3; simp
            · simp [d3, show ¬ (4 * k + k = 4 * k + l) by omega]
          · simp (disch := omega) only [us_ne]
            refine ⟨a3.1, fun l g2 g3 => ?_⟩
            simp (disch := omega) only [tb_andn, tb_or, tb_one]
            rw [a3.2 l g2 g3]
            simp [show ¬ (4 * x1 + x1 = 4 * k + l) by omega]
        · by_cases d2 : k = x1
          · subst d2
            simp (disch := omega) only [us_at, us_ne]
            refine ⟨by omega, fun l g2 g3 => ?_⟩
            simp (disch := omega) only [tb_andn, tb_or, tb_one]
            rw [a3.2 l g2 g3]
            by_cases d3 : x2 = l
            · subst d3; simp
            · simp [d3, show ¬ (4 * k + x2 = 4 * k + l) by omega, show ¬ (4 * x2 + k = 4 * k + l) by omega]
          · by_cases d4 : k = x2
            · subst d4
              simp (disch := omega) only [us_at, us_ne]
              refine ⟨by omega, fun l g2 g3 => ?_⟩
              simp (disch := omega) only [tb_andn, tb_or, tb_one]
              rw [a3.2 l g2 g3]
              by_cases d3 : x1 = l
              · subst d3; simp
              · simp [d3, show ¬ (4 * k + x1 = 4 * k + l) by omega, show ¬ (4 * x1 + k = 4 * k + l) by omega]
            · simp (disch := omega) only [us_ne]
              refine ⟨a3.1, fun l g2 g3 => ?_⟩
              simp (disch := omega) only [tb_andn, tb_or, tb_one]
              rw [a3.2 l g2 g3]
              simp [show ¬ (4 * x1 + x2 = 4 * k + l) by omega, show ¬ (4 * x2 + x1 = 4 * k + l) by omega]
      · simp (disch := omega) only [mX11_forbid, mX5_setForbidden, mX5_setForbidden_J41, kh_c8, kh_g8_0, kh_g8_1, kh_g8_2, kh_g8_3, kh_g8_4, kh_g8_5, kh_g8_6, kh_g8_7, kh_c10, kh_g10_0, kh_g10_1, kh_g10_2, kh_g10_3, kh_g10_4, kh_g10_5, kh_g10_6, kh_g10_7, kh_g10_8, kh_g10_9, kh_g10_10, kh_g10_11, kh_g10_12, kh_p10_12, kh_g10_13, kh_p10_13, kh_g10_14, kh_p10_14, kh_g10_15, kh_p10_15, ↓i_pos, ↓i_neg, and_true, true_and, and_self, w32_id, us_at, us_ne, um_eq, um_ne, um_um, uu_eq, uu_ne, uu_uu, vv_eq, vv_ne, vv_vv, forall_eq, within_y, within_n, isIn_y, isIn_n, ne_eq, not_false_eq_true, not_true_eq_false, reduceCtorEq, Int.reduceAdd, Int.reduceSub, Int.reduceMul, Int.reduceNeg, Nat.reduceEqDiff, or_true, true_or, true_implies, false_implies, Int.reduceLT, Int.reduceLE, Int.reduceEq, iMax_l, iMax_r, iMin_l, iMin_r]
        exact q
      · simp (disch := omega) only [mX12_forbid, mX12_forbidOne, rh_rcv, rh_g0, rh_r70, rh_w70, ↓i_pos, ↓i_neg, and_true, true_and, and_self, w32_id, us_at, us_ne, um_eq, um_ne, um_um, uu_eq, uu_ne, uu_uu, vv_eq, vv_ne, vv_vv, forall_eq, within_y, within_n, isIn_y, isIn_n, ne_eq, not_false_eq_true, not_true_eq_false, reduceCtorEq, Int.reduceAdd, Int.reduceSub, Int.reduceMul, Int.reduceNeg, Nat.reduceEqDiff, or_true, true_or, true_implies, false_implies, Int.reduceLT, Int.reduceLE, Int.reduceEq, iMax_l, iMax_r, iMin_l, iMin_r]
        exact q
    · have o1 := or_b 16 (by decide) (x := v 10 15) (y := iOr (iShl 1 (4 * x1 + x2)) (iShl 1 (4 * x2 + x1))) (by omega) ob
      refine ⟨1, vv v 10 15 (iOr (v 10 15) (iOr (iShl 1 (4 * x1 + x2)) (iShl 1 (4 * x2 + x1)))), N, u, um M 70 (us (us (M 70) (56 + x1) (iOr (M 70 (56 + x1)) (iShl 1 x2))) (56 + x2) (iOr (us (M 70) (56 + x1) (iOr (M 70 (56 + x1)) (iShl 1 x2)) (56 + x2)) (iShl 1 x1))), ⟨⟨jY_A (fun i hi => by simp (disch := omega) only [um_eq, um_ne, us_ne]) hY, jK_A (fun i hi => by simp (disch := omega) only [um_eq, um_ne, us_ne]) hK, jC_A (fun i hi => by simp (disch := omega) only [um_eq, um_ne, us_ne]) hC, ⟨?_, fun k g0 g1 => ?_⟩, jB_up (jB_A (fun i hi => by simp (disch := omega) only [um_eq, um_ne, us_ne]) hB), jT_A (fun i hi => by simp (disch := omega) only [um_eq, um_ne, us_ne]) hT, jS_A (fun i hi => by simp (disch := omega) only [um_eq, um_ne, us_ne]) hS, jD_A (fun i hi => by simp (disch := omega) only [um_eq, um_ne, us_ne]) hD, jX_A (fun i hi => by simp (disch := omega) only [um_eq, um_ne, us_ne]) hX, jG_A (by simp (disch := omega) only [um_eq, um_ne, us_ne]) hG⟩, ⟨hI.1, hI.2.1, hI.2.2.1, hI.2.2.2.1, jB_up hI.2.2.2.2.1, hI.2.2.2.2.2⟩, ⟨by simp (disch := omega) only [um_eq, um_ne, us_ne]; exact hM.1, by simp (disch := omega) only [um_eq, um_ne, us_ne]; exact hM.2⟩, hL, hW, hH, hN⟩, fun F Q q => ?_, fun F Q q => ?_⟩
      · simp (disch := omega) only [vv_eq, uu_eq]
        rw [e16] at o1
        exact o1
      · have a3 := f1 k g0 g1
        have b1 := or_b 4 (by decide) (x := M 70 (56 + x1)) (y := iShl 1 x2) (by omega) (by omega)
        have b2 := or_b 4 (by decide) (x := M 70 (56 + x2)) (y := iShl 1 x1) (by omega) (by omega)
        have b3 := or_b 4 (by decide) (x := iOr (M 70 (56 + x1)) (iShl 1 x2)) (y := iShl 1 x1) b1 (by omega)
        rw [e4] at b1 b2 b3
        simp only [um_eq, vv_eq, uu_eq]
        by_cases d1 : x1 = x2
        · subst d1
          by_cases d2 : k = x1
          · subst d2
            simp (disch := omega) only [us_at]
            refine ⟨by omega, fun l g2 g3 => ?_⟩
            simp (disch := omega) only [tb_or, tb_one]
            rw [a3.2 l g2 g3]
            by_cases d3 : k = l
            · subst d3; simp
            · simp [d3, show ¬ (4 * k + k = 4 * k + l) by omega]
          · simp (disch := omega) only [us_ne]
            refine ⟨a3.1, fun l g2 g3 => ?_⟩
            simp (disch := omega) only [tb_or, tb_one]
            rw [a3.2 l g2 g3]
            simp [show ¬ (4 * x1 + x1 = 4 * k + l) by omega]
        · by_cases d2 : k = x1
          · subst d2
            simp (disch := omega) only [us_at, us_ne]
            refine ⟨by omega, fun l g2 g3 => ?_⟩
            simp (disch := omega) only [tb_or, tb_one]
            rw [a3.2 l g2 g3]
            by_cases d3 : x2 = l
            · subst d3; simp
            · simp [d3, show ¬ (4 * k + x2 = 4 * k + l) by omega, show ¬ (4 * x2 + k = 4 * k + l) by omega]
          · by_cases d4 : k = x2
            · subst d4
              simp (disch := omega) only [us_at, us_ne]
              refine ⟨by omega, fun l g2 g3 => ?_⟩
              simp (disch := omega) only [tb_or, tb_one]
              rw [a3.2 l g2 g3]
              by_cases d3 : x1 = l
              · subst d3; simp
              · simp [d3, show ¬ (4 * k + x1 = 4 * k + l) by omega, show ¬ (4 * x1 + k = 4 * k + l) by omega]
            · simp (disch := omega) only [us_ne]
              refine ⟨a3.1, fun l g2 g3 => ?_⟩
              simp (disch := omega) only [tb_or, tb_one]
              rw [a3.2 l g2 g3]
              simp [show ¬ (4 * x1 + x2 = 4 * k + l) by omega, show ¬ (4 * x2 + x1 = 4 * k + l) by omega]
      · simp (disch := omega) only [mX11_forbid, mX5_setForbidden, mX5_setForbidden_J41, kh_c8, kh_g8_0, kh_g8_1, kh_g8_2, kh_g8_3, kh_g8_4, kh_g8_5, kh_g8_6, kh_g8_7, kh_c10, kh_g10_0, kh_g10_1, kh_g10_2, kh_g10_3, kh_g10_4, kh_g10_5, kh_g10_6, kh_g10_7, kh_g10_8, kh_g10_9, kh_g10_10, kh_g10_11, kh_g10_12, kh_p10_12, kh_g10_13, kh_p10_13, kh_g10_14, kh_p10_14, kh_g10_15, kh_p10_15, ↓i_pos, ↓i_neg, and_true, true_and, and_self, w32_id, us_at, us_ne, um_eq, um_ne, um_um, uu_eq, uu_ne, uu_uu, vv_eq, vv_ne, vv_vv, forall_eq, within_y, within_n, isIn_y, isIn_n, ne_eq, not_false_eq_true, not_true_eq_false, reduceCtorEq, Int.reduceAdd, Int.reduceSub, Int.reduceMul, Int.reduceNeg, Nat.reduceEqDiff, or_true, true_or, true_implies, false_implies, Int.reduceLT, Int.reduceLE, Int.reduceEq, iMax_l, iMax_r, iMin_l, iMin_r]
        exact q
      · simp (disch := omega) only [mX12_forbid, mX12_forbidOne, rh_rcv, rh_g0, rh_r70, rh_w70, ↓i_pos, ↓i_neg, and_true, true_and, and_self, w32_id, us_at, us_ne, um_eq, um_ne, um_um, uu_eq, uu_ne, uu_uu, vv_eq, vv_ne, vv_vv, forall_eq, within_y, within_n, isIn_y, isIn_n, ne_eq, not_false_eq_true, not_true_eq_false, reduceCtorEq, Int.reduceAdd, Int.reduceSub, Int.reduceMul, Int.reduceNeg, Nat.reduceEqDiff, or_true, true_or, true_implies, false_implies, Int.reduceLT, Int.reduceLE, Int.reduceEq, iMax_l, iMax_r, iMin_l, iMin_r]
        exact q
  · refine ⟨0, v, N, u, M, Rel_up h, fun F Q q => ?_, fun F Q q => ?_⟩
    · by_cases d0 : 0 ≤ x1 ∧ x1 ≤ 3 <;> by_cases d1 : 0 ≤ x2 ∧ x2 ≤ 3 <;> first | (exfalso; omega) | (simp (disch := omega) only [mX11_forbid, kh_c8, kh_g8_0, kh_g8_1, kh_g8_2, kh_g8_3, kh_g8_4, kh_g8_5, kh_g8_6, kh_g8_7, kh_c10, kh_g10_0, kh_g10_1, kh_g10_2, kh_g10_3, kh_g10_4, kh_g10_5, kh_g10_6, kh_g10_7, kh_g10_8, kh_g10_9, kh_g10_10, kh_g10_11, kh_g10_12, kh_p10_12, kh_g10_13, kh_p10_13, kh_g10_14, kh_p10_14, kh_g10_15, kh_p10_15, ↓i_pos, ↓i_neg, and_true, true_and, and_self, w32_id, us_at, us_ne, um_eq, um_ne, um_um, uu_eq, uu_ne, uu_uu, vv_eq, vv_ne, vv_vv, forall_eq, within_y, within_n, isIn_y, isIn_n, ne_eq, not_false_eq_true, not_true_eq_false, reduceCtorEq, Int.reduceAdd, Int.reduceSub, Int.reduceMul, Int.reduceNeg, Nat.reduceEqDiff, or_true, true_or, true_implies, false_implies, Int.reduceLT, Int.reduceLE, Int.reduceEq, iMax_l, iMax_r, iMin_l, iMin_r]; first | done | exact q)
    · by_cases d0 : 0 ≤ x1 ∧ x1 ≤ 3 <;> by_cases d1 : 0 ≤ x2 ∧ x2 ≤ 3 <;> first | (exfalso; omega) | (simp (disch := omega) only [mX12_forbid, rh_rcv, rh_g0, rh_r70, rh_w70, ↓i_pos, ↓i_neg, and_true, true_and, and_self, w32_id, us_at, us_ne, um_eq, um_ne, um_um, uu_eq, uu_ne, uu_uu, vv_eq, vv_ne, vv_vv, forall_eq, within_y, within_n, isIn_y, isIn_n, ne_eq, not_false_eq_true, not_true_eq_false, reduceCtorEq, Int.reduceAdd, Int.reduceSub, Int.reduceMul, Int.reduceNeg, Nat.reduceEqDiff, or_true, true_or, true_implies, false_implies, Int.reduceLT, Int.reduceLE, Int.reduceEq, iMax_l, iMax_r, iMin_l, iMin_r]; first | done | exact q)
end O2
