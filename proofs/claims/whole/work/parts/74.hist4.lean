section HO4
variable {n x1 : Int}
set_option maxHeartbeats 4000000 in
theorem op_histories (h1 : -2147483648 ≤ x1 ∧ x1 ≤ 2147483647) : OP n (mX11_histories 8 x1) (mX12_histories 69 x1) := by
  refine op_to (fun G v N T u M h => ?_)
  obtain ⟨⟨hY, hK, hC, hF, hB, hT, hS, hD, hX, hG⟩, hI, hM, hL, hW, hH, hN⟩ := id h
  obtain ⟨P, p1, p2, p3⟩ := prs_c hY hC hF (T := T)
  have a5 := hS.2.1.2
  have lb := lms_b hS (M 70 5).toNat (by omega)
  have hwm : (lms (M 70) (M 70 5).toNat = 0 ∧ p9 (lms (M 70) (M 70 5).toNat) = 1) ∨ (lms (M 70) (M 70 5).toNat = 1 ∧ p9 (lms (M 70) (M 70 5).toNat) = 9) ∨ (lms (M 70) (M 70 5).toNat = 2 ∧ p9 (lms (M 70) (M 70 5).toNat) = 81) ∨ (lms (M 70) (M 70 5).toNat = 3 ∧ p9 (lms (M 70) (M 70 5).toNat) = 729) := by
    generalize lms (M 70) (M 70 5).toNat = m at *
    obtain rfl | rfl | rfl | rfl : m = 0 ∨ m = 1 ∨ m = 2 ∨ m = 3 := by omega
    all_goals (unfold p9; decide)
  have wb : 1 ≤ p9 (lms (M 70) (M 70 5).toNat) := by omega
  obtain ⟨r, N', M', f1, f2, k1, k2⟩ := hl_b (P := P) (v := v) (T := T) (u := u) (N0 := N) (M0 := M) (x := x1) hI.1 hS hC hF (by omega) (fun a b a0 a1 b0 b1 => p2 a b a0 (by omega) b0 (by omega)) lb hwm h1 (p9 (lms (M 70) (M 70 5).toNat)).toNat 0 0 N M (by omega) (by omega) (by omega) (fun _ _ _ => rfl) (fun _ _ _ => rfl)
  refine ⟨r, v, N', u, M', Rel_up ?_, fun F Q q => ?_, fun F Q q => ?_⟩
  · have g1 : ∀ j, j ≠ 60 → j ≠ 61 → N' j = N j := f1
    have g2 : ∀ j, j ≠ 80 → j ≠ 81 → M' j = M j := f2
    unfold Rel
    simp (disch := decide) only [g1, g2]
    exact h
  · simp (disch := first | omega | decide) only [mX11_histories, mX11_lastMomentSeen, ↓kh_c8, ↓kh_g8_0, ↓kh_g8_1, ↓kh_g8_2, ↓kh_g8_3, ↓kh_g8_4, ↓kh_g8_5, ↓kh_g8_6, ↓kh_g8_7, ↓be_y, ↓be_n, ↓bf_y, ↓bf_n, ↓bl_y, ↓bl_n, ↓bm_y, ↓bm_n, ↓bg_y, ↓bg_n, ↓bs_y, ↓bs_n, ↓bo_y, ↓bo_n, ↓bp_y, ↓bp_n, ↓forall_eq, ↓within_y, ↓within_n, ↓isIn_y, ↓isIn_n, and_true, true_and, and_self, us_at, us_ne, w32_id, um_eq, um_ne, um_um, uu_eq, uu_ne, uu_uu, vv_eq, vv_ne, vv_vv, ne_eq, not_false_eq_true, not_true_eq_false, reduceCtorEq, Int.reduceAdd, Int.reduceSub, Int.reduceMul, Int.reduceNeg, Nat.reduceEqDiff, or_true, true_or, true_implies, false_implies, Int.reduceLT, Int.reduceLE, Int.reduceEq]
    refine ⟨_, lms_c (i := 0) hS ?_ (M 70 5).toNat (by omega)⟩
    refine h10 lb ?_
    rw [mX11_histories_L10]
    simp (disch := first | omega | decide) only [w32_id, ↓kh_c8, ↓kh_g8_0, ↓kh_g8_1, ↓kh_g8_2, ↓kh_g8_3, ↓kh_g8_4, ↓kh_g8_5, ↓kh_g8_6, ↓kh_g8_7, ↓kh_c31, ↓kh_g31_0, ↓kh_g31_1, ↓kh_g31_2, ↓kh_g31_3, ↓kh_g31_4, ↓kh_g31_5, ↓kh_g31_6, ↓kh_g31_7, ↓kh_g31_8, ↓kh_g31_9, ↓kh_g31_10, ↓kh_g31_11, ↓kh_g31_12, ↓kh_p31_12, ↓kh_g31_13, ↓kh_p31_13, ↓kh_g31_14, ↓kh_p31_14, ↓kh_g31_15, ↓kh_p31_15, ↓be_y, ↓be_n, ↓bf_y, ↓bf_n, ↓bl_y, ↓bl_n, ↓bm_y, ↓bm_n, ↓bg_y, ↓bg_n, ↓bs_y, ↓bs_n, ↓bo_y, ↓bo_n, ↓bp_y, ↓bp_n, ↓forall_eq, ↓within_y, ↓within_n, ↓isIn_y, ↓isIn_n, and_true, true_and, and_self, us_at, us_ne, w32_id, um_eq, um_ne, um_um, uu_eq, uu_ne, uu_uu, vv_eq, vv_ne, vv_vv, ne_eq, not_false_eq_true, not_true_eq_false, reduceCtorEq, Int.reduceAdd, Int.reduceSub, Int.reduceMul, Int.reduceNeg, Nat.reduceEqDiff, or_true, true_or, true_implies, false_implies, Int.reduceLT, Int.reduceLE, Int.reduceEq]
    refine code_33 hI.1 ?_
    simp (disch := first | omega | decide) only [w32_id, ↓kh_c8, ↓kh_g8_0, ↓kh_g8_1, ↓kh_g8_2, ↓kh_g8_3, ↓kh_g8_4, ↓kh_g8_5, ↓kh_g8_6, ↓kh_g8_7, ↓kh_c10, ↓kh_g10_0, ↓kh_g10_1, ↓kh_g10_2, ↓kh_g10_3, ↓kh_g10_4, ↓kh_g10_5, ↓kh_g10_6, ↓kh_g10_7, ↓kh_g10_8, ↓kh_g10_9, ↓kh_g10_10, ↓kh_g10_11, ↓kh_g10_12, ↓kh_p10_12, ↓kh_g10_13, ↓kh_p10_13, ↓kh_g10_14, ↓kh_p10_14, ↓kh_g10_15, ↓kh_p10_15, ↓be_y, ↓be_n, ↓bf_y, ↓bf_n, ↓bl_y, ↓bl_n, ↓bm_y, ↓bm_n, ↓bg_y, ↓bg_n, ↓bs_y, ↓bs_n, ↓bo_y, ↓bo_n, ↓bp_y, ↓bp_n, ↓forall_eq, ↓within_y, ↓within_n, ↓isIn_y, ↓isIn_n, and_true, true_and, and_self, us_at, us_ne, w32_id, um_eq, um_ne, um_um, uu_eq, uu_ne, uu_uu, vv_eq, vv_ne, vv_vv, ne_eq, not_false_eq_true, not_true_eq_false, reduceCtorEq, Int.reduceAdd, Int.reduceSub, Int.reduceMul, Int.reduceNeg, Nat.reduceEqDiff, or_true, true_or, true_implies, false_implies, Int.reduceLT, Int.reduceLE, Int.reduceEq]
    refine p3 F _ ?_
    exact ⟨_, k1 F Q q⟩
  · exact ⟨_, lms_r (i := 0) hS ⟨_, k2 F Q q⟩ (M 70 5).toNat (by omega)⟩
end HO4
