section HN
variable {n x1 : Int}
def p9 (m : Int) : Int := if m = 0 then 1 else if m = 1 then 9 else if m = 2 then 81 else 729
theorem lms_r {x1 y1 y2 : Int} {R : Int → Int} {u : Nat → Int} {M : Nat → Int → Int} (hS : jS y1 y2 R (M 70)) {F : hp} {Q : Int → hp → Prop} (q : mX12_histories_J78 Q 69 x1 (lms (M 70) (M 70 5).toNat) (p9 (lms (M 70) (M 70 5).toNat)) (rh F u M)) : ∀ (k i : Nat), (i : Int) + k = M 70 5 → mX12_histories_L5 Q (k + 1) 69 x1 (lms (M 70) i) (91 + 3 * i) (rh F u M) := by
  have a5 := hS.2.1.2
  intro k
  induction k with
  | zero =>
    intro i hi
    obtain rfl : i = (M 70 5).toNat := by omega
    have lb := lms_b hS (M 70 5).toNat (by omega)
    unfold p9 at q
    rw [mX12_histories_L5]
    generalize lms (M 70) (M 70 5).toNat = m at *
    obtain rfl | rfl | rfl | rfl : m = 0 ∨ m = 1 ∨ m = 2 ∨ m = 3 := by omega
    all_goals
      simp (disch := first | omega | decide) only [w32_id, ↓rh_rcv, ↓rh_g0, ↓rh_r70, ↓rh_w70, ↓be_y, ↓be_n, ↓bf_y, ↓bf_n, ↓bl_y, ↓bl_n, ↓bm_y, ↓bm_n, ↓bg_y, ↓bg_n, ↓bs_y, ↓bs_n, ↓bo_y, ↓bo_n, ↓bp_y, ↓bp_n, ↓forall_eq, ↓within_y, ↓within_n, ↓isIn_y, ↓isIn_n, and_true, true_and, and_self, us_at, us_ne, w32_id, um_eq, um_ne, um_um, uu_eq, uu_ne, uu_uu, vv_eq, vv_ne, vv_vv, ne_eq, not_false_eq_true, not_true_eq_false, reduceCtorEq, Int.reduceAdd, Int.reduceSub, Int.reduceMul, Int.reduceNeg, Nat.reduceEqDiff, or_true, true_or, true_implies, false_implies, Int.reduceLT, Int.reduceLE, Int.reduceEq]
      exact q
  | succ k ih =>
    intro i hi
    have y := (hS.2.2 i (by omega) (by omega)).1.2
    have lb := lms_b hS i (by omega)
    have g := ih (i + 1) (by omega)
    have ei : (91 : Int) + 3 * ((i + 1 : Nat) : Int) = 91 + 3 * (i : Int) + 3 := by omega
    rw [ei, lms] at g
    rw [mX12_histories_L5]
    by_cases d : lms (M 70) i < M 70 (91 + 3 * i)
    · rw [if_pos d] at g
      simp (disch := first | omega | decide) only [mX12_histories_J40, ↓rh_rcv, ↓rh_g0, ↓rh_r70, ↓rh_w70, ↓be_y, ↓be_n, ↓bf_y, ↓bf_n, ↓bl_y, ↓bl_n, ↓bm_y, ↓bm_n, ↓bg_y, ↓bg_n, ↓bs_y, ↓bs_n, ↓bo_y, ↓bo_n, ↓bp_y, ↓bp_n, ↓forall_eq, ↓within_y, ↓within_n, ↓isIn_y, ↓isIn_n, and_true, true_and, and_self, us_at, us_ne, w32_id, um_eq, um_ne, um_um, uu_eq, uu_ne, uu_uu, vv_eq, vv_ne, vv_vv, ne_eq, not_false_eq_true, not_true_eq_false, reduceCtorEq, Int.reduceAdd, Int.reduceSub, Int.reduceMul, Int.reduceNeg, Nat.reduceEqDiff, or_true, true_or, true_implies, false_implies, Int.reduceLT, Int.reduceLE, Int.reduceEq]
      exact g
    · rw [if_neg d] at g
      simp (disch := first | omega | decide) only [mX12_histories_J40, ↓rh_rcv, ↓rh_g0, ↓rh_r70, ↓rh_w70, ↓be_y, ↓be_n, ↓bf_y, ↓bf_n, ↓bl_y, ↓bl_n, ↓bm_y, ↓bm_n, ↓bg_y, ↓bg_n, ↓bs_y, ↓bs_n, ↓bo_y, ↓bo_n, ↓bp_y, ↓bp_n, ↓forall_eq, ↓within_y, ↓within_n, ↓isIn_y, ↓isIn_n, and_true, true_and, and_self, us_at, us_ne, w32_id, um_eq, um_ne, um_um, uu_eq, uu_ne, uu_uu, vv_eq, vv_ne, vv_vv, ne_eq, not_false_eq_true, not_true_eq_false, reduceCtorEq, Int.reduceAdd, Int.reduceSub, Int.reduceMul, Int.reduceNeg, Nat.reduceEqDiff, or_true, true_or, true_implies, false_implies, Int.reduceLT, Int.reduceLE, Int.reduceEq]
      exact g
theorem h10 {v : Nat → Nat → Int} {N : Nat → Int → Int} {T : Nat → Int → Option Nat} {m : Int} (hm : 0 ≤ m ∧ m ≤ 3) {F : hp} {Q : Int → hp → Prop} (q : mX11_histories_L10 Q 1 8 x1 m (p9 m) m (kh F v N T)) : ∃ k, mX11_histories_L10 Q k 8 x1 m 1 0 (kh F v N T) := by
  obtain rfl | rfl | rfl | rfl : m = 0 ∨ m = 1 ∨ m = 2 ∨ m = 3 := by omega
  · exact ⟨1, q⟩
  · refine ⟨2, ?_⟩
    rw [mX11_histories_L10]
    simp (disch := first | omega | decide) only [w32_id, ↓kh_c8, ↓kh_g8_0, ↓kh_g8_1, ↓kh_g8_2, ↓kh_g8_3, ↓kh_g8_4, ↓kh_g8_5, ↓kh_g8_6, ↓kh_g8_7, ↓be_y, ↓be_n, ↓bf_y, ↓bf_n, ↓bl_y, ↓bl_n, ↓bm_y, ↓bm_n, ↓bg_y, ↓bg_n, ↓bs_y, ↓bs_n, ↓bo_y, ↓bo_n, ↓bp_y, ↓bp_n, ↓forall_eq, ↓within_y, ↓within_n, ↓isIn_y, ↓isIn_n, and_true, true_and, and_self, us_at, us_ne, w32_id, um_eq, um_ne, um_um, uu_eq, uu_ne, uu_uu, vv_eq, vv_ne, vv_vv, ne_eq, not_false_eq_true, not_true_eq_false, reduceCtorEq, Int.reduceAdd, Int.reduceSub, Int.reduceMul, Int.reduceNeg, Nat.reduceEqDiff, or_true, true_or, true_implies, false_implies, Int.reduceLT, Int.reduceLE, Int.reduceEq]
    exact q
  · refine ⟨3, ?_⟩
    rw [mX11_histories_L10]
    simp (disch := first | omega | decide) only [w32_id, ↓kh_c8, ↓kh_g8_0, ↓kh_g8_1, ↓kh_g8_2, ↓kh_g8_3, ↓kh_g8_4, ↓kh_g8_5, ↓kh_g8_6, ↓kh_g8_7, ↓be_y, ↓be_n, ↓bf_y, ↓bf_n, ↓bl_y, ↓bl_n, ↓bm_y, ↓bm_n, ↓bg_y, ↓bg_n, ↓bs_y, ↓bs_n, ↓bo_y, ↓bo_n, ↓bp_y, ↓bp_n, ↓forall_eq, ↓within_y, ↓within_n, ↓isIn_y, ↓isIn_n, and_true, true_and, and_self, us_at, us_ne, w32_id, um_eq, um_ne, um_um, uu_eq, uu_ne, uu_uu, vv_eq, vv_ne, vv_vv, ne_eq, not_false_eq_true, not_true_eq_false, reduceCtorEq, Int.reduceAdd, Int.reduceSub, Int.reduceMul, Int.reduceNeg, Nat.reduceEqDiff, or_true, true_or, true_implies, false_implies, Int.reduceLT, Int.reduceLE, Int.reduceEq]
    rw [mX11_histories_L10]
    simp (disch := first | omega | decide) only [w32_id, ↓kh_c8, ↓kh_g8_0, ↓kh_g8_1, ↓kh_g8_2, ↓kh_g8_3, ↓kh_g8_4, ↓kh_g8_5, ↓kh_g8_6, ↓kh_g8_7, ↓be_y, ↓be_n, ↓bf_y, ↓bf_n, ↓bl_y, ↓bl_n, ↓bm_y, ↓bm_n, ↓bg_y, ↓bg_n, ↓bs_y, ↓bs_n, ↓bo_y, ↓bo_n, ↓bp_y, ↓bp_n, ↓forall_eq, ↓within_y, ↓within_n, ↓isIn_y, ↓isIn_n, and_true, true_and, and_self, us_at, us_ne, w32_id, um_eq, um_ne, um_um, uu_eq, uu_ne, uu_uu, vv_eq, vv_ne, vv_vv, ne_eq, not_false_eq_true, not_true_eq_false, reduceCtorEq, Int.reduceAdd, Int.reduceSub, Int.reduceMul, Int.reduceNeg, Nat.reduceEqDiff, or_true, true_or, true_implies, false_implies, Int.reduceLT, Int.reduceLE, Int.reduceEq]
    exact q
  · refine ⟨4, ?_⟩
    rw [mX11_histories_L10]
    simp (disch := first | omega | decide) only [w32_id, ↓kh_c8, ↓kh_g8_0, ↓kh_g8_1, ↓kh_g8_2, ↓kh_g8_3, ↓kh_g8_4, ↓kh_g8_5, ↓kh_g8_6, ↓kh_g8_7, ↓be_y, ↓be_n, ↓bf_y, ↓bf_n, ↓bl_y, ↓bl_n, ↓bm_y, ↓bm_n, ↓bg_y, ↓bg_n, ↓bs_y, ↓bs_n, ↓bo_y, ↓bo_n, ↓bp_y, ↓bp_n, ↓forall_eq, ↓within_y, ↓within_n, ↓isIn_y, ↓isIn_n, and_true, true_and, and_self, us_at, us_ne, w32_id, um_eq, um_ne, um_um, uu_eq, uu_ne, uu_uu, vv_eq, vv_ne, vv_vv, ne_eq, not_false_eq_true, not_true_eq_false, reduceCtorEq, Int.reduceAdd, Int.reduceSub, Int.reduceMul, Int.reduceNeg, Nat.reduceEqDiff, or_true, true_or, true_implies, false_implies, Int.reduceLT, Int.reduceLE, Int.reduceEq]
    rw [mX11_histories_L10]
    simp (disch := first | omega | decide) only [w32_id, ↓kh_c8, ↓kh_g8_0, ↓kh_g8_1, ↓kh_g8_2, ↓kh_g8_3, ↓kh_g8_4, ↓kh_g8_5, ↓kh_g8_6, ↓kh_g8_7, ↓be_y, ↓be_n, ↓bf_y, ↓bf_n, ↓bl_y, ↓bl_n, ↓bm_y, ↓bm_n, ↓bg_y, ↓bg_n, ↓bs_y, ↓bs_n, ↓bo_y, ↓bo_n, ↓bp_y, ↓bp_n, ↓forall_eq, ↓within_y, ↓within_n, ↓isIn_y, ↓isIn_n, and_true, true_and, and_self, us_at, us_ne, w32_id, um_eq, um_ne, um_um, uu_eq, uu_ne, uu_uu, vv_eq, vv_ne, vv_vv, ne_eq, not_false_eq_true, not_true_eq_false, reduceCtorEq, Int.reduceAdd, Int.reduceSub, Int.reduceMul, Int.reduceNeg, Nat.reduceEqDiff, or_true, true_or, true_implies, false_implies, Int.reduceLT, Int.reduceLE, Int.reduceEq]
    rw [mX11_histories_L10]
    simp (disch := first | omega | decide) only [w32_id, ↓kh_c8, ↓kh_g8_0, ↓kh_g8_1, ↓kh_g8_2, ↓kh_g8_3, ↓kh_g8_4, ↓kh_g8_5, ↓kh_g8_6, ↓kh_g8_7, ↓be_y, ↓be_n, ↓bf_y, ↓bf_n, ↓bl_y, ↓bl_n, ↓bm_y, ↓bm_n, ↓bg_y, ↓bg_n, ↓bs_y, ↓bs_n, ↓bo_y, ↓bo_n, ↓bp_y, ↓bp_n, ↓forall_eq, ↓within_y, ↓within_n, ↓isIn_y, ↓isIn_n, and_true, true_and, and_self, us_at, us_ne, w32_id, um_eq, um_ne, um_um, uu_eq, uu_ne, uu_uu, vv_eq, vv_ne, vv_vv, ne_eq, not_false_eq_true, not_true_eq_false, reduceCtorEq, Int.reduceAdd, Int.reduceSub, Int.reduceMul, Int.reduceNeg, Nat.reduceEqDiff, or_true, true_or, true_implies, false_implies, Int.reduceLT, Int.reduceLE, Int.reduceEq]
    exact q
end HN
