section HM
variable {n x1 : Int} {A : Int → Int}
def lms (A : Int → Int) : Nat → Int
  | 0 => 0
  | k + 1 => if lms A k < A (91 + 3 * k) then A (91 + 3 * k) else lms A k
theorem lms_b {y1 y2 : Int} {R : Int → Int} (hS : jS y1 y2 R A) : ∀ k : Nat, k ≤ 4 → 0 ≤ lms A k ∧ lms A k ≤ 3
  | 0, _ => by show (0 : Int) ≤ 0 ∧ (0 : Int) ≤ 3; omega
  | k + 1, hk => by
    have i := lms_b hS k (by omega)
    have p := (hS.2.2 k (by omega) (by omega)).1.2
    unfold lms
    split <;> omega
theorem lms_c {v : Nat → Nat → Int} {N : Nat → Int → Int} {T : Nat → Int → Option Nat} (hS : jS (v 23 1) (v 23 2) (N 24) A) {F : hp} {Q : Int → hp → Prop} (q : Q (lms A (A 5).toNat) (kh F v N T)) : ∀ (k i : Nat), (i : Int) + k = A 5 → mX11_lastMomentSeen_L4 Q (k + 1) 8 (lms A i) i (kh F v N T) := by
  have z := hS.2.1.1
  have a5 := hS.2.1.2
  intro k
  induction k with
  | zero =>
    intro i hi
    obtain rfl : i = (A 5).toNat := by omega
    rw [mX11_lastMomentSeen_L4]
    simp (disch := first | omega | decide) only [w32_id, ↓kh_c8, ↓kh_g8_0, ↓kh_g8_1, ↓kh_g8_2, ↓kh_g8_3, ↓kh_g8_4, ↓kh_g8_5, ↓kh_g8_6, ↓kh_g8_7, ↓kh_c10, ↓kh_g10_0, ↓kh_g10_1, ↓kh_g10_2, ↓kh_g10_3, ↓kh_g10_4, ↓kh_g10_5, ↓kh_g10_6, ↓kh_g10_7, ↓kh_g10_8, ↓kh_g10_9, ↓kh_g10_10, ↓kh_g10_11, ↓kh_g10_12, ↓kh_p10_12, ↓kh_g10_13, ↓kh_p10_13, ↓kh_g10_14, ↓kh_p10_14, ↓kh_g10_15, ↓kh_p10_15, ↓kh_c23, ↓kh_g23_0, ↓kh_g23_1, ↓kh_p23_1, ↓kh_g23_2, ↓kh_p23_2, ↓be_y, ↓be_n, ↓bf_y, ↓bf_n, ↓bl_y, ↓bl_n, ↓bm_y, ↓bm_n, ↓bg_y, ↓bg_n, ↓bs_y, ↓bs_n, ↓bo_y, ↓bo_n, ↓bp_y, ↓bp_n, ↓forall_eq, ↓within_y, ↓within_n, ↓isIn_y, ↓isIn_n, and_true, true_and, and_self, us_at, us_ne, w32_id, um_eq, um_ne, um_um, uu_eq, uu_ne, uu_uu, vv_eq, vv_ne, vv_vv, ne_eq, not_false_eq_true, not_true_eq_false, reduceCtorEq, Int.reduceAdd, Int.reduceSub, Int.reduceMul, Int.reduceNeg, Nat.reduceEqDiff, or_true, true_or, true_implies, false_implies, Int.reduceLT, Int.reduceLE, Int.reduceEq, z]
    exact q
  | succ k ih =>
    intro i hi
    have y := (hS.2.2 i (by omega) (by omega)).1
    have y1' : N 24 (3 * (i : Int) + 0) = A (91 + 3 * i) := by rw [Int.add_zero]; exact y.1
    have lb := lms_b hS i (by omega)
    have g := ih (i + 1) (by omega)
    have e : iMax (lms A i) (A (91 + 3 * i)) = lms A (i + 1) := by
      show _ = if lms A i < A (91 + 3 * i) then A (91 + 3 * i) else lms A i
      by_cases d : lms A i < A (91 + 3 * i)
      · rw [if_pos d, iMax_r (by omega)]
      · rw [if_neg d, iMax_l (by omega)]
    have ei : ((i + 1 : Nat) : Int) = (i : Int) + 1 := by omega
    rw [ei] at g
    rw [mX11_lastMomentSeen_L4]
    simp (disch := first | omega | decide) only [mX7_cell, ↓kh_c8, ↓kh_g8_0, ↓kh_g8_1, ↓kh_g8_2, ↓kh_g8_3, ↓kh_g8_4, ↓kh_g8_5, ↓kh_g8_6, ↓kh_g8_7, ↓kh_c10, ↓kh_g10_0, ↓kh_g10_1, ↓kh_g10_2, ↓kh_g10_3, ↓kh_g10_4, ↓kh_g10_5, ↓kh_g10_6, ↓kh_g10_7, ↓kh_g10_8, ↓kh_g10_9, ↓kh_g10_10, ↓kh_g10_11, ↓kh_g10_12, ↓kh_p10_12, ↓kh_g10_13, ↓kh_p10_13, ↓kh_g10_14, ↓kh_p10_14, ↓kh_g10_15, ↓kh_p10_15, ↓kh_c23, ↓kh_g23_0, ↓kh_g23_1, ↓kh_p23_1, ↓kh_g23_2, ↓kh_p23_2, ↓kh_r24, ↓kh_w24, ↓kh_n24, ↓kh_cp24_45, ↓be_y, ↓be_n, ↓bf_y, ↓bf_n, ↓bl_y, ↓bl_n, ↓bm_y, ↓bm_n, ↓bg_y, ↓bg_n, ↓bs_y, ↓bs_n, ↓bo_y, ↓bo_n, ↓bp_y, ↓bp_n, ↓forall_eq, ↓within_y, ↓within_n, ↓isIn_y, ↓isIn_n, and_true, true_and, and_self, us_at, us_ne, w32_id, um_eq, um_ne, um_um, uu_eq, uu_ne, uu_uu, vv_eq, vv_ne, vv_vv, ne_eq, not_false_eq_true, not_true_eq_false, reduceCtorEq, Int.reduceAdd, Int.reduceSub, Int.reduceMul, Int.reduceNeg, Nat.reduceEqDiff, or_true, true_or, true_implies, false_implies, Int.reduceLT, Int.reduceLE, Int.reduceEq, z, y1', e]
    exact g
end HM
