section MV
variable {n x1 x2 : Int} {F G : hp} {v : Nat → Nat → Int} {N : Nat → Int → Int} {T : Nat → Int → Option Nat} {u : Nat → Int} {M : Nat → Int → Int}
theorem up_c (hY : jY (N 12) (M 70)) {t : Int} (ht : 0 ≤ t ∧ t < 3) {Q : Int → hp → Prop} (q : Q (zUp (M 70) t) (kh F v N T)) : mX10_uppermost 11 t (kh F v N T) Q := by
  have w := trk hY ht
  have w1 := w.1
  have w2 := w1.1
  unfold zUp at q
  by_cases d : M 70 (12 + t) = 0
  · rw [if_pos d] at q
    simp (disch := first | omega | decide) only [mX10_uppermost, ↓kh_c11, ↓kh_g11_0, ↓kh_r12, ↓kh_w12, ↓kh_n12, ↓kh_cp12_33, ↓kh_cp12_68, ↓kh_cp12_12, ↓kh_cp12_14, ↓be_y, ↓be_n, ↓bf_y, ↓bf_n, ↓bl_y, ↓bl_n, ↓bm_y, ↓bm_n, ↓bg_y, ↓bg_n, ↓bs_y, ↓bs_n, ↓bo_y, ↓bo_n, ↓bp_y, ↓bp_n, ↓forall_eq, ↓within_y, ↓within_n, ↓isIn_y, ↓isIn_n, and_true, true_and, and_self, us_at, us_ne, w32_id, um_eq, um_ne, um_um, uu_eq, uu_ne, uu_uu, vv_eq, vv_ne, vv_vv, ne_eq, not_false_eq_true, not_true_eq_false, reduceCtorEq, Int.reduceAdd, Int.reduceSub, Int.reduceMul, Int.reduceNeg, Nat.reduceEqDiff, or_true, true_or, true_implies, false_implies, Int.reduceLT, Int.reduceLE, Int.reduceEq, w2]
    exact q
  · rw [if_neg d] at q
    have b := (w.2 (M 70 (12 + t) - 1) (by omega) (by omega)).1
    have e : 14 + 5 * t + M 70 (12 + t) - 1 = 14 + 5 * t + (M 70 (12 + t) - 1) := by omega
    simp (disch := first | omega | decide) only [mX10_uppermost, ↓kh_c11, ↓kh_g11_0, ↓kh_r12, ↓kh_w12, ↓kh_n12, ↓kh_cp12_33, ↓kh_cp12_68, ↓kh_cp12_12, ↓kh_cp12_14, ↓be_y, ↓be_n, ↓bf_y, ↓bf_n, ↓bl_y, ↓bl_n, ↓bm_y, ↓bm_n, ↓bg_y, ↓bg_n, ↓bs_y, ↓bs_n, ↓bo_y, ↓bo_n, ↓bp_y, ↓bp_n, ↓forall_eq, ↓within_y, ↓within_n, ↓isIn_y, ↓isIn_n, and_true, true_and, and_self, us_at, us_ne, w32_id, um_eq, um_ne, um_um, uu_eq, uu_ne, uu_uu, vv_eq, vv_ne, vv_vv, ne_eq, not_false_eq_true, not_true_eq_false, reduceCtorEq, Int.reduceAdd, Int.reduceSub, Int.reduceMul, Int.reduceNeg, Nat.reduceEqDiff, or_true, true_or, true_implies, false_implies, Int.reduceLT, Int.reduceLE, Int.reduceEq, w2, e, b]
    exact q
theorem zUp_b (hY : jY (N 12) (M 70)) {t : Int} (ht : 0 ≤ t ∧ t < 3) : (zUp (M 70) t = -1 ∧ M 70 (12 + t) = 0) ∨ (0 < M 70 (12 + t) ∧ 0 ≤ zUp (M 70) t ∧ zUp (M 70) t < M 70 0 ∧ zUp (M 70) t = M 70 (15 + 5 * t + (M 70 (12 + t) - 1))) := by
  have w := trk hY ht
  unfold zUp
  by_cases d : M 70 (12 + t) = 0
  · rw [if_pos d]; exact .inl ⟨rfl, d⟩
  · rw [if_neg d]
    have b := (w.2 (M 70 (12 + t) - 1) (by omega) (by omega)).2
    exact .inr ⟨by omega, b.1, b.2, rfl⟩
theorem lou_c (hY : jY (N 12) (M 70)) (hC : jC (N 15) (N 16) (N 17) (N 18) (N 19) (M 70)) {t : Int} (ht : 0 ≤ t ∧ t < 3) {Q : Int → hp → Prop} (q : Q (topf (M 70) t) (kh F v N T)) : mX5_loadOfUppermost 10 t (kh F v N T) Q := by
  have hc := jY_c hY
  simp (disch := first | omega | decide) only [mX5_loadOfUppermost, ↓kh_c10, ↓kh_g10_0, ↓kh_g10_1, ↓kh_g10_2, ↓kh_g10_3, ↓kh_g10_4, ↓kh_g10_5, ↓kh_g10_6, ↓kh_g10_7, ↓kh_g10_8, ↓kh_g10_9, ↓kh_g10_10, ↓kh_g10_11, ↓kh_g10_12, ↓kh_p10_12, ↓kh_g10_13, ↓kh_p10_13, ↓kh_g10_14, ↓kh_p10_14, ↓kh_g10_15, ↓kh_p10_15, ↓kh_c11, ↓kh_g11_0, ↓be_y, ↓be_n, ↓bf_y, ↓bf_n, ↓bl_y, ↓bl_n, ↓bm_y, ↓bm_n, ↓bg_y, ↓bg_n, ↓bs_y, ↓bs_n, ↓bo_y, ↓bo_n, ↓bp_y, ↓bp_n, ↓forall_eq, ↓within_y, ↓within_n, ↓isIn_y, ↓isIn_n, and_true, true_and, and_self, us_at, us_ne, w32_id, um_eq, um_ne, um_um, uu_eq, uu_ne, uu_uu, vv_eq, vv_ne, vv_vv, ne_eq, not_false_eq_true, not_true_eq_false, reduceCtorEq, Int.reduceAdd, Int.reduceSub, Int.reduceMul, Int.reduceNeg, Nat.reduceEqDiff, or_true, true_or, true_implies, false_implies, Int.reduceLT, Int.reduceLE, Int.reduceEq]
  refine up_c hY ht ?_
  unfold topf at q
  rcases zUp_b hY ht with ⟨z1, z2⟩ | ⟨z1, z2, z3, z4⟩
  · rw [if_neg (by omega)] at q
    simp (disch := first | omega | decide) only [w32_id, ↓kh_c10, ↓kh_g10_0, ↓kh_g10_1, ↓kh_g10_2, ↓kh_g10_3, ↓kh_g10_4, ↓kh_g10_5, ↓kh_g10_6, ↓kh_g10_7, ↓kh_g10_8, ↓kh_g10_9, ↓kh_g10_10, ↓kh_g10_11, ↓kh_g10_12, ↓kh_p10_12, ↓kh_g10_13, ↓kh_p10_13, ↓kh_g10_14, ↓kh_p10_14, ↓kh_g10_15, ↓kh_p10_15, ↓kh_r16, ↓kh_w16, ↓kh_n16, ↓kh_cp16_37, ↓be_y, ↓be_n, ↓bf_y, ↓bf_n, ↓bl_y, ↓bl_n, ↓bm_y, ↓bm_n, ↓bg_y, ↓bg_n, ↓bs_y, ↓bs_n, ↓bo_y, ↓bo_n, ↓bp_y, ↓bp_n, ↓forall_eq, ↓within_y, ↓within_n, ↓isIn_y, ↓isIn_n, and_true, true_and, and_self, us_at, us_ne, w32_id, um_eq, um_ne, um_um, uu_eq, uu_ne, uu_uu, vv_eq, vv_ne, vv_vv, ne_eq, not_false_eq_true, not_true_eq_false, reduceCtorEq, Int.reduceAdd, Int.reduceSub, Int.reduceMul, Int.reduceNeg, Nat.reduceEqDiff, or_true, true_or, true_implies, false_implies, Int.reduceLT, Int.reduceLE, Int.reduceEq, z1]
    exact q
  · rw [if_pos (by omega), ← z4] at q
    have l := (hC (zUp (M 70) t) z2 (by omega)).2.1
    have l1 := l.1
    simp (disch := first | omega | decide) only [w32_id, ↓kh_c10, ↓kh_g10_0, ↓kh_g10_1, ↓kh_g10_2, ↓kh_g10_3, ↓kh_g10_4, ↓kh_g10_5, ↓kh_g10_6, ↓kh_g10_7, ↓kh_g10_8, ↓kh_g10_9, ↓kh_g10_10, ↓kh_g10_11, ↓kh_g10_12, ↓kh_p10_12, ↓kh_g10_13, ↓kh_p10_13, ↓kh_g10_14, ↓kh_p10_14, ↓kh_g10_15, ↓kh_p10_15, ↓kh_r16, ↓kh_w16, ↓kh_n16, ↓kh_cp16_37, ↓be_y, ↓be_n, ↓bf_y, ↓bf_n, ↓bl_y, ↓bl_n, ↓bm_y, ↓bm_n, ↓bg_y, ↓bg_n, ↓bs_y, ↓bs_n, ↓bo_y, ↓bo_n, ↓bp_y, ↓bp_n, ↓forall_eq, ↓within_y, ↓within_n, ↓isIn_y, ↓isIn_n, and_true, true_and, and_self, us_at, us_ne, w32_id, um_eq, um_ne, um_um, uu_eq, uu_ne, uu_uu, vv_eq, vv_ne, vv_vv, ne_eq, not_false_eq_true, not_true_eq_false, reduceCtorEq, Int.reduceAdd, Int.reduceSub, Int.reduceMul, Int.reduceNeg, Nat.reduceEqDiff, or_true, true_or, true_implies, false_implies, Int.reduceLT, Int.reduceLE, Int.reduceEq, l1]
    exact q
def nmA (E A : Int → Int) (c : Int) : Int → Int := us (us (us (us (us (us E 0 (A 7)) 1 c) 2 (A (41 + c))) 3 (A (36 + c))) 4 (if tb (A 30) c then 1 else 0)) 5 (A (31 + c))
def nmC (E A : Int → Int) (c : Int) : Int → Int := us (us (us (nmA E A c) 11 (topf A 0)) 12 (topf A 1)) 13 (topf A 2)
theorem name_c (hY : jY (N 12) (M 70)) (hC : jC (N 15) (N 16) (N 17) (N 18) (N 19) (M 70)) {c : Int} (hc : 0 ≤ c ∧ c < 5) {Q : hp → Prop} (q : Q (kh F v (um N 29 (nmC (N 29) (M 70) c)) T)) : mX9_nameCar 9 c (kh F v N T) Q := by
  have hcc := jY_c hY
  obtain ⟨y1, y2, y3, y4, y5, y6⟩ := jY_d hY
  have e0 := y1.1
  have e5 := y1.2.2.2.2.2.1
  have o := (y2 c hc.1 (by omega)).1
  have hC1 := hC c hc.1 (by omega)
  have k1 := hC1.1.1
  have k2 := hC1.2.1.1
  have f30 := y6.2.2.2.2.2.1
  have tbx := tb_has (x := M 70 30) (k := c) (by omega) (by omega) (by omega) (by omega)
  unfold nmC nmA at q
  have fin : ∀ E : Int → Int, Q (kh F v (um N 29 (us (us (us E 11 (topf (M 70) 0)) 12 (topf (M 70) 1)) 13 (topf (M 70) 2))) T) → ∃ k, mX9_nameCar_L105 Q k 9 0 (kh F v (um N 29 E) T) := fun E q => by
    refine ⟨4, ?_⟩
    rw [mX9_nameCar_L105]
    simp (disch := first | omega | decide) only [w32_id, ↓kh_c9, ↓kh_g9_0, ↓kh_g9_1, ↓kh_c10, ↓kh_g10_0, ↓kh_g10_1, ↓kh_g10_2, ↓kh_g10_3, ↓kh_g10_4, ↓kh_g10_5, ↓kh_g10_6, ↓kh_g10_7, ↓kh_g10_8, ↓kh_g10_9, ↓kh_g10_10, ↓kh_g10_11, ↓kh_g10_12, ↓kh_p10_12, ↓kh_g10_13, ↓kh_p10_13, ↓kh_g10_14, ↓kh_p10_14, ↓kh_g10_15, ↓kh_p10_15, ↓kh_c28, ↓kh_g28_0, ↓kh_g28_1, ↓kh_g28_2, ↓kh_p28_2, ↓be_y, ↓be_n, ↓bf_y, ↓bf_n, ↓bl_y, ↓bl_n, ↓bm_y, ↓bm_n, ↓bg_y, ↓bg_n, ↓bs_y, ↓bs_n, ↓bo_y, ↓bo_n, ↓bp_y, ↓bp_n, ↓forall_eq, ↓within_y, ↓within_n, ↓isIn_y, ↓isIn_n, and_true, true_and, and_self, us_at, us_ne, w32_id, um_eq, um_ne, um_um, uu_eq, uu_ne, uu_uu, vv_eq, vv_ne, vv_vv, ne_eq, not_false_eq_true, not_true_eq_false, reduceCtorEq, Int.reduceAdd, Int.reduceSub, Int.reduceMul, Int.reduceNeg, Nat.reduceEqDiff, or_true, true_or, true_implies, false_implies, Int.reduceLT, Int.reduceLE, Int.reduceEq]
    refine lou_c (N := um N 29 E) hY hC (by omega) ?_
    simp (disch := first | omega | decide) only [w32_id, ↓kh_c9, ↓kh_g9_0, ↓kh_g9_1, ↓kh_c28, ↓kh_g28_0, ↓kh_g28_1, ↓kh_g28_2, ↓kh_p28_2, ↓kh_r29, ↓kh_w29, ↓kh_n29, ↓be_y, ↓be_n, ↓bf_y, ↓bf_n, ↓bl_y, ↓bl_n, ↓bm_y, ↓bm_n, ↓bg_y, ↓bg_n, ↓bs_y, ↓bs_n, ↓bo_y, ↓bo_n, ↓bp_y, ↓bp_n, ↓forall_eq, ↓within_y, ↓within_n, ↓isIn_y, ↓isIn_n, and_true, true_and, and_self, us_at, us_ne, w32_id, um_eq, um_ne, um_um, uu_eq, uu_ne, uu_uu, vv_eq, vv_ne, vv_vv, ne_eq, not_false_eq_true, not_true_eq_false, reduceCtorEq, Int.reduceAdd, Int.reduceSub, Int.reduceMul, Int.reduceNeg, Nat.reduceEqDiff, or_true, true_or, true_implies, false_implies, Int.reduceLT, Int.reduceLE, Int.reduceEq]
    rw [mX9_nameCar_L105]
    simp (disch := first | omega | decide) only [w32_id, ↓kh_c9, ↓kh_g9_0, ↓kh_g9_1, ↓kh_c10, ↓kh_g10_0, ↓kh_g10_1, ↓kh_g10_2, ↓kh_g10_3, ↓kh_g10_4, ↓kh_g10_5, ↓kh_g10_6, ↓kh_g10_7, ↓kh_g10_8, ↓kh_g10_9, ↓kh_g10_10, ↓kh_g10_11, ↓kh_g10_12, ↓kh_p10_12, ↓kh_g10_13, ↓kh_p10_13, ↓kh_g10_14, ↓kh_p10_14, ↓kh_g10_15, ↓kh_p10_15, ↓kh_c28, ↓kh_g28_0, ↓kh_g28_1, ↓kh_g28_2, ↓kh_p28_2, ↓be_y, ↓be_n, ↓bf_y, ↓bf_n, ↓bl_y, ↓bl_n, ↓bm_y, ↓bm_n, ↓bg_y, ↓bg_n, ↓bs_y, ↓bs_n, ↓bo_y, ↓bo_n, ↓bp_y, ↓bp_n, ↓forall_eq, ↓within_y, ↓within_n, ↓isIn_y, ↓isIn_n, and_true, true_and, and_self, us_at, us_ne, w32_id, um_eq, um_ne, um_um, uu_eq, uu_ne, uu_uu, vv_eq, vv_ne, vv_vv, ne_eq, not_false_eq_true, not_true_eq_false, reduceCtorEq, Int.reduceAdd, Int.reduceSub, Int.reduceMul, Int.reduceNeg, Nat.reduceEqDiff, or_true, true_or, true_implies, false_implies, Int.reduceLT, Int.reduceLE, Int.reduceEq]
    refine lou_c (N := um N 29 _) hY hC (by omega) ?_
    simp (disch := first | omega | decide) only [w32_id, ↓kh_c9, ↓kh_g9_0, ↓kh_g9_1, ↓kh_c28, ↓kh_g28_0, ↓kh_g28_1, ↓kh_g28_2, ↓kh_p28_2, ↓kh_r29, ↓kh_w29, ↓kh_n29, ↓be_y, ↓be_n, ↓bf_y, ↓bf_n, ↓bl_y, ↓bl_n, ↓bm_y, ↓bm_n, ↓bg_y, ↓bg_n, ↓bs_y, ↓bs_n, ↓bo_y, ↓bo_n, ↓bp_y, ↓bp_n, ↓forall_eq, ↓within_y, ↓within_n, ↓isIn_y, ↓isIn_n, and_true, true_and, and_self, us_at, us_ne, w32_id, um_eq, um_ne, um_um, uu_eq, uu_ne, uu_uu, vv_eq, vv_ne, vv_vv, ne_eq, not_false_eq_true, not_true_eq_false, reduceCtorEq, Int.reduceAdd, Int.reduceSub, Int.reduceMul, Int.reduceNeg, Nat.reduceEqDiff, or_true, true_or, true_implies, false_implies, Int.reduceLT, Int.reduceLE, Int.reduceEq]
    rw [mX9_nameCar_L105]
    simp (disch := first | omega | decide) only [w32_id, ↓kh_c9, ↓kh_g9_0, ↓kh_g9_1, ↓kh_c10, ↓kh_g10_0, ↓kh_g10_1, ↓kh_g10_2, ↓kh_g10_3, ↓kh_g10_4, ↓kh_g10_5, ↓kh_g10_6, ↓kh_g10_7, ↓kh_g10_8, ↓kh_g10_9, ↓kh_g10_10, ↓kh_g10_11, ↓kh_g10_12, ↓kh_p10_12, ↓kh_g10_13, ↓kh_p10_13, ↓kh_g10_14, ↓kh_p10_14, ↓kh_g10_15, ↓kh_p10_15, ↓kh_c28, ↓kh_g28_0, ↓kh_g28_1, ↓kh_g28_2, ↓kh_p28_2, ↓be_y, ↓be_n, ↓bf_y, ↓bf_n, ↓bl_y, ↓bl_n, ↓bm_y, ↓bm_n, ↓bg_y, ↓bg_n, ↓bs_y, ↓bs_n, ↓bo_y, ↓bo_n, ↓bp_y, ↓bp_n, ↓forall_eq, ↓within_y, ↓within_n, ↓isIn_y, ↓isIn_n, and_true, true_and, and_self, us_at, us_ne, w32_id, um_eq, um_ne, um_um, uu_eq, uu_ne, uu_uu, vv_eq, vv_ne, vv_vv, ne_eq, not_false_eq_true, not_true_eq_false, reduceCtorEq, Int.reduceAdd, Int.reduceSub, Int.reduceMul, Int.reduceNeg, Nat.reduceEqDiff, or_true, true_or, true_implies, false_implies, Int.reduceLT, Int.reduceLE, Int.reduceEq]
    refine lou_c (N := um N 29 _) hY hC (by omega) ?_
    simp (disch := first | omega | decide) only [w32_id, ↓kh_c9, ↓kh_g9_0, ↓kh_g9_1, ↓kh_c28, ↓kh_g28_0, ↓kh_g28_1, ↓kh_g28_2, ↓kh_p28_2, ↓kh_r29, ↓kh_w29, ↓kh_n29, ↓be_y, ↓be_n, ↓bf_y, ↓bf_n, ↓bl_y, ↓bl_n, ↓bm_y, ↓bm_n, ↓bg_y, ↓bg_n, ↓bs_y, ↓bs_n, ↓bo_y, ↓bo_n, ↓bp_y, ↓bp_n, ↓forall_eq, ↓within_y, ↓within_n, ↓isIn_y, ↓isIn_n, and_true, true_and, and_self, us_at, us_ne, w32_id, um_eq, um_ne, um_um, uu_eq, uu_ne, uu_uu, vv_eq, vv_ne, vv_vv, ne_eq, not_false_eq_true, not_true_eq_false, reduceCtorEq, Int.reduceAdd, Int.reduceSub, Int.reduceMul, Int.reduceNeg, Nat.reduceEqDiff, or_true, true_or, true_implies, false_implies, Int.reduceLT, Int.reduceLE, Int.reduceEq]
    rw [mX9_nameCar_L105]
    simp (disch := first | omega | decide) only [w32_id, ↓kh_c9, ↓kh_g9_0, ↓kh_g9_1, ↓be_y, ↓be_n, ↓bf_y, ↓bf_n, ↓bl_y, ↓bl_n, ↓bm_y, ↓bm_n, ↓bg_y, ↓bg_n, ↓bs_y, ↓bs_n, ↓bo_y, ↓bo_n, ↓bp_y, ↓bp_n, ↓forall_eq, ↓within_y, ↓within_n, ↓isIn_y, ↓isIn_n, and_true, true_and, and_self, us_at, us_ne, w32_id, um_eq, um_ne, um_um, uu_eq, uu_ne, uu_uu, vv_eq, vv_ne, vv_vv, ne_eq, not_false_eq_true, not_true_eq_false, reduceCtorEq, Int.reduceAdd, Int.reduceSub, Int.reduceMul, Int.reduceNeg, Nat.reduceEqDiff, or_true, true_or, true_implies, false_implies, Int.reduceLT, Int.reduceLE, Int.reduceEq]
    exact q
  cases hw : tb (M 70 30) c with
  | true =>
    rw [hw] at q tbx
    simp only [if_true] at q tbx
    simp (disch := first | omega | decide) only [mX9_nameCar, mX9_nameCar_J88, mX10_hourNow, mX10_isWide, mX10_wornOf, ↓kh_c9, ↓kh_g9_0, ↓kh_g9_1, ↓kh_c10, ↓kh_g10_0, ↓kh_g10_1, ↓kh_g10_2, ↓kh_g10_3, ↓kh_g10_4, ↓kh_g10_5, ↓kh_g10_6, ↓kh_g10_7, ↓kh_g10_8, ↓kh_g10_9, ↓kh_g10_10, ↓kh_g10_11, ↓kh_g10_12, ↓kh_p10_12, ↓kh_g10_13, ↓kh_p10_13, ↓kh_g10_14, ↓kh_p10_14, ↓kh_g10_15, ↓kh_p10_15, ↓kh_c11, ↓kh_g11_0, ↓kh_r12, ↓kh_w12, ↓kh_n12, ↓kh_r15, ↓kh_w15, ↓kh_n15, ↓kh_r16, ↓kh_w16, ↓kh_n16, ↓kh_c28, ↓kh_g28_0, ↓kh_g28_1, ↓kh_g28_2, ↓kh_p28_2, ↓kh_r29, ↓kh_w29, ↓kh_n29, ↓kh_cp12_33, ↓kh_cp12_68, ↓kh_cp12_12, ↓kh_cp12_14, ↓kh_cp15_36, ↓kh_cp16_37, ↓be_y, ↓be_n, ↓bf_y, ↓bf_n, ↓bl_y, ↓bl_n, ↓bm_y, ↓bm_n, ↓bg_y, ↓bg_n, ↓bs_y, ↓bs_n, ↓bo_y, ↓bo_n, ↓bp_y, ↓bp_n, ↓forall_eq, ↓within_y, ↓within_n, ↓isIn_y, ↓isIn_n, and_true, true_and, and_self, us_at, us_ne, w32_id, um_eq, um_ne, um_um, uu_eq, uu_ne, uu_uu, vv_eq, vv_ne, vv_vv, ne_eq, not_false_eq_true, not_true_eq_false, reduceCtorEq, Int.reduceAdd, Int.reduceSub, Int.reduceMul, Int.reduceNeg, Nat.reduceEqDiff, or_true, true_or, true_implies, false_implies, Int.reduceLT, Int.reduceLE, Int.reduceEq, e0, e5, k1, k2, o, tbx]
    exact fin _ q
  | false =>
    rw [hw] at q tbx
    simp only [Bool.false_eq_true, if_false] at q tbx
    simp (disch := first | omega | decide) only [mX9_nameCar, mX9_nameCar_J88, mX10_hourNow, mX10_isWide, mX10_wornOf, ↓kh_c9, ↓kh_g9_0, ↓kh_g9_1, ↓kh_c10, ↓kh_g10_0, ↓kh_g10_1, ↓kh_g10_2, ↓kh_g10_3, ↓kh_g10_4, ↓kh_g10_5, ↓kh_g10_6, ↓kh_g10_7, ↓kh_g10_8, ↓kh_g10_9, ↓kh_g10_10, ↓kh_g10_11, ↓kh_g10_12, ↓kh_p10_12, ↓kh_g10_13, ↓kh_p10_13, ↓kh_g10_14, ↓kh_p10_14, ↓kh_g10_15, ↓kh_p10_15, ↓kh_c11, ↓kh_g11_0, ↓kh_r12, ↓kh_w12, ↓kh_n12, ↓kh_r15, ↓kh_w15, ↓kh_n15, ↓kh_r16, ↓kh_w16, ↓kh_n16, ↓kh_c28, ↓kh_g28_0, ↓kh_g28_1, ↓kh_g28_2, ↓kh_p28_2, ↓kh_r29, ↓kh_w29, ↓kh_n29, ↓kh_cp12_33, ↓kh_cp12_68, ↓kh_cp12_12, ↓kh_cp12_14, ↓kh_cp15_36, ↓kh_cp16_37, ↓be_y, ↓be_n, ↓bf_y, ↓bf_n, ↓bl_y, ↓bl_n, ↓bm_y, ↓bm_n, ↓bg_y, ↓bg_n, ↓bs_y, ↓bs_n, ↓bo_y, ↓bo_n, ↓bp_y, ↓bp_n, ↓forall_eq, ↓within_y, ↓within_n, ↓isIn_y, ↓isIn_n, and_true, true_and, and_self, us_at, us_ne, w32_id, um_eq, um_ne, um_um, uu_eq, uu_ne, uu_uu, vv_eq, vv_ne, vv_vv, ne_eq, not_false_eq_true, not_true_eq_false, reduceCtorEq, Int.reduceAdd, Int.reduceSub, Int.reduceMul, Int.reduceNeg, Nat.reduceEqDiff, or_true, true_or, true_implies, false_implies, Int.reduceLT, Int.reduceLE, Int.reduceEq, e0, e5, k1, k2, o, tbx]
    exact fin _ q
theorem name_r (hY : jY (N 12) (M 70)) {c : Int} (hc : 0 ≤ c ∧ c < 5) {Q : hp → Prop} (q : Q (rh F u (um M 75 (nmA (M 75) (M 70) c)))) : mX12_name 69 c (rh F u M) Q := by
  have hcc := jY_c hY
  obtain ⟨y1, y2, y3, y4, y5, y6⟩ := jY_d hY
  have f30 := y6.2.2.2.2.2.1
  have tbx := tb_has (x := M 70 30) (k := c) (by omega) (by omega) (by omega) (by omega)
  unfold nmA at q
  simp (disch := first | omega | decide) only [mX12_name, mX12_isWide, ↓rh_rcv, ↓rh_g0, ↓rh_g20, ↓rh_r70, ↓rh_w70, ↓rh_r75, ↓rh_w75, ↓be_y, ↓be_n, ↓bf_y, ↓bf_n, ↓bl_y, ↓bl_n, ↓bm_y, ↓bm_n, ↓bg_y, ↓bg_n, ↓bs_y, ↓bs_n, ↓bo_y, ↓bo_n, ↓bp_y, ↓bp_n, ↓forall_eq, ↓within_y, ↓within_n, ↓isIn_y, ↓isIn_n, and_true, true_and, and_self, us_at, us_ne, w32_id, um_eq, um_ne, um_um, uu_eq, uu_ne, uu_uu, vv_eq, vv_ne, vv_vv, ne_eq, not_false_eq_true, not_true_eq_false, reduceCtorEq, Int.reduceAdd, Int.reduceSub, Int.reduceMul, Int.reduceNeg, Nat.reduceEqDiff, or_true, true_or, true_implies, false_implies, Int.reduceLT, Int.reduceLE, Int.reduceEq, tbx]
  exact q
theorem nm_env (hY : jY (N 12) (M 70)) (hC : jC (N 15) (N 16) (N 17) (N 18) (N 19) (M 70)) {c : Int} (hc : 0 ≤ c ∧ c < 5) (E E' : Int → Int) : (∀ j, 0 ≤ j → j < 6 → nmC E (M 70) c j = nmA E' (M 70) c j ∧ -1000000 ≤ nmA E' (M 70) c j ∧ nmA E' (M 70) c j ≤ 1000000) ∧ ∀ t, 0 ≤ t → t < 3 → nmC E (M 70) c (11 + t) = topf (M 70) t := by
  have hcc := jY_c hY
  obtain ⟨y1, y2, y3, y4, y5, y6⟩ := jY_d hY
  have o := y2 c hc.1 (by omega)
  have hC1 := hC c hc.1 (by omega)
  have h7 := y6.1
  constructor
  · intro j j0 j1
    have t01 : (if tb (M 70 30) c then (1 : Int) else 0) = 0 ∨ (if tb (M 70 30) c then (1 : Int) else 0) = 1 := by split <;> simp
    unfold nmC nmA
    generalize (if tb (M 70 30) c then (1 : Int) else 0) = wd at t01
    obtain d | d | d | d | d | d : j = 0 ∨ j = 1 ∨ j = 2 ∨ j = 3 ∨ j = 4 ∨ j = 5 := by omega
    all_goals
      subst d
      simp (disch := omega) only [us_at, us_ne, true_and]
      omega
  · intro t t0 t1
    unfold nmC
    obtain d | d | d : t = 0 ∨ t = 1 ∨ t = 2 := by omega
    all_goals
      subst d
      simp (disch := omega) only [us_at, us_ne]
theorem rul_n (hX : jX (v 10 12) (v 10 13) (v 10 14) (M 70)) (h2 : M 70 2 = -1) {Q : Option Nat → hp → Prop} (q : Q none (kh F v N T)) : mX5_rulingText 10 (kh F v N T) Q := by
  have e := hX.2.1.1
  simp (disch := first | omega | decide) only [mX5_rulingText, ↓kh_c10, ↓kh_g10_0, ↓kh_g10_1, ↓kh_g10_2, ↓kh_g10_3, ↓kh_g10_4, ↓kh_g10_5, ↓kh_g10_6, ↓kh_g10_7, ↓kh_g10_8, ↓kh_g10_9, ↓kh_g10_10, ↓kh_g10_11, ↓kh_g10_12, ↓kh_p10_12, ↓kh_g10_13, ↓kh_p10_13, ↓kh_g10_14, ↓kh_p10_14, ↓kh_g10_15, ↓kh_p10_15, ↓be_y, ↓be_n, ↓bf_y, ↓bf_n, ↓bl_y, ↓bl_n, ↓bm_y, ↓bm_n, ↓bg_y, ↓bg_n, ↓bs_y, ↓bs_n, ↓bo_y, ↓bo_n, ↓bp_y, ↓bp_n, ↓forall_eq, ↓within_y, ↓within_n, ↓isIn_y, ↓isIn_n, and_true, true_and, and_self, us_at, us_ne, w32_id, um_eq, um_ne, um_um, uu_eq, uu_ne, uu_uu, vv_eq, vv_ne, vv_vv, ne_eq, not_false_eq_true, not_true_eq_false, reduceCtorEq, Int.reduceAdd, Int.reduceSub, Int.reduceMul, Int.reduceNeg, Nat.reduceEqDiff, or_true, true_or, true_implies, false_implies, Int.reduceLT, Int.reduceLE, Int.reduceEq, e]
  exact q
theorem rul_y (hX : jX (v 10 12) (v 10 13) (v 10 14) (M 70)) (h2 : 0 ≤ M 70 2) {Q : Option Nat → hp → Prop} (q : Q (T 27 (M 70 2)) (kh F v N T)) : mX5_rulingText 10 (kh F v N T) Q := by
  have e := hX.2.1
  have e1 := e.1
  have f := hX.1
  have f1 := f.1
  simp (disch := first | omega | decide) only [mX5_rulingText, ↓kh_c10, ↓kh_g10_0, ↓kh_g10_1, ↓kh_g10_2, ↓kh_g10_3, ↓kh_g10_4, ↓kh_g10_5, ↓kh_g10_6, ↓kh_g10_7, ↓kh_g10_8, ↓kh_g10_9, ↓kh_g10_10, ↓kh_g10_11, ↓kh_g10_12, ↓kh_p10_12, ↓kh_g10_13, ↓kh_p10_13, ↓kh_g10_14, ↓kh_p10_14, ↓kh_g10_15, ↓kh_p10_15, ↓kh_ar27, ↓kh_sr27, ↓be_y, ↓be_n, ↓bf_y, ↓bf_n, ↓bl_y, ↓bl_n, ↓bm_y, ↓bm_n, ↓bg_y, ↓bg_n, ↓bs_y, ↓bs_n, ↓bo_y, ↓bo_n, ↓bp_y, ↓bp_n, ↓forall_eq, ↓within_y, ↓within_n, ↓isIn_y, ↓isIn_n, and_true, true_and, and_self, us_at, us_ne, w32_id, um_eq, um_ne, um_um, uu_eq, uu_ne, uu_uu, vv_eq, vv_ne, vv_vv, ne_eq, not_false_eq_true, not_true_eq_false, reduceCtorEq, Int.reduceAdd, Int.reduceSub, Int.reduceMul, Int.reduceNeg, Nat.reduceEqDiff, or_true, true_or, true_implies, false_implies, Int.reduceLT, Int.reduceLE, Int.reduceEq, e1, f1]
  exact q
theorem moves_b (h : Rel n G v N T u M) {c f t : Int} (hc : 0 ≤ c ∧ c < 5) (hf : 0 ≤ f ∧ f ≤ 2) (ht : 0 ≤ t ∧ t ≤ 2) : ∃ r v' N' M', (-99 ≤ r ∧ r ≤ 99) ∧ Rel n G v' N' T u M' ∧ (N' 12 = N 12 ∧ M' 70 = M 70 ∧ v' 10 = v 10) ∧ (∀ (F : hp) (Q : Int → hp → Prop), (∀ h, 87 ≤ h → F h = G h) → Q r (kh F v' N' T) → mX9_movesSays 9 c f t (kh F v N T) Q) ∧ (∀ (F : hp) (Q : Int → hp → Prop), Q r (rh F u M') → mX12_movesOf 69 c f t (rh F u M) Q) := by
  obtain ⟨hY, hK, hC, hF, hB, hT, hS, hD, hX, hG⟩ := h.1
  have w := trk hY (t := t) (by omega)
  have w1 := w.1
  have w2 := w1.1
  have x2 := hX.2.1
  have x1 := hX.1
  by_cases d : M 70 2 = -1
  · refine ⟨1, v, N, um M 75 (us (us (us (nmA (M 75) (M 70) c) 6 f) 7 t) 8 (M 70 (12 + t))), by omega, h, ⟨rfl, rfl, rfl⟩, fun F Q hF q => ?_, fun F Q q => ?_⟩
    · simp (disch := first | omega | decide) only [mX9_movesSays, ↓kh_c9, ↓kh_g9_0, ↓kh_g9_1, ↓kh_c10, ↓kh_g10_0, ↓kh_g10_1, ↓kh_g10_2, ↓kh_g10_3, ↓kh_g10_4, ↓kh_g10_5, ↓kh_g10_6, ↓kh_g10_7, ↓kh_g10_8, ↓kh_g10_9, ↓kh_g10_10, ↓kh_g10_11, ↓kh_g10_12, ↓kh_p10_12, ↓kh_g10_13, ↓kh_p10_13, ↓kh_g10_14, ↓kh_p10_14, ↓kh_g10_15, ↓kh_p10_15, ↓be_y, ↓be_n, ↓bf_y, ↓bf_n, ↓bl_y, ↓bl_n, ↓bm_y, ↓bm_n, ↓bg_y, ↓bg_n, ↓bs_y, ↓bs_n, ↓bo_y, ↓bo_n, ↓bp_y, ↓bp_n, ↓forall_eq, ↓within_y, ↓within_n, ↓isIn_y, ↓isIn_n, and_true, true_and, and_self, us_at, us_ne, w32_id, um_eq, um_ne, um_um, uu_eq, uu_ne, uu_uu, vv_eq, vv_ne, vv_vv, ne_eq, not_false_eq_true, not_true_eq_false, reduceCtorEq, Int.reduceAdd, Int.reduceSub, Int.reduceMul, Int.reduceNeg, Nat.reduceEqDiff, or_true, true_or, true_implies, false_implies, Int.reduceLT, Int.reduceLE, Int.reduceEq]
      refine rul_n hX d ?_
      exact ⟨fun _ => q, fun n6 e => by cases e⟩
    · simp (disch := first | omega | decide) only [mX12_movesOf, ↓rh_rcv, ↓rh_g0, ↓rh_g20, ↓rh_r70, ↓rh_w70, ↓rh_r75, ↓rh_w75, ↓be_y, ↓be_n, ↓bf_y, ↓bf_n, ↓bl_y, ↓bl_n, ↓bm_y, ↓bm_n, ↓bg_y, ↓bg_n, ↓bs_y, ↓bs_n, ↓bo_y, ↓bo_n, ↓bp_y, ↓bp_n, ↓forall_eq, ↓within_y, ↓within_n, ↓isIn_y, ↓isIn_n, and_true, true_and, and_self, us_at, us_ne, w32_id, um_eq, um_ne, um_um, uu_eq, uu_ne, uu_uu, vv_eq, vv_ne, vv_vv, ne_eq, not_false_eq_true, not_true_eq_false, reduceCtorEq, Int.reduceAdd, Int.reduceSub, Int.reduceMul, Int.reduceNeg, Nat.reduceEqDiff, or_true, true_or, true_implies, false_implies, Int.reduceLT, Int.reduceLE, Int.reduceEq]
      refine name_r hY hc ?_
      simp (disch := first | omega | decide) only [mX12_says, ↓rh_rcv, ↓rh_g0, ↓rh_g20, ↓rh_r70, ↓rh_w70, ↓rh_r75, ↓rh_w75, ↓be_y, ↓be_n, ↓bf_y, ↓bf_n, ↓bl_y, ↓bl_n, ↓bm_y, ↓bm_n, ↓bg_y, ↓bg_n, ↓bs_y, ↓bs_n, ↓bo_y, ↓bo_n, ↓bp_y, ↓bp_n, ↓forall_eq, ↓within_y, ↓within_n, ↓isIn_y, ↓isIn_n, and_true, true_and, and_self, us_at, us_ne, w32_id, um_eq, um_ne, um_um, uu_eq, uu_ne, uu_uu, vv_eq, vv_ne, vv_vv, ne_eq, not_false_eq_true, not_true_eq_false, reduceCtorEq, Int.reduceAdd, Int.reduceSub, Int.reduceMul, Int.reduceNeg, Nat.reduceEqDiff, or_true, true_or, true_implies, false_implies, Int.reduceLT, Int.reduceLE, Int.reduceEq, d]
      refine ⟨1, ?_⟩
      rw [mX12_says_L2]
      simp (disch := first | omega | decide) only [w32_id, ↓rh_rcv, ↓rh_g0, ↓be_y, ↓be_n, ↓bf_y, ↓bf_n, ↓bl_y, ↓bl_n, ↓bm_y, ↓bm_n, ↓bg_y, ↓bg_n, ↓bs_y, ↓bs_n, ↓bo_y, ↓bo_n, ↓bp_y, ↓bp_n, ↓forall_eq, ↓within_y, ↓within_n, ↓isIn_y, ↓isIn_n, and_true, true_and, and_self, us_at, us_ne, w32_id, um_eq, um_ne, um_um, uu_eq, uu_ne, uu_uu, vv_eq, vv_ne, vv_vv, ne_eq, not_false_eq_true, not_true_eq_false, reduceCtorEq, Int.reduceAdd, Int.reduceSub, Int.reduceMul, Int.reduceNeg, Nat.reduceEqDiff, or_true, true_or, true_implies, false_implies, Int.reduceLT, Int.reduceLE, Int.reduceEq]
      exact q
  · obtain ⟨hh, fs, e1, e2, e3, e4⟩ := say_b (w := 0) (hG (M 70 2) (by omega) (by omega)) (by omega) (.inl rfl)
    rcases e4 with ⟨n1, n2⟩ | ⟨n1, n2⟩
    · refine ⟨1, v, N, um M 75 (us (us (us (nmA (M 75) (M 70) c) 6 f) 7 t) 8 (M 70 (12 + t))), by omega, h, ⟨rfl, rfl, rfl⟩, fun F Q hF q => ?_, fun F Q q => ?_⟩
      · simp (disch := first | omega | decide) only [mX9_movesSays, ↓kh_c9, ↓kh_g9_0, ↓kh_g9_1, ↓kh_c10, ↓kh_g10_0, ↓kh_g10_1, ↓kh_g10_2, ↓kh_g10_3, ↓kh_g10_4, ↓kh_g10_5, ↓kh_g10_6, ↓kh_g10_7, ↓kh_g10_8, ↓kh_g10_9, ↓kh_g10_10, ↓kh_g10_11, ↓kh_g10_12, ↓kh_p10_12, ↓kh_g10_13, ↓kh_p10_13, ↓kh_g10_14, ↓kh_p10_14, ↓kh_g10_15, ↓kh_p10_15, ↓be_y, ↓be_n, ↓bf_y, ↓bf_n, ↓bl_y, ↓bl_n, ↓bm_y, ↓bm_n, ↓bg_y, ↓bg_n, ↓bs_y, ↓bs_n, ↓bo_y, ↓bo_n, ↓bp_y, ↓bp_n, ↓forall_eq, ↓within_y, ↓within_n, ↓isIn_y, ↓isIn_n, and_true, true_and, and_self, us_at, us_ne, w32_id, um_eq, um_ne, um_um, uu_eq, uu_ne, uu_uu, vv_eq, vv_ne, vv_vv, ne_eq, not_false_eq_true, not_true_eq_false, reduceCtorEq, Int.reduceAdd, Int.reduceSub, Int.reduceMul, Int.reduceNeg, Nat.reduceEqDiff, or_true, true_or, true_implies, false_implies, Int.reduceLT, Int.reduceLE, Int.reduceEq]
        refine rul_y hX (by omega) ?_
        refine ⟨fun e => (by rw [e1] at e; cases e), fun n6 e => ?_⟩
        rw [e1] at e
        cases e
        rw [kt_c (by rw [hF hh e2]; exact e3) e2]
        refine n1 F v N T _ hF ?_
        exact ⟨fun _ => q, fun e => absurd (w32_id (x := 0) (by decide) (by decide)) e⟩
      · simp (disch := first | omega | decide) only [mX12_movesOf, ↓rh_rcv, ↓rh_g0, ↓rh_g20, ↓rh_r70, ↓rh_w70, ↓rh_r75, ↓rh_w75, ↓be_y, ↓be_n, ↓bf_y, ↓bf_n, ↓bl_y, ↓bl_n, ↓bm_y, ↓bm_n, ↓bg_y, ↓bg_n, ↓bs_y, ↓bs_n, ↓bo_y, ↓bo_n, ↓bp_y, ↓bp_n, ↓forall_eq, ↓within_y, ↓within_n, ↓isIn_y, ↓isIn_n, and_true, true_and, and_self, us_at, us_ne, w32_id, um_eq, um_ne, um_um, uu_eq, uu_ne, uu_uu, vv_eq, vv_ne, vv_vv, ne_eq, not_false_eq_true, not_true_eq_false, reduceCtorEq, Int.reduceAdd, Int.reduceSub, Int.reduceMul, Int.reduceNeg, Nat.reduceEqDiff, or_true, true_or, true_implies, false_implies, Int.reduceLT, Int.reduceLE, Int.reduceEq]
        refine name_r hY hc ?_
        simp (disch := first | omega | decide) only [w32_id, ↓rh_rcv, ↓rh_g0, ↓rh_g20, ↓rh_r70, ↓rh_w70, ↓rh_r75, ↓rh_w75, ↓be_y, ↓be_n, ↓bf_y, ↓bf_n, ↓bl_y, ↓bl_n, ↓bm_y, ↓bm_n, ↓bg_y, ↓bg_n, ↓bs_y, ↓bs_n, ↓bo_y, ↓bo_n, ↓bp_y, ↓bp_n, ↓forall_eq, ↓within_y, ↓within_n, ↓isIn_y, ↓isIn_n, and_true, true_and, and_self, us_at, us_ne, w32_id, um_eq, um_ne, um_um, uu_eq, uu_ne, uu_uu, vv_eq, vv_ne, vv_vv, ne_eq, not_false_eq_true, not_true_eq_false, reduceCtorEq, Int.reduceAdd, Int.reduceSub, Int.reduceMul, Int.reduceNeg, Nat.reduceEqDiff, or_true, true_or, true_implies, false_implies, Int.reduceLT, Int.reduceLE, Int.reduceEq]
        exact n2 F u _ Q rfl q
    · have nv := nm_env hY hC hc (N 29) (M 75)
      obtain ⟨r, h', P', V', B', r0, r1, r2⟩ := n2 v (um N 29 (us (us (us (nmC (N 29) (M 70) c) 6 f) 7 t) 8 (M 70 (12 + t)))) T u (um M 75 (us (us (us (nmA (M 75) (M 70) c) 6 f) 7 t) 8 (M 70 (12 + t)))) rfl hY hC (fun s s0 s1 => by
          show us (us (us _ 6 f) 7 t) 8 _ (11 + s) = topf (M 70) s
          simp (disch := omega) only [us_ne]
          exact nv.2 s s0 s1) (fun j j0 j1 j2 _ => by
          have j2 := j2 rfl
          show us (us (us _ 6 f) 7 t) 8 _ j = us (us (us _ 6 f) 7 t) 8 _ j ∧ -1000000 ≤ us (us (us _ 6 f) 7 t) 8 _ j ∧ us (us (us _ 6 f) 7 t) 8 _ j ≤ 1000000
          obtain e | e | e | e : j < 6 ∨ j = 6 ∨ j = 7 ∨ j = 8 := by omega
          · simp (disch := omega) only [us_ne]
            exact nv.1 j j0 e
          all_goals
            subst e
            simp (disch := omega) only [us_at, us_ne, true_and]
            omega)
      refine ⟨r, vv v 28 2 h', um (um N 29 (us (us (us (nmC (N 29) (M 70) c) 6 f) 7 t) 8 (M 70 (12 + t)))) 30 P', um (um (um M 75 (us (us (us (nmA (M 75) (M 70) c) 6 f) 7 t) 8 (M 70 (12 + t)))) 76 V') 77 B', r0, h, ⟨rfl, rfl, rfl⟩, fun F Q hF q => ?_, fun F Q q => ?_⟩
      · simp (disch := first | omega | decide) only [mX9_movesSays, ↓kh_c9, ↓kh_g9_0, ↓kh_g9_1, ↓kh_c10, ↓kh_g10_0, ↓kh_g10_1, ↓kh_g10_2, ↓kh_g10_3, ↓kh_g10_4, ↓kh_g10_5, ↓kh_g10_6, ↓kh_g10_7, ↓kh_g10_8, ↓kh_g10_9, ↓kh_g10_10, ↓kh_g10_11, ↓kh_g10_12, ↓kh_p10_12, ↓kh_g10_13, ↓kh_p10_13, ↓kh_g10_14, ↓kh_p10_14, ↓kh_g10_15, ↓kh_p10_15, ↓be_y, ↓be_n, ↓bf_y, ↓bf_n, ↓bl_y, ↓bl_n, ↓bm_y, ↓bm_n, ↓bg_y, ↓bg_n, ↓bs_y, ↓bs_n, ↓bo_y, ↓bo_n, ↓bp_y, ↓bp_n, ↓forall_eq, ↓within_y, ↓within_n, ↓isIn_y, ↓isIn_n, and_true, true_and, and_self, us_at, us_ne, w32_id, um_eq, um_ne, um_um, uu_eq, uu_ne, uu_uu, vv_eq, vv_ne, vv_vv, ne_eq, not_false_eq_true, not_true_eq_false, reduceCtorEq, Int.reduceAdd, Int.reduceSub, Int.reduceMul, Int.reduceNeg, Nat.reduceEqDiff, or_true, true_or, true_implies, false_implies, Int.reduceLT, Int.reduceLE, Int.reduceEq]
        refine rul_y hX (by omega) ?_
        refine ⟨fun e => (by rw [e1] at e; cases e), fun n6 e => ?_⟩
        rw [e1] at e
        cases e
        rw [kt_c (by rw [hF hh e2]; exact e3) e2]
        refine n1 F v N T _ hF ?_
        refine ⟨fun e => (by rw [w32_id (by decide) (by decide)] at e; cases e), fun _ => ?_⟩
        simp (disch := first | omega | decide) only [w32_id, ↓kh_c9, ↓kh_g9_0, ↓kh_g9_1, ↓be_y, ↓be_n, ↓bf_y, ↓bf_n, ↓bl_y, ↓bl_n, ↓bm_y, ↓bm_n, ↓bg_y, ↓bg_n, ↓bs_y, ↓bs_n, ↓bo_y, ↓bo_n, ↓bp_y, ↓bp_n, ↓forall_eq, ↓within_y, ↓within_n, ↓isIn_y, ↓isIn_n, and_true, true_and, and_self, us_at, us_ne, w32_id, um_eq, um_ne, um_um, uu_eq, uu_ne, uu_uu, vv_eq, vv_ne, vv_vv, ne_eq, not_false_eq_true, not_true_eq_false, reduceCtorEq, Int.reduceAdd, Int.reduceSub, Int.reduceMul, Int.reduceNeg, Nat.reduceEqDiff, or_true, true_or, true_implies, false_implies, Int.reduceLT, Int.reduceLE, Int.reduceEq]
        refine name_c hY hC hc ?_
        simp (disch := first | omega | decide) only [mX10_countOn, ↓kh_c9, ↓kh_g9_0, ↓kh_g9_1, ↓kh_c10, ↓kh_g10_0, ↓kh_g10_1, ↓kh_g10_2, ↓kh_g10_3, ↓kh_g10_4, ↓kh_g10_5, ↓kh_g10_6, ↓kh_g10_7, ↓kh_g10_8, ↓kh_g10_9, ↓kh_g10_10, ↓kh_g10_11, ↓kh_g10_12, ↓kh_p10_12, ↓kh_g10_13, ↓kh_p10_13, ↓kh_g10_14, ↓kh_p10_14, ↓kh_g10_15, ↓kh_p10_15, ↓kh_c11, ↓kh_g11_0, ↓kh_r12, ↓kh_w12, ↓kh_n12, ↓kh_c28, ↓kh_g28_0, ↓kh_g28_1, ↓kh_g28_2, ↓kh_p28_2, ↓kh_r29, ↓kh_w29, ↓kh_n29, ↓kh_cp12_33, ↓kh_cp12_68, ↓kh_cp12_12, ↓kh_cp12_14, ↓be_y, ↓be_n, ↓bf_y, ↓bf_n, ↓bl_y, ↓bl_n, ↓bm_y, ↓bm_n, ↓bg_y, ↓bg_n, ↓bs_y, ↓bs_n, ↓bo_y, ↓bo_n, ↓bp_y, ↓bp_n, ↓forall_eq, ↓within_y, ↓within_n, ↓isIn_y, ↓isIn_n, and_true, true_and, and_self, us_at, us_ne, w32_id, um_eq, um_ne, um_um, uu_eq, uu_ne, uu_uu, vv_eq, vv_ne, vv_vv, ne_eq, not_false_eq_true, not_true_eq_false, reduceCtorEq, Int.reduceAdd, Int.reduceSub, Int.reduceMul, Int.reduceNeg, Nat.reduceEqDiff, or_true, true_or, true_implies, false_implies, Int.reduceLT, Int.reduceLE, Int.reduceEq, w2]
        exact r1 F Q hF q
      · simp (disch := first | omega | decide) only [mX12_movesOf, ↓rh_rcv, ↓rh_g0, ↓rh_g20, ↓rh_r70, ↓rh_w70, ↓rh_r75, ↓rh_w75, ↓be_y, ↓be_n, ↓bf_y, ↓bf_n, ↓bl_y, ↓bl_n, ↓bm_y, ↓bm_n, ↓bg_y, ↓bg_n, ↓bs_y, ↓bs_n, ↓bo_y, ↓bo_n, ↓bp_y, ↓bp_n, ↓forall_eq, ↓within_y, ↓within_n, ↓isIn_y, ↓isIn_n, and_true, true_and, and_self, us_at, us_ne, w32_id, um_eq, um_ne, um_um, uu_eq, uu_ne, uu_uu, vv_eq, vv_ne, vv_vv, ne_eq, not_false_eq_true, not_true_eq_false, reduceCtorEq, Int.reduceAdd, Int.reduceSub, Int.reduceMul, Int.reduceNeg, Nat.reduceEqDiff, or_true, true_or, true_implies, false_implies, Int.reduceLT, Int.reduceLE, Int.reduceEq]
        refine name_r hY hc ?_
        simp (disch := first | omega | decide) only [w32_id, ↓rh_rcv, ↓rh_g0, ↓rh_g20, ↓rh_r70, ↓rh_w70, ↓rh_r75, ↓rh_w75, ↓be_y, ↓be_n, ↓bf_y, ↓bf_n, ↓bl_y, ↓bl_n, ↓bm_y, ↓bm_n, ↓bg_y, ↓bg_n, ↓bs_y, ↓bs_n, ↓bo_y, ↓bo_n, ↓bp_y, ↓bp_n, ↓forall_eq, ↓within_y, ↓within_n, ↓isIn_y, ↓isIn_n, and_true, true_and, and_self, us_at, us_ne, w32_id, um_eq, um_ne, um_um, uu_eq, uu_ne, uu_uu, vv_eq, vv_ne, vv_vv, ne_eq, not_false_eq_true, not_true_eq_false, reduceCtorEq, Int.reduceAdd, Int.reduceSub, Int.reduceMul, Int.reduceNeg, Nat.reduceEqDiff, or_true, true_or, true_implies, false_implies, Int.reduceLT, Int.reduceLE, Int.reduceEq]
        exact r2 F Q q
theorem chg_b (h : Rel n G v N T u M) {c : Int} (hc : 0 ≤ c ∧ c < 5) {k0 : Int} (hk : k0 = -1 ∨ (0 ≤ k0 ∧ k0 < M 70 1)) {rf : Option Nat} (hr : (k0 = -1 → rf = none) ∧ (0 ≤ k0 → rf = T 27 k0)) : ∃ r v' N' M', (-99 ≤ r ∧ r ≤ 99) ∧ Rel n G v' N' T u M' ∧ (N' 12 = N 12 ∧ M' 70 = M 70 ∧ v' 10 = v 10 ∧ N' 26 = N 26 ∧ v' 25 = v 25) ∧ (∀ (F : hp) (Q : Int → hp → Prop), (∀ h, 87 ≤ h → F h = G h) → Q r (kh F v' N' T) → mX9_changesSays 9 rf c (kh F v N T) Q) ∧ (∀ (F : hp) (Q : Int → hp → Prop), Q r (rh F u M') → mX12_changesOf 69 k0 c (rh F u M) Q) := by
  obtain ⟨hY, hK, hC, hF, hB, hT, hS, hD, hX, hG⟩ := h.1
  have yd := jY_d hY
  have y2 := yd.1.2.2.1
  have y3 := yd.1.2.2.2.1
  have b9 := yd.2.2.2.2.2.2.2.1
  have b10 := yd.2.2.2.2.2.2.2.2.1
  have x1 := hX.1
  by_cases d : k0 = -1
  · have hr1 := hr.1 d
    subst hr1
    refine ⟨1, v, N, um M 75 (us (us (nmA (M 75) (M 70) c) 9 (M 70 9)) 10 (M 70 10)), by omega, h, ⟨rfl, rfl, rfl, rfl, rfl⟩, fun F Q hF q => ?_, fun F Q q => ?_⟩
    · unfold mX9_changesSays
      exact ⟨fun _ => q, fun n6 e => by cases e⟩
    · simp (disch := first | omega | decide) only [mX12_changesOf, ↓rh_rcv, ↓rh_g0, ↓rh_g20, ↓rh_r70, ↓rh_w70, ↓rh_r75, ↓rh_w75, ↓be_y, ↓be_n, ↓bf_y, ↓bf_n, ↓bl_y, ↓bl_n, ↓bm_y, ↓bm_n, ↓bg_y, ↓bg_n, ↓bs_y, ↓bs_n, ↓bo_y, ↓bo_n, ↓bp_y, ↓bp_n, ↓forall_eq, ↓within_y, ↓within_n, ↓isIn_y, ↓isIn_n, and_true, true_and, and_self, us_at, us_ne, w32_id, um_eq, um_ne, um_um, uu_eq, uu_ne, uu_uu, vv_eq, vv_ne, vv_vv, ne_eq, not_false_eq_true, not_true_eq_false, reduceCtorEq, Int.reduceAdd, Int.reduceSub, Int.reduceMul, Int.reduceNeg, Nat.reduceEqDiff, or_true, true_or, true_implies, false_implies, Int.reduceLT, Int.reduceLE, Int.reduceEq]
      refine name_r hY hc ?_
      simp (disch := first | omega | decide) only [mX12_says, ↓rh_rcv, ↓rh_g0, ↓rh_g20, ↓rh_r70, ↓rh_w70, ↓rh_r75, ↓rh_w75, ↓be_y, ↓be_n, ↓bf_y, ↓bf_n, ↓bl_y, ↓bl_n, ↓bm_y, ↓bm_n, ↓bg_y, ↓bg_n, ↓bs_y, ↓bs_n, ↓bo_y, ↓bo_n, ↓bp_y, ↓bp_n, ↓forall_eq, ↓within_y, ↓within_n, ↓isIn_y, ↓isIn_n, and_true, true_and, and_self, us_at, us_ne, w32_id, um_eq, um_ne, um_um, uu_eq, uu_ne, uu_uu, vv_eq, vv_ne, vv_vv, ne_eq, not_false_eq_true, not_true_eq_false, reduceCtorEq, Int.reduceAdd, Int.reduceSub, Int.reduceMul, Int.reduceNeg, Nat.reduceEqDiff, or_true, true_or, true_implies, false_implies, Int.reduceLT, Int.reduceLE, Int.reduceEq, d]
      refine ⟨1, ?_⟩
      rw [mX12_says_L2]
      simp (disch := first | omega | decide) only [w32_id, ↓rh_rcv, ↓rh_g0, ↓be_y, ↓be_n, ↓bf_y, ↓bf_n, ↓bl_y, ↓bl_n, ↓bm_y, ↓bm_n, ↓bg_y, ↓bg_n, ↓bs_y, ↓bs_n, ↓bo_y, ↓bo_n, ↓bp_y, ↓bp_n, ↓forall_eq, ↓within_y, ↓within_n, ↓isIn_y, ↓isIn_n, and_true, true_and, and_self, us_at, us_ne, w32_id, um_eq, um_ne, um_um, uu_eq, uu_ne, uu_uu, vv_eq, vv_ne, vv_vv, ne_eq, not_false_eq_true, not_true_eq_false, reduceCtorEq, Int.reduceAdd, Int.reduceSub, Int.reduceMul, Int.reduceNeg, Nat.reduceEqDiff, or_true, true_or, true_implies, false_implies, Int.reduceLT, Int.reduceLE, Int.reduceEq]
      exact q
  · obtain ⟨hh, fs, e1, e2, e3, e4⟩ := say_b (w := 1) (hG k0 (by omega) (by omega)) (by omega) (.inr rfl)
    have hr1 := hr.2 (by omega)
    rw [e1] at hr1
    subst hr1
    rcases e4 with ⟨n1, n2⟩ | ⟨n1, n2⟩
    · refine ⟨1, v, N, um M 75 (us (us (nmA (M 75) (M 70) c) 9 (M 70 9)) 10 (M 70 10)), by omega, h, ⟨rfl, rfl, rfl, rfl, rfl⟩, fun F Q hF q => ?_, fun F Q q => ?_⟩
      · unfold mX9_changesSays
        refine ⟨fun e => (by cases e), fun n6 e => ?_⟩
        cases e
        rw [kt_c (by rw [hF hh e2]; exact e3) e2]
        refine n1 F v N T _ hF ?_
        exact ⟨fun _ => q, fun e => absurd (w32_id (x := 0) (by decide) (by decide)) e⟩
      · simp (disch := first | omega | decide) only [mX12_changesOf, ↓rh_rcv, ↓rh_g0, ↓rh_g20, ↓rh_r70, ↓rh_w70, ↓rh_r75, ↓rh_w75, ↓be_y, ↓be_n, ↓bf_y, ↓bf_n, ↓bl_y, ↓bl_n, ↓bm_y, ↓bm_n, ↓bg_y, ↓bg_n, ↓bs_y, ↓bs_n, ↓bo_y, ↓bo_n, ↓bp_y, ↓bp_n, ↓forall_eq, ↓within_y, ↓within_n, ↓isIn_y, ↓isIn_n, and_true, true_and, and_self, us_at, us_ne, w32_id, um_eq, um_ne, um_um, uu_eq, uu_ne, uu_uu, vv_eq, vv_ne, vv_vv, ne_eq, not_false_eq_true, not_true_eq_false, reduceCtorEq, Int.reduceAdd, Int.reduceSub, Int.reduceMul, Int.reduceNeg, Nat.reduceEqDiff, or_true, true_or, true_implies, false_implies, Int.reduceLT, Int.reduceLE, Int.reduceEq]
        refine name_r hY hc ?_
        simp (disch := first | omega | decide) only [w32_id, ↓rh_rcv, ↓rh_g0, ↓rh_g20, ↓rh_r70, ↓rh_w70, ↓rh_r75, ↓rh_w75, ↓be_y, ↓be_n, ↓bf_y, ↓bf_n, ↓bl_y, ↓bl_n, ↓bm_y, ↓bm_n, ↓bg_y, ↓bg_n, ↓bs_y, ↓bs_n, ↓bo_y, ↓bo_n, ↓bp_y, ↓bp_n, ↓forall_eq, ↓within_y, ↓within_n, ↓isIn_y, ↓isIn_n, and_true, true_and, and_self, us_at, us_ne, w32_id, um_eq, um_ne, um_um, uu_eq, uu_ne, uu_uu, vv_eq, vv_ne, vv_vv, ne_eq, not_false_eq_true, not_true_eq_false, reduceCtorEq, Int.reduceAdd, Int.reduceSub, Int.reduceMul, Int.reduceNeg, Nat.reduceEqDiff, or_true, true_or, true_implies, false_implies, Int.reduceLT, Int.reduceLE, Int.reduceEq]
        exact n2 F u _ Q rfl q
    · have nv := nm_env hY hC hc (N 29) (M 75)
      obtain ⟨r, h', P', V', B', r0, r1, r2⟩ := n2 v (um N 29 (us (us (nmC (N 29) (M 70) c) 9 (M 70 9)) 10 (M 70 10))) T u (um M 75 (us (us (nmA (M 75) (M 70) c) 9 (M 70 9)) 10 (M 70 10))) rfl hY hC (fun s s0 s1 => by
          show us (us _ 9 _) 10 _ (11 + s) = topf (M 70) s
          simp (disch := omega) only [us_ne]
          exact nv.2 s s0 s1) (fun j j0 j1 _ j2 => by
          have j2 := j2 rfl
          show us (us _ 9 _) 10 _ j = us (us _ 9 _) 10 _ j ∧ -1000000 ≤ us (us _ 9 _) 10 _ j ∧ us (us _ 9 _) 10 _ j ≤ 1000000
          obtain e | e | e : j < 6 ∨ j = 9 ∨ j = 10 := by omega
          · simp (disch := omega) only [us_ne]
            exact nv.1 j j0 e
          all_goals
            subst e
            simp (disch := omega) only [us_at, us_ne, true_and]
            omega)
      refine ⟨r, vv v 28 2 h', um (um N 29 (us (us (nmC (N 29) (M 70) c) 9 (M 70 9)) 10 (M 70 10))) 30 P', um (um (um M 75 (us (us (nmA (M 75) (M 70) c) 9 (M 70 9)) 10 (M 70 10))) 76 V') 77 B', r0, h, ⟨rfl, rfl, rfl, rfl, rfl⟩, fun F Q hF q => ?_, fun F Q q => ?_⟩
      · unfold mX9_changesSays
        refine ⟨fun e => (by cases e), fun n6 e => ?_⟩
        cases e
        rw [kt_c (by rw [hF hh e2]; exact e3) e2]
        refine n1 F v N T _ hF ?_
        refine ⟨fun e => (by rw [w32_id (by decide) (by decide)] at e; cases e), fun _ => ?_⟩
        simp (disch := first | omega | decide) only [w32_id, ↓kh_c9, ↓kh_g9_0, ↓kh_g9_1, ↓be_y, ↓be_n, ↓bf_y, ↓bf_n, ↓bl_y, ↓bl_n, ↓bm_y, ↓bm_n, ↓bg_y, ↓bg_n, ↓bs_y, ↓bs_n, ↓bo_y, ↓bo_n, ↓bp_y, ↓bp_n, ↓forall_eq, ↓within_y, ↓within_n, ↓isIn_y, ↓isIn_n, and_true, true_and, and_self, us_at, us_ne, w32_id, um_eq, um_ne, um_um, uu_eq, uu_ne, uu_uu, vv_eq, vv_ne, vv_vv, ne_eq, not_false_eq_true, not_true_eq_false, reduceCtorEq, Int.reduceAdd, Int.reduceSub, Int.reduceMul, Int.reduceNeg, Nat.reduceEqDiff, or_true, true_or, true_implies, false_implies, Int.reduceLT, Int.reduceLE, Int.reduceEq]
        refine name_c hY hC hc ?_
        simp (disch := first | omega | decide) only [mX10_wheelsOf, ↓kh_c9, ↓kh_g9_0, ↓kh_g9_1, ↓kh_c10, ↓kh_g10_0, ↓kh_g10_1, ↓kh_g10_2, ↓kh_g10_3, ↓kh_g10_4, ↓kh_g10_5, ↓kh_g10_6, ↓kh_g10_7, ↓kh_g10_8, ↓kh_g10_9, ↓kh_g10_10, ↓kh_g10_11, ↓kh_g10_12, ↓kh_p10_12, ↓kh_g10_13, ↓kh_p10_13, ↓kh_g10_14, ↓kh_p10_14, ↓kh_g10_15, ↓kh_p10_15, ↓kh_c11, ↓kh_g11_0, ↓kh_r12, ↓kh_w12, ↓kh_n12, ↓kh_c28, ↓kh_g28_0, ↓kh_g28_1, ↓kh_g28_2, ↓kh_p28_2, ↓kh_r29, ↓kh_w29, ↓kh_n29, ↓kh_cp12_33, ↓kh_cp12_68, ↓kh_cp12_12, ↓kh_cp12_14, ↓be_y, ↓be_n, ↓bf_y, ↓bf_n, ↓bl_y, ↓bl_n, ↓bm_y, ↓bm_n, ↓bg_y, ↓bg_n, ↓bs_y, ↓bs_n, ↓bo_y, ↓bo_n, ↓bp_y, ↓bp_n, ↓forall_eq, ↓within_y, ↓within_n, ↓isIn_y, ↓isIn_n, and_true, true_and, and_self, us_at, us_ne, w32_id, um_eq, um_ne, um_um, uu_eq, uu_ne, uu_uu, vv_eq, vv_ne, vv_vv, ne_eq, not_false_eq_true, not_true_eq_false, reduceCtorEq, Int.reduceAdd, Int.reduceSub, Int.reduceMul, Int.reduceNeg, Nat.reduceEqDiff, or_true, true_or, true_implies, false_implies, Int.reduceLT, Int.reduceLE, Int.reduceEq, y2, y3]
        exact r1 F Q hF q
      · simp (disch := first | omega | decide) only [mX12_changesOf, ↓rh_rcv, ↓rh_g0, ↓rh_g20, ↓rh_r70, ↓rh_w70, ↓rh_r75, ↓rh_w75, ↓be_y, ↓be_n, ↓bf_y, ↓bf_n, ↓bl_y, ↓bl_n, ↓bm_y, ↓bm_n, ↓bg_y, ↓bg_n, ↓bs_y, ↓bs_n, ↓bo_y, ↓bo_n, ↓bp_y, ↓bp_n, ↓forall_eq, ↓within_y, ↓within_n, ↓isIn_y, ↓isIn_n, and_true, true_and, and_self, us_at, us_ne, w32_id, um_eq, um_ne, um_um, uu_eq, uu_ne, uu_uu, vv_eq, vv_ne, vv_vv, ne_eq, not_false_eq_true, not_true_eq_false, reduceCtorEq, Int.reduceAdd, Int.reduceSub, Int.reduceMul, Int.reduceNeg, Nat.reduceEqDiff, or_true, true_or, true_implies, false_implies, Int.reduceLT, Int.reduceLE, Int.reduceEq]
        refine name_r hY hc ?_
        simp (disch := first | omega | decide) only [w32_id, ↓rh_rcv, ↓rh_g0, ↓rh_g20, ↓rh_r70, ↓rh_w70, ↓rh_r75, ↓rh_w75, ↓be_y, ↓be_n, ↓bf_y, ↓bf_n, ↓bl_y, ↓bl_n, ↓bm_y, ↓bm_n, ↓bg_y, ↓bg_n, ↓bs_y, ↓bs_n, ↓bo_y, ↓bo_n, ↓bp_y, ↓bp_n, ↓forall_eq, ↓within_y, ↓within_n, ↓isIn_y, ↓isIn_n, and_true, true_and, and_self, us_at, us_ne, w32_id, um_eq, um_ne, um_um, uu_eq, uu_ne, uu_uu, vv_eq, vv_ne, vv_vv, ne_eq, not_false_eq_true, not_true_eq_false, reduceCtorEq, Int.reduceAdd, Int.reduceSub, Int.reduceMul, Int.reduceNeg, Nat.reduceEqDiff, or_true, true_or, true_implies, false_implies, Int.reduceLT, Int.reduceLE, Int.reduceEq]
        exact r2 F Q q
end MV
