section Q2
variable {n x1 x2 x3 : Int} {F : hp} {v : Nat → Nat → Int} {N : Nat → Int → Int} {T : Nat → Int → Option Nat} {u : Nat → Int} {M : Nat → Int → Int} {Q : Int → hp → Prop}
-- loads
theorem load_bl (hY : jY (N 12) (M 70)) (hC : jC (N 15) (N 16) (N 17) (N 18) (N 19) (M 70)) {t : Int} (ht : 0 ≤ t ∧ t < 3) : ∀ (k : Nat) (i a : Int), i + k = M 70 (12 + t) → 0 ≤ i → 0 ≤ a ∧ a ≤ 9 * i → ∃ r : Int, (0 ≤ r ∧ r ≤ 45) ∧ (∀ (F : hp) (Q : Int → hp → Prop), Q r (kh F v N T) → mX5_loadOn_L4 Q (k + 1) 10 t a i (kh F v N T)) ∧ (∀ (F : hp) (Q : Int → hp → Prop), Q r (rh F u M) → mX12_loadOf_L4 Q (k + 1) 69 t a i (rh F u M)) := by
  have hc := jY_c hY
  obtain ⟨w1, w2⟩ := trk hY ht
  have w3 := w1.1
  intro k
  induction k with
  | zero =>
    intro i a hi h0 ha
    refine ⟨a, by omega, fun F Q q => ?_, fun F Q q => ?_⟩
    · rw [mX5_loadOn_L4]
      simp (disch := first | omega | decide) only [mX10_countOn, ↓kh_c10, ↓kh_g10_0, ↓kh_g10_1, ↓kh_g10_2, ↓kh_g10_3, ↓kh_g10_4, ↓kh_g10_5, ↓kh_g10_6, ↓kh_g10_7, ↓kh_g10_8, ↓kh_g10_9, ↓kh_g10_10, ↓kh_g10_11, ↓kh_g10_12, ↓kh_p10_12, ↓kh_g10_13, ↓kh_p10_13, ↓kh_g10_14, ↓kh_p10_14, ↓kh_g10_15, ↓kh_p10_15, ↓kh_c11, ↓kh_g11_0, ↓kh_r12, ↓kh_w12, ↓kh_n12, ↓kh_cp12_33, ↓kh_cp12_68, ↓kh_cp12_12, ↓kh_cp12_14, ↓be_y, ↓be_n, ↓bf_y, ↓bf_n, ↓bl_y, ↓bl_n, ↓bm_y, ↓bm_n, ↓bg_y, ↓bg_n, ↓bs_y, ↓bs_n, ↓bo_y, ↓bo_n, ↓bp_y, ↓bp_n, ↓forall_eq, ↓within_y, ↓within_n, ↓isIn_y, ↓isIn_n, and_true, true_and, and_self, us_at, us_ne, w32_id, um_eq, um_ne, um_um, uu_eq, uu_ne, uu_uu, vv_eq, vv_ne, vv_vv, ne_eq, not_false_eq_true, not_true_eq_false, reduceCtorEq, Int.reduceAdd, Int.reduceSub, Int.reduceMul, Int.reduceNeg, Nat.reduceEqDiff, or_true, true_or, true_implies, false_implies, Int.reduceLT, Int.reduceLE, Int.reduceEq, w3]
      exact q
    · rw [mX12_loadOf_L4]
      simp (disch := first | omega | decide) only [w32_id, ↓rh_rcv, ↓rh_g0, ↓rh_r70, ↓rh_w70, ↓be_y, ↓be_n, ↓bf_y, ↓bf_n, ↓bl_y, ↓bl_n, ↓bm_y, ↓bm_n, ↓bg_y, ↓bg_n, ↓bs_y, ↓bs_n, ↓bo_y, ↓bo_n, ↓bp_y, ↓bp_n, ↓forall_eq, ↓within_y, ↓within_n, ↓isIn_y, ↓isIn_n, and_true, true_and, and_self, us_at, us_ne, w32_id, um_eq, um_ne, um_um, uu_eq, uu_ne, uu_uu, vv_eq, vv_ne, vv_vv, ne_eq, not_false_eq_true, not_true_eq_false, reduceCtorEq, Int.reduceAdd, Int.reduceSub, Int.reduceMul, Int.reduceNeg, Nat.reduceEqDiff, or_true, true_or, true_implies, false_implies, Int.reduceLT, Int.reduceLE, Int.reduceEq]
      exact q
  | succ k ih =>
    intro i a hi h0 ha
    obtain ⟨b1, b2, b3⟩ := w2 i h0 (by omega)
    have c1 := (hC (M 70 (15 + 5 * t + i)) b2 (by omega)).2.1
    obtain ⟨r, g0, g1, g2⟩ := ih (i + 1) (a + M 70 (41 + M 70 (15 + 5 * t + i))) (by omega) (by omega) (by omega)
    refine ⟨r, g0, fun F Q q => ?_, fun F Q q => ?_⟩
    · rw [mX5_loadOn_L4]
      simp (disch := first | omega | decide) only [mX10_countOn, mX10_carAt, ↓kh_c10, ↓kh_g10_0, ↓kh_g10_1, ↓kh_g10_2, ↓kh_g10_3, ↓kh_g10_4, ↓kh_g10_5, ↓kh_g10_6, ↓kh_g10_7, ↓kh_g10_8, ↓kh_g10_9, ↓kh_g10_10, ↓kh_g10_11, ↓kh_g10_12, ↓kh_p10_12, ↓kh_g10_13, ↓kh_p10_13, ↓kh_g10_14, ↓kh_p10_14, ↓kh_g10_15, ↓kh_p10_15, ↓kh_c11, ↓kh_g11_0, ↓kh_r12, ↓kh_w12, ↓kh_n12, ↓kh_r16, ↓kh_w16, ↓kh_n16, ↓kh_cp12_33, ↓kh_cp12_68, ↓kh_cp12_12, ↓kh_cp12_14, ↓kh_cp16_37, ↓be_y, ↓be_n, ↓bf_y, ↓bf_n, ↓bl_y, ↓bl_n, ↓bm_y, ↓bm_n, ↓bg_y, ↓bg_n, ↓bs_y, ↓bs_n, ↓bo_y, ↓bo_n, ↓bp_y, ↓bp_n, ↓forall_eq, ↓within_y, ↓within_n, ↓isIn_y, ↓isIn_n, and_true, true_and, and_self, us_at, us_ne, w32_id, um_eq, um_ne, um_um, uu_eq, uu_ne, uu_uu, vv_eq, vv_ne, vv_vv, ne_eq, not_false_eq_true, not_true_eq_false, reduceCtorEq, Int.reduceAdd, Int.reduceSub, Int.reduceMul, Int.reduceNeg, Nat.reduceEqDiff, or_true, true_or, true_implies, false_implies, Int.reduceLT, Int.reduceLE, Int.reduceEq, w3, b1, c1.1]
      exact g1 F Q q
    · rw [mX12_loadOf_L4]
      simp (disch := first | omega | decide) only [mX12_carOn, ↓rh_rcv, ↓rh_g0, ↓rh_r70, ↓rh_w70, ↓be_y, ↓be_n, ↓bf_y, ↓bf_n, ↓bl_y, ↓bl_n, ↓bm_y, ↓bm_n, ↓bg_y, ↓bg_n, ↓bs_y, ↓bs_n, ↓bo_y, ↓bo_n, ↓bp_y, ↓bp_n, ↓forall_eq, ↓within_y, ↓within_n, ↓isIn_y, ↓isIn_n, and_true, true_and, and_self, us_at, us_ne, w32_id, um_eq, um_ne, um_um, uu_eq, uu_ne, uu_uu, vv_eq, vv_ne, vv_vv, ne_eq, not_false_eq_true, not_true_eq_false, reduceCtorEq, Int.reduceAdd, Int.reduceSub, Int.reduceMul, Int.reduceNeg, Nat.reduceEqDiff, or_true, true_or, true_implies, false_implies, Int.reduceLT, Int.reduceLE, Int.reduceEq]
      exact g2 F Q q
theorem load_b (hY : jY (N 12) (M 70)) (hC : jC (N 15) (N 16) (N 17) (N 18) (N 19) (M 70)) {t : Int} (ht : 0 ≤ t ∧ t < 3) : ∃ r : Int, (0 ≤ r ∧ r ≤ 45) ∧ (∀ (F : hp) (Q : Int → hp → Prop), Q r (kh F v N T) → mX5_loadOn 10 t (kh F v N T) Q) ∧ (∀ (F : hp) (Q : Int → hp → Prop), Q r (rh F u M) → mX12_loadOf 69 t (rh F u M) Q) := by
  have w := (trk hY ht).1
  obtain ⟨r, g0, g1, g2⟩ := load_bl (v := v) (T := T) (u := u) hY hC ht (M 70 (12 + t)).toNat 0 0 (by omega) (by omega) (by omega)
  exact ⟨r, g0, fun F Q q => ⟨_, g1 F Q q⟩, fun F Q q => ⟨_, g2 F Q q⟩⟩
theorem heav_b (hY : jY (N 12) (M 70)) (hC : jC (N 15) (N 16) (N 17) (N 18) (N 19) (M 70)) : ∀ (k : Nat) (t f m : Int), t + k = 3 → 0 ≤ t → (f = -1 ∧ m = 0) ∨ ((0 ≤ f ∧ f < 3) ∧ (0 ≤ m ∧ m ≤ 45) ∧ ∀ (F : hp) (Q : Int → hp → Prop), Q m (rh F u M) → mX12_loadOf 69 f (rh F u M) Q) → ∃ r : Int, (∀ (F : hp) (Q : Int → hp → Prop), Q r (kh F v N T) → mX11_heaviest_L6 Q (k + 1) 8 f m t (kh F v N T)) ∧ (∀ (F : hp) (Q : Int → hp → Prop), Q r (rh F u M) → mX12_heaviest_L4 Q (k + 1) 69 f t (rh F u M)) := by
  intro k
  induction k with
  | zero =>
    intro t f m ht h0 hf
    refine ⟨f, fun F Q q => ?_, fun F Q q => ?_⟩
    · rw [mX11_heaviest_L6]
      simp (disch := first | omega | decide) only [w32_id, ↓kh_c8, ↓kh_g8_0, ↓kh_g8_1, ↓kh_g8_2, ↓kh_g8_3, ↓kh_g8_4, ↓kh_g8_5, ↓kh_g8_6, ↓kh_g8_7, ↓be_y, ↓be_n, ↓bf_y, ↓bf_n, ↓bl_y, ↓bl_n, ↓bm_y, ↓bm_n, ↓bg_y, ↓bg_n, ↓bs_y, ↓bs_n, ↓bo_y, ↓bo_n, ↓bp_y, ↓bp_n, ↓forall_eq, ↓within_y, ↓within_n, ↓isIn_y, ↓isIn_n, and_true, true_and, and_self, us_at, us_ne, w32_id, um_eq, um_ne, um_um, uu_eq, uu_ne, uu_uu, vv_eq, vv_ne, vv_vv, ne_eq, not_false_eq_true, not_true_eq_false, reduceCtorEq, Int.reduceAdd, Int.reduceSub, Int.reduceMul, Int.reduceNeg, Nat.reduceEqDiff, or_true, true_or, true_implies, false_implies, Int.reduceLT, Int.reduceLE, Int.reduceEq]
      exact q
    · rw [mX12_heaviest_L4]
      simp (disch := first | omega | decide) only [w32_id, ↓rh_rcv, ↓rh_g0, ↓rh_r70, ↓rh_w70, ↓be_y, ↓be_n, ↓bf_y, ↓bf_n, ↓bl_y, ↓bl_n, ↓bm_y, ↓bm_n, ↓bg_y, ↓bg_n, ↓bs_y, ↓bs_n, ↓bo_y, ↓bo_n, ↓bp_y, ↓bp_n, ↓forall_eq, ↓within_y, ↓within_n, ↓isIn_y, ↓isIn_n, and_true, true_and, and_self, us_at, us_ne, w32_id, um_eq, um_ne, um_um, uu_eq, uu_ne, uu_uu, vv_eq, vv_ne, vv_vv, ne_eq, not_false_eq_true, not_true_eq_false, reduceCtorEq, Int.reduceAdd, Int.reduceSub, Int.reduceMul, Int.reduceNeg, Nat.reduceEqDiff, or_true, true_or, true_implies, false_implies, Int.reduceLT, Int.reduceLE, Int.reduceEq]
      exact q
  | succ k ih =>
    intro t f m ht h0 hf
    obtain ⟨l, l0, l1, l2⟩ := load_b (v := v) (T := T) (u := u) hY hC (t := t) (by omega)
    by_cases d : m < l
    · obtain ⟨r, g1, g2⟩ := ih (t + 1) t l (by omega) (by omega) (.inr ⟨by omega, l0, l2⟩)
      refine ⟨r, fun F Q q => ?_, fun F Q q => ?_⟩
      · rw [mX11_heaviest_L6]
        simp (disch := first | omega | decide) only [w32_id, ↓kh_c8, ↓kh_g8_0, ↓kh_g8_1, ↓kh_g8_2, ↓kh_g8_3, ↓kh_g8_4, ↓kh_g8_5, ↓kh_g8_6, ↓kh_g8_7, ↓kh_c10, ↓kh_g10_0, ↓kh_g10_1, ↓kh_g10_2, ↓kh_g10_3, ↓kh_g10_4, ↓kh_g10_5, ↓kh_g10_6, ↓kh_g10_7, ↓kh_g10_8, ↓kh_g10_9, ↓kh_g10_10, ↓kh_g10_11, ↓kh_g10_12, ↓kh_p10_12, ↓kh_g10_13, ↓kh_p10_13, ↓kh_g10_14, ↓kh_p10_14, ↓kh_g10_15, ↓kh_p10_15, ↓be_y, ↓be_n, ↓bf_y, ↓bf_n, ↓bl_y, ↓bl_n, ↓bm_y, ↓bm_n, ↓bg_y, ↓bg_n, ↓bs_y, ↓bs_n, ↓bo_y, ↓bo_n, ↓bp_y, ↓bp_n, ↓forall_eq, ↓within_y, ↓within_n, ↓isIn_y, ↓isIn_n, and_true, true_and, and_self, us_at, us_ne, w32_id, um_eq, um_ne, um_um, uu_eq, uu_ne, uu_uu, vv_eq, vv_ne, vv_vv, ne_eq, not_false_eq_true, not_true_eq_false, reduceCtorEq, Int.reduceAdd, Int.reduceSub, Int.reduceMul, Int.reduceNeg, Nat.reduceEqDiff, or_true, true_or, true_implies, false_implies, Int.reduceLT, Int.reduceLE, Int.reduceEq]
        refine l1 _ _ ?_
        rcases hf with ⟨f1, f2⟩ | ⟨f1, f2, f3⟩
        · simp (disch := first | omega | decide) only [mX11_heaviest_J32, ↓kh_c8, ↓kh_g8_0, ↓kh_g8_1, ↓kh_g8_2, ↓kh_g8_3, ↓kh_g8_4, ↓kh_g8_5, ↓kh_g8_6, ↓kh_g8_7, ↓kh_c10, ↓kh_g10_0, ↓kh_g10_1, ↓kh_g10_2, ↓kh_g10_3, ↓kh_g10_4, ↓kh_g10_5, ↓kh_g10_6, ↓kh_g10_7, ↓kh_g10_8, ↓kh_g10_9, ↓kh_g10_10, ↓kh_g10_11, ↓kh_g10_12, ↓kh_p10_12, ↓kh_g10_13, ↓kh_p10_13, ↓kh_g10_14, ↓kh_p10_14, ↓kh_g10_15, ↓kh_p10_15, ↓be_y, ↓be_n, ↓bf_y, ↓bf_n, ↓bl_y, ↓bl_n, ↓bm_y, ↓bm_n, ↓bg_y, ↓bg_n, ↓bs_y, ↓bs_n, ↓bo_y, ↓bo_n, ↓bp_y, ↓bp_n, ↓forall_eq, ↓within_y, ↓within_n, ↓isIn_y, ↓isIn_n, and_true, true_and, and_self, us_at, us_ne, w32_id, um_eq, um_ne, um_um, uu_eq, uu_ne, uu_uu, vv_eq, vv_ne, vv_vv, ne_eq, not_false_eq_true, not_true_eq_false, reduceCtorEq, Int.reduceAdd, Int.reduceSub, Int.reduceMul, Int.reduceNeg, Nat.reduceEqDiff, or_true, true_or, true_implies, false_implies, Int.reduceLT, Int.reduceLE, Int.reduceEq]
          exact g1 F Q q
        · simp (disch := first | omega | decide) only [mX11_heaviest_J32, ↓kh_c8, ↓kh_g8_0, ↓kh_g8_1, ↓kh_g8_2, ↓kh_g8_3, ↓kh_g8_4, ↓kh_g8_5, ↓kh_g8_6, ↓kh_g8_7, ↓kh_c10, ↓kh_g10_0, ↓kh_g10_1, ↓kh_g10_2, ↓kh_g10_3, ↓kh_g10_4, ↓kh_g10_5, ↓kh_g10_6, ↓kh_g10_7, ↓kh_g10_8, ↓kh_g10_9, ↓kh_g10_10, ↓kh_g10_11, ↓kh_g10_12, ↓kh_p10_12, ↓kh_g10_13, ↓kh_p10_13, ↓kh_g10_14, ↓kh_p10_14, ↓kh_g10_15, ↓kh_p10_15, ↓be_y, ↓be_n, ↓bf_y, ↓bf_n, ↓bl_y, ↓bl_n, ↓bm_y, ↓bm_n, ↓bg_y, ↓bg_n, ↓bs_y, ↓bs_n, ↓bo_y, ↓bo_n, ↓bp_y, ↓bp_n, ↓forall_eq, ↓within_y, ↓within_n, ↓isIn_y, ↓isIn_n, and_true, true_and, and_self, us_at, us_ne, w32_id, um_eq, um_ne, um_um, uu_eq, uu_ne, uu_uu, vv_eq, vv_ne, vv_vv, ne_eq, not_false_eq_true, not_true_eq_false, reduceCtorEq, Int.reduceAdd, Int.reduceSub, Int.reduceMul, Int.reduceNeg, Nat.reduceEqDiff, or_true, true_or, true_implies, false_implies, Int.reduceLT, Int.reduceLE, Int.reduceEq]
          exact g1 F Q q
      · rw [mX12_heaviest_L4]
        simp (disch := first | omega | decide) only [w32_id, ↓rh_rcv, ↓rh_g0, ↓rh_r70, ↓rh_w70, ↓be_y, ↓be_n, ↓bf_y, ↓bf_n, ↓bl_y, ↓bl_n, ↓bm_y, ↓bm_n, ↓bg_y, ↓bg_n, ↓bs_y, ↓bs_n, ↓bo_y, ↓bo_n, ↓bp_y, ↓bp_n, ↓forall_eq, ↓within_y, ↓within_n, ↓isIn_y, ↓isIn_n, and_true, true_and, and_self, us_at, us_ne, w32_id, um_eq, um_ne, um_um, uu_eq, uu_ne, uu_uu, vv_eq, vv_ne, vv_vv, ne_eq, not_false_eq_true, not_true_eq_false, reduceCtorEq, Int.reduceAdd, Int.reduceSub, Int.reduceMul, Int.reduceNeg, Nat.reduceEqDiff, or_true, true_or, true_implies, false_implies, Int.reduceLT, Int.reduceLE, Int.reduceEq]
        refine l2 _ _ ?_
        rcases hf with ⟨f1, f2⟩ | ⟨f1, f2, f3⟩
        · simp (disch := first | omega | decide) only [mX12_heaviest_J28, mX12_heaviest_J33, ↓rh_rcv, ↓rh_g0, ↓rh_r70, ↓rh_w70, ↓be_y, ↓be_n, ↓bf_y, ↓bf_n, ↓bl_y, ↓bl_n, ↓bm_y, ↓bm_n, ↓bg_y, ↓bg_n, ↓bs_y, ↓bs_n, ↓bo_y, ↓bo_n, ↓bp_y, ↓bp_n, ↓forall_eq, ↓within_y, ↓within_n, ↓isIn_y, ↓isIn_n, and_true, true_and, and_self, us_at, us_ne, w32_id, um_eq, um_ne, um_um, uu_eq, uu_ne, uu_uu, vv_eq, vv_ne, vv_vv, ne_eq, not_false_eq_true, not_true_eq_false, reduceCtorEq, Int.reduceAdd, Int.reduceSub, Int.reduceMul, Int.reduceNeg, Nat.reduceEqDiff, or_true, true_or, true_implies, false_implies, Int.reduceLT, Int.reduceLE, Int.reduceEq]
          exact g2 F Q q
        · simp (disch := first | omega | decide) only [w32_id, ↓rh_rcv, ↓rh_g0, ↓rh_r70, ↓rh_w70, ↓be_y, ↓be_n, ↓bf_y, ↓bf_n, ↓bl_y, ↓bl_n, ↓bm_y, ↓bm_n, ↓bg_y, ↓bg_n, ↓bs_y, ↓bs_n, ↓bo_y, ↓bo_n, ↓bp_y, ↓bp_n, ↓forall_eq, ↓within_y, ↓within_n, ↓isIn_y, ↓isIn_n, and_true, true_and, and_self, us_at, us_ne, w32_id, um_eq, um_ne, um_um, uu_eq, uu_ne, uu_uu, vv_eq, vv_ne, vv_vv, ne_eq, not_false_eq_true, not_true_eq_false, reduceCtorEq, Int.reduceAdd, Int.reduceSub, Int.reduceMul, Int.reduceNeg, Nat.reduceEqDiff, or_true, true_or, true_implies, false_implies, Int.reduceLT, Int.reduceLE, Int.reduceEq]
          refine f3 _ _ ?_
          simp (disch := first | omega | decide) only [mX12_heaviest_J28, mX12_heaviest_J33, ↓rh_rcv, ↓rh_g0, ↓rh_r70, ↓rh_w70, ↓be_y, ↓be_n, ↓bf_y, ↓bf_n, ↓bl_y, ↓bl_n, ↓bm_y, ↓bm_n, ↓bg_y, ↓bg_n, ↓bs_y, ↓bs_n, ↓bo_y, ↓bo_n, ↓bp_y, ↓bp_n, ↓forall_eq, ↓within_y, ↓within_n, ↓isIn_y, ↓isIn_n, and_true, true_and, and_self, us_at, us_ne, w32_id, um_eq, um_ne, um_um, uu_eq, uu_ne, uu_uu, vv_eq, vv_ne, vv_vv, ne_eq, not_false_eq_true, not_true_eq_false, reduceCtorEq, Int.reduceAdd, Int.reduceSub, Int.reduceMul, Int.reduceNeg, Nat.reduceEqDiff, or_true, true_or, true_implies, false_implies, Int.reduceLT, Int.reduceLE, Int.reduceEq]
          exact g2 F Q q
    · obtain ⟨r, g1, g2⟩ := ih (t + 1) f m (by omega) (by omega) hf
      refine ⟨r, fun F Q q => ?_, fun F Q q => ?_⟩
      · rw [mX11_heaviest_L6]
        simp (disch := first | omega | decide) only [w32_id, ↓kh_c8, ↓kh_g8_0, ↓kh_g8_1, ↓kh_g8_2, ↓kh_g8_3, ↓kh_g8_4, ↓kh_g8_5, ↓kh_g8_6, ↓kh_g8_7, ↓kh_c10, ↓kh_g10_0, ↓kh_g10_1, ↓kh_g10_2, ↓kh_g10_3, ↓kh_g10_4, ↓kh_g10_5, ↓kh_g10_6, ↓kh_g10_7, ↓kh_g10_8, ↓kh_g10_9, ↓kh_g10_10, ↓kh_g10_11, ↓kh_g10_12, ↓kh_p10_12, ↓kh_g10_13, ↓kh_p10_13, ↓kh_g10_14, ↓kh_p10_14, ↓kh_g10_15, ↓kh_p10_15, ↓be_y, ↓be_n, ↓bf_y, ↓bf_n, ↓bl_y, ↓bl_n, ↓bm_y, ↓bm_n, ↓bg_y, ↓bg_n, ↓bs_y, ↓bs_n, ↓bo_y, ↓bo_n, ↓bp_y, ↓bp_n, ↓forall_eq, ↓within_y, ↓within_n, ↓isIn_y, ↓isIn_n, and_true, true_and, and_self, us_at, us_ne, w32_id, um_eq, um_ne, um_um, uu_eq, uu_ne, uu_uu, vv_eq, vv_ne, vv_vv, ne_eq, not_false_eq_true, not_true_eq_false, reduceCtorEq, Int.reduceAdd, Int.reduceSub, Int.reduceMul, Int.reduceNeg, Nat.reduceEqDiff, or_true, true_or, true_implies, false_implies, Int.reduceLT, Int.reduceLE, Int.reduceEq]
        refine l1 _ _ ?_
        rcases hf with ⟨f1, f2⟩ | ⟨f1, f2, f3⟩
        · simp (disch := first | omega | decide) only [mX11_heaviest_J32, ↓kh_c8, ↓kh_g8_0, ↓kh_g8_1, ↓kh_g8_2, ↓kh_g8_3, ↓kh_g8_4, ↓kh_g8_5, ↓kh_g8_6, ↓kh_g8_7, ↓kh_c10, ↓kh_g10_0, ↓kh_g10_1, ↓kh_g10_2, ↓kh_g10_3, ↓kh_g10_4, ↓kh_g10_5, ↓kh_g10_6, ↓kh_g10_7, ↓kh_g10_8, ↓kh_g10_9, ↓kh_g10_10, ↓kh_g10_11, ↓kh_g10_12, ↓kh_p10_12, ↓kh_g10_13, ↓kh_p10_13, ↓kh_g10_14, ↓kh_p10_14, ↓kh_g10_15, ↓kh_p10_15, ↓be_y, ↓be_n, ↓bf_y, ↓bf_n, ↓bl_y, ↓bl_n, ↓bm_y, ↓bm_n, ↓bg_y, ↓bg_n, ↓bs_y, ↓bs_n, ↓bo_y, ↓bo_n, ↓bp_y, ↓bp_n, ↓forall_eq, ↓within_y, ↓within_n, ↓isIn_y, ↓isIn_n, and_true, true_and, and_self, us_at, us_ne, w32_id, um_eq, um_ne, um_um, uu_eq, uu_ne, uu_uu, vv_eq, vv_ne, vv_vv, ne_eq, not_false_eq_true, not_true_eq_false, reduceCtorEq, Int.reduceAdd, Int.reduceSub, Int.reduceMul, Int.reduceNeg, Nat.reduceEqDiff, or_true, true_or, true_implies, false_implies, Int.reduceLT, Int.reduceLE, Int.reduceEq]
          exact g1 F Q q
        · simp (disch := first | omega | decide) only [mX11_heaviest_J32, ↓kh_c8, ↓kh_g8_0, ↓kh_g8_1, ↓kh_g8_2, ↓kh_g8_3, ↓kh_g8_4, ↓kh_g8_5, ↓kh_g8_6, ↓kh_g8_7, ↓kh_c10, ↓kh_g10_0, ↓kh_g10_1, ↓kh_g10_2, ↓kh_g10_3, ↓kh_g10_4, ↓kh_g10_5, ↓kh_g10_6, ↓kh_g10_7, ↓kh_g10_8, ↓kh_g10_9, ↓kh_g10_10, ↓kh_g10_11, ↓kh_g10_12, ↓kh_p10_12, ↓kh_g10_13, ↓kh_p10_13, ↓kh_g10_14, ↓kh_p10_14, ↓kh_g10_15, ↓kh_p10_15, ↓be_y, ↓be_n, ↓bf_y, ↓bf_n, ↓bl_y, ↓bl_n, ↓bm_y, ↓bm_n, ↓bg_y, ↓bg_n, ↓bs_y, ↓bs_n, ↓bo_y, ↓bo_n, ↓bp_y, ↓bp_n, ↓forall_eq, ↓within_y, ↓within_n, ↓isIn_y, ↓isIn_n, and_true, true_and, and_self, us_at, us_ne, w32_id, um_eq, um_ne, um_um, uu_eq, uu_ne, uu_uu, vv_eq, vv_ne, vv_vv, ne_eq, not_false_eq_true, not_true_eq_false, reduceCtorEq, Int.reduceAdd, Int.reduceSub, Int.reduceMul, Int.reduceNeg, Nat.reduceEqDiff, or_true, true_or, true_implies, false_implies, Int.reduceLT, Int.reduceLE, Int.reduceEq]
          exact g1 F Q q
      · rw [mX12_heaviest_L4]
        simp (disch := first | omega | decide) only [w32_id, ↓rh_rcv, ↓rh_g0, ↓rh_r70, ↓rh_w70, ↓be_y, ↓be_n, ↓bf_y, ↓bf_n, ↓bl_y, ↓bl_n, ↓bm_y, ↓bm_n, ↓bg_y, ↓bg_n, ↓bs_y, ↓bs_n, ↓bo_y, ↓bo_n, ↓bp_y, ↓bp_n, ↓forall_eq, ↓within_y, ↓within_n, ↓isIn_y, ↓isIn_n, and_true, true_and, and_self, us_at, us_ne, w32_id, um_eq, um_ne, um_um, uu_eq, uu_ne, uu_uu, vv_eq, vv_ne, vv_vv, ne_eq, not_false_eq_true, not_true_eq_false, reduceCtorEq, Int.reduceAdd, Int.reduceSub, Int.reduceMul, Int.reduceNeg, Nat.reduceEqDiff, or_true, true_or, true_implies, false_implies, Int.reduceLT, Int.reduceLE, Int.reduceEq]
        refine l2 _ _ ?_
        rcases hf with ⟨f1, f2⟩ | ⟨f1, f2, f3⟩
        · simp (disch := first | omega | decide) only [mX12_heaviest_J28, mX12_heaviest_J33, ↓rh_rcv, ↓rh_g0, ↓rh_r70, ↓rh_w70, ↓be_y, ↓be_n, ↓bf_y, ↓bf_n, ↓bl_y, ↓bl_n, ↓bm_y, ↓bm_n, ↓bg_y, ↓bg_n, ↓bs_y, ↓bs_n, ↓bo_y, ↓bo_n, ↓bp_y, ↓bp_n, ↓forall_eq, ↓within_y, ↓within_n, ↓isIn_y, ↓isIn_n, and_true, true_and, and_self, us_at, us_ne, w32_id, um_eq, um_ne, um_um, uu_eq, uu_ne, uu_uu, vv_eq, vv_ne, vv_vv, ne_eq, not_false_eq_true, not_true_eq_false, reduceCtorEq, Int.reduceAdd, Int.reduceSub, Int.reduceMul, Int.reduceNeg, Nat.reduceEqDiff, or_true, true_or, true_implies, false_implies, Int.reduceLT, Int.reduceLE, Int.reduceEq]
          exact g2 F Q q
        · simp (disch := first | omega | decide) only [w32_id, ↓rh_rcv, ↓rh_g0, ↓rh_r70, ↓rh_w70, ↓be_y, ↓be_n, ↓bf_y, ↓bf_n, ↓bl_y, ↓bl_n, ↓bm_y, ↓bm_n, ↓bg_y, ↓bg_n, ↓bs_y, ↓bs_n, ↓bo_y, ↓bo_n, ↓bp_y, ↓bp_n, ↓forall_eq, ↓within_y, ↓within_n, ↓isIn_y, ↓isIn_n, and_true, true_and, and_self, us_at, us_ne, w32_id, um_eq, um_ne, um_um, uu_eq, uu_ne, uu_uu, vv_eq, vv_ne, vv_vv, ne_eq, not_false_eq_true, not_true_eq_false, reduceCtorEq, Int.reduceAdd, Int.reduceSub, Int.reduceMul, Int.reduceNeg, Nat.reduceEqDiff, or_true, true_or, true_implies, false_implies, Int.reduceLT, Int.reduceLE, Int.reduceEq]
          refine f3 _ _ ?_
          simp (disch := first | omega | decide) only [mX12_heaviest_J28, mX12_heaviest_J33, ↓rh_rcv, ↓rh_g0, ↓rh_r70, ↓rh_w70, ↓be_y, ↓be_n, ↓bf_y, ↓bf_n, ↓bl_y, ↓bl_n, ↓bm_y, ↓bm_n, ↓bg_y, ↓bg_n, ↓bs_y, ↓bs_n, ↓bo_y, ↓bo_n, ↓bp_y, ↓bp_n, ↓forall_eq, ↓within_y, ↓within_n, ↓isIn_y, ↓isIn_n, and_true, true_and, and_self, us_at, us_ne, w32_id, um_eq, um_ne, um_um, uu_eq, uu_ne, uu_uu, vv_eq, vv_ne, vv_vv, ne_eq, not_false_eq_true, not_true_eq_false, reduceCtorEq, Int.reduceAdd, Int.reduceSub, Int.reduceMul, Int.reduceNeg, Nat.reduceEqDiff, or_true, true_or, true_implies, false_implies, Int.reduceLT, Int.reduceLE, Int.reduceEq]
          exact g2 F Q q
set_option maxHeartbeats 4000000 in
theorem op_heaviest  : OP n (mX11_heaviest 8) (mX12_heaviest 69) := by
  refine op_to (fun G v N T u M h => ?_)
  obtain ⟨⟨hY, hK, hC, hF, hB, hT, hS, hD, hX, hG⟩, hI, hM, hL, hW, hH, hN⟩ := id h
  have hc := jY_c hY
  obtain ⟨r, g1, g2⟩ := heav_b (v := v) (N := N) (T := T) (u := u) (M := M) hY hC 3 0 (-1) 0 (by omega) (by omega) (.inl ⟨rfl, rfl⟩)
  exact ⟨r, v, N, u, M, Rel_up h, fun F Q q => ⟨4, g1 F Q q⟩, fun F Q q => ⟨4, g2 F Q q⟩⟩
-- worn
theorem worn_b (hY : jY (N 12) (M 70)) : ∀ (k : Nat) (c f m : Int), c + k = M 70 0 → 0 ≤ c → (f = -1 ∧ m = 0) ∨ ((0 ≤ f ∧ f < 5) ∧ m = M 70 (31 + f)) → ∃ r : Int, (∀ (F : hp) (Q : Int → hp → Prop), Q r (kh F v N T) → mX11_worn_L6 Q (k + 1) 8 f m c (kh F v N T)) ∧ (∀ (F : hp) (Q : Int → hp → Prop), Q r (rh F u M) → mX12_worn_L4 Q (k + 1) 69 f c (rh F u M)) := by
  have hc := jY_c hY
  have e4 := hc.1
  have hw := (jY_d hY).2.1
  intro k
  induction k with
  | zero =>
    intro c f m ht h0 hf
    refine ⟨f, fun F Q q => ?_, fun F Q q => ?_⟩
    · rw [mX11_worn_L6]
      simp (disch := first | omega | decide) only [mX10_countCars, ↓kh_c8, ↓kh_g8_0, ↓kh_g8_1, ↓kh_g8_2, ↓kh_g8_3, ↓kh_g8_4, ↓kh_g8_5, ↓kh_g8_6, ↓kh_g8_7, ↓kh_c10, ↓kh_g10_0, ↓kh_g10_1, ↓kh_g10_2, ↓kh_g10_3, ↓kh_g10_4, ↓kh_g10_5, ↓kh_g10_6, ↓kh_g10_7, ↓kh_g10_8, ↓kh_g10_9, ↓kh_g10_10, ↓kh_g10_11, ↓kh_g10_12, ↓kh_p10_12, ↓kh_g10_13, ↓kh_p10_13, ↓kh_g10_14, ↓kh_p10_14, ↓kh_g10_15, ↓kh_p10_15, ↓kh_c11, ↓kh_g11_0, ↓kh_r12, ↓kh_w12, ↓kh_n12, ↓kh_cp12_33, ↓kh_cp12_68, ↓kh_cp12_12, ↓kh_cp12_14, ↓be_y, ↓be_n, ↓bf_y, ↓bf_n, ↓bl_y, ↓bl_n, ↓bm_y, ↓bm_n, ↓bg_y, ↓bg_n, ↓bs_y, ↓bs_n, ↓bo_y, ↓bo_n, ↓bp_y, ↓bp_n, ↓forall_eq, ↓within_y, ↓within_n, ↓isIn_y, ↓isIn_n, and_true, true_and, and_self, us_at, us_ne, w32_id, um_eq, um_ne, um_um, uu_eq, uu_ne, uu_uu, vv_eq, vv_ne, vv_vv, ne_eq, not_false_eq_true, not_true_eq_false, reduceCtorEq, Int.reduceAdd, Int.reduceSub, Int.reduceMul, Int.reduceNeg, Nat.reduceEqDiff, or_true, true_or, true_implies, false_implies, Int.reduceLT, Int.reduceLE, Int.reduceEq, e4]
      exact q
    · rw [mX12_worn_L4]
      simp (disch := first | omega | decide) only [w32_id, ↓rh_rcv, ↓rh_g0, ↓rh_r70, ↓rh_w70, ↓be_y, ↓be_n, ↓bf_y, ↓bf_n, ↓bl_y, ↓bl_n, ↓bm_y, ↓bm_n, ↓bg_y, ↓bg_n, ↓bs_y, ↓bs_n, ↓bo_y, ↓bo_n, ↓bp_y, ↓bp_n, ↓forall_eq, ↓within_y, ↓within_n, ↓isIn_y, ↓isIn_n, and_true, true_and, and_self, us_at, us_ne, w32_id, um_eq, um_ne, um_um, uu_eq, uu_ne, uu_uu, vv_eq, vv_ne, vv_vv, ne_eq, not_false_eq_true, not_true_eq_false, reduceCtorEq, Int.reduceAdd, Int.reduceSub, Int.reduceMul, Int.reduceNeg, Nat.reduceEqDiff, or_true, true_or, true_implies, false_implies, Int.reduceLT, Int.reduceLE, Int.reduceEq]
      exact q
  | succ k ih =>
    intro c f m ht h0 hf
    obtain ⟨w1, w2, w3⟩ := hw c h0 (by omega)
    by_cases d : m < M 70 (31 + c)
    · obtain ⟨r, g1, g2⟩ := ih (c + 1) c (M 70 (31 + c)) (by omega) (by omega) (.inr ⟨by omega, rfl⟩)
      refine ⟨r, fun F Q q => ?_, fun F Q q => ?_⟩
      · rw [mX11_worn_L6]
        rcases hf with ⟨f1, f2⟩ | ⟨f1, f2⟩
        · simp (disch := first | omega | decide) only [mX10_countCars, mX10_wornOf, mX11_worn_J49, ↓kh_c8, ↓kh_g8_0, ↓kh_g8_1, ↓kh_g8_2, ↓kh_g8_3, ↓kh_g8_4, ↓kh_g8_5, ↓kh_g8_6, ↓kh_g8_7, ↓kh_c10, ↓kh_g10_0, ↓kh_g10_1, ↓kh_g10_2, ↓kh_g10_3, ↓kh_g10_4, ↓kh_g10_5, ↓kh_g10_6, ↓kh_g10_7, ↓kh_g10_8, ↓kh_g10_9, ↓kh_g10_10, ↓kh_g10_11, ↓kh_g10_12, ↓kh_p10_12, ↓kh_g10_13, ↓kh_p10_13, ↓kh_g10_14, ↓kh_p10_14, ↓kh_g10_15, ↓kh_p10_15, ↓kh_c11, ↓kh_g11_0, ↓kh_r12, ↓kh_w12, ↓kh_n12, ↓kh_cp12_33, ↓kh_cp12_68, ↓kh_cp12_12, ↓kh_cp12_14, ↓be_y, ↓be_n, ↓bf_y, ↓bf_n, ↓bl_y, ↓bl_n, ↓bm_y, ↓bm_n, ↓bg_y, ↓bg_n, ↓bs_y, ↓bs_n, ↓bo_y, ↓bo_n, ↓bp_y, ↓bp_n, ↓forall_eq, ↓within_y, ↓within_n, ↓isIn_y, ↓isIn_n, and_true, true_and, and_self, us_at, us_ne, w32_id, um_eq, um_ne, um_um, uu_eq, uu_ne, uu_uu, vv_eq, vv_ne, vv_vv, ne_eq, not_false_eq_true, not_true_eq_false, reduceCtorEq, Int.reduceAdd, Int.reduceSub, Int.reduceMul, Int.reduceNeg, Nat.reduceEqDiff, or_true, true_or, true_implies, false_implies, Int.reduceLT, Int.reduceLE, Int.reduceEq, e4, w1]
          exact g1 F Q q
        · have w4 := hw f f1.1 f1.2
          simp (disch := first | omega | decide) only [mX10_countCars, mX10_wornOf, mX11_worn_J49, ↓kh_c8, ↓kh_g8_0, ↓kh_g8_1, ↓kh_g8_2, ↓kh_g8_3, ↓kh_g8_4, ↓kh_g8_5, ↓kh_g8_6, ↓kh_g8_7, ↓kh_c10, ↓kh_g10_0, ↓kh_g10_1, ↓kh_g10_2, ↓kh_g10_3, ↓kh_g10_4, ↓kh_g10_5, ↓kh_g10_6, ↓kh_g10_7, ↓kh_g10_8, ↓kh_g10_9, ↓kh_g10_10, ↓kh_g10_11, ↓kh_g10_12, ↓kh_p10_12, ↓kh_g10_13, ↓kh_p10_13, ↓kh_g10_14, ↓kh_p10_14, ↓kh_g10_15, ↓kh_p10_15, ↓kh_c11, ↓kh_g11_0, ↓kh_r12, ↓kh_w12, ↓kh_n12, ↓kh_cp12_33, ↓kh_cp12_68, ↓kh_cp12_12, ↓kh_cp12_14, ↓be_y, ↓be_n, ↓bf_y, ↓bf_n, ↓bl_y, ↓bl_n, ↓bm_y, ↓bm_n, ↓bg_y, ↓bg_n, ↓bs_y, ↓bs_n, ↓bo_y, ↓bo_n, ↓bp_y, ↓bp_n, ↓forall_eq, ↓within_y, ↓within_n, ↓isIn_y, ↓isIn_n, and_true, true_and, and_self, us_at, us_ne, w32_id, um_eq, um_ne, um_um, uu_eq, uu_ne, uu_uu, vv_eq, vv_ne, vv_vv, ne_eq, not_false_eq_true, not_true_eq_false, reduceCtorEq, Int.reduceAdd, Int.reduceSub, Int.reduceMul, Int.reduceNeg, Nat.reduceEqDiff, or_true, true_or, true_implies, false_implies, Int.reduceLT, Int.reduceLE, Int.reduceEq, e4, w1]
          exact g1 F Q q
      · rw [mX12_worn_L4]
        rcases hf with ⟨f1, f2⟩ | ⟨f1, f2⟩
        · simp (disch := first | omega | decide) only [mX12_worn_J41, mX12_worn_J46, ↓rh_rcv, ↓rh_g0, ↓rh_r70, ↓rh_w70, ↓be_y, ↓be_n, ↓bf_y, ↓bf_n, ↓bl_y, ↓bl_n, ↓bm_y, ↓bm_n, ↓bg_y, ↓bg_n, ↓bs_y, ↓bs_n, ↓bo_y, ↓bo_n, ↓bp_y, ↓bp_n, ↓forall_eq, ↓within_y, ↓within_n, ↓isIn_y, ↓isIn_n, and_true, true_and, and_self, us_at, us_ne, w32_id, um_eq, um_ne, um_um, uu_eq, uu_ne, uu_uu, vv_eq, vv_ne, vv_vv, ne_eq, not_false_eq_true, not_true_eq_false, reduceCtorEq, Int.reduceAdd, Int.reduceSub, Int.reduceMul, Int.reduceNeg, Nat.reduceEqDiff, or_true, true_or, true_implies, false_implies, Int.reduceLT, Int.reduceLE, Int.reduceEq]
          exact g2 F Q q
        · have w4 := hw f f1.1 f1.2
          simp (disch := first | omega | decide) only [mX12_worn_J41, mX12_worn_J46, ↓rh_rcv, ↓rh_g0, ↓rh_r70, ↓rh_w70, ↓be_y, ↓be_n, ↓bf_y, ↓bf_n, ↓bl_y, ↓bl_n, ↓bm_y, ↓bm_n, ↓bg_y, ↓bg_n, ↓bs_y, ↓bs_n, ↓bo_y, ↓bo_n, ↓bp_y, ↓bp_n, ↓forall_eq, ↓within_y, ↓within_n, ↓isIn_y, ↓isIn_n, and_true, true_and, and_self, us_at, us_ne, w32_id, um_eq, um_ne, um_um, uu_eq, uu_ne, uu_uu, vv_eq, vv_ne, vv_vv, ne_eq, not_false_eq_true, not_true_eq_false, reduceCtorEq, Int.reduceAdd, Int.reduceSub, Int.reduceMul, Int.reduceNeg, Nat.reduceEqDiff, or_true, true_or, true_implies, false_implies, Int.reduceLT, Int.reduceLE, Int.reduceEq]
          exact g2 F Q q
    · obtain ⟨r, g1, g2⟩ := ih (c + 1) f m (by omega) (by omega) hf
      refine ⟨r, fun F Q q => ?_, fun F Q q => ?_⟩
      · rw [mX11_worn_L6]
        rcases hf with ⟨f1, f2⟩ | ⟨f1, f2⟩
        · simp (disch := first | omega | decide) only [mX10_countCars, mX10_wornOf, mX11_worn_J49, ↓kh_c8, ↓kh_g8_0, ↓kh_g8_1, ↓kh_g8_2, ↓kh_g8_3, ↓kh_g8_4, ↓kh_g8_5, ↓kh_g8_6, ↓kh_g8_7, ↓kh_c10, ↓kh_g10_0, ↓kh_g10_1, ↓kh_g10_2, ↓kh_g10_3, ↓kh_g10_4, ↓kh_g10_5, ↓kh_g10_6, ↓kh_g10_7, ↓kh_g10_8, ↓kh_g10_9, ↓kh_g10_10, ↓kh_g10_11, ↓kh_g10_12, ↓kh_p10_12, ↓kh_g10_13, ↓kh_p10_13, ↓kh_g10_14, ↓kh_p10_14, ↓kh_g10_15, ↓kh_p10_15, ↓kh_c11, ↓kh_g11_0, ↓kh_r12, ↓kh_w12, ↓kh_n12, ↓kh_cp12_33, ↓kh_cp12_68, ↓kh_cp12_12, ↓kh_cp12_14, ↓be_y, ↓be_n, ↓bf_y, ↓bf_n, ↓bl_y, ↓bl_n, ↓bm_y, ↓bm_n, ↓bg_y, ↓bg_n, ↓bs_y, ↓bs_n, ↓bo_y, ↓bo_n, ↓bp_y, ↓bp_n, ↓forall_eq, ↓within_y, ↓within_n, ↓isIn_y, ↓isIn_n, and_true, true_and, and_self, us_at, us_ne, w32_id, um_eq, um_ne, um_um, uu_eq, uu_ne, uu_uu, vv_eq, vv_ne, vv_vv, ne_eq, not_false_eq_true, not_true_eq_false, reduceCtorEq, Int.reduceAdd, Int.reduceSub, Int.reduceMul, Int.reduceNeg, Nat.reduceEqDiff, or_true, true_or, true_implies, false_implies, Int.reduceLT, Int.reduceLE, Int.reduceEq, e4, w1]
          exact g1 F Q q
        · have w4 := hw f f1.1 f1.2
          simp (disch := first | omega | decide) only [mX10_countCars, mX10_wornOf, mX11_worn_J49, ↓kh_c8, ↓kh_g8_0, ↓kh_g8_1, ↓kh_g8_2, ↓kh_g8_3, ↓kh_g8_4, ↓kh_g8_5, ↓kh_g8_6, ↓kh_g8_7, ↓kh_c10, ↓kh_g10_0, ↓kh_g10_1, ↓kh_g10_2, ↓kh_g10_3, ↓kh_g10_4, ↓kh_g10_5, ↓kh_g10_6, ↓kh_g10_7, ↓kh_g10_8, ↓kh_g10_9, ↓kh_g10_10, ↓kh_g10_11, ↓kh_g10_12, ↓kh_p10_12, ↓kh_g10_13, ↓kh_p10_13, ↓kh_g10_14, ↓kh_p10_14, ↓kh_g10_15, ↓kh_p10_15, ↓kh_c11, ↓kh_g11_0, ↓kh_r12, ↓kh_w12, ↓kh_n12, ↓kh_cp12_33, ↓kh_cp12_68, ↓kh_cp12_12, ↓kh_cp12_14, ↓be_y, ↓be_n, ↓bf_y, ↓bf_n, ↓bl_y, ↓bl_n, ↓bm_y, ↓bm_n, ↓bg_y, ↓bg_n, ↓bs_y, ↓bs_n, ↓bo_y, ↓bo_n, ↓bp_y, ↓bp_n, ↓forall_eq, ↓within_y, ↓within_n, ↓isIn_y, ↓isIn_n, and_true, true_and, and_self, us_at, us_ne, w32_id, um_eq, um_ne, um_um, uu_eq, uu_ne, uu_uu, vv_eq, vv_ne, vv_vv, ne_eq, not_false_eq_true, not_true_eq_false, reduceCtorEq, Int.reduceAdd, Int.reduceSub, Int.reduceMul, Int.reduceNeg, Nat.reduceEqDiff, or_true, true_or, true_implies, false_implies, Int.reduceLT, Int.reduceLE, Int.reduceEq, e4, w1]
          exact g1 F Q q
      · rw [mX12_worn_L4]
        rcases hf with ⟨f1, f2⟩ | ⟨f1, f2⟩
        · simp (disch := first | omega | decide) only [mX12_worn_J41, mX12_worn_J46, ↓rh_rcv, ↓rh_g0, ↓rh_r70, ↓rh_w70, ↓be_y, ↓be_n, ↓bf_y, ↓bf_n, ↓bl_y, ↓bl_n, ↓bm_y, ↓bm_n, ↓bg_y, ↓bg_n, ↓bs_y, ↓bs_n, ↓bo_y, ↓bo_n, ↓bp_y, ↓bp_n, ↓forall_eq, ↓within_y, ↓within_n, ↓isIn_y, ↓isIn_n, and_true, true_and, and_self, us_at, us_ne, w32_id, um_eq, um_ne, um_um, uu_eq, uu_ne, uu_uu, vv_eq, vv_ne, vv_vv, ne_eq, not_false_eq_true, not_true_eq_false, reduceCtorEq, Int.reduceAdd, Int.reduceSub, Int.reduceMul, Int.reduceNeg, Nat.reduceEqDiff, or_true, true_or, true_implies, false_implies, Int.reduceLT, Int.reduceLE, Int.reduceEq]
          exact g2 F Q q
        · have w4 := hw f f1.1 f1.2
          simp (disch := first | omega | decide) only [mX12_worn_J41, mX12_worn_J46, ↓rh_rcv, ↓rh_g0, ↓rh_r70, ↓rh_w70, ↓be_y, ↓be_n, ↓bf_y, ↓bf_n, ↓bl_y, ↓bl_n, ↓bm_y, ↓bm_n, ↓bg_y, ↓bg_n, ↓bs_y, ↓bs_n, ↓bo_y, ↓bo_n, ↓bp_y, ↓bp_n, ↓forall_eq, ↓within_y, ↓within_n, ↓isIn_y, ↓isIn_n, and_true, true_and, and_self, us_at, us_ne, w32_id, um_eq, um_ne, um_um, uu_eq, uu_ne, uu_uu, vv_eq, vv_ne, vv_vv, ne_eq, not_false_eq_true, not_true_eq_false, reduceCtorEq, Int.reduceAdd, Int.reduceSub, Int.reduceMul, Int.reduceNeg, Nat.reduceEqDiff, or_true, true_or, true_implies, false_implies, Int.reduceLT, Int.reduceLE, Int.reduceEq]
          exact g2 F Q q
set_option maxHeartbeats 4000000 in
theorem op_worn  : OP n (mX11_worn 8) (mX12_worn 69) := by
  refine op_to (fun G v N T u M h => ?_)
  obtain ⟨⟨hY, hK, hC, hF, hB, hT, hS, hD, hX, hG⟩, hI, hM, hL, hW, hH, hN⟩ := id h
  have hc := jY_c hY
  obtain ⟨r, g1, g2⟩ := worn_b (v := v) (N := N) (T := T) (u := u) (M := M) hY (M 70 0).toNat 0 (-1) 0 (by omega) (by omega) (.inl ⟨rfl, rfl⟩)
  exact ⟨r, v, N, u, M, Rel_up h, fun F Q q => ⟨_, g1 F Q q⟩, fun F Q q => ⟨_, g2 F Q q⟩⟩
-- who may stand beside whom
theorem rh_RA : RA (rh F u M) (M 70) := ⟨⟨_, by rw [rh_in (by decide) (by decide)]; rfl⟩, by rw [rh_in (by decide) (by decide)]; rfl⟩
theorem msb_r (hC : jC (N 15) (N 16) (N 17) (N 18) (N 19) (M 70)) (hF : jF (v 10 15) (M 70)) {c d : Int} (hc : 0 ≤ c ∧ c ≤ 4) (hd : 0 ≤ d ∧ d ≤ 4) : mX12_isForbidden 69 c d (rh F u M) Q ↔ Q (if zForb (M 70) c d then 1 else 0) (rh F u M) := by
  have c1 := (hC c hc.1 (by omega)).1
  have d1 := (hC d hd.1 (by omega)).1
  exact isForbidden_s rh_RA hc hd c1.2 d1.2 (hF.2 _ c1.2.1 (by omega)).1
theorem msb_c (hC : jC (N 15) (N 16) (N 17) (N 18) (N 19) (M 70)) (hF : jF (v 10 15) (M 70)) {c d : Int} (hc : 0 ≤ c ∧ c ≤ 4) (hd : 0 ≤ d ∧ d ≤ 4) : mX5_mayStandBeside 10 c d (kh F v N T) Q ↔ Q (if zForb (M 70) c d then 0 else 1) (kh F v N T) := by
  have c1 := (hC c hc.1 (by omega)).1
  have d1 := (hC d hd.1 (by omega)).1
  have f1 := (hF.2 _ c1.2.1 (by omega)).2 _ d1.2.1 (by omega)
  have f2 := hF.1
  simp (disch := first | omega | decide) only [mX5_mayStandBeside, ↓kh_c10, ↓kh_g10_0, ↓kh_g10_1, ↓kh_g10_2, ↓kh_g10_3, ↓kh_g10_4, ↓kh_g10_5, ↓kh_g10_6, ↓kh_g10_7, ↓kh_g10_8, ↓kh_g10_9, ↓kh_g10_10, ↓kh_g10_11, ↓kh_g10_12, ↓kh_p10_12, ↓kh_g10_13, ↓kh_p10_13, ↓kh_g10_14, ↓kh_p10_14, ↓kh_g10_15, ↓kh_p10_15, ↓kh_r15, ↓kh_w15, ↓kh_n15, ↓kh_cp15_36, ↓be_y, ↓be_n, ↓bf_y, ↓bf_n, ↓bl_y, ↓bl_n, ↓bm_y, ↓bm_n, ↓bg_y, ↓bg_n, ↓bs_y, ↓bs_n, ↓bo_y, ↓bo_n, ↓bp_y, ↓bp_n, ↓forall_eq, ↓within_y, ↓within_n, ↓isIn_y, ↓isIn_n, and_true, true_and, and_self, us_at, us_ne, w32_id, um_eq, um_ne, um_um, uu_eq, uu_ne, uu_uu, vv_eq, vv_ne, vv_vv, ne_eq, not_false_eq_true, not_true_eq_false, reduceCtorEq, Int.reduceAdd, Int.reduceSub, Int.reduceMul, Int.reduceNeg, Nat.reduceEqDiff, or_true, true_or, true_implies, false_implies, Int.reduceLT, Int.reduceLE, Int.reduceEq, c1.1, d1.1, tb_has, f1]
  unfold zForb
  cases tb (M 70 (56 + M 70 (36 + c))) (M 70 (36 + d)) <;> simp [w32_id]
-- amiss
theorem amiss_i (hY : jY (N 12) (M 70)) (hC : jC (N 15) (N 16) (N 17) (N 18) (N 19) (M 70)) (hF : jF (v 10 15) (M 70)) {t : Int} (ht : 0 ≤ t ∧ t < 3) : ∀ (k : Nat) (i a : Int), M 70 (12 + t) ≤ i + k → 1 ≤ i ∧ i ≤ 5 → ∃ r : Int, (∀ (F : hp) (X : Nat → Int → Int → hp → Prop) (Q : Int → hp → Prop), X 8 r (t + 1) (kh F v N T) → mX11_amiss_L11 X Q (k + 1) 8 a t i (kh F v N T)) ∧ (∀ (F : hp) (X : Nat → Int → Int → hp → Prop) (Q : Int → hp → Prop), X 69 r (t + 1) (rh F u M) → mX12_amiss_L11 X Q (k + 1) 69 a t i (rh F u M)) := by
  have hc := jY_c hY
  obtain ⟨w1, w2⟩ := trk hY ht
  have w3 := w1.1
  intro k
  induction k with
  | zero =>
    intro i a hi h0
    refine ⟨a, fun F X Q q => ?_, fun F X Q q => ?_⟩
    · rw [mX11_amiss_L11]
      simp (disch := first | omega | decide) only [mX10_countOn, ↓kh_c8, ↓kh_g8_0, ↓kh_g8_1, ↓kh_g8_2, ↓kh_g8_3, ↓kh_g8_4, ↓kh_g8_5, ↓kh_g8_6, ↓kh_g8_7, ↓kh_c10, ↓kh_g10_0, ↓kh_g10_1, ↓kh_g10_2, ↓kh_g10_3, ↓kh_g10_4, ↓kh_g10_5, ↓kh_g10_6, ↓kh_g10_7, ↓kh_g10_8, ↓kh_g10_9, ↓kh_g10_10, ↓kh_g10_11, ↓kh_g10_12, ↓kh_p10_12, ↓kh_g10_13, ↓kh_p10_13, ↓kh_g10_14, ↓kh_p10_14, ↓kh_g10_15, ↓kh_p10_15, ↓kh_c11, ↓kh_g11_0, ↓kh_r12, ↓kh_w12, ↓kh_n12, ↓kh_cp12_33, ↓kh_cp12_68, ↓kh_cp12_12, ↓kh_cp12_14, ↓be_y, ↓be_n, ↓bf_y, ↓bf_n, ↓bl_y, ↓bl_n, ↓bm_y, ↓bm_n, ↓bg_y, ↓bg_n, ↓bs_y, ↓bs_n, ↓bo_y, ↓bo_n, ↓bp_y, ↓bp_n, ↓forall_eq, ↓within_y, ↓within_n, ↓isIn_y, ↓isIn_n, and_true, true_and, and_self, us_at, us_ne, w32_id, um_eq, um_ne, um_um, uu_eq, uu_ne, uu_uu, vv_eq, vv_ne, vv_vv, ne_eq, not_false_eq_true, not_true_eq_false, reduceCtorEq, Int.reduceAdd, Int.reduceSub, Int.reduceMul, Int.reduceNeg, Nat.reduceEqDiff, or_true, true_or, true_implies, false_implies, Int.reduceLT, Int.reduceLE, Int.reduceEq, w3]
      exact q
    · rw [mX12_amiss_L11]
      simp (disch := first | omega | decide) only [w32_id, ↓rh_rcv, ↓rh_g0, ↓rh_r70, ↓rh_w70, ↓be_y, ↓be_n, ↓bf_y, ↓bf_n, ↓bl_y, ↓bl_n, ↓bm_y, ↓bm_n, ↓bg_y, ↓bg_n, ↓bs_y, ↓bs_n, ↓bo_y, ↓bo_n, ↓bp_y, ↓bp_n, ↓forall_eq, ↓within_y, ↓within_n, ↓isIn_y, ↓isIn_n, and_true, true_and, and_self, us_at, us_ne, w32_id, um_eq, um_ne, um_um, uu_eq, uu_ne, uu_uu, vv_eq, vv_ne, vv_vv, ne_eq, not_false_eq_true, not_true_eq_false, reduceCtorEq, Int.reduceAdd, Int.reduceSub, Int.reduceMul, Int.reduceNeg, Nat.reduceEqDiff, or_true, true_or, true_implies, false_implies, Int.reduceLT, Int.reduceLE, Int.reduceEq]
      exact q
  | succ k ih =>
    intro i a hi h0
    by_cases d : i < M 70 (12 + t)
    · obtain ⟨b1, b2, b3⟩ := w2 i (by omega) d
      obtain ⟨c1, c2, c3⟩ := w2 (i - 1) (by omega) (by omega)
      cases hz : zForb (M 70) (M 70 (15 + 5 * t + (i - 1))) (M 70 (15 + 5 * t + i)) with
      | true =>
        obtain ⟨r, g1, g2⟩ := ih (i + 1) (a + 1) (by omega) (by omega)
        refine ⟨r, fun F X Q q => ?_, fun F X Q q => ?_⟩
        · rw [mX11_amiss_L11]
          simp (disch := first | omega | decide) only [mX10_countOn, mX10_carAt, ↓kh_c8, ↓kh_g8_0, ↓kh_g8_1, ↓kh_g8_2, ↓kh_g8_3, ↓kh_g8_4, ↓kh_g8_5, ↓kh_g8_6, ↓kh_g8_7, ↓kh_c10, ↓kh_g10_0, ↓kh_g10_1, ↓kh_g10_2, ↓kh_g10_3, ↓kh_g10_4, ↓kh_g10_5, ↓kh_g10_6, ↓kh_g10_7, ↓kh_g10_8, ↓kh_g10_9, ↓kh_g10_10, ↓kh_g10_11, ↓kh_g10_12, ↓kh_p10_12, ↓kh_g10_13, ↓kh_p10_13, ↓kh_g10_14, ↓kh_p10_14, ↓kh_g10_15, ↓kh_p10_15, ↓kh_c11, ↓kh_g11_0, ↓kh_r12, ↓kh_w12, ↓kh_n12, ↓kh_cp12_33, ↓kh_cp12_68, ↓kh_cp12_12, ↓kh_cp12_14, ↓be_y, ↓be_n, ↓bf_y, ↓bf_n, ↓bl_y, ↓bl_n, ↓bm_y, ↓bm_n, ↓bg_y, ↓bg_n, ↓bs_y, ↓bs_n, ↓bo_y, ↓bo_n, ↓bp_y, ↓bp_n, ↓forall_eq, ↓within_y, ↓within_n, ↓isIn_y, ↓isIn_n, and_true, true_and, and_self, us_at, us_ne, w32_id, um_eq, um_ne, um_um, uu_eq, uu_ne, uu_uu, vv_eq, vv_ne, vv_vv, ne_eq, not_false_eq_true, not_true_eq_false, reduceCtorEq, Int.reduceAdd, Int.reduceSub, Int.reduceMul, Int.reduceNeg, Nat.reduceEqDiff, or_true, true_or, true_implies, false_implies, Int.reduceLT, Int.reduceLE, Int.reduceEq, w3, b1, c1, msb_c hC hF, hz, if_true]
          rw [mX11_amiss_J65]
          exact g1 F X Q q
        · rw [mX12_amiss_L11]
          simp (disch := first | omega | decide) only [mX12_carOn, ↓rh_rcv, ↓rh_g0, ↓rh_r70, ↓rh_w70, ↓be_y, ↓be_n, ↓bf_y, ↓bf_n, ↓bl_y, ↓bl_n, ↓bm_y, ↓bm_n, ↓bg_y, ↓bg_n, ↓bs_y, ↓bs_n, ↓bo_y, ↓bo_n, ↓bp_y, ↓bp_n, ↓forall_eq, ↓within_y, ↓within_n, ↓isIn_y, ↓isIn_n, and_true, true_and, and_self, us_at, us_ne, w32_id, um_eq, um_ne, um_um, uu_eq, uu_ne, uu_uu, vv_eq, vv_ne, vv_vv, ne_eq, not_false_eq_true, not_true_eq_false, reduceCtorEq, Int.reduceAdd, Int.reduceSub, Int.reduceMul, Int.reduceNeg, Nat.reduceEqDiff, or_true, true_or, true_implies, false_implies, Int.reduceLT, Int.reduceLE, Int.reduceEq, msb_r (v := v) hC hF, hz, if_true]
          rw [mX12_amiss_J51]
          intro z hz; subst hz
          exact g2 F X Q q
      | false =>
        obtain ⟨r, g1, g2⟩ := ih (i + 1) a (by omega) (by omega)
        refine ⟨r, fun F X Q q => ?_, fun F X Q q => ?_⟩
        · rw [mX11_amiss_L11]
          simp (disch := first | omega | decide) only [mX10_countOn, mX10_carAt, ↓kh_c8, ↓kh_g8_0, ↓kh_g8_1, ↓kh_g8_2, ↓kh_g8_3, ↓kh_g8_4, ↓kh_g8_5, ↓kh_g8_6, ↓kh_g8_7, ↓kh_c10, ↓kh_g10_0, ↓kh_g10_1, ↓kh_g10_2, ↓kh_g10_3, ↓kh_g10_4, ↓kh_g10_5, ↓kh_g10_6, ↓kh_g10_7, ↓kh_g10_8, ↓kh_g10_9, ↓kh_g10_10, ↓kh_g10_11, ↓kh_g10_12, ↓kh_p10_12, ↓kh_g10_13, ↓kh_p10_13, ↓kh_g10_14, ↓kh_p10_14, ↓kh_g10_15, ↓kh_p10_15, ↓kh_c11, ↓kh_g11_0, ↓kh_r12, ↓kh_w12, ↓kh_n12, ↓kh_cp12_33, ↓kh_cp12_68, ↓kh_cp12_12, ↓kh_cp12_14, ↓be_y, ↓be_n, ↓bf_y, ↓bf_n, ↓bl_y, ↓bl_n, ↓bm_y, ↓bm_n, ↓bg_y, ↓bg_n, ↓bs_y, ↓bs_n, ↓bo_y, ↓bo_n, ↓bp_y, ↓bp_n, ↓forall_eq, ↓within_y, ↓within_n, ↓isIn_y, ↓isIn_n, and_true, true_and, and_self, us_at, us_ne, w32_id, um_eq, um_ne, um_um, uu_eq, uu_ne, uu_uu, vv_eq, vv_ne, vv_vv, ne_eq, not_false_eq_true, not_true_eq_false, reduceCtorEq, Int.reduceAdd, Int.reduceSub, Int.reduceMul, Int.reduceNeg, Nat.reduceEqDiff, or_true, true_or, true_implies, false_implies, Int.reduceLT, Int.reduceLE, Int.reduceEq, w3, b1, c1, msb_c hC hF, hz, if_false, Bool.false_eq_true]
          rw [mX11_amiss_J65]
          exact g1 F X Q q
        · rw [mX12_amiss_L11]
          simp (disch := first | omega | decide) only [mX12_carOn, ↓rh_rcv, ↓rh_g0, ↓rh_r70, ↓rh_w70, ↓be_y, ↓be_n, ↓bf_y, ↓bf_n, ↓bl_y, ↓bl_n, ↓bm_y, ↓bm_n, ↓bg_y, ↓bg_n, ↓bs_y, ↓bs_n, ↓bo_y, ↓bo_n, ↓bp_y, ↓bp_n, ↓forall_eq, ↓within_y, ↓within_n, ↓isIn_y, ↓isIn_n, and_true, true_and, and_self, us_at, us_ne, w32_id, um_eq, um_ne, um_um, uu_eq, uu_ne, uu_uu, vv_eq, vv_ne, vv_vv, ne_eq, not_false_eq_true, not_true_eq_false, reduceCtorEq, Int.reduceAdd, Int.reduceSub, Int.reduceMul, Int.reduceNeg, Nat.reduceEqDiff, or_true, true_or, true_implies, false_implies, Int.reduceLT, Int.reduceLE, Int.reduceEq, msb_r (v := v) hC hF, hz, if_false, Bool.false_eq_true]
          rw [mX12_amiss_J51]
          intro z hz; subst hz
          rw [Int.add_zero]
          exact g2 F X Q q
    · refine ⟨a, fun F X Q q => ?_, fun F X Q q => ?_⟩
      · rw [mX11_amiss_L11]
        simp (disch := first | omega | decide) only [mX10_countOn, ↓kh_c8, ↓kh_g8_0, ↓kh_g8_1, ↓kh_g8_2, ↓kh_g8_3, ↓kh_g8_4, ↓kh_g8_5, ↓kh_g8_6, ↓kh_g8_7, ↓kh_c10, ↓kh_g10_0, ↓kh_g10_1, ↓kh_g10_2, ↓kh_g10_3, ↓kh_g10_4, ↓kh_g10_5, ↓kh_g10_6, ↓kh_g10_7, ↓kh_g10_8, ↓kh_g10_9, ↓kh_g10_10, ↓kh_g10_11, ↓kh_g10_12, ↓kh_p10_12, ↓kh_g10_13, ↓kh_p10_13, ↓kh_g10_14, ↓kh_p10_14, ↓kh_g10_15, ↓kh_p10_15, ↓kh_c11, ↓kh_g11_0, ↓kh_r12, ↓kh_w12, ↓kh_n12, ↓kh_cp12_33, ↓kh_cp12_68, ↓kh_cp12_12, ↓kh_cp12_14, ↓be_y, ↓be_n, ↓bf_y, ↓bf_n, ↓bl_y, ↓bl_n, ↓bm_y, ↓bm_n, ↓bg_y, ↓bg_n, ↓bs_y, ↓bs_n, ↓bo_y, ↓bo_n, ↓bp_y, ↓bp_n, ↓forall_eq, ↓within_y, ↓within_n, ↓isIn_y, ↓isIn_n, and_true, true_and, and_self, us_at, us_ne, w32_id, um_eq, um_ne, um_um, uu_eq, uu_ne, uu_uu, vv_eq, vv_ne, vv_vv, ne_eq, not_false_eq_true, not_true_eq_false, reduceCtorEq, Int.reduceAdd, Int.reduceSub, Int.reduceMul, Int.reduceNeg, Nat.reduceEqDiff, or_true, true_or, true_implies, false_implies, Int.reduceLT, Int.reduceLE, Int.reduceEq, w3]
        exact q
      · rw [mX12_amiss_L11]
        simp (disch := first | omega | decide) only [w32_id, ↓rh_rcv, ↓rh_g0, ↓rh_r70, ↓rh_w70, ↓be_y, ↓be_n, ↓bf_y, ↓bf_n, ↓bl_y, ↓bl_n, ↓bm_y, ↓bm_n, ↓bg_y, ↓bg_n, ↓bs_y, ↓bs_n, ↓bo_y, ↓bo_n, ↓bp_y, ↓bp_n, ↓forall_eq, ↓within_y, ↓within_n, ↓isIn_y, ↓isIn_n, and_true, true_and, and_self, us_at, us_ne, w32_id, um_eq, um_ne, um_um, uu_eq, uu_ne, uu_uu, vv_eq, vv_ne, vv_vv, ne_eq, not_false_eq_true, not_true_eq_false, reduceCtorEq, Int.reduceAdd, Int.reduceSub, Int.reduceMul, Int.reduceNeg, Nat.reduceEqDiff, or_true, true_or, true_implies, false_implies, Int.reduceLT, Int.reduceLE, Int.reduceEq]
        exact q
theorem amiss_b (hY : jY (N 12) (M 70)) (hC : jC (N 15) (N 16) (N 17) (N 18) (N 19) (M 70)) (hF : jF (v 10 15) (M 70)) : ∀ (k : Nat) (t a : Int), t + k = 3 → 0 ≤ t → ∃ r : Int, (∀ (F : hp) (Q : Int → hp → Prop), Q r (kh F v N T) → mX11_amiss_L4 Q (k + 1) 8 a t (kh F v N T)) ∧ (∀ (F : hp) (Q : Int → hp → Prop), Q r (rh F u M) → mX12_amiss_L4 Q (k + 1) 69 a t (rh F u M)) := by
  intro k
  induction k with
  | zero =>
    intro t a ht h0
    refine ⟨a, fun F Q q => ?_, fun F Q q => ?_⟩
    · rw [mX11_amiss_L4]
      simp (disch := first | omega | decide) only [w32_id, ↓kh_c8, ↓kh_g8_0, ↓kh_g8_1, ↓kh_g8_2, ↓kh_g8_3, ↓kh_g8_4, ↓kh_g8_5, ↓kh_g8_6, ↓kh_g8_7, ↓be_y, ↓be_n, ↓bf_y, ↓bf_n, ↓bl_y, ↓bl_n, ↓bm_y, ↓bm_n, ↓bg_y, ↓bg_n, ↓bs_y, ↓bs_n, ↓bo_y, ↓bo_n, ↓bp_y, ↓bp_n, ↓forall_eq, ↓within_y, ↓within_n, ↓isIn_y, ↓isIn_n, and_true, true_and, and_self, us_at, us_ne, w32_id, um_eq, um_ne, um_um, uu_eq, uu_ne, uu_uu, vv_eq, vv_ne, vv_vv, ne_eq, not_false_eq_true, not_true_eq_false, reduceCtorEq, Int.reduceAdd, Int.reduceSub, Int.reduceMul, Int.reduceNeg, Nat.reduceEqDiff, or_true, true_or, true_implies, false_implies, Int.reduceLT, Int.reduceLE, Int.reduceEq]
      exact q
    · rw [mX12_amiss_L4]
      simp (disch := first | omega | decide) only [w32_id, ↓rh_rcv, ↓rh_g0, ↓rh_r70, ↓rh_w70, ↓be_y, ↓be_n, ↓bf_y, ↓bf_n, ↓bl_y, ↓bl_n, ↓bm_y, ↓bm_n, ↓bg_y, ↓bg_n, ↓bs_y, ↓bs_n, ↓bo_y, ↓bo_n, ↓bp_y, ↓bp_n, ↓forall_eq, ↓within_y, ↓within_n, ↓isIn_y, ↓isIn_n, and_true, true_and, and_self, us_at, us_ne, w32_id, um_eq, um_ne, um_um, uu_eq, uu_ne, uu_uu, vv_eq, vv_ne, vv_vv, ne_eq, not_false_eq_true, not_true_eq_false, reduceCtorEq, Int.reduceAdd, Int.reduceSub, Int.reduceMul, Int.reduceNeg, Nat.reduceEqDiff, or_true, true_or, true_implies, false_implies, Int.reduceLT, Int.reduceLE, Int.reduceEq]
      exact q
  | succ k ih =>
    intro t a ht h0
    have w := (trk hY (t := t) (by omega)).1
    obtain ⟨a', l1, l2⟩ := amiss_i (v := v) (N := N) (T := T) (u := u) (M := M) hY hC hF (t := t) (by omega) 4 1 a (by omega) (by omega)
    obtain ⟨r, g1, g2⟩ := ih (t + 1) a' (by omega) (by omega)
    refine ⟨r, fun F Q q => ?_, fun F Q q => ?_⟩
    · rw [mX11_amiss_L4]
      simp (disch := first | omega | decide) only [w32_id, ↓kh_c8, ↓kh_g8_0, ↓kh_g8_1, ↓kh_g8_2, ↓kh_g8_3, ↓kh_g8_4, ↓kh_g8_5, ↓kh_g8_6, ↓kh_g8_7, ↓kh_c10, ↓kh_g10_0, ↓kh_g10_1, ↓kh_g10_2, ↓kh_g10_3, ↓kh_g10_4, ↓kh_g10_5, ↓kh_g10_6, ↓kh_g10_7, ↓kh_g10_8, ↓kh_g10_9, ↓kh_g10_10, ↓kh_g10_11, ↓kh_g10_12, ↓kh_p10_12, ↓kh_g10_13, ↓kh_p10_13, ↓kh_g10_14, ↓kh_p10_14, ↓kh_g10_15, ↓kh_p10_15, ↓be_y, ↓be_n, ↓bf_y, ↓bf_n, ↓bl_y, ↓bl_n, ↓bm_y, ↓bm_n, ↓bg_y, ↓bg_n, ↓bs_y, ↓bs_n, ↓bo_y, ↓bo_n, ↓bp_y, ↓bp_n, ↓forall_eq, ↓within_y, ↓within_n, ↓isIn_y, ↓isIn_n, and_true, true_and, and_self, us_at, us_ne, w32_id, um_eq, um_ne, um_um, uu_eq, uu_ne, uu_uu, vv_eq, vv_ne, vv_vv, ne_eq, not_false_eq_true, not_true_eq_false, reduceCtorEq, Int.reduceAdd, Int.reduceSub, Int.reduceMul, Int.reduceNeg, Nat.reduceEqDiff, or_true, true_or, true_implies, false_implies, Int.reduceLT, Int.reduceLE, Int.reduceEq]
      exact ⟨5, l1 _ _ _ (g1 F Q q)⟩
    · rw [mX12_amiss_L4]
      simp (disch := first | omega | decide) only [w32_id, ↓rh_rcv, ↓rh_g0, ↓rh_r70, ↓rh_w70, ↓be_y, ↓be_n, ↓bf_y, ↓bf_n, ↓bl_y, ↓bl_n, ↓bm_y, ↓bm_n, ↓bg_y, ↓bg_n, ↓bs_y, ↓bs_n, ↓bo_y, ↓bo_n, ↓bp_y, ↓bp_n, ↓forall_eq, ↓within_y, ↓within_n, ↓isIn_y, ↓isIn_n, and_true, true_and, and_self, us_at, us_ne, w32_id, um_eq, um_ne, um_um, uu_eq, uu_ne, uu_uu, vv_eq, vv_ne, vv_vv, ne_eq, not_false_eq_true, not_true_eq_false, reduceCtorEq, Int.reduceAdd, Int.reduceSub, Int.reduceMul, Int.reduceNeg, Nat.reduceEqDiff, or_true, true_or, true_implies, false_implies, Int.reduceLT, Int.reduceLE, Int.reduceEq]
      exact ⟨5, l2 _ _ _ (g2 F Q q)⟩
set_option maxHeartbeats 4000000 in
theorem op_amiss  : OP n (mX11_amiss 8) (mX12_amiss 69) := by
  refine op_to (fun G v N T u M h => ?_)
  obtain ⟨⟨hY, hK, hC, hF, hB, hT, hS, hD, hX, hG⟩, hI, hM, hL, hW, hH, hN⟩ := id h
  have hc := jY_c hY
  obtain ⟨r, g1, g2⟩ := amiss_b (v := v) (N := N) (T := T) (u := u) (M := M) hY hC hF 3 0 0 (by omega) (by omega)
  exact ⟨r, v, N, u, M, Rel_up h, fun F Q q => ⟨4, g1 F Q q⟩, fun F Q q => ⟨4, g2 F Q q⟩⟩
-- stock
theorem out_bl (hT : jT (v 21 1) (v 21 2) (N 22) (M 70)) {d : Int} (hd : 0 ≤ d ∧ d ≤ 30) : ∀ (k : Nat) (i a : Int), i + k = M 70 4 → 0 ≤ i → 0 ≤ a ∧ a ≤ 30 * i → ∃ r : Int, (0 ≤ r ∧ r ≤ 240) ∧ (∀ (F : hp) (Q : Int → hp → Prop), Q r (kh F v N T) → mX11_wheelsOut_L13 Q (k + 1) d (some 21) a i (kh F v N T)) ∧ (∀ (F : hp) (Q : Int → hp → Prop), Q r (rh F u M) → mX12_outOn_L5 Q (k + 1) 69 d a (67 + 3 * i) (rh F u M)) := by
  obtain ⟨t1, ⟨t2, t2a, t2b⟩, t3⟩ := hT
  intro k
  induction k with
  | zero =>
    intro i a hi h0 ha
    refine ⟨a, by omega, fun F Q q => ?_, fun F Q q => ?_⟩
    · rw [mX11_wheelsOut_L13]
      simp (disch := first | omega | decide) only [w32_id, ↓kh_c21, ↓kh_g21_0, ↓kh_g21_1, ↓kh_p21_1, ↓kh_g21_2, ↓kh_p21_2, ↓kh_r22, ↓kh_w22, ↓kh_n22, ↓kh_cp22_43, ↓be_y, ↓be_n, ↓bf_y, ↓bf_n, ↓bl_y, ↓bl_n, ↓bm_y, ↓bm_n, ↓bg_y, ↓bg_n, ↓bs_y, ↓bs_n, ↓bo_y, ↓bo_n, ↓bp_y, ↓bp_n, ↓forall_eq, ↓within_y, ↓within_n, ↓isIn_y, ↓isIn_n, and_true, true_and, and_self, us_at, us_ne, w32_id, um_eq, um_ne, um_um, uu_eq, uu_ne, uu_uu, vv_eq, vv_ne, vv_vv, ne_eq, not_false_eq_true, not_true_eq_false, reduceCtorEq, Int.reduceAdd, Int.reduceSub, Int.reduceMul, Int.reduceNeg, Nat.reduceEqDiff, or_true, true_or, true_implies, false_implies, Int.reduceLT, Int.reduceLE, Int.reduceEq, t2]
      exact q
    · rw [mX12_outOn_L5]
      simp (disch := first | omega | decide) only [w32_id, ↓rh_rcv, ↓rh_g0, ↓rh_r70, ↓rh_w70, ↓be_y, ↓be_n, ↓bf_y, ↓bf_n, ↓bl_y, ↓bl_n, ↓bm_y, ↓bm_n, ↓bg_y, ↓bg_n, ↓bs_y, ↓bs_n, ↓bo_y, ↓bo_n, ↓bp_y, ↓bp_n, ↓forall_eq, ↓within_y, ↓within_n, ↓isIn_y, ↓isIn_n, and_true, true_and, and_self, us_at, us_ne, w32_id, um_eq, um_ne, um_um, uu_eq, uu_ne, uu_uu, vv_eq, vv_ne, vv_vv, ne_eq, not_false_eq_true, not_true_eq_false, reduceCtorEq, Int.reduceAdd, Int.reduceSub, Int.reduceMul, Int.reduceNeg, Nat.reduceEqDiff, or_true, true_or, true_implies, false_implies, Int.reduceLT, Int.reduceLE, Int.reduceEq]
      exact q
  | succ k ih =>
    intro i a hi h0 ha
    have c0 := t3 (3 * i) (by omega) (by omega)
    have c1 := t3 (3 * i + 1) (by omega) (by omega)
    have c2 := t3 (3 * i + 2) (by omega) (by omega)
    rw [show 67 + (3 * i + 1) = 67 + 3 * i + 1 by omega] at c1
    rw [show 67 + (3 * i + 2) = 67 + 3 * i + 2 by omega] at c2
    have e0 := c0.1
    have e1 := c1.1
    have e2 := c2.1
    have z : 3 * i + 0 = 3 * i := by omega
    have y : 67 + 3 * i + 3 = 67 + 3 * (i + 1) := by omega
    by_cases d' : M 70 (67 + 3 * i) ≤ d ∧ d ≤ M 70 (67 + 3 * i + 1)
    · obtain ⟨r, g0, g1, g2⟩ := ih (i + 1) (a + M 70 (67 + 3 * i + 2)) (by omega) (by omega) (by omega)
      refine ⟨r, g0, fun F Q q => ?_, fun F Q q => ?_⟩
      · rw [mX11_wheelsOut_L13]
        simp (disch := first | omega | decide) only [mX7_cell, mX11_wheelsOut_J53, ↓kh_c21, ↓kh_g21_0, ↓kh_g21_1, ↓kh_p21_1, ↓kh_g21_2, ↓kh_p21_2, ↓kh_r22, ↓kh_w22, ↓kh_n22, ↓kh_cp22_43, ↓be_y, ↓be_n, ↓bf_y, ↓bf_n, ↓bl_y, ↓bl_n, ↓bm_y, ↓bm_n, ↓bg_y, ↓bg_n, ↓bs_y, ↓bs_n, ↓bo_y, ↓bo_n, ↓bp_y, ↓bp_n, ↓forall_eq, ↓within_y, ↓within_n, ↓isIn_y, ↓isIn_n, and_true, true_and, and_self, us_at, us_ne, w32_id, um_eq, um_ne, um_um, uu_eq, uu_ne, uu_uu, vv_eq, vv_ne, vv_vv, ne_eq, not_false_eq_true, not_true_eq_false, reduceCtorEq, Int.reduceAdd, Int.reduceSub, Int.reduceMul, Int.reduceNeg, Nat.reduceEqDiff, or_true, true_or, true_implies, false_implies, Int.reduceLT, Int.reduceLE, Int.reduceEq, t2, e0, e1, e2, z]
        exact g1 F Q q
      · rw [mX12_outOn_L5]
        simp (disch := first | omega | decide) only [mX12_outOn_J54, ↓rh_rcv, ↓rh_g0, ↓rh_r70, ↓rh_w70, ↓be_y, ↓be_n, ↓bf_y, ↓bf_n, ↓bl_y, ↓bl_n, ↓bm_y, ↓bm_n, ↓bg_y, ↓bg_n, ↓bs_y, ↓bs_n, ↓bo_y, ↓bo_n, ↓bp_y, ↓bp_n, ↓forall_eq, ↓within_y, ↓within_n, ↓isIn_y, ↓isIn_n, and_true, true_and, and_self, us_at, us_ne, w32_id, um_eq, um_ne, um_um, uu_eq, uu_ne, uu_uu, vv_eq, vv_ne, vv_vv, ne_eq, not_false_eq_true, not_true_eq_false, reduceCtorEq, Int.reduceAdd, Int.reduceSub, Int.reduceMul, Int.reduceNeg, Nat.reduceEqDiff, or_true, true_or, true_implies, false_implies, Int.reduceLT, Int.reduceLE, Int.reduceEq, y]
        exact g2 F Q q
    · obtain ⟨r, g0, g1, g2⟩ := ih (i + 1) a (by omega) (by omega) (by omega)
      refine ⟨r, g0, fun F Q q => ?_, fun F Q q => ?_⟩
      · rw [mX11_wheelsOut_L13]
        simp (disch := first | omega | decide) only [mX7_cell, mX11_wheelsOut_J53, ↓kh_c21, ↓kh_g21_0, ↓kh_g21_1, ↓kh_p21_1, ↓kh_g21_2, ↓kh_p21_2, ↓kh_r22, ↓kh_w22, ↓kh_n22, ↓kh_cp22_43, ↓be_y, ↓be_n, ↓bf_y, ↓bf_n, ↓bl_y, ↓bl_n, ↓bm_y, ↓bm_n, ↓bg_y, ↓bg_n, ↓bs_y, ↓bs_n, ↓bo_y, ↓bo_n, ↓bp_y, ↓bp_n, ↓forall_eq, ↓within_y, ↓within_n, ↓isIn_y, ↓isIn_n, and_true, true_and, and_self, us_at, us_ne, w32_id, um_eq, um_ne, um_um, uu_eq, uu_ne, uu_uu, vv_eq, vv_ne, vv_vv, ne_eq, not_false_eq_true, not_true_eq_false, reduceCtorEq, Int.reduceAdd, Int.reduceSub, Int.reduceMul, Int.reduceNeg, Nat.reduceEqDiff, or_true, true_or, true_implies, false_implies, Int.reduceLT, Int.reduceLE, Int.reduceEq, t2, e0, e1, e2, z]
        exact g1 F Q q
      · rw [mX12_outOn_L5]
        simp (disch := first | omega | decide) only [mX12_outOn_J54, ↓rh_rcv, ↓rh_g0, ↓rh_r70, ↓rh_w70, ↓be_y, ↓be_n, ↓bf_y, ↓bf_n, ↓bl_y, ↓bl_n, ↓bm_y, ↓bm_n, ↓bg_y, ↓bg_n, ↓bs_y, ↓bs_n, ↓bo_y, ↓bo_n, ↓bp_y, ↓bp_n, ↓forall_eq, ↓within_y, ↓within_n, ↓isIn_y, ↓isIn_n, and_true, true_and, and_self, us_at, us_ne, w32_id, um_eq, um_ne, um_um, uu_eq, uu_ne, uu_uu, vv_eq, vv_ne, vv_vv, ne_eq, not_false_eq_true, not_true_eq_false, reduceCtorEq, Int.reduceAdd, Int.reduceSub, Int.reduceMul, Int.reduceNeg, Nat.reduceEqDiff, or_true, true_or, true_implies, false_implies, Int.reduceLT, Int.reduceLE, Int.reduceEq, y, Int.add_zero]
        exact g2 F Q q
theorem out_b (hT : jT (v 21 1) (v 21 2) (N 22) (M 70)) {d : Int} (hd : 0 ≤ d ∧ d ≤ 30) : ∃ r : Int, (0 ≤ r ∧ r ≤ 240) ∧ (∀ (F : hp) (Q : Int → hp → Prop), Q r (kh F v N T) → mX11_wheelsOut 8 d (kh F v N T) Q) ∧ (∀ (F : hp) (Q : Int → hp → Prop), Q r (rh F u M) → mX12_outOn 69 d (rh F u M) Q) := by
  have b := hT.2.1
  obtain ⟨r, g0, g1, g2⟩ := out_bl (T := T) (u := u) hT hd (M 70 4).toNat 0 0 (by omega) (by omega) (by omega)
  refine ⟨r, g0, fun F Q q => ?_, fun F Q q => ⟨_, g2 F Q q⟩⟩
  simp (disch := first | omega | decide) only [mX11_wheelsOut, ↓kh_c8, ↓kh_g8_0, ↓kh_g8_1, ↓kh_g8_2, ↓kh_g8_3, ↓kh_g8_4, ↓kh_g8_5, ↓kh_g8_6, ↓kh_g8_7, ↓kh_c10, ↓kh_g10_0, ↓kh_g10_1, ↓kh_g10_2, ↓kh_g10_3, ↓kh_g10_4, ↓kh_g10_5, ↓kh_g10_6, ↓kh_g10_7, ↓kh_g10_8, ↓kh_g10_9, ↓kh_g10_10, ↓kh_g10_11, ↓kh_g10_12, ↓kh_p10_12, ↓kh_g10_13, ↓kh_p10_13, ↓kh_g10_14, ↓kh_p10_14, ↓kh_g10_15, ↓kh_p10_15, ↓kh_c21, ↓kh_g21_0, ↓kh_g21_1, ↓kh_p21_1, ↓kh_g21_2, ↓kh_p21_2, ↓be_y, ↓be_n, ↓bf_y, ↓bf_n, ↓bl_y, ↓bl_n, ↓bm_y, ↓bm_n, ↓bg_y, ↓bg_n, ↓bs_y, ↓bs_n, ↓bo_y, ↓bo_n, ↓bp_y, ↓bp_n, ↓forall_eq, ↓within_y, ↓within_n, ↓isIn_y, ↓isIn_n, and_true, true_and, and_self, us_at, us_ne, w32_id, um_eq, um_ne, um_um, uu_eq, uu_ne, uu_uu, vv_eq, vv_ne, vv_vv, ne_eq, not_false_eq_true, not_true_eq_false, reduceCtorEq, Int.reduceAdd, Int.reduceSub, Int.reduceMul, Int.reduceNeg, Nat.reduceEqDiff, or_true, true_or, true_implies, false_implies, Int.reduceLT, Int.reduceLE, Int.reduceEq]
  exact ⟨_, g1 F Q q⟩
theorem stock_b (hT : jT (v 21 1) (v 21 2) (N 22) (M 70)) {x1 : Int} (hx : -2147483648 ≤ x1 ∧ x1 ≤ 2147483647) : ∀ (k : Nat) (d m f : Int), d + k = 31 → 0 ≤ d → 0 ≤ m ∧ m ≤ 240 → ∃ r : Int, (∀ (F : hp) (Q : Int → hp → Prop), Q r (kh F v N T) → mX11_stock_L7 Q (k + 1) 8 x1 m f d (kh F v N T)) ∧ (∀ (F : hp) (Q : Int → hp → Prop), Q r (rh F u M) → mX12_stock_L7 Q (k + 1) 69 x1 m f d (rh F u M)) := by
  intro k
  induction k with
  | zero =>
    intro d m f hd h0 hm
    by_cases e : x1 = 0
    · refine ⟨m, fun F Q q => ?_, fun F Q q => ?_⟩
      · rw [mX11_stock_L7]
        simp (disch := first | omega | decide) only [w32_id, ↓kh_c8, ↓kh_g8_0, ↓kh_g8_1, ↓kh_g8_2, ↓kh_g8_3, ↓kh_g8_4, ↓kh_g8_5, ↓kh_g8_6, ↓kh_g8_7, ↓be_y, ↓be_n, ↓bf_y, ↓bf_n, ↓bl_y, ↓bl_n, ↓bm_y, ↓bm_n, ↓bg_y, ↓bg_n, ↓bs_y, ↓bs_n, ↓bo_y, ↓bo_n, ↓bp_y, ↓bp_n, ↓forall_eq, ↓within_y, ↓within_n, ↓isIn_y, ↓isIn_n, and_true, true_and, and_self, us_at, us_ne, w32_id, um_eq, um_ne, um_um, uu_eq, uu_ne, uu_uu, vv_eq, vv_ne, vv_vv, ne_eq, not_false_eq_true, not_true_eq_false, reduceCtorEq, Int.reduceAdd, Int.reduceSub, Int.reduceMul, Int.reduceNeg, Nat.reduceEqDiff, or_true, true_or, true_implies, false_implies, Int.reduceLT, Int.reduceLE, Int.reduceEq]
        exact q
      · rw [mX12_stock_L7]
        simp (disch := first | omega | decide) only [w32_id, ↓rh_rcv, ↓rh_g0, ↓rh_r70, ↓rh_w70, ↓be_y, ↓be_n, ↓bf_y, ↓bf_n, ↓bl_y, ↓bl_n, ↓bm_y, ↓bm_n, ↓bg_y, ↓bg_n, ↓bs_y, ↓bs_n, ↓bo_y, ↓bo_n, ↓bp_y, ↓bp_n, ↓forall_eq, ↓within_y, ↓within_n, ↓isIn_y, ↓isIn_n, and_true, true_and, and_self, us_at, us_ne, w32_id, um_eq, um_ne, um_um, uu_eq, uu_ne, uu_uu, vv_eq, vv_ne, vv_vv, ne_eq, not_false_eq_true, not_true_eq_false, reduceCtorEq, Int.reduceAdd, Int.reduceSub, Int.reduceMul, Int.reduceNeg, Nat.reduceEqDiff, or_true, true_or, true_implies, false_implies, Int.reduceLT, Int.reduceLE, Int.reduceEq]
        exact q
    · refine ⟨f, fun F Q q => ?_, fun F Q q => ?_⟩
      · rw [mX11_stock_L7]
        simp (disch := first | omega | decide) only [w32_id, ↓kh_c8, ↓kh_g8_0, ↓kh_g8_1, ↓kh_g8_2, ↓kh_g8_3, ↓kh_g8_4, ↓kh_g8_5, ↓kh_g8_6, ↓kh_g8_7, ↓be_y, ↓be_n, ↓bf_y, ↓bf_n, ↓bl_y, ↓bl_n, ↓bm_y, ↓bm_n, ↓bg_y, ↓bg_n, ↓bs_y, ↓bs_n, ↓bo_y, ↓bo_n, ↓bp_y, ↓bp_n, ↓forall_eq, ↓within_y, ↓within_n, ↓isIn_y, ↓isIn_n, and_true, true_and, and_self, us_at, us_ne, w32_id, um_eq, um_ne, um_um, uu_eq, uu_ne, uu_uu, vv_eq, vv_ne, vv_vv, ne_eq, not_false_eq_true, not_true_eq_false, reduceCtorEq, Int.reduceAdd, Int.reduceSub, Int.reduceMul, Int.reduceNeg, Nat.reduceEqDiff, or_true, true_or, true_implies, false_implies, Int.reduceLT, Int.reduceLE, Int.reduceEq]
        exact q
      · rw [mX12_stock_L7]
        simp (disch := first | omega | decide) only [w32_id, ↓rh_rcv, ↓rh_g0, ↓rh_r70, ↓rh_w70, ↓be_y, ↓be_n, ↓bf_y, ↓bf_n, ↓bl_y, ↓bl_n, ↓bm_y, ↓bm_n, ↓bg_y, ↓bg_n, ↓bs_y, ↓bs_n, ↓bo_y, ↓bo_n, ↓bp_y, ↓bp_n, ↓forall_eq, ↓within_y, ↓within_n, ↓isIn_y, ↓isIn_n, and_true, true_and, and_self, us_at, us_ne, w32_id, um_eq, um_ne, um_um, uu_eq, uu_ne, uu_uu, vv_eq, vv_ne, vv_vv, ne_eq, not_false_eq_true, not_true_eq_false, reduceCtorEq, Int.reduceAdd, Int.reduceSub, Int.reduceMul, Int.reduceNeg, Nat.reduceEqDiff, or_true, true_or, true_implies, false_implies, Int.reduceLT, Int.reduceLE, Int.reduceEq]
        exact q
  | succ k ih =>
    intro d m f hd h0 hm
    obtain ⟨o, o0, o1, o2⟩ := out_b (T := T) (u := u) hT (d := d) (by omega)
    by_cases e : m < o
    · obtain ⟨r, g1, g2⟩ := ih (d + 1) o d (by omega) (by omega) (by omega)
      refine ⟨r, fun F Q q => ?_, fun F Q q => ?_⟩
      · rw [mX11_stock_L7]
        simp (disch := first | omega | decide) only [w32_id, ↓kh_c8, ↓kh_g8_0, ↓kh_g8_1, ↓kh_g8_2, ↓kh_g8_3, ↓kh_g8_4, ↓kh_g8_5, ↓kh_g8_6, ↓kh_g8_7, ↓be_y, ↓be_n, ↓bf_y, ↓bf_n, ↓bl_y, ↓bl_n, ↓bm_y, ↓bm_n, ↓bg_y, ↓bg_n, ↓bs_y, ↓bs_n, ↓bo_y, ↓bo_n, ↓bp_y, ↓bp_n, ↓forall_eq, ↓within_y, ↓within_n, ↓isIn_y, ↓isIn_n, and_true, true_and, and_self, us_at, us_ne, w32_id, um_eq, um_ne, um_um, uu_eq, uu_ne, uu_uu, vv_eq, vv_ne, vv_vv, ne_eq, not_false_eq_true, not_true_eq_false, reduceCtorEq, Int.reduceAdd, Int.reduceSub, Int.reduceMul, Int.reduceNeg, Nat.reduceEqDiff, or_true, true_or, true_implies, false_implies, Int.reduceLT, Int.reduceLE, Int.reduceEq]
        refine o1 _ _ ?_
        simp (disch := first | omega | decide) only [mX11_stock_J34, ↓kh_c8, ↓kh_g8_0, ↓kh_g8_1, ↓kh_g8_2, ↓kh_g8_3, ↓kh_g8_4, ↓kh_g8_5, ↓kh_g8_6, ↓kh_g8_7, ↓be_y, ↓be_n, ↓bf_y, ↓bf_n, ↓bl_y, ↓bl_n, ↓bm_y, ↓bm_n, ↓bg_y, ↓bg_n, ↓bs_y, ↓bs_n, ↓bo_y, ↓bo_n, ↓bp_y, ↓bp_n, ↓forall_eq, ↓within_y, ↓within_n, ↓isIn_y, ↓isIn_n, and_true, true_and, and_self, us_at, us_ne, w32_id, um_eq, um_ne, um_um, uu_eq, uu_ne, uu_uu, vv_eq, vv_ne, vv_vv, ne_eq, not_false_eq_true, not_true_eq_false, reduceCtorEq, Int.reduceAdd, Int.reduceSub, Int.reduceMul, Int.reduceNeg, Nat.reduceEqDiff, or_true, true_or, true_implies, false_implies, Int.reduceLT, Int.reduceLE, Int.reduceEq]
        exact g1 F Q q
      · rw [mX12_stock_L7]
        simp (disch := first | omega | decide) only [w32_id, ↓rh_rcv, ↓rh_g0, ↓rh_r70, ↓rh_w70, ↓be_y, ↓be_n, ↓bf_y, ↓bf_n, ↓bl_y, ↓bl_n, ↓bm_y, ↓bm_n, ↓bg_y, ↓bg_n, ↓bs_y, ↓bs_n, ↓bo_y, ↓bo_n, ↓bp_y, ↓bp_n, ↓forall_eq, ↓within_y, ↓within_n, ↓isIn_y, ↓isIn_n, and_true, true_and, and_self, us_at, us_ne, w32_id, um_eq, um_ne, um_um, uu_eq, uu_ne, uu_uu, vv_eq, vv_ne, vv_vv, ne_eq, not_false_eq_true, not_true_eq_false, reduceCtorEq, Int.reduceAdd, Int.reduceSub, Int.reduceMul, Int.reduceNeg, Nat.reduceEqDiff, or_true, true_or, true_implies, false_implies, Int.reduceLT, Int.reduceLE, Int.reduceEq]
        refine o2 _ _ ?_
        simp (disch := first | omega | decide) only [w32_id, ↓rh_rcv, ↓rh_g0, ↓rh_r70, ↓rh_w70, ↓be_y, ↓be_n, ↓bf_y, ↓bf_n, ↓bl_y, ↓bl_n, ↓bm_y, ↓bm_n, ↓bg_y, ↓bg_n, ↓bs_y, ↓bs_n, ↓bo_y, ↓bo_n, ↓bp_y, ↓bp_n, ↓forall_eq, ↓within_y, ↓within_n, ↓isIn_y, ↓isIn_n, and_true, true_and, and_self, us_at, us_ne, w32_id, um_eq, um_ne, um_um, uu_eq, uu_ne, uu_uu, vv_eq, vv_ne, vv_vv, ne_eq, not_false_eq_true, not_true_eq_false, reduceCtorEq, Int.reduceAdd, Int.reduceSub, Int.reduceMul, Int.reduceNeg, Nat.reduceEqDiff, or_true, true_or, true_implies, false_implies, Int.reduceLT, Int.reduceLE, Int.reduceEq]
        refine o2 _ _ ?_
        simp (disch := first | omega | decide) only [mX12_stock_J37, ↓rh_rcv, ↓rh_g0, ↓rh_r70, ↓rh_w70, ↓be_y, ↓be_n, ↓bf_y, ↓bf_n, ↓bl_y, ↓bl_n, ↓bm_y, ↓bm_n, ↓bg_y, ↓bg_n, ↓bs_y, ↓bs_n, ↓bo_y, ↓bo_n, ↓bp_y, ↓bp_n, ↓forall_eq, ↓within_y, ↓within_n, ↓isIn_y, ↓isIn_n, and_true, true_and, and_self, us_at, us_ne, w32_id, um_eq, um_ne, um_um, uu_eq, uu_ne, uu_uu, vv_eq, vv_ne, vv_vv, ne_eq, not_false_eq_true, not_true_eq_false, reduceCtorEq, Int.reduceAdd, Int.reduceSub, Int.reduceMul, Int.reduceNeg, Nat.reduceEqDiff, or_true, true_or, true_implies, false_implies, Int.reduceLT, Int.reduceLE, Int.reduceEq]
        exact g2 F Q q
    · obtain ⟨r, g1, g2⟩ := ih (d + 1) m f (by omega) (by omega) (by omega)
      refine ⟨r, fun F Q q => ?_, fun F Q q => ?_⟩
      · rw [mX11_stock_L7]
        simp (disch := first | omega | decide) only [w32_id, ↓kh_c8, ↓kh_g8_0, ↓kh_g8_1, ↓kh_g8_2, ↓kh_g8_3, ↓kh_g8_4, ↓kh_g8_5, ↓kh_g8_6, ↓kh_g8_7, ↓be_y, ↓be_n, ↓bf_y, ↓bf_n, ↓bl_y, ↓bl_n, ↓bm_y, ↓bm_n, ↓bg_y, ↓bg_n, ↓bs_y, ↓bs_n, ↓bo_y, ↓bo_n, ↓bp_y, ↓bp_n, ↓forall_eq, ↓within_y, ↓within_n, ↓isIn_y, ↓isIn_n, and_true, true_and, and_self, us_at, us_ne, w32_id, um_eq, um_ne, um_um, uu_eq, uu_ne, uu_uu, vv_eq, vv_ne, vv_vv, ne_eq, not_false_eq_true, not_true_eq_false, reduceCtorEq, Int.reduceAdd, Int.reduceSub, Int.reduceMul, Int.reduceNeg, Nat.reduceEqDiff, or_true, true_or, true_implies, false_implies, Int.reduceLT, Int.reduceLE, Int.reduceEq]
        refine o1 _ _ ?_
        simp (disch := first | omega | decide) only [mX11_stock_J34, ↓kh_c8, ↓kh_g8_0, ↓kh_g8_1, ↓kh_g8_2, ↓kh_g8_3, ↓kh_g8_4, ↓kh_g8_5, ↓kh_g8_6, ↓kh_g8_7, ↓be_y, ↓be_n, ↓bf_y, ↓bf_n, ↓bl_y, ↓bl_n, ↓bm_y, ↓bm_n, ↓bg_y, ↓bg_n, ↓bs_y, ↓bs_n, ↓bo_y, ↓bo_n, ↓bp_y, ↓bp_n, ↓forall_eq, ↓within_y, ↓within_n, ↓isIn_y, ↓isIn_n, and_true, true_and, and_self, us_at, us_ne, w32_id, um_eq, um_ne, um_um, uu_eq, uu_ne, uu_uu, vv_eq, vv_ne, vv_vv, ne_eq, not_false_eq_true, not_true_eq_false, reduceCtorEq, Int.reduceAdd, Int.reduceSub, Int.reduceMul, Int.reduceNeg, Nat.reduceEqDiff, or_true, true_or, true_implies, false_implies, Int.reduceLT, Int.reduceLE, Int.reduceEq]
        exact g1 F Q q
      · rw [mX12_stock_L7]
        simp (disch := first | omega | decide) only [w32_id, ↓rh_rcv, ↓rh_g0, ↓rh_r70, ↓rh_w70, ↓be_y, ↓be_n, ↓bf_y, ↓bf_n, ↓bl_y, ↓bl_n, ↓bm_y, ↓bm_n, ↓bg_y, ↓bg_n, ↓bs_y, ↓bs_n, ↓bo_y, ↓bo_n, ↓bp_y, ↓bp_n, ↓forall_eq, ↓within_y, ↓within_n, ↓isIn_y, ↓isIn_n, and_true, true_and, and_self, us_at, us_ne, w32_id, um_eq, um_ne, um_um, uu_eq, uu_ne, uu_uu, vv_eq, vv_ne, vv_vv, ne_eq, not_false_eq_true, not_true_eq_false, reduceCtorEq, Int.reduceAdd, Int.reduceSub, Int.reduceMul, Int.reduceNeg, Nat.reduceEqDiff, or_true, true_or, true_implies, false_implies, Int.reduceLT, Int.reduceLE, Int.reduceEq]
        refine o2 _ _ ?_
        simp (disch := first | omega | decide) only [mX12_stock_J37, ↓rh_rcv, ↓rh_g0, ↓rh_r70, ↓rh_w70, ↓be_y, ↓be_n, ↓bf_y, ↓bf_n, ↓bl_y, ↓bl_n, ↓bm_y, ↓bm_n, ↓bg_y, ↓bg_n, ↓bs_y, ↓bs_n, ↓bo_y, ↓bo_n, ↓bp_y, ↓bp_n, ↓forall_eq, ↓within_y, ↓within_n, ↓isIn_y, ↓isIn_n, and_true, true_and, and_self, us_at, us_ne, w32_id, um_eq, um_ne, um_um, uu_eq, uu_ne, uu_uu, vv_eq, vv_ne, vv_vv, ne_eq, not_false_eq_true, not_true_eq_false, reduceCtorEq, Int.reduceAdd, Int.reduceSub, Int.reduceMul, Int.reduceNeg, Nat.reduceEqDiff, or_true, true_or, true_implies, false_implies, Int.reduceLT, Int.reduceLE, Int.reduceEq]
        exact g2 F Q q
set_option maxHeartbeats 4000000 in
theorem op_stock (h1 : -2147483648 ≤ x1 ∧ x1 ≤ 2147483647) : OP n (mX11_stock 8 x1) (mX12_stock 69 x1) := by
  refine op_to (fun G v N T u M h => ?_)
  obtain ⟨⟨hY, hK, hC, hF, hB, hT, hS, hD, hX, hG⟩, hI, hM, hL, hW, hH, hN⟩ := id h
  have hc := jY_c hY
  obtain ⟨r, g1, g2⟩ := stock_b (v := v) (N := N) (T := T) (u := u) (M := M) hT h1 31 0 0 (-1) (by omega) (by omega) (by omega)
  exact ⟨r, v, N, u, M, Rel_up h, fun F Q q => ⟨32, g1 F Q q⟩, fun F Q q => ⟨32, g2 F Q q⟩⟩
end Q2
