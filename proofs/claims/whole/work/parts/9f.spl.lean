section SPL
variable {v : Nat → Nat → Int} {N : Nat → Int → Int} {T : Nat → Int → Option Nat} {W : Int → Int} {L : Int} {F : hp}
def tpr (N : Nat → Int → Int) (v : Nat → Nat → Int) (W : Int → Int) (L : Int) : Prop := v 49 6 = L ∧ ∀ i, 0 ≤ i → i < L → (-128 ≤ N 50 i ∧ N 50 i ≤ 127) ∧ W i = N 50 i % 256
theorem ilc_y {r w : Int} (e : w = r % 256) (hr : -128 ≤ r ∧ r ≤ 127) (h : bL w = true) {Q : Int → hp → Prop} : mX2_isLetter r F Q ↔ Q 1 F := by
  unfold bL at h
  rw [decide_eq_true_eq] at h
  by_cases d : r < 97
  · simp (disch := first | omega | decide) only [mX2_isLetter, mX2_isLetter_J22, ↓kh_c49, ↓kh_g49_0, ↓kh_g49_1, ↓kh_g49_2, ↓kh_g49_3, ↓kh_g49_4, ↓kh_g49_5, ↓kh_g49_6, ↓kh_p49_6, ↓kh_g49_7, ↓kh_p49_7, ↓kh_g49_8, ↓kh_p49_8, ↓kh_g49_9, ↓kh_p49_9, ↓kh_g49_10, ↓kh_p49_10, ↓kh_g49_11, ↓kh_p49_11, ↓kh_g49_12, ↓kh_p49_12, ↓kh_g49_13, ↓kh_p49_13, ↓kh_g49_14, ↓kh_p49_14, ↓be_y, ↓be_n, ↓bf_y, ↓bf_n, ↓bl_y, ↓bl_n, ↓bm_y, ↓bm_n, ↓bg_y, ↓bg_n, ↓bs_y, ↓bs_n, ↓bo_y, ↓bo_n, ↓bp_y, ↓bp_n, ↓forall_eq, ↓within_y, ↓within_n, ↓isIn_y, ↓isIn_n, and_true, true_and, and_self, us_at, us_ne, w32_id, um_eq, um_ne, um_um, uu_eq, uu_ne, uu_uu, vv_eq, vv_ne, vv_vv, ne_eq, not_false_eq_true, not_true_eq_false, reduceCtorEq, Int.reduceAdd, Int.reduceSub, Int.reduceMul, Int.reduceNeg, Nat.reduceEqDiff, or_true, true_or, true_implies, false_implies, Int.reduceLT, Int.reduceLE, Int.reduceEq]
  · simp (disch := first | omega | decide) only [mX2_isLetter, mX2_isLetter_J22, ↓kh_c49, ↓kh_g49_0, ↓kh_g49_1, ↓kh_g49_2, ↓kh_g49_3, ↓kh_g49_4, ↓kh_g49_5, ↓kh_g49_6, ↓kh_p49_6, ↓kh_g49_7, ↓kh_p49_7, ↓kh_g49_8, ↓kh_p49_8, ↓kh_g49_9, ↓kh_p49_9, ↓kh_g49_10, ↓kh_p49_10, ↓kh_g49_11, ↓kh_p49_11, ↓kh_g49_12, ↓kh_p49_12, ↓kh_g49_13, ↓kh_p49_13, ↓kh_g49_14, ↓kh_p49_14, ↓be_y, ↓be_n, ↓bf_y, ↓bf_n, ↓bl_y, ↓bl_n, ↓bm_y, ↓bm_n, ↓bg_y, ↓bg_n, ↓bs_y, ↓bs_n, ↓bo_y, ↓bo_n, ↓bp_y, ↓bp_n, ↓forall_eq, ↓within_y, ↓within_n, ↓isIn_y, ↓isIn_n, and_true, true_and, and_self, us_at, us_ne, w32_id, um_eq, um_ne, um_um, uu_eq, uu_ne, uu_uu, vv_eq, vv_ne, vv_vv, ne_eq, not_false_eq_true, not_true_eq_false, reduceCtorEq, Int.reduceAdd, Int.reduceSub, Int.reduceMul, Int.reduceNeg, Nat.reduceEqDiff, or_true, true_or, true_implies, false_implies, Int.reduceLT, Int.reduceLE, Int.reduceEq]
theorem ilc_n {r w : Int} (e : w = r % 256) (hr : -128 ≤ r ∧ r ≤ 127) (h : ¬ bL w = true) {Q : Int → hp → Prop} : mX2_isLetter r F Q ↔ Q 0 F := by
  have h' : ¬ ((97 ≤ w ∧ w ≤ 122) ∨ (65 ≤ w ∧ w ≤ 90)) := fun t => h (by unfold bL; rw [decide_eq_true_eq]; exact t)
  have h1 : r < 97 ∨ 122 < r := by omega
  have h2 : r < 65 ∨ 90 < r := by omega
  clear h' h e
  simp (disch := first | omega | decide) only [mX2_isLetter, mX2_isLetter_J22, ↓kh_c49, ↓kh_g49_0, ↓kh_g49_1, ↓kh_g49_2, ↓kh_g49_3, ↓kh_g49_4, ↓kh_g49_5, ↓kh_g49_6, ↓kh_p49_6, ↓kh_g49_7, ↓kh_p49_7, ↓kh_g49_8, ↓kh_p49_8, ↓kh_g49_9, ↓kh_p49_9, ↓kh_g49_10, ↓kh_p49_10, ↓kh_g49_11, ↓kh_p49_11, ↓kh_g49_12, ↓kh_p49_12, ↓kh_g49_13, ↓kh_p49_13, ↓kh_g49_14, ↓kh_p49_14, ↓be_y, ↓be_n, ↓bf_y, ↓bf_n, ↓bl_y, ↓bl_n, ↓bm_y, ↓bm_n, ↓bg_y, ↓bg_n, ↓bs_y, ↓bs_n, ↓bo_y, ↓bo_n, ↓bp_y, ↓bp_n, ↓forall_eq, ↓within_y, ↓within_n, ↓isIn_y, ↓isIn_n, and_true, true_and, and_self, us_at, us_ne, w32_id, um_eq, um_ne, um_um, uu_eq, uu_ne, uu_uu, vv_eq, vv_ne, vv_vv, ne_eq, not_false_eq_true, not_true_eq_false, reduceCtorEq, Int.reduceAdd, Int.reduceSub, Int.reduceMul, Int.reduceNeg, Nat.reduceEqDiff, or_true, true_or, true_implies, false_implies, Int.reduceLT, Int.reduceLE, Int.reduceEq]
theorem idc_y {r w : Int} (e : w = r % 256) (hr : -128 ≤ r ∧ r ≤ 127) (h : bD w = true) {Q : Int → hp → Prop} : mX2_isDigit r F Q ↔ Q 1 F := by
  unfold bD at h
  rw [decide_eq_true_eq] at h
  simp (disch := first | omega | decide) only [mX2_isDigit, ↓kh_c49, ↓kh_g49_0, ↓kh_g49_1, ↓kh_g49_2, ↓kh_g49_3, ↓kh_g49_4, ↓kh_g49_5, ↓kh_g49_6, ↓kh_p49_6, ↓kh_g49_7, ↓kh_p49_7, ↓kh_g49_8, ↓kh_p49_8, ↓kh_g49_9, ↓kh_p49_9, ↓kh_g49_10, ↓kh_p49_10, ↓kh_g49_11, ↓kh_p49_11, ↓kh_g49_12, ↓kh_p49_12, ↓kh_g49_13, ↓kh_p49_13, ↓kh_g49_14, ↓kh_p49_14, ↓be_y, ↓be_n, ↓bf_y, ↓bf_n, ↓bl_y, ↓bl_n, ↓bm_y, ↓bm_n, ↓bg_y, ↓bg_n, ↓bs_y, ↓bs_n, ↓bo_y, ↓bo_n, ↓bp_y, ↓bp_n, ↓forall_eq, ↓within_y, ↓within_n, ↓isIn_y, ↓isIn_n, and_true, true_and, and_self, us_at, us_ne, w32_id, um_eq, um_ne, um_um, uu_eq, uu_ne, uu_uu, vv_eq, vv_ne, vv_vv, ne_eq, not_false_eq_true, not_true_eq_false, reduceCtorEq, Int.reduceAdd, Int.reduceSub, Int.reduceMul, Int.reduceNeg, Nat.reduceEqDiff, or_true, true_or, true_implies, false_implies, Int.reduceLT, Int.reduceLE, Int.reduceEq]
theorem idc_n {r w : Int} (e : w = r % 256) (hr : -128 ≤ r ∧ r ≤ 127) (h : ¬ bD w = true) {Q : Int → hp → Prop} : mX2_isDigit r F Q ↔ Q 0 F := by
  have h' : ¬ (48 ≤ w ∧ w ≤ 57) := fun t => h (by unfold bD; rw [decide_eq_true_eq]; exact t)
  have h1 : r < 48 ∨ 57 < r := by omega
  simp (disch := first | omega | decide) only [mX2_isDigit, ↓kh_c49, ↓kh_g49_0, ↓kh_g49_1, ↓kh_g49_2, ↓kh_g49_3, ↓kh_g49_4, ↓kh_g49_5, ↓kh_g49_6, ↓kh_p49_6, ↓kh_g49_7, ↓kh_p49_7, ↓kh_g49_8, ↓kh_p49_8, ↓kh_g49_9, ↓kh_p49_9, ↓kh_g49_10, ↓kh_p49_10, ↓kh_g49_11, ↓kh_p49_11, ↓kh_g49_12, ↓kh_p49_12, ↓kh_g49_13, ↓kh_p49_13, ↓kh_g49_14, ↓kh_p49_14, ↓be_y, ↓be_n, ↓bf_y, ↓bf_n, ↓bl_y, ↓bl_n, ↓bm_y, ↓bm_n, ↓bg_y, ↓bg_n, ↓bs_y, ↓bs_n, ↓bo_y, ↓bo_n, ↓bp_y, ↓bp_n, ↓forall_eq, ↓within_y, ↓within_n, ↓isIn_y, ↓isIn_n, and_true, true_and, and_self, us_at, us_ne, w32_id, um_eq, um_ne, um_um, uu_eq, uu_ne, uu_uu, vv_eq, vv_ne, vv_vv, ne_eq, not_false_eq_true, not_true_eq_false, reduceCtorEq, Int.reduceAdd, Int.reduceSub, Int.reduceMul, Int.reduceNeg, Nat.reduceEqDiff, or_true, true_or, true_implies, false_implies, Int.reduceLT, Int.reduceLE, Int.reduceEq]
theorem bw_l (hL : 0 ≤ L ∧ L ≤ 300) (ht : tpr N v W L) {Q : Int → hp → Prop} : ∀ (k : Nat) (p : Int), (L - p).toNat = k → 0 ≤ p → p ≤ L → Q (spe bL W L p) (kh F v N T) → mX2_behindWord_L2 Q (k + 1) 49 p (kh F v N T) := by
  have e6 := ht.1
  intro k
  induction k with
  | zero =>
    intro p hk h0 h1 q
    rw [spe_n (by omega)] at q
    rw [mX2_behindWord_L2]
    simp (disch := first | omega | decide) only [w32_id, ↓kh_c49, ↓kh_g49_0, ↓kh_g49_1, ↓kh_g49_2, ↓kh_g49_3, ↓kh_g49_4, ↓kh_g49_5, ↓kh_g49_6, ↓kh_p49_6, ↓kh_g49_7, ↓kh_p49_7, ↓kh_g49_8, ↓kh_p49_8, ↓kh_g49_9, ↓kh_p49_9, ↓kh_g49_10, ↓kh_p49_10, ↓kh_g49_11, ↓kh_p49_11, ↓kh_g49_12, ↓kh_p49_12, ↓kh_g49_13, ↓kh_p49_13, ↓kh_g49_14, ↓kh_p49_14, ↓be_y, ↓be_n, ↓bf_y, ↓bf_n, ↓bl_y, ↓bl_n, ↓bm_y, ↓bm_n, ↓bg_y, ↓bg_n, ↓bs_y, ↓bs_n, ↓bo_y, ↓bo_n, ↓bp_y, ↓bp_n, ↓forall_eq, ↓within_y, ↓within_n, ↓isIn_y, ↓isIn_n, and_true, true_and, and_self, us_at, us_ne, w32_id, um_eq, um_ne, um_um, uu_eq, uu_ne, uu_uu, vv_eq, vv_ne, vv_vv, ne_eq, not_false_eq_true, not_true_eq_false, reduceCtorEq, Int.reduceAdd, Int.reduceSub, Int.reduceMul, Int.reduceNeg, Nat.reduceEqDiff, or_true, true_or, true_implies, false_implies, Int.reduceLT, Int.reduceLE, Int.reduceEq, e6]
    exact q
  | succ k ih =>
    intro p hk h0 h1 q
    have pl : p < L := by omega
    obtain ⟨rb, re⟩ := ht.2 p h0 pl
    rw [mX2_behindWord_L2]
    by_cases d : bL (W p) = true
    · rw [spe_y pl d] at q
      have n := fun F Q => ilc_y re rb d (F := F) (Q := Q)
      have g := ih (p + 1) (by omega) (by omega) (by omega) q
      simp (disch := first | omega | decide) only [n, ↓kh_c49, ↓kh_g49_0, ↓kh_g49_1, ↓kh_g49_2, ↓kh_g49_3, ↓kh_g49_4, ↓kh_g49_5, ↓kh_g49_6, ↓kh_p49_6, ↓kh_g49_7, ↓kh_p49_7, ↓kh_g49_8, ↓kh_p49_8, ↓kh_g49_9, ↓kh_p49_9, ↓kh_g49_10, ↓kh_p49_10, ↓kh_g49_11, ↓kh_p49_11, ↓kh_g49_12, ↓kh_p49_12, ↓kh_g49_13, ↓kh_p49_13, ↓kh_g49_14, ↓kh_p49_14, ↓kh_r50, ↓kh_w50, ↓kh_n50, ↓be_y, ↓be_n, ↓bf_y, ↓bf_n, ↓bl_y, ↓bl_n, ↓bm_y, ↓bm_n, ↓bg_y, ↓bg_n, ↓bs_y, ↓bs_n, ↓bo_y, ↓bo_n, ↓bp_y, ↓bp_n, ↓forall_eq, ↓within_y, ↓within_n, ↓isIn_y, ↓isIn_n, and_true, true_and, and_self, us_at, us_ne, w32_id, um_eq, um_ne, um_um, uu_eq, uu_ne, uu_uu, vv_eq, vv_ne, vv_vv, ne_eq, not_false_eq_true, not_true_eq_false, reduceCtorEq, Int.reduceAdd, Int.reduceSub, Int.reduceMul, Int.reduceNeg, Nat.reduceEqDiff, or_true, true_or, true_implies, false_implies, Int.reduceLT, Int.reduceLE, Int.reduceEq, e6]
      exact g
    · rw [spe_n (fun t => d t.2)] at q
      have n := fun F Q => ilc_n re rb d (F := F) (Q := Q)
      simp (disch := first | omega | decide) only [n, ↓kh_c49, ↓kh_g49_0, ↓kh_g49_1, ↓kh_g49_2, ↓kh_g49_3, ↓kh_g49_4, ↓kh_g49_5, ↓kh_g49_6, ↓kh_p49_6, ↓kh_g49_7, ↓kh_p49_7, ↓kh_g49_8, ↓kh_p49_8, ↓kh_g49_9, ↓kh_p49_9, ↓kh_g49_10, ↓kh_p49_10, ↓kh_g49_11, ↓kh_p49_11, ↓kh_g49_12, ↓kh_p49_12, ↓kh_g49_13, ↓kh_p49_13, ↓kh_g49_14, ↓kh_p49_14, ↓kh_r50, ↓kh_w50, ↓kh_n50, ↓be_y, ↓be_n, ↓bf_y, ↓bf_n, ↓bl_y, ↓bl_n, ↓bm_y, ↓bm_n, ↓bg_y, ↓bg_n, ↓bs_y, ↓bs_n, ↓bo_y, ↓bo_n, ↓bp_y, ↓bp_n, ↓forall_eq, ↓within_y, ↓within_n, ↓isIn_y, ↓isIn_n, and_true, true_and, and_self, us_at, us_ne, w32_id, um_eq, um_ne, um_um, uu_eq, uu_ne, uu_uu, vv_eq, vv_ne, vv_vv, ne_eq, not_false_eq_true, not_true_eq_false, reduceCtorEq, Int.reduceAdd, Int.reduceSub, Int.reduceMul, Int.reduceNeg, Nat.reduceEqDiff, or_true, true_or, true_implies, false_implies, Int.reduceLT, Int.reduceLE, Int.reduceEq, e6]
      exact q
theorem bn_l (hL : 0 ≤ L ∧ L ≤ 300) (ht : tpr N v W L) {Q : Int → hp → Prop} : ∀ (k : Nat) (p : Int), (L - p).toNat = k → 0 ≤ p → p ≤ L → Q (spe bD W L p) (kh F v N T) → mX2_behindNumber_L2 Q (k + 1) 49 p (kh F v N T) := by
  have e6 := ht.1
  intro k
  induction k with
  | zero =>
    intro p hk h0 h1 q
    rw [spe_n (by omega)] at q
    rw [mX2_behindNumber_L2]
    simp (disch := first | omega | decide) only [w32_id, ↓kh_c49, ↓kh_g49_0, ↓kh_g49_1, ↓kh_g49_2, ↓kh_g49_3, ↓kh_g49_4, ↓kh_g49_5, ↓kh_g49_6, ↓kh_p49_6, ↓kh_g49_7, ↓kh_p49_7, ↓kh_g49_8, ↓kh_p49_8, ↓kh_g49_9, ↓kh_p49_9, ↓kh_g49_10, ↓kh_p49_10, ↓kh_g49_11, ↓kh_p49_11, ↓kh_g49_12, ↓kh_p49_12, ↓kh_g49_13, ↓kh_p49_13, ↓kh_g49_14, ↓kh_p49_14, ↓be_y, ↓be_n, ↓bf_y, ↓bf_n, ↓bl_y, ↓bl_n, ↓bm_y, ↓bm_n, ↓bg_y, ↓bg_n, ↓bs_y, ↓bs_n, ↓bo_y, ↓bo_n, ↓bp_y, ↓bp_n, ↓forall_eq, ↓within_y, ↓within_n, ↓isIn_y, ↓isIn_n, and_true, true_and, and_self, us_at, us_ne, w32_id, um_eq, um_ne, um_um, uu_eq, uu_ne, uu_uu, vv_eq, vv_ne, vv_vv, ne_eq, not_false_eq_true, not_true_eq_false, reduceCtorEq, Int.reduceAdd, Int.reduceSub, Int.reduceMul, Int.reduceNeg, Nat.reduceEqDiff, or_true, true_or, true_implies, false_implies, Int.reduceLT, Int.reduceLE, Int.reduceEq, e6]
    exact q
  | succ k ih =>
    intro p hk h0 h1 q
    have pl : p < L := by omega
    obtain ⟨rb, re⟩ := ht.2 p h0 pl
    rw [mX2_behindNumber_L2]
    by_cases d : bD (W p) = true
    · rw [spe_y pl d] at q
      have n := fun F Q => idc_y re rb d (F := F) (Q := Q)
      have g := ih (p + 1) (by omega) (by omega) (by omega) q
      simp (disch := first | omega | decide) only [n, ↓kh_c49, ↓kh_g49_0, ↓kh_g49_1, ↓kh_g49_2, ↓kh_g49_3, ↓kh_g49_4, ↓kh_g49_5, ↓kh_g49_6, ↓kh_p49_6, ↓kh_g49_7, ↓kh_p49_7, ↓kh_g49_8, ↓kh_p49_8, ↓kh_g49_9, ↓kh_p49_9, ↓kh_g49_10, ↓kh_p49_10, ↓kh_g49_11, ↓kh_p49_11, ↓kh_g49_12, ↓kh_p49_12, ↓kh_g49_13, ↓kh_p49_13, ↓kh_g49_14, ↓kh_p49_14, ↓kh_r50, ↓kh_w50, ↓kh_n50, ↓be_y, ↓be_n, ↓bf_y, ↓bf_n, ↓bl_y, ↓bl_n, ↓bm_y, ↓bm_n, ↓bg_y, ↓bg_n, ↓bs_y, ↓bs_n, ↓bo_y, ↓bo_n, ↓bp_y, ↓bp_n, ↓forall_eq, ↓within_y, ↓within_n, ↓isIn_y, ↓isIn_n, and_true, true_and, and_self, us_at, us_ne, w32_id, um_eq, um_ne, um_um, uu_eq, uu_ne, uu_uu, vv_eq, vv_ne, vv_vv, ne_eq, not_false_eq_true, not_true_eq_false, reduceCtorEq, Int.reduceAdd, Int.reduceSub, Int.reduceMul, Int.reduceNeg, Nat.reduceEqDiff, or_true, true_or, true_implies, false_implies, Int.reduceLT, Int.reduceLE, Int.reduceEq, e6]
      exact g
    · rw [spe_n (fun t => d t.2)] at q
      have n := fun F Q => idc_n re rb d (F := F) (Q := Q)
      simp (disch := first | omega | decide) only [n, ↓kh_c49, ↓kh_g49_0, ↓kh_g49_1, ↓kh_g49_2, ↓kh_g49_3, ↓kh_g49_4, ↓kh_g49_5, ↓kh_g49_6, ↓kh_p49_6, ↓kh_g49_7, ↓kh_p49_7, ↓kh_g49_8, ↓kh_p49_8, ↓kh_g49_9, ↓kh_p49_9, ↓kh_g49_10, ↓kh_p49_10, ↓kh_g49_11, ↓kh_p49_11, ↓kh_g49_12, ↓kh_p49_12, ↓kh_g49_13, ↓kh_p49_13, ↓kh_g49_14, ↓kh_p49_14, ↓kh_r50, ↓kh_w50, ↓kh_n50, ↓be_y, ↓be_n, ↓bf_y, ↓bf_n, ↓bl_y, ↓bl_n, ↓bm_y, ↓bm_n, ↓bg_y, ↓bg_n, ↓bs_y, ↓bs_n, ↓bo_y, ↓bo_n, ↓bp_y, ↓bp_n, ↓forall_eq, ↓within_y, ↓within_n, ↓isIn_y, ↓isIn_n, and_true, true_and, and_self, us_at, us_ne, w32_id, um_eq, um_ne, um_um, uu_eq, uu_ne, uu_uu, vv_eq, vv_ne, vv_vv, ne_eq, not_false_eq_true, not_true_eq_false, reduceCtorEq, Int.reduceAdd, Int.reduceSub, Int.reduceMul, Int.reduceNeg, Nat.reduceEqDiff, or_true, true_or, true_implies, false_implies, Int.reduceLT, Int.reduceLE, Int.reduceEq, e6]
      exact q
theorem na_l (hL : 0 ≤ L ∧ L ≤ 300) (ht : tpr N v W L) {Q : Int → hp → Prop} {a2 : Int} (h2 : a2 ≤ L) : ∀ (l : List Int) (a p : Int), p + l.length = a2 → 0 ≤ p → tl W p l.length = l → (∀ b, b ∈ l → bD b = true) → 0 ≤ a ∧ a ≤ 10000 → Q (nmc l a) (kh F v N T) → mX2_numberAt_L5 Q (l.length + 1) 49 a2 a p (kh F v N T)
  | [], a, p, hl, h0, ht', hd, ha, q => by
    rw [List.length_nil] at hl
    rw [List.length_nil, mX2_numberAt_L5]
    simp (disch := first | omega | decide) only [w32_id, ↓kh_c49, ↓kh_g49_0, ↓kh_g49_1, ↓kh_g49_2, ↓kh_g49_3, ↓kh_g49_4, ↓kh_g49_5, ↓kh_g49_6, ↓kh_p49_6, ↓kh_g49_7, ↓kh_p49_7, ↓kh_g49_8, ↓kh_p49_8, ↓kh_g49_9, ↓kh_p49_9, ↓kh_g49_10, ↓kh_p49_10, ↓kh_g49_11, ↓kh_p49_11, ↓kh_g49_12, ↓kh_p49_12, ↓kh_g49_13, ↓kh_p49_13, ↓kh_g49_14, ↓kh_p49_14, ↓be_y, ↓be_n, ↓bf_y, ↓bf_n, ↓bl_y, ↓bl_n, ↓bm_y, ↓bm_n, ↓bg_y, ↓bg_n, ↓bs_y, ↓bs_n, ↓bo_y, ↓bo_n, ↓bp_y, ↓bp_n, ↓forall_eq, ↓within_y, ↓within_n, ↓isIn_y, ↓isIn_n, and_true, true_and, and_self, us_at, us_ne, w32_id, um_eq, um_ne, um_um, uu_eq, uu_ne, uu_uu, vv_eq, vv_ne, vv_vv, ne_eq, not_false_eq_true, not_true_eq_false, reduceCtorEq, Int.reduceAdd, Int.reduceSub, Int.reduceMul, Int.reduceNeg, Nat.reduceEqDiff, or_true, true_or, true_implies, false_implies, Int.reduceLT, Int.reduceLE, Int.reduceEq]
    exact q
  | b :: l, a, p, hl, h0, ht', hd, ha, q => by
    simp only [List.length_cons] at hl ht' ⊢
    rw [show ((l.length + 1 : Nat) : Int) = (l.length : Int) + 1 by omega, tl_cons (by omega)] at ht'
    obtain ⟨e1, e2⟩ := List.cons.inj ht'
    obtain ⟨rb, re⟩ := ht.2 p h0 (by omega)
    have d := hd b List.mem_cons_self
    unfold bD at d
    rw [decide_eq_true_eq] at d
    have e3 : N 50 p = b := by omega
    rw [nmc] at q
    rw [mX2_numberAt_L5]
    by_cases k : 10000 < a * 10 + b - 48
    · rw [if_pos k] at q
      have mn : iMin 10000 (a * 10 + b - 48) = 10000 := iMin_l (by omega)
      have g := na_l hL ht h2 l 10000 (p + 1) (by omega) (by omega) e2 (fun c hc => hd c (List.mem_cons_of_mem _ hc)) (by omega) q
      simp (disch := first | omega | decide) only [w32_id, ↓kh_c49, ↓kh_g49_0, ↓kh_g49_1, ↓kh_g49_2, ↓kh_g49_3, ↓kh_g49_4, ↓kh_g49_5, ↓kh_g49_6, ↓kh_p49_6, ↓kh_g49_7, ↓kh_p49_7, ↓kh_g49_8, ↓kh_p49_8, ↓kh_g49_9, ↓kh_p49_9, ↓kh_g49_10, ↓kh_p49_10, ↓kh_g49_11, ↓kh_p49_11, ↓kh_g49_12, ↓kh_p49_12, ↓kh_g49_13, ↓kh_p49_13, ↓kh_g49_14, ↓kh_p49_14, ↓kh_r50, ↓kh_w50, ↓kh_n50, ↓be_y, ↓be_n, ↓bf_y, ↓bf_n, ↓bl_y, ↓bl_n, ↓bm_y, ↓bm_n, ↓bg_y, ↓bg_n, ↓bs_y, ↓bs_n, ↓bo_y, ↓bo_n, ↓bp_y, ↓bp_n, ↓forall_eq, ↓within_y, ↓within_n, ↓isIn_y, ↓isIn_n, and_true, true_and, and_self, us_at, us_ne, w32_id, um_eq, um_ne, um_um, uu_eq, uu_ne, uu_uu, vv_eq, vv_ne, vv_vv, ne_eq, not_false_eq_true, not_true_eq_false, reduceCtorEq, Int.reduceAdd, Int.reduceSub, Int.reduceMul, Int.reduceNeg, Nat.reduceEqDiff, or_true, true_or, true_implies, false_implies, Int.reduceLT, Int.reduceLE, Int.reduceEq, e3, mn]
      exact g
    · rw [if_neg k] at q
      have mn : iMin 10000 (a * 10 + b - 48) = a * 10 + b - 48 := iMin_r (by omega)
      have g := na_l hL ht h2 l (a * 10 + b - 48) (p + 1) (by omega) (by omega) e2 (fun c hc => hd c (List.mem_cons_of_mem _ hc)) (by omega) q
      simp (disch := first | omega | decide) only [w32_id, ↓kh_c49, ↓kh_g49_0, ↓kh_g49_1, ↓kh_g49_2, ↓kh_g49_3, ↓kh_g49_4, ↓kh_g49_5, ↓kh_g49_6, ↓kh_p49_6, ↓kh_g49_7, ↓kh_p49_7, ↓kh_g49_8, ↓kh_p49_8, ↓kh_g49_9, ↓kh_p49_9, ↓kh_g49_10, ↓kh_p49_10, ↓kh_g49_11, ↓kh_p49_11, ↓kh_g49_12, ↓kh_p49_12, ↓kh_g49_13, ↓kh_p49_13, ↓kh_g49_14, ↓kh_p49_14, ↓kh_r50, ↓kh_w50, ↓kh_n50, ↓be_y, ↓be_n, ↓bf_y, ↓bf_n, ↓bl_y, ↓bl_n, ↓bm_y, ↓bm_n, ↓bg_y, ↓bg_n, ↓bs_y, ↓bs_n, ↓bo_y, ↓bo_n, ↓bp_y, ↓bp_n, ↓forall_eq, ↓within_y, ↓within_n, ↓isIn_y, ↓isIn_n, and_true, true_and, and_self, us_at, us_ne, w32_id, um_eq, um_ne, um_um, uu_eq, uu_ne, uu_uu, vv_eq, vv_ne, vv_vv, ne_eq, not_false_eq_true, not_true_eq_false, reduceCtorEq, Int.reduceAdd, Int.reduceSub, Int.reduceMul, Int.reduceNeg, Nat.reduceEqDiff, or_true, true_or, true_implies, false_implies, Int.reduceLT, Int.reduceLE, Int.reduceEq, e3, mn]
      exact g
theorem wa_l (hL : 0 ≤ L ∧ L ≤ 300) (ht : tpr N v W L) {Q : Int → hp → Prop} {p e : Int} (hp0 : 0 ≤ p ∧ p ≤ e ∧ e ≤ L) {l : List Int} (hl : tl W p (e - p) = l) (hlt : lts l) : ∀ (cs : List Int) (i : Nat) (w a4 a5 : Int) (s : Option (List Int)), i + cs.length = 142 → (∀ k : Nat, k < cs.length → cs[k]? = some (wch.getD (i + k) 0)) → (0 ≤ a4 ∧ a4 ≤ p + i) → 0 ≤ w ∧ w ≤ i → ((s = none ∧ a5 = 0) ∨ ∃ r, s = some r ∧ a5 = 1 ∧ a4 + r.length = e ∧ tl W a4 r.length = r ∧ lts r) → Q (wgo l cs w s) (kh F v N T) → mX2_wordAt_L11 Q (cs.length + 1) 49 p e w a4 a5 i (kh F v N T)
  | [], i, w, a4, a5, s, hi, hc, h4, hw, hs, q => by
    rw [List.length_nil] at hi
    rw [wgo] at q
    obtain rfl : i = 142 := by omega
    rw [List.length_nil, mX2_wordAt_L11]
    refine ⟨1, rfl, .inl rfl, len_c ?_⟩
    exact ⟨fun h => absurd h (by decide), fun _ => q⟩
  | c :: cs, i, w, a4, a5, s, hi, hc, h4, hw, hs, q => by
    simp only [List.length_cons] at hi hc ⊢
    have c0 := hc 0 (by omega)
    simp only [List.getElem?_cons_zero, Option.some.injEq, Nat.add_zero] at c0
    have cb := (wch_t.2 i (by omega)).2
    rw [← c0] at cb
    have hc' : ∀ k : Nat, k < cs.length → cs[k]? = some (wch.getD (i + 1 + k) 0) := fun k hk => by
      have := hc (k + 1) (by omega)
      rw [List.getElem?_cons_succ, show i + (k + 1) = i + 1 + k by omega] at this
      exact this
    have ic : ((i + 1 : Nat) : Int) = (i : Int) + 1 := by omega
    rw [wgo] at q
    rw [mX2_wordAt_L11]
    refine ⟨1, rfl, .inl rfl, len_c ?_⟩
    refine ⟨fun _ => ⟨1, rfl, .inl rfl, char_c (by omega) ?_⟩, fun h => absurd (show w32 (i : Int) < w32 142 by rw [w32_id (by omega) (by omega), w32_id (by decide) (by decide)]; omega) h⟩
    rw [← c0]
    by_cases d : c = 32
    · rw [if_pos d] at q
      by_cases f : s = some []
      · rw [if_pos f] at q
        rcases hs with ⟨t, -⟩ | ⟨r, t, e5, e4, -, -⟩
        · rw [t] at f; exact absurd f (by simp)
        · rw [t] at f
          injection f with f
          subst f
          rw [List.length_nil] at e4
          simp (disch := first | omega | decide) only [w32_id, ↓kh_c49, ↓kh_g49_0, ↓kh_g49_1, ↓kh_g49_2, ↓kh_g49_3, ↓kh_g49_4, ↓kh_g49_5, ↓kh_g49_6, ↓kh_p49_6, ↓kh_g49_7, ↓kh_p49_7, ↓kh_g49_8, ↓kh_p49_8, ↓kh_g49_9, ↓kh_p49_9, ↓kh_g49_10, ↓kh_p49_10, ↓kh_g49_11, ↓kh_p49_11, ↓kh_g49_12, ↓kh_p49_12, ↓kh_g49_13, ↓kh_p49_13, ↓kh_g49_14, ↓kh_p49_14, ↓be_y, ↓be_n, ↓bf_y, ↓bf_n, ↓bl_y, ↓bl_n, ↓bm_y, ↓bm_n, ↓bg_y, ↓bg_n, ↓bs_y, ↓bs_n, ↓bo_y, ↓bo_n, ↓bp_y, ↓bp_n, ↓forall_eq, ↓within_y, ↓within_n, ↓isIn_y, ↓isIn_n, and_true, true_and, and_self, us_at, us_ne, w32_id, um_eq, um_ne, um_um, uu_eq, uu_ne, uu_uu, vv_eq, vv_ne, vv_vv, ne_eq, not_false_eq_true, not_true_eq_false, reduceCtorEq, Int.reduceAdd, Int.reduceSub, Int.reduceMul, Int.reduceNeg, Nat.reduceEqDiff, or_true, true_or, true_implies, false_implies, Int.reduceLT, Int.reduceLE, Int.reduceEq, d, e5]
          exact q
      · rw [if_neg f] at q
        have g := wa_l hL ht hp0 hl hlt cs (i + 1) (w + 1) p 1 (some l) (by omega) hc' (by omega) (by omega) (.inr ⟨l, rfl, rfl, by rw [← hl, tl_len W p (by omega)]; omega, by
          have := tl_len W p (n := e - p) (by omega)
          rw [hl] at this
          rw [this]; exact hl, hlt⟩) q
        rw [ic] at g
        rcases hs with ⟨t, e5⟩ | ⟨r, t, e5, e4, -, -⟩
        · simp (disch := first | omega | decide) only [mX2_wordAt_J86, mX2_wordAt_J95, ↓kh_c49, ↓kh_g49_0, ↓kh_g49_1, ↓kh_g49_2, ↓kh_g49_3, ↓kh_g49_4, ↓kh_g49_5, ↓kh_g49_6, ↓kh_p49_6, ↓kh_g49_7, ↓kh_p49_7, ↓kh_g49_8, ↓kh_p49_8, ↓kh_g49_9, ↓kh_p49_9, ↓kh_g49_10, ↓kh_p49_10, ↓kh_g49_11, ↓kh_p49_11, ↓kh_g49_12, ↓kh_p49_12, ↓kh_g49_13, ↓kh_p49_13, ↓kh_g49_14, ↓kh_p49_14, ↓be_y, ↓be_n, ↓bf_y, ↓bf_n, ↓bl_y, ↓bl_n, ↓bm_y, ↓bm_n, ↓bg_y, ↓bg_n, ↓bs_y, ↓bs_n, ↓bo_y, ↓bo_n, ↓bp_y, ↓bp_n, ↓forall_eq, ↓within_y, ↓within_n, ↓isIn_y, ↓isIn_n, and_true, true_and, and_self, us_at, us_ne, w32_id, um_eq, um_ne, um_um, uu_eq, uu_ne, uu_uu, vv_eq, vv_ne, vv_vv, ne_eq, not_false_eq_true, not_true_eq_false, reduceCtorEq, Int.reduceAdd, Int.reduceSub, Int.reduceMul, Int.reduceNeg, Nat.reduceEqDiff, or_true, true_or, true_implies, false_implies, Int.reduceLT, Int.reduceLE, Int.reduceEq, d, e5]
          exact g
        · have : r ≠ [] := fun k => f (by rw [t, k])
          have rl : 0 < r.length := List.length_pos_iff.2 this
          simp (disch := first | omega | decide) only [mX2_wordAt_J86, mX2_wordAt_J95, ↓kh_c49, ↓kh_g49_0, ↓kh_g49_1, ↓kh_g49_2, ↓kh_g49_3, ↓kh_g49_4, ↓kh_g49_5, ↓kh_g49_6, ↓kh_p49_6, ↓kh_g49_7, ↓kh_p49_7, ↓kh_g49_8, ↓kh_p49_8, ↓kh_g49_9, ↓kh_p49_9, ↓kh_g49_10, ↓kh_p49_10, ↓kh_g49_11, ↓kh_p49_11, ↓kh_g49_12, ↓kh_p49_12, ↓kh_g49_13, ↓kh_p49_13, ↓kh_g49_14, ↓kh_p49_14, ↓be_y, ↓be_n, ↓bf_y, ↓bf_n, ↓bl_y, ↓bl_n, ↓bm_y, ↓bm_n, ↓bg_y, ↓bg_n, ↓bs_y, ↓bs_n, ↓bo_y, ↓bo_n, ↓bp_y, ↓bp_n, ↓forall_eq, ↓within_y, ↓within_n, ↓isIn_y, ↓isIn_n, and_true, true_and, and_self, us_at, us_ne, w32_id, um_eq, um_ne, um_um, uu_eq, uu_ne, uu_uu, vv_eq, vv_ne, vv_vv, ne_eq, not_false_eq_true, not_true_eq_false, reduceCtorEq, Int.reduceAdd, Int.reduceSub, Int.reduceMul, Int.reduceNeg, Nat.reduceEqDiff, or_true, true_or, true_implies, false_implies, Int.reduceLT, Int.reduceLE, Int.reduceEq, d, e5]
          exact g
    · rw [if_neg d] at q
      rcases hs with ⟨t, e5⟩ | ⟨r, t, e5, e4, e6, e7⟩
      · subst t
        rw [wg2] at q
        have g := wa_l hL ht hp0 hl hlt cs (i + 1) w (a4 + 1) 0 none (by omega) hc' (by omega) (by omega) (.inl ⟨rfl, rfl⟩) q
        rw [ic] at g
        simp (disch := first | omega | decide) only [mX2_wordAt_J64, mX2_wordAt_J65, mX2_wordAt_J95, ↓kh_c49, ↓kh_g49_0, ↓kh_g49_1, ↓kh_g49_2, ↓kh_g49_3, ↓kh_g49_4, ↓kh_g49_5, ↓kh_g49_6, ↓kh_p49_6, ↓kh_g49_7, ↓kh_p49_7, ↓kh_g49_8, ↓kh_p49_8, ↓kh_g49_9, ↓kh_p49_9, ↓kh_g49_10, ↓kh_p49_10, ↓kh_g49_11, ↓kh_p49_11, ↓kh_g49_12, ↓kh_p49_12, ↓kh_g49_13, ↓kh_p49_13, ↓kh_g49_14, ↓kh_p49_14, ↓be_y, ↓be_n, ↓bf_y, ↓bf_n, ↓bl_y, ↓bl_n, ↓bm_y, ↓bm_n, ↓bg_y, ↓bg_n, ↓bs_y, ↓bs_n, ↓bo_y, ↓bo_n, ↓bp_y, ↓bp_n, ↓forall_eq, ↓within_y, ↓within_n, ↓isIn_y, ↓isIn_n, and_true, true_and, and_self, us_at, us_ne, w32_id, um_eq, um_ne, um_um, uu_eq, uu_ne, uu_uu, vv_eq, vv_ne, vv_vv, ne_eq, not_false_eq_true, not_true_eq_false, reduceCtorEq, Int.reduceAdd, Int.reduceSub, Int.reduceMul, Int.reduceNeg, Nat.reduceEqDiff, or_true, true_or, true_implies, false_implies, Int.reduceLT, Int.reduceLE, Int.reduceEq, e5]
        exact g
      · subst t
        cases r with
        | nil =>
          rw [wg2] at q
          rw [List.length_nil] at e4
          have g := wa_l hL ht hp0 hl hlt cs (i + 1) w (a4 + 1) 0 none (by omega) hc' (by omega) (by omega) (.inl ⟨rfl, rfl⟩) q
          rw [ic] at g
          simp (disch := first | omega | decide) only [mX2_wordAt_J64, mX2_wordAt_J65, mX2_wordAt_J95, ↓kh_c49, ↓kh_g49_0, ↓kh_g49_1, ↓kh_g49_2, ↓kh_g49_3, ↓kh_g49_4, ↓kh_g49_5, ↓kh_g49_6, ↓kh_p49_6, ↓kh_g49_7, ↓kh_p49_7, ↓kh_g49_8, ↓kh_p49_8, ↓kh_g49_9, ↓kh_p49_9, ↓kh_g49_10, ↓kh_p49_10, ↓kh_g49_11, ↓kh_p49_11, ↓kh_g49_12, ↓kh_p49_12, ↓kh_g49_13, ↓kh_p49_13, ↓kh_g49_14, ↓kh_p49_14, ↓be_y, ↓be_n, ↓bf_y, ↓bf_n, ↓bl_y, ↓bl_n, ↓bm_y, ↓bm_n, ↓bg_y, ↓bg_n, ↓bs_y, ↓bs_n, ↓bo_y, ↓bo_n, ↓bp_y, ↓bp_n, ↓forall_eq, ↓within_y, ↓within_n, ↓isIn_y, ↓isIn_n, and_true, true_and, and_self, us_at, us_ne, w32_id, um_eq, um_ne, um_um, uu_eq, uu_ne, uu_uu, vv_eq, vv_ne, vv_vv, ne_eq, not_false_eq_true, not_true_eq_false, reduceCtorEq, Int.reduceAdd, Int.reduceSub, Int.reduceMul, Int.reduceNeg, Nat.reduceEqDiff, or_true, true_or, true_implies, false_implies, Int.reduceLT, Int.reduceLE, Int.reduceEq, e5]
          exact g
        | cons x r =>
          simp only [List.length_cons] at e4 e6
          rw [show ((r.length + 1 : Nat) : Int) = (r.length : Int) + 1 by omega, tl_cons (by omega)] at e6
          obtain ⟨x1, x2⟩ := List.cons.inj e6
          obtain ⟨lb, lr⟩ := lts_c e7
          obtain ⟨rb, re⟩ := ht.2 a4 (by omega) (by omega)
          have e3 : N 50 a4 = x := by omega
          rw [wg2] at q
          by_cases f : x = c
          · rw [if_pos f] at q
            have g := wa_l hL ht hp0 hl hlt cs (i + 1) w (a4 + 1) 1 (some r) (by omega) hc' (by omega) (by omega) (.inr ⟨r, rfl, rfl, by omega, x2, lr⟩) q
            rw [ic] at g
            simp (disch := first | omega | decide) only [mX2_wordAt_J64, mX2_wordAt_J65, mX2_wordAt_J95, ↓kh_c49, ↓kh_g49_0, ↓kh_g49_1, ↓kh_g49_2, ↓kh_g49_3, ↓kh_g49_4, ↓kh_g49_5, ↓kh_g49_6, ↓kh_p49_6, ↓kh_g49_7, ↓kh_p49_7, ↓kh_g49_8, ↓kh_p49_8, ↓kh_g49_9, ↓kh_p49_9, ↓kh_g49_10, ↓kh_p49_10, ↓kh_g49_11, ↓kh_p49_11, ↓kh_g49_12, ↓kh_p49_12, ↓kh_g49_13, ↓kh_p49_13, ↓kh_g49_14, ↓kh_p49_14, ↓kh_r50, ↓kh_w50, ↓kh_n50, ↓be_y, ↓be_n, ↓bf_y, ↓bf_n, ↓bl_y, ↓bl_n, ↓bm_y, ↓bm_n, ↓bg_y, ↓bg_n, ↓bs_y, ↓bs_n, ↓bo_y, ↓bo_n, ↓bp_y, ↓bp_n, ↓forall_eq, ↓within_y, ↓within_n, ↓isIn_y, ↓isIn_n, and_true, true_and, and_self, us_at, us_ne, w32_id, um_eq, um_ne, um_um, uu_eq, uu_ne, uu_uu, vv_eq, vv_ne, vv_vv, ne_eq, not_false_eq_true, not_true_eq_false, reduceCtorEq, Int.reduceAdd, Int.reduceSub, Int.reduceMul, Int.reduceNeg, Nat.reduceEqDiff, or_true, true_or, true_implies, false_implies, Int.reduceLT, Int.reduceLE, Int.reduceEq, e5, e3]
            exact g
          · rw [if_neg f] at q
            have g := wa_l hL ht hp0 hl hlt cs (i + 1) w (a4 + 1) 0 none (by omega) hc' (by omega) (by omega) (.inl ⟨rfl, rfl⟩) q
            rw [ic] at g
            simp (disch := first | omega | decide) only [mX2_wordAt_J64, mX2_wordAt_J65, mX2_wordAt_J95, ↓kh_c49, ↓kh_g49_0, ↓kh_g49_1, ↓kh_g49_2, ↓kh_g49_3, ↓kh_g49_4, ↓kh_g49_5, ↓kh_g49_6, ↓kh_p49_6, ↓kh_g49_7, ↓kh_p49_7, ↓kh_g49_8, ↓kh_p49_8, ↓kh_g49_9, ↓kh_p49_9, ↓kh_g49_10, ↓kh_p49_10, ↓kh_g49_11, ↓kh_p49_11, ↓kh_g49_12, ↓kh_p49_12, ↓kh_g49_13, ↓kh_p49_13, ↓kh_g49_14, ↓kh_p49_14, ↓kh_r50, ↓kh_w50, ↓kh_n50, ↓be_y, ↓be_n, ↓bf_y, ↓bf_n, ↓bl_y, ↓bl_n, ↓bm_y, ↓bm_n, ↓bg_y, ↓bg_n, ↓bs_y, ↓bs_n, ↓bo_y, ↓bo_n, ↓bp_y, ↓bp_n, ↓forall_eq, ↓within_y, ↓within_n, ↓isIn_y, ↓isIn_n, and_true, true_and, and_self, us_at, us_ne, w32_id, um_eq, um_ne, um_um, uu_eq, uu_ne, uu_uu, vv_eq, vv_ne, vv_vv, ne_eq, not_false_eq_true, not_true_eq_false, reduceCtorEq, Int.reduceAdd, Int.reduceSub, Int.reduceMul, Int.reduceNeg, Nat.reduceEqDiff, or_true, true_or, true_implies, false_implies, Int.reduceLT, Int.reduceLE, Int.reduceEq, e5, e3]
            exact g
theorem getd_z {l : List Int} {k : Nat} (hk : k < l.length) : l[k]? = some (l.getD (0 + k) 0) := by
  rw [List.getElem?_eq_getElem hk, Nat.zero_add, List.getD_eq_getElem?_getD, List.getElem?_eq_getElem hk]; rfl
set_option maxRecDepth 100000 in
theorem wa_c (hL : 0 ≤ L ∧ L ≤ 300) (ht : tpr N v W L) {Q : Int → hp → Prop} {p e : Int} (hp0 : 0 ≤ p ∧ p ≤ e ∧ e ≤ L) (hlt : lts (tl W p (e - p))) (q : Q (wcd (tl W p (e - p))) (kh F v N T)) : mX2_wordAt 49 p e (kh F v N T) Q := by
  rw [← wgo_w] at q
  have ll := tl_len W p (n := e - p) (by omega)
  have wl := wch_t.1
  have key : ∀ k : Nat, k < wch.length → wch[k]? = some (wch.getD (0 + k) 0) := fun k hk => getd_z hk
  have := wa_l (Q := Q) (F := F) (T := T) hL ht hp0 rfl hlt wch 0 0 p 1 (some (tl W p (e - p))) (by omega) key (by omega) (by omega) (.inr ⟨_, rfl, rfl, by omega, by rw [ll], hlt⟩) q
  unfold mX2_wordAt
  exact ⟨wch.length + 1, this⟩
end SPL
