section SE
variable {n P : Int} {s : std} {A : Int → Int}
theorem seen_l (h : svl n s) (hn : 0 ≤ n ∧ n ≤ 5) {x1 x2 : Int} {R0 : Int → Int} (hS : jS x1 x2 R0 A) {m : Int} (hm : 0 ≤ m ∧ m ≤ 3) : ∀ (k : Nat) (i : Int), i + k = A 5 → 0 ≤ i → ∃ b, (b = 0 ∨ b = 1) ∧ (∀ (F : hp) (v : Nat → Nat → Int) (N : Nat → Int → Int) (T : Nat → Int → Option Nat) (Q : Int → hp → Prop), jS (v 23 1) (v 23 2) (N 24) A → Q b (kh F v N T) → mX11_fitsSeen_L12 Q (k + 1) m (enc s) n (some 23) i (kh F v N T)) ∧ (∀ (F : hp) (u : Nat → Int) (M : Nat → Int → Int) (Q : Int → hp → Prop), rrep s (M 80) (M 81) → M 70 = A → Q b (rh F u M) → mX12_isSeenAt_L3 Q (k + 1) 69 m (91 + 3 * i) (rh F u M)) := by
  have a5 := hS.2.1.2
  intro k
  induction k with
  | zero =>
    intro i hi h0
    refine ⟨1, .inr rfl, fun F v N T Q g q => ?_, fun F u M Q g1 g2 q => ?_⟩
    · have z := g.2.1.1
      rw [mX11_fitsSeen_L12]
      simp (disch := first | omega | decide) only [w32_id, ↓kh_c23, ↓kh_g23_0, ↓kh_g23_1, ↓kh_p23_1, ↓kh_g23_2, ↓kh_p23_2, ↓be_y, ↓be_n, ↓bf_y, ↓bf_n, ↓bl_y, ↓bl_n, ↓bm_y, ↓bm_n, ↓bg_y, ↓bg_n, ↓bs_y, ↓bs_n, ↓bo_y, ↓bo_n, ↓bp_y, ↓bp_n, ↓forall_eq, ↓within_y, ↓within_n, ↓isIn_y, ↓isIn_n, and_true, true_and, and_self, us_at, us_ne, w32_id, um_eq, um_ne, um_um, uu_eq, uu_ne, uu_uu, vv_eq, vv_ne, vv_vv, ne_eq, not_false_eq_true, not_true_eq_false, reduceCtorEq, Int.reduceAdd, Int.reduceSub, Int.reduceMul, Int.reduceNeg, Nat.reduceEqDiff, or_true, true_or, true_implies, false_implies, Int.reduceLT, Int.reduceLE, Int.reduceEq, z]
      exact q
    · have z : M 70 5 = A 5 := by rw [g2]
      rw [mX12_isSeenAt_L3]
      simp (disch := first | omega | decide) only [w32_id, ↓rh_rcv, ↓rh_g0, ↓rh_r70, ↓rh_w70, ↓be_y, ↓be_n, ↓bf_y, ↓bf_n, ↓bl_y, ↓bl_n, ↓bm_y, ↓bm_n, ↓bg_y, ↓bg_n, ↓bs_y, ↓bs_n, ↓bo_y, ↓bo_n, ↓bp_y, ↓bp_n, ↓forall_eq, ↓within_y, ↓within_n, ↓isIn_y, ↓isIn_n, and_true, true_and, and_self, us_at, us_ne, w32_id, um_eq, um_ne, um_um, uu_eq, uu_ne, uu_uu, vv_eq, vv_ne, vv_vv, ne_eq, not_false_eq_true, not_true_eq_false, reduceCtorEq, Int.reduceAdd, Int.reduceSub, Int.reduceMul, Int.reduceNeg, Nat.reduceEqDiff, or_true, true_or, true_implies, false_implies, Int.reduceLT, Int.reduceLE, Int.reduceEq, z]
      exact q
  | succ k ih =>
    intro i hi h0
    obtain ⟨b, b0, c1, r1⟩ := ih (i + 1) (by omega) (by omega)
    obtain ⟨⟨-, p1⟩, ⟨-, p2⟩, ⟨-, p3⟩⟩ := hS.2.2 i h0 (by omega)
    have e3 : 91 + 3 * i + 3 = 91 + 3 * (i + 1) := by omega
    by_cases d : A (91 + 3 * i) = m
    · by_cases dc : A (91 + 3 * i + 1) ∈ sg s (A (91 + 3 * i + 2))
      · have cn := (svl_m h).1 (sg_mem (by omega) dc)
        refine ⟨b, b0, fun F v N T Q g q => ?_, fun F u M Q g1 g2 q => ?_⟩
        · have z := g.2.1.1
          obtain ⟨⟨y1, -⟩, ⟨y2, -⟩, ⟨y3, -⟩⟩ := g.2.2 i h0 (by omega)
          have y1' : N 24 (3 * i + 0) = A (91 + 3 * i) := by rw [Int.add_zero]; exact y1
          have g3 := c1 F v N T Q g q
          rw [mX11_fitsSeen_L12]
          simp (disch := first | omega | decide) only [mX7_cell, ↓kh_c23, ↓kh_g23_0, ↓kh_g23_1, ↓kh_p23_1, ↓kh_g23_2, ↓kh_p23_2, ↓kh_r24, ↓kh_w24, ↓kh_n24, ↓kh_cp24_45, ↓be_y, ↓be_n, ↓bf_y, ↓bf_n, ↓bl_y, ↓bl_n, ↓bm_y, ↓bm_n, ↓bg_y, ↓bg_n, ↓bs_y, ↓bs_n, ↓bo_y, ↓bo_n, ↓bp_y, ↓bp_n, ↓forall_eq, ↓within_y, ↓within_n, ↓isIn_y, ↓isIn_n, and_true, true_and, and_self, us_at, us_ne, w32_id, um_eq, um_ne, um_um, uu_eq, uu_ne, uu_uu, vv_eq, vv_ne, vv_vv, ne_eq, not_false_eq_true, not_true_eq_false, reduceCtorEq, Int.reduceAdd, Int.reduceSub, Int.reduceMul, Int.reduceNeg, Nat.reduceEqDiff, or_true, true_or, true_implies, false_implies, Int.reduceLT, Int.reduceLE, Int.reduceEq, z, y1', y2]
          refine trk_c h hn (by omega) dc ?_
          simp (disch := first | omega | decide) only [mX7_cell, mX11_fitsSeen_J69, ↓kh_c23, ↓kh_g23_0, ↓kh_g23_1, ↓kh_p23_1, ↓kh_g23_2, ↓kh_p23_2, ↓kh_r24, ↓kh_w24, ↓kh_n24, ↓kh_cp24_45, ↓be_y, ↓be_n, ↓bf_y, ↓bf_n, ↓bl_y, ↓bl_n, ↓bm_y, ↓bm_n, ↓bg_y, ↓bg_n, ↓bs_y, ↓bs_n, ↓bo_y, ↓bo_n, ↓bp_y, ↓bp_n, ↓forall_eq, ↓within_y, ↓within_n, ↓isIn_y, ↓isIn_n, and_true, true_and, and_self, us_at, us_ne, w32_id, um_eq, um_ne, um_um, uu_eq, uu_ne, uu_uu, vv_eq, vv_ne, vv_vv, ne_eq, not_false_eq_true, not_true_eq_false, reduceCtorEq, Int.reduceAdd, Int.reduceSub, Int.reduceMul, Int.reduceNeg, Nat.reduceEqDiff, or_true, true_or, true_implies, false_implies, Int.reduceLT, Int.reduceLE, Int.reduceEq, y3]
          exact g3
        · have z : M 70 5 = A 5 := by rw [g2]
          have y1 : M 70 (91 + 3 * i) = A (91 + 3 * i) := by rw [g2]
          have y2 : M 70 (91 + 3 * i + 1) = A (91 + 3 * i + 1) := by rw [g2]
          have y3 : M 70 (91 + 3 * i + 2) = A (91 + 3 * i + 2) := by rw [g2]
          have g3 := r1 F u M Q g1 g2 q
          rw [mX12_isSeenAt_L3]
          simp (disch := first | omega | decide) only [w32_id, ↓rh_rcv, ↓rh_g0, ↓rh_r70, ↓rh_w70, ↓be_y, ↓be_n, ↓bf_y, ↓bf_n, ↓bl_y, ↓bl_n, ↓bm_y, ↓bm_n, ↓bg_y, ↓bg_n, ↓bs_y, ↓bs_n, ↓bo_y, ↓bo_n, ↓bp_y, ↓bp_n, ↓forall_eq, ↓within_y, ↓within_n, ↓isIn_y, ↓isIn_n, and_true, true_and, and_self, us_at, us_ne, w32_id, um_eq, um_ne, um_um, uu_eq, uu_ne, uu_uu, vv_eq, vv_ne, vv_vv, ne_eq, not_false_eq_true, not_true_eq_false, reduceCtorEq, Int.reduceAdd, Int.reduceSub, Int.reduceMul, Int.reduceNeg, Nat.reduceEqDiff, or_true, true_or, true_implies, false_implies, Int.reduceLT, Int.reduceLE, Int.reduceEq, z, y1, y2, y3]
          refine there_r h hn g1 (by omega) (by omega) ?_
          rw [if_pos dc]
          simp (disch := first | omega | decide) only [mX12_isSeenAt_J53, ↓rh_rcv, ↓rh_g0, ↓be_y, ↓be_n, ↓bf_y, ↓bf_n, ↓bl_y, ↓bl_n, ↓bm_y, ↓bm_n, ↓bg_y, ↓bg_n, ↓bs_y, ↓bs_n, ↓bo_y, ↓bo_n, ↓bp_y, ↓bp_n, ↓forall_eq, ↓within_y, ↓within_n, ↓isIn_y, ↓isIn_n, and_true, true_and, and_self, us_at, us_ne, w32_id, um_eq, um_ne, um_um, uu_eq, uu_ne, uu_uu, vv_eq, vv_ne, vv_vv, ne_eq, not_false_eq_true, not_true_eq_false, reduceCtorEq, Int.reduceAdd, Int.reduceSub, Int.reduceMul, Int.reduceNeg, Nat.reduceEqDiff, or_true, true_or, true_implies, false_implies, Int.reduceLT, Int.reduceLE, Int.reduceEq, e3]
          exact g3
      · refine ⟨0, .inl rfl, fun F v N T Q g q => ?_, fun F u M Q g1 g2 q => ?_⟩
        · have z := g.2.1.1
          obtain ⟨⟨y1, -⟩, ⟨y2, -⟩, ⟨y3, -⟩⟩ := g.2.2 i h0 (by omega)
          have y1' : N 24 (3 * i + 0) = A (91 + 3 * i) := by rw [Int.add_zero]; exact y1
          rw [mX11_fitsSeen_L12]
          by_cases cn : A (91 + 3 * i + 1) < n
          · obtain ⟨t, ht, j, hj, ej⟩ := sts_at ((svl_m h).2 ⟨p2.1, cn⟩)
            have mt : A (91 + 3 * i + 1) ∈ sg s t := by rw [← ej]; exact List.getElem_mem hj
            have tn : t ≠ A (91 + 3 * i + 2) := fun e => dc (by rw [← e]; exact mt)
            simp (disch := first | omega | decide) only [mX7_cell, ↓kh_c23, ↓kh_g23_0, ↓kh_g23_1, ↓kh_p23_1, ↓kh_g23_2, ↓kh_p23_2, ↓kh_r24, ↓kh_w24, ↓kh_n24, ↓kh_cp24_45, ↓be_y, ↓be_n, ↓bf_y, ↓bf_n, ↓bl_y, ↓bl_n, ↓bm_y, ↓bm_n, ↓bg_y, ↓bg_n, ↓bs_y, ↓bs_n, ↓bo_y, ↓bo_n, ↓bp_y, ↓bp_n, ↓forall_eq, ↓within_y, ↓within_n, ↓isIn_y, ↓isIn_n, and_true, true_and, and_self, us_at, us_ne, w32_id, um_eq, um_ne, um_um, uu_eq, uu_ne, uu_uu, vv_eq, vv_ne, vv_vv, ne_eq, not_false_eq_true, not_true_eq_false, reduceCtorEq, Int.reduceAdd, Int.reduceSub, Int.reduceMul, Int.reduceNeg, Nat.reduceEqDiff, or_true, true_or, true_implies, false_implies, Int.reduceLT, Int.reduceLE, Int.reduceEq, z, y1', y2]
            refine trk_c h hn ht mt ?_
            simp (disch := first | omega | decide) only [mX7_cell, ↓kh_c23, ↓kh_g23_0, ↓kh_g23_1, ↓kh_p23_1, ↓kh_g23_2, ↓kh_p23_2, ↓kh_r24, ↓kh_w24, ↓kh_n24, ↓kh_cp24_45, ↓be_y, ↓be_n, ↓bf_y, ↓bf_n, ↓bl_y, ↓bl_n, ↓bm_y, ↓bm_n, ↓bg_y, ↓bg_n, ↓bs_y, ↓bs_n, ↓bo_y, ↓bo_n, ↓bp_y, ↓bp_n, ↓forall_eq, ↓within_y, ↓within_n, ↓isIn_y, ↓isIn_n, and_true, true_and, and_self, us_at, us_ne, w32_id, um_eq, um_ne, um_um, uu_eq, uu_ne, uu_uu, vv_eq, vv_ne, vv_vv, ne_eq, not_false_eq_true, not_true_eq_false, reduceCtorEq, Int.reduceAdd, Int.reduceSub, Int.reduceMul, Int.reduceNeg, Nat.reduceEqDiff, or_true, true_or, true_implies, false_implies, Int.reduceLT, Int.reduceLE, Int.reduceEq, y3]
            exact q
          · simp (disch := first | omega | decide) only [mX7_cell, ↓kh_c23, ↓kh_g23_0, ↓kh_g23_1, ↓kh_p23_1, ↓kh_g23_2, ↓kh_p23_2, ↓kh_r24, ↓kh_w24, ↓kh_n24, ↓kh_cp24_45, ↓be_y, ↓be_n, ↓bf_y, ↓bf_n, ↓bl_y, ↓bl_n, ↓bm_y, ↓bm_n, ↓bg_y, ↓bg_n, ↓bs_y, ↓bs_n, ↓bo_y, ↓bo_n, ↓bp_y, ↓bp_n, ↓forall_eq, ↓within_y, ↓within_n, ↓isIn_y, ↓isIn_n, and_true, true_and, and_self, us_at, us_ne, w32_id, um_eq, um_ne, um_um, uu_eq, uu_ne, uu_uu, vv_eq, vv_ne, vv_vv, ne_eq, not_false_eq_true, not_true_eq_false, reduceCtorEq, Int.reduceAdd, Int.reduceSub, Int.reduceMul, Int.reduceNeg, Nat.reduceEqDiff, or_true, true_or, true_implies, false_implies, Int.reduceLT, Int.reduceLE, Int.reduceEq, z, y1', y2]
            exact q
        · have z : M 70 5 = A 5 := by rw [g2]
          have y1 : M 70 (91 + 3 * i) = A (91 + 3 * i) := by rw [g2]
          have y2 : M 70 (91 + 3 * i + 1) = A (91 + 3 * i + 1) := by rw [g2]
          have y3 : M 70 (91 + 3 * i + 2) = A (91 + 3 * i + 2) := by rw [g2]
          rw [mX12_isSeenAt_L3]
          simp (disch := first | omega | decide) only [w32_id, ↓rh_rcv, ↓rh_g0, ↓rh_r70, ↓rh_w70, ↓be_y, ↓be_n, ↓bf_y, ↓bf_n, ↓bl_y, ↓bl_n, ↓bm_y, ↓bm_n, ↓bg_y, ↓bg_n, ↓bs_y, ↓bs_n, ↓bo_y, ↓bo_n, ↓bp_y, ↓bp_n, ↓forall_eq, ↓within_y, ↓within_n, ↓isIn_y, ↓isIn_n, and_true, true_and, and_self, us_at, us_ne, w32_id, um_eq, um_ne, um_um, uu_eq, uu_ne, uu_uu, vv_eq, vv_ne, vv_vv, ne_eq, not_false_eq_true, not_true_eq_false, reduceCtorEq, Int.reduceAdd, Int.reduceSub, Int.reduceMul, Int.reduceNeg, Nat.reduceEqDiff, or_true, true_or, true_implies, false_implies, Int.reduceLT, Int.reduceLE, Int.reduceEq, z, y1, y2, y3]
          refine there_r h hn g1 (by omega) (by omega) ?_
          rw [if_neg dc]
          simp (disch := first | omega | decide) only [w32_id, ↓rh_rcv, ↓rh_g0, ↓be_y, ↓be_n, ↓bf_y, ↓bf_n, ↓bl_y, ↓bl_n, ↓bm_y, ↓bm_n, ↓bg_y, ↓bg_n, ↓bs_y, ↓bs_n, ↓bo_y, ↓bo_n, ↓bp_y, ↓bp_n, ↓forall_eq, ↓within_y, ↓within_n, ↓isIn_y, ↓isIn_n, and_true, true_and, and_self, us_at, us_ne, w32_id, um_eq, um_ne, um_um, uu_eq, uu_ne, uu_uu, vv_eq, vv_ne, vv_vv, ne_eq, not_false_eq_true, not_true_eq_false, reduceCtorEq, Int.reduceAdd, Int.reduceSub, Int.reduceMul, Int.reduceNeg, Nat.reduceEqDiff, or_true, true_or, true_implies, false_implies, Int.reduceLT, Int.reduceLE, Int.reduceEq]
          exact q
    · refine ⟨b, b0, fun F v N T Q g q => ?_, fun F u M Q g1 g2 q => ?_⟩
      · have z := g.2.1.1
        obtain ⟨⟨y1, -⟩, -, -⟩ := g.2.2 i h0 (by omega)
        have y1' : N 24 (3 * i + 0) = A (91 + 3 * i) := by rw [Int.add_zero]; exact y1
        have g3 := c1 F v N T Q g q
        rw [mX11_fitsSeen_L12]
        simp (disch := first | omega | decide) only [mX7_cell, mX11_fitsSeen_J69, ↓kh_c23, ↓kh_g23_0, ↓kh_g23_1, ↓kh_p23_1, ↓kh_g23_2, ↓kh_p23_2, ↓kh_r24, ↓kh_w24, ↓kh_n24, ↓kh_cp24_45, ↓be_y, ↓be_n, ↓bf_y, ↓bf_n, ↓bl_y, ↓bl_n, ↓bm_y, ↓bm_n, ↓bg_y, ↓bg_n, ↓bs_y, ↓bs_n, ↓bo_y, ↓bo_n, ↓bp_y, ↓bp_n, ↓forall_eq, ↓within_y, ↓within_n, ↓isIn_y, ↓isIn_n, and_true, true_and, and_self, us_at, us_ne, w32_id, um_eq, um_ne, um_um, uu_eq, uu_ne, uu_uu, vv_eq, vv_ne, vv_vv, ne_eq, not_false_eq_true, not_true_eq_false, reduceCtorEq, Int.reduceAdd, Int.reduceSub, Int.reduceMul, Int.reduceNeg, Nat.reduceEqDiff, or_true, true_or, true_implies, false_implies, Int.reduceLT, Int.reduceLE, Int.reduceEq, z, y1']
        exact g3
      · have z : M 70 5 = A 5 := by rw [g2]
        have y1 : M 70 (91 + 3 * i) = A (91 + 3 * i) := by rw [g2]
        have g3 := r1 F u M Q g1 g2 q
        rw [mX12_isSeenAt_L3]
        simp (disch := first | omega | decide) only [mX12_isSeenAt_J53, ↓rh_rcv, ↓rh_g0, ↓rh_r70, ↓rh_w70, ↓be_y, ↓be_n, ↓bf_y, ↓bf_n, ↓bl_y, ↓bl_n, ↓bm_y, ↓bm_n, ↓bg_y, ↓bg_n, ↓bs_y, ↓bs_n, ↓bo_y, ↓bo_n, ↓bp_y, ↓bp_n, ↓forall_eq, ↓within_y, ↓within_n, ↓isIn_y, ↓isIn_n, and_true, true_and, and_self, us_at, us_ne, w32_id, um_eq, um_ne, um_um, uu_eq, uu_ne, uu_uu, vv_eq, vv_ne, vv_vv, ne_eq, not_false_eq_true, not_true_eq_false, reduceCtorEq, Int.reduceAdd, Int.reduceSub, Int.reduceMul, Int.reduceNeg, Nat.reduceEqDiff, or_true, true_or, true_implies, false_implies, Int.reduceLT, Int.reduceLE, Int.reduceEq, z, y1, e3]
        exact g3
theorem seen_b (h : svl n s) (hn : 0 ≤ n ∧ n ≤ 5) {x1 x2 : Int} {R0 : Int → Int} (hS : jS x1 x2 R0 A) {m : Int} (hm : 0 ≤ m ∧ m ≤ 3) : ∃ b, (b = 0 ∨ b = 1) ∧ (∀ (F : hp) (v : Nat → Nat → Int) (N : Nat → Int → Int) (T : Nat → Int → Option Nat) (Q : Int → hp → Prop), jS (v 23 1) (v 23 2) (N 24) A → Q b (kh F v N T) → mX11_fitsSeen 8 m (enc s) n (kh F v N T) Q) ∧ (∀ (F : hp) (u : Nat → Int) (M : Nat → Int → Int) (Q : Int → hp → Prop), rrep s (M 80) (M 81) → M 70 = A → Q b (rh F u M) → mX12_isSeenAt 69 m (rh F u M) Q) := by
  have a5 := hS.2.1.2
  obtain ⟨b, b0, c1, r1⟩ := seen_l h hn hS hm (A 5).toNat 0 (by omega) (by omega)
  refine ⟨b, b0, fun F v N T Q g q => ?_, fun F u M Q g1 g2 q => ⟨_, r1 F u M Q g1 g2 q⟩⟩
  simp (disch := first | omega | decide) only [mX11_fitsSeen, ↓kh_c8, ↓kh_g8_0, ↓kh_g8_1, ↓kh_g8_2, ↓kh_g8_3, ↓kh_g8_4, ↓kh_g8_5, ↓kh_g8_6, ↓kh_g8_7, ↓kh_c10, ↓kh_g10_0, ↓kh_g10_1, ↓kh_g10_2, ↓kh_g10_3, ↓kh_g10_4, ↓kh_g10_5, ↓kh_g10_6, ↓kh_g10_7, ↓kh_g10_8, ↓kh_g10_9, ↓kh_g10_10, ↓kh_g10_11, ↓kh_g10_12, ↓kh_p10_12, ↓kh_g10_13, ↓kh_p10_13, ↓kh_g10_14, ↓kh_p10_14, ↓kh_g10_15, ↓kh_p10_15, ↓be_y, ↓be_n, ↓bf_y, ↓bf_n, ↓bl_y, ↓bl_n, ↓bm_y, ↓bm_n, ↓bg_y, ↓bg_n, ↓bs_y, ↓bs_n, ↓bo_y, ↓bo_n, ↓bp_y, ↓bp_n, ↓forall_eq, ↓within_y, ↓within_n, ↓isIn_y, ↓isIn_n, and_true, true_and, and_self, us_at, us_ne, w32_id, um_eq, um_ne, um_um, uu_eq, uu_ne, uu_uu, vv_eq, vv_ne, vv_vv, ne_eq, not_false_eq_true, not_true_eq_false, reduceCtorEq, Int.reduceAdd, Int.reduceSub, Int.reduceMul, Int.reduceNeg, Nat.reduceEqDiff, or_true, true_or, true_implies, false_implies, Int.reduceLT, Int.reduceLE, Int.reduceEq]
  exact ⟨_, c1 F v N T Q g q⟩
end SE
