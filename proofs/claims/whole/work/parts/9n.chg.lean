section CH
variable {W : Int → Int} {L : Int} {F : hp}
theorem w4_v {a b c d : Int} (ha : 0 ≤ a ∧ a < 256) (hb : 0 ≤ b ∧ b < 256) (hc : 0 ≤ c ∧ c < 256) (hd : 0 ≤ d ∧ d < 256) {Q : Int → hp → Prop} : mX12_w4 a b c d F Q ↔ Q (((a * 256 + b) * 256 + c) * 256 + d) F := by
  have e : lOr (lShl (lOr (lShl (lOr (lShl (w32 a) 8) (w32 b)) 8) (w32 c)) 8) (w32 d) = ((a * 256 + b) * 256 + c) * 256 + d := by
    rw [w32_id (x := a) (by omega) (by omega), w32_id (x := b) (by omega) (by omega), w32_id (x := c) (by omega) (by omega), w32_id (x := d) (by omega) (by omega), wd_s (by omega) hb, wd_s (by omega) hc, wd_s (by omega) hd]
  rw [← e]
  exact Iff.rfl
theorem w3_v {a b c : Int} (ha : 0 ≤ a ∧ a < 256) (hb : 0 ≤ b ∧ b < 256) (hc : 0 ≤ c ∧ c < 256) {Q : Int → hp → Prop} : mX12_w3 a b c F Q ↔ Q ((a * 256 + b) * 256 + c) F := by
  have e : lOr (lShl (lOr (lShl (w32 a) 8) (w32 b)) 8) (w32 c) = (a * 256 + b) * 256 + c := by
    rw [w32_id (x := a) (by omega) (by omega), w32_id (x := b) (by omega) (by omega), w32_id (x := c) (by omega) (by omega), wd_s (by omega) hb, wd_s (by omega) hc]
  rw [← e]
  exact Iff.rfl
theorem tl_7 {f : Int → Int} {p : Int} : tl f p 7 = [f p, f (p + 1), f (p + 2), f (p + 3), f (p + 4), f (p + 5), f (p + 6)] := by
  unfold tl
  simp [List.range_succ]
theorem lbh_w {j : Nat} : lbh W L j = if lpl W L j < L then lxb W L (lpl W L j) else lpl W L j := rfl
theorem ltk_w {j : Nat} : ltk W L j = if lpl W L j < L then lxc W L (lpl W L j) else 44 := rfl
theorem chx_t (hT : tapok W L) : chx (ltk W L) (lpl W L) (lbh W L) L W := by
  intro j u M h4 hM h F Q q
  have hb := hT.1
  obtain ⟨h7, h8, ht⟩ := h
  have tt := tkr_t ht
  have pb := lpl_b (W := W) hb.1 j
  have xb := lxp_b (W := W) hb.1 j
  have nb := lxp_b (W := W) hb.1 (j + 1)
  have nb : 0 ≤ lbh W L j ∧ lbh W L j ≤ L := nb
  by_cases t2 : u 9 = 2
  · by_cases d7 : lbh W L j - lpl W L j = 7
    · -- seven bytes
      have pL : lpl W L j < L := by
        by_cases d : lpl W L j < L
        · exact d
        · rw [lbh_w, if_neg d] at d7; omega
      have bl : bL (W (lpl W L j)) = true := by
        cases e : bL (W (lpl W L j)) with
        | true => rfl
        | false =>
          exfalso
          have nl : ¬ bL (W (lpl W L j)) = true := by rw [e]; decide
          rw [lbh_w, if_pos pL] at d7
          unfold lxb at d7
          rw [if_neg nl] at d7
          by_cases bd : bD (W (lpl W L j)) = true
          · have : 100 ≤ ltk W L j := by
              rw [ltk_w, if_pos pL]
              unfold lxc
              rw [if_neg nl, if_pos bd]
              have := nmc_b (tl W (lpl W L j) (spe bD W L (lpl W L j) - lpl W L j)) 0 (spe_m _ _ rfl (by omega)) (by omega)
              omega
            have := (tkr_1 ht).2 this
            omega
          · rw [if_neg bd] at d7
            by_cases db : dbl W L (lpl W L j)
            · rw [if_pos db] at d7; omega
            · rw [if_neg db] at d7; omega
      have eb : lbh W L j = spe bL W L (lpl W L j) := by rw [lbh_w, if_pos pL]; unfold lxb; rw [if_pos bl]
      have ec : ltk W L j = wcd (tl W (lpl W L j) 7) := by
        rw [ltk_w, if_pos pL]; unfold lxc; rw [if_pos bl, ← eb, d7]
      have lt := spe_m (P := bL) (W := W) (L := L) _ (lpl W L j) rfl (by omega)
      rw [← eb, d7] at lt
      have i12 : ltk W L j = 12 ↔ tl W (lpl W L j) 7 = [99, 104, 97, 110, 103, 101, 115] := by rw [ec]; exact wcd_e (c := 12) (by omega)
      rw [tl_7] at lt i12
      generalize lpl W L j = p at *
      generalize ltk W L j = c at *
      have b0 := lt_b (lt (W p) (by simp))
      have b1 := lt_b (lt (W (p + 1)) (by simp))
      have b2 := lt_b (lt (W (p + 2)) (by simp))
      have b3 := lt_b (lt (W (p + 3)) (by simp))
      have b4 := lt_b (lt (W (p + 4)) (by simp))
      have b5 := lt_b (lt (W (p + 5)) (by simp))
      have b6 := lt_b (lt (W (p + 6)) (by simp))
      have e7 : u 7 - p = 7 := by omega
      have f1 := fun (F : hp) (Q : Int → hp → Prop) => w4_v (F := F) (Q := Q) (a := W p) (b := W (p + 1)) (c := W (p + 2)) (d := W (p + 3)) (by omega) (by omega) (by omega) (by omega)
      have f2 := fun (F : hp) (Q : Int → hp → Prop) => w4_v (F := F) (Q := Q) (a := 99) (b := 104) (c := 97) (d := 110) (by omega) (by omega) (by omega) (by omega)
      have f3 := fun (F : hp) (Q : Int → hp → Prop) => w3_v (F := F) (Q := Q) (a := W (p + 4)) (b := W (p + 5)) (c := W (p + 6)) (by omega) (by omega) (by omega)
      have f4 := fun (F : hp) (Q : Int → hp → Prop) => w3_v (F := F) (Q := Q) (a := 103) (b := 101) (c := 115) (by omega) (by omega) (by omega)
      clear lt bl eb ec
      by_cases y1 : W p = 99 ∧ W (p + 1) = 104 ∧ W (p + 2) = 97 ∧ W (p + 3) = 110
      · obtain ⟨g0, g1, g2, g3⟩ := y1
        have c1 : w32 (iCmp (((99 * 256 + 104) * 256 + 97) * 256 + 110) (((99 * 256 + 104) * 256 + 97) * 256 + 110)) = 0 := by decide
        by_cases y2 : W (p + 4) = 103 ∧ W (p + 5) = 101 ∧ W (p + 6) = 115
        · obtain ⟨g4, g5, g6⟩ := y2
          have k12 : c = 12 := i12.2 (by rw [g0, g1, g2, g3, g4, g5, g6])
          rw [if_pos k12] at q
          rw [g0, g1, g2, g3] at f1
          rw [g4, g5, g6] at f3
          have c2 : w32 (iCmp ((103 * 256 + 101) * 256 + 115) ((103 * 256 + 101) * 256 + 115)) = 0 := by decide
          clear i12
          simp (disch := first | omega | decide) only [mX12_isChanges, mX12_byteAt, f1, f2, f3, f4, ↓rh_rcv, ↓rh_g3, ↓rh_g4, ↓rh_p4, ↓rh_g7, ↓rh_p7, ↓rh_g8, ↓rh_p8, ↓rh_g9, ↓rh_p9, ↓rh_r73, ↓rh_w73, ↓be_y, ↓be_n, ↓bf_y, ↓bf_n, ↓bl_y, ↓bl_n, ↓bm_y, ↓bm_n, ↓bg_y, ↓bg_n, ↓bs_y, ↓bs_n, ↓bo_y, ↓bo_n, ↓bp_y, ↓bp_n, ↓forall_eq, ↓within_y, ↓within_n, ↓isIn_y, ↓isIn_n, and_true, true_and, and_self, us_at, us_ne, w32_id, um_eq, um_ne, um_um, uu_eq, uu_ne, uu_uu, vv_eq, vv_ne, vv_vv, ne_eq, not_false_eq_true, not_true_eq_false, reduceCtorEq, Int.reduceAdd, Int.reduceSub, Int.reduceMul, Int.reduceNeg, Nat.reduceEqDiff, or_true, true_or, true_implies, false_implies, Int.reduceLT, Int.reduceLE, Int.reduceEq, t2, h4, h8, e7, hM, g0, g1, g2, g3, g4, g5, g6, c1, c2]
          exact q
        · have k12 : c ≠ 12 := fun t => y2 (by
            have := i12.1 t
            simp only [List.cons.injEq, and_true] at this
            exact ⟨this.2.2.2.2.1, this.2.2.2.2.2.1, this.2.2.2.2.2.2⟩)
          rw [if_neg k12] at q
          rw [g0, g1, g2, g3] at f1
          have c2 : ¬ w32 (iCmp ((W (p + 4) * 256 + W (p + 5)) * 256 + W (p + 6)) 6776179) = 0 := fun t => by
            have := (cm_e (x := (W (p + 4) * 256 + W (p + 5)) * 256 + W (p + 6)) (y := 6776179) (by omega)).mp t
            exact y2 (by omega)
          clear i12 y2
          simp (disch := first | omega | decide) only [mX12_isChanges, mX12_byteAt, f1, f2, f3, f4, ↓rh_rcv, ↓rh_g3, ↓rh_g4, ↓rh_p4, ↓rh_g7, ↓rh_p7, ↓rh_g8, ↓rh_p8, ↓rh_g9, ↓rh_p9, ↓rh_r73, ↓rh_w73, ↓be_y, ↓be_n, ↓bf_y, ↓bf_n, ↓bl_y, ↓bl_n, ↓bm_y, ↓bm_n, ↓bg_y, ↓bg_n, ↓bs_y, ↓bs_n, ↓bo_y, ↓bo_n, ↓bp_y, ↓bp_n, ↓forall_eq, ↓within_y, ↓within_n, ↓isIn_y, ↓isIn_n, and_true, true_and, and_self, us_at, us_ne, w32_id, um_eq, um_ne, um_um, uu_eq, uu_ne, uu_uu, vv_eq, vv_ne, vv_vv, ne_eq, not_false_eq_true, not_true_eq_false, reduceCtorEq, Int.reduceAdd, Int.reduceSub, Int.reduceMul, Int.reduceNeg, Nat.reduceEqDiff, or_true, true_or, true_implies, false_implies, Int.reduceLT, Int.reduceLE, Int.reduceEq, t2, h4, h8, e7, hM, g0, g1, g2, g3, c1, c2]
          exact q
      · have k12 : c ≠ 12 := fun t => y1 (by
          have := i12.1 t
          simp only [List.cons.injEq, and_true] at this
          exact ⟨this.1, this.2.1, this.2.2.1, this.2.2.2.1⟩)
        rw [if_neg k12] at q
        have c1 : ¬ w32 (iCmp (((W p * 256 + W (p + 1)) * 256 + W (p + 2)) * 256 + W (p + 3)) 1667785070) = 0 := fun t => by
          have := (cm_e (x := ((W p * 256 + W (p + 1)) * 256 + W (p + 2)) * 256 + W (p + 3)) (y := 1667785070) (by omega)).mp t
          exact y1 (by omega)
        clear i12 y1
        simp (disch := first | omega | decide) only [mX12_isChanges, mX12_byteAt, f1, f2, ↓rh_rcv, ↓rh_g3, ↓rh_g4, ↓rh_p4, ↓rh_g7, ↓rh_p7, ↓rh_g8, ↓rh_p8, ↓rh_g9, ↓rh_p9, ↓rh_r73, ↓rh_w73, ↓be_y, ↓be_n, ↓bf_y, ↓bf_n, ↓bl_y, ↓bl_n, ↓bm_y, ↓bm_n, ↓bg_y, ↓bg_n, ↓bs_y, ↓bs_n, ↓bo_y, ↓bo_n, ↓bp_y, ↓bp_n, ↓forall_eq, ↓within_y, ↓within_n, ↓isIn_y, ↓isIn_n, and_true, true_and, and_self, us_at, us_ne, w32_id, um_eq, um_ne, um_um, uu_eq, uu_ne, uu_uu, vv_eq, vv_ne, vv_vv, ne_eq, not_false_eq_true, not_true_eq_false, reduceCtorEq, Int.reduceAdd, Int.reduceSub, Int.reduceMul, Int.reduceNeg, Nat.reduceEqDiff, or_true, true_or, true_implies, false_implies, Int.reduceLT, Int.reduceLE, Int.reduceEq, t2, h4, h8, e7, hM, c1]
        exact q
    · have k12 : ltk W L j ≠ 12 := fun t => by
        have pL : lpl W L j < L := by
          by_cases d : lpl W L j < L
          · exact d
          · rw [ltk_w, if_neg d] at t; omega
        rw [ltk_w, if_pos pL] at t
        unfold lxc at t
        by_cases bl : bL (W (lpl W L j)) = true
        · rw [if_pos bl] at t
          have e := (wcd_e (c := 12) (by omega)).1 t
          have s := spe_bd (P := bL) (W := W) (L := L) (p := lpl W L j) (by omega)
          have l := tl_len W (lpl W L j) (n := spe bL W L (lpl W L j) - lpl W L j) (by omega)
          rw [e] at l
          have l : (7 : Int) = _ := l
          rw [lbh_w, if_pos pL] at d7
          unfold lxb at d7
          rw [if_pos bl] at d7
          omega
        · rw [if_neg bl] at t
          by_cases bd : bD (W (lpl W L j)) = true
          · rw [if_pos bd] at t
            have := nmc_b (tl W (lpl W L j) (spe bD W L (lpl W L j) - lpl W L j)) 0 (spe_m _ _ rfl (by omega)) (by omega)
            omega
          · rw [if_neg bd] at t
            by_cases db : dbl W L (lpl W L j)
            · rw [if_pos db] at t; split at t <;> omega
            · rw [if_neg db] at t
              have := sgn_b (W (lpl W L j))
              omega
      rw [if_neg k12] at q
      have e7 : ¬ u 7 - u 8 = 7 := by omega
      simp (disch := first | omega | decide) only [mX12_isChanges, ↓rh_rcv, ↓rh_g7, ↓rh_p7, ↓rh_g8, ↓rh_p8, ↓rh_g9, ↓rh_p9, ↓be_y, ↓be_n, ↓bf_y, ↓bf_n, ↓bl_y, ↓bl_n, ↓bm_y, ↓bm_n, ↓bg_y, ↓bg_n, ↓bs_y, ↓bs_n, ↓bo_y, ↓bo_n, ↓bp_y, ↓bp_n, ↓forall_eq, ↓within_y, ↓within_n, ↓isIn_y, ↓isIn_n, and_true, true_and, and_self, us_at, us_ne, w32_id, um_eq, um_ne, um_um, uu_eq, uu_ne, uu_uu, vv_eq, vv_ne, vv_vv, ne_eq, not_false_eq_true, not_true_eq_false, reduceCtorEq, Int.reduceAdd, Int.reduceSub, Int.reduceMul, Int.reduceNeg, Nat.reduceEqDiff, or_true, true_or, true_implies, false_implies, Int.reduceLT, Int.reduceLE, Int.reduceEq, t2]
      exact q
  · have k12 : ltk W L j ≠ 12 := fun t => t2 ((tkr_w ht (x := 12) (by omega)).2 t).1
    rw [if_neg k12] at q
    simp (disch := first | omega | decide) only [mX12_isChanges, ↓rh_rcv, ↓rh_g9, ↓rh_p9, ↓be_y, ↓be_n, ↓bf_y, ↓bf_n, ↓bl_y, ↓bl_n, ↓bm_y, ↓bm_n, ↓bg_y, ↓bg_n, ↓bs_y, ↓bs_n, ↓bo_y, ↓bo_n, ↓bp_y, ↓bp_n, ↓forall_eq, ↓within_y, ↓within_n, ↓isIn_y, ↓isIn_n, and_true, true_and, and_self, us_at, us_ne, w32_id, um_eq, um_ne, um_um, uu_eq, uu_ne, uu_uu, vv_eq, vv_ne, vv_vv, ne_eq, not_false_eq_true, not_true_eq_false, reduceCtorEq, Int.reduceAdd, Int.reduceSub, Int.reduceMul, Int.reduceNeg, Nat.reduceEqDiff, or_true, true_or, true_implies, false_implies, Int.reduceLT, Int.reduceLE, Int.reduceEq]
    exact q
end CH
