section RCH
variable {n P : Int} {v : Nat → Nat → Int} {N : Nat → Int → Int} {T : Nat → Int → Option Nat} {u : Nat → Int} {Y A : Int → Int} {M : Nat → Int → Int} {s0 s s' w : std} {q : qt}
theorem sp2 : ∀ (k : Nat) (i : Int) (U : Int → Int), i + k = 4320 → 0 ≤ i → (∀ j, 0 ≤ j → j < i → U j = -2) → ∃ U', (∀ j, 0 ≤ j → j < 4320 → U' j = -2) ∧ ∀ (F : hp) (Q : Int → hp → Prop), mX12_spread_L2 Q 1 69 4320 (rh F u (um M 82 U')) → mX12_spread_L2 Q (k + 1) 69 i (rh F u (um M 82 U)) := by
  intro k
  induction k with
  | zero =>
    intro i U hi h0 hU
    obtain rfl : i = 4320 := by omega
    exact ⟨U, fun j j0 j1 => hU j j0 (by omega), fun F Q q => q⟩
  | succ k ih =>
    intro i U hi h0 hU
    obtain ⟨U', a1, a2⟩ := ih (i + 1) (us U i (-2)) (by omega) (by omega) (fun j j0 j1 => by
      by_cases d : j = i
      · rw [d, us_eq]
      · rw [us_ne d]; exact hU j j0 (by omega))
    refine ⟨U', a1, fun F Q q => ?_⟩
    have g := a2 F Q q
    rw [mX12_spread_L2]
    refine ⟨fun _ => ?_, fun d => absurd d (by rw [w32_id (by omega) (by omega)]; omega)⟩
    simp (disch := first | omega | decide) only [w32_id, ↓rh_rcv, ↓rh_g29, ↓rh_r82, ↓rh_w82, ↓be_y, ↓be_n, ↓bf_y, ↓bf_n, ↓bl_y, ↓bl_n, ↓bm_y, ↓bm_n, ↓bg_y, ↓bg_n, ↓bs_y, ↓bs_n, ↓bo_y, ↓bo_n, ↓bp_y, ↓bp_n, ↓forall_eq, ↓within_y, ↓within_n, ↓isIn_y, ↓isIn_n, and_true, true_and, and_self, us_at, us_ne, w32_id, um_eq, um_ne, um_um, uu_eq, uu_ne, uu_uu, vv_eq, vv_ne, vv_vv, ne_eq, not_false_eq_true, not_true_eq_false, reduceCtorEq, Int.reduceAdd, Int.reduceSub, Int.reduceMul, Int.reduceNeg, Nat.reduceEqDiff, or_true, true_or, true_implies, false_implies, Int.reduceLT, Int.reduceLE, Int.reduceEq]
    exact g
set_option maxHeartbeats 4000000 in
theorem sp_r (hY : jY Y (M 70)) (hC : jC (N 15) (N 16) (N 17) (N 18) (N 19) (M 70)) (hF : jF (v 10 15) (M 70)) (hz : ∀ a b, 0 ≤ a → a < M 70 0 → 0 ≤ b → b < M 70 0 → tb P (5 * a + b) = !zForb (M 70) a b) (hn : 0 ≤ M 70 0 ∧ M 70 0 ≤ 5) (hA6 : 0 ≤ M 70 60 ∧ M 70 60 < 120) : ∃ M', rin (M 70 0) (bfs P 2521 0 [(yst (M 70), 0, 0)]) M' ∧ frs M M' ∧ ∀ (F : hp) (Q : Int → hp → Prop), Q (bfs P 2521 0 [(yst (M 70), 0, 0)]).length (rh F (uu u 32 (wat (ws (M 70 60) (M 70 0)) (bfs P 2521 0 [(yst (M 70), 0, 0)]))) M') → mX12_spread 69 (rh F u M) Q := by
  have hs := yst_v hY
  have nb := num_b hn hs
  have l3 := svl_l3 hn.1 hs
  obtain ⟨U, u1, u2⟩ := sp2 (u := u) (M := M) 4320 0 (M 82) (by omega) (by omega) (fun j j0 j1 => by omega)
  rw [um_id] at u2
  have U82 : (um M 82 U) 82 = U := um_eq _ _ _
  have f1 : ∀ j, j ≠ 82 → (um M 82 U) j = M j := fun j hj => um_ne hj
  generalize um M 82 U = M1 at u2 U82 f1
  have A1 : M1 70 = M 70 := f1 70 (by decide)
  obtain ⟨R, C, r1, r2⟩ := take_70 (u := u) (Y := Y) (M := M1) (by rw [A1]; exact hY)
  rw [A1] at r1
  have f2 : ∀ j, j ≠ 80 → j ≠ 81 → (um (um M1 80 R) 81 C) j = M1 j := fun j j1 j2 => by rw [um_ne j2, um_ne j1]
  have r3 : rrep (yst (M 70)) ((um (um M1 80 R) 81 C) 80) ((um (um M1 80 R) 81 C) 81) := by rw [um_ne (by decide), um_eq, um_eq]; exact r1
  generalize um (um M1 80 R) 81 C = M2 at r2 f2 r3
  obtain ⟨⟨c0, c1, c2⟩, -⟩ := id r3
  have en3 : M2 81 0 + M2 81 1 + M2 81 2 = M 70 0 := by omega
  have A2 : M2 70 = M 70 := by rw [f2 70 (by decide) (by decide), A1]
  have V82 : M2 82 = U := by rw [f2 82 (by decide) (by decide), U82]
  have f3 : ∀ j, j ≠ 84 → j ≠ 82 → (um (um M2 84 (us (M2 84) 0 (num (yst (M 70))))) 82 (us (M2 82) (num (yst (M 70))) (-1))) j = M2 j := fun j j1 j2 => by rw [um_ne j2, um_ne j1]
  have ri : rin (M 70 0) [(yst (M 70), 0, 0)] (um (um M2 84 (us (M2 84) 0 (num (yst (M 70))))) 82 (us (M2 82) (num (yst (M 70))) (-1))) := by
    refine ⟨fun j x hj => ?_, fun z hz hzx => ?_⟩
    · cases j with
      | succ j => exact absurd hj (by simp)
      | zero =>
        simp only [List.getElem?_cons_zero, Option.some.injEq] at hj
        subst hj
        rw [um_ne (by decide), um_eq, um_eq]
        exact ⟨us_at rfl, fun _ => us_eq _ _ _, fun t => absurd t (by decide)⟩
    · have z1 : yst (M 70) ≠ z := hzx _ List.mem_cons_self
      have zb := num_b hn hz
      rw [um_eq, us_ne (fun e => z1 (num_inj hn hs hz e.symm)), V82]
      exact u1 _ zb.1 zb.2
  generalize eM : um (um M2 84 (us (M2 84) 0 (num (yst (M 70))))) 82 (us (M2 82) (num (yst (M 70))) (-1)) = M3 at f3 ri
  have A3 : M3 70 = M 70 := by rw [f3 70 (by decide) (by decide), A2]
  obtain ⟨R', w1⟩ := wanted_r (u := u) (M := M3) hs hn (by rw [f3 80 (by decide) (by decide), f3 81 (by decide) (by decide)]; exact r3) (by rw [A3]) (by rw [A3]; exact hA6)
  rw [A3] at w1
  obtain ⟨M', a1, a2, a3⟩ := sp78 (u := u) (P := P) hn hC hF hz rfl hA6 rfl 2521 0 [(yst (M 70), 0, 0)] (um M3 79 R') rfl (qok_0 hs) (rin_c (by rw [um_ne (by decide)]) (by rw [um_ne (by decide)]) (by rw [um_ne (by decide)]) ri) (by rw [um_ne (by decide)]; exact A3)
  refine ⟨M', a1, frs_t (fun j h1 h2 h3 h4 h5 h6 => by rw [um_ne h1, f3 j h6 h4, f2 j h2 h3, f1 j h4]) a2, fun F Q z => ?_⟩
  refine ⟨4321, u2 F Q ?_⟩
  have g := a3 F Q z
  have wp := wat_put (ws (M 70 60) (M 70 0)) [] (yst (M 70), 0, 0)
  have w0 : wat (ws (M 70 60) (M 70 0)) [] = -1 := rfl
  rw [List.nil_append, if_pos w0] at wp
  have wp : wat (ws (M 70 60) (M 70 0)) [(yst (M 70), 0, 0)] = if yst (M 70) = ws (M 70 60) (M 70 0) then 0 else -1 := wp
  rw [wp] at g
  rw [mX12_spread_L2]
  refine ⟨fun d => absurd d (by decide), fun _ => ?_⟩
  simp (disch := first | omega | decide) only [w32_id, ↓rh_rcv, ↓rh_g0, ↓rh_r70, ↓rh_w70, ↓be_y, ↓be_n, ↓bf_y, ↓bf_n, ↓bl_y, ↓bl_n, ↓bm_y, ↓bm_n, ↓bg_y, ↓bg_n, ↓bs_y, ↓bs_n, ↓bo_y, ↓bo_n, ↓bp_y, ↓bp_n, ↓forall_eq, ↓within_y, ↓within_n, ↓isIn_y, ↓isIn_n, and_true, true_and, and_self, us_at, us_ne, w32_id, um_eq, um_ne, um_um, uu_eq, uu_ne, uu_uu, vv_eq, vv_ne, vv_vv, ne_eq, not_false_eq_true, not_true_eq_false, reduceCtorEq, Int.reduceAdd, Int.reduceSub, Int.reduceMul, Int.reduceNeg, Nat.reduceEqDiff, or_true, true_or, true_implies, false_implies, Int.reduceLT, Int.reduceLE, Int.reduceEq]
  refine r2 F _ ?_
  simp (disch := first | omega | decide) only [mX12_cars, ↓rh_rcv, ↓rh_g28, ↓rh_g31, ↓rh_r81, ↓rh_w81, ↓be_y, ↓be_n, ↓bf_y, ↓bf_n, ↓bl_y, ↓bl_n, ↓bm_y, ↓bm_n, ↓bg_y, ↓bg_n, ↓bs_y, ↓bs_n, ↓bo_y, ↓bo_n, ↓bp_y, ↓bp_n, ↓forall_eq, ↓within_y, ↓within_n, ↓isIn_y, ↓isIn_n, and_true, true_and, and_self, us_at, us_ne, w32_id, um_eq, um_ne, um_um, uu_eq, uu_ne, uu_uu, vv_eq, vv_ne, vv_vv, ne_eq, not_false_eq_true, not_true_eq_false, reduceCtorEq, Int.reduceAdd, Int.reduceSub, Int.reduceMul, Int.reduceNeg, Nat.reduceEqDiff, or_true, true_or, true_implies, false_implies, Int.reduceLT, Int.reduceLE, Int.reduceEq]
  refine so_r hs hn r3 ?_
  simp (disch := first | omega | decide) only [w32_id, ↓rh_rcv, ↓rh_g29, ↓rh_g31, ↓rh_r82, ↓rh_w82, ↓rh_r84, ↓rh_w84, ↓be_y, ↓be_n, ↓bf_y, ↓bf_n, ↓bl_y, ↓bl_n, ↓bm_y, ↓bm_n, ↓bg_y, ↓bg_n, ↓bs_y, ↓bs_n, ↓bo_y, ↓bo_n, ↓bp_y, ↓bp_n, ↓forall_eq, ↓within_y, ↓within_n, ↓isIn_y, ↓isIn_n, and_true, true_and, and_self, us_at, us_ne, w32_id, um_eq, um_ne, um_um, uu_eq, uu_ne, uu_uu, vv_eq, vv_ne, vv_vv, ne_eq, not_false_eq_true, not_true_eq_false, reduceCtorEq, Int.reduceAdd, Int.reduceSub, Int.reduceMul, Int.reduceNeg, Nat.reduceEqDiff, or_true, true_or, true_implies, false_implies, Int.reduceLT, Int.reduceLE, Int.reduceEq]
  rw [eM]
  refine w1 F _ ?_
  by_cases f : yst (M 70) = ws (M 70 60) (M 70 0)
  · rw [if_pos f] at g
    rw [if_pos f]
    simp (disch := first | omega | decide) only [mX12_spread_J71, ↓rh_rcv, ↓rh_g32, ↓rh_p32, ↓be_y, ↓be_n, ↓bf_y, ↓bf_n, ↓bl_y, ↓bl_n, ↓bm_y, ↓bm_n, ↓bg_y, ↓bg_n, ↓bs_y, ↓bs_n, ↓bo_y, ↓bo_n, ↓bp_y, ↓bp_n, ↓forall_eq, ↓within_y, ↓within_n, ↓isIn_y, ↓isIn_n, and_true, true_and, and_self, us_at, us_ne, w32_id, um_eq, um_ne, um_um, uu_eq, uu_ne, uu_uu, vv_eq, vv_ne, vv_vv, ne_eq, not_false_eq_true, not_true_eq_false, reduceCtorEq, Int.reduceAdd, Int.reduceSub, Int.reduceMul, Int.reduceNeg, Nat.reduceEqDiff, or_true, true_or, true_implies, false_implies, Int.reduceLT, Int.reduceLE, Int.reduceEq, en3]
    exact ⟨_, g⟩
  · rw [if_neg f] at g
    rw [if_neg f]
    simp (disch := first | omega | decide) only [mX12_spread_J71, ↓rh_rcv, ↓rh_g32, ↓rh_p32, ↓be_y, ↓be_n, ↓bf_y, ↓bf_n, ↓bl_y, ↓bl_n, ↓bm_y, ↓bm_n, ↓bg_y, ↓bg_n, ↓bs_y, ↓bs_n, ↓bo_y, ↓bo_n, ↓bp_y, ↓bp_n, ↓forall_eq, ↓within_y, ↓within_n, ↓isIn_y, ↓isIn_n, and_true, true_and, and_self, us_at, us_ne, w32_id, um_eq, um_ne, um_um, uu_eq, uu_ne, uu_uu, vv_eq, vv_ne, vv_vv, ne_eq, not_false_eq_true, not_true_eq_false, reduceCtorEq, Int.reduceAdd, Int.reduceSub, Int.reduceMul, Int.reduceNeg, Nat.reduceEqDiff, or_true, true_or, true_implies, false_implies, Int.reduceLT, Int.reduceLE, Int.reduceEq, en3]
    exact ⟨_, g⟩
-- both searches from now, and what they leave
theorem srch {n : Int} {G : hp} (h : Rel n G v N T u M) : ∃ (P : Int) (v' : Nat → Nat → Int) (N' : Nat → Int → Int) (M' : Nat → Int → Int), qok (M 70 0) (yst (M 70)) (bfs P 2521 0 [(yst (M 70), 0, 0)]) ∧ aft (M 70 0) P (yst (M 70)) v' N' ∧ frv v v' ∧ rin (M 70 0) (bfs P 2521 0 [(yst (M 70), 0, 0)]) M' ∧ frs M M' ∧ (∀ R, Rel n G v' (um N' 63 R) T (uu u 32 (wat (ws (M 70 60) (M 70 0)) (bfs P 2521 0 [(yst (M 70), 0, 0)]))) M') ∧ frk N N' ∧ (∀ (F : hp) (Q : hp → Prop), Q (kh F v' N' T) → mX11_exploreFromNow 8 (kh F v N T) Q) ∧ (∀ (F : hp) (Q : Int → hp → Prop), Q (bfs P 2521 0 [(yst (M 70), 0, 0)]).length (rh F (uu u 32 (wat (ws (M 70 60) (M 70 0)) (bfs P 2521 0 [(yst (M 70), 0, 0)]))) M') → mX12_spread 69 (rh F u M) Q) := by
  obtain ⟨⟨hY, hK, hC, hF, hB, hT, hS, hD, hX, hG⟩, hI, hM, hL, hW, hH, hN⟩ := id h
  obtain ⟨P, p1, p2, p3⟩ := prs_c hY hC hF (T := T)
  have hs := yst_v hY
  have hc := jY_c hY
  have hn : 0 ≤ M 70 0 ∧ M 70 0 ≤ 5 := by omega
  obtain ⟨v', N', a1, a2, a3, a4⟩ := xp_c (v := v) (N := N) (T := T) (P := P) hn (by omega) hs hH
  obtain ⟨M', b1, b2, b3⟩ := sp_r (u := u) (P := P) hY hC hF (fun a b a0 a1 b0 b1 => p2 a b a0 (by omega) b0 (by omega)) hn (by have := hX.2.2.2; omega)
  refine ⟨P, v', N', M', bfs_ok hn.2 2521 0 _ (qok_0 hs), a1, a2, b1, b2, fun R => ?_, a3, fun F Q q => ?_, b3⟩
  · have hH' := aft_H hn (by omega) hs a1
    have g1 : ∀ j, j ≠ 57 → j ≠ 58 → j ≠ 59 → j ≠ 60 → j ≠ 61 → N' j = N j := a3
    have g2 : ∀ j, j ≠ 79 → j ≠ 80 → j ≠ 81 → j ≠ 82 → j ≠ 83 → j ≠ 84 → M' j = M j := b2
    have g3 : ∀ j, j ≠ 56 → v' j = v j := a2
    unfold Rel
    simp (disch := decide) only [g1, g2, g3, um_ne, uu_ne]
    exact ⟨⟨hY, hK, hC, hF, hB, hT, hS, hD, hX, hG⟩, hI, hM, hL, hW, hH', hN⟩
  · have e4 : N 12 4 = M 70 0 := by omega
    simp (disch := first | omega | decide) only [mX11_exploreFromNow, ↓kh_c8, ↓kh_g8_0, ↓kh_g8_1, ↓kh_g8_2, ↓kh_g8_3, ↓kh_g8_4, ↓kh_g8_5, ↓kh_g8_6, ↓kh_g8_7, ↓kh_c10, ↓kh_g10_0, ↓kh_g10_1, ↓kh_g10_2, ↓kh_g10_3, ↓kh_g10_4, ↓kh_g10_5, ↓kh_g10_6, ↓kh_g10_7, ↓kh_g10_8, ↓kh_g10_9, ↓kh_g10_10, ↓kh_g10_11, ↓kh_g10_12, ↓kh_p10_12, ↓kh_g10_13, ↓kh_p10_13, ↓kh_g10_14, ↓kh_p10_14, ↓kh_g10_15, ↓kh_p10_15, ↓be_y, ↓be_n, ↓bf_y, ↓bf_n, ↓bl_y, ↓bl_n, ↓bm_y, ↓bm_n, ↓bg_y, ↓bg_n, ↓bs_y, ↓bs_n, ↓bo_y, ↓bo_n, ↓bp_y, ↓bp_n, ↓forall_eq, ↓within_y, ↓within_n, ↓isIn_y, ↓isIn_n, and_true, true_and, and_self, us_at, us_ne, w32_id, um_eq, um_ne, um_um, uu_eq, uu_ne, uu_uu, vv_eq, vv_ne, vv_vv, ne_eq, not_false_eq_true, not_true_eq_false, reduceCtorEq, Int.reduceAdd, Int.reduceSub, Int.reduceMul, Int.reduceNeg, Nat.reduceEqDiff, or_true, true_or, true_implies, false_implies, Int.reduceLT, Int.reduceLE, Int.reduceEq]
    refine code_12 hY ?_
    simp (disch := first | omega | decide) only [mX10_countCars, ↓kh_c8, ↓kh_g8_0, ↓kh_g8_1, ↓kh_g8_2, ↓kh_g8_3, ↓kh_g8_4, ↓kh_g8_5, ↓kh_g8_6, ↓kh_g8_7, ↓kh_c10, ↓kh_g10_0, ↓kh_g10_1, ↓kh_g10_2, ↓kh_g10_3, ↓kh_g10_4, ↓kh_g10_5, ↓kh_g10_6, ↓kh_g10_7, ↓kh_g10_8, ↓kh_g10_9, ↓kh_g10_10, ↓kh_g10_11, ↓kh_g10_12, ↓kh_p10_12, ↓kh_g10_13, ↓kh_p10_13, ↓kh_g10_14, ↓kh_p10_14, ↓kh_g10_15, ↓kh_p10_15, ↓kh_c11, ↓kh_g11_0, ↓kh_r12, ↓kh_w12, ↓kh_n12, ↓kh_cp12_33, ↓kh_cp12_68, ↓kh_cp12_12, ↓kh_cp12_14, ↓be_y, ↓be_n, ↓bf_y, ↓bf_n, ↓bl_y, ↓bl_n, ↓bm_y, ↓bm_n, ↓bg_y, ↓bg_n, ↓bs_y, ↓bs_n, ↓bo_y, ↓bo_n, ↓bp_y, ↓bp_n, ↓forall_eq, ↓within_y, ↓within_n, ↓isIn_y, ↓isIn_n, and_true, true_and, and_self, us_at, us_ne, w32_id, um_eq, um_ne, um_um, uu_eq, uu_ne, uu_uu, vv_eq, vv_ne, vv_vv, ne_eq, not_false_eq_true, not_true_eq_false, reduceCtorEq, Int.reduceAdd, Int.reduceSub, Int.reduceMul, Int.reduceNeg, Nat.reduceEqDiff, or_true, true_or, true_implies, false_implies, Int.reduceLT, Int.reduceLE, Int.reduceEq, e4]
    refine p3 F _ ?_
    simp (disch := first | omega | decide) only [w32_id, ↓kh_c56, ↓kh_g56_0, ↓kh_g56_1, ↓kh_g56_2, ↓kh_g56_3, ↓kh_g56_4, ↓kh_g56_5, ↓kh_p56_5, ↓kh_g56_6, ↓kh_p56_6, ↓kh_g56_7, ↓kh_p56_7, ↓be_y, ↓be_n, ↓bf_y, ↓bf_n, ↓bl_y, ↓bl_n, ↓bm_y, ↓bm_n, ↓bg_y, ↓bg_n, ↓bs_y, ↓bs_n, ↓bo_y, ↓bo_n, ↓bp_y, ↓bp_n, ↓forall_eq, ↓within_y, ↓within_n, ↓isIn_y, ↓isIn_n, and_true, true_and, and_self, us_at, us_ne, w32_id, um_eq, um_ne, um_um, uu_eq, uu_ne, uu_uu, vv_eq, vv_ne, vv_vv, ne_eq, not_false_eq_true, not_true_eq_false, reduceCtorEq, Int.reduceAdd, Int.reduceSub, Int.reduceMul, Int.reduceNeg, Nat.reduceEqDiff, or_true, true_or, true_implies, false_implies, Int.reduceLT, Int.reduceLE, Int.reduceEq]
    exact a4 F Q q
theorem op_reach {n : Int} : OP n (mX11_reach 8) (mX12_reach 69) := by
  refine op_to (fun G v N T u M h => ?_)
  obtain ⟨P, v', N', M', k1, k2, k3, k4, k5, k6, k7, k8, k9⟩ := srch h
  have hc := jY_c h.1.1
  have ll := qok_len (by omega) k1
  have e5 := k2.1
  refine ⟨(bfs P 2521 0 [(yst (M 70), 0, 0)]).length, v', N', uu u 32 (wat (ws (M 70 60) (M 70 0)) (bfs P 2521 0 [(yst (M 70), 0, 0)])), M', Rel_up ?_, fun F Q q => ?_, fun F Q q => ?_⟩
  · have := k6 (N' 63)
    rw [um_id] at this
    exact this
  · simp (disch := first | omega | decide) only [mX11_reach, ↓kh_c8, ↓kh_g8_0, ↓kh_g8_1, ↓kh_g8_2, ↓kh_g8_3, ↓kh_g8_4, ↓kh_g8_5, ↓kh_g8_6, ↓kh_g8_7, ↓be_y, ↓be_n, ↓bf_y, ↓bf_n, ↓bl_y, ↓bl_n, ↓bm_y, ↓bm_n, ↓bg_y, ↓bg_n, ↓bs_y, ↓bs_n, ↓bo_y, ↓bo_n, ↓bp_y, ↓bp_n, ↓forall_eq, ↓within_y, ↓within_n, ↓isIn_y, ↓isIn_n, and_true, true_and, and_self, us_at, us_ne, w32_id, um_eq, um_ne, um_um, uu_eq, uu_ne, uu_uu, vv_eq, vv_ne, vv_vv, ne_eq, not_false_eq_true, not_true_eq_false, reduceCtorEq, Int.reduceAdd, Int.reduceSub, Int.reduceMul, Int.reduceNeg, Nat.reduceEqDiff, or_true, true_or, true_implies, false_implies, Int.reduceLT, Int.reduceLE, Int.reduceEq]
    refine k8 F _ ?_
    simp (disch := first | omega | decide) only [w32_id, ↓kh_c8, ↓kh_g8_0, ↓kh_g8_1, ↓kh_g8_2, ↓kh_g8_3, ↓kh_g8_4, ↓kh_g8_5, ↓kh_g8_6, ↓kh_g8_7, ↓kh_c56, ↓kh_g56_0, ↓kh_g56_1, ↓kh_g56_2, ↓kh_g56_3, ↓kh_g56_4, ↓kh_g56_5, ↓kh_p56_5, ↓kh_g56_6, ↓kh_p56_6, ↓kh_g56_7, ↓kh_p56_7, ↓be_y, ↓be_n, ↓bf_y, ↓bf_n, ↓bl_y, ↓bl_n, ↓bm_y, ↓bm_n, ↓bg_y, ↓bg_n, ↓bs_y, ↓bs_n, ↓bo_y, ↓bo_n, ↓bp_y, ↓bp_n, ↓forall_eq, ↓within_y, ↓within_n, ↓isIn_y, ↓isIn_n, and_true, true_and, and_self, us_at, us_ne, w32_id, um_eq, um_ne, um_um, uu_eq, uu_ne, uu_uu, vv_eq, vv_ne, vv_vv, ne_eq, not_false_eq_true, not_true_eq_false, reduceCtorEq, Int.reduceAdd, Int.reduceSub, Int.reduceMul, Int.reduceNeg, Nat.reduceEqDiff, or_true, true_or, true_implies, false_implies, Int.reduceLT, Int.reduceLE, Int.reduceEq, e5]
    exact q
  · simp (disch := first | omega | decide) only [mX12_reach, ↓rh_rcv, ↓rh_g0, ↓be_y, ↓be_n, ↓bf_y, ↓bf_n, ↓bl_y, ↓bl_n, ↓bm_y, ↓bm_n, ↓bg_y, ↓bg_n, ↓bs_y, ↓bs_n, ↓bo_y, ↓bo_n, ↓bp_y, ↓bp_n, ↓forall_eq, ↓within_y, ↓within_n, ↓isIn_y, ↓isIn_n, and_true, true_and, and_self, us_at, us_ne, w32_id, um_eq, um_ne, um_um, uu_eq, uu_ne, uu_uu, vv_eq, vv_ne, vv_vv, ne_eq, not_false_eq_true, not_true_eq_false, reduceCtorEq, Int.reduceAdd, Int.reduceSub, Int.reduceMul, Int.reduceNeg, Nat.reduceEqDiff, or_true, true_or, true_implies, false_implies, Int.reduceLT, Int.reduceLE, Int.reduceEq]
    exact k9 F _ q
end RCH
