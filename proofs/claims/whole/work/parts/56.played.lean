section PX
variable {n x1 x2 : Int}
theorem lend_x {G : hp} {v : Nat → Nat → Int} {N : Nat → Int → Int} {T : Nat → Int → Option Nat} {u : Nat → Int} {M : Nat → Int → Int} (h : Rel n G v N T u M) (h1 : 0 ≤ x1 ∧ x1 ≤ 1) (h2 : -9 ≤ x2 ∧ x2 ≤ 9 ∧ x2 ≠ 0) : ∃ r v' N' M', ((r = 0 ∨ r = 1) ∧ M' 70 1 = M 70 1) ∧ Rel n G v' N' T u M' ∧ (∀ (F : hp) (Q : Int → hp → Prop), Q r (kh F v' N' T) → mX9_lendWheels 9 x1 x2 (kh F v N T) Q) ∧ (∀ (F : hp) (Q : Int → hp → Prop), Q r (rh F u M') → mX12_lend 69 x1 x2 (rh F u M) Q) := by
  have hY := h.1.1
  obtain ⟨e, -, -, -, -, -, -, y9, y10, -⟩ := jY_d hY
  have ew : N 12 (2 + x1) = M 70 (9 + x1) ∧ 0 ≤ M 70 (9 + x1) ∧ M 70 (9 + x1) ≤ 9 := by
    obtain rfl | rfl : x1 = 0 ∨ x1 = 1 := by omega
    · exact ⟨e.2.2.1, y9⟩
    · exact ⟨e.2.2.2.1, y10⟩
  have ew1 := ew.1
  by_cases c : 0 ≤ M 70 (9 + x1) + x2 ∧ M 70 (9 + x1) + x2 ≤ 9
  · obtain ⟨v', K', A', k1, k2, k3, k4, k5⟩ := keep_b h
    have ea : A' (9 + x1) = M 70 (9 + x1) := k2 _ (by omega)
    have hY' : jY (N 12) A' := k1.1.1
    refine ⟨1, v', um (um N 14 K') 12 (us (N 12) (2 + x1) (M 70 (9 + x1) + x2)), um (um M 70 A') 70 (us A' (9 + x1) (M 70 (9 + x1) + x2)), ⟨.inr rfl, by rw [um_eq, us_ne (by omega), k2 1 (by omega)]⟩, Rel_y k1 (jY_w hY' h1 c) (yag_s (yag_r _) (by omega)), fun F Q q => ?_, fun F Q q => ?_⟩
    · simp (disch := first | omega | decide) only [mX9_lendWheels, mX10_wheelsOf, ↓kh_c9, ↓kh_g9_0, ↓kh_g9_1, ↓kh_c10, ↓kh_g10_0, ↓kh_g10_1, ↓kh_g10_2, ↓kh_g10_3, ↓kh_g10_4, ↓kh_g10_5, ↓kh_g10_6, ↓kh_g10_7, ↓kh_g10_8, ↓kh_g10_9, ↓kh_g10_10, ↓kh_g10_11, ↓kh_g10_12, ↓kh_p10_12, ↓kh_g10_13, ↓kh_p10_13, ↓kh_g10_14, ↓kh_p10_14, ↓kh_g10_15, ↓kh_p10_15, ↓kh_c11, ↓kh_g11_0, ↓kh_r12, ↓kh_w12, ↓kh_n12, ↓kh_c13, ↓kh_g13_0, ↓kh_g13_1, ↓kh_p13_1, ↓kh_g13_2, ↓kh_p13_2, ↓kh_cp12_33, ↓kh_cp12_68, ↓kh_cp12_12, ↓kh_cp12_14, ↓be_y, ↓be_n, ↓bf_y, ↓bf_n, ↓bl_y, ↓bl_n, ↓bm_y, ↓bm_n, ↓bg_y, ↓bg_n, ↓bs_y, ↓bs_n, ↓bo_y, ↓bo_n, ↓bp_y, ↓bp_n, ↓forall_eq, ↓within_y, ↓within_n, ↓isIn_y, ↓isIn_n, and_true, true_and, and_self, us_at, us_ne, w32_id, um_eq, um_ne, um_um, uu_eq, uu_ne, uu_uu, vv_eq, vv_ne, vv_vv, ne_eq, not_false_eq_true, not_true_eq_false, reduceCtorEq, Int.reduceAdd, Int.reduceSub, Int.reduceMul, Int.reduceNeg, Nat.reduceEqDiff, or_true, true_or, true_implies, false_implies, Int.reduceLT, Int.reduceLE, Int.reduceEq, ew1]
      refine k4 _ _ ?_
      simp (disch := first | omega | decide) only [w32_id, ↓kh_c9, ↓kh_g9_0, ↓kh_g9_1, ↓kh_c10, ↓kh_g10_0, ↓kh_g10_1, ↓kh_g10_2, ↓kh_g10_3, ↓kh_g10_4, ↓kh_g10_5, ↓kh_g10_6, ↓kh_g10_7, ↓kh_g10_8, ↓kh_g10_9, ↓kh_g10_10, ↓kh_g10_11, ↓kh_g10_12, ↓kh_p10_12, ↓kh_g10_13, ↓kh_p10_13, ↓kh_g10_14, ↓kh_p10_14, ↓kh_g10_15, ↓kh_p10_15, ↓kh_c11, ↓kh_g11_0, ↓kh_r12, ↓kh_w12, ↓kh_n12, ↓kh_cp12_33, ↓kh_cp12_68, ↓kh_cp12_12, ↓kh_cp12_14, ↓be_y, ↓be_n, ↓bf_y, ↓bf_n, ↓bl_y, ↓bl_n, ↓bm_y, ↓bm_n, ↓bg_y, ↓bg_n, ↓bs_y, ↓bs_n, ↓bo_y, ↓bo_n, ↓bp_y, ↓bp_n, ↓forall_eq, ↓within_y, ↓within_n, ↓isIn_y, ↓isIn_n, and_true, true_and, and_self, us_at, us_ne, w32_id, um_eq, um_ne, um_um, uu_eq, uu_ne, uu_uu, vv_eq, vv_ne, vv_vv, ne_eq, not_false_eq_true, not_true_eq_false, reduceCtorEq, Int.reduceAdd, Int.reduceSub, Int.reduceMul, Int.reduceNeg, Nat.reduceEqDiff, or_true, true_or, true_implies, false_implies, Int.reduceLT, Int.reduceLE, Int.reduceEq]
      exact q
    · simp (disch := first | omega | decide) only [mX12_lend, mX12_canLend, ↓rh_rcv, ↓rh_g0, ↓rh_r70, ↓rh_w70, ↓be_y, ↓be_n, ↓bf_y, ↓bf_n, ↓bl_y, ↓bl_n, ↓bm_y, ↓bm_n, ↓bg_y, ↓bg_n, ↓bs_y, ↓bs_n, ↓bo_y, ↓bo_n, ↓bp_y, ↓bp_n, ↓forall_eq, ↓within_y, ↓within_n, ↓isIn_y, ↓isIn_n, and_true, true_and, and_self, us_at, us_ne, w32_id, um_eq, um_ne, um_um, uu_eq, uu_ne, uu_uu, vv_eq, vv_ne, vv_vv, ne_eq, not_false_eq_true, not_true_eq_false, reduceCtorEq, Int.reduceAdd, Int.reduceSub, Int.reduceMul, Int.reduceNeg, Nat.reduceEqDiff, or_true, true_or, true_implies, false_implies, Int.reduceLT, Int.reduceLE, Int.reduceEq]
      refine k5 _ _ ?_
      simp (disch := first | omega | decide) only [w32_id, ↓rh_rcv, ↓rh_g0, ↓rh_r70, ↓rh_w70, ↓be_y, ↓be_n, ↓bf_y, ↓bf_n, ↓bl_y, ↓bl_n, ↓bm_y, ↓bm_n, ↓bg_y, ↓bg_n, ↓bs_y, ↓bs_n, ↓bo_y, ↓bo_n, ↓bp_y, ↓bp_n, ↓forall_eq, ↓within_y, ↓within_n, ↓isIn_y, ↓isIn_n, and_true, true_and, and_self, us_at, us_ne, w32_id, um_eq, um_ne, um_um, uu_eq, uu_ne, uu_uu, vv_eq, vv_ne, vv_vv, ne_eq, not_false_eq_true, not_true_eq_false, reduceCtorEq, Int.reduceAdd, Int.reduceSub, Int.reduceMul, Int.reduceNeg, Nat.reduceEqDiff, or_true, true_or, true_implies, false_implies, Int.reduceLT, Int.reduceLE, Int.reduceEq, ea]
      simp only [um_um] at q
      exact q
  · refine ⟨0, v, N, M, ⟨.inl rfl, rfl⟩, h, fun F Q q => ?_, fun F Q q => ?_⟩
    · by_cases d : M 70 (9 + x1) + x2 < 0
      · simp (disch := first | omega | decide) only [mX9_lendWheels, mX10_wheelsOf, ↓kh_c9, ↓kh_g9_0, ↓kh_g9_1, ↓kh_c10, ↓kh_g10_0, ↓kh_g10_1, ↓kh_g10_2, ↓kh_g10_3, ↓kh_g10_4, ↓kh_g10_5, ↓kh_g10_6, ↓kh_g10_7, ↓kh_g10_8, ↓kh_g10_9, ↓kh_g10_10, ↓kh_g10_11, ↓kh_g10_12, ↓kh_p10_12, ↓kh_g10_13, ↓kh_p10_13, ↓kh_g10_14, ↓kh_p10_14, ↓kh_g10_15, ↓kh_p10_15, ↓kh_c11, ↓kh_g11_0, ↓kh_r12, ↓kh_w12, ↓kh_n12, ↓kh_cp12_33, ↓kh_cp12_68, ↓kh_cp12_12, ↓kh_cp12_14, ↓be_y, ↓be_n, ↓bf_y, ↓bf_n, ↓bl_y, ↓bl_n, ↓bm_y, ↓bm_n, ↓bg_y, ↓bg_n, ↓bs_y, ↓bs_n, ↓bo_y, ↓bo_n, ↓bp_y, ↓bp_n, ↓forall_eq, ↓within_y, ↓within_n, ↓isIn_y, ↓isIn_n, and_true, true_and, and_self, us_at, us_ne, w32_id, um_eq, um_ne, um_um, uu_eq, uu_ne, uu_uu, vv_eq, vv_ne, vv_vv, ne_eq, not_false_eq_true, not_true_eq_false, reduceCtorEq, Int.reduceAdd, Int.reduceSub, Int.reduceMul, Int.reduceNeg, Nat.reduceEqDiff, or_true, true_or, true_implies, false_implies, Int.reduceLT, Int.reduceLE, Int.reduceEq, ew1]
        exact q
      · simp (disch := first | omega | decide) only [mX9_lendWheels, mX10_wheelsOf, ↓kh_c9, ↓kh_g9_0, ↓kh_g9_1, ↓kh_c10, ↓kh_g10_0, ↓kh_g10_1, ↓kh_g10_2, ↓kh_g10_3, ↓kh_g10_4, ↓kh_g10_5, ↓kh_g10_6, ↓kh_g10_7, ↓kh_g10_8, ↓kh_g10_9, ↓kh_g10_10, ↓kh_g10_11, ↓kh_g10_12, ↓kh_p10_12, ↓kh_g10_13, ↓kh_p10_13, ↓kh_g10_14, ↓kh_p10_14, ↓kh_g10_15, ↓kh_p10_15, ↓kh_c11, ↓kh_g11_0, ↓kh_r12, ↓kh_w12, ↓kh_n12, ↓kh_cp12_33, ↓kh_cp12_68, ↓kh_cp12_12, ↓kh_cp12_14, ↓be_y, ↓be_n, ↓bf_y, ↓bf_n, ↓bl_y, ↓bl_n, ↓bm_y, ↓bm_n, ↓bg_y, ↓bg_n, ↓bs_y, ↓bs_n, ↓bo_y, ↓bo_n, ↓bp_y, ↓bp_n, ↓forall_eq, ↓within_y, ↓within_n, ↓isIn_y, ↓isIn_n, and_true, true_and, and_self, us_at, us_ne, w32_id, um_eq, um_ne, um_um, uu_eq, uu_ne, uu_uu, vv_eq, vv_ne, vv_vv, ne_eq, not_false_eq_true, not_true_eq_false, reduceCtorEq, Int.reduceAdd, Int.reduceSub, Int.reduceMul, Int.reduceNeg, Nat.reduceEqDiff, or_true, true_or, true_implies, false_implies, Int.reduceLT, Int.reduceLE, Int.reduceEq, ew1]
        exact q
    · simp (disch := first | omega | decide) only [mX12_lend, mX12_canLend, ↓rh_rcv, ↓rh_g0, ↓rh_r70, ↓rh_w70, ↓be_y, ↓be_n, ↓bf_y, ↓bf_n, ↓bl_y, ↓bl_n, ↓bm_y, ↓bm_n, ↓bg_y, ↓bg_n, ↓bs_y, ↓bs_n, ↓bo_y, ↓bo_n, ↓bp_y, ↓bp_n, ↓forall_eq, ↓within_y, ↓within_n, ↓isIn_y, ↓isIn_n, and_true, true_and, and_self, us_at, us_ne, w32_id, um_eq, um_ne, um_um, uu_eq, uu_ne, uu_uu, vv_eq, vv_ne, vv_vv, ne_eq, not_false_eq_true, not_true_eq_false, reduceCtorEq, Int.reduceAdd, Int.reduceSub, Int.reduceMul, Int.reduceNeg, Nat.reduceEqDiff, or_true, true_or, true_implies, false_implies, Int.reduceLT, Int.reduceLE, Int.reduceEq]
      exact q
theorem car_x {G : hp} {v : Nat → Nat → Int} {N : Nat → Int → Int} {T : Nat → Int → Option Nat} {u : Nat → Int} {M : Nat → Int → Int} (h : Rel n G v N T u M) (h1 : 0 ≤ x1 ∧ x1 ≤ 3) (h2 : 1 ≤ x2 ∧ x2 ≤ 9) : ∃ r N' M', (-1 ≤ r ∧ M' 70 1 = M 70 1) ∧ r ≤ 4 ∧ Rel n G v N' T u M' ∧ (∀ (F : hp) (Q : Int → hp → Prop), Q r (kh F v N' T) → mX5_addCar 10 x1 x2 (kh F v N T) Q) ∧ (∀ (F : hp) (Q : Int → hp → Prop), Q r (rh F u M') → mX12_car 69 x1 x2 (rh F u M) Q) := by
  obtain ⟨⟨hY, hK, hC, hF, hB, hT, hS, hD, hX, hG⟩, hI, hM, hR⟩ := id h
  have hc := jY_c hY
  have e4 := hc.1
  have k := jY_k hY
  have ys := yok_sum k
  have t0 := (jY_d hY).2.2.1 0 (by omega) (by omega)
  simp only [Int.reduceAdd] at t0
  have t0a := t0.1
  by_cases c : M 70 0 < 5
  · have nt : M 70 12 < 5 := by
      have a := k.2.2.2.2.2.2.2.2.1 1 (by omega) (by omega)
      have b := k.2.2.2.2.2.2.2.2.1 2 (by omega) (by omega)
      simp only [Int.reduceAdd] at a b
      omega
    have z1 : us (us (M 70) (36 + M 70 0) x1) (41 + M 70 0) x2 12 = M 70 12 := by simp (disch := omega) only [us_ne]
    have hy' : jY (us (us (us (N 12) 4 (M 70 0 + 1)) (14 + M 70 12) (M 70 0)) 11 (M 70 12 + 1)) (us (us (us (us (us (M 70) (36 + M 70 0) x1) (41 + M 70 0) x2) (15 + M 70 12) (M 70 0)) 12 (M 70 12 + 1)) 0 (M 70 0 + 1)) := by
      have p0 : jY (N 12) (us (us (M 70) (36 + M 70 0) x1) (41 + M 70 0) x2) := jY_A (fun i hi => by simp (disch := omega) only [us_ne]) hY
      have p1 := pR_n (t := 0) (x := M 70 12 + 1) (pR_t (t := 0) (i := M 70 12) (x := M 70 0) (pR_c (x := M 70 0 + 1) (jY_p p0)) (by omega) (by omega)) (by omega)
      simp only [Int.mul_zero, Int.add_zero] at p1
      rw [us_comm (f := us (us (M 70) (36 + M 70 0) x1) (41 + M 70 0) x2) (i := 0) (j := 15 + M 70 12) (by omega), us_comm (i := 0) (j := 12) (by omega)] at p1
      refine jY_mk p1 ?_
      have y := yok_add k (by omega)
      rw [e4, t0a] at y
      exact y
    refine ⟨M 70 0, um (um (um (um (um (um N 12 (us (us (us (N 12) 4 (M 70 0 + 1)) (14 + M 70 12) (M 70 0)) 11 (M 70 12 + 1))) 15 (us (N 15) (M 70 0) x1)) 16 (us (N 16) (M 70 0) x2)) 17 (us (N 17) (M 70 0) 1)) 18 (us (N 18) (M 70 0) 1)) 19 (us (N 19) (M 70 0) 0), um M 70 (us (us (us (us (us (M 70) (36 + M 70 0) x1) (41 + M 70 0) x2) (15 + M 70 12) (M 70 0)) 12 (M 70 12 + 1)) 0 (M 70 0 + 1)), ⟨by omega, by simp (disch := omega) only [um_eq, us_ne]⟩, by omega, ⟨⟨hy', ?_, ?_, jF_A (fun i hi => by simp (disch := omega) only [um_eq, um_ne, us_ne]) hF, jB_A (fun i hi => by simp (disch := omega) only [um_eq, um_ne, us_ne]) hB, jT_A (fun i hi => by simp (disch := omega) only [um_eq, um_ne, us_ne]) hT, jS_A (fun i hi => by simp (disch := omega) only [um_eq, um_ne, us_ne]) hS, jD_A (fun i hi => by simp (disch := omega) only [um_eq, um_ne, us_ne]) hD, jX_A (fun i hi => by simp (disch := omega) only [um_eq, um_ne, us_ne]) hX, jG_A (by simp (disch := omega) only [um_eq, um_ne, us_ne]) hG⟩, hI, ⟨?_, ?_⟩, hR⟩, fun F Q q => ?_, fun F Q q => ?_⟩
    · refine ⟨hK.1, ?_, fun j j0 j1 => ?_⟩
      · simp (disch := omega) only [um_eq, us_ne]
        exact hK.2.1
      · simp (disch := omega) only [um_eq, us_ne] at j1
        have k3 := hK.2.1
        obtain ⟨r1, r2⟩ := hK.2.2 j j0 j1
        refine ⟨yrel_cg r1 (fun i g0 g1 => rfl) (fun s g0 g1 => ?_), ?_⟩
        · simp (disch := omega) only [um_eq, us_ne]
        · simp (disch := omega) only [um_eq, us_ne, us_at]
          omega
    · intro r g0 g1
      have e3 := hC r g0 g1
      by_cases d1 : r = M 70 0
      · subst d1
        have e5 := e3.2.2.2.2.2.2 (Int.le_refl _)
        simp (disch := omega) only [um_eq, um_ne, us_at, us_ne]
        exact ⟨⟨trivial, h1⟩, ⟨trivial, by omega⟩, e3.2.2.1, e3.2.2.2.1, e3.2.2.2.2.1, fun _ => ⟨e5.1.symm, e5.2.1.symm, e5.2.2.symm⟩, fun g => by omega⟩
      · simp (disch := omega) only [um_eq, um_ne, us_at, us_ne]
        exact ⟨e3.1, e3.2.1, e3.2.2.1, e3.2.2.2.1, e3.2.2.2.2.1, fun g => e3.2.2.2.2.2.1 (by omega), fun g => e3.2.2.2.2.2.2 (by omega)⟩
    · simp (disch := omega) only [um_eq, um_ne, us_at]
      omega
    · simp (disch := omega) only [um_eq, um_ne, us_ne]
      exact hM.2
    · simp (disch := first | omega | decide) only [mX5_addCar, mX10_addCar, mX10_putUppermost, mX10_countOn, ↓kh_c10, ↓kh_g10_0, ↓kh_g10_1, ↓kh_g10_2, ↓kh_g10_3, ↓kh_g10_4, ↓kh_g10_5, ↓kh_g10_6, ↓kh_g10_7, ↓kh_g10_8, ↓kh_g10_9, ↓kh_g10_10, ↓kh_g10_11, ↓kh_g10_12, ↓kh_p10_12, ↓kh_g10_13, ↓kh_p10_13, ↓kh_g10_14, ↓kh_p10_14, ↓kh_g10_15, ↓kh_p10_15, ↓kh_c11, ↓kh_g11_0, ↓kh_r12, ↓kh_w12, ↓kh_n12, ↓kh_r15, ↓kh_w15, ↓kh_n15, ↓kh_r16, ↓kh_w16, ↓kh_n16, ↓kh_r17, ↓kh_w17, ↓kh_n17, ↓kh_r18, ↓kh_w18, ↓kh_n18, ↓kh_r19, ↓kh_w19, ↓kh_n19, ↓kh_cp12_33, ↓kh_cp12_68, ↓kh_cp12_12, ↓kh_cp12_14, ↓kh_cp15_36, ↓kh_cp16_37, ↓kh_cp17_38, ↓kh_cp18_39, ↓kh_cp19_40, ↓be_y, ↓be_n, ↓bf_y, ↓bf_n, ↓bl_y, ↓bl_n, ↓bm_y, ↓bm_n, ↓bg_y, ↓bg_n, ↓bs_y, ↓bs_n, ↓bo_y, ↓bo_n, ↓bp_y, ↓bp_n, ↓forall_eq, ↓within_y, ↓within_n, ↓isIn_y, ↓isIn_n, and_true, true_and, and_self, us_at, us_ne, w32_id, um_eq, um_ne, um_um, uu_eq, uu_ne, uu_uu, vv_eq, vv_ne, vv_vv, ne_eq, not_false_eq_true, not_true_eq_false, reduceCtorEq, Int.reduceAdd, Int.reduceSub, Int.reduceMul, Int.reduceNeg, Nat.reduceEqDiff, or_true, true_or, true_implies, false_implies, Int.reduceLT, Int.reduceLE, Int.reduceEq, e4, t0a, Int.mul_zero, Int.add_zero]
      exact q
    · simp (disch := first | omega | decide) only [mX12_car, mX12_come, ↓rh_rcv, ↓rh_g0, ↓rh_r70, ↓rh_w70, ↓be_y, ↓be_n, ↓bf_y, ↓bf_n, ↓bl_y, ↓bl_n, ↓bm_y, ↓bm_n, ↓bg_y, ↓bg_n, ↓bs_y, ↓bs_n, ↓bo_y, ↓bo_n, ↓bp_y, ↓bp_n, ↓forall_eq, ↓within_y, ↓within_n, ↓isIn_y, ↓isIn_n, and_true, true_and, and_self, us_at, us_ne, w32_id, um_eq, um_ne, um_um, uu_eq, uu_ne, uu_uu, vv_eq, vv_ne, vv_vv, ne_eq, not_false_eq_true, not_true_eq_false, reduceCtorEq, Int.reduceAdd, Int.reduceSub, Int.reduceMul, Int.reduceNeg, Nat.reduceEqDiff, or_true, true_or, true_implies, false_implies, Int.reduceLT, Int.reduceLE, Int.reduceEq, z1, Int.mul_zero, Int.add_zero]
      exact q
  · refine ⟨-1, N, M, ⟨by omega, rfl⟩, by omega, h, fun F Q q => ?_, fun F Q q => ?_⟩
    · simp (disch := first | omega | decide) only [mX5_addCar, mX10_addCar, ↓kh_c10, ↓kh_g10_0, ↓kh_g10_1, ↓kh_g10_2, ↓kh_g10_3, ↓kh_g10_4, ↓kh_g10_5, ↓kh_g10_6, ↓kh_g10_7, ↓kh_g10_8, ↓kh_g10_9, ↓kh_g10_10, ↓kh_g10_11, ↓kh_g10_12, ↓kh_p10_12, ↓kh_g10_13, ↓kh_p10_13, ↓kh_g10_14, ↓kh_p10_14, ↓kh_g10_15, ↓kh_p10_15, ↓kh_c11, ↓kh_g11_0, ↓kh_r12, ↓kh_w12, ↓kh_n12, ↓kh_cp12_33, ↓kh_cp12_68, ↓kh_cp12_12, ↓kh_cp12_14, ↓be_y, ↓be_n, ↓bf_y, ↓bf_n, ↓bl_y, ↓bl_n, ↓bm_y, ↓bm_n, ↓bg_y, ↓bg_n, ↓bs_y, ↓bs_n, ↓bo_y, ↓bo_n, ↓bp_y, ↓bp_n, ↓forall_eq, ↓within_y, ↓within_n, ↓isIn_y, ↓isIn_n, and_true, true_and, and_self, us_at, us_ne, w32_id, um_eq, um_ne, um_um, uu_eq, uu_ne, uu_uu, vv_eq, vv_ne, vv_vv, ne_eq, not_false_eq_true, not_true_eq_false, reduceCtorEq, Int.reduceAdd, Int.reduceSub, Int.reduceMul, Int.reduceNeg, Nat.reduceEqDiff, or_true, true_or, true_implies, false_implies, Int.reduceLT, Int.reduceLE, Int.reduceEq, e4]
      exact q
    · simp (disch := first | omega | decide) only [mX12_car, ↓rh_rcv, ↓rh_g0, ↓rh_r70, ↓rh_w70, ↓be_y, ↓be_n, ↓bf_y, ↓bf_n, ↓bl_y, ↓bl_n, ↓bm_y, ↓bm_n, ↓bg_y, ↓bg_n, ↓bs_y, ↓bs_n, ↓bo_y, ↓bo_n, ↓bp_y, ↓bp_n, ↓forall_eq, ↓within_y, ↓within_n, ↓isIn_y, ↓isIn_n, and_true, true_and, and_self, us_at, us_ne, w32_id, um_eq, um_ne, um_um, uu_eq, uu_ne, uu_uu, vv_eq, vv_ne, vv_vv, ne_eq, not_false_eq_true, not_true_eq_false, reduceCtorEq, Int.reduceAdd, Int.reduceSub, Int.reduceMul, Int.reduceNeg, Nat.reduceEqDiff, or_true, true_or, true_implies, false_implies, Int.reduceLT, Int.reduceLE, Int.reduceEq]
      exact q
theorem hours_x {G : hp} {T : Nat → Int → Option Nat} (hx : 0 ≤ x1 ∧ x1 ≤ 60) : ∀ (k : Nat) (i : Int) (v : Nat → Nat → Int) (N : Nat → Int → Int) (u : Nat → Int) (M : Nat → Int → Int), Rel n G v N T u M → i + k = x1 → 0 ≤ i → ∃ v' N' u' M', (Rel n G v' N' T u' M' ∧ M' 70 1 = M 70 1) ∧ (∀ (F : hp) (Q : Int → hp → Prop), Q (u' 24) (kh F v' N' T) → mX9_passHours_L4 Q (k + 1) 9 x1 (u 24) i (kh F v N T)) ∧ (∀ (F : hp) (Q : Int → hp → Prop), Q (if M 70 7 + k ≤ 9999 then 1 else 0) (rh F u' M') → mX12_arePassed_L7 Q (k + 1) 69 x1 i (rh F u M)) := by
  intro k
  induction k with
  | zero =>
    intro i v N u M h hi h0
    have y7 := (jY_d h.1.1).2.2.2.2.2.1
    refine ⟨v, N, u, M, ⟨h, rfl⟩, fun F Q q => ?_, fun F Q q => ?_⟩
    · rw [mX9_passHours_L4]
      simp (disch := first | omega | decide) only [w32_id, ↓kh_c9, ↓kh_g9_0, ↓kh_g9_1, ↓be_y, ↓be_n, ↓bf_y, ↓bf_n, ↓bl_y, ↓bl_n, ↓bm_y, ↓bm_n, ↓bg_y, ↓bg_n, ↓bs_y, ↓bs_n, ↓bo_y, ↓bo_n, ↓bp_y, ↓bp_n, ↓forall_eq, ↓within_y, ↓within_n, ↓isIn_y, ↓isIn_n, and_true, true_and, and_self, us_at, us_ne, w32_id, um_eq, um_ne, um_um, uu_eq, uu_ne, uu_uu, vv_eq, vv_ne, vv_vv, ne_eq, not_false_eq_true, not_true_eq_false, reduceCtorEq, Int.reduceAdd, Int.reduceSub, Int.reduceMul, Int.reduceNeg, Nat.reduceEqDiff, or_true, true_or, true_implies, false_implies, Int.reduceLT, Int.reduceLE, Int.reduceEq]
      exact q
    · rw [mX12_arePassed_L7]
      rw [if_pos (by omega)] at q
      simp (disch := first | omega | decide) only [w32_id, ↓rh_rcv, ↓rh_g0, ↓rh_r70, ↓rh_w70, ↓be_y, ↓be_n, ↓bf_y, ↓bf_n, ↓bl_y, ↓bl_n, ↓bm_y, ↓bm_n, ↓bg_y, ↓bg_n, ↓bs_y, ↓bs_n, ↓bo_y, ↓bo_n, ↓bp_y, ↓bp_n, ↓forall_eq, ↓within_y, ↓within_n, ↓isIn_y, ↓isIn_n, and_true, true_and, and_self, us_at, us_ne, w32_id, um_eq, um_ne, um_um, uu_eq, uu_ne, uu_uu, vv_eq, vv_ne, vv_vv, ne_eq, not_false_eq_true, not_true_eq_false, reduceCtorEq, Int.reduceAdd, Int.reduceSub, Int.reduceMul, Int.reduceNeg, Nat.reduceEqDiff, or_true, true_or, true_implies, false_implies, Int.reduceLT, Int.reduceLE, Int.reduceEq]
      exact q
  | succ k ih =>
    intro i v N u M h hi h0
    have y7 := (jY_d h.1.1).2.2.2.2.2.1
    have e0 := (jY_d h.1.1).1.1
    by_cases d : M 70 7 < 9999
    · obtain ⟨v1, K1, A1, k1, k2, k3, k4, k5⟩ := keep_b h
      have a7 : A1 7 = M 70 7 := k2 7 (by omega)
      obtain ⟨b, Y2, A2, b1, b2, b3, b4, b5, b6⟩ := ps1_12 (u := u) (M := um M 70 A1) (v := v1) (N := um N 14 K1) (T := T) k1.1.1 (by show A1 7 < 9999; omega) k1.2.2.2.2.1
      have r2 := Rel_u (x := u 24 + b) (Rel_y k1 b2 b3)
      obtain ⟨v', N', u', M', i1, i2, i3⟩ := ih (i + 1) _ _ _ _ r2 (by omega) (by omega)
      have e24 : uu u 24 (u 24 + b) 24 = u 24 + b := rfl
      have e7 : um (um M 70 A1) 70 A2 70 7 = M 70 7 + 1 := by
        show A2 7 = _
        rw [b4]
        show A1 7 + 1 = _
        omega
      rw [e24] at i2
      rw [e7] at i3
      refine ⟨v', N', u', M', ⟨i1.1, by rw [i1.2, um_eq, b3 1 (by omega), um_eq, k2 1 (by omega)]⟩, fun F Q q => ?_, fun F Q q => ?_⟩
      · rw [mX9_passHours_L4]
        simp (disch := first | omega | decide) only [mX10_hourCanPass, ↓kh_c9, ↓kh_g9_0, ↓kh_g9_1, ↓kh_c10, ↓kh_g10_0, ↓kh_g10_1, ↓kh_g10_2, ↓kh_g10_3, ↓kh_g10_4, ↓kh_g10_5, ↓kh_g10_6, ↓kh_g10_7, ↓kh_g10_8, ↓kh_g10_9, ↓kh_g10_10, ↓kh_g10_11, ↓kh_g10_12, ↓kh_p10_12, ↓kh_g10_13, ↓kh_p10_13, ↓kh_g10_14, ↓kh_p10_14, ↓kh_g10_15, ↓kh_p10_15, ↓kh_c11, ↓kh_g11_0, ↓kh_r12, ↓kh_w12, ↓kh_n12, ↓kh_c13, ↓kh_g13_0, ↓kh_g13_1, ↓kh_p13_1, ↓kh_g13_2, ↓kh_p13_2, ↓kh_cp12_33, ↓kh_cp12_68, ↓kh_cp12_12, ↓kh_cp12_14, ↓be_y, ↓be_n, ↓bf_y, ↓bf_n, ↓bl_y, ↓bl_n, ↓bm_y, ↓bm_n, ↓bg_y, ↓bg_n, ↓bs_y, ↓bs_n, ↓bo_y, ↓bo_n, ↓bp_y, ↓bp_n, ↓forall_eq, ↓within_y, ↓within_n, ↓isIn_y, ↓isIn_n, and_true, true_and, and_self, us_at, us_ne, w32_id, um_eq, um_ne, um_um, uu_eq, uu_ne, uu_uu, vv_eq, vv_ne, vv_vv, ne_eq, not_false_eq_true, not_true_eq_false, reduceCtorEq, Int.reduceAdd, Int.reduceSub, Int.reduceMul, Int.reduceNeg, Nat.reduceEqDiff, or_true, true_or, true_implies, false_implies, Int.reduceLT, Int.reduceLE, Int.reduceEq, e0]
        refine k4 _ _ ?_
        simp (disch := first | omega | decide) only [w32_id, ↓kh_c9, ↓kh_g9_0, ↓kh_g9_1, ↓kh_c10, ↓kh_g10_0, ↓kh_g10_1, ↓kh_g10_2, ↓kh_g10_3, ↓kh_g10_4, ↓kh_g10_5, ↓kh_g10_6, ↓kh_g10_7, ↓kh_g10_8, ↓kh_g10_9, ↓kh_g10_10, ↓kh_g10_11, ↓kh_g10_12, ↓kh_p10_12, ↓kh_g10_13, ↓kh_p10_13, ↓kh_g10_14, ↓kh_p10_14, ↓kh_g10_15, ↓kh_p10_15, ↓kh_c11, ↓kh_g11_0, ↓be_y, ↓be_n, ↓bf_y, ↓bf_n, ↓bl_y, ↓bl_n, ↓bm_y, ↓bm_n, ↓bg_y, ↓bg_n, ↓bs_y, ↓bs_n, ↓bo_y, ↓bo_n, ↓bp_y, ↓bp_n, ↓forall_eq, ↓within_y, ↓within_n, ↓isIn_y, ↓isIn_n, and_true, true_and, and_self, us_at, us_ne, w32_id, um_eq, um_ne, um_um, uu_eq, uu_ne, uu_uu, vv_eq, vv_ne, vv_vv, ne_eq, not_false_eq_true, not_true_eq_false, reduceCtorEq, Int.reduceAdd, Int.reduceSub, Int.reduceMul, Int.reduceNeg, Nat.reduceEqDiff, or_true, true_or, true_implies, false_implies, Int.reduceLT, Int.reduceLE, Int.reduceEq]
        refine b5 _ _ ?_
        exact i2 F Q q
      · rw [mX12_arePassed_L7]
        rw [show M 70 7 + ((k + 1 : Nat) : Int) = M 70 7 + 1 + k by omega] at q
        simp (disch := first | omega | decide) only [w32_id, ↓rh_rcv, ↓rh_g0, ↓rh_r70, ↓rh_w70, ↓be_y, ↓be_n, ↓bf_y, ↓bf_n, ↓bl_y, ↓bl_n, ↓bm_y, ↓bm_n, ↓bg_y, ↓bg_n, ↓bs_y, ↓bs_n, ↓bo_y, ↓bo_n, ↓bp_y, ↓bp_n, ↓forall_eq, ↓within_y, ↓within_n, ↓isIn_y, ↓isIn_n, and_true, true_and, and_self, us_at, us_ne, w32_id, um_eq, um_ne, um_um, uu_eq, uu_ne, uu_uu, vv_eq, vv_ne, vv_vv, ne_eq, not_false_eq_true, not_true_eq_false, reduceCtorEq, Int.reduceAdd, Int.reduceSub, Int.reduceMul, Int.reduceNeg, Nat.reduceEqDiff, or_true, true_or, true_implies, false_implies, Int.reduceLT, Int.reduceLE, Int.reduceEq]
        refine k5 _ _ ?_
        simp (disch := first | omega | decide) only [w32_id, ↓rh_rcv, ↓rh_g0, ↓rh_r70, ↓rh_w70, ↓be_y, ↓be_n, ↓bf_y, ↓bf_n, ↓bl_y, ↓bl_n, ↓bm_y, ↓bm_n, ↓bg_y, ↓bg_n, ↓bs_y, ↓bs_n, ↓bo_y, ↓bo_n, ↓bp_y, ↓bp_n, ↓forall_eq, ↓within_y, ↓within_n, ↓isIn_y, ↓isIn_n, and_true, true_and, and_self, us_at, us_ne, w32_id, um_eq, um_ne, um_um, uu_eq, uu_ne, uu_uu, vv_eq, vv_ne, vv_vv, ne_eq, not_false_eq_true, not_true_eq_false, reduceCtorEq, Int.reduceAdd, Int.reduceSub, Int.reduceMul, Int.reduceNeg, Nat.reduceEqDiff, or_true, true_or, true_implies, false_implies, Int.reduceLT, Int.reduceLE, Int.reduceEq]
        refine b6 _ _ ?_
        exact i3 F Q q
    · refine ⟨v, N, u, M, ⟨h, rfl⟩, fun F Q q => ?_, fun F Q q => ?_⟩
      · rw [mX9_passHours_L4]
        simp (disch := first | omega | decide) only [mX10_hourCanPass, ↓kh_c9, ↓kh_g9_0, ↓kh_g9_1, ↓kh_c10, ↓kh_g10_0, ↓kh_g10_1, ↓kh_g10_2, ↓kh_g10_3, ↓kh_g10_4, ↓kh_g10_5, ↓kh_g10_6, ↓kh_g10_7, ↓kh_g10_8, ↓kh_g10_9, ↓kh_g10_10, ↓kh_g10_11, ↓kh_g10_12, ↓kh_p10_12, ↓kh_g10_13, ↓kh_p10_13, ↓kh_g10_14, ↓kh_p10_14, ↓kh_g10_15, ↓kh_p10_15, ↓kh_c11, ↓kh_g11_0, ↓kh_r12, ↓kh_w12, ↓kh_n12, ↓kh_cp12_33, ↓kh_cp12_68, ↓kh_cp12_12, ↓kh_cp12_14, ↓be_y, ↓be_n, ↓bf_y, ↓bf_n, ↓bl_y, ↓bl_n, ↓bm_y, ↓bm_n, ↓bg_y, ↓bg_n, ↓bs_y, ↓bs_n, ↓bo_y, ↓bo_n, ↓bp_y, ↓bp_n, ↓forall_eq, ↓within_y, ↓within_n, ↓isIn_y, ↓isIn_n, and_true, true_and, and_self, us_at, us_ne, w32_id, um_eq, um_ne, um_um, uu_eq, uu_ne, uu_uu, vv_eq, vv_ne, vv_vv, ne_eq, not_false_eq_true, not_true_eq_false, reduceCtorEq, Int.reduceAdd, Int.reduceSub, Int.reduceMul, Int.reduceNeg, Nat.reduceEqDiff, or_true, true_or, true_implies, false_implies, Int.reduceLT, Int.reduceLE, Int.reduceEq, e0]
        exact q
      · rw [mX12_arePassed_L7]
        rw [if_neg (by omega)] at q
        simp (disch := first | omega | decide) only [w32_id, ↓rh_rcv, ↓rh_g0, ↓rh_r70, ↓rh_w70, ↓be_y, ↓be_n, ↓bf_y, ↓bf_n, ↓bl_y, ↓bl_n, ↓bm_y, ↓bm_n, ↓bg_y, ↓bg_n, ↓bs_y, ↓bs_n, ↓bo_y, ↓bo_n, ↓bp_y, ↓bp_n, ↓forall_eq, ↓within_y, ↓within_n, ↓isIn_y, ↓isIn_n, and_true, true_and, and_self, us_at, us_ne, w32_id, um_eq, um_ne, um_um, uu_eq, uu_ne, uu_uu, vv_eq, vv_ne, vv_vv, ne_eq, not_false_eq_true, not_true_eq_false, reduceCtorEq, Int.reduceAdd, Int.reduceSub, Int.reduceMul, Int.reduceNeg, Nat.reduceEqDiff, or_true, true_or, true_implies, false_implies, Int.reduceLT, Int.reduceLE, Int.reduceEq]
        exact q
set_option maxHeartbeats 4000000 in
theorem forbid_x {G : hp} {v : Nat → Nat → Int} {N : Nat → Int → Int} {T : Nat → Int → Option Nat} {u : Nat → Int} {M : Nat → Int → Int} (h : Rel n G v N T u M) (c : (0 ≤ x1 ∧ x1 ≤ 3) ∧ 0 ≤ x2 ∧ x2 ≤ 3) : ∃ r v' N' u' M', ((r : Int) = 1 ∧ M' 70 1 = M 70 1) ∧ Rel n G v' N' T u' M' ∧ (∀ (F : hp) (Q : Int → hp → Prop), Q r (kh F v' N' T) → mX5_setForbidden 10 x1 x2 1 (kh F v N T) Q) ∧ (∀ (F : hp) (Q : Int → hp → Prop), Q r (rh F u' M') → mX12_forbid 69 x1 x2 1 (rh F u M) Q) := by
  obtain ⟨⟨hY, hK, hC, hF, hB, hT, hS, hD, hX, hG⟩, hI, hM, hL, hW, hH, hN⟩ := id h
  have hc := jY_c hY
  · obtain ⟨f0, f1⟩ := hF
    have a1 := f1 x1 (by omega) (by omega)
    have a2 := f1 x2 (by omega) (by omega)
    have s1 := shl1_b (j := 4 * x1 + x2) (by omega)
    have s2 := shl1_b (j := 4 * x2 + x1) (by omega)
    have s3 := shl1_b (j := x1) (by omega)
    have s4 := shl1_b (j := x2) (by omega)
    have p1 : iShl 1 (4 * x1 + x2) < ((2 ^ 16 : Nat) : Int) := by
      obtain ⟨a, ha⟩ := Int.eq_ofNat_of_zero_le (show 0 ≤ 4 * x1 + x2 by omega)
      rw [ha, shl_p a (by omega) (by omega) (by have := Nat.pow_lt_pow_right (a := 2) (by decide) (show a < 31 by omega); omega)]
      have := Nat.pow_lt_pow_right (a := 2) (by decide) (show a < 16 by omega)
      omega
    have p2 : iShl 1 (4 * x2 + x1) < ((2 ^ 16 : Nat) : Int) := by
      obtain ⟨a, ha⟩ := Int.eq_ofNat_of_zero_le (show 0 ≤ 4 * x2 + x1 by omega)
      rw [ha, shl_p a (by omega) (by omega) (by have := Nat.pow_lt_pow_right (a := 2) (by decide) (show a < 31 by omega); omega)]
      have := Nat.pow_lt_pow_right (a := 2) (by decide) (show a < 16 by omega)
      omega
    have p3 : iShl 1 x1 < ((2 ^ 4 : Nat) : Int) := by
      obtain ⟨a, ha⟩ := Int.eq_ofNat_of_zero_le c.1.1
      rw [ha, shl_p a (by omega) (by omega) (by have := Nat.pow_lt_pow_right (a := 2) (by decide) (show a < 31 by omega); omega)]
      have := Nat.pow_lt_pow_right (a := 2) (by decide) (show a < 4 by omega)
      omega
    have p4 : iShl 1 x2 < ((2 ^ 4 : Nat) : Int) := by
      obtain ⟨a, ha⟩ := Int.eq_ofNat_of_zero_le c.2.1
      rw [ha, shl_p a (by omega) (by omega) (by have := Nat.pow_lt_pow_right (a := 2) (by decide) (show a < 31 by omega); omega)]
      have := Nat.pow_lt_pow_right (a := 2) (by decide) (show a < 4 by omega)
      omega
    have ob := or_b 16 (by decide) ⟨s1.1, p1⟩ ⟨s2.1, p2⟩
    have e16 : ((2 ^ 16 : Nat) : Int) = 65536 := by decide
    have e4 : ((2 ^ 4 : Nat) : Int) = 16 := by decide
    rw [e16] at p1 p2
    rw [e4] at p3 p4
    have ob' := ob
    rw [e16] at ob'
    · have o1 := or_b 16 (by decide) (x := v 10 15) (y := iOr (iShl 1 (4 * x1 + x2)) (iShl 1 (4 * x2 + x1))) (by omega) ob
      refine ⟨1, vv v 10 15 (iOr (v 10 15) (iOr (iShl 1 (4 * x1 + x2)) (iShl 1 (4 * x2 + x1)))), N, u, um M 70 (us (us (M 70) (56 + x1) (iOr (M 70 (56 + x1)) (iShl 1 x2))) (56 + x2) (iOr (us (M 70) (56 + x1) (iOr (M 70 (56 + x1)) (iShl 1 x2)) (56 + x2)) (iShl 1 x1))), ⟨rfl, by simp (disch := omega) only [um_eq, us_ne]⟩, ⟨⟨jY_A (fun i hi => by simp (disch := omega) only [um_eq, um_ne, us_ne]) hY, jK_A (fun i hi => by simp (disch := omega) only [um_eq, um_ne, us_ne]) hK, jC_A (fun i hi => by simp (disch := omega) only [um_eq, um_ne, us_ne]) hC, ⟨?_, fun k g0 g1 => ?_⟩, jB_A (fun i hi => by simp (disch := omega) only [um_eq, um_ne, us_ne]) hB, jT_A (fun i hi => by simp (disch := omega) only [um_eq, um_ne, us_ne]) hT, jS_A (fun i hi => by simp (disch := omega) only [um_eq, um_ne, us_ne]) hS, jD_A (fun i hi => by simp (disch := omega) only [um_eq, um_ne, us_ne]) hD, jX_A (fun i hi => by simp (disch := omega) only [um_eq, um_ne, us_ne]) hX, jG_A (by simp (disch := omega) only [um_eq, um_ne, us_ne]) hG⟩, hI, ⟨by simp (disch := omega) only [um_eq, um_ne, us_ne]; exact hM.1, by simp (disch := omega) only [um_eq, um_ne, us_ne]; exact hM.2⟩, hL, hW, hH, hN⟩, fun F Q q => ?_, fun F Q q => ?_⟩
      · simp (disch := omega) only [vv_eq, uu_eq]
        rw [e16] at o1
        exact o1
      · have a3 := f1 k g0 g1
        have b1 := or_b 4 (by decide) (x := M 70 (56 + x1)) (y := iShl 1 x2) (by omega) (by omega)
        have b2 := or_b 4 (by decide) (x := M 70 (56 + x2)) (y := iShl 1 x1) (by omega) (by omega)
        have b3 := or_b 4 (by decide) (x := iOr (M 70 (56 + x1)) (iShl 1 x2)) (y := iShl 1 x1) b1 (by omega)
        rw [e4] at b1 b2 b3
        simp only [um_eq, vv_eq, uu_eq]
        by_cases d1 : x1 = x2
        · subst d1
          by_cases d2 : k = x1
          · subst d2
            simp (disch := omega) only [us_at]
            refine ⟨by omega, fun l g2 g3 => ?_⟩
            simp (disch := omega) only [tb_or, tb_one]
            rw [a3.2 l g2 g3]
            by_cases d3 : k = l
            · subst d3; simp
            · simp [d3, show ¬ (4 * k + k = 4 * k + l) by omega]
          · simp (disch := omega) only [us_ne]
            refine ⟨a3.1, fun l g2 g3 => ?_⟩
            simp (disch := omega) only [tb_or, tb_one]
            rw [a3.2 l g2 g3]
            simp [show ¬ (4 * x1 + x1 = 4 * k + l) by omega]
        · by_cases d2 : k = x1
          · subst d2
            simp (disch := omega) only [us_at, us_ne]
            refine ⟨by omega, fun l g2 g3 => ?_⟩
            simp (disch := omega) only [tb_or, tb_one]
            rw [a3.2 l g2 g3]
            by_cases d3 : x2 = l
            · subst d3; simp
            · simp [d3, show ¬ (4 * k + x2 = 4 * k + l) by omega, show ¬ (4 * x2 + k = 4 * k + l) by omega]
          · by_cases d4 : k = x2
            · subst d4
              simp (disch := omega) only [us_at, us_ne]
              refine ⟨by omega, fun l g2 g3 => ?_⟩
              simp (disch := omega) only [tb_or, tb_one]
              rw [a3.2 l g2 g3]
              by_cases d3 : x1 = l
              · subst d3; simp
              · simp [d3, show ¬ (4 * k + x1 = 4 * k + l) by omega, show ¬ (4 * x1 + k = 4 * k + l) by omega]
            · simp (disch := omega) only [us_ne]
              refine ⟨a3.1, fun l g2 g3 => ?_⟩
              simp (disch := omega) only [tb_or, tb_one]
              rw [a3.2 l g2 g3]
              simp [show ¬ (4 * x1 + x2 = 4 * k + l) by omega, show ¬ (4 * x2 + x1 = 4 * k + l) by omega]
      · simp (disch := omega) only [mX5_setForbidden, mX5_setForbidden_J41, kh_c8, kh_g8_0, kh_g8_1, kh_g8_2, kh_g8_3, kh_g8_4, kh_g8_5, kh_g8_6, kh_g8_7, kh_c10, kh_g10_0, kh_g10_1, kh_g10_2, kh_g10_3, kh_g10_4, kh_g10_5, kh_g10_6, kh_g10_7, kh_g10_8, kh_g10_9, kh_g10_10, kh_g10_11, kh_g10_12, kh_p10_12, kh_g10_13, kh_p10_13, kh_g10_14, kh_p10_14, kh_g10_15, kh_p10_15, ↓i_pos, ↓i_neg, and_true, true_and, and_self, w32_id, us_at, us_ne, um_eq, um_ne, um_um, uu_eq, uu_ne, uu_uu, vv_eq, vv_ne, vv_vv, forall_eq, within_y, within_n, isIn_y, isIn_n, ne_eq, not_false_eq_true, not_true_eq_false, reduceCtorEq, Int.reduceAdd, Int.reduceSub, Int.reduceMul, Int.reduceNeg, Nat.reduceEqDiff, or_true, true_or, true_implies, false_implies, Int.reduceLT, Int.reduceLE, Int.reduceEq, iMax_l, iMax_r, iMin_l, iMin_r]
        exact q
      · simp (disch := omega) only [mX12_forbid, mX12_forbidOne, rh_rcv, rh_g0, rh_r70, rh_w70, ↓i_pos, ↓i_neg, and_true, true_and, and_self, w32_id, us_at, us_ne, um_eq, um_ne, um_um, uu_eq, uu_ne, uu_uu, vv_eq, vv_ne, vv_vv, forall_eq, within_y, within_n, isIn_y, isIn_n, ne_eq, not_false_eq_true, not_true_eq_false, reduceCtorEq, Int.reduceAdd, Int.reduceSub, Int.reduceMul, Int.reduceNeg, Nat.reduceEqDiff, or_true, true_or, true_implies, false_implies, Int.reduceLT, Int.reduceLE, Int.reduceEq, iMax_l, iMax_r, iMin_l, iMin_r]
        exact q
end PX
def swc (x2 x5 x8 : Int) (F7 : hp) (Q : Int → hp → Prop) : Prop := (w32 x8 = 0 → rcv F7 (some 9) 9 (fun o12 => mX9_passHoursThatCan o12 x2 F7 (fun x11 F10 => (((x11 : Int) = 0 ∨ (x11 : Int) = 1) ∧ Q x11 F10)))) ∧ (w32 x8 = 1 → Q 1 F7) ∧ (w32 x8 = 2 → Q 1 F7) ∧ (w32 x8 = 3 → Q 1 F7) ∧ (w32 x8 = 4 → Q 1 F7) ∧ (w32 x8 = 5 → Q 1 F7) ∧ (w32 x8 = 6 → Q 1 F7) ∧ (w32 x8 = 7 → Q 1 F7) ∧ (w32 x8 = 8 → Q 1 F7) ∧ (w32 x8 = 9 → Q 1 F7) ∧ (w32 x8 = 10 → Q 1 F7) ∧ (w32 x8 = 11 → Q 1 F7) ∧ (w32 x8 = 12 → Q 1 F7) ∧ (w32 x8 = 13 → gR F7 (some 9) 9 0 (fun x13 => rcv F7 x13 5 (fun o16 => mX5_addCar o16 x2 x5 F7 (fun x15 F14 => (w32 x15 = (-1) → Q 0 F14) ∧ (¬ w32 x15 = (-1) → Q 1 F14))))) ∧ (w32 x8 = 14 → gR F7 (some 9) 9 0 (fun x17 => rcv F7 x17 5 (fun o20 => mX5_setForbidden o20 x2 x5 1 F7 (fun x19 F18 => (((x19 : Int) = 0 ∨ (x19 : Int) = 1) ∧ Q x19 F18))))) ∧ (w32 x8 = 15 → rcv F7 (some 9) 9 (fun o23 => mX9_shift o23 x2 x5 1 F7 (fun x22 F21 => (w32 x22 = (-1) → Q 0 F21) ∧ (¬ w32 x22 = (-1) → Q 1 F21)))) ∧ (w32 x8 = 16 → rcv F7 (some 9) 9 (fun o26 => mX9_swapFeet o26 1 F7 (fun x25 F24 => (w32 x25 = (-1) → Q 0 F24) ∧ (¬ w32 x25 = (-1) → Q 1 F24)))) ∧ (w32 x8 = 17 → rcv F7 (some 9) 9 (fun o29 => mX9_lendWheels o29 x5 x2 F7 (fun x28 F27 => (((x28 : Int) = 0 ∨ (x28 : Int) = 1) ∧ Q x28 F27)))) ∧ (w32 x8 < 0 ∨ 17 < w32 x8 → Q 1 F7)
section PY
variable {n x1 x2 : Int} {G : hp} {v : Nat → Nat → Int} {N : Nat → Int → Int} {T : Nat → Int → Option Nat} {u : Nat → Int} {M : Nat → Int → Int}
theorem pc_c {F : hp} {h hc : Nat} {fs : List av} {nc j : Int} {fc : Int → Int} (hF : ∀ h, 87 ≤ h → F h = G h) (g1 : G h = some (cO 8 fs)) (gf : fs[0]? = some (vr (some hc))) (r2 : 87 ≤ h) (r3 : 87 ≤ hc) (g2 : G hc = some (cA 0 (3 * nc) fc)) (hn : nc ≤ 24) (hj : 0 ≤ j ∧ j < nc) {Q : Int → hp → Prop} (q : swc (fc (3 * j + 1)) (fc (3 * j + 2)) (fc (3 * j + 0)) (kh F v N T) Q) : mX9_playClause 9 (some h) j (kh F v N T) Q := by
  have a1 := hF h r2
  have a2 := hF hc r3
  rw [g1] at a1
  rw [g2] at a2
  unfold mX9_playClause
  rw [kt_c a1 r2]
  unfold mX8_clausePart
  rw [kt_g (x := some hc) a1 r2 gf, kt_r a2 r3 (by omega) (by omega) (by omega)]
  try dsimp only
  rw [kt_c a1 r2, kt_g (x := some hc) a1 r2 gf, kt_r a2 r3 (by omega) (by omega) (by omega)]
  try dsimp only
  rw [kt_c a1 r2, kt_g (x := some hc) a1 r2 gf, kt_r a2 r3 (by omega) (by omega) (by omega)]
  exact q
set_option maxHeartbeats 4000000 in
theorem play_b (h : Rel n G v N T u M) {k0 j nc : Int} {fc : Int → Int} (hk : 0 ≤ k0 ∧ k0 < 4) (hj : 0 ≤ j ∧ j < nc ∧ nc ≤ 24) (cl : clok fc (M 72) k0 j) : ∃ b v' N' u' M', (b = 0 ∨ b = 1) ∧ (Rel n G v' N' T u' M' ∧ M' 70 1 = M 70 1) ∧ (∀ (F : hp) (Q : Int → hp → Prop), (∀ h, 87 ≤ h → F h = G h) → Q b (kh F v' N' T) → swc (fc (3 * j + 1)) (fc (3 * j + 2)) (fc (3 * j + 0)) (kh F v N T) Q) ∧ (∀ (F : hp) (Q : Int → hp → Prop), Q b (rh F u' M') → mX12_isPlayed 69 (681 * k0 + 1 + 3 * j) (rh F u M) Q) := by
  obtain ⟨s0, s1, s2⟩ := cl
  have e0 := (jY_d h.1.1).1.1
  have y7 := (jY_d h.1.1).2.2.2.2.2.1
  rw [show 3 * j + 0 = 3 * j by omega]
  generalize hs : M 72 (681 * k0 + 1 + 3 * j) = s at s0 s1 s2
  generalize ha : M 72 (681 * k0 + 1 + 3 * j + 1) = a at s2
  generalize hb : M 72 (681 * k0 + 1 + 3 * j + 2) = b at s2
  generalize fc (3 * j) = z at s1
  generalize fc (3 * j + 1) = a' at s2
  generalize fc (3 * j + 2) = b' at s2
  by_cases c0 : s < 2
  · rw [if_neg (by omega)] at s1
    have c1 : s = 0 ∨ s = 1 := by omega
    clear s2
    refine ⟨1, v, N, u, M, .inr rfl, ⟨h, rfl⟩, fun F Q hF q => ?_, fun F Q q => ?_⟩
    · rcases c1 with rfl | rfl
      · subst s1
        simp (disch := first | omega | decide) only [swc, ↓kh_c9, ↓kh_g9_0, ↓kh_g9_1, ↓be_y, ↓be_n, ↓bf_y, ↓bf_n, ↓bl_y, ↓bl_n, ↓bm_y, ↓bm_n, ↓bg_y, ↓bg_n, ↓bs_y, ↓bs_n, ↓bo_y, ↓bo_n, ↓bp_y, ↓bp_n, ↓forall_eq, ↓within_y, ↓within_n, ↓isIn_y, ↓isIn_n, and_true, true_and, and_self, us_at, us_ne, w32_id, um_eq, um_ne, um_um, uu_eq, uu_ne, uu_uu, vv_eq, vv_ne, vv_vv, ne_eq, not_false_eq_true, not_true_eq_false, reduceCtorEq, Int.reduceAdd, Int.reduceSub, Int.reduceMul, Int.reduceNeg, Nat.reduceEqDiff, or_true, true_or, true_implies, false_implies, Int.reduceLT, Int.reduceLE, Int.reduceEq]
        exact q
      · subst s1
        simp (disch := first | omega | decide) only [swc, ↓kh_c9, ↓kh_g9_0, ↓kh_g9_1, ↓be_y, ↓be_n, ↓bf_y, ↓bf_n, ↓bl_y, ↓bl_n, ↓bm_y, ↓bm_n, ↓bg_y, ↓bg_n, ↓bs_y, ↓bs_n, ↓bo_y, ↓bo_n, ↓bp_y, ↓bp_n, ↓forall_eq, ↓within_y, ↓within_n, ↓isIn_y, ↓isIn_n, and_true, true_and, and_self, us_at, us_ne, w32_id, um_eq, um_ne, um_um, uu_eq, uu_ne, uu_uu, vv_eq, vv_ne, vv_vv, ne_eq, not_false_eq_true, not_true_eq_false, reduceCtorEq, Int.reduceAdd, Int.reduceSub, Int.reduceMul, Int.reduceNeg, Nat.reduceEqDiff, or_true, true_or, true_implies, false_implies, Int.reduceLT, Int.reduceLE, Int.reduceEq]
        exact q
    · simp (disch := first | omega | decide) only [mX12_isPlayed, ↓rh_rcv, ↓rh_g0, ↓rh_g2, ↓rh_r72, ↓rh_w72, ↓be_y, ↓be_n, ↓bf_y, ↓bf_n, ↓bl_y, ↓bl_n, ↓bm_y, ↓bm_n, ↓bg_y, ↓bg_n, ↓bs_y, ↓bs_n, ↓bo_y, ↓bo_n, ↓bp_y, ↓bp_n, ↓forall_eq, ↓within_y, ↓within_n, ↓isIn_y, ↓isIn_n, and_true, true_and, and_self, us_at, us_ne, w32_id, um_eq, um_ne, um_um, uu_eq, uu_ne, uu_uu, vv_eq, vv_ne, vv_vv, ne_eq, not_false_eq_true, not_true_eq_false, reduceCtorEq, Int.reduceAdd, Int.reduceSub, Int.reduceMul, Int.reduceNeg, Nat.reduceEqDiff, or_true, true_or, true_implies, false_implies, Int.reduceLT, Int.reduceLE, Int.reduceEq, hs, ha, hb]
      exact q
  by_cases c5 : s = 5
  · clear s2
    subst c5
    rw [if_neg (by omega)] at s1
    subst s1
    obtain ⟨r, v', N', M', ⟨r0, r1⟩, k1, k2, k3⟩ := change_b h
    by_cases d : r = -1
    · refine ⟨0, v', N', u, M', .inl rfl, ⟨k1, r1⟩, fun F Q hF q => ?_, fun F Q q => ?_⟩
      · simp (disch := first | omega | decide) only [swc, ↓kh_c9, ↓kh_g9_0, ↓kh_g9_1, ↓be_y, ↓be_n, ↓bf_y, ↓bf_n, ↓bl_y, ↓bl_n, ↓bm_y, ↓bm_n, ↓bg_y, ↓bg_n, ↓bs_y, ↓bs_n, ↓bo_y, ↓bo_n, ↓bp_y, ↓bp_n, ↓forall_eq, ↓within_y, ↓within_n, ↓isIn_y, ↓isIn_n, and_true, true_and, and_self, us_at, us_ne, w32_id, um_eq, um_ne, um_um, uu_eq, uu_ne, uu_uu, vv_eq, vv_ne, vv_vv, ne_eq, not_false_eq_true, not_true_eq_false, reduceCtorEq, Int.reduceAdd, Int.reduceSub, Int.reduceMul, Int.reduceNeg, Nat.reduceEqDiff, or_true, true_or, true_implies, false_implies, Int.reduceLT, Int.reduceLE, Int.reduceEq]
        refine k2 F _ hF ?_
        simp (disch := first | omega | decide) only [w32_id, ↓kh_c9, ↓kh_g9_0, ↓kh_g9_1, ↓be_y, ↓be_n, ↓bf_y, ↓bf_n, ↓bl_y, ↓bl_n, ↓bm_y, ↓bm_n, ↓bg_y, ↓bg_n, ↓bs_y, ↓bs_n, ↓bo_y, ↓bo_n, ↓bp_y, ↓bp_n, ↓forall_eq, ↓within_y, ↓within_n, ↓isIn_y, ↓isIn_n, and_true, true_and, and_self, us_at, us_ne, w32_id, um_eq, um_ne, um_um, uu_eq, uu_ne, uu_uu, vv_eq, vv_ne, vv_vv, ne_eq, not_false_eq_true, not_true_eq_false, reduceCtorEq, Int.reduceAdd, Int.reduceSub, Int.reduceMul, Int.reduceNeg, Nat.reduceEqDiff, or_true, true_or, true_implies, false_implies, Int.reduceLT, Int.reduceLE, Int.reduceEq]
        exact q
      · simp (disch := first | omega | decide) only [mX12_isPlayed, ↓rh_rcv, ↓rh_g0, ↓rh_g2, ↓rh_r72, ↓rh_w72, ↓be_y, ↓be_n, ↓bf_y, ↓bf_n, ↓bl_y, ↓bl_n, ↓bm_y, ↓bm_n, ↓bg_y, ↓bg_n, ↓bs_y, ↓bs_n, ↓bo_y, ↓bo_n, ↓bp_y, ↓bp_n, ↓forall_eq, ↓within_y, ↓within_n, ↓isIn_y, ↓isIn_n, and_true, true_and, and_self, us_at, us_ne, w32_id, um_eq, um_ne, um_um, uu_eq, uu_ne, uu_uu, vv_eq, vv_ne, vv_vv, ne_eq, not_false_eq_true, not_true_eq_false, reduceCtorEq, Int.reduceAdd, Int.reduceSub, Int.reduceMul, Int.reduceNeg, Nat.reduceEqDiff, or_true, true_or, true_implies, false_implies, Int.reduceLT, Int.reduceLE, Int.reduceEq, hs, ha, hb]
        refine k3 F _ ?_
        simp (disch := first | omega | decide) only [w32_id, ↓rh_rcv, ↓rh_g0, ↓be_y, ↓be_n, ↓bf_y, ↓bf_n, ↓bl_y, ↓bl_n, ↓bm_y, ↓bm_n, ↓bg_y, ↓bg_n, ↓bs_y, ↓bs_n, ↓bo_y, ↓bo_n, ↓bp_y, ↓bp_n, ↓forall_eq, ↓within_y, ↓within_n, ↓isIn_y, ↓isIn_n, and_true, true_and, and_self, us_at, us_ne, w32_id, um_eq, um_ne, um_um, uu_eq, uu_ne, uu_uu, vv_eq, vv_ne, vv_vv, ne_eq, not_false_eq_true, not_true_eq_false, reduceCtorEq, Int.reduceAdd, Int.reduceSub, Int.reduceMul, Int.reduceNeg, Nat.reduceEqDiff, or_true, true_or, true_implies, false_implies, Int.reduceLT, Int.reduceLE, Int.reduceEq]
        exact q
    · refine ⟨1, v', N', u, M', .inr rfl, ⟨k1, r1⟩, fun F Q hF q => ?_, fun F Q q => ?_⟩
      · simp (disch := first | omega | decide) only [swc, ↓kh_c9, ↓kh_g9_0, ↓kh_g9_1, ↓be_y, ↓be_n, ↓bf_y, ↓bf_n, ↓bl_y, ↓bl_n, ↓bm_y, ↓bm_n, ↓bg_y, ↓bg_n, ↓bs_y, ↓bs_n, ↓bo_y, ↓bo_n, ↓bp_y, ↓bp_n, ↓forall_eq, ↓within_y, ↓within_n, ↓isIn_y, ↓isIn_n, and_true, true_and, and_self, us_at, us_ne, w32_id, um_eq, um_ne, um_um, uu_eq, uu_ne, uu_uu, vv_eq, vv_ne, vv_vv, ne_eq, not_false_eq_true, not_true_eq_false, reduceCtorEq, Int.reduceAdd, Int.reduceSub, Int.reduceMul, Int.reduceNeg, Nat.reduceEqDiff, or_true, true_or, true_implies, false_implies, Int.reduceLT, Int.reduceLE, Int.reduceEq]
        refine k2 F _ hF ?_
        simp (disch := first | omega | decide) only [w32_id, ↓kh_c9, ↓kh_g9_0, ↓kh_g9_1, ↓be_y, ↓be_n, ↓bf_y, ↓bf_n, ↓bl_y, ↓bl_n, ↓bm_y, ↓bm_n, ↓bg_y, ↓bg_n, ↓bs_y, ↓bs_n, ↓bo_y, ↓bo_n, ↓bp_y, ↓bp_n, ↓forall_eq, ↓within_y, ↓within_n, ↓isIn_y, ↓isIn_n, and_true, true_and, and_self, us_at, us_ne, w32_id, um_eq, um_ne, um_um, uu_eq, uu_ne, uu_uu, vv_eq, vv_ne, vv_vv, ne_eq, not_false_eq_true, not_true_eq_false, reduceCtorEq, Int.reduceAdd, Int.reduceSub, Int.reduceMul, Int.reduceNeg, Nat.reduceEqDiff, or_true, true_or, true_implies, false_implies, Int.reduceLT, Int.reduceLE, Int.reduceEq]
        exact q
      · simp (disch := first | omega | decide) only [mX12_isPlayed, ↓rh_rcv, ↓rh_g0, ↓rh_g2, ↓rh_r72, ↓rh_w72, ↓be_y, ↓be_n, ↓bf_y, ↓bf_n, ↓bl_y, ↓bl_n, ↓bm_y, ↓bm_n, ↓bg_y, ↓bg_n, ↓bs_y, ↓bs_n, ↓bo_y, ↓bo_n, ↓bp_y, ↓bp_n, ↓forall_eq, ↓within_y, ↓within_n, ↓isIn_y, ↓isIn_n, and_true, true_and, and_self, us_at, us_ne, w32_id, um_eq, um_ne, um_um, uu_eq, uu_ne, uu_uu, vv_eq, vv_ne, vv_vv, ne_eq, not_false_eq_true, not_true_eq_false, reduceCtorEq, Int.reduceAdd, Int.reduceSub, Int.reduceMul, Int.reduceNeg, Nat.reduceEqDiff, or_true, true_or, true_implies, false_implies, Int.reduceLT, Int.reduceLE, Int.reduceEq, hs, ha, hb]
        refine k3 F _ ?_
        simp (disch := first | omega | decide) only [w32_id, ↓rh_rcv, ↓rh_g0, ↓be_y, ↓be_n, ↓bf_y, ↓bf_n, ↓bl_y, ↓bl_n, ↓bm_y, ↓bm_n, ↓bg_y, ↓bg_n, ↓bs_y, ↓bs_n, ↓bo_y, ↓bo_n, ↓bp_y, ↓bp_n, ↓forall_eq, ↓within_y, ↓within_n, ↓isIn_y, ↓isIn_n, and_true, true_and, and_self, us_at, us_ne, w32_id, um_eq, um_ne, um_um, uu_eq, uu_ne, uu_uu, vv_eq, vv_ne, vv_vv, ne_eq, not_false_eq_true, not_true_eq_false, reduceCtorEq, Int.reduceAdd, Int.reduceSub, Int.reduceMul, Int.reduceNeg, Nat.reduceEqDiff, or_true, true_or, true_implies, false_implies, Int.reduceLT, Int.reduceLE, Int.reduceEq]
        exact q
  obtain ⟨t1, t2, t3, t4, t5, t6, t7⟩ := s2 (by omega) c5
  clear s2
  subst t1
  by_cases c7 : s = 7
  · subst c7
    rw [if_pos rfl] at s1
    subst s1
    have aa := t7 rfl
    clear t2 t3 t4 t5 t6 t7
    obtain ⟨v', N', u', M', ⟨k1, k4⟩, k2, k3⟩ := hours_x (x1 := a') (by omega) a'.toNat 0 v N (uu u 24 0) M (Rel_u h) (by omega) (by omega)
    have e24 : uu u 24 0 24 = 0 := rfl
    rw [e24] at k2
    by_cases d : M 70 7 + a' ≤ 9999
    · rw [if_pos (by omega)] at k3
      refine ⟨1, v', N', u', M', .inr rfl, ⟨k1, k4⟩, fun F Q hF q => ?_, fun F Q q => ?_⟩
      · simp (disch := first | omega | decide) only [swc, mX9_passHoursThatCan, mX9_passHoursThatCan_J23, mX10_hourNow, mX9_passHours, ↓kh_c9, ↓kh_g9_0, ↓kh_g9_1, ↓kh_c10, ↓kh_g10_0, ↓kh_g10_1, ↓kh_g10_2, ↓kh_g10_3, ↓kh_g10_4, ↓kh_g10_5, ↓kh_g10_6, ↓kh_g10_7, ↓kh_g10_8, ↓kh_g10_9, ↓kh_g10_10, ↓kh_g10_11, ↓kh_g10_12, ↓kh_p10_12, ↓kh_g10_13, ↓kh_p10_13, ↓kh_g10_14, ↓kh_p10_14, ↓kh_g10_15, ↓kh_p10_15, ↓kh_c11, ↓kh_g11_0, ↓kh_r12, ↓kh_w12, ↓kh_n12, ↓kh_cp12_33, ↓kh_cp12_68, ↓kh_cp12_12, ↓kh_cp12_14, ↓be_y, ↓be_n, ↓bf_y, ↓bf_n, ↓bl_y, ↓bl_n, ↓bm_y, ↓bm_n, ↓bg_y, ↓bg_n, ↓bs_y, ↓bs_n, ↓bo_y, ↓bo_n, ↓bp_y, ↓bp_n, ↓forall_eq, ↓within_y, ↓within_n, ↓isIn_y, ↓isIn_n, and_true, true_and, and_self, us_at, us_ne, w32_id, um_eq, um_ne, um_um, uu_eq, uu_ne, uu_uu, vv_eq, vv_ne, vv_vv, ne_eq, not_false_eq_true, not_true_eq_false, reduceCtorEq, Int.reduceAdd, Int.reduceSub, Int.reduceMul, Int.reduceNeg, Nat.reduceEqDiff, or_true, true_or, true_implies, false_implies, Int.reduceLT, Int.reduceLE, Int.reduceEq, e0]
        exact ⟨_, k2 F (fun _ F1 => Q 1 F1) q⟩
      · simp (disch := first | omega | decide) only [mX12_isPlayed, mX12_arePassed, ↓rh_rcv, ↓rh_g0, ↓rh_g2, ↓rh_g24, ↓rh_p24, ↓rh_r72, ↓rh_w72, ↓be_y, ↓be_n, ↓bf_y, ↓bf_n, ↓bl_y, ↓bl_n, ↓bm_y, ↓bm_n, ↓bg_y, ↓bg_n, ↓bs_y, ↓bs_n, ↓bo_y, ↓bo_n, ↓bp_y, ↓bp_n, ↓forall_eq, ↓within_y, ↓within_n, ↓isIn_y, ↓isIn_n, and_true, true_and, and_self, us_at, us_ne, w32_id, um_eq, um_ne, um_um, uu_eq, uu_ne, uu_uu, vv_eq, vv_ne, vv_vv, ne_eq, not_false_eq_true, not_true_eq_false, reduceCtorEq, Int.reduceAdd, Int.reduceSub, Int.reduceMul, Int.reduceNeg, Nat.reduceEqDiff, or_true, true_or, true_implies, false_implies, Int.reduceLT, Int.reduceLE, Int.reduceEq, hs, ha, hb]
        refine ⟨_, k3 F _ ?_⟩
        exact ⟨.inr rfl, q⟩
    · rw [if_neg (by omega)] at k3
      refine ⟨0, v', N', u', M', .inl rfl, ⟨k1, k4⟩, fun F Q hF q => ?_, fun F Q q => ?_⟩
      · simp (disch := first | omega | decide) only [swc, mX9_passHoursThatCan, mX9_passHoursThatCan_J23, mX10_hourNow, mX9_passHours, ↓kh_c9, ↓kh_g9_0, ↓kh_g9_1, ↓kh_c10, ↓kh_g10_0, ↓kh_g10_1, ↓kh_g10_2, ↓kh_g10_3, ↓kh_g10_4, ↓kh_g10_5, ↓kh_g10_6, ↓kh_g10_7, ↓kh_g10_8, ↓kh_g10_9, ↓kh_g10_10, ↓kh_g10_11, ↓kh_g10_12, ↓kh_p10_12, ↓kh_g10_13, ↓kh_p10_13, ↓kh_g10_14, ↓kh_p10_14, ↓kh_g10_15, ↓kh_p10_15, ↓kh_c11, ↓kh_g11_0, ↓kh_r12, ↓kh_w12, ↓kh_n12, ↓kh_cp12_33, ↓kh_cp12_68, ↓kh_cp12_12, ↓kh_cp12_14, ↓be_y, ↓be_n, ↓bf_y, ↓bf_n, ↓bl_y, ↓bl_n, ↓bm_y, ↓bm_n, ↓bg_y, ↓bg_n, ↓bs_y, ↓bs_n, ↓bo_y, ↓bo_n, ↓bp_y, ↓bp_n, ↓forall_eq, ↓within_y, ↓within_n, ↓isIn_y, ↓isIn_n, and_true, true_and, and_self, us_at, us_ne, w32_id, um_eq, um_ne, um_um, uu_eq, uu_ne, uu_uu, vv_eq, vv_ne, vv_vv, ne_eq, not_false_eq_true, not_true_eq_false, reduceCtorEq, Int.reduceAdd, Int.reduceSub, Int.reduceMul, Int.reduceNeg, Nat.reduceEqDiff, or_true, true_or, true_implies, false_implies, Int.reduceLT, Int.reduceLE, Int.reduceEq, e0]
        exact ⟨_, k2 F (fun _ F1 => Q 0 F1) q⟩
      · simp (disch := first | omega | decide) only [mX12_isPlayed, mX12_arePassed, ↓rh_rcv, ↓rh_g0, ↓rh_g2, ↓rh_g24, ↓rh_p24, ↓rh_r72, ↓rh_w72, ↓be_y, ↓be_n, ↓bf_y, ↓bf_n, ↓bl_y, ↓bl_n, ↓bm_y, ↓bm_n, ↓bg_y, ↓bg_n, ↓bs_y, ↓bs_n, ↓bo_y, ↓bo_n, ↓bp_y, ↓bp_n, ↓forall_eq, ↓within_y, ↓within_n, ↓isIn_y, ↓isIn_n, and_true, true_and, and_self, us_at, us_ne, w32_id, um_eq, um_ne, um_um, uu_eq, uu_ne, uu_uu, vv_eq, vv_ne, vv_vv, ne_eq, not_false_eq_true, not_true_eq_false, reduceCtorEq, Int.reduceAdd, Int.reduceSub, Int.reduceMul, Int.reduceNeg, Nat.reduceEqDiff, or_true, true_or, true_implies, false_implies, Int.reduceLT, Int.reduceLE, Int.reduceEq, hs, ha, hb]
        refine ⟨_, k3 F _ ?_⟩
        exact ⟨.inl rfl, q⟩
  rw [if_neg c7] at s1
  have tb := t2 c7
  subst tb
  clear t2 t7
  by_cases c2 : s = 2
  · subst c2
    subst s1
    have aa := t3 rfl
    clear t3 t4 t5 t6
    obtain ⟨r, N', M', ⟨r0, r1⟩, r2, k1, k2, k3⟩ := car_x h aa.1 aa.2
    by_cases d : r = -1
    · refine ⟨0, v, N', u, M', .inl rfl, ⟨k1, r1⟩, fun F Q hF q => ?_, fun F Q q => ?_⟩
      · simp (disch := first | omega | decide) only [swc, ↓kh_c9, ↓kh_g9_0, ↓kh_g9_1, ↓kh_c10, ↓kh_g10_0, ↓kh_g10_1, ↓kh_g10_2, ↓kh_g10_3, ↓kh_g10_4, ↓kh_g10_5, ↓kh_g10_6, ↓kh_g10_7, ↓kh_g10_8, ↓kh_g10_9, ↓kh_g10_10, ↓kh_g10_11, ↓kh_g10_12, ↓kh_p10_12, ↓kh_g10_13, ↓kh_p10_13, ↓kh_g10_14, ↓kh_p10_14, ↓kh_g10_15, ↓kh_p10_15, ↓be_y, ↓be_n, ↓bf_y, ↓bf_n, ↓bl_y, ↓bl_n, ↓bm_y, ↓bm_n, ↓bg_y, ↓bg_n, ↓bs_y, ↓bs_n, ↓bo_y, ↓bo_n, ↓bp_y, ↓bp_n, ↓forall_eq, ↓within_y, ↓within_n, ↓isIn_y, ↓isIn_n, and_true, true_and, and_self, us_at, us_ne, w32_id, um_eq, um_ne, um_um, uu_eq, uu_ne, uu_uu, vv_eq, vv_ne, vv_vv, ne_eq, not_false_eq_true, not_true_eq_false, reduceCtorEq, Int.reduceAdd, Int.reduceSub, Int.reduceMul, Int.reduceNeg, Nat.reduceEqDiff, or_true, true_or, true_implies, false_implies, Int.reduceLT, Int.reduceLE, Int.reduceEq]
        refine k2 F _ ?_
        simp (disch := first | omega | decide) only [w32_id, ↓kh_c9, ↓kh_g9_0, ↓kh_g9_1, ↓be_y, ↓be_n, ↓bf_y, ↓bf_n, ↓bl_y, ↓bl_n, ↓bm_y, ↓bm_n, ↓bg_y, ↓bg_n, ↓bs_y, ↓bs_n, ↓bo_y, ↓bo_n, ↓bp_y, ↓bp_n, ↓forall_eq, ↓within_y, ↓within_n, ↓isIn_y, ↓isIn_n, and_true, true_and, and_self, us_at, us_ne, w32_id, um_eq, um_ne, um_um, uu_eq, uu_ne, uu_uu, vv_eq, vv_ne, vv_vv, ne_eq, not_false_eq_true, not_true_eq_false, reduceCtorEq, Int.reduceAdd, Int.reduceSub, Int.reduceMul, Int.reduceNeg, Nat.reduceEqDiff, or_true, true_or, true_implies, false_implies, Int.reduceLT, Int.reduceLE, Int.reduceEq]
        exact q
      · simp (disch := first | omega | decide) only [mX12_isPlayed, ↓rh_rcv, ↓rh_g0, ↓rh_g2, ↓rh_r72, ↓rh_w72, ↓be_y, ↓be_n, ↓bf_y, ↓bf_n, ↓bl_y, ↓bl_n, ↓bm_y, ↓bm_n, ↓bg_y, ↓bg_n, ↓bs_y, ↓bs_n, ↓bo_y, ↓bo_n, ↓bp_y, ↓bp_n, ↓forall_eq, ↓within_y, ↓within_n, ↓isIn_y, ↓isIn_n, and_true, true_and, and_self, us_at, us_ne, w32_id, um_eq, um_ne, um_um, uu_eq, uu_ne, uu_uu, vv_eq, vv_ne, vv_vv, ne_eq, not_false_eq_true, not_true_eq_false, reduceCtorEq, Int.reduceAdd, Int.reduceSub, Int.reduceMul, Int.reduceNeg, Nat.reduceEqDiff, or_true, true_or, true_implies, false_implies, Int.reduceLT, Int.reduceLE, Int.reduceEq, hs, ha, hb]
        refine k3 F _ ?_
        simp (disch := first | omega | decide) only [w32_id, ↓rh_rcv, ↓rh_g0, ↓be_y, ↓be_n, ↓bf_y, ↓bf_n, ↓bl_y, ↓bl_n, ↓bm_y, ↓bm_n, ↓bg_y, ↓bg_n, ↓bs_y, ↓bs_n, ↓bo_y, ↓bo_n, ↓bp_y, ↓bp_n, ↓forall_eq, ↓within_y, ↓within_n, ↓isIn_y, ↓isIn_n, and_true, true_and, and_self, us_at, us_ne, w32_id, um_eq, um_ne, um_um, uu_eq, uu_ne, uu_uu, vv_eq, vv_ne, vv_vv, ne_eq, not_false_eq_true, not_true_eq_false, reduceCtorEq, Int.reduceAdd, Int.reduceSub, Int.reduceMul, Int.reduceNeg, Nat.reduceEqDiff, or_true, true_or, true_implies, false_implies, Int.reduceLT, Int.reduceLE, Int.reduceEq]
        exact q
    · refine ⟨1, v, N', u, M', .inr rfl, ⟨k1, r1⟩, fun F Q hF q => ?_, fun F Q q => ?_⟩
      · simp (disch := first | omega | decide) only [swc, ↓kh_c9, ↓kh_g9_0, ↓kh_g9_1, ↓kh_c10, ↓kh_g10_0, ↓kh_g10_1, ↓kh_g10_2, ↓kh_g10_3, ↓kh_g10_4, ↓kh_g10_5, ↓kh_g10_6, ↓kh_g10_7, ↓kh_g10_8, ↓kh_g10_9, ↓kh_g10_10, ↓kh_g10_11, ↓kh_g10_12, ↓kh_p10_12, ↓kh_g10_13, ↓kh_p10_13, ↓kh_g10_14, ↓kh_p10_14, ↓kh_g10_15, ↓kh_p10_15, ↓be_y, ↓be_n, ↓bf_y, ↓bf_n, ↓bl_y, ↓bl_n, ↓bm_y, ↓bm_n, ↓bg_y, ↓bg_n, ↓bs_y, ↓bs_n, ↓bo_y, ↓bo_n, ↓bp_y, ↓bp_n, ↓forall_eq, ↓within_y, ↓within_n, ↓isIn_y, ↓isIn_n, and_true, true_and, and_self, us_at, us_ne, w32_id, um_eq, um_ne, um_um, uu_eq, uu_ne, uu_uu, vv_eq, vv_ne, vv_vv, ne_eq, not_false_eq_true, not_true_eq_false, reduceCtorEq, Int.reduceAdd, Int.reduceSub, Int.reduceMul, Int.reduceNeg, Nat.reduceEqDiff, or_true, true_or, true_implies, false_implies, Int.reduceLT, Int.reduceLE, Int.reduceEq]
        refine k2 F _ ?_
        simp (disch := first | omega | decide) only [w32_id, ↓kh_c9, ↓kh_g9_0, ↓kh_g9_1, ↓be_y, ↓be_n, ↓bf_y, ↓bf_n, ↓bl_y, ↓bl_n, ↓bm_y, ↓bm_n, ↓bg_y, ↓bg_n, ↓bs_y, ↓bs_n, ↓bo_y, ↓bo_n, ↓bp_y, ↓bp_n, ↓forall_eq, ↓within_y, ↓within_n, ↓isIn_y, ↓isIn_n, and_true, true_and, and_self, us_at, us_ne, w32_id, um_eq, um_ne, um_um, uu_eq, uu_ne, uu_uu, vv_eq, vv_ne, vv_vv, ne_eq, not_false_eq_true, not_true_eq_false, reduceCtorEq, Int.reduceAdd, Int.reduceSub, Int.reduceMul, Int.reduceNeg, Nat.reduceEqDiff, or_true, true_or, true_implies, false_implies, Int.reduceLT, Int.reduceLE, Int.reduceEq]
        exact q
      · simp (disch := first | omega | decide) only [mX12_isPlayed, ↓rh_rcv, ↓rh_g0, ↓rh_g2, ↓rh_r72, ↓rh_w72, ↓be_y, ↓be_n, ↓bf_y, ↓bf_n, ↓bl_y, ↓bl_n, ↓bm_y, ↓bm_n, ↓bg_y, ↓bg_n, ↓bs_y, ↓bs_n, ↓bo_y, ↓bo_n, ↓bp_y, ↓bp_n, ↓forall_eq, ↓within_y, ↓within_n, ↓isIn_y, ↓isIn_n, and_true, true_and, and_self, us_at, us_ne, w32_id, um_eq, um_ne, um_um, uu_eq, uu_ne, uu_uu, vv_eq, vv_ne, vv_vv, ne_eq, not_false_eq_true, not_true_eq_false, reduceCtorEq, Int.reduceAdd, Int.reduceSub, Int.reduceMul, Int.reduceNeg, Nat.reduceEqDiff, or_true, true_or, true_implies, false_implies, Int.reduceLT, Int.reduceLE, Int.reduceEq, hs, ha, hb]
        refine k3 F _ ?_
        simp (disch := first | omega | decide) only [w32_id, ↓rh_rcv, ↓rh_g0, ↓be_y, ↓be_n, ↓bf_y, ↓bf_n, ↓bl_y, ↓bl_n, ↓bm_y, ↓bm_n, ↓bg_y, ↓bg_n, ↓bs_y, ↓bs_n, ↓bo_y, ↓bo_n, ↓bp_y, ↓bp_n, ↓forall_eq, ↓within_y, ↓within_n, ↓isIn_y, ↓isIn_n, and_true, true_and, and_self, us_at, us_ne, w32_id, um_eq, um_ne, um_um, uu_eq, uu_ne, uu_uu, vv_eq, vv_ne, vv_vv, ne_eq, not_false_eq_true, not_true_eq_false, reduceCtorEq, Int.reduceAdd, Int.reduceSub, Int.reduceMul, Int.reduceNeg, Nat.reduceEqDiff, or_true, true_or, true_implies, false_implies, Int.reduceLT, Int.reduceLE, Int.reduceEq]
        exact q
  by_cases c3 : s = 3
  · subst c3
    subst s1
    have aa := t4 rfl
    clear t3 t4 t5 t6
    obtain ⟨r, v', N', u', M', ⟨rfl, r1⟩, k1, k2, k3⟩ := forbid_x h (x1 := a') (x2 := b') ⟨aa.1, aa.2⟩
    refine ⟨1, v', N', u', M', .inr rfl, ⟨k1, r1⟩, fun F Q hF q => ?_, fun F Q q => ?_⟩
    · simp (disch := first | omega | decide) only [swc, ↓kh_c9, ↓kh_g9_0, ↓kh_g9_1, ↓kh_c10, ↓kh_g10_0, ↓kh_g10_1, ↓kh_g10_2, ↓kh_g10_3, ↓kh_g10_4, ↓kh_g10_5, ↓kh_g10_6, ↓kh_g10_7, ↓kh_g10_8, ↓kh_g10_9, ↓kh_g10_10, ↓kh_g10_11, ↓kh_g10_12, ↓kh_p10_12, ↓kh_g10_13, ↓kh_p10_13, ↓kh_g10_14, ↓kh_p10_14, ↓kh_g10_15, ↓kh_p10_15, ↓be_y, ↓be_n, ↓bf_y, ↓bf_n, ↓bl_y, ↓bl_n, ↓bm_y, ↓bm_n, ↓bg_y, ↓bg_n, ↓bs_y, ↓bs_n, ↓bo_y, ↓bo_n, ↓bp_y, ↓bp_n, ↓forall_eq, ↓within_y, ↓within_n, ↓isIn_y, ↓isIn_n, and_true, true_and, and_self, us_at, us_ne, w32_id, um_eq, um_ne, um_um, uu_eq, uu_ne, uu_uu, vv_eq, vv_ne, vv_vv, ne_eq, not_false_eq_true, not_true_eq_false, reduceCtorEq, Int.reduceAdd, Int.reduceSub, Int.reduceMul, Int.reduceNeg, Nat.reduceEqDiff, or_true, true_or, true_implies, false_implies, Int.reduceLT, Int.reduceLE, Int.reduceEq]
      refine k2 F _ ?_
      exact ⟨.inr rfl, q⟩
    · simp (disch := first | omega | decide) only [mX12_isPlayed, ↓rh_rcv, ↓rh_g0, ↓rh_g2, ↓rh_r72, ↓rh_w72, ↓be_y, ↓be_n, ↓bf_y, ↓bf_n, ↓bl_y, ↓bl_n, ↓bm_y, ↓bm_n, ↓bg_y, ↓bg_n, ↓bs_y, ↓bs_n, ↓bo_y, ↓bo_n, ↓bp_y, ↓bp_n, ↓forall_eq, ↓within_y, ↓within_n, ↓isIn_y, ↓isIn_n, and_true, true_and, and_self, us_at, us_ne, w32_id, um_eq, um_ne, um_um, uu_eq, uu_ne, uu_uu, vv_eq, vv_ne, vv_vv, ne_eq, not_false_eq_true, not_true_eq_false, reduceCtorEq, Int.reduceAdd, Int.reduceSub, Int.reduceMul, Int.reduceNeg, Nat.reduceEqDiff, or_true, true_or, true_implies, false_implies, Int.reduceLT, Int.reduceLE, Int.reduceEq, hs, ha, hb]
      refine k3 F _ ?_
      exact ⟨.inr rfl, q⟩
  by_cases c4 : s = 4
  · subst c4
    subst s1
    have aa := t5 rfl
    clear t3 t4 t5 t6
    obtain ⟨r, v', N', M', ⟨r0, r1⟩, k1, k2, k3⟩ := move_b h (f := a') (t := b') (by omega) (by omega)
    by_cases d : r = -1
    · refine ⟨0, v', N', u, M', .inl rfl, ⟨k1, r1⟩, fun F Q hF q => ?_, fun F Q q => ?_⟩
      · simp (disch := first | omega | decide) only [swc, ↓kh_c9, ↓kh_g9_0, ↓kh_g9_1, ↓be_y, ↓be_n, ↓bf_y, ↓bf_n, ↓bl_y, ↓bl_n, ↓bm_y, ↓bm_n, ↓bg_y, ↓bg_n, ↓bs_y, ↓bs_n, ↓bo_y, ↓bo_n, ↓bp_y, ↓bp_n, ↓forall_eq, ↓within_y, ↓within_n, ↓isIn_y, ↓isIn_n, and_true, true_and, and_self, us_at, us_ne, w32_id, um_eq, um_ne, um_um, uu_eq, uu_ne, uu_uu, vv_eq, vv_ne, vv_vv, ne_eq, not_false_eq_true, not_true_eq_false, reduceCtorEq, Int.reduceAdd, Int.reduceSub, Int.reduceMul, Int.reduceNeg, Nat.reduceEqDiff, or_true, true_or, true_implies, false_implies, Int.reduceLT, Int.reduceLE, Int.reduceEq]
        refine k2 F _ hF ?_
        simp (disch := first | omega | decide) only [w32_id, ↓kh_c9, ↓kh_g9_0, ↓kh_g9_1, ↓be_y, ↓be_n, ↓bf_y, ↓bf_n, ↓bl_y, ↓bl_n, ↓bm_y, ↓bm_n, ↓bg_y, ↓bg_n, ↓bs_y, ↓bs_n, ↓bo_y, ↓bo_n, ↓bp_y, ↓bp_n, ↓forall_eq, ↓within_y, ↓within_n, ↓isIn_y, ↓isIn_n, and_true, true_and, and_self, us_at, us_ne, w32_id, um_eq, um_ne, um_um, uu_eq, uu_ne, uu_uu, vv_eq, vv_ne, vv_vv, ne_eq, not_false_eq_true, not_true_eq_false, reduceCtorEq, Int.reduceAdd, Int.reduceSub, Int.reduceMul, Int.reduceNeg, Nat.reduceEqDiff, or_true, true_or, true_implies, false_implies, Int.reduceLT, Int.reduceLE, Int.reduceEq]
        exact q
      · simp (disch := first | omega | decide) only [mX12_isPlayed, ↓rh_rcv, ↓rh_g0, ↓rh_g2, ↓rh_r72, ↓rh_w72, ↓be_y, ↓be_n, ↓bf_y, ↓bf_n, ↓bl_y, ↓bl_n, ↓bm_y, ↓bm_n, ↓bg_y, ↓bg_n, ↓bs_y, ↓bs_n, ↓bo_y, ↓bo_n, ↓bp_y, ↓bp_n, ↓forall_eq, ↓within_y, ↓within_n, ↓isIn_y, ↓isIn_n, and_true, true_and, and_self, us_at, us_ne, w32_id, um_eq, um_ne, um_um, uu_eq, uu_ne, uu_uu, vv_eq, vv_ne, vv_vv, ne_eq, not_false_eq_true, not_true_eq_false, reduceCtorEq, Int.reduceAdd, Int.reduceSub, Int.reduceMul, Int.reduceNeg, Nat.reduceEqDiff, or_true, true_or, true_implies, false_implies, Int.reduceLT, Int.reduceLE, Int.reduceEq, hs, ha, hb]
        refine k3 F _ ?_
        simp (disch := first | omega | decide) only [w32_id, ↓rh_rcv, ↓rh_g0, ↓be_y, ↓be_n, ↓bf_y, ↓bf_n, ↓bl_y, ↓bl_n, ↓bm_y, ↓bm_n, ↓bg_y, ↓bg_n, ↓bs_y, ↓bs_n, ↓bo_y, ↓bo_n, ↓bp_y, ↓bp_n, ↓forall_eq, ↓within_y, ↓within_n, ↓isIn_y, ↓isIn_n, and_true, true_and, and_self, us_at, us_ne, w32_id, um_eq, um_ne, um_um, uu_eq, uu_ne, uu_uu, vv_eq, vv_ne, vv_vv, ne_eq, not_false_eq_true, not_true_eq_false, reduceCtorEq, Int.reduceAdd, Int.reduceSub, Int.reduceMul, Int.reduceNeg, Nat.reduceEqDiff, or_true, true_or, true_implies, false_implies, Int.reduceLT, Int.reduceLE, Int.reduceEq]
        exact q
    · refine ⟨1, v', N', u, M', .inr rfl, ⟨k1, r1⟩, fun F Q hF q => ?_, fun F Q q => ?_⟩
      · simp (disch := first | omega | decide) only [swc, ↓kh_c9, ↓kh_g9_0, ↓kh_g9_1, ↓be_y, ↓be_n, ↓bf_y, ↓bf_n, ↓bl_y, ↓bl_n, ↓bm_y, ↓bm_n, ↓bg_y, ↓bg_n, ↓bs_y, ↓bs_n, ↓bo_y, ↓bo_n, ↓bp_y, ↓bp_n, ↓forall_eq, ↓within_y, ↓within_n, ↓isIn_y, ↓isIn_n, and_true, true_and, and_self, us_at, us_ne, w32_id, um_eq, um_ne, um_um, uu_eq, uu_ne, uu_uu, vv_eq, vv_ne, vv_vv, ne_eq, not_false_eq_true, not_true_eq_false, reduceCtorEq, Int.reduceAdd, Int.reduceSub, Int.reduceMul, Int.reduceNeg, Nat.reduceEqDiff, or_true, true_or, true_implies, false_implies, Int.reduceLT, Int.reduceLE, Int.reduceEq]
        refine k2 F _ hF ?_
        simp (disch := first | omega | decide) only [w32_id, ↓kh_c9, ↓kh_g9_0, ↓kh_g9_1, ↓be_y, ↓be_n, ↓bf_y, ↓bf_n, ↓bl_y, ↓bl_n, ↓bm_y, ↓bm_n, ↓bg_y, ↓bg_n, ↓bs_y, ↓bs_n, ↓bo_y, ↓bo_n, ↓bp_y, ↓bp_n, ↓forall_eq, ↓within_y, ↓within_n, ↓isIn_y, ↓isIn_n, and_true, true_and, and_self, us_at, us_ne, w32_id, um_eq, um_ne, um_um, uu_eq, uu_ne, uu_uu, vv_eq, vv_ne, vv_vv, ne_eq, not_false_eq_true, not_true_eq_false, reduceCtorEq, Int.reduceAdd, Int.reduceSub, Int.reduceMul, Int.reduceNeg, Nat.reduceEqDiff, or_true, true_or, true_implies, false_implies, Int.reduceLT, Int.reduceLE, Int.reduceEq]
        exact q
      · simp (disch := first | omega | decide) only [mX12_isPlayed, ↓rh_rcv, ↓rh_g0, ↓rh_g2, ↓rh_r72, ↓rh_w72, ↓be_y, ↓be_n, ↓bf_y, ↓bf_n, ↓bl_y, ↓bl_n, ↓bm_y, ↓bm_n, ↓bg_y, ↓bg_n, ↓bs_y, ↓bs_n, ↓bo_y, ↓bo_n, ↓bp_y, ↓bp_n, ↓forall_eq, ↓within_y, ↓within_n, ↓isIn_y, ↓isIn_n, and_true, true_and, and_self, us_at, us_ne, w32_id, um_eq, um_ne, um_um, uu_eq, uu_ne, uu_uu, vv_eq, vv_ne, vv_vv, ne_eq, not_false_eq_true, not_true_eq_false, reduceCtorEq, Int.reduceAdd, Int.reduceSub, Int.reduceMul, Int.reduceNeg, Nat.reduceEqDiff, or_true, true_or, true_implies, false_implies, Int.reduceLT, Int.reduceLE, Int.reduceEq, hs, ha, hb]
        refine k3 F _ ?_
        simp (disch := first | omega | decide) only [w32_id, ↓rh_rcv, ↓rh_g0, ↓be_y, ↓be_n, ↓bf_y, ↓bf_n, ↓bl_y, ↓bl_n, ↓bm_y, ↓bm_n, ↓bg_y, ↓bg_n, ↓bs_y, ↓bs_n, ↓bo_y, ↓bo_n, ↓bp_y, ↓bp_n, ↓forall_eq, ↓within_y, ↓within_n, ↓isIn_y, ↓isIn_n, and_true, true_and, and_self, us_at, us_ne, w32_id, um_eq, um_ne, um_um, uu_eq, uu_ne, uu_uu, vv_eq, vv_ne, vv_vv, ne_eq, not_false_eq_true, not_true_eq_false, reduceCtorEq, Int.reduceAdd, Int.reduceSub, Int.reduceMul, Int.reduceNeg, Nat.reduceEqDiff, or_true, true_or, true_implies, false_implies, Int.reduceLT, Int.reduceLE, Int.reduceEq]
        exact q
  obtain rfl : s = 6 := by omega
  subst s1
  have aa := t6 rfl
  clear t3 t4 t5 t6
  obtain ⟨r, v', N', M', ⟨r0, r1⟩, k1, k2, k3⟩ := lend_x h (x1 := b') (x2 := a') (by omega) (by omega)
  refine ⟨r, v', N', u, M', r0, ⟨k1, r1⟩, fun F Q hF q => ?_, fun F Q q => ?_⟩
  · simp (disch := first | omega | decide) only [swc, ↓kh_c9, ↓kh_g9_0, ↓kh_g9_1, ↓be_y, ↓be_n, ↓bf_y, ↓bf_n, ↓bl_y, ↓bl_n, ↓bm_y, ↓bm_n, ↓bg_y, ↓bg_n, ↓bs_y, ↓bs_n, ↓bo_y, ↓bo_n, ↓bp_y, ↓bp_n, ↓forall_eq, ↓within_y, ↓within_n, ↓isIn_y, ↓isIn_n, and_true, true_and, and_self, us_at, us_ne, w32_id, um_eq, um_ne, um_um, uu_eq, uu_ne, uu_uu, vv_eq, vv_ne, vv_vv, ne_eq, not_false_eq_true, not_true_eq_false, reduceCtorEq, Int.reduceAdd, Int.reduceSub, Int.reduceMul, Int.reduceNeg, Nat.reduceEqDiff, or_true, true_or, true_implies, false_implies, Int.reduceLT, Int.reduceLE, Int.reduceEq]
    refine k2 F _ ?_
    exact ⟨r0, q⟩
  · simp (disch := first | omega | decide) only [mX12_isPlayed, ↓rh_rcv, ↓rh_g0, ↓rh_g2, ↓rh_r72, ↓rh_w72, ↓be_y, ↓be_n, ↓bf_y, ↓bf_n, ↓bl_y, ↓bl_n, ↓bm_y, ↓bm_n, ↓bg_y, ↓bg_n, ↓bs_y, ↓bs_n, ↓bo_y, ↓bo_n, ↓bp_y, ↓bp_n, ↓forall_eq, ↓within_y, ↓within_n, ↓isIn_y, ↓isIn_n, and_true, true_and, and_self, us_at, us_ne, w32_id, um_eq, um_ne, um_um, uu_eq, uu_ne, uu_uu, vv_eq, vv_ne, vv_vv, ne_eq, not_false_eq_true, not_true_eq_false, reduceCtorEq, Int.reduceAdd, Int.reduceSub, Int.reduceMul, Int.reduceNeg, Nat.reduceEqDiff, or_true, true_or, true_implies, false_implies, Int.reduceLT, Int.reduceLE, Int.reduceEq, hs, ha, hb]
    refine k3 F _ ?_
    exact ⟨r0, q⟩
theorem tx_same {r : Option Nat} {X X' : Int → Int} {k h hc : Int} {h hc ho hb : Nat} {nc : Int} {fc : Int → Int} (e : r = some h) (g1 : G h = some (cO 8 [vr (some hc), vr (some ho), vr (some hb)])) (g2 : G hc = some (cA 0 (3 * nc) fc)) (t : TX G r X k) : (X (681 * k) = nc ∧ 0 ≤ nc ∧ nc ≤ 24) ∧ ∀ j, 0 ≤ j → j < nc → clok fc X k j := by
  obtain ⟨h', hc', ho', hb', nc', m', fc', fo', fb', ⟨r1, r2, r3, r4, r5⟩, ⟨a1, a2, a3, a4⟩, n1, hm, hcl, -⟩ := t
  rw [e] at r1
  cases r1
  rw [g1] at a1
  simp only [Option.some.injEq, Sum.inr.injEq, Prod.mk.injEq, true_and, List.cons.injEq] at a1
  obtain ⟨b1, -⟩ := a1
  have b2 : hc = hc' := by cases b1; rfl
  subst b2
  rw [g2] at a2
  simp only [Option.some.injEq, Sum.inl.injEq, Prod.mk.injEq, true_and] at a2
  obtain ⟨b3, rfl⟩ := a2
  obtain rfl : nc = nc' := by omega
  exact ⟨n1, hcl⟩
theorem played_b {k0 nc : Int} {h hc ho hb : Nat} {fc : Int → Int} (hk : 0 ≤ k0 ∧ k0 < 4) (e : T 27 k0 = some h) (g1 : G h = some (cO 8 [vr (some hc), vr (some ho), vr (some hb)])) (r2 : 87 ≤ h) (r3 : 87 ≤ hc) (g2 : G hc = some (cA 0 (3 * nc) fc)) (hn : 0 ≤ nc ∧ nc ≤ 24) : ∀ (k : Nat) (j : Int) (v : Nat → Nat → Int) (N : Nat → Int → Int) (u : Nat → Int) (M : Nat → Int → Int), Rel n G v N T u M → k0 < M 70 1 → j + k = nc → 0 ≤ j → ∃ r v' N' u' M', Rel n G v' N' T u' M' ∧ (∀ (F : hp) (Q : Int → hp → Prop), (∀ h, 87 ≤ h → F h = G h) → Q r (kh F v' N' T) → mX11_played_L23 Q (k + 1) 8 (some h) j (kh F v N T)) ∧ (∀ (F : hp) (Q : Int → hp → Prop), Q r (rh F u' M') → mX12_played_L21 Q (k + 1) 69 k0 j (rh F u M)) := by
  have ct : ∀ (F : hp) (v : Nat → Nat → Int) (N : Nat → Int → Int) (K : Int → hp → Prop), (∀ h, 87 ≤ h → F h = G h) → K nc (kh F v N T) → mX8_countClauses h (kh F v N T) K := fun F v N K hF q => by
    have a1 := hF h r2
    have a2 := hF hc r3
    rw [g1] at a1
    rw [g2] at a2
    unfold mX8_countClauses
    rw [kt_g (x := some hc) a1 r2 rfl, kt_n a2 r3 (by omega) (by omega), w32_id (by omega) (by omega), td (by omega), show 3 * nc / 3 = nc by omega]
    exact q
  intro k
  induction k with
  | zero =>
    intro j v N u M hR h1 hj h0
    obtain ⟨n1, -⟩ := tx_same e g1 g2 (hR.1.2.2.2.2.2.2.2.2.2 k0 hk.1 h1) (X' := M 72) (h := 0) (hc := 0)
    have n2 := n1.1
    refine ⟨-1, v, N, u, M, hR, fun F Q hF q => ?_, fun F Q q => ?_⟩
    · rw [mX11_played_L23, kt_c (by rw [hF h r2]; exact g1) r2]
      refine ct F v N _ hF ?_
      simp (disch := first | omega | decide) only [w32_id, ↓kh_c8, ↓kh_g8_0, ↓kh_g8_1, ↓kh_g8_2, ↓kh_g8_3, ↓kh_g8_4, ↓kh_g8_5, ↓kh_g8_6, ↓kh_g8_7, ↓be_y, ↓be_n, ↓bf_y, ↓bf_n, ↓bl_y, ↓bl_n, ↓bm_y, ↓bm_n, ↓bg_y, ↓bg_n, ↓bs_y, ↓bs_n, ↓bo_y, ↓bo_n, ↓bp_y, ↓bp_n, ↓forall_eq, ↓within_y, ↓within_n, ↓isIn_y, ↓isIn_n, and_true, true_and, and_self, us_at, us_ne, w32_id, um_eq, um_ne, um_um, uu_eq, uu_ne, uu_uu, vv_eq, vv_ne, vv_vv, ne_eq, not_false_eq_true, not_true_eq_false, reduceCtorEq, Int.reduceAdd, Int.reduceSub, Int.reduceMul, Int.reduceNeg, Nat.reduceEqDiff, or_true, true_or, true_implies, false_implies, Int.reduceLT, Int.reduceLE, Int.reduceEq]
      exact q
    · rw [mX12_played_L21]
      simp (disch := first | omega | decide) only [w32_id, ↓rh_rcv, ↓rh_g0, ↓rh_g2, ↓rh_r72, ↓rh_w72, ↓be_y, ↓be_n, ↓bf_y, ↓bf_n, ↓bl_y, ↓bl_n, ↓bm_y, ↓bm_n, ↓bg_y, ↓bg_n, ↓bs_y, ↓bs_n, ↓bo_y, ↓bo_n, ↓bp_y, ↓bp_n, ↓forall_eq, ↓within_y, ↓within_n, ↓isIn_y, ↓isIn_n, and_true, true_and, and_self, us_at, us_ne, w32_id, um_eq, um_ne, um_um, uu_eq, uu_ne, uu_uu, vv_eq, vv_ne, vv_vv, ne_eq, not_false_eq_true, not_true_eq_false, reduceCtorEq, Int.reduceAdd, Int.reduceSub, Int.reduceMul, Int.reduceNeg, Nat.reduceEqDiff, or_true, true_or, true_implies, false_implies, Int.reduceLT, Int.reduceLE, Int.reduceEq, n2]
      exact q
  | succ k ih =>
    intro j v N u M hR h1 hj h0
    obtain ⟨n1, n3⟩ := tx_same e g1 g2 (hR.1.2.2.2.2.2.2.2.2.2 k0 hk.1 h1) (X' := M 72) (h := 0) (hc := 0)
    have n2 := n1.1
    obtain ⟨b, v1, N1, u1, M1, b0, ⟨b1, b2⟩, b3, b4⟩ := play_b hR (k0 := k0) (j := j) (nc := nc) hk (by omega) (n3 j h0 (by omega))
    have cs : ∀ (F : hp) (Q : Int → hp → Prop), (∀ h, 87 ≤ h → F h = G h) → ((w32 b = 0 → Q j (kh F v1 N1 T)) ∧ (¬ w32 b = 0 → mX11_played_L23 Q (k + 1) 8 (some h) (j + 1) (kh F v1 N1 T))) → mX11_played_L23 Q (k + 1 + 1) 8 (some h) j (kh F v N T) := fun F Q hF q => by
      rw [mX11_played_L23, kt_c (by rw [hF h r2]; exact g1) r2]
      refine ct F v N _ hF ?_
      simp (disch := first | omega | decide) only [w32_id, ↓kh_c8, ↓kh_g8_0, ↓kh_g8_1, ↓kh_g8_2, ↓kh_g8_3, ↓kh_g8_4, ↓kh_g8_5, ↓kh_g8_6, ↓kh_g8_7, ↓kh_c9, ↓kh_g9_0, ↓kh_g9_1, ↓be_y, ↓be_n, ↓bf_y, ↓bf_n, ↓bl_y, ↓bl_n, ↓bm_y, ↓bm_n, ↓bg_y, ↓bg_n, ↓bs_y, ↓bs_n, ↓bo_y, ↓bo_n, ↓bp_y, ↓bp_n, ↓forall_eq, ↓within_y, ↓within_n, ↓isIn_y, ↓isIn_n, and_true, true_and, and_self, us_at, us_ne, w32_id, um_eq, um_ne, um_um, uu_eq, uu_ne, uu_uu, vv_eq, vv_ne, vv_vv, ne_eq, not_false_eq_true, not_true_eq_false, reduceCtorEq, Int.reduceAdd, Int.reduceSub, Int.reduceMul, Int.reduceNeg, Nat.reduceEqDiff, or_true, true_or, true_implies, false_implies, Int.reduceLT, Int.reduceLE, Int.reduceEq]
      exact pc_c hF g1 rfl r2 r3 g2 (by omega) (by omega) (b3 F _ hF q)
    have rs : ∀ (F : hp) (Q : Int → hp → Prop), ((w32 b = 0 → Q j (rh F u1 M1)) ∧ (¬ w32 b = 0 → mX12_played_L21 Q (k + 1) 69 k0 (j + 1) (rh F u1 M1))) → mX12_played_L21 Q (k + 1 + 1) 69 k0 j (rh F u M) := fun F Q q => by
      rw [mX12_played_L21]
      simp (disch := first | omega | decide) only [w32_id, ↓rh_rcv, ↓rh_g0, ↓rh_g2, ↓rh_r72, ↓rh_w72, ↓be_y, ↓be_n, ↓bf_y, ↓bf_n, ↓bl_y, ↓bl_n, ↓bm_y, ↓bm_n, ↓bg_y, ↓bg_n, ↓bs_y, ↓bs_n, ↓bo_y, ↓bo_n, ↓bp_y, ↓bp_n, ↓forall_eq, ↓within_y, ↓within_n, ↓isIn_y, ↓isIn_n, and_true, true_and, and_self, us_at, us_ne, w32_id, um_eq, um_ne, um_um, uu_eq, uu_ne, uu_uu, vv_eq, vv_ne, vv_vv, ne_eq, not_false_eq_true, not_true_eq_false, reduceCtorEq, Int.reduceAdd, Int.reduceSub, Int.reduceMul, Int.reduceNeg, Nat.reduceEqDiff, or_true, true_or, true_implies, false_implies, Int.reduceLT, Int.reduceLE, Int.reduceEq, n2]
      exact b4 F _ q
    rcases b0 with rfl | rfl
    · refine ⟨j, v1, N1, u1, M1, b1, fun F Q hF q => cs F Q hF ?_, fun F Q q => rs F Q ?_⟩
      · rw [be_y (by omega)]; exact q
      · rw [be_y (by omega)]; exact q
    · obtain ⟨r, v', N', u', M', i1, i2, i3⟩ := ih (j + 1) _ _ _ _ b1 (by omega) (by omega) (by omega)
      refine ⟨r, v', N', u', M', i1, fun F Q hF q => cs F Q hF ?_, fun F Q q => rs F Q ?_⟩
      · rw [be_n (by omega)]; exact i2 F Q hF q
      · rw [be_n (by omega)]; exact i3 F Q q
set_option maxHeartbeats 4000000 in
theorem op_played (h1 : -2147483648 ≤ x1 ∧ x1 ≤ 2147483647) : OP n (mX11_played 8 x1) (mX12_played 69 x1) := by
  refine op_tg (fun G v N T u M h => ?_)
  obtain ⟨hY, hK, hC, hF', hB, hT, hS, hD, hX, hG⟩ := h.1
  have x1' := hX.1
  have xe := x1'.1
  by_cases c : 0 ≤ x1 ∧ x1 < M 70 1
  · obtain ⟨hh, hc, ho, hb, nc, m, fc, fo, fb, ⟨r1, r2, r3, r4, r5⟩, ⟨g1, g2, g3, g4⟩, ⟨n1, n2, n3⟩, hm, hcl, l0, l1⟩ := hG x1 c.1 c.2
    obtain ⟨r, v', N', u', M', k1, k2, k3⟩ := played_b (k0 := x1) (by omega) r1 g1 r2 r3 g2 ⟨n2, n3⟩ nc.toNat 0 v N u M h c.2 (by omega) (by omega)
    refine ⟨r, v', N', T, u', M', Rel_up k1, fun F Q hF q => ?_, fun F Q q => ?_⟩
    · simp (disch := first | omega | decide) only [mX11_played, mX11_isText, ↓kh_c8, ↓kh_g8_0, ↓kh_g8_1, ↓kh_g8_2, ↓kh_g8_3, ↓kh_g8_4, ↓kh_g8_5, ↓kh_g8_6, ↓kh_g8_7, ↓kh_c10, ↓kh_g10_0, ↓kh_g10_1, ↓kh_g10_2, ↓kh_g10_3, ↓kh_g10_4, ↓kh_g10_5, ↓kh_g10_6, ↓kh_g10_7, ↓kh_g10_8, ↓kh_g10_9, ↓kh_g10_10, ↓kh_g10_11, ↓kh_g10_12, ↓kh_p10_12, ↓kh_g10_13, ↓kh_p10_13, ↓kh_g10_14, ↓kh_p10_14, ↓kh_g10_15, ↓kh_p10_15, ↓kh_ar27, ↓kh_sr27, ↓be_y, ↓be_n, ↓bf_y, ↓bf_n, ↓bl_y, ↓bl_n, ↓bm_y, ↓bm_n, ↓bg_y, ↓bg_n, ↓bs_y, ↓bs_n, ↓bo_y, ↓bo_n, ↓bp_y, ↓bp_n, ↓forall_eq, ↓within_y, ↓within_n, ↓isIn_y, ↓isIn_n, and_true, true_and, and_self, us_at, us_ne, w32_id, um_eq, um_ne, um_um, uu_eq, uu_ne, uu_uu, vv_eq, vv_ne, vv_vv, ne_eq, not_false_eq_true, not_true_eq_false, reduceCtorEq, Int.reduceAdd, Int.reduceSub, Int.reduceMul, Int.reduceNeg, Nat.reduceEqDiff, or_true, true_or, true_implies, false_implies, Int.reduceLT, Int.reduceLE, Int.reduceEq, xe]
      rw [r1]
      refine ⟨fun e => (by cases e), fun n9 e => ?_⟩
      try (simp (disch := first | omega | decide) only [w32_id, ↓kh_c8, ↓kh_g8_0, ↓kh_g8_1, ↓kh_g8_2, ↓kh_g8_3, ↓kh_g8_4, ↓kh_g8_5, ↓kh_g8_6, ↓kh_g8_7, ↓kh_c10, ↓kh_g10_0, ↓kh_g10_1, ↓kh_g10_2, ↓kh_g10_3, ↓kh_g10_4, ↓kh_g10_5, ↓kh_g10_6, ↓kh_g10_7, ↓kh_g10_8, ↓kh_g10_9, ↓kh_g10_10, ↓kh_g10_11, ↓kh_g10_12, ↓kh_p10_12, ↓kh_g10_13, ↓kh_p10_13, ↓kh_g10_14, ↓kh_p10_14, ↓kh_g10_15, ↓kh_p10_15, ↓kh_ar27, ↓kh_sr27, ↓be_y, ↓be_n, ↓bf_y, ↓bf_n, ↓bl_y, ↓bl_n, ↓bm_y, ↓bm_n, ↓bg_y, ↓bg_n, ↓bs_y, ↓bs_n, ↓bo_y, ↓bo_n, ↓bp_y, ↓bp_n, ↓forall_eq, ↓within_y, ↓within_n, ↓isIn_y, ↓isIn_n, and_true, true_and, and_self, us_at, us_ne, w32_id, um_eq, um_ne, um_um, uu_eq, uu_ne, uu_uu, vv_eq, vv_ne, vv_vv, ne_eq, not_false_eq_true, not_true_eq_false, reduceCtorEq, Int.reduceAdd, Int.reduceSub, Int.reduceMul, Int.reduceNeg, Nat.reduceEqDiff, or_true, true_or, true_implies, false_implies, Int.reduceLT, Int.reduceLE, Int.reduceEq])
      try rw [r1]
      exact ⟨_, k2 F Q hF q⟩
    · simp (disch := first | omega | decide) only [mX12_played, ↓rh_rcv, ↓rh_g0, ↓rh_r70, ↓rh_w70, ↓be_y, ↓be_n, ↓bf_y, ↓bf_n, ↓bl_y, ↓bl_n, ↓bm_y, ↓bm_n, ↓bg_y, ↓bg_n, ↓bs_y, ↓bs_n, ↓bo_y, ↓bo_n, ↓bp_y, ↓bp_n, ↓forall_eq, ↓within_y, ↓within_n, ↓isIn_y, ↓isIn_n, and_true, true_and, and_self, us_at, us_ne, w32_id, um_eq, um_ne, um_um, uu_eq, uu_ne, uu_uu, vv_eq, vv_ne, vv_vv, ne_eq, not_false_eq_true, not_true_eq_false, reduceCtorEq, Int.reduceAdd, Int.reduceSub, Int.reduceMul, Int.reduceNeg, Nat.reduceEqDiff, or_true, true_or, true_implies, false_implies, Int.reduceLT, Int.reduceLE, Int.reduceEq]
      exact ⟨_, k3 F Q q⟩
  · refine ⟨-2, v, N, T, u, M, Rel_up h, fun F Q hF q => ?_, fun F Q q => ?_⟩
    · by_cases d0 : 0 ≤ x1 <;> by_cases d1 : x1 < M 70 1 <;> first | (exfalso; omega) | (simp (disch := first | omega | decide) only [mX11_played, mX11_isText, ↓kh_c8, ↓kh_g8_0, ↓kh_g8_1, ↓kh_g8_2, ↓kh_g8_3, ↓kh_g8_4, ↓kh_g8_5, ↓kh_g8_6, ↓kh_g8_7, ↓kh_c10, ↓kh_g10_0, ↓kh_g10_1, ↓kh_g10_2, ↓kh_g10_3, ↓kh_g10_4, ↓kh_g10_5, ↓kh_g10_6, ↓kh_g10_7, ↓kh_g10_8, ↓kh_g10_9, ↓kh_g10_10, ↓kh_g10_11, ↓kh_g10_12, ↓kh_p10_12, ↓kh_g10_13, ↓kh_p10_13, ↓kh_g10_14, ↓kh_p10_14, ↓kh_g10_15, ↓kh_p10_15, ↓kh_ar27, ↓kh_sr27, ↓be_y, ↓be_n, ↓bf_y, ↓bf_n, ↓bl_y, ↓bl_n, ↓bm_y, ↓bm_n, ↓bg_y, ↓bg_n, ↓bs_y, ↓bs_n, ↓bo_y, ↓bo_n, ↓bp_y, ↓bp_n, ↓forall_eq, ↓within_y, ↓within_n, ↓isIn_y, ↓isIn_n, and_true, true_and, and_self, us_at, us_ne, w32_id, um_eq, um_ne, um_um, uu_eq, uu_ne, uu_uu, vv_eq, vv_ne, vv_vv, ne_eq, not_false_eq_true, not_true_eq_false, reduceCtorEq, Int.reduceAdd, Int.reduceSub, Int.reduceMul, Int.reduceNeg, Nat.reduceEqDiff, or_true, true_or, true_implies, false_implies, Int.reduceLT, Int.reduceLE, Int.reduceEq, xe]; first | done | exact q)
    · by_cases d0 : 0 ≤ x1 <;> by_cases d1 : x1 < M 70 1 <;> first | (exfalso; omega) | (simp (disch := first | omega | decide) only [mX12_played, ↓rh_rcv, ↓rh_g0, ↓rh_r70, ↓rh_w70, ↓be_y, ↓be_n, ↓bf_y, ↓bf_n, ↓bl_y, ↓bl_n, ↓bm_y, ↓bm_n, ↓bg_y, ↓bg_n, ↓bs_y, ↓bs_n, ↓bo_y, ↓bo_n, ↓bp_y, ↓bp_n, ↓forall_eq, ↓within_y, ↓within_n, ↓isIn_y, ↓isIn_n, and_true, true_and, and_self, us_at, us_ne, w32_id, um_eq, um_ne, um_um, uu_eq, uu_ne, uu_uu, vv_eq, vv_ne, vv_vv, ne_eq, not_false_eq_true, not_true_eq_false, reduceCtorEq, Int.reduceAdd, Int.reduceSub, Int.reduceMul, Int.reduceNeg, Nat.reduceEqDiff, or_true, true_or, true_implies, false_implies, Int.reduceLT, Int.reduceLE, Int.reduceEq]; first | done | exact q)
end PY
