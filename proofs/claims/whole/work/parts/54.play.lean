section PL
variable {n x1 x2 : Int} {G : hp} {v : Nat → Nat → Int} {N : Nat → Int → Int} {T : Nat → Int → Option Nat} {u : Nat → Int} {M : Nat → Int → Int}
theorem zUp_cg {A B : Int → Int} {t : Int} (e : ∀ i, 12 ≤ i → i < 30 → A i = B i) (ht : 0 ≤ t ∧ t < 3) (hb : 0 ≤ B (12 + t) ∧ B (12 + t) ≤ 5) : zUp A t = zUp B t := by
  unfold zUp
  rw [e (12 + t) (by omega) (by omega)]
  by_cases d : B (12 + t) = 0
  · rw [if_pos d, if_pos d]
  · rw [if_neg d, if_neg d, e _ (by omega) (by omega)]
theorem move_b (h : Rel n G v N T u M) {f t : Int} (hf : 0 ≤ f ∧ f < 3) (ht : 0 ≤ t ∧ t < 3) : ∃ r v' N' M', ((-1 ≤ r ∧ r ≤ 4) ∧ M' 70 1 = M 70 1) ∧ Rel n G v' N' T u M' ∧ (∀ (F : hp) (Q : Int → hp → Prop), (∀ h, 87 ≤ h → F h = G h) → Q r (kh F v' N' T) → mX9_shift 9 f t 1 (kh F v N T) Q) ∧ (∀ (F : hp) (Q : Int → hp → Prop), Q r (rh F u M') → mX12_move 69 f t (rh F u M) Q) := by
  have hcc := jY_c h.1.1
  have f1 := (trk h.1.1 hf).1
  have zf := zUp_b h.1.1 hf
  obtain ⟨b, v1, N1, M1, h1, ⟨a1, a2⟩, b0, k1, k2⟩ := can_b h hf ht
  rcases b0 with rfl | ⟨rfl, d1, d2⟩
  · refine ⟨-1, v1, N1, M1, ⟨by omega, by rw [a2]⟩, h1, fun F Q hF q => k1 F Q 1 hF (fun _ => q) (fun e => by cases e), fun F Q q => ?_⟩
    simp (disch := first | omega | decide) only [mX12_move, ↓rh_rcv, ↓rh_g0, ↓be_y, ↓be_n, ↓bf_y, ↓bf_n, ↓bl_y, ↓bl_n, ↓bm_y, ↓bm_n, ↓bg_y, ↓bg_n, ↓bs_y, ↓bs_n, ↓bo_y, ↓bo_n, ↓bp_y, ↓bp_n, ↓forall_eq, ↓within_y, ↓within_n, ↓isIn_y, ↓isIn_n, and_true, true_and, and_self, us_at, us_ne, w32_id, um_eq, um_ne, um_um, uu_eq, uu_ne, uu_uu, vv_eq, vv_ne, vv_vv, ne_eq, not_false_eq_true, not_true_eq_false, reduceCtorEq, Int.reduceAdd, Int.reduceSub, Int.reduceMul, Int.reduceNeg, Nat.reduceEqDiff, or_true, true_or, true_implies, false_implies, Int.reduceLT, Int.reduceLE, Int.reduceEq]
    refine k2 F _ ?_
    simp (disch := first | omega | decide) only [w32_id, ↓rh_rcv, ↓rh_g0, ↓be_y, ↓be_n, ↓bf_y, ↓bf_n, ↓bl_y, ↓bl_n, ↓bm_y, ↓bm_n, ↓bg_y, ↓bg_n, ↓bs_y, ↓bs_n, ↓bo_y, ↓bo_n, ↓bp_y, ↓bp_n, ↓forall_eq, ↓within_y, ↓within_n, ↓isIn_y, ↓isIn_n, and_true, true_and, and_self, us_at, us_ne, w32_id, um_eq, um_ne, um_um, uu_eq, uu_ne, uu_uu, vv_eq, vv_ne, vv_vv, ne_eq, not_false_eq_true, not_true_eq_false, reduceCtorEq, Int.reduceAdd, Int.reduceSub, Int.reduceMul, Int.reduceNeg, Nat.reduceEqDiff, or_true, true_or, true_implies, false_implies, Int.reduceLT, Int.reduceLE, Int.reduceEq]
    exact q
  · obtain ⟨v2, K', A', h2, g1, g2, g3, g4⟩ := keep_b h1
    have ez : zUp (um M1 70 A' 70) f = zUp (M 70) f := zUp_cg (fun i i0 i1 => by rw [um_eq, g1 _ (by omega), a2]) hf f1.2
    obtain ⟨Y', A2, m1, m2, m3, m4⟩ := mv_b (v := v2) (T := T) (N := um N1 14 K') (M := um M1 70 A') h2.1.1 (u := u) h2.2.2.2.2.1 hf ht d1 (by rw [um_eq, g1 _ (by omega), a2]; exact d2)
    rw [ez] at m4
    refine ⟨zUp (M 70) f, v2, um (um N1 14 K') 12 Y', um (um M1 70 A') 70 A2, ⟨by omega, by rw [um_eq, m2 1 (by omega), um_eq, g1 1 (by omega), a2]⟩, Rel_y h2 m1 m2, fun F Q hF q => k1 F Q 1 hF (fun e => by cases e) (fun _ => ?_), fun F Q q => ?_⟩
    · simp (disch := first | omega | decide) only [shc, mX9_shift_J99, ↓kh_c9, ↓kh_g9_0, ↓kh_g9_1, ↓kh_c10, ↓kh_g10_0, ↓kh_g10_1, ↓kh_g10_2, ↓kh_g10_3, ↓kh_g10_4, ↓kh_g10_5, ↓kh_g10_6, ↓kh_g10_7, ↓kh_g10_8, ↓kh_g10_9, ↓kh_g10_10, ↓kh_g10_11, ↓kh_g10_12, ↓kh_p10_12, ↓kh_g10_13, ↓kh_p10_13, ↓kh_g10_14, ↓kh_p10_14, ↓kh_g10_15, ↓kh_p10_15, ↓kh_c11, ↓kh_g11_0, ↓kh_c13, ↓kh_g13_0, ↓kh_g13_1, ↓kh_p13_1, ↓kh_g13_2, ↓kh_p13_2, ↓be_y, ↓be_n, ↓bf_y, ↓bf_n, ↓bl_y, ↓bl_n, ↓bm_y, ↓bm_n, ↓bg_y, ↓bg_n, ↓bs_y, ↓bs_n, ↓bo_y, ↓bo_n, ↓bp_y, ↓bp_n, ↓forall_eq, ↓within_y, ↓within_n, ↓isIn_y, ↓isIn_n, and_true, true_and, and_self, us_at, us_ne, w32_id, um_eq, um_ne, um_um, uu_eq, uu_ne, uu_uu, vv_eq, vv_ne, vv_vv, ne_eq, not_false_eq_true, not_true_eq_false, reduceCtorEq, Int.reduceAdd, Int.reduceSub, Int.reduceMul, Int.reduceNeg, Nat.reduceEqDiff, or_true, true_or, true_implies, false_implies, Int.reduceLT, Int.reduceLE, Int.reduceEq]
      refine g3 F _ ?_
      simp (disch := first | omega | decide) only [w32_id, ↓kh_c11, ↓kh_g11_0, ↓be_y, ↓be_n, ↓bf_y, ↓bf_n, ↓bl_y, ↓bl_n, ↓bm_y, ↓bm_n, ↓bg_y, ↓bg_n, ↓bs_y, ↓bs_n, ↓bo_y, ↓bo_n, ↓bp_y, ↓bp_n, ↓forall_eq, ↓within_y, ↓within_n, ↓isIn_y, ↓isIn_n, and_true, true_and, and_self, us_at, us_ne, w32_id, um_eq, um_ne, um_um, uu_eq, uu_ne, uu_uu, vv_eq, vv_ne, vv_vv, ne_eq, not_false_eq_true, not_true_eq_false, reduceCtorEq, Int.reduceAdd, Int.reduceSub, Int.reduceMul, Int.reduceNeg, Nat.reduceEqDiff, or_true, true_or, true_implies, false_implies, Int.reduceLT, Int.reduceLE, Int.reduceEq]
      exact m3 F _ q
    · simp (disch := first | omega | decide) only [mX12_move, ↓rh_rcv, ↓rh_g0, ↓be_y, ↓be_n, ↓bf_y, ↓bf_n, ↓bl_y, ↓bl_n, ↓bm_y, ↓bm_n, ↓bg_y, ↓bg_n, ↓bs_y, ↓bs_n, ↓bo_y, ↓bo_n, ↓bp_y, ↓bp_n, ↓forall_eq, ↓within_y, ↓within_n, ↓isIn_y, ↓isIn_n, and_true, true_and, and_self, us_at, us_ne, w32_id, um_eq, um_ne, um_um, uu_eq, uu_ne, uu_uu, vv_eq, vv_ne, vv_vv, ne_eq, not_false_eq_true, not_true_eq_false, reduceCtorEq, Int.reduceAdd, Int.reduceSub, Int.reduceMul, Int.reduceNeg, Nat.reduceEqDiff, or_true, true_or, true_implies, false_implies, Int.reduceLT, Int.reduceLE, Int.reduceEq]
      refine k2 F _ ?_
      simp (disch := first | omega | decide) only [w32_id, ↓rh_rcv, ↓rh_g0, ↓be_y, ↓be_n, ↓bf_y, ↓bf_n, ↓bl_y, ↓bl_n, ↓bm_y, ↓bm_n, ↓bg_y, ↓bg_n, ↓bs_y, ↓bs_n, ↓bo_y, ↓bo_n, ↓bp_y, ↓bp_n, ↓forall_eq, ↓within_y, ↓within_n, ↓isIn_y, ↓isIn_n, and_true, true_and, and_self, us_at, us_ne, w32_id, um_eq, um_ne, um_um, uu_eq, uu_ne, uu_uu, vv_eq, vv_ne, vv_vv, ne_eq, not_false_eq_true, not_true_eq_false, reduceCtorEq, Int.reduceAdd, Int.reduceSub, Int.reduceMul, Int.reduceNeg, Nat.reduceEqDiff, or_true, true_or, true_implies, false_implies, Int.reduceLT, Int.reduceLE, Int.reduceEq]
      refine g4 F _ ?_
      simp (disch := first | omega | decide) only [w32_id, ↓rh_rcv, ↓rh_g0, ↓be_y, ↓be_n, ↓bf_y, ↓bf_n, ↓bl_y, ↓bl_n, ↓bm_y, ↓bm_n, ↓bg_y, ↓bg_n, ↓bs_y, ↓bs_n, ↓bo_y, ↓bo_n, ↓bp_y, ↓bp_n, ↓forall_eq, ↓within_y, ↓within_n, ↓isIn_y, ↓isIn_n, and_true, true_and, and_self, us_at, us_ne, w32_id, um_eq, um_ne, um_um, uu_eq, uu_ne, uu_uu, vv_eq, vv_ne, vv_vv, ne_eq, not_false_eq_true, not_true_eq_false, reduceCtorEq, Int.reduceAdd, Int.reduceSub, Int.reduceMul, Int.reduceNeg, Nat.reduceEqDiff, or_true, true_or, true_implies, false_implies, Int.reduceLT, Int.reduceLE, Int.reduceEq]
      exact m4 F _ q
theorem moveq_b (h : Rel n G v N T u M) {f t : Int} (hf : 0 ≤ f ∧ f < 3) (ht : 0 ≤ t ∧ t < 3) : ∃ r v' N' M', Rel n G v' N' T u M' ∧ (∀ (F : hp) (Q : Int → hp → Prop), (∀ h, 87 ≤ h → F h = G h) → Q r (kh F v' N' T) → mX9_shift 9 f t 0 (kh F v N T) Q) ∧ (∀ (F : hp) (Q : hp → Prop), Q (rh F u M') → mX12_canMove 69 f t (rh F u M) (fun x3 F2 => (w32 x3 = 0 → Q F2) ∧ (¬ w32 x3 = 0 → rcv F2 (some 69) 12 (fun o7 => mX12_moveNow o7 f t F2 (fun x6 F5 => (w32 x6 < 0 → Q F5) ∧ (¬ w32 x6 < 0 → Q F5)))))) := by
  have hcc := jY_c h.1.1
  have f1 := (trk h.1.1 hf).1
  have zf := zUp_b h.1.1 hf
  obtain ⟨b, v1, N1, M1, h1, ⟨a1, a2⟩, b0, k1, k2⟩ := can_b h hf ht
  rcases b0 with rfl | ⟨rfl, d1, d2⟩
  · refine ⟨-1, v1, N1, M1, h1, fun F Q hF q => k1 F Q 0 hF (fun _ => q) (fun e => by cases e), fun F Q q => ?_⟩
    refine k2 F _ ?_
    simp (disch := first | omega | decide) only [w32_id, ↓rh_rcv, ↓rh_g0, ↓be_y, ↓be_n, ↓bf_y, ↓bf_n, ↓bl_y, ↓bl_n, ↓bm_y, ↓bm_n, ↓bg_y, ↓bg_n, ↓bs_y, ↓bs_n, ↓bo_y, ↓bo_n, ↓bp_y, ↓bp_n, ↓forall_eq, ↓within_y, ↓within_n, ↓isIn_y, ↓isIn_n, and_true, true_and, and_self, us_at, us_ne, w32_id, um_eq, um_ne, um_um, uu_eq, uu_ne, uu_uu, vv_eq, vv_ne, vv_vv, ne_eq, not_false_eq_true, not_true_eq_false, reduceCtorEq, Int.reduceAdd, Int.reduceSub, Int.reduceMul, Int.reduceNeg, Nat.reduceEqDiff, or_true, true_or, true_implies, false_implies, Int.reduceLT, Int.reduceLE, Int.reduceEq]
    exact q
  · obtain ⟨Y', A2, m1, m2, m3, m4⟩ := mv_b (v := v1) (T := T) (N := N1) (M := M1) h1.1.1 (u := u) h1.2.2.2.2.1 hf ht d1 (by rw [a2]; exact d2)
    rw [a2] at m4
    refine ⟨zUp (M 70) f, v1, um N1 12 Y', um M1 70 A2, Rel_y h1 m1 m2, fun F Q hF q => k1 F Q 0 hF (fun e => by cases e) (fun _ => ?_), fun F Q q => ?_⟩
    · simp (disch := first | omega | decide) only [shc, mX9_shift_J99, ↓kh_c9, ↓kh_g9_0, ↓kh_g9_1, ↓kh_c10, ↓kh_g10_0, ↓kh_g10_1, ↓kh_g10_2, ↓kh_g10_3, ↓kh_g10_4, ↓kh_g10_5, ↓kh_g10_6, ↓kh_g10_7, ↓kh_g10_8, ↓kh_g10_9, ↓kh_g10_10, ↓kh_g10_11, ↓kh_g10_12, ↓kh_p10_12, ↓kh_g10_13, ↓kh_p10_13, ↓kh_g10_14, ↓kh_p10_14, ↓kh_g10_15, ↓kh_p10_15, ↓kh_c11, ↓kh_g11_0, ↓kh_c13, ↓kh_g13_0, ↓kh_g13_1, ↓kh_p13_1, ↓kh_g13_2, ↓kh_p13_2, ↓be_y, ↓be_n, ↓bf_y, ↓bf_n, ↓bl_y, ↓bl_n, ↓bm_y, ↓bm_n, ↓bg_y, ↓bg_n, ↓bs_y, ↓bs_n, ↓bo_y, ↓bo_n, ↓bp_y, ↓bp_n, ↓forall_eq, ↓within_y, ↓within_n, ↓isIn_y, ↓isIn_n, and_true, true_and, and_self, us_at, us_ne, w32_id, um_eq, um_ne, um_um, uu_eq, uu_ne, uu_uu, vv_eq, vv_ne, vv_vv, ne_eq, not_false_eq_true, not_true_eq_false, reduceCtorEq, Int.reduceAdd, Int.reduceSub, Int.reduceMul, Int.reduceNeg, Nat.reduceEqDiff, or_true, true_or, true_implies, false_implies, Int.reduceLT, Int.reduceLE, Int.reduceEq]
      exact m3 F _ q
    · refine k2 F _ ?_
      simp (disch := first | omega | decide) only [w32_id, ↓rh_rcv, ↓rh_g0, ↓be_y, ↓be_n, ↓bf_y, ↓bf_n, ↓bl_y, ↓bl_n, ↓bm_y, ↓bm_n, ↓bg_y, ↓bg_n, ↓bs_y, ↓bs_n, ↓bo_y, ↓bo_n, ↓bp_y, ↓bp_n, ↓forall_eq, ↓within_y, ↓within_n, ↓isIn_y, ↓isIn_n, and_true, true_and, and_self, us_at, us_ne, w32_id, um_eq, um_ne, um_um, uu_eq, uu_ne, uu_uu, vv_eq, vv_ne, vv_vv, ne_eq, not_false_eq_true, not_true_eq_false, reduceCtorEq, Int.reduceAdd, Int.reduceSub, Int.reduceMul, Int.reduceNeg, Nat.reduceEqDiff, or_true, true_or, true_implies, false_implies, Int.reduceLT, Int.reduceLE, Int.reduceEq]
      refine m4 F _ ?_
      by_cases d : w32 (zUp (M 70) f) < 0
      · exact ⟨fun _ => q, fun e => absurd d e⟩
      · exact ⟨fun e => absurd e d, fun _ => q⟩
set_option maxHeartbeats 4000000 in
theorem op_move (h1 : -2147483648 ≤ x1 ∧ x1 ≤ 2147483647) (h2 : -2147483648 ≤ x2 ∧ x2 ≤ 2147483647) : OP n (mX11_move 8 x1 x2) (mX12_move 69 x1 x2) := by
  refine op_tg (fun G v N T u M h => ?_)
  by_cases c : (0 ≤ x1 ∧ x1 ≤ 2) ∧ 0 ≤ x2 ∧ x2 ≤ 2
  · obtain ⟨r, v', N', M', r0, k1, k2, k3⟩ := move_b h (f := x1) (t := x2) (by omega) (by omega)
    refine ⟨r, v', N', T, u, M', Rel_up k1, fun F Q hF q => ?_, k3⟩
    simp (disch := first | omega | decide) only [mX11_move, mX11_isTrack, ↓kh_c8, ↓kh_g8_0, ↓kh_g8_1, ↓kh_g8_2, ↓kh_g8_3, ↓kh_g8_4, ↓kh_g8_5, ↓kh_g8_6, ↓kh_g8_7, ↓kh_c9, ↓kh_g9_0, ↓kh_g9_1, ↓be_y, ↓be_n, ↓bf_y, ↓bf_n, ↓bl_y, ↓bl_n, ↓bm_y, ↓bm_n, ↓bg_y, ↓bg_n, ↓bs_y, ↓bs_n, ↓bo_y, ↓bo_n, ↓bp_y, ↓bp_n, ↓forall_eq, ↓within_y, ↓within_n, ↓isIn_y, ↓isIn_n, and_true, true_and, and_self, us_at, us_ne, w32_id, um_eq, um_ne, um_um, uu_eq, uu_ne, uu_uu, vv_eq, vv_ne, vv_vv, ne_eq, not_false_eq_true, not_true_eq_false, reduceCtorEq, Int.reduceAdd, Int.reduceSub, Int.reduceMul, Int.reduceNeg, Nat.reduceEqDiff, or_true, true_or, true_implies, false_implies, Int.reduceLT, Int.reduceLE, Int.reduceEq]
    exact k2 F _ hF q
  · refine ⟨-1, v, N, T, u, M, Rel_up h, fun F Q hF q => ?_, fun F Q q => ?_⟩
    · by_cases d0 : 0 ≤ x1 ∧ x1 ≤ 2 <;> by_cases d1 : 0 ≤ x2 ∧ x2 ≤ 2 <;> first | (exfalso; omega) | (simp (disch := first | omega | decide) only [mX11_move, mX11_isTrack, ↓kh_c8, ↓kh_g8_0, ↓kh_g8_1, ↓kh_g8_2, ↓kh_g8_3, ↓kh_g8_4, ↓kh_g8_5, ↓kh_g8_6, ↓kh_g8_7, ↓be_y, ↓be_n, ↓bf_y, ↓bf_n, ↓bl_y, ↓bl_n, ↓bm_y, ↓bm_n, ↓bg_y, ↓bg_n, ↓bs_y, ↓bs_n, ↓bo_y, ↓bo_n, ↓bp_y, ↓bp_n, ↓forall_eq, ↓within_y, ↓within_n, ↓isIn_y, ↓isIn_n, and_true, true_and, and_self, us_at, us_ne, w32_id, um_eq, um_ne, um_um, uu_eq, uu_ne, uu_uu, vv_eq, vv_ne, vv_vv, ne_eq, not_false_eq_true, not_true_eq_false, reduceCtorEq, Int.reduceAdd, Int.reduceSub, Int.reduceMul, Int.reduceNeg, Nat.reduceEqDiff, or_true, true_or, true_implies, false_implies, Int.reduceLT, Int.reduceLE, Int.reduceEq]; first | done | exact q)
    · by_cases d0 : 0 ≤ x1 ∧ x1 ≤ 2 <;> by_cases d1 : 0 ≤ x2 ∧ x2 ≤ 2 <;> first | (exfalso; omega) | (simp (disch := first | omega | decide) only [mX12_move, mX12_canMove, mX12_isTrack, ↓rh_rcv, ↓rh_g0, ↓be_y, ↓be_n, ↓bf_y, ↓bf_n, ↓bl_y, ↓bl_n, ↓bm_y, ↓bm_n, ↓bg_y, ↓bg_n, ↓bs_y, ↓bs_n, ↓bo_y, ↓bo_n, ↓bp_y, ↓bp_n, ↓forall_eq, ↓within_y, ↓within_n, ↓isIn_y, ↓isIn_n, and_true, true_and, and_self, us_at, us_ne, w32_id, um_eq, um_ne, um_um, uu_eq, uu_ne, uu_uu, vv_eq, vv_ne, vv_vv, ne_eq, not_false_eq_true, not_true_eq_false, reduceCtorEq, Int.reduceAdd, Int.reduceSub, Int.reduceMul, Int.reduceNeg, Nat.reduceEqDiff, or_true, true_or, true_implies, false_implies, Int.reduceLT, Int.reduceLE, Int.reduceEq]; first | done | exact q)
-- feet are changed
theorem fx_b {a c : Int} (ha : 0 ≤ a ∧ a ≤ 31) (hc : 0 ≤ c ∧ c ≤ 4) : 0 ≤ iXor a (iShl 1 c) ∧ iXor a (iShl 1 c) ≤ 31 := by
  have k : ∀ x, x < 32 → ∀ y, y < 5 → 0 ≤ iXor ((x : Nat) : Int) (iShl 1 ((y : Nat) : Int)) ∧ iXor ((x : Nat) : Int) (iShl 1 ((y : Nat) : Int)) ≤ 31 := by decide +kernel
  obtain ⟨x, rfl⟩ := Int.eq_ofNat_of_zero_le ha.1
  obtain ⟨y, rfl⟩ := Int.eq_ofNat_of_zero_le hc.1
  exact k x (by omega) y (by omega)
theorem whl (hY : jY (N 12) (M 70)) {w : Int} (hw : 0 ≤ w ∧ w ≤ 1) : N 12 (2 + w) = M 70 (9 + w) ∧ 0 ≤ M 70 (9 + w) ∧ M 70 (9 + w) ≤ 9 := by
  obtain ⟨e, -, -, -, -, -, -, y9, y10, -⟩ := jY_d hY
  obtain rfl | rfl : w = 0 ∨ w = 1 := by omega
  · exact ⟨e.2.2.1, y9⟩
  · exact ⟨e.2.2.2.1, y10⟩
theorem wid (hY : jY (N 12) (M 70)) {c : Int} (hc : 0 ≤ c ∧ c ≤ 4) : ∃ w, (w = 0 ∨ w = 1) ∧ (∀ (F : hp) (Q : Int → hp → Prop), Q w (kh F v N T) → mX10_isWide 11 c (kh F v N T) Q) ∧ (∀ (F : hp) (Q : Int → hp → Prop), Q w (rh F u M) → mX12_isWide 69 c (rh F u M) Q) := by
  refine ⟨if tb (M 70 30) c then 1 else 0, ?_, fun F Q q => (wide_c hY hc).2 q, fun F Q q => (wide_r hY hc).2 q⟩
  cases tb (M 70 30) c
  · exact .inl rfl
  · exact .inr rfl
theorem chf_b (hY : jY (N 12) (M 70)) (h23 : u 23 = 1) {c w : Int} (hz : zUp (M 70) 1 = c) (hc : 0 ≤ c ∧ c ≤ 4) (hw : w = 0 ∨ w = 1) (wc : ∀ (F : hp) (Q : Int → hp → Prop), Q w (kh F v N T) → mX10_isWide 11 c (kh F v N T) Q) (wr : ∀ (F : hp) (Q : Int → hp → Prop), Q w (rh F u M) → mX12_isWide 69 c (rh F u M) Q) (h0 : 0 < M 70 (9 + (1 - w))) : ∃ Y' A', jY Y' A' ∧ yag (M 70) A' ∧ (∀ (F : hp) (Q : hp → Prop), Q (kh F v (um N 12 Y') T) → mX10_changeFeet 11 c (kh F v N T) Q) ∧ (∀ (F : hp) (Q : Int → hp → Prop), Q c (rh F u (um M 70 A')) → mX12_changeNow 69 (rh F u M) Q) := by
  have w1 := whl hY (w := w) (by omega)
  have w2 := whl hY (w := 1 - w) (by omega)
  have e1 := w1.1
  have e2 := w2.1
  have k := jY_k hY
  have e5 := (jY_d hY).1.2.2.2.2.2.1
  have f30 := (jY_d hY).2.2.2.2.2.2.2.2.2.2.1
  have fb := fx_b f30 hc
  have ib := inc_b w1.2
  have q4 := iMin9 w1.2
  have q5 : ∀ F (Q : Int → hp → Prop), mX12_cut (M 70 (9 + w) + 1) 0 9 F Q ↔ Q (inc (M 70 (9 + w))) F := fun F Q => cut9 w1.2
  have j1 := jY_wr (jY_o (jY_f (jY_w (jY_w hY (w := 1 - w) (x := M 70 (9 + (1 - w)) - 1) (by omega) (by omega)) (w := w) (x := inc (M 70 (9 + w))) (by omega) ib) fb) (c := c) (x := 0) hc (by omega)) (c := c) (w := 1) (x := 1 - w) (by omega) (by omega) (by omega)
  have y29 := k.2.2.2.2.2.2.1
  have y0 := k.1
  have e11 := (jY_d hY).1.2.2.2.2.2.2
  refine ⟨_, _, j1, yag_t (yag_s (yag_s (yag_s (yag_s (yag_r _) (by omega)) (by omega)) (by omega)) (by omega)) (yag_wr (by simp (disch := omega) only [us_ne]; omega)), fun F Q q => ?_, fun F Q q => ?_⟩
  · have hj : mX10_changeFeet_J13 Q 11 c w (kh F v N T) := by
      have e3 : us (N 12) (2 + (1 - w)) (M 70 (9 + (1 - w)) - 1) (2 + w) = M 70 (9 + w) := by rw [us_ne (by omega), e1]
      simp (disch := first | omega | decide) only [mX10_changeFeet_J13, mX10_gainWheel, ↓kh_c11, ↓kh_g11_0, ↓kh_r12, ↓kh_w12, ↓kh_n12, ↓kh_cp12_33, ↓kh_cp12_68, ↓kh_cp12_12, ↓kh_cp12_14, ↓be_y, ↓be_n, ↓bf_y, ↓bf_n, ↓bl_y, ↓bl_n, ↓bm_y, ↓bm_n, ↓bg_y, ↓bg_n, ↓bs_y, ↓bs_n, ↓bo_y, ↓bo_n, ↓bp_y, ↓bp_n, ↓forall_eq, ↓within_y, ↓within_n, ↓isIn_y, ↓isIn_n, and_true, true_and, and_self, us_at, us_ne, w32_id, um_eq, um_ne, um_um, uu_eq, uu_ne, uu_uu, vv_eq, vv_ne, vv_vv, ne_eq, not_false_eq_true, not_true_eq_false, reduceCtorEq, Int.reduceAdd, Int.reduceSub, Int.reduceMul, Int.reduceNeg, Nat.reduceEqDiff, or_true, true_or, true_implies, false_implies, Int.reduceLT, Int.reduceLE, Int.reduceEq, e2, e1, e3, q4, e5]
      refine cwr12 ?_ ?_ (by omega) (by omega) (by omega) ?_
      · simp (disch := omega) only [um_eq, us_ne]; exact y29
      · simp (disch := omega) only [um_eq, us_ne]; exact y0
      · simp only [um_um, um_eq]
        exact q
    simp (disch := first | omega | decide) only [mX10_changeFeet, ↓kh_c11, ↓kh_g11_0, ↓be_y, ↓be_n, ↓bf_y, ↓bf_n, ↓bl_y, ↓bl_n, ↓bm_y, ↓bm_n, ↓bg_y, ↓bg_n, ↓bs_y, ↓bs_n, ↓bo_y, ↓bo_n, ↓bp_y, ↓bp_n, ↓forall_eq, ↓within_y, ↓within_n, ↓isIn_y, ↓isIn_n, and_true, true_and, and_self, us_at, us_ne, w32_id, um_eq, um_ne, um_um, uu_eq, uu_ne, uu_uu, vv_eq, vv_ne, vv_vv, ne_eq, not_false_eq_true, not_true_eq_false, reduceCtorEq, Int.reduceAdd, Int.reduceSub, Int.reduceMul, Int.reduceNeg, Nat.reduceEqDiff, or_true, true_or, true_implies, false_implies, Int.reduceLT, Int.reduceLE, Int.reduceEq]
    refine wc F _ ?_
    rcases hw with rfl | rfl
    · simp (disch := first | omega | decide) only [w32_id, ↓kh_c11, ↓kh_g11_0, ↓be_y, ↓be_n, ↓bf_y, ↓bf_n, ↓bl_y, ↓bl_n, ↓bm_y, ↓bm_n, ↓bg_y, ↓bg_n, ↓bs_y, ↓bs_n, ↓bo_y, ↓bo_n, ↓bp_y, ↓bp_n, ↓forall_eq, ↓within_y, ↓within_n, ↓isIn_y, ↓isIn_n, and_true, true_and, and_self, us_at, us_ne, w32_id, um_eq, um_ne, um_um, uu_eq, uu_ne, uu_uu, vv_eq, vv_ne, vv_vv, ne_eq, not_false_eq_true, not_true_eq_false, reduceCtorEq, Int.reduceAdd, Int.reduceSub, Int.reduceMul, Int.reduceNeg, Nat.reduceEqDiff, or_true, true_or, true_implies, false_implies, Int.reduceLT, Int.reduceLE, Int.reduceEq]
      exact hj
    · simp (disch := first | omega | decide) only [w32_id, ↓kh_c11, ↓kh_g11_0, ↓be_y, ↓be_n, ↓bf_y, ↓bf_n, ↓bl_y, ↓bl_n, ↓bm_y, ↓bm_n, ↓bg_y, ↓bg_n, ↓bs_y, ↓bs_n, ↓bo_y, ↓bo_n, ↓bp_y, ↓bp_n, ↓forall_eq, ↓within_y, ↓within_n, ↓isIn_y, ↓isIn_n, and_true, true_and, and_self, us_at, us_ne, w32_id, um_eq, um_ne, um_um, uu_eq, uu_ne, uu_uu, vv_eq, vv_ne, vv_vv, ne_eq, not_false_eq_true, not_true_eq_false, reduceCtorEq, Int.reduceAdd, Int.reduceSub, Int.reduceMul, Int.reduceNeg, Nat.reduceEqDiff, or_true, true_or, true_implies, false_implies, Int.reduceLT, Int.reduceLE, Int.reduceEq]
      exact hj
  · have e9 : 9 + (1 - w) = 10 - w := by omega
    rw [e9] at q
    simp (disch := first | omega | decide) only [mX12_changeNow, ↓up_r hY, hz, ↓rh_rcv, ↓rh_g0, ↓be_y, ↓be_n, ↓bf_y, ↓bf_n, ↓bl_y, ↓bl_n, ↓bm_y, ↓bm_n, ↓bg_y, ↓bg_n, ↓bs_y, ↓bs_n, ↓bo_y, ↓bo_n, ↓bp_y, ↓bp_n, ↓forall_eq, ↓within_y, ↓within_n, ↓isIn_y, ↓isIn_n, and_true, true_and, and_self, us_at, us_ne, w32_id, um_eq, um_ne, um_um, uu_eq, uu_ne, uu_uu, vv_eq, vv_ne, vv_vv, ne_eq, not_false_eq_true, not_true_eq_false, reduceCtorEq, Int.reduceAdd, Int.reduceSub, Int.reduceMul, Int.reduceNeg, Nat.reduceEqDiff, or_true, true_or, true_implies, false_implies, Int.reduceLT, Int.reduceLE, Int.reduceEq]
    refine wr F _ ?_
    have e3 : us (M 70) (10 - w) (M 70 (10 - w) - 1) (9 + w) = M 70 (9 + w) := us_ne (by omega)
    simp (disch := first | omega | decide) only [q5, ↓rh_rcv, ↓rh_g0, ↓rh_r70, ↓rh_w70, ↓be_y, ↓be_n, ↓bf_y, ↓bf_n, ↓bl_y, ↓bl_n, ↓bm_y, ↓bm_n, ↓bg_y, ↓bg_n, ↓bs_y, ↓bs_n, ↓bo_y, ↓bo_n, ↓bp_y, ↓bp_n, ↓forall_eq, ↓within_y, ↓within_n, ↓isIn_y, ↓isIn_n, and_true, true_and, and_self, us_at, us_ne, w32_id, um_eq, um_ne, um_um, uu_eq, uu_ne, uu_uu, vv_eq, vv_ne, vv_vv, ne_eq, not_false_eq_true, not_true_eq_false, reduceCtorEq, Int.reduceAdd, Int.reduceSub, Int.reduceMul, Int.reduceNeg, Nat.reduceEqDiff, or_true, true_or, true_implies, false_implies, Int.reduceLT, Int.reduceLE, Int.reduceEq, e3]
    refine write_s h23 (by simp (disch := omega) only [um_eq, us_ne]; omega) ?_
    simp only [um_um, um_eq]
    exact q
def shf (Q : Int → hp → Prop) (s c : Int) (F8 : hp) : Prop := (w32 s = 0 → mX9_swapFeet_J73 Q (some 11) c F8) ∧ (¬ w32 s = 0 → gR F8 (some 9) 9 0 (fun x11 => gR F8 x11 5 1 (fun x12 => rcv F8 x12 6 (fun o14 => mX6_keep o14 (some 11) F8 (fun F13 => mX9_swapFeet_J73 Q (some 11) c F13)))))
def wdx (A : Int → Int) : Int := if tb (A 30) (zUp A 1) then 1 else 0
theorem wdx_b (A : Int → Int) : wdx A = 0 ∨ wdx A = 1 := by
  unfold wdx
  cases tb (A 30) (zUp A 1)
  · exact .inl rfl
  · exact .inr rfl
theorem wdx_c (hY : jY (N 12) (M 70)) (hc : 0 ≤ zUp (M 70) 1 ∧ zUp (M 70) 1 ≤ 4) (F : hp) (Q : Int → hp → Prop) (q : Q (wdx (M 70)) (kh F v N T)) : mX10_isWide 11 (zUp (M 70) 1) (kh F v N T) Q := (wide_c hY hc).2 q
theorem wdx_r (hY : jY (N 12) (M 70)) (hc : 0 ≤ zUp (M 70) 1 ∧ zUp (M 70) 1 ≤ 4) (F : hp) (Q : Int → hp → Prop) (q : Q (wdx (M 70)) (rh F u M)) : mX12_isWide 69 (zUp (M 70) 1) (rh F u M) Q := (wide_r hY hc).2 q
theorem cch_b (h : Rel n G v N T u M) : ∃ b v' N' M', Rel n G v' N' T u M' ∧ (N' 12 = N 12 ∧ M' 70 = M 70) ∧ (b = 0 ∨ (b = 1 ∧ 0 < M 70 (12 + 1) ∧ 0 < M 70 (9 + (1 - wdx (M 70))))) ∧ (∀ (F : hp) (Q : Int → hp → Prop) (s : Int), (∀ h, 87 ≤ h → F h = G h) → (b = 0 → Q (-1) (kh F v' N' T)) → (b = 1 → shf Q s (zUp (M 70) 1) (kh F v' N' T)) → mX9_swapFeet 9 s (kh F v N T) Q) ∧ (∀ (F : hp) (Q : Int → hp → Prop), Q b (rh F u M') → mX12_canChange 69 (rh F u M) Q) := by
  obtain ⟨hY, hK, hC, hF', hB, hT, hS, hD, hX, hG⟩ := h.1
  have hcc := jY_c hY
  have x2' := hX.2.1
  have zf := zUp_b hY (t := 1) (by omega)
  rcases zf with ⟨z1, z2⟩ | ⟨z1, z2, z3, z4⟩
  · refine ⟨0, v, N, M, h, ⟨rfl, rfl⟩, .inl rfl, fun F Q s hF q0 q1 => ?_, fun F Q q => ?_⟩
    · simp (disch := first | omega | decide) only [mX9_swapFeet, ↓kh_c9, ↓kh_g9_0, ↓kh_g9_1, ↓kh_c10, ↓kh_g10_0, ↓kh_g10_1, ↓kh_g10_2, ↓kh_g10_3, ↓kh_g10_4, ↓kh_g10_5, ↓kh_g10_6, ↓kh_g10_7, ↓kh_g10_8, ↓kh_g10_9, ↓kh_g10_10, ↓kh_g10_11, ↓kh_g10_12, ↓kh_p10_12, ↓kh_g10_13, ↓kh_p10_13, ↓kh_g10_14, ↓kh_p10_14, ↓kh_g10_15, ↓kh_p10_15, ↓kh_c11, ↓kh_g11_0, ↓be_y, ↓be_n, ↓bf_y, ↓bf_n, ↓bl_y, ↓bl_n, ↓bm_y, ↓bm_n, ↓bg_y, ↓bg_n, ↓bs_y, ↓bs_n, ↓bo_y, ↓bo_n, ↓bp_y, ↓bp_n, ↓forall_eq, ↓within_y, ↓within_n, ↓isIn_y, ↓isIn_n, and_true, true_and, and_self, us_at, us_ne, w32_id, um_eq, um_ne, um_um, uu_eq, uu_ne, uu_uu, vv_eq, vv_ne, vv_vv, ne_eq, not_false_eq_true, not_true_eq_false, reduceCtorEq, Int.reduceAdd, Int.reduceSub, Int.reduceMul, Int.reduceNeg, Nat.reduceEqDiff, or_true, true_or, true_implies, false_implies, Int.reduceLT, Int.reduceLE, Int.reduceEq]
      refine up_c hY (by omega) ?_
      rw [z1]
      simp (disch := first | omega | decide) only [w32_id, ↓kh_c9, ↓kh_g9_0, ↓kh_g9_1, ↓be_y, ↓be_n, ↓bf_y, ↓bf_n, ↓bl_y, ↓bl_n, ↓bm_y, ↓bm_n, ↓bg_y, ↓bg_n, ↓bs_y, ↓bs_n, ↓bo_y, ↓bo_n, ↓bp_y, ↓bp_n, ↓forall_eq, ↓within_y, ↓within_n, ↓isIn_y, ↓isIn_n, and_true, true_and, and_self, us_at, us_ne, w32_id, um_eq, um_ne, um_um, uu_eq, uu_ne, uu_uu, vv_eq, vv_ne, vv_vv, ne_eq, not_false_eq_true, not_true_eq_false, reduceCtorEq, Int.reduceAdd, Int.reduceSub, Int.reduceMul, Int.reduceNeg, Nat.reduceEqDiff, or_true, true_or, true_implies, false_implies, Int.reduceLT, Int.reduceLE, Int.reduceEq]
      exact q0 rfl
    · simp (disch := first | omega | decide) only [mX12_canChange, ↓up_r hY, z1, ↓rh_rcv, ↓rh_g0, ↓be_y, ↓be_n, ↓bf_y, ↓bf_n, ↓bl_y, ↓bl_n, ↓bm_y, ↓bm_n, ↓bg_y, ↓bg_n, ↓bs_y, ↓bs_n, ↓bo_y, ↓bo_n, ↓bp_y, ↓bp_n, ↓forall_eq, ↓within_y, ↓within_n, ↓isIn_y, ↓isIn_n, and_true, true_and, and_self, us_at, us_ne, w32_id, um_eq, um_ne, um_um, uu_eq, uu_ne, uu_uu, vv_eq, vv_ne, vv_vv, ne_eq, not_false_eq_true, not_true_eq_false, reduceCtorEq, Int.reduceAdd, Int.reduceSub, Int.reduceMul, Int.reduceNeg, Nat.reduceEqDiff, or_true, true_or, true_implies, false_implies, Int.reduceLT, Int.reduceLE, Int.reduceEq]
      exact q
  have hw := wdx_b (M 70)
  have wc := wdx_c (v := v) (T := T) hY (by omega)
  have wr := wdx_r (u := u) hY (by omega)
  generalize wdx (M 70) = w at hw wc wr
  generalize hc : zUp (M 70) 1 = c at z2 z3 z4 wc wr
  have w2 := whl hY (w := 1 - w) (by omega)
  have e2 := w2.1
  have e9 : 9 + (1 - w) = 10 - w := by omega
  have hj : ∀ (F : hp) (Q : Int → hp → Prop) (s : Int), mX9_swapFeet_J33 Q 9 s (some 11) c (some 11) (1 - w) (kh F v N T) → mX9_swapFeet 9 s (kh F v N T) Q := fun F Q s q => by
    simp (disch := first | omega | decide) only [mX9_swapFeet, ↓kh_c9, ↓kh_g9_0, ↓kh_g9_1, ↓kh_c10, ↓kh_g10_0, ↓kh_g10_1, ↓kh_g10_2, ↓kh_g10_3, ↓kh_g10_4, ↓kh_g10_5, ↓kh_g10_6, ↓kh_g10_7, ↓kh_g10_8, ↓kh_g10_9, ↓kh_g10_10, ↓kh_g10_11, ↓kh_g10_12, ↓kh_p10_12, ↓kh_g10_13, ↓kh_p10_13, ↓kh_g10_14, ↓kh_p10_14, ↓kh_g10_15, ↓kh_p10_15, ↓kh_c11, ↓kh_g11_0, ↓be_y, ↓be_n, ↓bf_y, ↓bf_n, ↓bl_y, ↓bl_n, ↓bm_y, ↓bm_n, ↓bg_y, ↓bg_n, ↓bs_y, ↓bs_n, ↓bo_y, ↓bo_n, ↓bp_y, ↓bp_n, ↓forall_eq, ↓within_y, ↓within_n, ↓isIn_y, ↓isIn_n, and_true, true_and, and_self, us_at, us_ne, w32_id, um_eq, um_ne, um_um, uu_eq, uu_ne, uu_uu, vv_eq, vv_ne, vv_vv, ne_eq, not_false_eq_true, not_true_eq_false, reduceCtorEq, Int.reduceAdd, Int.reduceSub, Int.reduceMul, Int.reduceNeg, Nat.reduceEqDiff, or_true, true_or, true_implies, false_implies, Int.reduceLT, Int.reduceLE, Int.reduceEq]
    refine up_c hY (by omega) ?_
    rw [hc]
    simp (disch := first | omega | decide) only [w32_id, ↓kh_c9, ↓kh_g9_0, ↓kh_g9_1, ↓kh_c11, ↓kh_g11_0, ↓be_y, ↓be_n, ↓bf_y, ↓bf_n, ↓bl_y, ↓bl_n, ↓bm_y, ↓bm_n, ↓bg_y, ↓bg_n, ↓bs_y, ↓bs_n, ↓bo_y, ↓bo_n, ↓bp_y, ↓bp_n, ↓forall_eq, ↓within_y, ↓within_n, ↓isIn_y, ↓isIn_n, and_true, true_and, and_self, us_at, us_ne, w32_id, um_eq, um_ne, um_um, uu_eq, uu_ne, uu_uu, vv_eq, vv_ne, vv_vv, ne_eq, not_false_eq_true, not_true_eq_false, reduceCtorEq, Int.reduceAdd, Int.reduceSub, Int.reduceMul, Int.reduceNeg, Nat.reduceEqDiff, or_true, true_or, true_implies, false_implies, Int.reduceLT, Int.reduceLE, Int.reduceEq]
    refine wc F _ ?_
    rcases hw with rfl | rfl
    · simp (disch := first | omega | decide) only [w32_id, ↓kh_c11, ↓kh_g11_0, ↓be_y, ↓be_n, ↓bf_y, ↓bf_n, ↓bl_y, ↓bl_n, ↓bm_y, ↓bm_n, ↓bg_y, ↓bg_n, ↓bs_y, ↓bs_n, ↓bo_y, ↓bo_n, ↓bp_y, ↓bp_n, ↓forall_eq, ↓within_y, ↓within_n, ↓isIn_y, ↓isIn_n, and_true, true_and, and_self, us_at, us_ne, w32_id, um_eq, um_ne, um_um, uu_eq, uu_ne, uu_uu, vv_eq, vv_ne, vv_vv, ne_eq, not_false_eq_true, not_true_eq_false, reduceCtorEq, Int.reduceAdd, Int.reduceSub, Int.reduceMul, Int.reduceNeg, Nat.reduceEqDiff, or_true, true_or, true_implies, false_implies, Int.reduceLT, Int.reduceLE, Int.reduceEq]
      exact q
    · simp (disch := first | omega | decide) only [w32_id, ↓kh_c11, ↓kh_g11_0, ↓be_y, ↓be_n, ↓bf_y, ↓bf_n, ↓bl_y, ↓bl_n, ↓bm_y, ↓bm_n, ↓bg_y, ↓bg_n, ↓bs_y, ↓bs_n, ↓bo_y, ↓bo_n, ↓bp_y, ↓bp_n, ↓forall_eq, ↓within_y, ↓within_n, ↓isIn_y, ↓isIn_n, and_true, true_and, and_self, us_at, us_ne, w32_id, um_eq, um_ne, um_um, uu_eq, uu_ne, uu_uu, vv_eq, vv_ne, vv_vv, ne_eq, not_false_eq_true, not_true_eq_false, reduceCtorEq, Int.reduceAdd, Int.reduceSub, Int.reduceMul, Int.reduceNeg, Nat.reduceEqDiff, or_true, true_or, true_implies, false_implies, Int.reduceLT, Int.reduceLE, Int.reduceEq]
      exact q
  by_cases d0 : M 70 (9 + (1 - w)) = 0
  · refine ⟨0, v, N, M, h, ⟨rfl, rfl⟩, .inl rfl, fun F Q s hF q0 q1 => hj F Q s ?_, fun F Q q => ?_⟩
    · simp (disch := first | omega | decide) only [mX9_swapFeet_J33, mX10_wheelsOf, ↓kh_c9, ↓kh_g9_0, ↓kh_g9_1, ↓kh_c10, ↓kh_g10_0, ↓kh_g10_1, ↓kh_g10_2, ↓kh_g10_3, ↓kh_g10_4, ↓kh_g10_5, ↓kh_g10_6, ↓kh_g10_7, ↓kh_g10_8, ↓kh_g10_9, ↓kh_g10_10, ↓kh_g10_11, ↓kh_g10_12, ↓kh_p10_12, ↓kh_g10_13, ↓kh_p10_13, ↓kh_g10_14, ↓kh_p10_14, ↓kh_g10_15, ↓kh_p10_15, ↓kh_c11, ↓kh_g11_0, ↓kh_r12, ↓kh_w12, ↓kh_n12, ↓kh_cp12_33, ↓kh_cp12_68, ↓kh_cp12_12, ↓kh_cp12_14, ↓be_y, ↓be_n, ↓bf_y, ↓bf_n, ↓bl_y, ↓bl_n, ↓bm_y, ↓bm_n, ↓bg_y, ↓bg_n, ↓bs_y, ↓bs_n, ↓bo_y, ↓bo_n, ↓bp_y, ↓bp_n, ↓forall_eq, ↓within_y, ↓within_n, ↓isIn_y, ↓isIn_n, and_true, true_and, and_self, us_at, us_ne, w32_id, um_eq, um_ne, um_um, uu_eq, uu_ne, uu_uu, vv_eq, vv_ne, vv_vv, ne_eq, not_false_eq_true, not_true_eq_false, reduceCtorEq, Int.reduceAdd, Int.reduceSub, Int.reduceMul, Int.reduceNeg, Nat.reduceEqDiff, or_true, true_or, true_implies, false_implies, Int.reduceLT, Int.reduceLE, Int.reduceEq, e2]
      exact q0 rfl
    · simp (disch := first | omega | decide) only [mX12_canChange, ↓up_r hY, hc, ↓rh_rcv, ↓rh_g0, ↓be_y, ↓be_n, ↓bf_y, ↓bf_n, ↓bl_y, ↓bl_n, ↓bm_y, ↓bm_n, ↓bg_y, ↓bg_n, ↓bs_y, ↓bs_n, ↓bo_y, ↓bo_n, ↓bp_y, ↓bp_n, ↓forall_eq, ↓within_y, ↓within_n, ↓isIn_y, ↓isIn_n, and_true, true_and, and_self, us_at, us_ne, w32_id, um_eq, um_ne, um_um, uu_eq, uu_ne, uu_uu, vv_eq, vv_ne, vv_vv, ne_eq, not_false_eq_true, not_true_eq_false, reduceCtorEq, Int.reduceAdd, Int.reduceSub, Int.reduceMul, Int.reduceNeg, Nat.reduceEqDiff, or_true, true_or, true_implies, false_implies, Int.reduceLT, Int.reduceLE, Int.reduceEq]
      refine wr F _ ?_
      rw [e9] at d0
      simp (disch := first | omega | decide) only [w32_id, ↓rh_rcv, ↓rh_g0, ↓rh_r70, ↓rh_w70, ↓be_y, ↓be_n, ↓bf_y, ↓bf_n, ↓bl_y, ↓bl_n, ↓bm_y, ↓bm_n, ↓bg_y, ↓bg_n, ↓bs_y, ↓bs_n, ↓bo_y, ↓bo_n, ↓bp_y, ↓bp_n, ↓forall_eq, ↓within_y, ↓within_n, ↓isIn_y, ↓isIn_n, and_true, true_and, and_self, us_at, us_ne, w32_id, um_eq, um_ne, um_um, uu_eq, uu_ne, uu_uu, vv_eq, vv_ne, vv_vv, ne_eq, not_false_eq_true, not_true_eq_false, reduceCtorEq, Int.reduceAdd, Int.reduceSub, Int.reduceMul, Int.reduceNeg, Nat.reduceEqDiff, or_true, true_or, true_implies, false_implies, Int.reduceLT, Int.reduceLE, Int.reduceEq]
      exact q
  obtain ⟨r, v', N', M', r0, k1, k2, k3, k4⟩ := chg_b h (c := c) (by omega) (k0 := M 70 2) (by omega) (rf := if M 70 2 = -1 then none else T 27 (M 70 2)) ⟨fun e => by rw [if_pos e], fun e => by rw [if_neg (by omega)]⟩
  have hq : ∀ (F : hp) (Q : Int → hp → Prop) (s : Int), (∀ h, 87 ≤ h → F h = G h) → ((0 < w32 r → shf Q s c (kh F v' N' T)) ∧ (¬ 0 < w32 r → Q (-1) (kh F v' N' T))) → mX9_swapFeet 9 s (kh F v N T) Q := fun F Q s hF q => hj F Q s (by
    simp (disch := first | omega | decide) only [mX9_swapFeet_J33, mX10_wheelsOf, ↓kh_c9, ↓kh_g9_0, ↓kh_g9_1, ↓kh_c10, ↓kh_g10_0, ↓kh_g10_1, ↓kh_g10_2, ↓kh_g10_3, ↓kh_g10_4, ↓kh_g10_5, ↓kh_g10_6, ↓kh_g10_7, ↓kh_g10_8, ↓kh_g10_9, ↓kh_g10_10, ↓kh_g10_11, ↓kh_g10_12, ↓kh_p10_12, ↓kh_g10_13, ↓kh_p10_13, ↓kh_g10_14, ↓kh_p10_14, ↓kh_g10_15, ↓kh_p10_15, ↓kh_c11, ↓kh_g11_0, ↓kh_r12, ↓kh_w12, ↓kh_n12, ↓kh_cp12_33, ↓kh_cp12_68, ↓kh_cp12_12, ↓kh_cp12_14, ↓be_y, ↓be_n, ↓bf_y, ↓bf_n, ↓bl_y, ↓bl_n, ↓bm_y, ↓bm_n, ↓bg_y, ↓bg_n, ↓bs_y, ↓bs_n, ↓bo_y, ↓bo_n, ↓bp_y, ↓bp_n, ↓forall_eq, ↓within_y, ↓within_n, ↓isIn_y, ↓isIn_n, and_true, true_and, and_self, us_at, us_ne, w32_id, um_eq, um_ne, um_um, uu_eq, uu_ne, uu_uu, vv_eq, vv_ne, vv_vv, ne_eq, not_false_eq_true, not_true_eq_false, reduceCtorEq, Int.reduceAdd, Int.reduceSub, Int.reduceMul, Int.reduceNeg, Nat.reduceEqDiff, or_true, true_or, true_implies, false_implies, Int.reduceLT, Int.reduceLE, Int.reduceEq, e2]
    by_cases e : M 70 2 = -1
    · rw [if_pos e] at k3
      refine rul_n hX e ?_
      simp (disch := first | omega | decide) only [w32_id, ↓kh_c9, ↓kh_g9_0, ↓kh_g9_1, ↓be_y, ↓be_n, ↓bf_y, ↓bf_n, ↓bl_y, ↓bl_n, ↓bm_y, ↓bm_n, ↓bg_y, ↓bg_n, ↓bs_y, ↓bs_n, ↓bo_y, ↓bo_n, ↓bp_y, ↓bp_n, ↓forall_eq, ↓within_y, ↓within_n, ↓isIn_y, ↓isIn_n, and_true, true_and, and_self, us_at, us_ne, w32_id, um_eq, um_ne, um_um, uu_eq, uu_ne, uu_uu, vv_eq, vv_ne, vv_vv, ne_eq, not_false_eq_true, not_true_eq_false, reduceCtorEq, Int.reduceAdd, Int.reduceSub, Int.reduceMul, Int.reduceNeg, Nat.reduceEqDiff, or_true, true_or, true_implies, false_implies, Int.reduceLT, Int.reduceLE, Int.reduceEq]
      exact k3 F _ hF q
    · rw [if_neg e] at k3
      refine rul_y hX (by omega) ?_
      simp (disch := first | omega | decide) only [w32_id, ↓kh_c9, ↓kh_g9_0, ↓kh_g9_1, ↓be_y, ↓be_n, ↓bf_y, ↓bf_n, ↓bl_y, ↓bl_n, ↓bm_y, ↓bm_n, ↓bg_y, ↓bg_n, ↓bs_y, ↓bs_n, ↓bo_y, ↓bo_n, ↓bp_y, ↓bp_n, ↓forall_eq, ↓within_y, ↓within_n, ↓isIn_y, ↓isIn_n, and_true, true_and, and_self, us_at, us_ne, w32_id, um_eq, um_ne, um_um, uu_eq, uu_ne, uu_uu, vv_eq, vv_ne, vv_vv, ne_eq, not_false_eq_true, not_true_eq_false, reduceCtorEq, Int.reduceAdd, Int.reduceSub, Int.reduceMul, Int.reduceNeg, Nat.reduceEqDiff, or_true, true_or, true_implies, false_implies, Int.reduceLT, Int.reduceLE, Int.reduceEq]
      exact k3 F _ hF q)
  have hr : ∀ (F : hp) (Q : Int → hp → Prop), ((0 < w32 r → Q 1 (rh F u M')) ∧ (¬ 0 < w32 r → Q 0 (rh F u M'))) → mX12_canChange 69 (rh F u M) Q := fun F Q q => by
    simp (disch := first | omega | decide) only [mX12_canChange, ↓up_r hY, hc, ↓rh_rcv, ↓rh_g0, ↓be_y, ↓be_n, ↓bf_y, ↓bf_n, ↓bl_y, ↓bl_n, ↓bm_y, ↓bm_n, ↓bg_y, ↓bg_n, ↓bs_y, ↓bs_n, ↓bo_y, ↓bo_n, ↓bp_y, ↓bp_n, ↓forall_eq, ↓within_y, ↓within_n, ↓isIn_y, ↓isIn_n, and_true, true_and, and_self, us_at, us_ne, w32_id, um_eq, um_ne, um_um, uu_eq, uu_ne, uu_uu, vv_eq, vv_ne, vv_vv, ne_eq, not_false_eq_true, not_true_eq_false, reduceCtorEq, Int.reduceAdd, Int.reduceSub, Int.reduceMul, Int.reduceNeg, Nat.reduceEqDiff, or_true, true_or, true_implies, false_implies, Int.reduceLT, Int.reduceLE, Int.reduceEq]
    refine wr F _ ?_
    rw [e9] at d0
    rw [e9] at w2
    simp (disch := first | omega | decide) only [w32_id, ↓rh_rcv, ↓rh_g0, ↓rh_r70, ↓rh_w70, ↓be_y, ↓be_n, ↓bf_y, ↓bf_n, ↓bl_y, ↓bl_n, ↓bm_y, ↓bm_n, ↓bg_y, ↓bg_n, ↓bs_y, ↓bs_n, ↓bo_y, ↓bo_n, ↓bp_y, ↓bp_n, ↓forall_eq, ↓within_y, ↓within_n, ↓isIn_y, ↓isIn_n, and_true, true_and, and_self, us_at, us_ne, w32_id, um_eq, um_ne, um_um, uu_eq, uu_ne, uu_uu, vv_eq, vv_ne, vv_vv, ne_eq, not_false_eq_true, not_true_eq_false, reduceCtorEq, Int.reduceAdd, Int.reduceSub, Int.reduceMul, Int.reduceNeg, Nat.reduceEqDiff, or_true, true_or, true_implies, false_implies, Int.reduceLT, Int.reduceLE, Int.reduceEq]
    exact k4 F _ q
  by_cases dr : 0 < r
  · refine ⟨1, v', N', M', k1, ⟨k2.1, k2.2.1⟩, .inr ⟨rfl, z1, by omega⟩, fun F Q s hF q0 q1 => hq F Q s hF ?_, fun F Q q => hr F Q ?_⟩
    · rw [bg_y (by omega)]
      exact q1 rfl
    · rw [bg_y (by omega)]
      exact q
  · refine ⟨0, v', N', M', k1, ⟨k2.1, k2.2.1⟩, .inl rfl, fun F Q s hF q0 q1 => hq F Q s hF ?_, fun F Q q => hr F Q ?_⟩
    · rw [bg_n (by omega)]
      exact q0 rfl
    · rw [bg_n (by omega)]
      exact q
theorem change_b (h : Rel n G v N T u M) : ∃ r v' N' M', ((-1 ≤ r ∧ r ≤ 4) ∧ M' 70 1 = M 70 1) ∧ Rel n G v' N' T u M' ∧ (∀ (F : hp) (Q : Int → hp → Prop), (∀ h, 87 ≤ h → F h = G h) → Q r (kh F v' N' T) → mX9_swapFeet 9 1 (kh F v N T) Q) ∧ (∀ (F : hp) (Q : Int → hp → Prop), Q r (rh F u M') → mX12_change 69 (rh F u M) Q) := by
  have hcc := jY_c h.1.1
  have f1 := (trk h.1.1 (t := 1) (by omega)).1
  have zf := zUp_b h.1.1 (t := 1) (by omega)
  obtain ⟨b, v1, N1, M1, h1, ⟨a1, a2⟩, b0, k1, k2⟩ := cch_b h
  rcases b0 with rfl | ⟨rfl, d1, d2⟩
  · refine ⟨-1, v1, N1, M1, ⟨by omega, by rw [a2]⟩, h1, fun F Q hF q => k1 F Q 1 hF (fun _ => q) (fun e => by cases e), fun F Q q => ?_⟩
    simp (disch := first | omega | decide) only [mX12_change, ↓rh_rcv, ↓rh_g0, ↓be_y, ↓be_n, ↓bf_y, ↓bf_n, ↓bl_y, ↓bl_n, ↓bm_y, ↓bm_n, ↓bg_y, ↓bg_n, ↓bs_y, ↓bs_n, ↓bo_y, ↓bo_n, ↓bp_y, ↓bp_n, ↓forall_eq, ↓within_y, ↓within_n, ↓isIn_y, ↓isIn_n, and_true, true_and, and_self, us_at, us_ne, w32_id, um_eq, um_ne, um_um, uu_eq, uu_ne, uu_uu, vv_eq, vv_ne, vv_vv, ne_eq, not_false_eq_true, not_true_eq_false, reduceCtorEq, Int.reduceAdd, Int.reduceSub, Int.reduceMul, Int.reduceNeg, Nat.reduceEqDiff, or_true, true_or, true_implies, false_implies, Int.reduceLT, Int.reduceLE, Int.reduceEq]
    refine k2 F _ ?_
    simp (disch := first | omega | decide) only [w32_id, ↓rh_rcv, ↓rh_g0, ↓be_y, ↓be_n, ↓bf_y, ↓bf_n, ↓bl_y, ↓bl_n, ↓bm_y, ↓bm_n, ↓bg_y, ↓bg_n, ↓bs_y, ↓bs_n, ↓bo_y, ↓bo_n, ↓bp_y, ↓bp_n, ↓forall_eq, ↓within_y, ↓within_n, ↓isIn_y, ↓isIn_n, and_true, true_and, and_self, us_at, us_ne, w32_id, um_eq, um_ne, um_um, uu_eq, uu_ne, uu_uu, vv_eq, vv_ne, vv_vv, ne_eq, not_false_eq_true, not_true_eq_false, reduceCtorEq, Int.reduceAdd, Int.reduceSub, Int.reduceMul, Int.reduceNeg, Nat.reduceEqDiff, or_true, true_or, true_implies, false_implies, Int.reduceLT, Int.reduceLE, Int.reduceEq]
    exact q
  · obtain ⟨v2, K', A', h2, g1, g2, g3, g4⟩ := keep_b h1
    have ez : zUp (um M1 70 A' 70) 1 = zUp (M 70) 1 := zUp_cg (fun i i0 i1 => by rw [um_eq, g1 _ (by omega), a2]) (by omega) f1.2
    have ew : wdx (um M1 70 A' 70) = wdx (M 70) := by
      unfold wdx
      rw [ez, um_eq, g1 _ (by omega), a2]
    have hw := wdx_b (M 70)
    obtain ⟨Y', A2, m1, m2, m3, m4⟩ := chf_b (v := v2) (T := T) (N := um N1 14 K') (M := um M1 70 A') (u := u) h2.1.1 h2.2.2.2.2.1 (c := zUp (um M1 70 A' 70) 1) (w := wdx (um M1 70 A' 70)) rfl (by rw [ez]; omega) (wdx_b _) (wdx_c h2.1.1 (by rw [ez]; omega)) (wdx_r h2.1.1 (by rw [ez]; omega)) (by rw [ew, um_eq, g1 _ (by omega), a2]; exact d2)
    rw [ez] at m3 m4
    refine ⟨zUp (M 70) 1, v2, um (um N1 14 K') 12 Y', um (um M1 70 A') 70 A2, ⟨by omega, by rw [um_eq, m2 1 (by omega), um_eq, g1 1 (by omega), a2]⟩, Rel_y h2 m1 m2, fun F Q hF q => k1 F Q 1 hF (fun e => by cases e) (fun _ => ?_), fun F Q q => ?_⟩
    · simp (disch := first | omega | decide) only [shf, mX9_swapFeet_J73, ↓kh_c9, ↓kh_g9_0, ↓kh_g9_1, ↓kh_c10, ↓kh_g10_0, ↓kh_g10_1, ↓kh_g10_2, ↓kh_g10_3, ↓kh_g10_4, ↓kh_g10_5, ↓kh_g10_6, ↓kh_g10_7, ↓kh_g10_8, ↓kh_g10_9, ↓kh_g10_10, ↓kh_g10_11, ↓kh_g10_12, ↓kh_p10_12, ↓kh_g10_13, ↓kh_p10_13, ↓kh_g10_14, ↓kh_p10_14, ↓kh_g10_15, ↓kh_p10_15, ↓kh_c11, ↓kh_g11_0, ↓kh_c13, ↓kh_g13_0, ↓kh_g13_1, ↓kh_p13_1, ↓kh_g13_2, ↓kh_p13_2, ↓be_y, ↓be_n, ↓bf_y, ↓bf_n, ↓bl_y, ↓bl_n, ↓bm_y, ↓bm_n, ↓bg_y, ↓bg_n, ↓bs_y, ↓bs_n, ↓bo_y, ↓bo_n, ↓bp_y, ↓bp_n, ↓forall_eq, ↓within_y, ↓within_n, ↓isIn_y, ↓isIn_n, and_true, true_and, and_self, us_at, us_ne, w32_id, um_eq, um_ne, um_um, uu_eq, uu_ne, uu_uu, vv_eq, vv_ne, vv_vv, ne_eq, not_false_eq_true, not_true_eq_false, reduceCtorEq, Int.reduceAdd, Int.reduceSub, Int.reduceMul, Int.reduceNeg, Nat.reduceEqDiff, or_true, true_or, true_implies, false_implies, Int.reduceLT, Int.reduceLE, Int.reduceEq]
      refine g3 F _ ?_
      simp (disch := first | omega | decide) only [w32_id, ↓kh_c11, ↓kh_g11_0, ↓be_y, ↓be_n, ↓bf_y, ↓bf_n, ↓bl_y, ↓bl_n, ↓bm_y, ↓bm_n, ↓bg_y, ↓bg_n, ↓bs_y, ↓bs_n, ↓bo_y, ↓bo_n, ↓bp_y, ↓bp_n, ↓forall_eq, ↓within_y, ↓within_n, ↓isIn_y, ↓isIn_n, and_true, true_and, and_self, us_at, us_ne, w32_id, um_eq, um_ne, um_um, uu_eq, uu_ne, uu_uu, vv_eq, vv_ne, vv_vv, ne_eq, not_false_eq_true, not_true_eq_false, reduceCtorEq, Int.reduceAdd, Int.reduceSub, Int.reduceMul, Int.reduceNeg, Nat.reduceEqDiff, or_true, true_or, true_implies, false_implies, Int.reduceLT, Int.reduceLE, Int.reduceEq]
      exact m3 F _ q
    · simp (disch := first | omega | decide) only [mX12_change, ↓rh_rcv, ↓rh_g0, ↓be_y, ↓be_n, ↓bf_y, ↓bf_n, ↓bl_y, ↓bl_n, ↓bm_y, ↓bm_n, ↓bg_y, ↓bg_n, ↓bs_y, ↓bs_n, ↓bo_y, ↓bo_n, ↓bp_y, ↓bp_n, ↓forall_eq, ↓within_y, ↓within_n, ↓isIn_y, ↓isIn_n, and_true, true_and, and_self, us_at, us_ne, w32_id, um_eq, um_ne, um_um, uu_eq, uu_ne, uu_uu, vv_eq, vv_ne, vv_vv, ne_eq, not_false_eq_true, not_true_eq_false, reduceCtorEq, Int.reduceAdd, Int.reduceSub, Int.reduceMul, Int.reduceNeg, Nat.reduceEqDiff, or_true, true_or, true_implies, false_implies, Int.reduceLT, Int.reduceLE, Int.reduceEq]
      refine k2 F _ ?_
      simp (disch := first | omega | decide) only [w32_id, ↓rh_rcv, ↓rh_g0, ↓be_y, ↓be_n, ↓bf_y, ↓bf_n, ↓bl_y, ↓bl_n, ↓bm_y, ↓bm_n, ↓bg_y, ↓bg_n, ↓bs_y, ↓bs_n, ↓bo_y, ↓bo_n, ↓bp_y, ↓bp_n, ↓forall_eq, ↓within_y, ↓within_n, ↓isIn_y, ↓isIn_n, and_true, true_and, and_self, us_at, us_ne, w32_id, um_eq, um_ne, um_um, uu_eq, uu_ne, uu_uu, vv_eq, vv_ne, vv_vv, ne_eq, not_false_eq_true, not_true_eq_false, reduceCtorEq, Int.reduceAdd, Int.reduceSub, Int.reduceMul, Int.reduceNeg, Nat.reduceEqDiff, or_true, true_or, true_implies, false_implies, Int.reduceLT, Int.reduceLE, Int.reduceEq]
      refine g4 F _ ?_
      simp (disch := first | omega | decide) only [w32_id, ↓rh_rcv, ↓rh_g0, ↓be_y, ↓be_n, ↓bf_y, ↓bf_n, ↓bl_y, ↓bl_n, ↓bm_y, ↓bm_n, ↓bg_y, ↓bg_n, ↓bs_y, ↓bs_n, ↓bo_y, ↓bo_n, ↓bp_y, ↓bp_n, ↓forall_eq, ↓within_y, ↓within_n, ↓isIn_y, ↓isIn_n, and_true, true_and, and_self, us_at, us_ne, w32_id, um_eq, um_ne, um_um, uu_eq, uu_ne, uu_uu, vv_eq, vv_ne, vv_vv, ne_eq, not_false_eq_true, not_true_eq_false, reduceCtorEq, Int.reduceAdd, Int.reduceSub, Int.reduceMul, Int.reduceNeg, Nat.reduceEqDiff, or_true, true_or, true_implies, false_implies, Int.reduceLT, Int.reduceLE, Int.reduceEq]
      exact m4 F _ q
theorem changeq_b (h : Rel n G v N T u M) : ∃ r v' N' M', Rel n G v' N' T u M' ∧ (∀ (F : hp) (Q : Int → hp → Prop), (∀ h, 87 ≤ h → F h = G h) → Q r (kh F v' N' T) → mX9_swapFeet 9 0 (kh F v N T) Q) ∧ (∀ (F : hp) (Q : hp → Prop), Q (rh F u M') → mX12_canChange 69 (rh F u M) (fun x3 F2 => (w32 x3 = 0 → Q F2) ∧ (¬ w32 x3 = 0 → rcv F2 (some 69) 12 (fun o7 => mX12_changeNow o7 F2 (fun x6 F5 => (w32 x6 < 0 → Q F5) ∧ (¬ w32 x6 < 0 → Q F5)))))) := by
  have hcc := jY_c h.1.1
  have zf := zUp_b h.1.1 (t := 1) (by omega)
  obtain ⟨b, v1, N1, M1, h1, ⟨a1, a2⟩, b0, k1, k2⟩ := cch_b h
  rcases b0 with rfl | ⟨rfl, d1, d2⟩
  · refine ⟨-1, v1, N1, M1, h1, fun F Q hF q => k1 F Q 0 hF (fun _ => q) (fun e => by cases e), fun F Q q => ?_⟩
    refine k2 F _ ?_
    simp (disch := first | omega | decide) only [w32_id, ↓rh_rcv, ↓rh_g0, ↓be_y, ↓be_n, ↓bf_y, ↓bf_n, ↓bl_y, ↓bl_n, ↓bm_y, ↓bm_n, ↓bg_y, ↓bg_n, ↓bs_y, ↓bs_n, ↓bo_y, ↓bo_n, ↓bp_y, ↓bp_n, ↓forall_eq, ↓within_y, ↓within_n, ↓isIn_y, ↓isIn_n, and_true, true_and, and_self, us_at, us_ne, w32_id, um_eq, um_ne, um_um, uu_eq, uu_ne, uu_uu, vv_eq, vv_ne, vv_vv, ne_eq, not_false_eq_true, not_true_eq_false, reduceCtorEq, Int.reduceAdd, Int.reduceSub, Int.reduceMul, Int.reduceNeg, Nat.reduceEqDiff, or_true, true_or, true_implies, false_implies, Int.reduceLT, Int.reduceLE, Int.reduceEq]
    exact q
  · obtain ⟨Y', A2, m1, m2, m3, m4⟩ := chf_b (v := v1) (T := T) (N := N1) (M := M1) (u := u) h1.1.1 h1.2.2.2.2.1 (c := zUp (M1 70) 1) (w := wdx (M1 70)) rfl (by rw [a2]; omega) (wdx_b _) (wdx_c h1.1.1 (by rw [a2]; omega)) (wdx_r h1.1.1 (by rw [a2]; omega)) (by rw [a2]; exact d2)
    rw [a2] at m3 m4
    refine ⟨zUp (M 70) 1, v1, um N1 12 Y', um M1 70 A2, Rel_y h1 m1 m2, fun F Q hF q => k1 F Q 0 hF (fun e => by cases e) (fun _ => ?_), fun F Q q => ?_⟩
    · simp (disch := first | omega | decide) only [shf, mX9_swapFeet_J73, ↓kh_c9, ↓kh_g9_0, ↓kh_g9_1, ↓kh_c10, ↓kh_g10_0, ↓kh_g10_1, ↓kh_g10_2, ↓kh_g10_3, ↓kh_g10_4, ↓kh_g10_5, ↓kh_g10_6, ↓kh_g10_7, ↓kh_g10_8, ↓kh_g10_9, ↓kh_g10_10, ↓kh_g10_11, ↓kh_g10_12, ↓kh_p10_12, ↓kh_g10_13, ↓kh_p10_13, ↓kh_g10_14, ↓kh_p10_14, ↓kh_g10_15, ↓kh_p10_15, ↓kh_c11, ↓kh_g11_0, ↓kh_c13, ↓kh_g13_0, ↓kh_g13_1, ↓kh_p13_1, ↓kh_g13_2, ↓kh_p13_2, ↓be_y, ↓be_n, ↓bf_y, ↓bf_n, ↓bl_y, ↓bl_n, ↓bm_y, ↓bm_n, ↓bg_y, ↓bg_n, ↓bs_y, ↓bs_n, ↓bo_y, ↓bo_n, ↓bp_y, ↓bp_n, ↓forall_eq, ↓within_y, ↓within_n, ↓isIn_y, ↓isIn_n, and_true, true_and, and_self, us_at, us_ne, w32_id, um_eq, um_ne, um_um, uu_eq, uu_ne, uu_uu, vv_eq, vv_ne, vv_vv, ne_eq, not_false_eq_true, not_true_eq_false, reduceCtorEq, Int.reduceAdd, Int.reduceSub, Int.reduceMul, Int.reduceNeg, Nat.reduceEqDiff, or_true, true_or, true_implies, false_implies, Int.reduceLT, Int.reduceLE, Int.reduceEq]
      exact m3 F _ q
    · refine k2 F _ ?_
      simp (disch := first | omega | decide) only [w32_id, ↓rh_rcv, ↓rh_g0, ↓be_y, ↓be_n, ↓bf_y, ↓bf_n, ↓bl_y, ↓bl_n, ↓bm_y, ↓bm_n, ↓bg_y, ↓bg_n, ↓bs_y, ↓bs_n, ↓bo_y, ↓bo_n, ↓bp_y, ↓bp_n, ↓forall_eq, ↓within_y, ↓within_n, ↓isIn_y, ↓isIn_n, and_true, true_and, and_self, us_at, us_ne, w32_id, um_eq, um_ne, um_um, uu_eq, uu_ne, uu_uu, vv_eq, vv_ne, vv_vv, ne_eq, not_false_eq_true, not_true_eq_false, reduceCtorEq, Int.reduceAdd, Int.reduceSub, Int.reduceMul, Int.reduceNeg, Nat.reduceEqDiff, or_true, true_or, true_implies, false_implies, Int.reduceLT, Int.reduceLE, Int.reduceEq]
      refine m4 F _ ?_
      by_cases d : w32 (zUp (M 70) 1) < 0
      · exact ⟨fun _ => q, fun e => absurd d e⟩
      · exact ⟨fun e => absurd e d, fun _ => q⟩
theorem op_change : OP n (mX11_change 8) (mX12_change 69) := by
  refine op_tg (fun G v N T u M h => ?_)
  obtain ⟨r, v', N', M', r0, k1, k2, k3⟩ := change_b h
  refine ⟨r, v', N', T, u, M', Rel_up k1, fun F Q hF q => ?_, k3⟩
  simp (disch := first | omega | decide) only [mX11_change, ↓kh_c8, ↓kh_g8_0, ↓kh_g8_1, ↓kh_g8_2, ↓kh_g8_3, ↓kh_g8_4, ↓kh_g8_5, ↓kh_g8_6, ↓kh_g8_7, ↓kh_c9, ↓kh_g9_0, ↓kh_g9_1, ↓be_y, ↓be_n, ↓bf_y, ↓bf_n, ↓bl_y, ↓bl_n, ↓bm_y, ↓bm_n, ↓bg_y, ↓bg_n, ↓bs_y, ↓bs_n, ↓bo_y, ↓bo_n, ↓bp_y, ↓bp_n, ↓forall_eq, ↓within_y, ↓within_n, ↓isIn_y, ↓isIn_n, and_true, true_and, and_self, us_at, us_ne, w32_id, um_eq, um_ne, um_um, uu_eq, uu_ne, uu_uu, vv_eq, vv_ne, vv_vv, ne_eq, not_false_eq_true, not_true_eq_false, reduceCtorEq, Int.reduceAdd, Int.reduceSub, Int.reduceMul, Int.reduceNeg, Nat.reduceEqDiff, or_true, true_or, true_implies, false_implies, Int.reduceLT, Int.reduceLE, Int.reduceEq]
  exact k2 F _ hF q
end PL
