section SX
variable {n P : Int} {v : Nat → Nat → Int} {N : Nat → Int → Int} {u : Nat → Int} {M : Nat → Int → Int} {s : std}
theorem mv_all (h : svl n s) (hn : 0 ≤ n ∧ n ≤ 5) (hr : rrep s (M 80) (M 81)) {f t c : Int} {r : List Int} (hf : 0 ≤ f ∧ f < 3) (ht : 0 ≤ t ∧ t < 3) (d : f ≠ t) (e : sg s f = c :: r) : ∃ M', rrep (moved s f t) (M' 80) (M' 81) ∧ frm M M' ∧ ∀ (F : hp) (Q : Int → hp → Prop), Q 1 (rh F u M') → mX12_isShunted_J64 Q 69 f t (en (M 81) f - 1) c (rh F u M) := by
  have ll := rr_l h hn.1
  have et : top s f = c := by unfold top; rw [e]; rfl
  unfold moved
  rw [et, e]
  obtain ⟨l0, l1, l2⟩ := s
  simp only at ll
  obtain rfl | rfl | rfl : f = 0 ∨ f = 1 ∨ f = 2 := by omega
  · obtain rfl : l0 = c :: r := e
    rw [List.length_cons] at ll
    obtain rfl | rfl : t = 1 ∨ t = 2 := by omega
    · exact mv_01 (r := r) (l1 := l1) (l2 := l2) (by omega) hr
    · exact mv_02 (r := r) (l1 := l1) (l2 := l2) (by omega) hr
  · obtain rfl : l1 = c :: r := e
    rw [List.length_cons] at ll
    obtain rfl | rfl : t = 0 ∨ t = 2 := by omega
    · exact mv_10 (r := r) (l0 := l0) (l2 := l2) (by omega) hr
    · exact mv_12 (r := r) (l0 := l0) (l2 := l2) (by omega) hr
  · obtain rfl : l2 = c :: r := e
    rw [List.length_cons] at ll
    obtain rfl | rfl : t = 0 ∨ t = 1 := by omega
    · exact mv_20 (r := r) (l0 := l0) (l1 := l1) (by omega) hr
    · exact mv_21 (r := r) (l0 := l0) (l1 := l1) (by omega) hr
theorem shunt_r (h : svl n s) (hn : 0 ≤ n ∧ n ≤ 5) (hr : rrep s (M 80) (M 81)) (hC : jC (N 15) (N 16) (N 17) (N 18) (N 19) (M 70)) (hF : jF (v 10 15) (M 70)) (hz : ∀ a b, 0 ≤ a → a < n → 0 ≤ b → b < n → tb P (5 * a + b) = !zForb (M 70) a b) {f t : Int} (hf : 0 ≤ f ∧ f < 3) (ht : 0 ≤ t ∧ t < 3) : ∃ b M', ((b = 0 ∧ ¬ goes P s f t ∧ M' = M) ∨ (b = 1 ∧ goes P s f t ∧ rrep (moved s f t) (M' 80) (M' 81) ∧ frm M M')) ∧ ∀ (F : hp) (Q : Int → hp → Prop), Q b (rh F u M') → mX12_isShunted 69 f t (rh F u M) Q := by
  have cf := rr_c hr hf
  have ct := rr_c hr ht
  have lf := sg_len h hn.1 hf
  have lt := sg_len h hn.1 ht
  by_cases d : f = t
  · refine ⟨0, M, .inl ⟨rfl, fun g => g.1 d, rfl⟩, fun F Q q => ?_⟩
    simp (disch := first | omega | decide) only [mX12_isShunted, ↓rh_rcv, ↓rh_g0, ↓be_y, ↓be_n, ↓bf_y, ↓bf_n, ↓bl_y, ↓bl_n, ↓bm_y, ↓bm_n, ↓bg_y, ↓bg_n, ↓bs_y, ↓bs_n, ↓bo_y, ↓bo_n, ↓bp_y, ↓bp_n, ↓forall_eq, ↓within_y, ↓within_n, ↓isIn_y, ↓isIn_n, and_true, true_and, and_self, us_at, us_ne, w32_id, um_eq, um_ne, um_um, uu_eq, uu_ne, uu_uu, vv_eq, vv_ne, vv_vv, ne_eq, not_false_eq_true, not_true_eq_false, reduceCtorEq, Int.reduceAdd, Int.reduceSub, Int.reduceMul, Int.reduceNeg, Nat.reduceEqDiff, or_true, true_or, true_implies, false_implies, Int.reduceLT, Int.reduceLE, Int.reduceEq]
    exact q
  rcases top_l h hn.2 hf with ⟨a1, a2⟩ | ⟨c, r, a1, a2, a3⟩
  · have z : M 81 f = 0 := by rw [cf, a1]; rfl
    refine ⟨0, M, .inl ⟨rfl, fun g => by have := g.2.1; omega, rfl⟩, fun F Q q => ?_⟩
    simp (disch := first | omega | decide) only [mX12_isShunted, ↓rh_rcv, ↓rh_g28, ↓rh_r81, ↓rh_w81, ↓be_y, ↓be_n, ↓bf_y, ↓bf_n, ↓bl_y, ↓bl_n, ↓bm_y, ↓bm_n, ↓bg_y, ↓bg_n, ↓bs_y, ↓bs_n, ↓bo_y, ↓bo_n, ↓bp_y, ↓bp_n, ↓forall_eq, ↓within_y, ↓within_n, ↓isIn_y, ↓isIn_n, and_true, true_and, and_self, us_at, us_ne, w32_id, um_eq, um_ne, um_um, uu_eq, uu_ne, uu_uu, vv_eq, vv_ne, vv_vv, ne_eq, not_false_eq_true, not_true_eq_false, reduceCtorEq, Int.reduceAdd, Int.reduceSub, Int.reduceMul, Int.reduceNeg, Nat.reduceEqDiff, or_true, true_or, true_implies, false_implies, Int.reduceLT, Int.reduceLE, Int.reduceEq, z]
    exact q
  have zf : 0 < M 81 f := by rw [cf, a1, List.length_cons]; omega
  obtain ⟨t1, t2, t3⟩ := rd_top h hn hr hf a1
  obtain ⟨M', k1, k2, k3⟩ := mv_all (u := u) h hn hr hf ht d a1
  rcases top_l h hn.2 ht with ⟨b1, b2⟩ | ⟨e, q, b1, b2, b3⟩
  · have z : M 81 t = 0 := by rw [ct, b1]; rfl
    refine ⟨1, M', .inr ⟨rfl, ⟨d, by omega, fun g => by omega⟩, k1, k2⟩, fun F Q q => ?_⟩
    simp (disch := first | omega | decide) only [mX12_isShunted, ↓end_r, ↓rh_rcv, ↓rh_g27, ↓rh_g28, ↓rh_r80, ↓rh_w80, ↓rh_r81, ↓rh_w81, ↓be_y, ↓be_n, ↓bf_y, ↓bf_n, ↓bl_y, ↓bl_n, ↓bm_y, ↓bm_n, ↓bg_y, ↓bg_n, ↓bs_y, ↓bs_n, ↓bo_y, ↓bo_n, ↓bp_y, ↓bp_n, ↓forall_eq, ↓within_y, ↓within_n, ↓isIn_y, ↓isIn_n, and_true, true_and, and_self, us_at, us_ne, w32_id, um_eq, um_ne, um_um, uu_eq, uu_ne, uu_uu, vv_eq, vv_ne, vv_vv, ne_eq, not_false_eq_true, not_true_eq_false, reduceCtorEq, Int.reduceAdd, Int.reduceSub, Int.reduceMul, Int.reduceNeg, Nat.reduceEqDiff, or_true, true_or, true_implies, false_implies, Int.reduceLT, Int.reduceLE, Int.reduceEq, z, t1]
    exact k3 F Q q
  · have zt : 0 < M 81 t := by rw [ct, b1, List.length_cons]; omega
    obtain ⟨s1, s2, s3⟩ := rd_top h hn hr ht b1
    have hz1 := hz c e a3.1 a3.2 b3.1 b3.2
    cases hzz : zForb (M 70) c e with
    | true =>
      rw [hzz] at hz1
      refine ⟨0, M, .inl ⟨rfl, fun g => ?_, rfl⟩, fun F Q q => ?_⟩
      · have g2 := g.2.2 (by omega)
        rw [a2, b2, hz1] at g2
        cases g2
      · simp (disch := first | omega | decide) only [mX12_isShunted, ↓end_r, ↓rh_rcv, ↓rh_g27, ↓rh_g28, ↓rh_r80, ↓rh_w80, ↓rh_r81, ↓rh_w81, ↓be_y, ↓be_n, ↓bf_y, ↓bf_n, ↓bl_y, ↓bl_n, ↓bm_y, ↓bm_n, ↓bg_y, ↓bg_n, ↓bs_y, ↓bs_n, ↓bo_y, ↓bo_n, ↓bp_y, ↓bp_n, ↓forall_eq, ↓within_y, ↓within_n, ↓isIn_y, ↓isIn_n, and_true, true_and, and_self, us_at, us_ne, w32_id, um_eq, um_ne, um_um, uu_eq, uu_ne, uu_uu, vv_eq, vv_ne, vv_vv, ne_eq, not_false_eq_true, not_true_eq_false, reduceCtorEq, Int.reduceAdd, Int.reduceSub, Int.reduceMul, Int.reduceNeg, Nat.reduceEqDiff, or_true, true_or, true_implies, false_implies, Int.reduceLT, Int.reduceLE, Int.reduceEq, t1, s1]
        rw [msb_r hC hF (by omega) (by omega), hzz]
        simp (disch := first | omega | decide) only [if_true, ↓rh_rcv, ↓rh_g0, ↓be_y, ↓be_n, ↓bf_y, ↓bf_n, ↓bl_y, ↓bl_n, ↓bm_y, ↓bm_n, ↓bg_y, ↓bg_n, ↓bs_y, ↓bs_n, ↓bo_y, ↓bo_n, ↓bp_y, ↓bp_n, ↓forall_eq, ↓within_y, ↓within_n, ↓isIn_y, ↓isIn_n, and_true, true_and, and_self, us_at, us_ne, w32_id, um_eq, um_ne, um_um, uu_eq, uu_ne, uu_uu, vv_eq, vv_ne, vv_vv, ne_eq, not_false_eq_true, not_true_eq_false, reduceCtorEq, Int.reduceAdd, Int.reduceSub, Int.reduceMul, Int.reduceNeg, Nat.reduceEqDiff, or_true, true_or, true_implies, false_implies, Int.reduceLT, Int.reduceLE, Int.reduceEq]
        exact q
    | false =>
      rw [hzz] at hz1
      refine ⟨1, M', .inr ⟨rfl, ⟨d, by omega, fun _ => by rw [a2, b2, hz1]; rfl⟩, k1, k2⟩, fun F Q q => ?_⟩
      simp (disch := first | omega | decide) only [mX12_isShunted, ↓end_r, ↓rh_rcv, ↓rh_g27, ↓rh_g28, ↓rh_r80, ↓rh_w80, ↓rh_r81, ↓rh_w81, ↓be_y, ↓be_n, ↓bf_y, ↓bf_n, ↓bl_y, ↓bl_n, ↓bm_y, ↓bm_n, ↓bg_y, ↓bg_n, ↓bs_y, ↓bs_n, ↓bo_y, ↓bo_n, ↓bp_y, ↓bp_n, ↓forall_eq, ↓within_y, ↓within_n, ↓isIn_y, ↓isIn_n, and_true, true_and, and_self, us_at, us_ne, w32_id, um_eq, um_ne, um_um, uu_eq, uu_ne, uu_uu, vv_eq, vv_ne, vv_vv, ne_eq, not_false_eq_true, not_true_eq_false, reduceCtorEq, Int.reduceAdd, Int.reduceSub, Int.reduceMul, Int.reduceNeg, Nat.reduceEqDiff, or_true, true_or, true_implies, false_implies, Int.reduceLT, Int.reduceLE, Int.reduceEq, t1, s1]
      rw [msb_r hC hF (by omega) (by omega), hzz]
      simp (disch := first | omega | decide) only [if_false, Bool.false_eq_true, ↓rh_rcv, ↓rh_g0, ↓be_y, ↓be_n, ↓bf_y, ↓bf_n, ↓bl_y, ↓bl_n, ↓bm_y, ↓bm_n, ↓bg_y, ↓bg_n, ↓bs_y, ↓bs_n, ↓bo_y, ↓bo_n, ↓bp_y, ↓bp_n, ↓forall_eq, ↓within_y, ↓within_n, ↓isIn_y, ↓isIn_n, and_true, true_and, and_self, us_at, us_ne, w32_id, um_eq, um_ne, um_um, uu_eq, uu_ne, uu_uu, vv_eq, vv_ne, vv_vv, ne_eq, not_false_eq_true, not_true_eq_false, reduceCtorEq, Int.reduceAdd, Int.reduceSub, Int.reduceMul, Int.reduceNeg, Nat.reduceEqDiff, or_true, true_or, true_implies, false_implies, Int.reduceLT, Int.reduceLE, Int.reduceEq]
      exact k3 F Q q
end SX
