section RN
variable {tk plc bh : Nat → Int} {cn : Nat} {mo : Bool} {L : Int} {W : Int → Int} {u : Nat → Int} {M : Nat → Int → Int} {F : hp} {pl : List Int} {o : List (Int × Int)} {j : Nat} {w : Bool}
theorem opn_b (hw : wfp pl) : opn pl = -1 ∨ (40 ≤ opn pl ∧ opn pl ≤ 43) := by rcases opa_o pl hw with ⟨a, b⟩ | ⟨a, b, c, d, f⟩ <;> omega
theorem pt_n {c : Int} {Q : Int → hp → Prop} (h : tkr c (u 9) (u 10) (u 11)) (hw : wfp pl) (hc : cnm pl ≤ 8) (hq : pls pl u M) (n1 : ¬ (c = 23 ∧ opn pl = 41 ∧ cmd pl)) (n2 : ¬ (c = 24 ∧ opn pl = 42)) (n3 : ¬ (c = 39 ∧ opn pl = 40)) (n4 : ¬ (c = 25 ∧ opn pl = 43)) (q : Q (-1) (rh F u M)) : mX12_partOf 69 (opn pl) (rh F u M) Q := by
  have tt := tkr_t h
  rcases opn_b hw with e | ⟨e1, e2⟩
  · rw [e]
    unfold mX12_partOf
    refine ⟨fun t => absurd t (by decide), fun t => absurd t (by decide), fun t => absurd t (by decide), fun t => absurd t (by decide), fun _ => q⟩
  · obtain e | e | e | e : opn pl = 40 ∨ opn pl = 41 ∨ opn pl = 42 ∨ opn pl = 43 := by omega
    · rw [e]
      unfold mX12_partOf
      refine ⟨fun _ => ?_, fun t => absurd t (by decide), fun t => absurd t (by decide), fun t => absurd t (by decide), fun t => absurd t (by decide)⟩
      have m : ¬ u 9 = 41 := fun t => n3 ⟨(tkr_s h (x := 39) (by omega)).1 t, e⟩
      simp (disch := first | omega | decide) only [w32_id, ↓rh_rcv, ↓rh_g9, ↓rh_p9, ↓be_y, ↓be_n, ↓bf_y, ↓bf_n, ↓bl_y, ↓bl_n, ↓bm_y, ↓bm_n, ↓bg_y, ↓bg_n, ↓bs_y, ↓bs_n, ↓bo_y, ↓bo_n, ↓bp_y, ↓bp_n, ↓forall_eq, ↓within_y, ↓within_n, ↓isIn_y, ↓isIn_n, and_true, true_and, and_self, us_at, us_ne, w32_id, um_eq, um_ne, um_um, uu_eq, uu_ne, uu_uu, vv_eq, vv_ne, vv_vv, ne_eq, not_false_eq_true, not_true_eq_false, reduceCtorEq, Int.reduceAdd, Int.reduceSub, Int.reduceMul, Int.reduceNeg, Nat.reduceEqDiff, or_true, true_or, true_implies, false_implies, Int.reduceLT, Int.reduceLE, Int.reduceEq]
      exact q
    · rw [e]
      unfold mX12_partOf
      refine ⟨fun t => absurd t (by decide), fun _ => ?_, fun t => absurd t (by decide), fun t => absurd t (by decide), fun t => absurd t (by decide)⟩
      by_cases d : c = 23
      · have y1 := fun Q => isw_y (F := F) (M := M) (Q := Q) h (x := 23) (by omega) d
        simp (disch := first | omega | decide) only [w32_id, ↓rh_rcv, ↓rh_g9, ↓rh_p9, ↓be_y, ↓be_n, ↓bf_y, ↓bf_n, ↓bl_y, ↓bl_n, ↓bm_y, ↓bm_n, ↓bg_y, ↓bg_n, ↓bs_y, ↓bs_n, ↓bo_y, ↓bo_n, ↓bp_y, ↓bp_n, ↓forall_eq, ↓within_y, ↓within_n, ↓isIn_y, ↓isIn_n, and_true, true_and, and_self, us_at, us_ne, w32_id, um_eq, um_ne, um_um, uu_eq, uu_ne, uu_uu, vv_eq, vv_ne, vv_vv, ne_eq, not_false_eq_true, not_true_eq_false, reduceCtorEq, Int.reduceAdd, Int.reduceSub, Int.reduceMul, Int.reduceNeg, Nat.reduceEqDiff, or_true, true_or, true_implies, false_implies, Int.reduceLT, Int.reduceLE, Int.reduceEq, w_then, y1]
        refine cmpq_r hw hc hq (.inr ⟨rfl, fun t => n1 ⟨d, e, t⟩⟩) ?_
        simp (disch := first | omega | decide) only [w32_id, ↓rh_rcv, ↓rh_g9, ↓rh_p9, ↓be_y, ↓be_n, ↓bf_y, ↓bf_n, ↓bl_y, ↓bl_n, ↓bm_y, ↓bm_n, ↓bg_y, ↓bg_n, ↓bs_y, ↓bs_n, ↓bo_y, ↓bo_n, ↓bp_y, ↓bp_n, ↓forall_eq, ↓within_y, ↓within_n, ↓isIn_y, ↓isIn_n, and_true, true_and, and_self, us_at, us_ne, w32_id, um_eq, um_ne, um_um, uu_eq, uu_ne, uu_uu, vv_eq, vv_ne, vv_vv, ne_eq, not_false_eq_true, not_true_eq_false, reduceCtorEq, Int.reduceAdd, Int.reduceSub, Int.reduceMul, Int.reduceNeg, Nat.reduceEqDiff, or_true, true_or, true_implies, false_implies, Int.reduceLT, Int.reduceLE, Int.reduceEq]
        exact q
      · have y1 := fun Q => isw_n (F := F) (M := M) (Q := Q) h (x := 23) (by omega) d
        simp (disch := first | omega | decide) only [w32_id, ↓rh_rcv, ↓rh_g9, ↓rh_p9, ↓be_y, ↓be_n, ↓bf_y, ↓bf_n, ↓bl_y, ↓bl_n, ↓bm_y, ↓bm_n, ↓bg_y, ↓bg_n, ↓bs_y, ↓bs_n, ↓bo_y, ↓bo_n, ↓bp_y, ↓bp_n, ↓forall_eq, ↓within_y, ↓within_n, ↓isIn_y, ↓isIn_n, and_true, true_and, and_self, us_at, us_ne, w32_id, um_eq, um_ne, um_um, uu_eq, uu_ne, uu_uu, vv_eq, vv_ne, vv_vv, ne_eq, not_false_eq_true, not_true_eq_false, reduceCtorEq, Int.reduceAdd, Int.reduceSub, Int.reduceMul, Int.reduceNeg, Nat.reduceEqDiff, or_true, true_or, true_implies, false_implies, Int.reduceLT, Int.reduceLE, Int.reduceEq, w_then, y1]
        exact q
    · rw [e]
      unfold mX12_partOf
      refine ⟨fun t => absurd t (by decide), fun t => absurd t (by decide), fun _ => ?_, fun t => absurd t (by decide), fun t => absurd t (by decide)⟩
      have y1 := fun Q => isw_n (F := F) (M := M) (Q := Q) h (x := 24) (by omega) (fun d => n2 ⟨d, e⟩)
      simp (disch := first | omega | decide) only [w32_id, ↓rh_rcv, ↓rh_g9, ↓rh_p9, ↓be_y, ↓be_n, ↓bf_y, ↓bf_n, ↓bl_y, ↓bl_n, ↓bm_y, ↓bm_n, ↓bg_y, ↓bg_n, ↓bs_y, ↓bs_n, ↓bo_y, ↓bo_n, ↓bp_y, ↓bp_n, ↓forall_eq, ↓within_y, ↓within_n, ↓isIn_y, ↓isIn_n, and_true, true_and, and_self, us_at, us_ne, w32_id, um_eq, um_ne, um_um, uu_eq, uu_ne, uu_uu, vv_eq, vv_ne, vv_vv, ne_eq, not_false_eq_true, not_true_eq_false, reduceCtorEq, Int.reduceAdd, Int.reduceSub, Int.reduceMul, Int.reduceNeg, Nat.reduceEqDiff, or_true, true_or, true_implies, false_implies, Int.reduceLT, Int.reduceLE, Int.reduceEq, w_else, y1]
      exact q
    · rw [e]
      unfold mX12_partOf
      refine ⟨fun t => absurd t (by decide), fun t => absurd t (by decide), fun t => absurd t (by decide), fun _ => ?_, fun t => absurd t (by decide)⟩
      have y1 := fun Q => isw_n (F := F) (M := M) (Q := Q) h (x := 25) (by omega) (fun d => n4 ⟨d, e⟩)
      simp (disch := first | omega | decide) only [w32_id, ↓rh_rcv, ↓rh_g9, ↓rh_p9, ↓be_y, ↓be_n, ↓bf_y, ↓bf_n, ↓bl_y, ↓bl_n, ↓bm_y, ↓bm_n, ↓bg_y, ↓bg_n, ↓bs_y, ↓bs_n, ↓bo_y, ↓bo_n, ↓bp_y, ↓bp_n, ↓forall_eq, ↓within_y, ↓within_n, ↓isIn_y, ↓isIn_n, and_true, true_and, and_self, us_at, us_ne, w32_id, um_eq, um_ne, um_um, uu_eq, uu_ne, uu_uu, vv_eq, vv_ne, vv_vv, ne_eq, not_false_eq_true, not_true_eq_false, reduceCtorEq, Int.reduceAdd, Int.reduceSub, Int.reduceMul, Int.reduceNeg, Nat.reduceEqDiff, or_true, true_or, true_implies, false_implies, Int.reduceLT, Int.reduceLE, Int.reduceEq, w_end, y1]
      exact q
-- then, else
theorem bh_t (nx : ntx tk plc bh cn L W) (cb : cn ≤ 300) {x : Int} (hx : x = 42 ∨ x = 43) (hn : nob (tk j) pl) (hp0 : 0 ≤ opn pl) (hj : j < cn) (pt : ∀ (F : hp) (Q : Int → hp → Prop), Q x (rh F u M) → mX12_partOf 69 (opn pl) (rh F u M) Q) (h : rstq tk plc bh cn mo L W j pl o true u M) : ∃ u' M', rstq tk plc bh cn mo L W (j + 1) (x :: (stl 1 pl o).1.tail) (stl 1 pl o).2 false u' M' ∧ frp u u' ∧ frX (u 12) M M' ∧ ∀ (F : hp) (Q : Int → hp → Prop), Q 1 (rh F u' M') → mX12_behindOne 69 (rh F u M) Q := by
  obtain ⟨h1, h2, h3, h4, h5, ⟨h6, h7, h8, h9⟩, h10, h11⟩ := h
  obtain ⟨s1, s2, s3, s4⟩ := stl_i (l := 1) pl o h6
  obtain ⟨t, st, y40⟩ := stl_o pl o hp0 h6
  obtain ⟨u1, M1, a1, a2, a3, a4, a5, a6⟩ := settle_r (l := 1) (by omega) pl o u M h6 h7 (by omega) h2 h3
  obtain ⟨u2, b1, b2, b3⟩ := nx j u1 M1 hj (by rw [a3 4 (by decide) (by decide) (by decide)]; exact h10) (by rw [a4.1 73 (by decide) (by decide)]; exact h11) (rtk_u (fun k k1 k2 => a3 k (by omega) (by omega) (by omega)) h1)
  generalize (stl 1 pl o).2 = o1 at *
  rw [st] at s1 s2 s3 a1 ⊢
  have len := wfp_len s1 (by omega)
  simp only [List.length_cons] at len s3
  have p2 : pls (opn pl :: t) u2 M1 := pls_u (b2 16 (by decide)) (b2 17 (by decide)) a1
  have oa : opa (opn pl :: t) = (t.length : Int) := by rw [opa, if_pos y40]
  have mx : isM x := by rcases hx with rfl | rfl <;> decide
  have my : isM (opn pl) := .inl y40
  refine ⟨uu u2 18 0, um M1 74 (us (M1 74) t.length x), ⟨rtk_u (fun k k1 k2 => uu_ne (by omega)) b1, ⟨?_, ?_, ?_⟩, ?_, ?_, ?_, ⟨⟨by omega, .inl mx, s1.2.2⟩, ?_, ?_, by omega⟩, ?_, ?_⟩, ?_, frX_t a4 ⟨fun j _ j2 => um_ne j2, fun i _ => by rw [um_ne (by decide)]⟩, fun F Q q => ?_⟩
  · rw [uu_ne (by decide)]; exact p2.1
  · rw [uu_ne (by decide), p2.2.1]; simp only [List.tail_cons]; rw [cnm_y mx, cnm_y my]
  · rw [um_eq]; exact ⟨us_eq _ _ _, pil_us t (by omega) a1.2.2.2⟩
  · exact ots_m (um_ne (by decide)) (ots_u (by rw [uu_ne (by decide), b2 13 (by decide)]) (by rw [uu_ne (by decide), b2 12 (by decide)]) a2)
  · rw [uu_eq]; rfl
  · rw [uu_ne (by decide), b2 14 (by decide), a3 14 (by decide) (by decide) (by decide)]; exact h5
  · simp only [List.tail_cons]; rw [cnm_y mx]; rw [cnm_y my] at s2; omega
  · simp only [List.tail_cons, List.length_cons]; omega
  · rw [uu_ne (by decide), b2 4 (by decide), a3 4 (by decide) (by decide) (by decide)]; exact h10
  · rw [um_ne (by decide), a4.1 73 (by decide) (by decide)]; exact h11
  · exact frp_t (frp_q a3) (frp_t (frp_u b2) (frp_w (by omega)))
  · have xb : x = 42 ∨ x = 43 := hx
    simp (disch := first | omega | decide) only [mX12_behindOne, ↓rh_rcv, ↓rh_g0, ↓be_y, ↓be_n, ↓bf_y, ↓bf_n, ↓bl_y, ↓bl_n, ↓bm_y, ↓bm_n, ↓bg_y, ↓bg_n, ↓bs_y, ↓bs_n, ↓bo_y, ↓bo_n, ↓bp_y, ↓bp_n, ↓forall_eq, ↓within_y, ↓within_n, ↓isIn_y, ↓isIn_n, and_true, true_and, and_self, us_at, us_ne, w32_id, um_eq, um_ne, um_um, uu_eq, uu_ne, uu_uu, vv_eq, vv_ne, vv_vv, ne_eq, not_false_eq_true, not_true_eq_false, reduceCtorEq, Int.reduceAdd, Int.reduceSub, Int.reduceMul, Int.reduceNeg, Nat.reduceEqDiff, or_true, true_or, true_implies, false_implies, Int.reduceLT, Int.reduceLE, Int.reduceEq]
    refine bt_n h1.2.2 h6 h7 h2 hn ?_
    simp (disch := first | omega | decide) only [w32_id, ↓rh_rcv, ↓rh_g0, ↓be_y, ↓be_n, ↓bf_y, ↓bf_n, ↓bl_y, ↓bl_n, ↓bm_y, ↓bm_n, ↓bg_y, ↓bg_n, ↓bs_y, ↓bs_n, ↓bo_y, ↓bo_n, ↓bp_y, ↓bp_n, ↓forall_eq, ↓within_y, ↓within_n, ↓isIn_y, ↓isIn_n, and_true, true_and, and_self, us_at, us_ne, w32_id, um_eq, um_ne, um_um, uu_eq, uu_ne, uu_uu, vv_eq, vv_ne, vv_vv, ne_eq, not_false_eq_true, not_true_eq_false, reduceCtorEq, Int.reduceAdd, Int.reduceSub, Int.reduceMul, Int.reduceNeg, Nat.reduceEqDiff, or_true, true_or, true_implies, false_implies, Int.reduceLT, Int.reduceLE, Int.reduceEq]
    refine opn_r h6 h7 h2 ?_
    simp (disch := first | omega | decide) only [w32_id, ↓rh_rcv, ↓rh_g0, ↓be_y, ↓be_n, ↓bf_y, ↓bf_n, ↓bl_y, ↓bl_n, ↓bm_y, ↓bm_n, ↓bg_y, ↓bg_n, ↓bs_y, ↓bs_n, ↓bo_y, ↓bo_n, ↓bp_y, ↓bp_n, ↓forall_eq, ↓within_y, ↓within_n, ↓isIn_y, ↓isIn_n, and_true, true_and, and_self, us_at, us_ne, w32_id, um_eq, um_ne, um_um, uu_eq, uu_ne, uu_uu, vv_eq, vv_ne, vv_vv, ne_eq, not_false_eq_true, not_true_eq_false, reduceCtorEq, Int.reduceAdd, Int.reduceSub, Int.reduceMul, Int.reduceNeg, Nat.reduceEqDiff, or_true, true_or, true_implies, false_implies, Int.reduceLT, Int.reduceLE, Int.reduceEq]
    refine pt F _ ?_
    simp (disch := first | omega | decide) only [mX12_settle, ↓rh_rcv, ↓rh_g0, ↓be_y, ↓be_n, ↓bf_y, ↓bf_n, ↓bl_y, ↓bl_n, ↓bm_y, ↓bm_n, ↓bg_y, ↓bg_n, ↓bs_y, ↓bs_n, ↓bo_y, ↓bo_n, ↓bp_y, ↓bp_n, ↓forall_eq, ↓within_y, ↓within_n, ↓isIn_y, ↓isIn_n, and_true, true_and, and_self, us_at, us_ne, w32_id, um_eq, um_ne, um_um, uu_eq, uu_ne, uu_uu, vv_eq, vv_ne, vv_vv, ne_eq, not_false_eq_true, not_true_eq_false, reduceCtorEq, Int.reduceAdd, Int.reduceSub, Int.reduceMul, Int.reduceNeg, Nat.reduceEqDiff, or_true, true_or, true_implies, false_implies, Int.reduceLT, Int.reduceLE, Int.reduceEq]
    refine ⟨_, a6 F _ ?_⟩
    simp (disch := first | omega | decide) only [w32_id, ↓rh_rcv, ↓rh_g0, ↓be_y, ↓be_n, ↓bf_y, ↓bf_n, ↓bl_y, ↓bl_n, ↓bm_y, ↓bm_n, ↓bg_y, ↓bg_n, ↓bs_y, ↓bs_n, ↓bo_y, ↓bo_n, ↓bp_y, ↓bp_n, ↓forall_eq, ↓within_y, ↓within_n, ↓isIn_y, ↓isIn_n, and_true, true_and, and_self, us_at, us_ne, w32_id, um_eq, um_ne, um_um, uu_eq, uu_ne, uu_uu, vv_eq, vv_ne, vv_vv, ne_eq, not_false_eq_true, not_true_eq_false, reduceCtorEq, Int.reduceAdd, Int.reduceSub, Int.reduceMul, Int.reduceNeg, Nat.reduceEqDiff, or_true, true_or, true_implies, false_implies, Int.reduceLT, Int.reduceLE, Int.reduceEq]
    refine b3 F _ ?_
    simp (disch := first | omega | decide) only [w32_id, ↓rh_rcv, ↓rh_g15, ↓be_y, ↓be_n, ↓bf_y, ↓bf_n, ↓bl_y, ↓bl_n, ↓bm_y, ↓bm_n, ↓bg_y, ↓bg_n, ↓bs_y, ↓bs_n, ↓bo_y, ↓bo_n, ↓bp_y, ↓bp_n, ↓forall_eq, ↓within_y, ↓within_n, ↓isIn_y, ↓isIn_n, and_true, true_and, and_self, us_at, us_ne, w32_id, um_eq, um_ne, um_um, uu_eq, uu_ne, uu_uu, vv_eq, vv_ne, vv_vv, ne_eq, not_false_eq_true, not_true_eq_false, reduceCtorEq, Int.reduceAdd, Int.reduceSub, Int.reduceMul, Int.reduceNeg, Nat.reduceEqDiff, or_true, true_or, true_implies, false_implies, Int.reduceLT, Int.reduceLE, Int.reduceEq]
    refine opa_r s1 (by omega) p2 ?_
    rw [oa]
    simp (disch := first | omega | decide) only [w32_id, ↓rh_rcv, ↓rh_g15, ↓rh_g18, ↓rh_p18, ↓rh_r74, ↓rh_w74, ↓be_y, ↓be_n, ↓bf_y, ↓bf_n, ↓bl_y, ↓bl_n, ↓bm_y, ↓bm_n, ↓bg_y, ↓bg_n, ↓bs_y, ↓bs_n, ↓bo_y, ↓bo_n, ↓bp_y, ↓bp_n, ↓forall_eq, ↓within_y, ↓within_n, ↓isIn_y, ↓isIn_n, and_true, true_and, and_self, us_at, us_ne, w32_id, um_eq, um_ne, um_um, uu_eq, uu_ne, uu_uu, vv_eq, vv_ne, vv_vv, ne_eq, not_false_eq_true, not_true_eq_false, reduceCtorEq, Int.reduceAdd, Int.reduceSub, Int.reduceMul, Int.reduceNeg, Nat.reduceEqDiff, or_true, true_or, true_implies, false_implies, Int.reduceLT, Int.reduceLE, Int.reduceEq]
    exact q
-- what is closed
theorem bh_e (nx : ntx tk plc bh cn L W) (cb : cn ≤ 300) (hn : nob (tk j) pl) (hp0 : 0 ≤ opn pl) (hj : j < cn) {e : List (Int × Int)} (he : (opn pl = 43 ∧ e = [(3, 0)]) ∨ (opn pl ≠ 43 ∧ e = [])) (pt : ∀ (F : hp) (Q : Int → hp → Prop), Q 0 (rh F u M) → mX12_partOf 69 (opn pl) (rh F u M) Q) (h : rstq tk plc bh cn mo L W j pl o true u M) : ∃ u' M', rstq tk plc bh cn mo L W (j + 1) (stl 7 (stl 1 pl o).1.tail ((stl 1 pl o).2 ++ e)).1 (stl 7 (stl 1 pl o).1.tail ((stl 1 pl o).2 ++ e)).2 true u' M' ∧ frp u u' ∧ frX (u 12) M M' ∧ ∀ (F : hp) (Q : Int → hp → Prop), Q 1 (rh F u' M') → mX12_behindOne 69 (rh F u M) Q := by
  obtain ⟨h1, h2, h3, h4, h5, ⟨h6, h7, h8, h9⟩, h10, h11⟩ := h
  have ob := opn_b h6
  obtain ⟨s1, s2, s3, s4⟩ := stl_i (l := 1) pl o h6
  obtain ⟨t, st, y40⟩ := stl_o pl o hp0 h6
  obtain ⟨u1, M1, a1, a2, a3, a4, a5, a6⟩ := settle_r (l := 1) (by omega) pl o u M h6 h7 (by omega) h2 h3
  obtain ⟨u2, b1, b2, b3⟩ := nx j u1 M1 hj (by rw [a3 4 (by decide) (by decide) (by decide)]; exact h10) (by rw [a4.1 73 (by decide) (by decide)]; exact h11) (rtk_u (fun k k1 k2 => a3 k (by omega) (by omega) (by omega)) h1)
  generalize (stl 1 pl o).2 = o1 at *
  rw [st] at s1 s2 s3 a1 ⊢
  have len := wfp_len s1 (by omega)
  simp only [List.length_cons] at len s3
  simp only [List.tail_cons]
  have my : isM (opn pl) := .inl y40
  have p16 : u2 16 = (t.length : Int) + 1 := by rw [b2 16 (by decide), a1.1]; simp only [List.length_cons]; omega
  have p17 : u2 17 = (cnm t : Int) + 1 := by rw [b2 17 (by decide), a1.2.1, cnm_y my]; omega
  have ct : cnm t ≤ 8 := by rw [cnm_y my] at s2; omega
  have q16 : u2 16 - 1 = (t.length : Int) := by omega
  have q17 : u2 17 - 1 = (cnm t : Int) := by omega
  have p3 : pls t (uu (uu u2 17 (cnm t)) 16 t.length) M1 := ⟨by rw [uu_eq], by rw [uu_ne (by decide), uu_eq], a1.2.2.2⟩
  have o3 : ots o1 (uu (uu u2 17 (cnm t)) 16 t.length) M1 := ots_u (by rw [uu_ne (by decide), uu_ne (by decide), b2 13 (by decide)]) (by rw [uu_ne (by decide), uu_ne (by decide), b2 12 (by decide)]) a2
  -- what is written first
  obtain ⟨u3, M3, k1, k2, k3, k4, k5, k6⟩ : ∃ u3 M3, pls t u3 M3 ∧ ots (o1 ++ e) u3 M3 ∧ frp (uu (uu u2 17 (cnm t)) 16 t.length) u3 ∧ frX (u 12) M1 M3 ∧ (∀ k, k ≠ 13 → u3 k = (uu (uu u2 17 (cnm t)) 16 t.length) k) ∧ ∀ (F : hp) (Q : Int → hp → Prop), mX12_behindOne_J139 Q 69 (rh F u3 M3) → (opn pl = 43 → rcv (rh F (uu (uu u2 17 (cnm t)) 16 t.length) M1) (some 69) 12 (fun o25 => mX12_emit o25 3 0 (rh F (uu (uu u2 17 (cnm t)) 16 t.length) M1) (fun F24 => mX12_behindOne_J139 Q 69 F24))) ∧ (¬ opn pl = 43 → mX12_behindOne_J139 Q 69 (rh F (uu (uu u2 17 (cnm t)) 16 t.length) M1)) := by
    rcases he with ⟨e1, rfl⟩ | ⟨e1, rfl⟩
    · obtain ⟨M3, c1, c2, c3, c4⟩ := emit_r (a := 3) (b := 0) (Q := fun _ => True) o3 (by omega)
      have e12 : (uu (uu u2 17 (cnm t)) 16 t.length) 12 = u 12 := by rw [uu_ne (by decide), uu_ne (by decide), b2 12 (by decide), a3 12 (by decide) (by decide) (by decide)]
      rw [e12] at c2
      refine ⟨uu (uu (uu u2 17 (cnm t)) 16 t.length) 13 ((o1.length : Int) + 1), M3, ⟨by rw [uu_ne (by decide)]; exact p3.1, by rw [uu_ne (by decide)]; exact p3.2.1, by rw [c3]; exact p3.2.2⟩, c1, frp_w (by omega), c2, fun k hk => uu_ne hk, fun F Q z => ?_⟩
      refine ⟨fun _ => ?_, fun n => absurd e1 n⟩
      simp (disch := first | omega | decide) only [w32_id, ↓rh_rcv, ↓rh_g0, ↓be_y, ↓be_n, ↓bf_y, ↓bf_n, ↓bl_y, ↓bl_n, ↓bm_y, ↓bm_n, ↓bg_y, ↓bg_n, ↓bs_y, ↓bs_n, ↓bo_y, ↓bo_n, ↓bp_y, ↓bp_n, ↓forall_eq, ↓within_y, ↓within_n, ↓isIn_y, ↓isIn_n, and_true, true_and, and_self, us_at, us_ne, w32_id, um_eq, um_ne, um_um, uu_eq, uu_ne, uu_uu, vv_eq, vv_ne, vv_vv, ne_eq, not_false_eq_true, not_true_eq_false, reduceCtorEq, Int.reduceAdd, Int.reduceSub, Int.reduceMul, Int.reduceNeg, Nat.reduceEqDiff, or_true, true_or, true_implies, false_implies, Int.reduceLT, Int.reduceLE, Int.reduceEq]
      exact c4 F _ z
    · rw [List.append_nil]
      refine ⟨uu (uu u2 17 (cnm t)) 16 t.length, M1, p3, o3, fun _ _ _ _ _ _ _ _ _ _ => rfl, frX_r M1, fun _ _ => rfl, fun F Q z => ?_⟩
      exact ⟨fun n => absurd n e1, fun _ => z⟩
  have el : e.length ≤ 1 := by rcases he with ⟨-, rfl⟩ | ⟨-, rfl⟩ <;> simp
  have lo : (o1 ++ e).length = o1.length + e.length := List.length_append
  obtain ⟨u4, M4, d1, d2, d3, d4, d5, d6⟩ := settle_r (l := 7) (by omega) t (o1 ++ e) u3 M3 s1.2.2 ct (by omega) k1 k2
  have e12 : u3 12 = u 12 := by rw [k5 12 (by decide), uu_ne (by decide), uu_ne (by decide), b2 12 (by decide), a3 12 (by decide) (by decide) (by decide)]
  rw [e12] at d4
  obtain ⟨r1, r2, r3, r4⟩ := stl_i (l := 7) t (o1 ++ e) s1.2.2
  refine ⟨u4, M4, ⟨?_, d1, d2, ?_, ?_, ⟨r1, by omega, by omega, by omega⟩, ?_, ?_⟩, ?_, frX_t a4 (frX_t k4 d4), fun F Q q => ?_⟩
  · exact rtk_u (fun k k1 k2 => by rw [d3 k (by omega) (by omega) (by omega), k5 k (by omega), uu_ne (by omega), uu_ne (by omega)]) b1
  · rw [d3 18 (by decide) (by decide) (by decide), k5 18 (by decide), uu_ne (by decide), uu_ne (by decide), b2 18 (by decide), a3 18 (by decide) (by decide) (by decide)]; exact h4
  · rw [d3 14 (by decide) (by decide) (by decide), k5 14 (by decide), uu_ne (by decide), uu_ne (by decide), b2 14 (by decide), a3 14 (by decide) (by decide) (by decide)]; exact h5
  · rw [d3 4 (by decide) (by decide) (by decide), k5 4 (by decide), uu_ne (by decide), uu_ne (by decide), b2 4 (by decide), a3 4 (by decide) (by decide) (by decide)]; exact h10
  · rw [d4.1 73 (by decide) (by decide), k4.1 73 (by decide) (by decide), a4.1 73 (by decide) (by decide)]; exact h11
  · exact frp_t (frp_q a3) (frp_t (frp_u b2) (frp_t (frp_t (frp_w (by omega)) (frp_w (by omega))) (frp_t k3 (frp_q d3))))
  · have z := k6 F Q (by
      simp (disch := first | omega | decide) only [mX12_behindOne_J139, mX12_settle, ↓rh_rcv, ↓rh_g0, ↓be_y, ↓be_n, ↓bf_y, ↓bf_n, ↓bl_y, ↓bl_n, ↓bm_y, ↓bm_n, ↓bg_y, ↓bg_n, ↓bs_y, ↓bs_n, ↓bo_y, ↓bo_n, ↓bp_y, ↓bp_n, ↓forall_eq, ↓within_y, ↓within_n, ↓isIn_y, ↓isIn_n, and_true, true_and, and_self, us_at, us_ne, w32_id, um_eq, um_ne, um_um, uu_eq, uu_ne, uu_uu, vv_eq, vv_ne, vv_vv, ne_eq, not_false_eq_true, not_true_eq_false, reduceCtorEq, Int.reduceAdd, Int.reduceSub, Int.reduceMul, Int.reduceNeg, Nat.reduceEqDiff, or_true, true_or, true_implies, false_implies, Int.reduceLT, Int.reduceLE, Int.reduceEq]
      exact ⟨_, d6 F _ q⟩)
    simp (disch := first | omega | decide) only [mX12_behindOne, ↓rh_rcv, ↓rh_g0, ↓be_y, ↓be_n, ↓bf_y, ↓bf_n, ↓bl_y, ↓bl_n, ↓bm_y, ↓bm_n, ↓bg_y, ↓bg_n, ↓bs_y, ↓bs_n, ↓bo_y, ↓bo_n, ↓bp_y, ↓bp_n, ↓forall_eq, ↓within_y, ↓within_n, ↓isIn_y, ↓isIn_n, and_true, true_and, and_self, us_at, us_ne, w32_id, um_eq, um_ne, um_um, uu_eq, uu_ne, uu_uu, vv_eq, vv_ne, vv_vv, ne_eq, not_false_eq_true, not_true_eq_false, reduceCtorEq, Int.reduceAdd, Int.reduceSub, Int.reduceMul, Int.reduceNeg, Nat.reduceEqDiff, or_true, true_or, true_implies, false_implies, Int.reduceLT, Int.reduceLE, Int.reduceEq]
    refine bt_n h1.2.2 h6 h7 h2 hn ?_
    simp (disch := first | omega | decide) only [w32_id, ↓rh_rcv, ↓rh_g0, ↓be_y, ↓be_n, ↓bf_y, ↓bf_n, ↓bl_y, ↓bl_n, ↓bm_y, ↓bm_n, ↓bg_y, ↓bg_n, ↓bs_y, ↓bs_n, ↓bo_y, ↓bo_n, ↓bp_y, ↓bp_n, ↓forall_eq, ↓within_y, ↓within_n, ↓isIn_y, ↓isIn_n, and_true, true_and, and_self, us_at, us_ne, w32_id, um_eq, um_ne, um_um, uu_eq, uu_ne, uu_uu, vv_eq, vv_ne, vv_vv, ne_eq, not_false_eq_true, not_true_eq_false, reduceCtorEq, Int.reduceAdd, Int.reduceSub, Int.reduceMul, Int.reduceNeg, Nat.reduceEqDiff, or_true, true_or, true_implies, false_implies, Int.reduceLT, Int.reduceLE, Int.reduceEq]
    refine opn_r h6 h7 h2 ?_
    simp (disch := first | omega | decide) only [w32_id, ↓rh_rcv, ↓rh_g0, ↓be_y, ↓be_n, ↓bf_y, ↓bf_n, ↓bl_y, ↓bl_n, ↓bm_y, ↓bm_n, ↓bg_y, ↓bg_n, ↓bs_y, ↓bs_n, ↓bo_y, ↓bo_n, ↓bp_y, ↓bp_n, ↓forall_eq, ↓within_y, ↓within_n, ↓isIn_y, ↓isIn_n, and_true, true_and, and_self, us_at, us_ne, w32_id, um_eq, um_ne, um_um, uu_eq, uu_ne, uu_uu, vv_eq, vv_ne, vv_vv, ne_eq, not_false_eq_true, not_true_eq_false, reduceCtorEq, Int.reduceAdd, Int.reduceSub, Int.reduceMul, Int.reduceNeg, Nat.reduceEqDiff, or_true, true_or, true_implies, false_implies, Int.reduceLT, Int.reduceLE, Int.reduceEq]
    refine pt F _ ?_
    simp (disch := first | omega | decide) only [mX12_settle, ↓rh_rcv, ↓rh_g0, ↓be_y, ↓be_n, ↓bf_y, ↓bf_n, ↓bl_y, ↓bl_n, ↓bm_y, ↓bm_n, ↓bg_y, ↓bg_n, ↓bs_y, ↓bs_n, ↓bo_y, ↓bo_n, ↓bp_y, ↓bp_n, ↓forall_eq, ↓within_y, ↓within_n, ↓isIn_y, ↓isIn_n, and_true, true_and, and_self, us_at, us_ne, w32_id, um_eq, um_ne, um_um, uu_eq, uu_ne, uu_uu, vv_eq, vv_ne, vv_vv, ne_eq, not_false_eq_true, not_true_eq_false, reduceCtorEq, Int.reduceAdd, Int.reduceSub, Int.reduceMul, Int.reduceNeg, Nat.reduceEqDiff, or_true, true_or, true_implies, false_implies, Int.reduceLT, Int.reduceLE, Int.reduceEq]
    refine ⟨_, a6 F _ ?_⟩
    simp (disch := first | omega | decide) only [w32_id, ↓rh_rcv, ↓rh_g0, ↓be_y, ↓be_n, ↓bf_y, ↓bf_n, ↓bl_y, ↓bl_n, ↓bm_y, ↓bm_n, ↓bg_y, ↓bg_n, ↓bs_y, ↓bs_n, ↓bo_y, ↓bo_n, ↓bp_y, ↓bp_n, ↓forall_eq, ↓within_y, ↓within_n, ↓isIn_y, ↓isIn_n, and_true, true_and, and_self, us_at, us_ne, w32_id, um_eq, um_ne, um_um, uu_eq, uu_ne, uu_uu, vv_eq, vv_ne, vv_vv, ne_eq, not_false_eq_true, not_true_eq_false, reduceCtorEq, Int.reduceAdd, Int.reduceSub, Int.reduceMul, Int.reduceNeg, Nat.reduceEqDiff, or_true, true_or, true_implies, false_implies, Int.reduceLT, Int.reduceLE, Int.reduceEq]
    refine b3 F _ ?_
    simp only [rh_g17, rh_p17, rh_g16, rh_p16, uu_ne (show (16 : Nat) ≠ 17 by decide), q16, q17]
    exact z
end RN
