section RL
variable {tk plc bh : Nat → Int} {cn : Nat} {mo : Bool} {L : Int} {W : Int → Int}
def mC (tk plc bh : Nat → Int) (cn : Nat) (mo : Bool) (L : Int) (W : Int → Int) (j : Nat) (pl : List Int) (o : List (Int × Int)) (w : Bool) (k : Int) (e : Nat) (f : List (Int × Int)) : Prop := ∀ u M, rstq tk plc bh cn mo L W j pl o w u M → ∃ n u' M', rtk tk plc bh e u' ∧ ots f u' M' ∧ frp u u' ∧ frX (u 12) M M' ∧ (e ≤ cn ∧ f.length ≤ e ∧ (0 ≤ k ∧ k ≤ 6)) ∧ ∀ (F : hp) (Q : Int → hp → Prop), Q k (rh F u' M') → mX12_summed_L15 Q n 69 (rh F u M)
theorem mC_b {j j1 : Nat} {pl pl1 : List Int} {o o1 : List (Int × Int)} {w1 : Bool} {k : Int} {e : Nat} {f : List (Int × Int)} (i : mC tk plc bh cn mo L W j1 pl1 o1 w1 k e f) (s : ∀ u M, rstq tk plc bh cn mo L W j pl o false u M → ∃ u' M', rstq tk plc bh cn mo L W j1 pl1 o1 w1 u' M' ∧ frp u u' ∧ frX (u 12) M M' ∧ ∀ (F : hp) (Q : Int → hp → Prop), Q 0 (rh F u' M') → mX12_beginOne 69 (rh F u M) Q) : mC tk plc bh cn mo L W j pl o false k e f := by
  intro u M h
  obtain ⟨u1, M1, a1, a2, a3, a4⟩ := s u M h
  obtain ⟨n, u2, M2, b1, b2, b3, b4, b5, b6⟩ := i u1 M1 a1
  rw [a2 12 (by decide) (by decide) (by decide) (by decide) (by decide) (by decide) (by decide) (by decide) (by decide)] at b4
  refine ⟨n + 1, u2, M2, b1, b2, frp_t a2 b3, frX_t a3 b4, b5, fun F Q q => ?_⟩
  have e18 : u 18 = 0 := h.2.2.2.1
  rw [mX12_summed_L15]
  simp (disch := first | omega | decide) only [w32_id, ↓rh_rcv, ↓rh_g18, ↓rh_p18, ↓be_y, ↓be_n, ↓bf_y, ↓bf_n, ↓bl_y, ↓bl_n, ↓bm_y, ↓bm_n, ↓bg_y, ↓bg_n, ↓bs_y, ↓bs_n, ↓bo_y, ↓bo_n, ↓bp_y, ↓bp_n, ↓forall_eq, ↓within_y, ↓within_n, ↓isIn_y, ↓isIn_n, and_true, true_and, and_self, us_at, us_ne, w32_id, um_eq, um_ne, um_um, uu_eq, uu_ne, uu_uu, vv_eq, vv_ne, vv_vv, ne_eq, not_false_eq_true, not_true_eq_false, reduceCtorEq, Int.reduceAdd, Int.reduceSub, Int.reduceMul, Int.reduceNeg, Nat.reduceEqDiff, or_true, true_or, true_implies, false_implies, Int.reduceLT, Int.reduceLE, Int.reduceEq, e18]
  refine a4 F _ ?_
  simp (disch := first | omega | decide) only [w32_id, ↓rh_rcv, ↓rh_g0, ↓be_y, ↓be_n, ↓bf_y, ↓bf_n, ↓bl_y, ↓bl_n, ↓bm_y, ↓bm_n, ↓bg_y, ↓bg_n, ↓bs_y, ↓bs_n, ↓bo_y, ↓bo_n, ↓bp_y, ↓bp_n, ↓forall_eq, ↓within_y, ↓within_n, ↓isIn_y, ↓isIn_n, and_true, true_and, and_self, us_at, us_ne, w32_id, um_eq, um_ne, um_um, uu_eq, uu_ne, uu_uu, vv_eq, vv_ne, vv_vv, ne_eq, not_false_eq_true, not_true_eq_false, reduceCtorEq, Int.reduceAdd, Int.reduceSub, Int.reduceMul, Int.reduceNeg, Nat.reduceEqDiff, or_true, true_or, true_implies, false_implies, Int.reduceLT, Int.reduceLE, Int.reduceEq]
  exact b6 F Q q
theorem mC_h {j j1 : Nat} {pl pl1 : List Int} {o o1 : List (Int × Int)} {w1 : Bool} {k : Int} {e : Nat} {f : List (Int × Int)} (i : mC tk plc bh cn mo L W j1 pl1 o1 w1 k e f) (s : ∀ u M, rstq tk plc bh cn mo L W j pl o true u M → ∃ u' M', rstq tk plc bh cn mo L W j1 pl1 o1 w1 u' M' ∧ frp u u' ∧ frX (u 12) M M' ∧ ∀ (F : hp) (Q : Int → hp → Prop), Q 1 (rh F u' M') → mX12_behindOne 69 (rh F u M) Q) : mC tk plc bh cn mo L W j pl o true k e f := by
  intro u M h
  obtain ⟨u1, M1, a1, a2, a3, a4⟩ := s u M h
  obtain ⟨n, u2, M2, b1, b2, b3, b4, b5, b6⟩ := i u1 M1 a1
  rw [a2 12 (by decide) (by decide) (by decide) (by decide) (by decide) (by decide) (by decide) (by decide) (by decide)] at b4
  refine ⟨n + 1, u2, M2, b1, b2, frp_t a2 b3, frX_t a3 b4, b5, fun F Q q => ?_⟩
  have e18 : u 18 = 1 := h.2.2.2.1
  rw [mX12_summed_L15]
  simp (disch := first | omega | decide) only [w32_id, ↓rh_rcv, ↓rh_g18, ↓rh_p18, ↓be_y, ↓be_n, ↓bf_y, ↓bf_n, ↓bl_y, ↓bl_n, ↓bm_y, ↓bm_n, ↓bg_y, ↓bg_n, ↓bs_y, ↓bs_n, ↓bo_y, ↓bo_n, ↓bp_y, ↓bp_n, ↓forall_eq, ↓within_y, ↓within_n, ↓isIn_y, ↓isIn_n, and_true, true_and, and_self, us_at, us_ne, w32_id, um_eq, um_ne, um_um, uu_eq, uu_ne, uu_uu, vv_eq, vv_ne, vv_vv, ne_eq, not_false_eq_true, not_true_eq_false, reduceCtorEq, Int.reduceAdd, Int.reduceSub, Int.reduceMul, Int.reduceNeg, Nat.reduceEqDiff, or_true, true_or, true_implies, false_implies, Int.reduceLT, Int.reduceLE, Int.reduceEq, e18]
  refine a4 F _ ?_
  simp (disch := first | omega | decide) only [w32_id, ↓rh_rcv, ↓rh_g0, ↓be_y, ↓be_n, ↓bf_y, ↓bf_n, ↓bl_y, ↓bl_n, ↓bm_y, ↓bm_n, ↓bg_y, ↓bg_n, ↓bs_y, ↓bs_n, ↓bo_y, ↓bo_n, ↓bp_y, ↓bp_n, ↓forall_eq, ↓within_y, ↓within_n, ↓isIn_y, ↓isIn_n, and_true, true_and, and_self, us_at, us_ne, w32_id, um_eq, um_ne, um_um, uu_eq, uu_ne, uu_uu, vv_eq, vv_ne, vv_vv, ne_eq, not_false_eq_true, not_true_eq_false, reduceCtorEq, Int.reduceAdd, Int.reduceSub, Int.reduceMul, Int.reduceNeg, Nat.reduceEqDiff, or_true, true_or, true_implies, false_implies, Int.reduceLT, Int.reduceLE, Int.reduceEq]
  exact b6 F Q q
theorem mC_f {j : Nat} {pl : List Int} {o : List (Int × Int)} {k : Int} (hk : 1 ≤ k ∧ k ≤ 6) (s : ∀ u M, rstq tk plc bh cn mo L W j pl o false u M → ∀ (F : hp) (Q : Int → hp → Prop), Q k (rh F u M) → mX12_beginOne 69 (rh F u M) Q) : mC tk plc bh cn mo L W j pl o false k j o := by
  intro u M h
  have hh := h.2.2.2.2.2.1
  refine ⟨1, u, M, h.1, h.2.2.1, fun _ _ _ _ _ _ _ _ _ _ => rfl, frX_r M, ⟨hh.2.2.2, by omega, by omega⟩, fun F Q q => ?_⟩
  have e18 : u 18 = 0 := h.2.2.2.1
  rw [mX12_summed_L15]
  simp (disch := first | omega | decide) only [w32_id, ↓rh_rcv, ↓rh_g18, ↓rh_p18, ↓be_y, ↓be_n, ↓bf_y, ↓bf_n, ↓bl_y, ↓bl_n, ↓bm_y, ↓bm_n, ↓bg_y, ↓bg_n, ↓bs_y, ↓bs_n, ↓bo_y, ↓bo_n, ↓bp_y, ↓bp_n, ↓forall_eq, ↓within_y, ↓within_n, ↓isIn_y, ↓isIn_n, and_true, true_and, and_self, us_at, us_ne, w32_id, um_eq, um_ne, um_um, uu_eq, uu_ne, uu_uu, vv_eq, vv_ne, vv_vv, ne_eq, not_false_eq_true, not_true_eq_false, reduceCtorEq, Int.reduceAdd, Int.reduceSub, Int.reduceMul, Int.reduceNeg, Nat.reduceEqDiff, or_true, true_or, true_implies, false_implies, Int.reduceLT, Int.reduceLE, Int.reduceEq, e18]
  refine s u M h F _ ?_
  simp (disch := first | omega | decide) only [w32_id, ↓rh_rcv, ↓rh_g0, ↓be_y, ↓be_n, ↓bf_y, ↓bf_n, ↓bl_y, ↓bl_n, ↓bm_y, ↓bm_n, ↓bg_y, ↓bg_n, ↓bs_y, ↓bs_n, ↓bo_y, ↓bo_n, ↓bp_y, ↓bp_n, ↓forall_eq, ↓within_y, ↓within_n, ↓isIn_y, ↓isIn_n, and_true, true_and, and_self, us_at, us_ne, w32_id, um_eq, um_ne, um_um, uu_eq, uu_ne, uu_uu, vv_eq, vv_ne, vv_vv, ne_eq, not_false_eq_true, not_true_eq_false, reduceCtorEq, Int.reduceAdd, Int.reduceSub, Int.reduceMul, Int.reduceNeg, Nat.reduceEqDiff, or_true, true_or, true_implies, false_implies, Int.reduceLT, Int.reduceLE, Int.reduceEq]
  exact q
set_option maxHeartbeats 8000000 in
theorem mC_t (nx : ntx tk plc bh cn L W) (ht : tkok tk cn) {j : Nat} {pl : List Int} {o : List (Int × Int)} {w : Bool} {k : Int} {e : Nat} {f : List (Int × Int)} (h : mrun tk mo j pl o w k e f) : mC tk plc bh cn mo L W j pl o w k e f := by
  have cb := ht.2.1
  have t44 := ht.1
  have jc : ∀ j pl o w u M, rstq tk plc bh cn mo L W j pl o w u M → tk j ≠ 44 → j < cn := fun j pl o w u M h c => by
    have hh := h.2.2.2.2.2.1.2.2.2
    have : j ≠ cn := fun e => c (by rw [e]; exact t44)
    omega
  refine mrun_ind (C := mC tk plc bh cn mo L W) h ?r_big ?r_noN ?r_num ?r_nam ?r_dee ?r_opn ?r_ntD ?r_ntt ?r_non ?r_btw ?r_thn ?r_els ?r_clo ?r_nde ?r_stp ?r_fin
  case r_big =>
    intro j pl o c
    refine mC_f (by omega) (fun u M h F Q q => ?_)
    have t1 := (tkr_1 h.1.2.2).2 (by omega)
    have tn := tkr_n h.1.2.2 (by omega)
    have n1 : 9999 < u 10 ∧ u 10 ≤ 1000000 := by omega
    simp (disch := first | omega | decide) only [mX12_beginOne, ↓rh_rcv, ↓rh_g9, ↓rh_p9, ↓rh_g10, ↓rh_p10, ↓be_y, ↓be_n, ↓bf_y, ↓bf_n, ↓bl_y, ↓bl_n, ↓bm_y, ↓bm_n, ↓bg_y, ↓bg_n, ↓bs_y, ↓bs_n, ↓bo_y, ↓bo_n, ↓bp_y, ↓bp_n, ↓forall_eq, ↓within_y, ↓within_n, ↓isIn_y, ↓isIn_n, and_true, true_and, and_self, us_at, us_ne, w32_id, um_eq, um_ne, um_um, uu_eq, uu_ne, uu_uu, vv_eq, vv_ne, vv_vv, ne_eq, not_false_eq_true, not_true_eq_false, reduceCtorEq, Int.reduceAdd, Int.reduceSub, Int.reduceMul, Int.reduceNeg, Nat.reduceEqDiff, or_true, true_or, true_implies, false_implies, Int.reduceLT, Int.reduceLE, Int.reduceEq, t1]
    exact q
  case r_noN =>
    intro j pl o c1 c2 c3
    refine mC_f (by omega) (fun u M h F Q q => ?_)
    have tt := tkr_t h.1.2.2
    have n1 : ¬ u 9 = 1 := fun t => by have := (tkr_1 h.1.2.2).1 t; omega
    simp (disch := first | omega | decide) only [mX12_beginOne, mX12_beginOne_J20, ↓rh_rcv, ↓rh_g9, ↓rh_p9, ↓be_y, ↓be_n, ↓bf_y, ↓bf_n, ↓bl_y, ↓bl_n, ↓bm_y, ↓bm_n, ↓bg_y, ↓bg_n, ↓bs_y, ↓bs_n, ↓bo_y, ↓bo_n, ↓bp_y, ↓bp_n, ↓forall_eq, ↓within_y, ↓within_n, ↓isIn_y, ↓isIn_n, and_true, true_and, and_self, us_at, us_ne, w32_id, um_eq, um_ne, um_um, uu_eq, uu_ne, uu_uu, vv_eq, vv_ne, vv_vv, ne_eq, not_false_eq_true, not_true_eq_false, reduceCtorEq, Int.reduceAdd, Int.reduceSub, Int.reduceMul, Int.reduceNeg, Nat.reduceEqDiff, or_true, true_or, true_implies, false_implies, Int.reduceLT, Int.reduceLE, Int.reduceEq]
    refine nameo_r h.1.2.2 ?_
    rw [if_pos ⟨c1, c2⟩]
    simp (disch := first | omega | decide) only [w32_id, ↓rh_rcv, ↓rh_g9, ↓rh_p9, ↓be_y, ↓be_n, ↓bf_y, ↓bf_n, ↓bl_y, ↓bl_n, ↓bm_y, ↓bm_n, ↓bg_y, ↓bg_n, ↓bs_y, ↓bs_n, ↓bo_y, ↓bo_n, ↓bp_y, ↓bp_n, ↓forall_eq, ↓within_y, ↓within_n, ↓isIn_y, ↓isIn_n, and_true, true_and, and_self, us_at, us_ne, w32_id, um_eq, um_ne, um_um, uu_eq, uu_ne, uu_uu, vv_eq, vv_ne, vv_vv, ne_eq, not_false_eq_true, not_true_eq_false, reduceCtorEq, Int.reduceAdd, Int.reduceSub, Int.reduceMul, Int.reduceNeg, Nat.reduceEqDiff, or_true, true_or, true_implies, false_implies, Int.reduceLT, Int.reduceLE, Int.reduceEq]
    refine isOf_r h.2.2.2.2.1 ⟨c1, c2⟩ (.inr ⟨rfl, c3⟩) ?_
    simp (disch := first | omega | decide) only [w32_id, ↓rh_rcv, ↓rh_g9, ↓rh_p9, ↓be_y, ↓be_n, ↓bf_y, ↓bf_n, ↓bl_y, ↓bl_n, ↓bm_y, ↓bm_n, ↓bg_y, ↓bg_n, ↓bs_y, ↓bs_n, ↓bo_y, ↓bo_n, ↓bp_y, ↓bp_n, ↓forall_eq, ↓within_y, ↓within_n, ↓isIn_y, ↓isIn_n, and_true, true_and, and_self, us_at, us_ne, w32_id, um_eq, um_ne, um_um, uu_eq, uu_ne, uu_uu, vv_eq, vv_ne, vv_vv, ne_eq, not_false_eq_true, not_true_eq_false, reduceCtorEq, Int.reduceAdd, Int.reduceSub, Int.reduceMul, Int.reduceNeg, Nat.reduceEqDiff, or_true, true_or, true_implies, false_implies, Int.reduceLT, Int.reduceLE, Int.reduceEq]
    exact q
  case r_num =>
    intro j pl o k e f c1 c2 _ i
    refine mC_b i (fun u M h => ?_)
    obtain ⟨u', M', a1, a2, a3, a4⟩ := oneq_r nx cb 0 (tk j - 100) h (jc _ _ _ _ _ _ h (by omega))
    refine ⟨u', M', a1, a2, a3, fun F Q q => ?_⟩
    have t1 := (tkr_1 h.1.2.2).2 (by omega)
    have tn := tkr_n h.1.2.2 (by omega)
    have n1 : u 10 = tk j - 100 := by omega
    simp (disch := first | omega | decide) only [mX12_beginOne, mX12_beginOne_J20, ↓rh_rcv, ↓rh_g9, ↓rh_p9, ↓rh_g10, ↓rh_p10, ↓be_y, ↓be_n, ↓bf_y, ↓bf_n, ↓bl_y, ↓bl_n, ↓bm_y, ↓bm_n, ↓bg_y, ↓bg_n, ↓bs_y, ↓bs_n, ↓bo_y, ↓bo_n, ↓bp_y, ↓bp_n, ↓forall_eq, ↓within_y, ↓within_n, ↓isIn_y, ↓isIn_n, and_true, true_and, and_self, us_at, us_ne, w32_id, um_eq, um_ne, um_um, uu_eq, uu_ne, uu_uu, vv_eq, vv_ne, vv_vv, ne_eq, not_false_eq_true, not_true_eq_false, reduceCtorEq, Int.reduceAdd, Int.reduceSub, Int.reduceMul, Int.reduceNeg, Nat.reduceEqDiff, or_true, true_or, true_implies, false_implies, Int.reduceLT, Int.reduceLE, Int.reduceEq, t1, n1]
    refine nameo_r h.1.2.2 ?_
    rw [if_neg (by omega)]
    simp (disch := first | omega | decide) only [mX12_beginOne_J39, mX12_beginOne_J51, mX12_beginOne_J65, ↓rh_rcv, ↓rh_g9, ↓rh_p9, ↓rh_g10, ↓rh_p10, ↓be_y, ↓be_n, ↓bf_y, ↓bf_n, ↓bl_y, ↓bl_n, ↓bm_y, ↓bm_n, ↓bg_y, ↓bg_n, ↓bs_y, ↓bs_n, ↓bo_y, ↓bo_n, ↓bp_y, ↓bp_n, ↓forall_eq, ↓within_y, ↓within_n, ↓isIn_y, ↓isIn_n, and_true, true_and, and_self, us_at, us_ne, w32_id, um_eq, um_ne, um_um, uu_eq, uu_ne, uu_uu, vv_eq, vv_ne, vv_vv, ne_eq, not_false_eq_true, not_true_eq_false, reduceCtorEq, Int.reduceAdd, Int.reduceSub, Int.reduceMul, Int.reduceNeg, Nat.reduceEqDiff, or_true, true_or, true_implies, false_implies, Int.reduceLT, Int.reduceLE, Int.reduceEq, t1, n1]
    exact a4 F Q q
  case r_nam =>
    intro j pl o k e f c1 c2 c3 _ i
    refine mC_b i (fun u M h => ?_)
    obtain ⟨u', M', a1, a2, a3, a4⟩ := oneq_r nx cb 1 (tk j) h (jc _ _ _ _ _ _ h (by omega))
    refine ⟨u', M', a1, a2, a3, fun F Q q => ?_⟩
    have tt := tkr_t h.1.2.2
    have n1 : ¬ u 9 = 1 := fun t => by have := (tkr_1 h.1.2.2).1 t; omega
    simp (disch := first | omega | decide) only [mX12_beginOne, mX12_beginOne_J20, ↓rh_rcv, ↓rh_g9, ↓rh_p9, ↓rh_g10, ↓rh_p10, ↓be_y, ↓be_n, ↓bf_y, ↓bf_n, ↓bl_y, ↓bl_n, ↓bm_y, ↓bm_n, ↓bg_y, ↓bg_n, ↓bs_y, ↓bs_n, ↓bo_y, ↓bo_n, ↓bp_y, ↓bp_n, ↓forall_eq, ↓within_y, ↓within_n, ↓isIn_y, ↓isIn_n, and_true, true_and, and_self, us_at, us_ne, w32_id, um_eq, um_ne, um_um, uu_eq, uu_ne, uu_uu, vv_eq, vv_ne, vv_vv, ne_eq, not_false_eq_true, not_true_eq_false, reduceCtorEq, Int.reduceAdd, Int.reduceSub, Int.reduceMul, Int.reduceNeg, Nat.reduceEqDiff, or_true, true_or, true_implies, false_implies, Int.reduceLT, Int.reduceLE, Int.reduceEq]
    refine nameo_r h.1.2.2 ?_
    rw [if_pos ⟨c1, c2⟩]
    simp (disch := first | omega | decide) only [w32_id, ↓rh_rcv, ↓rh_g9, ↓rh_p9, ↓be_y, ↓be_n, ↓bf_y, ↓bf_n, ↓bl_y, ↓bl_n, ↓bm_y, ↓bm_n, ↓bg_y, ↓bg_n, ↓bs_y, ↓bs_n, ↓bo_y, ↓bo_n, ↓bp_y, ↓bp_n, ↓forall_eq, ↓within_y, ↓within_n, ↓isIn_y, ↓isIn_n, and_true, true_and, and_self, us_at, us_ne, w32_id, um_eq, um_ne, um_um, uu_eq, uu_ne, uu_uu, vv_eq, vv_ne, vv_vv, ne_eq, not_false_eq_true, not_true_eq_false, reduceCtorEq, Int.reduceAdd, Int.reduceSub, Int.reduceMul, Int.reduceNeg, Nat.reduceEqDiff, or_true, true_or, true_implies, false_implies, Int.reduceLT, Int.reduceLE, Int.reduceEq]
    refine isOf_r h.2.2.2.2.1 ⟨c1, c2⟩ (.inl ⟨rfl, c3⟩) ?_
    simp (disch := first | omega | decide) only [mX12_beginOne_J39, mX12_beginOne_J51, mX12_beginOne_J65, ↓rh_rcv, ↓rh_g9, ↓rh_p9, ↓rh_g10, ↓rh_p10, ↓be_y, ↓be_n, ↓bf_y, ↓bf_n, ↓bl_y, ↓bl_n, ↓bm_y, ↓bm_n, ↓bg_y, ↓bg_n, ↓bs_y, ↓bs_n, ↓bo_y, ↓bo_n, ↓bp_y, ↓bp_n, ↓forall_eq, ↓within_y, ↓within_n, ↓isIn_y, ↓isIn_n, and_true, true_and, and_self, us_at, us_ne, w32_id, um_eq, um_ne, um_um, uu_eq, uu_ne, uu_uu, vv_eq, vv_ne, vv_vv, ne_eq, not_false_eq_true, not_true_eq_false, reduceCtorEq, Int.reduceAdd, Int.reduceSub, Int.reduceMul, Int.reduceNeg, Nat.reduceEqDiff, or_true, true_or, true_implies, false_implies, Int.reduceLT, Int.reduceLE, Int.reduceEq]
    exact a4 F Q q
  case r_dee =>
    intro j pl o c1 c2
    have c1' := c1
    unfold isB isU at c1'
    refine mC_f (by omega) (fun u M h F Q q => ?_)
    refine bg_39 h.1 (by omega) (by omega) (bg_opn h.1 c1 (opd_8 h.2.1 c2 q))
  case r_opn =>
    intro j pl o k e f c1 c2 _ i
    have c1' := c1
    unfold isB isU at c1'
    refine mC_b i (fun u M h => ?_)
    obtain ⟨u', M', a1, a2, a3, a4⟩ := opd_r nx cb (x := opc (tk j)) (by
      rcases c1 with c | c | c | c | c <;> (rw [c]; decide)) h (jc _ _ _ _ _ _ h (by omega)) c2
    exact ⟨u', M', a1, a2, a3, fun F Q q => bg_39 h.1 (by omega) (by omega) (bg_opn h.1 c1 (a4 F Q q))⟩
  case r_ntD =>
    intro j pl o c1 c2 c3
    refine mC_f (by omega) (fun u M h F Q q => ?_)
    have hh := h.2.2.2.2.2.1
    refine bg_39 h.1 (by omega) (by omega) (bg_not h.1 ⟨by omega, by unfold isB isU; omega⟩ ⟨fun _ => aah_r hh.1 hh.2.1 h.2.1 (.inl ⟨rfl, c2⟩) ?_, fun n => absurd c1 n⟩)
    simp (disch := first | omega | decide) only [w32_id, ↓rh_rcv, ↓rh_g0, ↓be_y, ↓be_n, ↓bf_y, ↓bf_n, ↓bl_y, ↓bl_n, ↓bm_y, ↓bm_n, ↓bg_y, ↓bg_n, ↓bs_y, ↓bs_n, ↓bo_y, ↓bo_n, ↓bp_y, ↓bp_n, ↓forall_eq, ↓within_y, ↓within_n, ↓isIn_y, ↓isIn_n, and_true, true_and, and_self, us_at, us_ne, w32_id, um_eq, um_ne, um_um, uu_eq, uu_ne, uu_uu, vv_eq, vv_ne, vv_vv, ne_eq, not_false_eq_true, not_true_eq_false, reduceCtorEq, Int.reduceAdd, Int.reduceSub, Int.reduceMul, Int.reduceNeg, Nat.reduceEqDiff, or_true, true_or, true_implies, false_implies, Int.reduceLT, Int.reduceLE, Int.reduceEq]
    exact opd_8 h.2.1 c3 q
  case r_ntt =>
    intro j pl o k e f c1 c2 c3 _ i
    refine mC_b i (fun u M h => ?_)
    have hh := h.2.2.2.2.2.1
    obtain ⟨u', M', a1, a2, a3, a4⟩ := opd_r nx cb (x := 20) (by decide) h (jc _ _ _ _ _ _ h (by omega)) c3
    refine ⟨u', M', a1, a2, a3, fun F Q q => bg_39 h.1 (by omega) (by omega) (bg_not h.1 ⟨by omega, by unfold isB isU; omega⟩ ⟨fun _ => aah_r hh.1 hh.2.1 h.2.1 (.inl ⟨rfl, c2⟩) ?_, fun n => absurd c1 n⟩)⟩
    simp (disch := first | omega | decide) only [w32_id, ↓rh_rcv, ↓rh_g0, ↓be_y, ↓be_n, ↓bf_y, ↓bf_n, ↓bl_y, ↓bl_n, ↓bm_y, ↓bm_n, ↓bg_y, ↓bg_n, ↓bs_y, ↓bs_n, ↓bo_y, ↓bo_n, ↓bp_y, ↓bp_n, ↓forall_eq, ↓within_y, ↓within_n, ↓isIn_y, ↓isIn_n, and_true, true_and, and_self, us_at, us_ne, w32_id, um_eq, um_ne, um_um, uu_eq, uu_ne, uu_uu, vv_eq, vv_ne, vv_vv, ne_eq, not_false_eq_true, not_true_eq_false, reduceCtorEq, Int.reduceAdd, Int.reduceSub, Int.reduceMul, Int.reduceNeg, Nat.reduceEqDiff, or_true, true_or, true_implies, false_implies, Int.reduceLT, Int.reduceLE, Int.reduceEq]
    exact a4 F Q q
  case r_non =>
    intro j pl o c1 c2 c3 c4
    refine mC_f (by omega) (fun u M h F Q q => ?_)
    have hh := h.2.2.2.2.2.1
    refine bg_39 h.1 c1 c2 (bg_not h.1 ⟨c1, c3⟩ ⟨fun c => aah_r hh.1 hh.2.1 h.2.1 (.inr ⟨rfl, c4 c⟩) ?_, fun n => q⟩)
    simp (disch := first | omega | decide) only [w32_id, ↓rh_rcv, ↓rh_g0, ↓be_y, ↓be_n, ↓bf_y, ↓bf_n, ↓bl_y, ↓bl_n, ↓bm_y, ↓bm_n, ↓bg_y, ↓bg_n, ↓bs_y, ↓bs_n, ↓bo_y, ↓bo_n, ↓bp_y, ↓bp_n, ↓forall_eq, ↓within_y, ↓within_n, ↓isIn_y, ↓isIn_n, and_true, true_and, and_self, us_at, us_ne, w32_id, um_eq, um_ne, um_um, uu_eq, uu_ne, uu_uu, vv_eq, vv_ne, vv_vv, ne_eq, not_false_eq_true, not_true_eq_false, reduceCtorEq, Int.reduceAdd, Int.reduceSub, Int.reduceMul, Int.reduceNeg, Nat.reduceEqDiff, or_true, true_or, true_implies, false_implies, Int.reduceLT, Int.reduceLE, Int.reduceEq]
    exact q
  case r_btw =>
    intro j pl o p k e f hb _ i
    exact mC_h i (fun u M h => bh_b nx cb t44 hb h)
  case r_thn =>
    intro j pl o k e f c1 c2 c3 _ i
    refine mC_h i (fun u M h => ?_)
    have hh := h.2.2.2.2.2.1
    refine bh_t nx cb (.inl rfl) ⟨by omega, fun _ => ⟨fun n => absurd c3 n, fun _ => by omega⟩⟩ (by omega) (jc _ _ _ _ _ _ h (by omega)) (fun F Q q => ?_) h
    rw [c2]
    unfold mX12_partOf
    refine ⟨fun t => absurd t (by decide), fun _ => ?_, fun t => absurd t (by decide), fun t => absurd t (by decide), fun t => absurd t (by decide)⟩
    have y1 := fun Q => isw_y (F := F) (M := M) (Q := Q) h.1.2.2 (x := 23) (by omega) c1
    simp (disch := first | omega | decide) only [w32_id, ↓rh_rcv, ↓rh_g9, ↓rh_p9, ↓be_y, ↓be_n, ↓bf_y, ↓bf_n, ↓bl_y, ↓bl_n, ↓bm_y, ↓bm_n, ↓bg_y, ↓bg_n, ↓bs_y, ↓bs_n, ↓bo_y, ↓bo_n, ↓bp_y, ↓bp_n, ↓forall_eq, ↓within_y, ↓within_n, ↓isIn_y, ↓isIn_n, and_true, true_and, and_self, us_at, us_ne, w32_id, um_eq, um_ne, um_um, uu_eq, uu_ne, uu_uu, vv_eq, vv_ne, vv_vv, ne_eq, not_false_eq_true, not_true_eq_false, reduceCtorEq, Int.reduceAdd, Int.reduceSub, Int.reduceMul, Int.reduceNeg, Nat.reduceEqDiff, or_true, true_or, true_implies, false_implies, Int.reduceLT, Int.reduceLE, Int.reduceEq, w_then, y1]
    refine cmpq_r hh.1 hh.2.1 h.2.1 (.inl ⟨rfl, c3⟩) ?_
    simp (disch := first | omega | decide) only [w32_id, ↓rh_rcv, ↓rh_g9, ↓rh_p9, ↓be_y, ↓be_n, ↓bf_y, ↓bf_n, ↓bl_y, ↓bl_n, ↓bm_y, ↓bm_n, ↓bg_y, ↓bg_n, ↓bs_y, ↓bs_n, ↓bo_y, ↓bo_n, ↓bp_y, ↓bp_n, ↓forall_eq, ↓within_y, ↓within_n, ↓isIn_y, ↓isIn_n, and_true, true_and, and_self, us_at, us_ne, w32_id, um_eq, um_ne, um_um, uu_eq, uu_ne, uu_uu, vv_eq, vv_ne, vv_vv, ne_eq, not_false_eq_true, not_true_eq_false, reduceCtorEq, Int.reduceAdd, Int.reduceSub, Int.reduceMul, Int.reduceNeg, Nat.reduceEqDiff, or_true, true_or, true_implies, false_implies, Int.reduceLT, Int.reduceLE, Int.reduceEq]
    exact q
  case r_els =>
    intro j pl o k e f c1 c2 _ i
    refine mC_h i (fun u M h => ?_)
    refine bh_t nx cb (.inr rfl) ⟨by omega, fun t => by omega⟩ (by omega) (jc _ _ _ _ _ _ h (by omega)) (fun F Q q => ?_) h
    rw [c2]
    unfold mX12_partOf
    refine ⟨fun t => absurd t (by decide), fun t => absurd t (by decide), fun _ => ?_, fun t => absurd t (by decide), fun t => absurd t (by decide)⟩
    have y1 := fun Q => isw_y (F := F) (M := M) (Q := Q) h.1.2.2 (x := 24) (by omega) c1
    simp (disch := first | omega | decide) only [w32_id, ↓rh_rcv, ↓rh_g9, ↓rh_p9, ↓be_y, ↓be_n, ↓bf_y, ↓bf_n, ↓bl_y, ↓bl_n, ↓bm_y, ↓bm_n, ↓bg_y, ↓bg_n, ↓bs_y, ↓bs_n, ↓bo_y, ↓bo_n, ↓bp_y, ↓bp_n, ↓forall_eq, ↓within_y, ↓within_n, ↓isIn_y, ↓isIn_n, and_true, true_and, and_self, us_at, us_ne, w32_id, um_eq, um_ne, um_um, uu_eq, uu_ne, uu_uu, vv_eq, vv_ne, vv_vv, ne_eq, not_false_eq_true, not_true_eq_false, reduceCtorEq, Int.reduceAdd, Int.reduceSub, Int.reduceMul, Int.reduceNeg, Nat.reduceEqDiff, or_true, true_or, true_implies, false_implies, Int.reduceLT, Int.reduceLE, Int.reduceEq, w_else, y1]
    exact q
  case r_clo =>
    intro j pl o k e f c1 c2 _ i
    refine mC_h i (fun u M h => ?_)
    have := bh_e (e := []) nx cb ⟨by omega, fun t => by omega⟩ (by omega) (jc _ _ _ _ _ _ h (by omega)) (.inr ⟨by omega, rfl⟩) (fun F Q q => by
      rw [c2]
      unfold mX12_partOf
      refine ⟨fun _ => ?_, fun t => absurd t (by decide), fun t => absurd t (by decide), fun t => absurd t (by decide), fun t => absurd t (by decide)⟩
      have e9 : u 9 = 41 := (tkr_s h.1.2.2 (x := 39) (by omega)).2 c1
      simp (disch := first | omega | decide) only [w32_id, ↓rh_rcv, ↓rh_g9, ↓rh_p9, ↓be_y, ↓be_n, ↓bf_y, ↓bf_n, ↓bl_y, ↓bl_n, ↓bm_y, ↓bm_n, ↓bg_y, ↓bg_n, ↓bs_y, ↓bs_n, ↓bo_y, ↓bo_n, ↓bp_y, ↓bp_n, ↓forall_eq, ↓within_y, ↓within_n, ↓isIn_y, ↓isIn_n, and_true, true_and, and_self, us_at, us_ne, w32_id, um_eq, um_ne, um_um, uu_eq, uu_ne, uu_uu, vv_eq, vv_ne, vv_vv, ne_eq, not_false_eq_true, not_true_eq_false, reduceCtorEq, Int.reduceAdd, Int.reduceSub, Int.reduceMul, Int.reduceNeg, Nat.reduceEqDiff, or_true, true_or, true_implies, false_implies, Int.reduceLT, Int.reduceLE, Int.reduceEq, e9]
      exact q) h
    rw [List.append_nil] at this
    exact this
  case r_nde =>
    intro j pl o k e f c1 c2 _ i
    refine mC_h i (fun u M h => ?_)
    exact bh_e (e := [(3, 0)]) nx cb ⟨by omega, fun t => by omega⟩ (by omega) (jc _ _ _ _ _ _ h (by omega)) (.inl ⟨c2, rfl⟩) (fun F Q q => by
      rw [c2]
      unfold mX12_partOf
      refine ⟨fun t => absurd t (by decide), fun t => absurd t (by decide), fun t => absurd t (by decide), fun _ => ?_, fun t => absurd t (by decide)⟩
      have y1 := fun Q => isw_y (F := F) (M := M) (Q := Q) h.1.2.2 (x := 25) (by omega) c1
      simp (disch := first | omega | decide) only [w32_id, ↓rh_rcv, ↓rh_g9, ↓rh_p9, ↓be_y, ↓be_n, ↓bf_y, ↓bf_n, ↓bl_y, ↓bl_n, ↓bm_y, ↓bm_n, ↓bg_y, ↓bg_n, ↓bs_y, ↓bs_n, ↓bo_y, ↓bo_n, ↓bp_y, ↓bp_n, ↓forall_eq, ↓within_y, ↓within_n, ↓isIn_y, ↓isIn_n, and_true, true_and, and_self, us_at, us_ne, w32_id, um_eq, um_ne, um_um, uu_eq, uu_ne, uu_uu, vv_eq, vv_ne, vv_vv, ne_eq, not_false_eq_true, not_true_eq_false, reduceCtorEq, Int.reduceAdd, Int.reduceSub, Int.reduceMul, Int.reduceNeg, Nat.reduceEqDiff, or_true, true_or, true_implies, false_implies, Int.reduceLT, Int.reduceLE, Int.reduceEq, w_end, y1]
      exact q) h
  case r_stp =>
    intro j pl o c1 c2 c3 c4 c5 c6 u M h
    have hh := h.2.2.2.2.2.1
    have ob := opn_b hh.1
    refine ⟨1, u, M, h.1, h.2.2.1, fun _ _ _ _ _ _ _ _ _ _ => rfl, frX_r M, ⟨hh.2.2.2, by omega, by omega⟩, fun F Q q => ?_⟩
    have e18 : u 18 = 1 := h.2.2.2.1
    rw [mX12_summed_L15]
    simp (disch := first | omega | decide) only [mX12_behindOne, ↓rh_rcv, ↓rh_g18, ↓rh_p18, ↓be_y, ↓be_n, ↓bf_y, ↓bf_n, ↓bl_y, ↓bl_n, ↓bm_y, ↓bm_n, ↓bg_y, ↓bg_n, ↓bs_y, ↓bs_n, ↓bo_y, ↓bo_n, ↓bp_y, ↓bp_n, ↓forall_eq, ↓within_y, ↓within_n, ↓isIn_y, ↓isIn_n, and_true, true_and, and_self, us_at, us_ne, w32_id, um_eq, um_ne, um_um, uu_eq, uu_ne, uu_uu, vv_eq, vv_ne, vv_vv, ne_eq, not_false_eq_true, not_true_eq_false, reduceCtorEq, Int.reduceAdd, Int.reduceSub, Int.reduceMul, Int.reduceNeg, Nat.reduceEqDiff, or_true, true_or, true_implies, false_implies, Int.reduceLT, Int.reduceLE, Int.reduceEq, e18]
    refine bt_n h.1.2.2 hh.1 hh.2.1 h.2.1 c1 ?_
    simp (disch := first | omega | decide) only [w32_id, ↓rh_rcv, ↓rh_g0, ↓be_y, ↓be_n, ↓bf_y, ↓bf_n, ↓bl_y, ↓bl_n, ↓bm_y, ↓bm_n, ↓bg_y, ↓bg_n, ↓bs_y, ↓bs_n, ↓bo_y, ↓bo_n, ↓bp_y, ↓bp_n, ↓forall_eq, ↓within_y, ↓within_n, ↓isIn_y, ↓isIn_n, and_true, true_and, and_self, us_at, us_ne, w32_id, um_eq, um_ne, um_um, uu_eq, uu_ne, uu_uu, vv_eq, vv_ne, vv_vv, ne_eq, not_false_eq_true, not_true_eq_false, reduceCtorEq, Int.reduceAdd, Int.reduceSub, Int.reduceMul, Int.reduceNeg, Nat.reduceEqDiff, or_true, true_or, true_implies, false_implies, Int.reduceLT, Int.reduceLE, Int.reduceEq]
    refine opn_r hh.1 hh.2.1 h.2.1 ?_
    simp (disch := first | omega | decide) only [w32_id, ↓rh_rcv, ↓rh_g0, ↓be_y, ↓be_n, ↓bf_y, ↓bf_n, ↓bl_y, ↓bl_n, ↓bm_y, ↓bm_n, ↓bg_y, ↓bg_n, ↓bs_y, ↓bs_n, ↓bo_y, ↓bo_n, ↓bp_y, ↓bp_n, ↓forall_eq, ↓within_y, ↓within_n, ↓isIn_y, ↓isIn_n, and_true, true_and, and_self, us_at, us_ne, w32_id, um_eq, um_ne, um_um, uu_eq, uu_ne, uu_uu, vv_eq, vv_ne, vv_vv, ne_eq, not_false_eq_true, not_true_eq_false, reduceCtorEq, Int.reduceAdd, Int.reduceSub, Int.reduceMul, Int.reduceNeg, Nat.reduceEqDiff, or_true, true_or, true_implies, false_implies, Int.reduceLT, Int.reduceLE, Int.reduceEq]
    refine pt_n h.1.2.2 hh.1 hh.2.1 h.2.1 c3 c4 c5 c6 ?_
    simp (disch := first | omega | decide) only [w32_id, ↓rh_rcv, ↓rh_g0, ↓be_y, ↓be_n, ↓bf_y, ↓bf_n, ↓bl_y, ↓bl_n, ↓bm_y, ↓bm_n, ↓bg_y, ↓bg_n, ↓bs_y, ↓bs_n, ↓bo_y, ↓bo_n, ↓bp_y, ↓bp_n, ↓forall_eq, ↓within_y, ↓within_n, ↓isIn_y, ↓isIn_n, and_true, true_and, and_self, us_at, us_ne, w32_id, um_eq, um_ne, um_um, uu_eq, uu_ne, uu_uu, vv_eq, vv_ne, vv_vv, ne_eq, not_false_eq_true, not_true_eq_false, reduceCtorEq, Int.reduceAdd, Int.reduceSub, Int.reduceMul, Int.reduceNeg, Nat.reduceEqDiff, or_true, true_or, true_implies, false_implies, Int.reduceLT, Int.reduceLE, Int.reduceEq]
    refine opn_r hh.1 hh.2.1 h.2.1 ?_
    clear c3 c4 c5 c6 c1
    simp (disch := first | omega | decide) only [w32_id, ↓rh_rcv, ↓rh_g0, ↓be_y, ↓be_n, ↓bf_y, ↓bf_n, ↓bl_y, ↓bl_n, ↓bm_y, ↓bm_n, ↓bg_y, ↓bg_n, ↓bs_y, ↓bs_n, ↓bo_y, ↓bo_n, ↓bp_y, ↓bp_n, ↓forall_eq, ↓within_y, ↓within_n, ↓isIn_y, ↓isIn_n, and_true, true_and, and_self, us_at, us_ne, w32_id, um_eq, um_ne, um_um, uu_eq, uu_ne, uu_uu, vv_eq, vv_ne, vv_vv, ne_eq, not_false_eq_true, not_true_eq_false, reduceCtorEq, Int.reduceAdd, Int.reduceSub, Int.reduceMul, Int.reduceNeg, Nat.reduceEqDiff, or_true, true_or, true_implies, false_implies, Int.reduceLT, Int.reduceLE, Int.reduceEq]
    exact q
  case r_fin =>
    intro j pl o c1 c2 u M h
    obtain ⟨h1, h2, h3, h4, h5, ⟨h6, h7, h8, h9⟩, h10, h11⟩ := id h
    have ob := opn_b h6
    have om : opn pl = -1 := by omega
    obtain ⟨u1, M1, a1, a2, a3, a4, a5, a6⟩ := settle_r (l := 1) (by omega) pl o u M h6 h7 (by omega) h2 h3
    obtain ⟨s1, s2, s3, s4⟩ := stl_i (l := 1) pl o h6
    refine ⟨1, u1, M1, rtk_u (fun k k1 k2 => a3 k (by omega) (by omega) (by omega)) h1, a2, frp_q a3, a4, ⟨h9, by omega, by omega⟩, fun F Q q => ?_⟩
    have e18 : u 18 = 1 := h4
    rw [mX12_summed_L15]
    simp (disch := first | omega | decide) only [mX12_behindOne, ↓rh_rcv, ↓rh_g18, ↓rh_p18, ↓be_y, ↓be_n, ↓bf_y, ↓bf_n, ↓bl_y, ↓bl_n, ↓bm_y, ↓bm_n, ↓bg_y, ↓bg_n, ↓bs_y, ↓bs_n, ↓bo_y, ↓bo_n, ↓bp_y, ↓bp_n, ↓forall_eq, ↓within_y, ↓within_n, ↓isIn_y, ↓isIn_n, and_true, true_and, and_self, us_at, us_ne, w32_id, um_eq, um_ne, um_um, uu_eq, uu_ne, uu_uu, vv_eq, vv_ne, vv_vv, ne_eq, not_false_eq_true, not_true_eq_false, reduceCtorEq, Int.reduceAdd, Int.reduceSub, Int.reduceMul, Int.reduceNeg, Nat.reduceEqDiff, or_true, true_or, true_implies, false_implies, Int.reduceLT, Int.reduceLE, Int.reduceEq, e18]
    refine bt_n h1.2.2 h6 h7 h2 c1 ?_
    simp (disch := first | omega | decide) only [w32_id, ↓rh_rcv, ↓rh_g0, ↓be_y, ↓be_n, ↓bf_y, ↓bf_n, ↓bl_y, ↓bl_n, ↓bm_y, ↓bm_n, ↓bg_y, ↓bg_n, ↓bs_y, ↓bs_n, ↓bo_y, ↓bo_n, ↓bp_y, ↓bp_n, ↓forall_eq, ↓within_y, ↓within_n, ↓isIn_y, ↓isIn_n, and_true, true_and, and_self, us_at, us_ne, w32_id, um_eq, um_ne, um_um, uu_eq, uu_ne, uu_uu, vv_eq, vv_ne, vv_vv, ne_eq, not_false_eq_true, not_true_eq_false, reduceCtorEq, Int.reduceAdd, Int.reduceSub, Int.reduceMul, Int.reduceNeg, Nat.reduceEqDiff, or_true, true_or, true_implies, false_implies, Int.reduceLT, Int.reduceLE, Int.reduceEq]
    refine opn_r h6 h7 h2 ?_
    simp (disch := first | omega | decide) only [w32_id, ↓rh_rcv, ↓rh_g0, ↓be_y, ↓be_n, ↓bf_y, ↓bf_n, ↓bl_y, ↓bl_n, ↓bm_y, ↓bm_n, ↓bg_y, ↓bg_n, ↓bs_y, ↓bs_n, ↓bo_y, ↓bo_n, ↓bp_y, ↓bp_n, ↓forall_eq, ↓within_y, ↓within_n, ↓isIn_y, ↓isIn_n, and_true, true_and, and_self, us_at, us_ne, w32_id, um_eq, um_ne, um_um, uu_eq, uu_ne, uu_uu, vv_eq, vv_ne, vv_vv, ne_eq, not_false_eq_true, not_true_eq_false, reduceCtorEq, Int.reduceAdd, Int.reduceSub, Int.reduceMul, Int.reduceNeg, Nat.reduceEqDiff, or_true, true_or, true_implies, false_implies, Int.reduceLT, Int.reduceLE, Int.reduceEq]
    refine pt_n h1.2.2 h6 h7 h2 (by omega) (by omega) (by omega) (by omega) ?_
    simp (disch := first | omega | decide) only [w32_id, ↓rh_rcv, ↓rh_g0, ↓be_y, ↓be_n, ↓bf_y, ↓bf_n, ↓bl_y, ↓bl_n, ↓bm_y, ↓bm_n, ↓bg_y, ↓bg_n, ↓bs_y, ↓bs_n, ↓bo_y, ↓bo_n, ↓bp_y, ↓bp_n, ↓forall_eq, ↓within_y, ↓within_n, ↓isIn_y, ↓isIn_n, and_true, true_and, and_self, us_at, us_ne, w32_id, um_eq, um_ne, um_um, uu_eq, uu_ne, uu_uu, vv_eq, vv_ne, vv_vv, ne_eq, not_false_eq_true, not_true_eq_false, reduceCtorEq, Int.reduceAdd, Int.reduceSub, Int.reduceMul, Int.reduceNeg, Nat.reduceEqDiff, or_true, true_or, true_implies, false_implies, Int.reduceLT, Int.reduceLE, Int.reduceEq]
    refine opn_r h6 h7 h2 ?_
    rw [om]
    simp (disch := first | omega | decide) only [mX12_settle, ↓rh_rcv, ↓rh_g0, ↓be_y, ↓be_n, ↓bf_y, ↓bf_n, ↓bl_y, ↓bl_n, ↓bm_y, ↓bm_n, ↓bg_y, ↓bg_n, ↓bs_y, ↓bs_n, ↓bo_y, ↓bo_n, ↓bp_y, ↓bp_n, ↓forall_eq, ↓within_y, ↓within_n, ↓isIn_y, ↓isIn_n, and_true, true_and, and_self, us_at, us_ne, w32_id, um_eq, um_ne, um_um, uu_eq, uu_ne, uu_uu, vv_eq, vv_ne, vv_vv, ne_eq, not_false_eq_true, not_true_eq_false, reduceCtorEq, Int.reduceAdd, Int.reduceSub, Int.reduceMul, Int.reduceNeg, Nat.reduceEqDiff, or_true, true_or, true_implies, false_implies, Int.reduceLT, Int.reduceLE, Int.reduceEq]
    exact ⟨_, a6 F _ q⟩
end RL
