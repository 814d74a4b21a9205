section RB
variable {tk plc bh : Nat → Int} {cn : Nat} {mo : Bool} {L : Int} {W : Int → Int} {u : Nat → Int} {M : Nat → Int → Int} {F : hp} {pl : List Int} {o : List (Int × Int)} {j : Nat} {w : Bool}
theorem co_y {c : Int} (h : tkr c (u 9) (u 10) (u 11)) (hc : isC c) {Q : Int → hp → Prop} (q : Q (cop c) (rh F u M)) : mX12_compareOf 69 (rh F u M) Q := by
  have s := fun (x : Int) (hx : 30 ≤ x ∧ x ≤ 42) => tkr_s h hx
  unfold isC at hc
  obtain rfl | rfl | rfl | rfl | rfl | rfl : c = 30 ∨ c = 31 ∨ c = 32 ∨ c = 33 ∨ c = 41 ∨ c = 42 := by omega
  · have e9 : u 9 = 60 := (s 30 (by omega)).2 rfl
    simp (disch := first | omega | decide) only [mX12_compareOf, ↓rh_rcv, ↓rh_g9, ↓rh_p9, ↓be_y, ↓be_n, ↓bf_y, ↓bf_n, ↓bl_y, ↓bl_n, ↓bm_y, ↓bm_n, ↓bg_y, ↓bg_n, ↓bs_y, ↓bs_n, ↓bo_y, ↓bo_n, ↓bp_y, ↓bp_n, ↓forall_eq, ↓within_y, ↓within_n, ↓isIn_y, ↓isIn_n, and_true, true_and, and_self, us_at, us_ne, w32_id, um_eq, um_ne, um_um, uu_eq, uu_ne, uu_uu, vv_eq, vv_ne, vv_vv, ne_eq, not_false_eq_true, not_true_eq_false, reduceCtorEq, Int.reduceAdd, Int.reduceSub, Int.reduceMul, Int.reduceNeg, Nat.reduceEqDiff, or_true, true_or, true_implies, false_implies, Int.reduceLT, Int.reduceLE, Int.reduceEq, e9]
    exact q
  · have e9 : u 9 = 62 := (s 31 (by omega)).2 rfl
    simp (disch := first | omega | decide) only [mX12_compareOf, ↓rh_rcv, ↓rh_g9, ↓rh_p9, ↓be_y, ↓be_n, ↓bf_y, ↓bf_n, ↓bl_y, ↓bl_n, ↓bm_y, ↓bm_n, ↓bg_y, ↓bg_n, ↓bs_y, ↓bs_n, ↓bo_y, ↓bo_n, ↓bp_y, ↓bp_n, ↓forall_eq, ↓within_y, ↓within_n, ↓isIn_y, ↓isIn_n, and_true, true_and, and_self, us_at, us_ne, w32_id, um_eq, um_ne, um_um, uu_eq, uu_ne, uu_uu, vv_eq, vv_ne, vv_vv, ne_eq, not_false_eq_true, not_true_eq_false, reduceCtorEq, Int.reduceAdd, Int.reduceSub, Int.reduceMul, Int.reduceNeg, Nat.reduceEqDiff, or_true, true_or, true_implies, false_implies, Int.reduceLT, Int.reduceLE, Int.reduceEq, e9]
    exact q
  · have e9 : u 9 = 61 := (s 32 (by omega)).2 rfl
    simp (disch := first | omega | decide) only [mX12_compareOf, ↓rh_rcv, ↓rh_g9, ↓rh_p9, ↓be_y, ↓be_n, ↓bf_y, ↓bf_n, ↓bl_y, ↓bl_n, ↓bm_y, ↓bm_n, ↓bg_y, ↓bg_n, ↓bs_y, ↓bs_n, ↓bo_y, ↓bo_n, ↓bp_y, ↓bp_n, ↓forall_eq, ↓within_y, ↓within_n, ↓isIn_y, ↓isIn_n, and_true, true_and, and_self, us_at, us_ne, w32_id, um_eq, um_ne, um_um, uu_eq, uu_ne, uu_uu, vv_eq, vv_ne, vv_vv, ne_eq, not_false_eq_true, not_true_eq_false, reduceCtorEq, Int.reduceAdd, Int.reduceSub, Int.reduceMul, Int.reduceNeg, Nat.reduceEqDiff, or_true, true_or, true_implies, false_implies, Int.reduceLT, Int.reduceLE, Int.reduceEq, e9]
    exact q
  · have e9 : u 9 = 35 := (s 33 (by omega)).2 rfl
    simp (disch := first | omega | decide) only [mX12_compareOf, ↓rh_rcv, ↓rh_g9, ↓rh_p9, ↓be_y, ↓be_n, ↓bf_y, ↓bf_n, ↓bl_y, ↓bl_n, ↓bm_y, ↓bm_n, ↓bg_y, ↓bg_n, ↓bs_y, ↓bs_n, ↓bo_y, ↓bo_n, ↓bp_y, ↓bp_n, ↓forall_eq, ↓within_y, ↓within_n, ↓isIn_y, ↓isIn_n, and_true, true_and, and_self, us_at, us_ne, w32_id, um_eq, um_ne, um_um, uu_eq, uu_ne, uu_uu, vv_eq, vv_ne, vv_vv, ne_eq, not_false_eq_true, not_true_eq_false, reduceCtorEq, Int.reduceAdd, Int.reduceSub, Int.reduceMul, Int.reduceNeg, Nat.reduceEqDiff, or_true, true_or, true_implies, false_implies, Int.reduceLT, Int.reduceLE, Int.reduceEq, e9]
    exact q
  · have e9 : u 9 = 4 := (s 41 (by omega)).2 rfl
    simp (disch := first | omega | decide) only [mX12_compareOf, ↓rh_rcv, ↓rh_g9, ↓rh_p9, ↓be_y, ↓be_n, ↓bf_y, ↓bf_n, ↓bl_y, ↓bl_n, ↓bm_y, ↓bm_n, ↓bg_y, ↓bg_n, ↓bs_y, ↓bs_n, ↓bo_y, ↓bo_n, ↓bp_y, ↓bp_n, ↓forall_eq, ↓within_y, ↓within_n, ↓isIn_y, ↓isIn_n, and_true, true_and, and_self, us_at, us_ne, w32_id, um_eq, um_ne, um_um, uu_eq, uu_ne, uu_uu, vv_eq, vv_ne, vv_vv, ne_eq, not_false_eq_true, not_true_eq_false, reduceCtorEq, Int.reduceAdd, Int.reduceSub, Int.reduceMul, Int.reduceNeg, Nat.reduceEqDiff, or_true, true_or, true_implies, false_implies, Int.reduceLT, Int.reduceLE, Int.reduceEq, e9]
    exact q
  · have e9 : u 9 = 5 := (s 42 (by omega)).2 rfl
    simp (disch := first | omega | decide) only [mX12_compareOf, ↓rh_rcv, ↓rh_g9, ↓rh_p9, ↓be_y, ↓be_n, ↓bf_y, ↓bf_n, ↓bl_y, ↓bl_n, ↓bm_y, ↓bm_n, ↓bg_y, ↓bg_n, ↓bs_y, ↓bs_n, ↓bo_y, ↓bo_n, ↓bp_y, ↓bp_n, ↓forall_eq, ↓within_y, ↓within_n, ↓isIn_y, ↓isIn_n, and_true, true_and, and_self, us_at, us_ne, w32_id, um_eq, um_ne, um_um, uu_eq, uu_ne, uu_uu, vv_eq, vv_ne, vv_vv, ne_eq, not_false_eq_true, not_true_eq_false, reduceCtorEq, Int.reduceAdd, Int.reduceSub, Int.reduceMul, Int.reduceNeg, Nat.reduceEqDiff, or_true, true_or, true_implies, false_implies, Int.reduceLT, Int.reduceLE, Int.reduceEq, e9]
    exact q
theorem co_n {c : Int} (h : tkr c (u 9) (u 10) (u 11)) (hc : ¬ isC c) {Q : Int → hp → Prop} (q : Q (-1) (rh F u M)) : mX12_compareOf 69 (rh F u M) Q := by
  have tt := tkr_t h
  unfold isC at hc
  have e1 : ¬ u 9 = 60 := fun t => by have := (tkr_s h (x := 30) (by omega)).1 t; omega
  have e2 : ¬ u 9 = 62 := fun t => by have := (tkr_s h (x := 31) (by omega)).1 t; omega
  have e3 : ¬ u 9 = 61 := fun t => by have := (tkr_s h (x := 32) (by omega)).1 t; omega
  have e4 : ¬ u 9 = 35 := fun t => by have := (tkr_s h (x := 33) (by omega)).1 t; omega
  have e5 : ¬ u 9 = 4 := fun t => by have := (tkr_s h (x := 41) (by omega)).1 t; omega
  have e6 : ¬ u 9 = 5 := fun t => by have := (tkr_s h (x := 42) (by omega)).1 t; omega
  clear hc
  simp (disch := first | omega | decide) only [mX12_compareOf, ↓rh_rcv, ↓rh_g9, ↓rh_p9, ↓be_y, ↓be_n, ↓bf_y, ↓bf_n, ↓bl_y, ↓bl_n, ↓bm_y, ↓bm_n, ↓bg_y, ↓bg_n, ↓bs_y, ↓bs_n, ↓bo_y, ↓bo_n, ↓bp_y, ↓bp_n, ↓forall_eq, ↓within_y, ↓within_n, ↓isIn_y, ↓isIn_n, and_true, true_and, and_self, us_at, us_ne, w32_id, um_eq, um_ne, um_um, uu_eq, uu_ne, uu_uu, vv_eq, vv_ne, vv_vv, ne_eq, not_false_eq_true, not_true_eq_false, reduceCtorEq, Int.reduceAdd, Int.reduceSub, Int.reduceMul, Int.reduceNeg, Nat.reduceEqDiff, or_true, true_or, true_implies, false_implies, Int.reduceLT, Int.reduceLE, Int.reduceEq]
  exact q
-- between, where it is no reckoning
theorem bt_41 {c : Int} (h : tkr c (u 9) (u 10) (u 11)) (hc : ¬ (34 ≤ c ∧ c ≤ 37)) {Q : Int → hp → Prop} (q : mX12_openNow 69 (rh F u M) (fun x6 F5 => (w32 x6 = 41 → rcv F5 (some 69) 12 (fun o10 => mX12_isCompared o10 F5 (fun x9 F8 => (w32 x9 = 0 → rcv F8 (some 69) 12 (fun o13 => mX12_compareOf o13 F8 (fun x12 F11 => Q x12 F11))) ∧ (¬ w32 x9 = 0 → mX12_w3 97 110 100 F8 (fun x15 F14 => rcv F14 (some 69) 12 (fun o18 => mX12_isWord o18 x15 F14 (fun x17 F16 => (w32 x17 = 0 → mX12_w2 111 114 F16 (fun x20 F19 => rcv F19 (some 69) 12 (fun o23 => mX12_isWord o23 x20 F19 (fun x22 F21 => (w32 x22 = 0 → Q (-1) F21) ∧ (¬ w32 x22 = 0 → Q 22 F21))))) ∧ (¬ w32 x17 = 0 → Q 21 F16)))))))) ∧ (¬ w32 x6 = 41 → Q (-1) F5))) : mX12_betweenOf 69 (rh F u M) Q := by
  have tt := tkr_t h
  have e1 : ¬ u 9 = 43 := fun t => by have := (tkr_s h (x := 34) (by omega)).1 t; omega
  have e2 : ¬ u 9 = 45 := fun t => by have := (tkr_s h (x := 35) (by omega)).1 t; omega
  have e3 : ¬ u 9 = 42 := fun t => by have := (tkr_s h (x := 36) (by omega)).1 t; omega
  have e4 : ¬ u 9 = 47 := fun t => by have := (tkr_s h (x := 37) (by omega)).1 t; omega
  simp (disch := first | omega | decide) only [mX12_betweenOf, ↓rh_rcv, ↓rh_g9, ↓rh_p9, ↓be_y, ↓be_n, ↓bf_y, ↓bf_n, ↓bl_y, ↓bl_n, ↓bm_y, ↓bm_n, ↓bg_y, ↓bg_n, ↓bs_y, ↓bs_n, ↓bo_y, ↓bo_n, ↓bp_y, ↓bp_n, ↓forall_eq, ↓within_y, ↓within_n, ↓isIn_y, ↓isIn_n, and_true, true_and, and_self, us_at, us_ne, w32_id, um_eq, um_ne, um_um, uu_eq, uu_ne, uu_uu, vv_eq, vv_ne, vv_vv, ne_eq, not_false_eq_true, not_true_eq_false, reduceCtorEq, Int.reduceAdd, Int.reduceSub, Int.reduceMul, Int.reduceNeg, Nat.reduceEqDiff, or_true, true_or, true_implies, false_implies, Int.reduceLT, Int.reduceLE, Int.reduceEq]
  exact q
theorem bt_y {c p : Int} (h : tkr c (u 9) (u 10) (u 11)) (hw : wfp pl) (hc : cnm pl ≤ 8) (hq : pls pl u M) (hb : btw c pl p) {Q : Int → hp → Prop} (q : Q p (rh F u M)) : mX12_betweenOf 69 (rh F u M) Q := by
  have s := fun (x : Int) (hx : 30 ≤ x ∧ x ≤ 42) => tkr_s h hx
  rcases hb with ⟨c1, c2, e⟩ | ⟨c1, c2, c3, e⟩ | ⟨c1, c2, c3, e⟩ | ⟨c1, c2, c3, e⟩
  · subst e
    obtain rfl | rfl | rfl | rfl : c = 34 ∨ c = 35 ∨ c = 36 ∨ c = 37 := by omega
    · have e9 : u 9 = 43 := (s 34 (by omega)).2 rfl
      simp (disch := first | omega | decide) only [mX12_betweenOf, ↓rh_rcv, ↓rh_g9, ↓rh_p9, ↓be_y, ↓be_n, ↓bf_y, ↓bf_n, ↓bl_y, ↓bl_n, ↓bm_y, ↓bm_n, ↓bg_y, ↓bg_n, ↓bs_y, ↓bs_n, ↓bo_y, ↓bo_n, ↓bp_y, ↓bp_n, ↓forall_eq, ↓within_y, ↓within_n, ↓isIn_y, ↓isIn_n, and_true, true_and, and_self, us_at, us_ne, w32_id, um_eq, um_ne, um_um, uu_eq, uu_ne, uu_uu, vv_eq, vv_ne, vv_vv, ne_eq, not_false_eq_true, not_true_eq_false, reduceCtorEq, Int.reduceAdd, Int.reduceSub, Int.reduceMul, Int.reduceNeg, Nat.reduceEqDiff, or_true, true_or, true_implies, false_implies, Int.reduceLT, Int.reduceLE, Int.reduceEq, e9]
      exact q
    · have e9 : u 9 = 45 := (s 35 (by omega)).2 rfl
      simp (disch := first | omega | decide) only [mX12_betweenOf, ↓rh_rcv, ↓rh_g9, ↓rh_p9, ↓be_y, ↓be_n, ↓bf_y, ↓bf_n, ↓bl_y, ↓bl_n, ↓bm_y, ↓bm_n, ↓bg_y, ↓bg_n, ↓bs_y, ↓bs_n, ↓bo_y, ↓bo_n, ↓bp_y, ↓bp_n, ↓forall_eq, ↓within_y, ↓within_n, ↓isIn_y, ↓isIn_n, and_true, true_and, and_self, us_at, us_ne, w32_id, um_eq, um_ne, um_um, uu_eq, uu_ne, uu_uu, vv_eq, vv_ne, vv_vv, ne_eq, not_false_eq_true, not_true_eq_false, reduceCtorEq, Int.reduceAdd, Int.reduceSub, Int.reduceMul, Int.reduceNeg, Nat.reduceEqDiff, or_true, true_or, true_implies, false_implies, Int.reduceLT, Int.reduceLE, Int.reduceEq, e9]
      exact q
    · have e9 : u 9 = 42 := (s 36 (by omega)).2 rfl
      simp (disch := first | omega | decide) only [mX12_betweenOf, ↓rh_rcv, ↓rh_g9, ↓rh_p9, ↓be_y, ↓be_n, ↓bf_y, ↓bf_n, ↓bl_y, ↓bl_n, ↓bm_y, ↓bm_n, ↓bg_y, ↓bg_n, ↓bs_y, ↓bs_n, ↓bo_y, ↓bo_n, ↓bp_y, ↓bp_n, ↓forall_eq, ↓within_y, ↓within_n, ↓isIn_y, ↓isIn_n, and_true, true_and, and_self, us_at, us_ne, w32_id, um_eq, um_ne, um_um, uu_eq, uu_ne, uu_uu, vv_eq, vv_ne, vv_vv, ne_eq, not_false_eq_true, not_true_eq_false, reduceCtorEq, Int.reduceAdd, Int.reduceSub, Int.reduceMul, Int.reduceNeg, Nat.reduceEqDiff, or_true, true_or, true_implies, false_implies, Int.reduceLT, Int.reduceLE, Int.reduceEq, e9]
      exact q
    · have e9 : u 9 = 47 := (s 37 (by omega)).2 rfl
      simp (disch := first | omega | decide) only [mX12_betweenOf, ↓rh_rcv, ↓rh_g9, ↓rh_p9, ↓be_y, ↓be_n, ↓bf_y, ↓bf_n, ↓bl_y, ↓bl_n, ↓bm_y, ↓bm_n, ↓bg_y, ↓bg_n, ↓bs_y, ↓bs_n, ↓bo_y, ↓bo_n, ↓bp_y, ↓bp_n, ↓forall_eq, ↓within_y, ↓within_n, ↓isIn_y, ↓isIn_n, and_true, true_and, and_self, us_at, us_ne, w32_id, um_eq, um_ne, um_um, uu_eq, uu_ne, uu_uu, vv_eq, vv_ne, vv_vv, ne_eq, not_false_eq_true, not_true_eq_false, reduceCtorEq, Int.reduceAdd, Int.reduceSub, Int.reduceMul, Int.reduceNeg, Nat.reduceEqDiff, or_true, true_or, true_implies, false_implies, Int.reduceLT, Int.reduceLE, Int.reduceEq, e9]
      exact q
  · subst e
    refine bt_41 h (by unfold isC at c1; omega) (opn_r hw hc hq ?_)
    rw [c2]
    simp (disch := first | omega | decide) only [w32_id, ↓rh_rcv, ↓rh_g9, ↓rh_p9, ↓be_y, ↓be_n, ↓bf_y, ↓bf_n, ↓bl_y, ↓bl_n, ↓bm_y, ↓bm_n, ↓bg_y, ↓bg_n, ↓bs_y, ↓bs_n, ↓bo_y, ↓bo_n, ↓bp_y, ↓bp_n, ↓forall_eq, ↓within_y, ↓within_n, ↓isIn_y, ↓isIn_n, and_true, true_and, and_self, us_at, us_ne, w32_id, um_eq, um_ne, um_um, uu_eq, uu_ne, uu_uu, vv_eq, vv_ne, vv_vv, ne_eq, not_false_eq_true, not_true_eq_false, reduceCtorEq, Int.reduceAdd, Int.reduceSub, Int.reduceMul, Int.reduceNeg, Nat.reduceEqDiff, or_true, true_or, true_implies, false_implies, Int.reduceLT, Int.reduceLE, Int.reduceEq]
    refine cmpq_r hw hc hq (.inr ⟨rfl, c3⟩) ?_
    simp (disch := first | omega | decide) only [w32_id, ↓rh_rcv, ↓rh_g9, ↓rh_p9, ↓be_y, ↓be_n, ↓bf_y, ↓bf_n, ↓bl_y, ↓bl_n, ↓bm_y, ↓bm_n, ↓bg_y, ↓bg_n, ↓bs_y, ↓bs_n, ↓bo_y, ↓bo_n, ↓bp_y, ↓bp_n, ↓forall_eq, ↓within_y, ↓within_n, ↓isIn_y, ↓isIn_n, and_true, true_and, and_self, us_at, us_ne, w32_id, um_eq, um_ne, um_um, uu_eq, uu_ne, uu_uu, vv_eq, vv_ne, vv_vv, ne_eq, not_false_eq_true, not_true_eq_false, reduceCtorEq, Int.reduceAdd, Int.reduceSub, Int.reduceMul, Int.reduceNeg, Nat.reduceEqDiff, or_true, true_or, true_implies, false_implies, Int.reduceLT, Int.reduceLE, Int.reduceEq]
    exact co_y h c1 q
  · subst e
    refine bt_41 h (by omega) (opn_r hw hc hq ?_)
    rw [c2]
    simp (disch := first | omega | decide) only [w32_id, ↓rh_rcv, ↓rh_g9, ↓rh_p9, ↓be_y, ↓be_n, ↓bf_y, ↓bf_n, ↓bl_y, ↓bl_n, ↓bm_y, ↓bm_n, ↓bg_y, ↓bg_n, ↓bs_y, ↓bs_n, ↓bo_y, ↓bo_n, ↓bp_y, ↓bp_n, ↓forall_eq, ↓within_y, ↓within_n, ↓isIn_y, ↓isIn_n, and_true, true_and, and_self, us_at, us_ne, w32_id, um_eq, um_ne, um_um, uu_eq, uu_ne, uu_uu, vv_eq, vv_ne, vv_vv, ne_eq, not_false_eq_true, not_true_eq_false, reduceCtorEq, Int.reduceAdd, Int.reduceSub, Int.reduceMul, Int.reduceNeg, Nat.reduceEqDiff, or_true, true_or, true_implies, false_implies, Int.reduceLT, Int.reduceLE, Int.reduceEq]
    refine cmpq_r hw hc hq (.inl ⟨rfl, c3⟩) ?_
    have y1 := fun Q => isw_y (F := F) (M := M) (Q := Q) h (x := 27) (by omega) c1
    simp (disch := first | omega | decide) only [w32_id, ↓rh_rcv, ↓rh_g9, ↓rh_p9, ↓be_y, ↓be_n, ↓bf_y, ↓bf_n, ↓bl_y, ↓bl_n, ↓bm_y, ↓bm_n, ↓bg_y, ↓bg_n, ↓bs_y, ↓bs_n, ↓bo_y, ↓bo_n, ↓bp_y, ↓bp_n, ↓forall_eq, ↓within_y, ↓within_n, ↓isIn_y, ↓isIn_n, and_true, true_and, and_self, us_at, us_ne, w32_id, um_eq, um_ne, um_um, uu_eq, uu_ne, uu_uu, vv_eq, vv_ne, vv_vv, ne_eq, not_false_eq_true, not_true_eq_false, reduceCtorEq, Int.reduceAdd, Int.reduceSub, Int.reduceMul, Int.reduceNeg, Nat.reduceEqDiff, or_true, true_or, true_implies, false_implies, Int.reduceLT, Int.reduceLE, Int.reduceEq, w_and, y1]
    exact q
  · subst e
    refine bt_41 h (by omega) (opn_r hw hc hq ?_)
    rw [c2]
    simp (disch := first | omega | decide) only [w32_id, ↓rh_rcv, ↓rh_g9, ↓rh_p9, ↓be_y, ↓be_n, ↓bf_y, ↓bf_n, ↓bl_y, ↓bl_n, ↓bm_y, ↓bm_n, ↓bg_y, ↓bg_n, ↓bs_y, ↓bs_n, ↓bo_y, ↓bo_n, ↓bp_y, ↓bp_n, ↓forall_eq, ↓within_y, ↓within_n, ↓isIn_y, ↓isIn_n, and_true, true_and, and_self, us_at, us_ne, w32_id, um_eq, um_ne, um_um, uu_eq, uu_ne, uu_uu, vv_eq, vv_ne, vv_vv, ne_eq, not_false_eq_true, not_true_eq_false, reduceCtorEq, Int.reduceAdd, Int.reduceSub, Int.reduceMul, Int.reduceNeg, Nat.reduceEqDiff, or_true, true_or, true_implies, false_implies, Int.reduceLT, Int.reduceLE, Int.reduceEq]
    refine cmpq_r hw hc hq (.inl ⟨rfl, c3⟩) ?_
    have y1 := fun Q => isw_n (F := F) (M := M) (Q := Q) h (x := 27) (by omega) (by omega)
    have y2 := fun Q => isw_y (F := F) (M := M) (Q := Q) h (x := 26) (by omega) c1
    simp (disch := first | omega | decide) only [w32_id, ↓rh_rcv, ↓rh_g9, ↓rh_p9, ↓be_y, ↓be_n, ↓bf_y, ↓bf_n, ↓bl_y, ↓bl_n, ↓bm_y, ↓bm_n, ↓bg_y, ↓bg_n, ↓bs_y, ↓bs_n, ↓bo_y, ↓bo_n, ↓bp_y, ↓bp_n, ↓forall_eq, ↓within_y, ↓within_n, ↓isIn_y, ↓isIn_n, and_true, true_and, and_self, us_at, us_ne, w32_id, um_eq, um_ne, um_um, uu_eq, uu_ne, uu_uu, vv_eq, vv_ne, vv_vv, ne_eq, not_false_eq_true, not_true_eq_false, reduceCtorEq, Int.reduceAdd, Int.reduceSub, Int.reduceMul, Int.reduceNeg, Nat.reduceEqDiff, or_true, true_or, true_implies, false_implies, Int.reduceLT, Int.reduceLE, Int.reduceEq, w_and, w_or, y1, y2]
    exact q
theorem bt_n {c : Int} (h : tkr c (u 9) (u 10) (u 11)) (hw : wfp pl) (hc : cnm pl ≤ 8) (hq : pls pl u M) (hb : nob c pl) {Q : Int → hp → Prop} (q : Q (-1) (rh F u M)) : mX12_betweenOf 69 (rh F u M) Q := by
  obtain ⟨n1, n2⟩ := hb
  have ob : -1 ≤ opn pl ∧ opn pl ≤ 43 := by rcases opa_o pl hw with ⟨a, b⟩ | ⟨a, b, c, d, f⟩ <;> omega
  refine bt_41 h n1 (opn_r hw hc hq ?_)
  by_cases d : opn pl = 41
  · obtain ⟨m1, m2⟩ := n2 d
    rw [d]
    simp (disch := first | omega | decide) only [w32_id, ↓rh_rcv, ↓rh_g9, ↓rh_p9, ↓be_y, ↓be_n, ↓bf_y, ↓bf_n, ↓bl_y, ↓bl_n, ↓bm_y, ↓bm_n, ↓bg_y, ↓bg_n, ↓bs_y, ↓bs_n, ↓bo_y, ↓bo_n, ↓bp_y, ↓bp_n, ↓forall_eq, ↓within_y, ↓within_n, ↓isIn_y, ↓isIn_n, and_true, true_and, and_self, us_at, us_ne, w32_id, um_eq, um_ne, um_um, uu_eq, uu_ne, uu_uu, vv_eq, vv_ne, vv_vv, ne_eq, not_false_eq_true, not_true_eq_false, reduceCtorEq, Int.reduceAdd, Int.reduceSub, Int.reduceMul, Int.reduceNeg, Nat.reduceEqDiff, or_true, true_or, true_implies, false_implies, Int.reduceLT, Int.reduceLE, Int.reduceEq]
    by_cases e : cmd pl
    · refine cmpq_r hw hc hq (.inl ⟨rfl, e⟩) ?_
      have y1 := fun Q => isw_n (F := F) (M := M) (Q := Q) h (x := 27) (by omega) (m2 e).1
      have y2 := fun Q => isw_n (F := F) (M := M) (Q := Q) h (x := 26) (by omega) (m2 e).2
      simp (disch := first | omega | decide) only [w32_id, ↓rh_rcv, ↓rh_g9, ↓rh_p9, ↓be_y, ↓be_n, ↓bf_y, ↓bf_n, ↓bl_y, ↓bl_n, ↓bm_y, ↓bm_n, ↓bg_y, ↓bg_n, ↓bs_y, ↓bs_n, ↓bo_y, ↓bo_n, ↓bp_y, ↓bp_n, ↓forall_eq, ↓within_y, ↓within_n, ↓isIn_y, ↓isIn_n, and_true, true_and, and_self, us_at, us_ne, w32_id, um_eq, um_ne, um_um, uu_eq, uu_ne, uu_uu, vv_eq, vv_ne, vv_vv, ne_eq, not_false_eq_true, not_true_eq_false, reduceCtorEq, Int.reduceAdd, Int.reduceSub, Int.reduceMul, Int.reduceNeg, Nat.reduceEqDiff, or_true, true_or, true_implies, false_implies, Int.reduceLT, Int.reduceLE, Int.reduceEq, w_and, w_or, y1, y2]
      exact q
    · refine cmpq_r hw hc hq (.inr ⟨rfl, e⟩) ?_
      simp (disch := first | omega | decide) only [w32_id, ↓rh_rcv, ↓rh_g9, ↓rh_p9, ↓be_y, ↓be_n, ↓bf_y, ↓bf_n, ↓bl_y, ↓bl_n, ↓bm_y, ↓bm_n, ↓bg_y, ↓bg_n, ↓bs_y, ↓bs_n, ↓bo_y, ↓bo_n, ↓bp_y, ↓bp_n, ↓forall_eq, ↓within_y, ↓within_n, ↓isIn_y, ↓isIn_n, and_true, true_and, and_self, us_at, us_ne, w32_id, um_eq, um_ne, um_um, uu_eq, uu_ne, uu_uu, vv_eq, vv_ne, vv_vv, ne_eq, not_false_eq_true, not_true_eq_false, reduceCtorEq, Int.reduceAdd, Int.reduceSub, Int.reduceMul, Int.reduceNeg, Nat.reduceEqDiff, or_true, true_or, true_implies, false_implies, Int.reduceLT, Int.reduceLE, Int.reduceEq]
      exact co_n h (m1 e) q
  · simp (disch := first | omega | decide) only [w32_id, ↓rh_rcv, ↓rh_g9, ↓rh_p9, ↓be_y, ↓be_n, ↓bf_y, ↓bf_n, ↓bl_y, ↓bl_n, ↓bm_y, ↓bm_n, ↓bg_y, ↓bg_n, ↓bs_y, ↓bs_n, ↓bo_y, ↓bo_n, ↓bp_y, ↓bp_n, ↓forall_eq, ↓within_y, ↓within_n, ↓isIn_y, ↓isIn_n, and_true, true_and, and_self, us_at, us_ne, w32_id, um_eq, um_ne, um_um, uu_eq, uu_ne, uu_uu, vv_eq, vv_ne, vv_vv, ne_eq, not_false_eq_true, not_true_eq_false, reduceCtorEq, Int.reduceAdd, Int.reduceSub, Int.reduceMul, Int.reduceNeg, Nat.reduceEqDiff, or_true, true_or, true_implies, false_implies, Int.reduceLT, Int.reduceLE, Int.reduceEq]
    exact q
theorem btw_p {c p : Int} (hb : btw c pl p) : (0 ≤ p ∧ p ≤ 43) ∧ ¬ isM p ∧ 1 ≤ rk p ∧ rk p ≤ 6 ∧ (c ≠ 44) := by
  rcases hb with ⟨c1, c2, e⟩ | ⟨c1, c2, c3, e⟩ | ⟨c1, c2, c3, e⟩ | ⟨c1, c2, c3, e⟩
  · subst e
    obtain rfl | rfl | rfl | rfl : c = 34 ∨ c = 35 ∨ c = 36 ∨ c = 37 := by omega
    all_goals decide
  · subst e
    unfold isC at c1
    obtain rfl | rfl | rfl | rfl | rfl | rfl : c = 30 ∨ c = 31 ∨ c = 32 ∨ c = 33 ∨ c = 41 ∨ c = 42 := by omega
    all_goals decide
  · subst e c1; decide
  · subst e c1; decide
-- an operation between two is laid on the pile
theorem bh_b (nx : ntx tk plc bh cn L W) (cb : cn ≤ 300) (t44 : tk cn = 44) {p : Int} (hb : btw (tk j) pl p) (h : rstq tk plc bh cn mo L W j pl o true u M) : ∃ u' M', rstq tk plc bh cn mo L W (j + 1) (p :: (stl (if rk p = 4 then 5 else rk p) pl o).1) (stl (if rk p = 4 then 5 else rk p) pl o).2 false u' M' ∧ frp u u' ∧ frX (u 12) M M' ∧ ∀ (F : hp) (Q : Int → hp → Prop), Q 1 (rh F u' M') → mX12_behindOne 69 (rh F u M) Q := by
  obtain ⟨h1, h2, h3, h4, h5, ⟨h6, h7, h8, h9⟩, h10, h11⟩ := h
  obtain ⟨pb, pm, pr1, pr2, pc⟩ := btw_p hb
  have hj : j < cn := by
    have : j ≠ cn := fun e => pc (by rw [e]; exact t44)
    omega
  have hl : 1 ≤ (if rk p = 4 then 5 else rk p) ∧ (if rk p = 4 then 5 else rk p) ≤ 7 := by split <;> omega
  obtain ⟨s1, s2, s3, s4⟩ := stl_i (l := if rk p = 4 then 5 else rk p) pl o h6
  have sc : ¬ cmd pl → rk p = 4 → ∀ x, (stl (if rk p = 4 then 5 else rk p) pl o).1.head? = some x → rk x ≠ 4 := fun nc r4 x hx => by rw [if_pos r4] at hx; exact stl_c pl o nc x hx
  obtain ⟨u1, M1, a1, a2, a3, a4, a5, a6⟩ := settle_r hl pl o u M h6 h7 (by omega) h2 h3
  have wp : wfp (p :: (stl (if rk p = 4 then 5 else rk p) pl o).1) := by
    refine ⟨pb, .inr (fun y hy => ?_), s1⟩
    have r := s4 y hy
    have yb : 0 ≤ y ∧ y ≤ 43 := by
      cases e : (stl (if rk p = 4 then 5 else rk p) pl o).1 with
      | nil => rw [e] at hy; exact absurd hy (by simp)
      | cons z t =>
        rw [e] at hy
        simp only [List.head?_cons, Option.some.injEq] at hy
        subst hy
        exact wfp_h s1 e
    obtain ⟨k1, k2, k3, k4, k5⟩ := pot_rk yb
    rcases hb with ⟨c1, c2, e⟩ | ⟨c1, c2, c3, e⟩ | ⟨c1, c2, c3, e⟩ | ⟨c1, c2, c3, e⟩
    · have : p = 6 ∨ p = 7 ∨ p = 8 ∨ p = 9 := by omega
      rcases this with rfl | rfl | rfl | rfl
      · have : rk y < 5 := r
        have := k4 (by omega)
        show pot y < 4; omega
      · have : rk y < 5 := r
        have := k4 (by omega)
        show pot y < 4; omega
      · have : rk y < 6 := r
        have := k5 (by omega)
        show pot y < 5; omega
      · have : rk y < 6 := r
        have := k5 (by omega)
        show pot y < 5; omega
    · have r4 : rk p = 4 := by rw [e]; exact (rk_c c1).1
      have := sc c3 r4 y hy
      rw [if_pos r4] at r
      have := k3 (by omega)
      have pp : pot p = 3 := by
        rw [e]
        unfold isC at c1
        obtain d | d | d | d | d | d : tk j = 30 ∨ tk j = 31 ∨ tk j = 32 ∨ tk j = 33 ∨ tk j = 41 ∨ tk j = 42 := by omega
        all_goals (rw [d]; decide)
      omega
    · subst e
      have : rk y < 2 := r
      have := k2 (by omega)
      show pot y < 2; omega
    · subst e
      have : rk y < 1 := r
      have := k1 (by omega)
      show pot y < 1; omega
  have len := wfp_len s1 (by omega)
  generalize ep : (stl (if rk p = 4 then 5 else rk p) pl o).1 = pl1 at *
  generalize eo : (stl (if rk p = 4 then 5 else rk p) pl o).2 = o1 at *
  obtain ⟨u2, b1, b2, b3⟩ := nx j (uu (uu u1 16 ((pl1.length : Int) + 1)) 18 0) (um M1 74 (us (M1 74) pl1.length p)) hj (by rw [uu_ne (by decide), uu_ne (by decide), a3 4 (by decide) (by decide) (by decide)]; exact h10) (by rw [um_ne (by decide), a4.1 73 (by decide) (by decide)]; exact h11) (rtk_u (fun k k1 k2 => by rw [uu_ne (by omega), uu_ne (by omega), a3 k (by omega) (by omega) (by omega)]) h1)
  refine ⟨u2, um M1 74 (us (M1 74) pl1.length p), ⟨b1, ⟨?_, ?_, ?_⟩, ?_, ?_, ?_, ⟨wp, ?_, ?_, by omega⟩, ?_, ?_⟩, ?_, frX_t a4 ⟨fun j _ j2 => um_ne j2, fun i _ => by rw [um_ne (by decide)]⟩, fun F Q q => ?_⟩
  · rw [b2 16 (by decide), uu_ne (by decide), uu_eq]; simp only [List.length_cons]; omega
  · rw [b2 17 (by decide), uu_ne (by decide), uu_ne (by decide), cnm_n pm]; exact a1.2.1
  · rw [um_eq]; exact ⟨us_eq _ _ _, pil_us pl1 (by omega) a1.2.2⟩
  · exact ots_m (um_ne (by decide)) (ots_u (by rw [b2 13 (by decide), uu_ne (by decide), uu_ne (by decide)]) (by rw [b2 12 (by decide), uu_ne (by decide), uu_ne (by decide)]) a2)
  · rw [b2 18 (by decide), uu_eq]; rfl
  · rw [b2 14 (by decide), uu_ne (by decide), uu_ne (by decide), a3 14 (by decide) (by decide) (by decide)]; exact h5
  · rw [cnm_n pm]; omega
  · simp only [List.length_cons]; omega
  · rw [b2 4 (by decide), uu_ne (by decide), uu_ne (by decide), a3 4 (by decide) (by decide) (by decide)]; exact h10
  · rw [um_ne (by decide), a4.1 73 (by decide) (by decide)]; exact h11
  · exact frp_t (frp_q a3) (frp_t (frp_t (frp_w (by omega)) (frp_w (by omega))) (frp_u b2))
  · have e16 := a1.1
    have fin : mX12_behindOne_J26 Q 69 p (some 69) (if rk p = 4 then 5 else rk p) (rh F u M) := by
      simp (disch := first | omega | decide) only [mX12_behindOne_J26, mX12_settle, ↓rh_rcv, ↓rh_g0, ↓be_y, ↓be_n, ↓bf_y, ↓bf_n, ↓bl_y, ↓bl_n, ↓bm_y, ↓bm_n, ↓bg_y, ↓bg_n, ↓bs_y, ↓bs_n, ↓bo_y, ↓bo_n, ↓bp_y, ↓bp_n, ↓forall_eq, ↓within_y, ↓within_n, ↓isIn_y, ↓isIn_n, and_true, true_and, and_self, us_at, us_ne, w32_id, um_eq, um_ne, um_um, uu_eq, uu_ne, uu_uu, vv_eq, vv_ne, vv_vv, ne_eq, not_false_eq_true, not_true_eq_false, reduceCtorEq, Int.reduceAdd, Int.reduceSub, Int.reduceMul, Int.reduceNeg, Nat.reduceEqDiff, or_true, true_or, true_implies, false_implies, Int.reduceLT, Int.reduceLE, Int.reduceEq]
      refine ⟨_, a6 F _ ?_⟩
      simp (disch := first | omega | decide) only [w32_id, ↓rh_rcv, ↓rh_g15, ↓rh_g16, ↓rh_p16, ↓rh_g18, ↓rh_p18, ↓rh_r74, ↓rh_w74, ↓be_y, ↓be_n, ↓bf_y, ↓bf_n, ↓bl_y, ↓bl_n, ↓bm_y, ↓bm_n, ↓bg_y, ↓bg_n, ↓bs_y, ↓bs_n, ↓bo_y, ↓bo_n, ↓bp_y, ↓bp_n, ↓forall_eq, ↓within_y, ↓within_n, ↓isIn_y, ↓isIn_n, and_true, true_and, and_self, us_at, us_ne, w32_id, um_eq, um_ne, um_um, uu_eq, uu_ne, uu_uu, vv_eq, vv_ne, vv_vv, ne_eq, not_false_eq_true, not_true_eq_false, reduceCtorEq, Int.reduceAdd, Int.reduceSub, Int.reduceMul, Int.reduceNeg, Nat.reduceEqDiff, or_true, true_or, true_implies, false_implies, Int.reduceLT, Int.reduceLE, Int.reduceEq, e16]
      exact b3 F _ q
    simp (disch := first | omega | decide) only [mX12_behindOne, ↓rh_rcv, ↓rh_g0, ↓be_y, ↓be_n, ↓bf_y, ↓bf_n, ↓bl_y, ↓bl_n, ↓bm_y, ↓bm_n, ↓bg_y, ↓bg_n, ↓bs_y, ↓bs_n, ↓bo_y, ↓bo_n, ↓bp_y, ↓bp_n, ↓forall_eq, ↓within_y, ↓within_n, ↓isIn_y, ↓isIn_n, and_true, true_and, and_self, us_at, us_ne, w32_id, um_eq, um_ne, um_um, uu_eq, uu_ne, uu_uu, vv_eq, vv_ne, vv_vv, ne_eq, not_false_eq_true, not_true_eq_false, reduceCtorEq, Int.reduceAdd, Int.reduceSub, Int.reduceMul, Int.reduceNeg, Nat.reduceEqDiff, or_true, true_or, true_implies, false_implies, Int.reduceLT, Int.reduceLE, Int.reduceEq]
    refine bt_y h1.2.2 h6 h7 h2 hb ?_
    by_cases r4 : rk p = 4
    · rw [if_pos r4] at fin
      simp (disch := first | omega | decide) only [rank_r, ↓rh_rcv, ↓rh_g0, ↓be_y, ↓be_n, ↓bf_y, ↓bf_n, ↓bl_y, ↓bl_n, ↓bm_y, ↓bm_n, ↓bg_y, ↓bg_n, ↓bs_y, ↓bs_n, ↓bo_y, ↓bo_n, ↓bp_y, ↓bp_n, ↓forall_eq, ↓within_y, ↓within_n, ↓isIn_y, ↓isIn_n, and_true, true_and, and_self, us_at, us_ne, w32_id, um_eq, um_ne, um_um, uu_eq, uu_ne, uu_uu, vv_eq, vv_ne, vv_vv, ne_eq, not_false_eq_true, not_true_eq_false, reduceCtorEq, Int.reduceAdd, Int.reduceSub, Int.reduceMul, Int.reduceNeg, Nat.reduceEqDiff, or_true, true_or, true_implies, false_implies, Int.reduceLT, Int.reduceLE, Int.reduceEq, r4]
      exact fin
    · rw [if_neg r4] at fin
      simp (disch := first | omega | decide) only [rank_r, ↓rh_rcv, ↓rh_g0, ↓be_y, ↓be_n, ↓bf_y, ↓bf_n, ↓bl_y, ↓bl_n, ↓bm_y, ↓bm_n, ↓bg_y, ↓bg_n, ↓bs_y, ↓bs_n, ↓bo_y, ↓bo_n, ↓bp_y, ↓bp_n, ↓forall_eq, ↓within_y, ↓within_n, ↓isIn_y, ↓isIn_n, and_true, true_and, and_self, us_at, us_ne, w32_id, um_eq, um_ne, um_um, uu_eq, uu_ne, uu_uu, vv_eq, vv_ne, vv_vv, ne_eq, not_false_eq_true, not_true_eq_false, reduceCtorEq, Int.reduceAdd, Int.reduceSub, Int.reduceMul, Int.reduceNeg, Nat.reduceEqDiff, or_true, true_or, true_implies, false_implies, Int.reduceLT, Int.reduceLE, Int.reduceEq]
      exact fin
end RB
