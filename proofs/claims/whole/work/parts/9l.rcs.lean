def srt (c : Int) : Int := if 11 ≤ c ∧ c ≤ 17 then c - 11 else if c = 0 then 7 else -1
section RZ
variable {tk plc bh : Nat → Int} {cn : Nat} {L : Int} {W : Int → Int} {u : Nat → Int} {M : Nat → Int → Int} {F : hp} {o : List (Int × Int)} {j : Nat} {cl cl' : List (Int × Int × Int)}
theorem sort_r (ch : chx tk plc bh L W) (h : rtk tk plc bh j u) (h4 : u 4 = L) (hM : M 73 = W) {Q : Int → hp → Prop} (q : Q (srt (tk j)) (rh F u M)) : mX12_sortOf 69 (rh F u M) Q := by
  have yy := fun (x : Int) (hx : 0 ≤ x ∧ x ≤ 28) (e : tk j = x) (Q : Int → hp → Prop) => isw_y (F := F) (M := M) (Q := Q) h.2.2 hx e
  have nn := fun (x : Int) (hx : 0 ≤ x ∧ x ≤ 28) (e : ¬ tk j = x) (Q : Int → hp → Prop) => isw_n (F := F) (M := M) (Q := Q) h.2.2 hx e
  unfold srt at q
  by_cases c : tk j = 11
  · rw [if_pos (by omega), c] at q
    have y := yy 11 (by omega) c
    simp (disch := first | omega | decide) only [mX12_sortOf, ↓rh_rcv, ↓rh_g0, ↓be_y, ↓be_n, ↓bf_y, ↓bf_n, ↓bl_y, ↓bl_n, ↓bm_y, ↓bm_n, ↓bg_y, ↓bg_n, ↓bs_y, ↓bs_n, ↓bo_y, ↓bo_n, ↓bp_y, ↓bp_n, ↓forall_eq, ↓within_y, ↓within_n, ↓isIn_y, ↓isIn_n, and_true, true_and, and_self, us_at, us_ne, w32_id, um_eq, um_ne, um_um, uu_eq, uu_ne, uu_uu, vv_eq, vv_ne, vv_vv, ne_eq, not_false_eq_true, not_true_eq_false, reduceCtorEq, Int.reduceAdd, Int.reduceSub, Int.reduceMul, Int.reduceNeg, Nat.reduceEqDiff, or_true, true_or, true_implies, false_implies, Int.reduceLT, Int.reduceLE, Int.reduceEq, w_moves, y]
    exact q
  have n11 := nn 11 (by omega) c
  simp (disch := first | omega | decide) only [mX12_sortOf, ↓rh_rcv, ↓rh_g0, ↓be_y, ↓be_n, ↓bf_y, ↓bf_n, ↓bl_y, ↓bl_n, ↓bm_y, ↓bm_n, ↓bg_y, ↓bg_n, ↓bs_y, ↓bs_n, ↓bo_y, ↓bo_n, ↓bp_y, ↓bp_n, ↓forall_eq, ↓within_y, ↓within_n, ↓isIn_y, ↓isIn_n, and_true, true_and, and_self, us_at, us_ne, w32_id, um_eq, um_ne, um_um, uu_eq, uu_ne, uu_uu, vv_eq, vv_ne, vv_vv, ne_eq, not_false_eq_true, not_true_eq_false, reduceCtorEq, Int.reduceAdd, Int.reduceSub, Int.reduceMul, Int.reduceNeg, Nat.reduceEqDiff, or_true, true_or, true_implies, false_implies, Int.reduceLT, Int.reduceLE, Int.reduceEq, w_moves, n11]
  refine ch j u M h4 hM h F _ ?_
  by_cases c12 : tk j = 12
  · rw [if_pos (by omega), c12] at q
    rw [if_pos c12]
    simp (disch := first | omega | decide) only [w32_id, ↓rh_rcv, ↓rh_g0, ↓be_y, ↓be_n, ↓bf_y, ↓bf_n, ↓bl_y, ↓bl_n, ↓bm_y, ↓bm_n, ↓bg_y, ↓bg_n, ↓bs_y, ↓bs_n, ↓bo_y, ↓bo_n, ↓bp_y, ↓bp_n, ↓forall_eq, ↓within_y, ↓within_n, ↓isIn_y, ↓isIn_n, and_true, true_and, and_self, us_at, us_ne, w32_id, um_eq, um_ne, um_um, uu_eq, uu_ne, uu_uu, vv_eq, vv_ne, vv_vv, ne_eq, not_false_eq_true, not_true_eq_false, reduceCtorEq, Int.reduceAdd, Int.reduceSub, Int.reduceMul, Int.reduceNeg, Nat.reduceEqDiff, or_true, true_or, true_implies, false_implies, Int.reduceLT, Int.reduceLE, Int.reduceEq]
    exact q
  rw [if_neg c12]
  by_cases c13 : tk j = 13
  · rw [if_pos (by omega), c13] at q
    have y := yy 13 (by omega) c13
    simp (disch := first | omega | decide) only [w32_id, ↓rh_rcv, ↓rh_g0, ↓be_y, ↓be_n, ↓bf_y, ↓bf_n, ↓bl_y, ↓bl_n, ↓bm_y, ↓bm_n, ↓bg_y, ↓bg_n, ↓bs_y, ↓bs_n, ↓bo_y, ↓bo_n, ↓bp_y, ↓bp_n, ↓forall_eq, ↓within_y, ↓within_n, ↓isIn_y, ↓isIn_n, and_true, true_and, and_self, us_at, us_ne, w32_id, um_eq, um_ne, um_um, uu_eq, uu_ne, uu_uu, vv_eq, vv_ne, vv_vv, ne_eq, not_false_eq_true, not_true_eq_false, reduceCtorEq, Int.reduceAdd, Int.reduceSub, Int.reduceMul, Int.reduceNeg, Nat.reduceEqDiff, or_true, true_or, true_implies, false_implies, Int.reduceLT, Int.reduceLE, Int.reduceEq, w_car, y]
    exact q
  have n13 := nn 13 (by omega) c13
  by_cases c14 : tk j = 14
  · rw [if_pos (by omega), c14] at q
    have y := yy 14 (by omega) c14
    simp (disch := first | omega | decide) only [w32_id, ↓rh_rcv, ↓rh_g0, ↓be_y, ↓be_n, ↓bf_y, ↓bf_n, ↓bl_y, ↓bl_n, ↓bm_y, ↓bm_n, ↓bg_y, ↓bg_n, ↓bs_y, ↓bs_n, ↓bo_y, ↓bo_n, ↓bp_y, ↓bp_n, ↓forall_eq, ↓within_y, ↓within_n, ↓isIn_y, ↓isIn_n, and_true, true_and, and_self, us_at, us_ne, w32_id, um_eq, um_ne, um_um, uu_eq, uu_ne, uu_uu, vv_eq, vv_ne, vv_vv, ne_eq, not_false_eq_true, not_true_eq_false, reduceCtorEq, Int.reduceAdd, Int.reduceSub, Int.reduceMul, Int.reduceNeg, Nat.reduceEqDiff, or_true, true_or, true_implies, false_implies, Int.reduceLT, Int.reduceLE, Int.reduceEq, w_car, w_forbid, n13, y]
    exact q
  have n14 := nn 14 (by omega) c14
  by_cases c15 : tk j = 15
  · rw [if_pos (by omega), c15] at q
    have y := yy 15 (by omega) c15
    simp (disch := first | omega | decide) only [w32_id, ↓rh_rcv, ↓rh_g0, ↓be_y, ↓be_n, ↓bf_y, ↓bf_n, ↓bl_y, ↓bl_n, ↓bm_y, ↓bm_n, ↓bg_y, ↓bg_n, ↓bs_y, ↓bs_n, ↓bo_y, ↓bo_n, ↓bp_y, ↓bp_n, ↓forall_eq, ↓within_y, ↓within_n, ↓isIn_y, ↓isIn_n, and_true, true_and, and_self, us_at, us_ne, w32_id, um_eq, um_ne, um_um, uu_eq, uu_ne, uu_uu, vv_eq, vv_ne, vv_vv, ne_eq, not_false_eq_true, not_true_eq_false, reduceCtorEq, Int.reduceAdd, Int.reduceSub, Int.reduceMul, Int.reduceNeg, Nat.reduceEqDiff, or_true, true_or, true_implies, false_implies, Int.reduceLT, Int.reduceLE, Int.reduceEq, w_car, w_forbid, w_move, n13, n14, y]
    exact q
  have n15 := nn 15 (by omega) c15
  by_cases c16 : tk j = 16
  · rw [if_pos (by omega), c16] at q
    have y := yy 16 (by omega) c16
    simp (disch := first | omega | decide) only [w32_id, ↓rh_rcv, ↓rh_g0, ↓be_y, ↓be_n, ↓bf_y, ↓bf_n, ↓bl_y, ↓bl_n, ↓bm_y, ↓bm_n, ↓bg_y, ↓bg_n, ↓bs_y, ↓bs_n, ↓bo_y, ↓bo_n, ↓bp_y, ↓bp_n, ↓forall_eq, ↓within_y, ↓within_n, ↓isIn_y, ↓isIn_n, and_true, true_and, and_self, us_at, us_ne, w32_id, um_eq, um_ne, um_um, uu_eq, uu_ne, uu_uu, vv_eq, vv_ne, vv_vv, ne_eq, not_false_eq_true, not_true_eq_false, reduceCtorEq, Int.reduceAdd, Int.reduceSub, Int.reduceMul, Int.reduceNeg, Nat.reduceEqDiff, or_true, true_or, true_implies, false_implies, Int.reduceLT, Int.reduceLE, Int.reduceEq, w_car, w_forbid, w_move, w_change, n13, n14, n15, y]
    exact q
  have n16 := nn 16 (by omega) c16
  by_cases c17 : tk j = 17
  · rw [if_pos (by omega), c17] at q
    have y := yy 17 (by omega) c17
    simp (disch := first | omega | decide) only [w32_id, ↓rh_rcv, ↓rh_g0, ↓be_y, ↓be_n, ↓bf_y, ↓bf_n, ↓bl_y, ↓bl_n, ↓bm_y, ↓bm_n, ↓bg_y, ↓bg_n, ↓bs_y, ↓bs_n, ↓bo_y, ↓bo_n, ↓bp_y, ↓bp_n, ↓forall_eq, ↓within_y, ↓within_n, ↓isIn_y, ↓isIn_n, and_true, true_and, and_self, us_at, us_ne, w32_id, um_eq, um_ne, um_um, uu_eq, uu_ne, uu_uu, vv_eq, vv_ne, vv_vv, ne_eq, not_false_eq_true, not_true_eq_false, reduceCtorEq, Int.reduceAdd, Int.reduceSub, Int.reduceMul, Int.reduceNeg, Nat.reduceEqDiff, or_true, true_or, true_implies, false_implies, Int.reduceLT, Int.reduceLE, Int.reduceEq, w_car, w_forbid, w_move, w_change, w_lend, n13, n14, n15, n16, y]
    exact q
  have n17 := nn 17 (by omega) c17
  rw [if_neg (by omega)] at q
  by_cases c0 : tk j = 0
  · rw [if_pos c0] at q
    have y := yy 0 (by omega) c0
    simp (disch := first | omega | decide) only [w32_id, ↓rh_rcv, ↓rh_g0, ↓be_y, ↓be_n, ↓bf_y, ↓bf_n, ↓bl_y, ↓bl_n, ↓bm_y, ↓bm_n, ↓bg_y, ↓bg_n, ↓bs_y, ↓bs_n, ↓bo_y, ↓bo_n, ↓bp_y, ↓bp_n, ↓forall_eq, ↓within_y, ↓within_n, ↓isIn_y, ↓isIn_n, and_true, true_and, and_self, us_at, us_ne, w32_id, um_eq, um_ne, um_um, uu_eq, uu_ne, uu_uu, vv_eq, vv_ne, vv_vv, ne_eq, not_false_eq_true, not_true_eq_false, reduceCtorEq, Int.reduceAdd, Int.reduceSub, Int.reduceMul, Int.reduceNeg, Nat.reduceEqDiff, or_true, true_or, true_implies, false_implies, Int.reduceLT, Int.reduceLE, Int.reduceEq, w_car, w_forbid, w_move, w_change, w_lend, w_hour, n13, n14, n15, n16, n17, y]
    exact q
  have n0 := nn 0 (by omega) c0
  rw [if_neg c0] at q
  simp (disch := first | omega | decide) only [w32_id, ↓rh_rcv, ↓rh_g0, ↓be_y, ↓be_n, ↓bf_y, ↓bf_n, ↓bl_y, ↓bl_n, ↓bm_y, ↓bm_n, ↓bg_y, ↓bg_n, ↓bs_y, ↓bs_n, ↓bo_y, ↓bo_n, ↓bp_y, ↓bp_n, ↓forall_eq, ↓within_y, ↓within_n, ↓isIn_y, ↓isIn_n, and_true, true_and, and_self, us_at, us_ne, w32_id, um_eq, um_ne, um_um, uu_eq, uu_ne, uu_uu, vv_eq, vv_ne, vv_vv, ne_eq, not_false_eq_true, not_true_eq_false, reduceCtorEq, Int.reduceAdd, Int.reduceSub, Int.reduceMul, Int.reduceNeg, Nat.reduceEqDiff, or_true, true_or, true_implies, false_implies, Int.reduceLT, Int.reduceLE, Int.reduceEq, w_car, w_forbid, w_move, w_change, w_lend, w_hour, n13, n14, n15, n16, n17, n0]
  exact q
theorem rcl_put {X X' : Int → Int} {t : Int} (h : rcl cl X t) {sr a b : Int} (hX : ∀ i, t < i → i < t + 1 + 3 * cl.length → X' i = X i) (h0 : X' t = (cl.length : Int) + 1) (hx : X' (t + 1 + 3 * cl.length) = sr) (ha : sr ≠ 5 → X' (t + 1 + 3 * cl.length + 1) = a ∧ (sr ≠ 7 → X' (t + 1 + 3 * cl.length + 2) = b)) : rcl (cl ++ [(sr, a, b)]) X' t := by
  refine ⟨by rw [h0, List.length_append, List.length_singleton]; omega, fun i c hi => ?_⟩
  by_cases f : i < cl.length
  · rw [List.getElem?_append_left f] at hi
    rw [hX _ (by omega) (by omega), hX _ (by omega) (by omega), hX _ (by omega) (by omega)]
    exact h.2 i c hi
  · by_cases g : i = cl.length
    · subst g
      rw [List.getElem?_append_right (Nat.le_refl _), Nat.sub_self] at hi
      simp only [List.getElem?_cons_zero, Option.some.injEq] at hi
      subst hi
      exact ⟨hx, ha⟩
    · rw [List.getElem?_eq_none (by rw [List.length_append, List.length_singleton]; omega)] at hi
      exact absurd hi (by simp)
theorem rco_put {n : Int} (h : rco cl n) {sr a b : Int} (hs : 2 ≤ sr) : rco (cl ++ [(sr, a, b)]) n := by
  refine ⟨h.1, fun w hw => ?_⟩
  rw [h.2 w hw]
  constructor
  · rintro ⟨c, h1, h2⟩; exact ⟨c, List.mem_append.2 (.inl h1), h2⟩
  · rintro ⟨c, h1, h2⟩
    rcases List.mem_append.1 h1 with k | k
    · exact ⟨c, k, h2⟩
    · rw [List.mem_singleton] at k; subst k
      have h2 : sr = w := h2
      omega
theorem rco_new {n w : Int} (h : rco cl n) (hw : w = 0 ∨ w = 1) {a b : Int} : rco (cl ++ [(w, a, b)]) (iOr n (iShl 1 w)) := by
  have hn := h.1
  have tab : ∀ n : Nat, n < 4 → ∀ w : Nat, w < 2 → (0 ≤ iOr (n : Int) (iShl 1 (w : Int)) ∧ iOr (n : Int) (iShl 1 (w : Int)) ≤ 3) ∧ ∀ k : Nat, k < 2 → tb (iOr (n : Int) (iShl 1 (w : Int))) (k : Int) = (tb (n : Int) (k : Int) || decide (k = w)) := by decide +kernel
  have t := tab n.toNat (by omega) w.toNat (by omega)
  rw [Int.toNat_of_nonneg hn.1, Int.toNat_of_nonneg (by omega : 0 ≤ w)] at t
  refine ⟨t.1, fun k hk => ?_⟩
  have tk := t.2 k.toNat (by omega)
  rw [Int.toNat_of_nonneg (by omega : 0 ≤ k)] at tk
  rw [tk, Bool.or_eq_true, decide_eq_true_eq, h.2 k hk]
  constructor
  · rintro (⟨c, h1, h2⟩ | e)
    · exact ⟨c, List.mem_append.2 (.inl h1), h2⟩
    · exact ⟨(w, a, b), List.mem_append.2 (.inr (List.mem_singleton.2 rfl)), by show w = k; omega⟩
  · rintro ⟨c, h1, h2⟩
    rcases List.mem_append.1 h1 with q | q
    · exact .inl ⟨c, q, h2⟩
    · rw [List.mem_singleton] at q; subst q
      have h2 : w = k := h2
      right; omega
-- the end of a clause
def rEnd (Q : Int → hp → Prop) (F8 : hp) : Prop := gR F8 (some 69) 12 2 (fun x11 => gI F8 (some 69) 12 12 (fun x12 => aI F8 x11 0 x12 (fun x13 => sI F8 x11 0 x12 (x13 + 1) (fun F14 => gI F14 (some 69) 12 9 (fun x15 => (w32 x15 = 59 → rcv F14 (some 69) 12 (fun o17 => mX12_nextToken o17 F14 (fun F16 => Q 0 F16))) ∧ (¬ w32 x15 = 59 → Q 1 F14))))))
theorem rc_e (nx : ntx tk plc bh cn L W) (t44 : tk cn = 44) (h : rtk tk plc bh j u) (hj : j ≤ cn) (h4 : u 4 = L) (hM : M 73 = W) (h12 : 0 ≤ u 12 ∧ u 12 ≤ 2043) (o : List (Int × Int)) : ∃ u', fru u u' ∧ (∀ i b, gexp tk 40 (.inl (j, o)) = .inl (i, b) → rtk tk plc bh i u' ∧ i = j + 1 ∧ i ≤ cn ∧ b = o) ∧ (∀ k e, gexp tk 40 (.inl (j, o)) = .inr (k, e) → u' 8 = plc e ∧ 1 ≤ k ∧ k ≤ 6) ∧ ∀ (F : hp) (Q : Int → hp → Prop), Q (rcd (gexp tk 40 (.inl (j, o)))) (rh F u' (um M 72 (us (M 72) (u 12) (M 72 (u 12) + 1)))) → rEnd Q (rh F u M) := by
  have tt := tkr_t h.2.2
  have s40 : u 9 = 59 ↔ tk j = 40 := tkr_s h.2.2 (x := 40) (by omega)
  by_cases c : tk j = 40
  · have e9 := s40.2 c
    have hj' : j < cn := by
      have : j ≠ cn := fun e => by rw [e, t44] at c; omega
      omega
    obtain ⟨u', a1, a2, a3⟩ := nx j u (um M 72 (us (M 72) (u 12) (M 72 (u 12) + 1))) hj' h4 (by rw [um_ne (by decide)]; exact hM) h
    rw [gexp_y c]
    refine ⟨u', a2, fun i b e => ?_, fun k e h' => absurd h' (by simp), fun F Q q => ?_⟩
    · simp only [Sum.inl.injEq, Prod.mk.injEq] at e
      rw [← e.1]
      exact ⟨a1, rfl, by omega, e.2.symm⟩
    · simp (disch := first | omega | decide) only [rEnd, ↓rh_rcv, ↓rh_g2, ↓rh_g9, ↓rh_p9, ↓rh_g12, ↓rh_p12, ↓rh_r72, ↓rh_w72, ↓be_y, ↓be_n, ↓bf_y, ↓bf_n, ↓bl_y, ↓bl_n, ↓bm_y, ↓bm_n, ↓bg_y, ↓bg_n, ↓bs_y, ↓bs_n, ↓bo_y, ↓bo_n, ↓bp_y, ↓bp_n, ↓forall_eq, ↓within_y, ↓within_n, ↓isIn_y, ↓isIn_n, and_true, true_and, and_self, us_at, us_ne, w32_id, um_eq, um_ne, um_um, uu_eq, uu_ne, uu_uu, vv_eq, vv_ne, vv_vv, ne_eq, not_false_eq_true, not_true_eq_false, reduceCtorEq, Int.reduceAdd, Int.reduceSub, Int.reduceMul, Int.reduceNeg, Nat.reduceEqDiff, or_true, true_or, true_implies, false_implies, Int.reduceLT, Int.reduceLE, Int.reduceEq, e9]
      exact a3 F _ q
  · have n9 : ¬ u 9 = 59 := fun t => c (s40.1 t)
    rw [gexp_n c]
    refine ⟨u, fun _ _ => rfl, fun i b e => absurd e (by simp), fun k e h' => ?_, fun F Q q => ?_⟩
    · simp only [Sum.inr.injEq, Prod.mk.injEq] at h'
      rw [← h'.2]; exact ⟨h.2.1, by omega⟩
    · clear s40
      simp (disch := first | omega | decide) only [rEnd, ↓rh_rcv, ↓rh_g2, ↓rh_g9, ↓rh_p9, ↓rh_g12, ↓rh_p12, ↓rh_r72, ↓rh_w72, ↓be_y, ↓be_n, ↓bf_y, ↓bf_n, ↓bl_y, ↓bl_n, ↓bm_y, ↓bm_n, ↓bg_y, ↓bg_n, ↓bs_y, ↓bs_n, ↓bo_y, ↓bo_n, ↓bp_y, ↓bp_n, ↓forall_eq, ↓within_y, ↓within_n, ↓isIn_y, ↓isIn_n, and_true, true_and, and_self, us_at, us_ne, w32_id, um_eq, um_ne, um_um, uu_eq, uu_ne, uu_uu, vv_eq, vv_ne, vv_vv, ne_eq, not_false_eq_true, not_true_eq_false, reduceCtorEq, Int.reduceAdd, Int.reduceSub, Int.reduceMul, Int.reduceNeg, Nat.reduceEqDiff, or_true, true_or, true_implies, false_implies, Int.reduceLT, Int.reduceLE, Int.reduceEq]
      exact q
end RZ
