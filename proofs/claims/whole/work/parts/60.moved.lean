section MO
variable {n P : Int} {s : std} {v : Nat → Nat → Int} {N : Nat → Int → Int} {T : Nat → Int → Option Nat}
theorem sg_e0 : sg s 0 = s.1 := rfl
theorem sg_e1 : sg s 1 = s.2.1 := rfl
theorem sg_e2 : sg s 2 = s.2.2 := rfl
theorem blw_ne {f c d : Int} {r : List Int} (h : c ≠ d) : blw f c (d :: r) = blw f c r := by
  conv => lhs; unfold blw
  rw [if_neg h]
theorem blw_hd {f c : Int} {r : List Int} : blw f c (c :: r) = r.getD 0 f := by
  unfold blw
  rw [if_pos rfl]
  cases r <;> rfl
set_option maxHeartbeats 4000000 in
theorem mo_all (h : svl n s) (hn : n ≤ 5) {f t : Int} (hf : 0 ≤ f ∧ f < 3) (ht : 0 ≤ t ∧ t < 3) (d : f ≠ t) (g : top s f < 5) : svl n (moved s f t) ∧ (∀ e, e ≠ top s f → bel (moved s f t) e = bel s e) ∧ bel (moved s f t) (top s f) = top s t := by
  have nd := svl_n h
  rcases top_l h hn hf with ⟨a1, a2⟩ | ⟨c, r, a1, a2, a3⟩
  · omega
  have key : ∀ l0 l1 l2, s = (l0, l1, l2) → (sts (moved s f t)).Perm (sts s) ∧ (∀ e, e ≠ c → bel (moved s f t) e = bel s e) ∧ bel (moved s f t) c = top s t := by
    intro l0 l1 l2 es
    subst es
    unfold sts at nd
    obtain ⟨n1, n2, n5⟩ := List.nodup_append.1 nd
    obtain ⟨n3, n4, n6⟩ := List.nodup_append.1 n1
    unfold moved
    rw [a2]
    unfold top
    obtain rfl | rfl | rfl : f = 0 ∨ f = 1 ∨ f = 2 := by omega
    · obtain rfl : l0 = c :: r := a1
      have c1 : c ∉ l1 := fun z => n6 c List.mem_cons_self c z rfl
      have c2 : c ∉ l2 := fun z => n5 c (List.mem_append_left _ List.mem_cons_self) c z rfl
      have c0 : c ∉ r := (List.nodup_cons.1 n3).1
      obtain rfl | rfl : t = 1 ∨ t = 2 := by omega
      · refine ⟨?_, fun e he => ?_, ?_⟩
        · show (r ++ (c :: l1) ++ l2).Perm ((c :: r) ++ l1 ++ l2)
          exact (List.Perm.append_right l2 (List.perm_middle (l₁ := r) (a := c) (l₂ := l1)))
        · show blw 5 e r + blw 6 e (c :: l1) + blw 7 e l2 = blw 5 e (c :: r) + blw 6 e l1 + blw 7 e l2
          rw [blw_ne he, blw_ne he]
        · show blw 5 c r + blw 6 c (c :: l1) + blw 7 c l2 = l1.getD 0 (5 + 1)
          rw [blw_out c0, blw_out c2, blw_hd, Int.zero_add, Int.add_zero]
          rfl
      · refine ⟨?_, fun e he => ?_, ?_⟩
        · show (r ++ l1 ++ (c :: l2)).Perm ((c :: r) ++ l1 ++ l2)
          exact List.perm_middle (l₁ := r ++ l1) (a := c) (l₂ := l2)
        · show blw 5 e r + blw 6 e l1 + blw 7 e (c :: l2) = blw 5 e (c :: r) + blw 6 e l1 + blw 7 e l2
          rw [blw_ne he, blw_ne he]
        · show blw 5 c r + blw 6 c l1 + blw 7 c (c :: l2) = l2.getD 0 (5 + 2)
          rw [blw_out c0, blw_out c1, blw_hd, Int.zero_add, Int.zero_add]
          rfl
    · obtain rfl : l1 = c :: r := a1
      have c1 : c ∉ l0 := fun z => n6 c z c List.mem_cons_self rfl
      have c2 : c ∉ l2 := fun z => n5 c (List.mem_append_right _ List.mem_cons_self) c z rfl
      have c0 : c ∉ r := (List.nodup_cons.1 n4).1
      obtain rfl | rfl : t = 0 ∨ t = 2 := by omega
      · refine ⟨?_, fun e he => ?_, ?_⟩
        · show ((c :: l0) ++ r ++ l2).Perm (l0 ++ (c :: r) ++ l2)
          exact (List.Perm.append_right l2 (List.perm_middle (l₁ := l0) (a := c) (l₂ := r)).symm)
        · show blw 5 e (c :: l0) + blw 6 e r + blw 7 e l2 = blw 5 e l0 + blw 6 e (c :: r) + blw 7 e l2
          rw [blw_ne he, blw_ne he]
        · show blw 5 c (c :: l0) + blw 6 c r + blw 7 c l2 = l0.getD 0 (5 + 0)
          rw [blw_out c0, blw_out c2, blw_hd, Int.add_zero, Int.add_zero]
          rfl
      · refine ⟨?_, fun e he => ?_, ?_⟩
        · show (l0 ++ r ++ (c :: l2)).Perm (l0 ++ (c :: r) ++ l2)
          have p1 : (l0 ++ r ++ (c :: l2)).Perm (c :: (l0 ++ r ++ l2)) := List.perm_middle
          have p2 : (l0 ++ (c :: r) ++ l2).Perm (c :: (l0 ++ r ++ l2)) := List.Perm.append_right l2 (List.perm_middle (l₁ := l0) (a := c) (l₂ := r))
          exact p1.trans p2.symm
        · show blw 5 e l0 + blw 6 e r + blw 7 e (c :: l2) = blw 5 e l0 + blw 6 e (c :: r) + blw 7 e l2
          rw [blw_ne he, blw_ne he]
        · show blw 5 c l0 + blw 6 c r + blw 7 c (c :: l2) = l2.getD 0 (5 + 2)
          rw [blw_out c0, blw_out c1, blw_hd, Int.zero_add, Int.zero_add]
          rfl
    · obtain rfl : l2 = c :: r := a1
      have c1 : c ∉ l0 := fun z => n5 c (List.mem_append_left _ z) c List.mem_cons_self rfl
      have c2 : c ∉ l1 := fun z => n5 c (List.mem_append_right _ z) c List.mem_cons_self rfl
      have c0 : c ∉ r := (List.nodup_cons.1 n2).1
      have p2 : (l0 ++ l1 ++ (c :: r)).Perm (c :: (l0 ++ l1 ++ r)) := List.perm_middle
      obtain rfl | rfl : t = 0 ∨ t = 1 := by omega
      · refine ⟨?_, fun e he => ?_, ?_⟩
        · show ((c :: l0) ++ l1 ++ r).Perm (l0 ++ l1 ++ (c :: r))
          exact p2.symm
        · show blw 5 e (c :: l0) + blw 6 e l1 + blw 7 e r = blw 5 e l0 + blw 6 e l1 + blw 7 e (c :: r)
          rw [blw_ne he, blw_ne he]
        · show blw 5 c (c :: l0) + blw 6 c l1 + blw 7 c r = l0.getD 0 (5 + 0)
          rw [blw_out c0, blw_out c2, blw_hd, Int.add_zero, Int.add_zero]
          rfl
      · refine ⟨?_, fun e he => ?_, ?_⟩
        · show (l0 ++ (c :: l1) ++ r).Perm (l0 ++ l1 ++ (c :: r))
          have p1 : (l0 ++ (c :: l1) ++ r).Perm (c :: (l0 ++ l1 ++ r)) := List.Perm.append_right r (List.perm_middle (l₁ := l0) (a := c) (l₂ := l1))
          exact p1.trans p2.symm
        · show blw 5 e l0 + blw 6 e (c :: l1) + blw 7 e r = blw 5 e l0 + blw 6 e l1 + blw 7 e (c :: r)
          rw [blw_ne he, blw_ne he]
        · show blw 5 c l0 + blw 6 c (c :: l1) + blw 7 c r = l1.getD 0 (5 + 1)
          rw [blw_out c0, blw_out c1, blw_hd, Int.zero_add, Int.add_zero]
          rfl
  obtain ⟨k1, k2, k3⟩ := key s.1 s.2.1 s.2.2 rfl
  rw [a2]
  exact ⟨k1.trans h, k2, k3⟩
set_option maxHeartbeats 4000000 in
theorem dg_or {x y p : Int} (hx : 0 ≤ x ∧ x < 32768) (hy : 0 ≤ y ∧ y < 8) (hp : p = 1 ∨ p = 8 ∨ p = 64 ∨ p = 512 ∨ p = 4096) (h0 : x / p % 8 = 0) : iOr x (y * p) = x + y * p := by
  have e15 : ((2 ^ 15 : Nat) : Int) = 32768 := by decide
  have yb : 0 ≤ y * p ∧ y * p < 32768 := by rcases hp with rfl | rfl | rfl | rfl | rfl <;> omega
  have b := or_b 15 (by decide) (x := x) (y := y * p) (by rw [e15]; omega) (by rw [e15]; omega)
  have sb : 0 ≤ x + y * p ∧ x + y * p < 32768 := by rcases hp with rfl | rfl | rfl | rfl | rfl <;> omega
  refine tb_ext 15 (by omega) b (by rw [e15]; exact sb) (fun k k0 k1 => ?_)
  rw [tb_or (by omega) (by omega) (by omega)]
  obtain ⟨j, q, rfl, hq, j1⟩ := k15 k0 k1
  rw [tb_dv j q hq hx.1, tb_dv j q hq yb.1, tb_dv j q hq sb.1]
  clear hq b k0 k1 sb yb e15
  rw [Bool.eq_iff_iff]
  simp only [Bool.or_eq_true, decide_eq_true_eq]
  rcases hp with rfl | rfl | rfl | rfl | rfl
  all_goals
    rcases j1 with rfl | rfl | rfl | rfl | rfl | rfl | rfl | rfl | rfl | rfl | rfl | rfl | rfl | rfl | rfl
    all_goals omega
theorem dg_set {x y c : Int} (hx : 0 ≤ x ∧ x < 32768) (hy : 0 ≤ y ∧ y < 8) (hc : 0 ≤ c ∧ c < 5) : ∃ p, ((c = 0 ∧ p = 1) ∨ (c = 1 ∧ p = 8) ∨ (c = 2 ∧ p = 64) ∨ (c = 3 ∧ p = 512) ∨ (c = 4 ∧ p = 4096)) ∧ iOr (iAnd x (iXor (iShl 7 (3 * c)) (-1))) (iShl y (3 * c)) = x - x / p % 8 * p + y * p := by
  have go : ∀ p : Int, (p = 1 ∨ p = 8 ∨ p = 64 ∨ p = 512 ∨ p = 4096) → iShl 7 (3 * c) = 7 * p → iShl y (3 * c) = y * p → iOr (iAnd x (iXor (iShl 7 (3 * c)) (-1))) (iShl y (3 * c)) = x - x / p % 8 * p + y * p := by
    intro p hp e1 e2
    rw [e1, e2, dg_clr hx hp]
    refine dg_or ?_ hy hp ?_
    · rcases hp with rfl | rfl | rfl | rfl | rfl <;> omega
    · rcases hp with rfl | rfl | rfl | rfl | rfl <;> omega
  obtain rfl | rfl | rfl | rfl | rfl : c = 0 ∨ c = 1 ∨ c = 2 ∨ c = 3 ∨ c = 4 := by omega
  · exact ⟨1, by omega, go 1 (by omega) (shl_p 0 (by decide) (by omega) (by decide)) (shl_p 0 (by decide) (by omega) (by show y * 1 < _; omega))⟩
  · exact ⟨8, by omega, go 8 (by omega) (shl_p 3 (by decide) (by omega) (by decide)) (shl_p 3 (by decide) (by omega) (by show y * 8 < _; omega))⟩
  · exact ⟨64, by omega, go 64 (by omega) (shl_p 6 (by decide) (by omega) (by decide)) (shl_p 6 (by decide) (by omega) (by show y * 64 < _; omega))⟩
  · exact ⟨512, by omega, go 512 (by omega) (shl_p 9 (by decide) (by omega) (by decide)) (shl_p 9 (by decide) (by omega) (by show y * 512 < _; omega))⟩
  · exact ⟨4096, by omega, go 4096 (by omega) (shl_p 12 (by decide) (by omega) (by decide)) (shl_p 12 (by decide) (by omega) (by show y * 4096 < _; omega))⟩
theorem enc_mo (h : svl n s) (hn : n ≤ 5) {f t : Int} (hf : 0 ≤ f ∧ f < 3) (ht : 0 ≤ t ∧ t < 3) (d : f ≠ t) (g : top s f < 5) : iOr (iAnd (enc s) (iXor (iShl 7 (3 * top s f)) (-1))) (iShl (top s t) (3 * top s f)) = enc (moved s f t) := by
  obtain ⟨m1, m2, m3⟩ := mo_all h hn hf ht d g
  have tf := gd_b h hn hf 0
  have tt := gd_b h hn ht 0
  have tf' : 0 ≤ top s f := tf.1
  have tt' : 0 ≤ top s t ∧ top s t ≤ 7 := tt
  obtain ⟨p, hp, e⟩ := dg_set (enc_b h hn) (y := top s t) (c := top s f) (by omega) (by omega)
  rw [e]
  generalize top s f = c at *
  generalize top s t = y at *
  have b0 := bel_b (c := 0) h hn
  have b1 := bel_b (c := 1) h hn
  have b2 := bel_b (c := 2) h hn
  have b3 := bel_b (c := 3) h hn
  have b4 := bel_b (c := 4) h hn
  have q0 := m2 0
  have q1 := m2 1
  have q2 := m2 2
  have q3 := m2 3
  have q4 := m2 4
  clear e m1 m2 tf tt
  unfold enc
  rcases hp with ⟨rfl, rfl⟩ | ⟨rfl, rfl⟩ | ⟨rfl, rfl⟩ | ⟨rfl, rfl⟩ | ⟨rfl, rfl⟩
  all_goals omega
theorem moved_c (h : svl n s) (hn : n ≤ 5) (hP : 0 ≤ P ∧ P ≤ 2147483647) (hW : ∀ t, 0 ≤ t → t < 3 → N 61 t = top s t) {mv : Int} (hm : 0 ≤ mv ∧ mv < 9) {F : hp} {Q : Int → hp → Prop} (q : Q (match stp P s mv with
    | some s' => enc s'
    | none => -1) (kh F v N T)) : mX4_moved 56 (enc s) mv P (kh F v N T) Q := by
  have hf : 0 ≤ mv / 3 ∧ mv / 3 < 3 := by omega
  have ht : 0 ≤ mv % 3 ∧ mv % 3 < 3 := by omega
  have w1 := hW _ hf.1 hf.2
  have w2 := hW _ ht.1 ht.2
  have tf : 0 ≤ top s (mv / 3) ∧ top s (mv / 3) ≤ 7 := gd_b h hn hf 0
  have tt : 0 ≤ top s (mv % 3) ∧ top s (mv % 3) ≤ 7 := gd_b h hn ht 0
  by_cases d : mv / 3 = mv % 3
  · rw [stp_n h hn hm (fun g => g.1 d)] at q
    simp (disch := first | omega | decide) only [mX4_moved, ↓kh_c56, ↓kh_g56_0, ↓kh_g56_1, ↓kh_g56_2, ↓kh_g56_3, ↓kh_g56_4, ↓kh_g56_5, ↓kh_p56_5, ↓kh_g56_6, ↓kh_p56_6, ↓kh_g56_7, ↓kh_p56_7, ↓kh_r61, ↓kh_w61, ↓kh_n61, ↓be_y, ↓be_n, ↓bf_y, ↓bf_n, ↓bl_y, ↓bl_n, ↓bm_y, ↓bm_n, ↓bg_y, ↓bg_n, ↓bs_y, ↓bs_n, ↓bo_y, ↓bo_n, ↓bp_y, ↓bp_n, ↓forall_eq, ↓within_y, ↓within_n, ↓isIn_y, ↓isIn_n, and_true, true_and, and_self, us_at, us_ne, w32_id, um_eq, um_ne, um_um, uu_eq, uu_ne, uu_uu, vv_eq, vv_ne, vv_vv, ne_eq, not_false_eq_true, not_true_eq_false, reduceCtorEq, Int.reduceAdd, Int.reduceSub, Int.reduceMul, Int.reduceNeg, Nat.reduceEqDiff, or_true, true_or, true_implies, false_implies, Int.reduceLT, Int.reduceLE, Int.reduceEq, w1, w2, tm, td]
    exact q
  by_cases d1 : top s (mv / 3) < 5
  · have em := enc_mo h hn hf ht d d1
    by_cases d2 : top s (mv % 3) < 5
    · cases z : tb P (5 * top s (mv / 3) + top s (mv % 3)) with
      | false =>
        rw [stp_n h hn hm (fun g => by rw [g.2.2 d2] at z; cases z)] at q
        have bz := bit_n (k := 5 * top s (mv / 3) + top s (mv % 3)) hP (by omega) z
        simp (disch := first | omega | decide) only [mX4_moved, ↓kh_c56, ↓kh_g56_0, ↓kh_g56_1, ↓kh_g56_2, ↓kh_g56_3, ↓kh_g56_4, ↓kh_g56_5, ↓kh_p56_5, ↓kh_g56_6, ↓kh_p56_6, ↓kh_g56_7, ↓kh_p56_7, ↓kh_r61, ↓kh_w61, ↓kh_n61, ↓be_y, ↓be_n, ↓bf_y, ↓bf_n, ↓bl_y, ↓bl_n, ↓bm_y, ↓bm_n, ↓bg_y, ↓bg_n, ↓bs_y, ↓bs_n, ↓bo_y, ↓bo_n, ↓bp_y, ↓bp_n, ↓forall_eq, ↓within_y, ↓within_n, ↓isIn_y, ↓isIn_n, and_true, true_and, and_self, us_at, us_ne, w32_id, um_eq, um_ne, um_um, uu_eq, uu_ne, uu_uu, vv_eq, vv_ne, vv_vv, ne_eq, not_false_eq_true, not_true_eq_false, reduceCtorEq, Int.reduceAdd, Int.reduceSub, Int.reduceMul, Int.reduceNeg, Nat.reduceEqDiff, or_true, true_or, true_implies, false_implies, Int.reduceLT, Int.reduceLE, Int.reduceEq, w1, w2, tm, td, bz]
        exact q
      | true =>
        rw [stp_y h hn hm ⟨d, d1, fun _ => z⟩] at q
        have bz := bit_y (k := 5 * top s (mv / 3) + top s (mv % 3)) hP (by omega) z
        simp (disch := first | omega | decide) only [mX4_moved, mX4_moved_J65, ↓kh_c56, ↓kh_g56_0, ↓kh_g56_1, ↓kh_g56_2, ↓kh_g56_3, ↓kh_g56_4, ↓kh_g56_5, ↓kh_p56_5, ↓kh_g56_6, ↓kh_p56_6, ↓kh_g56_7, ↓kh_p56_7, ↓kh_r61, ↓kh_w61, ↓kh_n61, ↓be_y, ↓be_n, ↓bf_y, ↓bf_n, ↓bl_y, ↓bl_n, ↓bm_y, ↓bm_n, ↓bg_y, ↓bg_n, ↓bs_y, ↓bs_n, ↓bo_y, ↓bo_n, ↓bp_y, ↓bp_n, ↓forall_eq, ↓within_y, ↓within_n, ↓isIn_y, ↓isIn_n, and_true, true_and, and_self, us_at, us_ne, w32_id, um_eq, um_ne, um_um, uu_eq, uu_ne, uu_uu, vv_eq, vv_ne, vv_vv, ne_eq, not_false_eq_true, not_true_eq_false, reduceCtorEq, Int.reduceAdd, Int.reduceSub, Int.reduceMul, Int.reduceNeg, Nat.reduceEqDiff, or_true, true_or, true_implies, false_implies, Int.reduceLT, Int.reduceLE, Int.reduceEq, w1, w2, tm, td, bz]
        rw [em]
        exact q
    · rw [stp_y h hn hm ⟨d, d1, fun e => absurd e d2⟩] at q
      simp (disch := first | omega | decide) only [mX4_moved, mX4_moved_J65, ↓kh_c56, ↓kh_g56_0, ↓kh_g56_1, ↓kh_g56_2, ↓kh_g56_3, ↓kh_g56_4, ↓kh_g56_5, ↓kh_p56_5, ↓kh_g56_6, ↓kh_p56_6, ↓kh_g56_7, ↓kh_p56_7, ↓kh_r61, ↓kh_w61, ↓kh_n61, ↓be_y, ↓be_n, ↓bf_y, ↓bf_n, ↓bl_y, ↓bl_n, ↓bm_y, ↓bm_n, ↓bg_y, ↓bg_n, ↓bs_y, ↓bs_n, ↓bo_y, ↓bo_n, ↓bp_y, ↓bp_n, ↓forall_eq, ↓within_y, ↓within_n, ↓isIn_y, ↓isIn_n, and_true, true_and, and_self, us_at, us_ne, w32_id, um_eq, um_ne, um_um, uu_eq, uu_ne, uu_uu, vv_eq, vv_ne, vv_vv, ne_eq, not_false_eq_true, not_true_eq_false, reduceCtorEq, Int.reduceAdd, Int.reduceSub, Int.reduceMul, Int.reduceNeg, Nat.reduceEqDiff, or_true, true_or, true_implies, false_implies, Int.reduceLT, Int.reduceLE, Int.reduceEq, w1, w2, tm, td]
      rw [em]
      exact q
  · rw [stp_n h hn hm (fun g => d1 g.2.1)] at q
    simp (disch := first | omega | decide) only [mX4_moved, ↓kh_c56, ↓kh_g56_0, ↓kh_g56_1, ↓kh_g56_2, ↓kh_g56_3, ↓kh_g56_4, ↓kh_g56_5, ↓kh_p56_5, ↓kh_g56_6, ↓kh_p56_6, ↓kh_g56_7, ↓kh_p56_7, ↓kh_r61, ↓kh_w61, ↓kh_n61, ↓be_y, ↓be_n, ↓bf_y, ↓bf_n, ↓bl_y, ↓bl_n, ↓bm_y, ↓bm_n, ↓bg_y, ↓bg_n, ↓bs_y, ↓bs_n, ↓bo_y, ↓bo_n, ↓bp_y, ↓bp_n, ↓forall_eq, ↓within_y, ↓within_n, ↓isIn_y, ↓isIn_n, and_true, true_and, and_self, us_at, us_ne, w32_id, um_eq, um_ne, um_um, uu_eq, uu_ne, uu_uu, vv_eq, vv_ne, vv_vv, ne_eq, not_false_eq_true, not_true_eq_false, reduceCtorEq, Int.reduceAdd, Int.reduceSub, Int.reduceMul, Int.reduceNeg, Nat.reduceEqDiff, or_true, true_or, true_implies, false_implies, Int.reduceLT, Int.reduceLE, Int.reduceEq, w1, w2, tm, td]
    exact q
end MO
