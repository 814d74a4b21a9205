-- ===== calls that only look: one row beside the other, in step =====
theorem fst_or (f : Int → Int) (b c : Int) : ∀ n : Nat, (∃ i, 0 ≤ i ∧ i < (n : Int) ∧ f (b + i) = c ∧ ∀ j, 0 ≤ j → j < i → f (b + j) ≠ c) ∨ (∀ j, 0 ≤ j → j < (n : Int) → f (b + j) ≠ c) := by
  intro n
  induction n with
  | zero => exact .inr (fun j h0 h1 => by omega)
  | succ n ih =>
    rcases ih with ⟨i, h0, h1, h2, h3⟩ | h
    · exact .inl ⟨i, h0, by omega, h2, h3⟩
    · by_cases d : f (b + n) = c
      · exact .inl ⟨n, by omega, by omega, d, h⟩
      · refine .inr (fun j h0 h1 => ?_)
        by_cases e : j = n
        · subst e; exact d
        · exact h j h0 (by omega)
theorem yok_at {Y : Int → Int} (h : yok Y) {c : Int} (hc : 0 ≤ c ∧ c < Y 4) : ∃ t i, (0 ≤ t ∧ t < 3) ∧ (0 ≤ i ∧ i < Y (11 + t)) ∧ Y (14 + 5 * t + i) = c ∧ (∀ j, 0 ≤ j → j < i → Y (14 + 5 * t + j) ≠ c) ∧ (∀ s j, 0 ≤ s → s < t → 0 ≤ j → j < Y (11 + s) → Y (14 + 5 * s + j) ≠ c) := by
  have h8 := h.2.2.2.2.2.2.2.2.1
  have h9 := h.2.2.2.2.2.2.2.2.2
  have m := (h9.mem_iff (a := c)).mpr (ran_mem.mpr hc)
  have a := h8 0 (by omega) (by omega)
  have b := h8 1 (by omega) (by omega)
  have d := h8 2 (by omega) (by omega)
  simp only [Int.reduceAdd] at a b d
  rcases fst_or Y 14 c (Y 11).toNat with ⟨i, i0, i1, i2, i3⟩ | n0
  · exact ⟨0, i, by omega, by show _ ∧ i < Y 11; omega, i2, i3, fun s j q0 q1 => by omega⟩
  · rcases fst_or Y 19 c (Y 12).toNat with ⟨i, i0, i1, i2, i3⟩ | n1
    · refine ⟨1, i, by omega, by show _ ∧ i < Y 12; omega, i2, i3, fun s j q0 q1 q2 q3 => ?_⟩
      obtain rfl : s = 0 := by omega
      have q3 : j < Y 11 := q3
      exact n0 j q2 (by omega)
    · rcases fst_or Y 24 c (Y 13).toNat with ⟨i, i0, i1, i2, i3⟩ | n2
      · refine ⟨2, i, by omega, by show _ ∧ i < Y 13; omega, i2, i3, fun s j q0 q1 q2 q3 => ?_⟩
        obtain rfl | rfl : s = 0 ∨ s = 1 := by omega
        · have q3 : j < Y 11 := q3
          exact n0 j q2 (by omega)
        · have q3 : j < Y 12 := q3
          exact n1 j q2 (by omega)
      · exfalso
        rw [List.mem_append, List.mem_append, tl_mem, tl_mem, tl_mem] at m
        rcases m with (⟨i, g0, g1⟩ | ⟨i, g0, g1⟩) | ⟨i, g0, g1⟩
        · exact n0 i g0.1 (by omega) g1.symm
        · exact n1 i g0.1 (by omega) g1.symm
        · exact n2 i g0.1 (by omega) g1.symm
section Q1
variable {n x1 x2 x3 : Int} {v : Nat → Nat → Int} {N : Nat → Int → Int} {T : Nat → Int → Option Nat} {u : Nat → Int} {M : Nat → Int → Int}
-- what both rows say of a track
theorem trk (hY : jY (N 12) (M 70)) {t : Int} (ht : 0 ≤ t ∧ t < 3) : (N 12 (11 + t) = M 70 (12 + t) ∧ 0 ≤ M 70 (12 + t) ∧ M 70 (12 + t) ≤ 5) ∧ ∀ i, 0 ≤ i → i < M 70 (12 + t) → N 12 (14 + 5 * t + i) = M 70 (15 + 5 * t + i) ∧ 0 ≤ M 70 (15 + 5 * t + i) ∧ M 70 (15 + 5 * t + i) < M 70 0 := by
  have d := jY_d hY
  have a := d.2.2.1 t ht.1 ht.2
  have c := (jY_c hY).1
  refine ⟨a, fun i h0 h1 => ?_⟩
  have b := d.2.2.2.1 (5 * t + i) (by omega) (by omega)
  rw [show 14 + (5 * t + i) = 14 + 5 * t + i by omega, show 15 + (5 * t + i) = 15 + 5 * t + i by omega] at b
  have e := yok_in (jY_k hY) (t := t) (i := i) ht (by omega)
  rw [b, c] at e
  exact ⟨b, e⟩
theorem plc_f {t c i : Int} (ht : 0 ≤ t ∧ t < 3) (hn : N 12 (11 + t) ≤ 5) (hi : 0 ≤ i ∧ i < N 12 (11 + t)) (hc : 0 ≤ c ∧ c ≤ 4) (hb : ∀ j, 0 ≤ j → j < N 12 (11 + t) → 0 ≤ N 12 (14 + 5 * t + j) ∧ N 12 (14 + 5 * t + j) ≤ 4) (e : N 12 (14 + 5 * t + i) = c) (hf : ∀ j, 0 ≤ j → j < i → N 12 (14 + 5 * t + j) ≠ c) {F : hp} {Q : Int → hp → Prop} (q : Q i (kh F v N T)) : ∀ (k : Nat) (j : Int), j + k = i → 0 ≤ j → mX10_placeOn_L2 Q (k + 1) 11 t c j (kh F v N T) := by
  intro k
  induction k with
  | zero =>
    intro j hj h0
    obtain rfl : j = i := by omega
    have b := hb j (by omega) (by omega)
    rw [mX10_placeOn_L2]
    simp (disch := first | omega | decide) only [mX10_countOn, mX10_carAt, ↓kh_c11, ↓kh_g11_0, ↓kh_r12, ↓kh_w12, ↓kh_n12, ↓kh_cp12_33, ↓kh_cp12_68, ↓kh_cp12_12, ↓kh_cp12_14, ↓be_y, ↓be_n, ↓bf_y, ↓bf_n, ↓bl_y, ↓bl_n, ↓bm_y, ↓bm_n, ↓bg_y, ↓bg_n, ↓bs_y, ↓bs_n, ↓bo_y, ↓bo_n, ↓bp_y, ↓bp_n, ↓forall_eq, ↓within_y, ↓within_n, ↓isIn_y, ↓isIn_n, and_true, true_and, and_self, us_at, us_ne, w32_id, um_eq, um_ne, um_um, uu_eq, uu_ne, uu_uu, vv_eq, vv_ne, vv_vv, ne_eq, not_false_eq_true, not_true_eq_false, reduceCtorEq, Int.reduceAdd, Int.reduceSub, Int.reduceMul, Int.reduceNeg, Nat.reduceEqDiff, or_true, true_or, true_implies, false_implies, Int.reduceLT, Int.reduceLE, Int.reduceEq]
    exact q
  | succ k ih =>
    intro j hj h0
    have b := hb j (by omega) (by omega)
    have ne := hf j (by omega) (by omega)
    rw [mX10_placeOn_L2]
    simp (disch := first | omega | decide) only [mX10_countOn, mX10_carAt, ↓kh_c11, ↓kh_g11_0, ↓kh_r12, ↓kh_w12, ↓kh_n12, ↓kh_cp12_33, ↓kh_cp12_68, ↓kh_cp12_12, ↓kh_cp12_14, ↓be_y, ↓be_n, ↓bf_y, ↓bf_n, ↓bl_y, ↓bl_n, ↓bm_y, ↓bm_n, ↓bg_y, ↓bg_n, ↓bs_y, ↓bs_n, ↓bo_y, ↓bo_n, ↓bp_y, ↓bp_n, ↓forall_eq, ↓within_y, ↓within_n, ↓isIn_y, ↓isIn_n, and_true, true_and, and_self, us_at, us_ne, w32_id, um_eq, um_ne, um_um, uu_eq, uu_ne, uu_uu, vv_eq, vv_ne, vv_vv, ne_eq, not_false_eq_true, not_true_eq_false, reduceCtorEq, Int.reduceAdd, Int.reduceSub, Int.reduceMul, Int.reduceNeg, Nat.reduceEqDiff, or_true, true_or, true_implies, false_implies, Int.reduceLT, Int.reduceLE, Int.reduceEq]
    exact ih (j + 1) (by omega) (by omega)
theorem plc_n {t c : Int} (ht : 0 ≤ t ∧ t < 3) (hn : 0 ≤ N 12 (11 + t) ∧ N 12 (11 + t) ≤ 5) (hc : 0 ≤ c ∧ c ≤ 4) (hb : ∀ j, 0 ≤ j → j < N 12 (11 + t) → 0 ≤ N 12 (14 + 5 * t + j) ∧ N 12 (14 + 5 * t + j) ≤ 4) (hf : ∀ j, 0 ≤ j → j < N 12 (11 + t) → N 12 (14 + 5 * t + j) ≠ c) {F : hp} {Q : Int → hp → Prop} (q : Q (-1) (kh F v N T)) : ∀ (k : Nat) (j : Int), j + k = N 12 (11 + t) → 0 ≤ j → mX10_placeOn_L2 Q (k + 1) 11 t c j (kh F v N T) := by
  intro k
  induction k with
  | zero =>
    intro j hj h0
    rw [mX10_placeOn_L2]
    simp (disch := first | omega | decide) only [mX10_countOn, mX10_carAt, ↓kh_c11, ↓kh_g11_0, ↓kh_r12, ↓kh_w12, ↓kh_n12, ↓kh_cp12_33, ↓kh_cp12_68, ↓kh_cp12_12, ↓kh_cp12_14, ↓be_y, ↓be_n, ↓bf_y, ↓bf_n, ↓bl_y, ↓bl_n, ↓bm_y, ↓bm_n, ↓bg_y, ↓bg_n, ↓bs_y, ↓bs_n, ↓bo_y, ↓bo_n, ↓bp_y, ↓bp_n, ↓forall_eq, ↓within_y, ↓within_n, ↓isIn_y, ↓isIn_n, and_true, true_and, and_self, us_at, us_ne, w32_id, um_eq, um_ne, um_um, uu_eq, uu_ne, uu_uu, vv_eq, vv_ne, vv_vv, ne_eq, not_false_eq_true, not_true_eq_false, reduceCtorEq, Int.reduceAdd, Int.reduceSub, Int.reduceMul, Int.reduceNeg, Nat.reduceEqDiff, or_true, true_or, true_implies, false_implies, Int.reduceLT, Int.reduceLE, Int.reduceEq]
    exact q
  | succ k ih =>
    intro j hj h0
    have b := hb j (by omega) (by omega)
    have ne := hf j (by omega) (by omega)
    rw [mX10_placeOn_L2]
    simp (disch := first | omega | decide) only [mX10_countOn, mX10_carAt, ↓kh_c11, ↓kh_g11_0, ↓kh_r12, ↓kh_w12, ↓kh_n12, ↓kh_cp12_33, ↓kh_cp12_68, ↓kh_cp12_12, ↓kh_cp12_14, ↓be_y, ↓be_n, ↓bf_y, ↓bf_n, ↓bl_y, ↓bl_n, ↓bm_y, ↓bm_n, ↓bg_y, ↓bg_n, ↓bs_y, ↓bs_n, ↓bo_y, ↓bo_n, ↓bp_y, ↓bp_n, ↓forall_eq, ↓within_y, ↓within_n, ↓isIn_y, ↓isIn_n, and_true, true_and, and_self, us_at, us_ne, w32_id, um_eq, um_ne, um_um, uu_eq, uu_ne, uu_uu, vv_eq, vv_ne, vv_vv, ne_eq, not_false_eq_true, not_true_eq_false, reduceCtorEq, Int.reduceAdd, Int.reduceSub, Int.reduceMul, Int.reduceNeg, Nat.reduceEqDiff, or_true, true_or, true_implies, false_implies, Int.reduceLT, Int.reduceLE, Int.reduceEq]
    exact ih (j + 1) (by omega) (by omega)
theorem tro_c {t c i : Int} (hY : yok (N 12)) (ht : 0 ≤ t ∧ t < 3) (hi : 0 ≤ i ∧ i < N 12 (11 + t)) (hc : 0 ≤ c ∧ c ≤ 4) (e : N 12 (14 + 5 * t + i) = c) (hf : ∀ j, 0 ≤ j → j < i → N 12 (14 + 5 * t + j) ≠ c) (hg : ∀ s j, 0 ≤ s → s < t → 0 ≤ j → j < N 12 (11 + s) → N 12 (14 + 5 * s + j) ≠ c) {F : hp} {Q : Int → hp → Prop} (q : Q t (kh F v N T)) : ∀ (k : Nat) (s : Int), s + k = t → 0 ≤ s → mX10_trackOf_L2 Q (k + 1) 11 c s (kh F v N T) := by
  have h8 := hY.2.2.2.2.2.2.2.2.1
  have hin : ∀ s, 0 ≤ s → s < 3 → ∀ j, 0 ≤ j → j < N 12 (11 + s) → 0 ≤ N 12 (14 + 5 * s + j) ∧ N 12 (14 + 5 * s + j) ≤ 4 := fun s s0 s1 j j0 j1 => by
    have a := yok_in hY (t := s) (i := j) ⟨s0, s1⟩ ⟨j0, j1⟩
    have b := hY.2.2.2.2.1
    omega
  intro k
  induction k with
  | zero =>
    intro s hs h0
    obtain rfl : s = t := by omega
    have a := h8 s ht.1 ht.2
    rw [mX10_trackOf_L2]
    simp (disch := first | omega | decide) only [mX10_placeOn, ↓kh_c11, ↓kh_g11_0, ↓kh_r12, ↓kh_w12, ↓kh_n12, ↓kh_cp12_33, ↓kh_cp12_68, ↓kh_cp12_12, ↓kh_cp12_14, ↓be_y, ↓be_n, ↓bf_y, ↓bf_n, ↓bl_y, ↓bl_n, ↓bm_y, ↓bm_n, ↓bg_y, ↓bg_n, ↓bs_y, ↓bs_n, ↓bo_y, ↓bo_n, ↓bp_y, ↓bp_n, ↓forall_eq, ↓within_y, ↓within_n, ↓isIn_y, ↓isIn_n, and_true, true_and, and_self, us_at, us_ne, w32_id, um_eq, um_ne, um_um, uu_eq, uu_ne, uu_uu, vv_eq, vv_ne, vv_vv, ne_eq, not_false_eq_true, not_true_eq_false, reduceCtorEq, Int.reduceAdd, Int.reduceSub, Int.reduceMul, Int.reduceNeg, Nat.reduceEqDiff, or_true, true_or, true_implies, false_implies, Int.reduceLT, Int.reduceLE, Int.reduceEq]
    refine ⟨i.toNat + 1, plc_f ht (h8 s ht.1 ht.2).2 hi hc (hin s ht.1 ht.2) e hf ?_ i.toNat 0 (by omega) (by omega)⟩
    simp (disch := first | omega | decide) only [w32_id, ↓kh_c11, ↓kh_g11_0, ↓kh_r12, ↓kh_w12, ↓kh_n12, ↓kh_cp12_33, ↓kh_cp12_68, ↓kh_cp12_12, ↓kh_cp12_14, ↓be_y, ↓be_n, ↓bf_y, ↓bf_n, ↓bl_y, ↓bl_n, ↓bm_y, ↓bm_n, ↓bg_y, ↓bg_n, ↓bs_y, ↓bs_n, ↓bo_y, ↓bo_n, ↓bp_y, ↓bp_n, ↓forall_eq, ↓within_y, ↓within_n, ↓isIn_y, ↓isIn_n, and_true, true_and, and_self, us_at, us_ne, w32_id, um_eq, um_ne, um_um, uu_eq, uu_ne, uu_uu, vv_eq, vv_ne, vv_vv, ne_eq, not_false_eq_true, not_true_eq_false, reduceCtorEq, Int.reduceAdd, Int.reduceSub, Int.reduceMul, Int.reduceNeg, Nat.reduceEqDiff, or_true, true_or, true_implies, false_implies, Int.reduceLT, Int.reduceLE, Int.reduceEq]
    exact q
  | succ k ih =>
    intro s hs h0
    have a := h8 s (by omega) (by omega)
    rw [mX10_trackOf_L2]
    simp (disch := first | omega | decide) only [mX10_placeOn, ↓kh_c11, ↓kh_g11_0, ↓kh_r12, ↓kh_w12, ↓kh_n12, ↓kh_cp12_33, ↓kh_cp12_68, ↓kh_cp12_12, ↓kh_cp12_14, ↓be_y, ↓be_n, ↓bf_y, ↓bf_n, ↓bl_y, ↓bl_n, ↓bm_y, ↓bm_n, ↓bg_y, ↓bg_n, ↓bs_y, ↓bs_n, ↓bo_y, ↓bo_n, ↓bp_y, ↓bp_n, ↓forall_eq, ↓within_y, ↓within_n, ↓isIn_y, ↓isIn_n, and_true, true_and, and_self, us_at, us_ne, w32_id, um_eq, um_ne, um_um, uu_eq, uu_ne, uu_uu, vv_eq, vv_ne, vv_vv, ne_eq, not_false_eq_true, not_true_eq_false, reduceCtorEq, Int.reduceAdd, Int.reduceSub, Int.reduceMul, Int.reduceNeg, Nat.reduceEqDiff, or_true, true_or, true_implies, false_implies, Int.reduceLT, Int.reduceLE, Int.reduceEq]
    refine ⟨(N 12 (11 + s)).toNat + 1, plc_n (by omega) a hc (hin s (by omega) (by omega)) (hg s · (by omega) (by omega)) ?_ (N 12 (11 + s)).toNat 0 (by omega) (by omega)⟩
    simp (disch := first | omega | decide) only [w32_id, ↓kh_c11, ↓kh_g11_0, ↓kh_r12, ↓kh_w12, ↓kh_n12, ↓kh_cp12_33, ↓kh_cp12_68, ↓kh_cp12_12, ↓kh_cp12_14, ↓be_y, ↓be_n, ↓bf_y, ↓bf_n, ↓bl_y, ↓bl_n, ↓bm_y, ↓bm_n, ↓bg_y, ↓bg_n, ↓bs_y, ↓bs_n, ↓bo_y, ↓bo_n, ↓bp_y, ↓bp_n, ↓forall_eq, ↓within_y, ↓within_n, ↓isIn_y, ↓isIn_n, and_true, true_and, and_self, us_at, us_ne, w32_id, um_eq, um_ne, um_um, uu_eq, uu_ne, uu_uu, vv_eq, vv_ne, vv_vv, ne_eq, not_false_eq_true, not_true_eq_false, reduceCtorEq, Int.reduceAdd, Int.reduceSub, Int.reduceMul, Int.reduceNeg, Nat.reduceEqDiff, or_true, true_or, true_implies, false_implies, Int.reduceLT, Int.reduceLE, Int.reduceEq]
    exact ih (s + 1) (by omega) (by omega)
-- the reference's
theorem trr_n {t c : Int} (ht : 0 ≤ t ∧ t < 3) (hn : 0 ≤ M 70 (12 + t) ∧ M 70 (12 + t) ≤ 5) (hc : 0 ≤ c ∧ c ≤ 4) (hb : ∀ j, 0 ≤ j → j < M 70 (12 + t) → 0 ≤ M 70 (15 + 5 * t + j) ∧ M 70 (15 + 5 * t + j) ≤ 4) (hf : ∀ j, 0 ≤ j → j < M 70 (12 + t) → M 70 (15 + 5 * t + j) ≠ c) {F : hp} {Q : Int → hp → Prop} {X : Nat → Int → Int → hp → Prop} (q : X 69 c (t + 1) (rh F u M)) : ∀ (k : Nat) (j : Int), j + k = M 70 (12 + t) → 0 ≤ j → mX12_trackOf_L9 X Q (k + 1) 69 c t j (rh F u M) := by
  intro k
  induction k with
  | zero =>
    intro j hj h0
    rw [mX12_trackOf_L9]
    simp (disch := first | omega | decide) only [mX12_carOn, ↓rh_rcv, ↓rh_g0, ↓rh_r70, ↓rh_w70, ↓be_y, ↓be_n, ↓bf_y, ↓bf_n, ↓bl_y, ↓bl_n, ↓bm_y, ↓bm_n, ↓bg_y, ↓bg_n, ↓bs_y, ↓bs_n, ↓bo_y, ↓bo_n, ↓bp_y, ↓bp_n, ↓forall_eq, ↓within_y, ↓within_n, ↓isIn_y, ↓isIn_n, and_true, true_and, and_self, us_at, us_ne, w32_id, um_eq, um_ne, um_um, uu_eq, uu_ne, uu_uu, vv_eq, vv_ne, vv_vv, ne_eq, not_false_eq_true, not_true_eq_false, reduceCtorEq, Int.reduceAdd, Int.reduceSub, Int.reduceMul, Int.reduceNeg, Nat.reduceEqDiff, or_true, true_or, true_implies, false_implies, Int.reduceLT, Int.reduceLE, Int.reduceEq]
    exact q
  | succ k ih =>
    intro j hj h0
    have b := hb j (by omega) (by omega)
    have ne := hf j (by omega) (by omega)
    rw [mX12_trackOf_L9]
    simp (disch := first | omega | decide) only [mX12_carOn, ↓rh_rcv, ↓rh_g0, ↓rh_r70, ↓rh_w70, ↓be_y, ↓be_n, ↓bf_y, ↓bf_n, ↓bl_y, ↓bl_n, ↓bm_y, ↓bm_n, ↓bg_y, ↓bg_n, ↓bs_y, ↓bs_n, ↓bo_y, ↓bo_n, ↓bp_y, ↓bp_n, ↓forall_eq, ↓within_y, ↓within_n, ↓isIn_y, ↓isIn_n, and_true, true_and, and_self, us_at, us_ne, w32_id, um_eq, um_ne, um_um, uu_eq, uu_ne, uu_uu, vv_eq, vv_ne, vv_vv, ne_eq, not_false_eq_true, not_true_eq_false, reduceCtorEq, Int.reduceAdd, Int.reduceSub, Int.reduceMul, Int.reduceNeg, Nat.reduceEqDiff, or_true, true_or, true_implies, false_implies, Int.reduceLT, Int.reduceLE, Int.reduceEq]
    exact ih (j + 1) (by omega) (by omega)
theorem trr_f {t c i : Int} (ht : 0 ≤ t ∧ t < 3) (hn : M 70 (12 + t) ≤ 5) (hi : 0 ≤ i ∧ i < M 70 (12 + t)) (hc : 0 ≤ c ∧ c ≤ 4) (hb : ∀ j, 0 ≤ j → j < M 70 (12 + t) → 0 ≤ M 70 (15 + 5 * t + j) ∧ M 70 (15 + 5 * t + j) ≤ 4) (e : M 70 (15 + 5 * t + i) = c) (hf : ∀ j, 0 ≤ j → j < i → M 70 (15 + 5 * t + j) ≠ c) {F : hp} {Q : Int → hp → Prop} {X : Nat → Int → Int → hp → Prop} (q : Q t (rh F u M)) : ∀ (k : Nat) (j : Int), j + k = i → 0 ≤ j → mX12_trackOf_L9 X Q (k + 1) 69 c t j (rh F u M) := by
  intro k
  induction k with
  | zero =>
    intro j hj h0
    obtain rfl : j = i := by omega
    have b := hb j (by omega) (by omega)
    rw [mX12_trackOf_L9]
    simp (disch := first | omega | decide) only [mX12_carOn, ↓rh_rcv, ↓rh_g0, ↓rh_r70, ↓rh_w70, ↓be_y, ↓be_n, ↓bf_y, ↓bf_n, ↓bl_y, ↓bl_n, ↓bm_y, ↓bm_n, ↓bg_y, ↓bg_n, ↓bs_y, ↓bs_n, ↓bo_y, ↓bo_n, ↓bp_y, ↓bp_n, ↓forall_eq, ↓within_y, ↓within_n, ↓isIn_y, ↓isIn_n, and_true, true_and, and_self, us_at, us_ne, w32_id, um_eq, um_ne, um_um, uu_eq, uu_ne, uu_uu, vv_eq, vv_ne, vv_vv, ne_eq, not_false_eq_true, not_true_eq_false, reduceCtorEq, Int.reduceAdd, Int.reduceSub, Int.reduceMul, Int.reduceNeg, Nat.reduceEqDiff, or_true, true_or, true_implies, false_implies, Int.reduceLT, Int.reduceLE, Int.reduceEq]
    exact q
  | succ k ih =>
    intro j hj h0
    have b := hb j (by omega) (by omega)
    have ne := hf j (by omega) (by omega)
    rw [mX12_trackOf_L9]
    simp (disch := first | omega | decide) only [mX12_carOn, ↓rh_rcv, ↓rh_g0, ↓rh_r70, ↓rh_w70, ↓be_y, ↓be_n, ↓bf_y, ↓bf_n, ↓bl_y, ↓bl_n, ↓bm_y, ↓bm_n, ↓bg_y, ↓bg_n, ↓bs_y, ↓bs_n, ↓bo_y, ↓bo_n, ↓bp_y, ↓bp_n, ↓forall_eq, ↓within_y, ↓within_n, ↓isIn_y, ↓isIn_n, and_true, true_and, and_self, us_at, us_ne, w32_id, um_eq, um_ne, um_um, uu_eq, uu_ne, uu_uu, vv_eq, vv_ne, vv_vv, ne_eq, not_false_eq_true, not_true_eq_false, reduceCtorEq, Int.reduceAdd, Int.reduceSub, Int.reduceMul, Int.reduceNeg, Nat.reduceEqDiff, or_true, true_or, true_implies, false_implies, Int.reduceLT, Int.reduceLE, Int.reduceEq]
    exact ih (j + 1) (by omega) (by omega)
theorem plr_f {t c i : Int} (ht : 0 ≤ t ∧ t < 3) (hn : M 70 (12 + t) ≤ 5) (hi : 0 ≤ i ∧ i < M 70 (12 + t)) (hc : 0 ≤ c ∧ c ≤ 4) (hb : ∀ j, 0 ≤ j → j < M 70 (12 + t) → 0 ≤ M 70 (15 + 5 * t + j) ∧ M 70 (15 + 5 * t + j) ≤ 4) (e : M 70 (15 + 5 * t + i) = c) (hf : ∀ j, 0 ≤ j → j < i → M 70 (15 + 5 * t + j) ≠ c) {F : hp} {Q : Int → hp → Prop} (q : Q i (rh F u M)) : ∀ (k : Nat) (j : Int), j + k = i → 0 ≤ j → mX12_placeOf_L8 Q (k + 1) 69 c t j (rh F u M) := by
  intro k
  induction k with
  | zero =>
    intro j hj h0
    obtain rfl : j = i := by omega
    have b := hb j (by omega) (by omega)
    rw [mX12_placeOf_L8]
    simp (disch := first | omega | decide) only [mX12_carOn, ↓rh_rcv, ↓rh_g0, ↓rh_r70, ↓rh_w70, ↓be_y, ↓be_n, ↓bf_y, ↓bf_n, ↓bl_y, ↓bl_n, ↓bm_y, ↓bm_n, ↓bg_y, ↓bg_n, ↓bs_y, ↓bs_n, ↓bo_y, ↓bo_n, ↓bp_y, ↓bp_n, ↓forall_eq, ↓within_y, ↓within_n, ↓isIn_y, ↓isIn_n, and_true, true_and, and_self, us_at, us_ne, w32_id, um_eq, um_ne, um_um, uu_eq, uu_ne, uu_uu, vv_eq, vv_ne, vv_vv, ne_eq, not_false_eq_true, not_true_eq_false, reduceCtorEq, Int.reduceAdd, Int.reduceSub, Int.reduceMul, Int.reduceNeg, Nat.reduceEqDiff, or_true, true_or, true_implies, false_implies, Int.reduceLT, Int.reduceLE, Int.reduceEq]
    exact q
  | succ k ih =>
    intro j hj h0
    have b := hb j (by omega) (by omega)
    have ne := hf j (by omega) (by omega)
    rw [mX12_placeOf_L8]
    simp (disch := first | omega | decide) only [mX12_carOn, ↓rh_rcv, ↓rh_g0, ↓rh_r70, ↓rh_w70, ↓be_y, ↓be_n, ↓bf_y, ↓bf_n, ↓bl_y, ↓bl_n, ↓bm_y, ↓bm_n, ↓bg_y, ↓bg_n, ↓bs_y, ↓bs_n, ↓bo_y, ↓bo_n, ↓bp_y, ↓bp_n, ↓forall_eq, ↓within_y, ↓within_n, ↓isIn_y, ↓isIn_n, and_true, true_and, and_self, us_at, us_ne, w32_id, um_eq, um_ne, um_um, uu_eq, uu_ne, uu_uu, vv_eq, vv_ne, vv_vv, ne_eq, not_false_eq_true, not_true_eq_false, reduceCtorEq, Int.reduceAdd, Int.reduceSub, Int.reduceMul, Int.reduceNeg, Nat.reduceEqDiff, or_true, true_or, true_implies, false_implies, Int.reduceLT, Int.reduceLE, Int.reduceEq]
    exact ih (j + 1) (by omega) (by omega)
theorem tro_r {t c i : Int} (hn : ∀ s, 0 ≤ s → s < 3 → 0 ≤ M 70 (12 + s) ∧ M 70 (12 + s) ≤ 5) (ht : 0 ≤ t ∧ t < 3) (hi : 0 ≤ i ∧ i < M 70 (12 + t)) (hc : 0 ≤ c ∧ c ≤ 4) (hb : ∀ s j, 0 ≤ s → s < 3 → 0 ≤ j → j < M 70 (12 + s) → 0 ≤ M 70 (15 + 5 * s + j) ∧ M 70 (15 + 5 * s + j) ≤ 4) (e : M 70 (15 + 5 * t + i) = c) (hf : ∀ j, 0 ≤ j → j < i → M 70 (15 + 5 * t + j) ≠ c) (hg : ∀ s j, 0 ≤ s → s < t → 0 ≤ j → j < M 70 (12 + s) → M 70 (15 + 5 * s + j) ≠ c) {F : hp} {Q : Int → hp → Prop} (q : Q t (rh F u M)) : ∀ (k : Nat) (s : Int), s + k = t → 0 ≤ s → mX12_trackOf_L2 Q (k + 1) 69 c s (rh F u M) := by
  intro k
  induction k with
  | zero =>
    intro s hs h0
    obtain rfl : s = t := by omega
    rw [mX12_trackOf_L2]
    simp (disch := first | omega | decide) only [w32_id, ↓rh_rcv, ↓rh_g0, ↓rh_r70, ↓rh_w70, ↓be_y, ↓be_n, ↓bf_y, ↓bf_n, ↓bl_y, ↓bl_n, ↓bm_y, ↓bm_n, ↓bg_y, ↓bg_n, ↓bs_y, ↓bs_n, ↓bo_y, ↓bo_n, ↓bp_y, ↓bp_n, ↓forall_eq, ↓within_y, ↓within_n, ↓isIn_y, ↓isIn_n, and_true, true_and, and_self, us_at, us_ne, w32_id, um_eq, um_ne, um_um, uu_eq, uu_ne, uu_uu, vv_eq, vv_ne, vv_vv, ne_eq, not_false_eq_true, not_true_eq_false, reduceCtorEq, Int.reduceAdd, Int.reduceSub, Int.reduceMul, Int.reduceNeg, Nat.reduceEqDiff, or_true, true_or, true_implies, false_implies, Int.reduceLT, Int.reduceLE, Int.reduceEq]
    exact ⟨i.toNat + 1, trr_f ht (hn s ht.1 ht.2).2 hi hc (fun j => hb s j ht.1 ht.2) e hf q i.toNat 0 (by omega) (by omega)⟩
  | succ k ih =>
    intro s hs h0
    have a := hn s (by omega) (by omega)
    rw [mX12_trackOf_L2]
    simp (disch := first | omega | decide) only [w32_id, ↓rh_rcv, ↓rh_g0, ↓rh_r70, ↓rh_w70, ↓be_y, ↓be_n, ↓bf_y, ↓bf_n, ↓bl_y, ↓bl_n, ↓bm_y, ↓bm_n, ↓bg_y, ↓bg_n, ↓bs_y, ↓bs_n, ↓bo_y, ↓bo_n, ↓bp_y, ↓bp_n, ↓forall_eq, ↓within_y, ↓within_n, ↓isIn_y, ↓isIn_n, and_true, true_and, and_self, us_at, us_ne, w32_id, um_eq, um_ne, um_um, uu_eq, uu_ne, uu_uu, vv_eq, vv_ne, vv_vv, ne_eq, not_false_eq_true, not_true_eq_false, reduceCtorEq, Int.reduceAdd, Int.reduceSub, Int.reduceMul, Int.reduceNeg, Nat.reduceEqDiff, or_true, true_or, true_implies, false_implies, Int.reduceLT, Int.reduceLE, Int.reduceEq]
    exact ⟨(M 70 (12 + s)).toNat + 1, trr_n (by omega) a hc (fun j => hb s j (by omega) (by omega)) (fun j => hg s j (by omega) (by omega)) (ih (s + 1) (by omega) (by omega)) (M 70 (12 + s)).toNat 0 (by omega) (by omega)⟩
theorem where_b (hY : jY (N 12) (M 70)) {c : Int} (hc : 0 ≤ c ∧ c < M 70 0) : ∃ t i, (0 ≤ t ∧ t < 3) ∧ (0 ≤ i ∧ i < M 70 (12 + t)) ∧ M 70 (15 + 5 * t + i) = c ∧ (∀ (F : hp) (Q : Int → hp → Prop), Q t (kh F v N T) → mX10_trackOf 11 c (kh F v N T) Q) ∧ (∀ (F : hp) (Q : Int → hp → Prop), Q i (kh F v N T) → mX10_placeOn 11 t c (kh F v N T) Q) ∧ (∀ (F : hp) (Q : Int → hp → Prop), Q t (rh F u M) → mX12_trackOf 69 c (rh F u M) Q) ∧ (∀ (F : hp) (Q : Int → hp → Prop), Q i (rh F u M) → ∃ k, mX12_placeOf_L8 Q k 69 c t 0 (rh F u M)) := by
  have k := jY_k hY
  have hcc := jY_c hY
  obtain ⟨t, i, ht, hi, e, f, g⟩ := yok_at k (c := c) (by omega)
  have hin : ∀ s, 0 ≤ s → s < 3 → ∀ j, 0 ≤ j → j < N 12 (11 + s) → 0 ≤ N 12 (14 + 5 * s + j) ∧ N 12 (14 + 5 * s + j) ≤ 4 := fun s s0 s1 j j0 j1 => by
    have a := yok_in k (t := s) (i := j) ⟨s0, s1⟩ ⟨j0, j1⟩
    omega
  have w := trk hY ht
  have e' : M 70 (15 + 5 * t + i) = c := by rw [← (w.2 i hi.1 (by omega)).1]; exact e
  have f' : ∀ j, 0 ≤ j → j < i → M 70 (15 + 5 * t + j) ≠ c := fun j h0 h1 => by rw [← (w.2 j h0 (by omega)).1]; exact f j h0 h1
  have g' : ∀ s j, 0 ≤ s → s < t → 0 ≤ j → j < M 70 (12 + s) → M 70 (15 + 5 * s + j) ≠ c := fun s j h0 h1 h2 h3 => by
    have w := trk hY (t := s) (by omega)
    rw [← (w.2 j h2 h3).1]
    exact g s j h0 h1 h2 (by omega)
  have hb' : ∀ s j, 0 ≤ s → s < 3 → 0 ≤ j → j < M 70 (12 + s) → 0 ≤ M 70 (15 + 5 * s + j) ∧ M 70 (15 + 5 * s + j) ≤ 4 := fun s j h0 h1 h2 h3 => by
    have w := (trk hY (t := s) (by omega)).2 j h2 h3
    omega
  refine ⟨t, i, ht, by omega, e', fun F Q q => ⟨t.toNat + 1, tro_c k ht hi (by omega) e f g q t.toNat 0 (by omega) (by omega)⟩, fun F Q q => ⟨i.toNat + 1, plc_f ht (by omega) hi (by omega) (hin t ht.1 ht.2) e f q i.toNat 0 (by omega) (by omega)⟩, fun F Q q => ⟨t.toNat + 1, tro_r (fun s s0 s1 => (trk hY ⟨s0, s1⟩).1.2) ht (by omega) (by omega) hb' e' f' g' q t.toNat 0 (by omega) (by omega)⟩, fun F Q q => ⟨i.toNat + 1, plr_f ht (by omega) (by omega) (by omega) (fun j => hb' t j ht.1 ht.2) e' f' q i.toNat 0 (by omega) (by omega)⟩⟩
set_option maxHeartbeats 4000000 in
theorem op_of (h1 : -2147483648 ≤ x1 ∧ x1 ≤ 2147483647) (h2 : -2147483648 ≤ x2 ∧ x2 ≤ 2147483647) : OP n (mX11_of 8 x1 x2) (mX12_of 69 x1 x2) := by
  refine op_to (fun G v N T u M h => ?_)
  obtain ⟨⟨hY, hK, hC, hF, hB, hT, hS, hD, hX, hG⟩, hI, hM, hL, hW, hH, hN⟩ := id h
  have hc := jY_c hY
  by_cases c : 0 ≤ x1 ∧ x1 < M 70 0
  · have hC1 := hC x1 (by omega) (by omega)
    have hw := (jY_d hY).2.1 x1 (by omega) (by omega)
    have hf := (jY_d hY).1.2.2.2.2.2.1
    have hf2 := (jY_d hY).2.2.2.2.2.2.2.2.2.2.1
    have tbx := tb_has (x := M 70 30) (k := x1) (by omega) (by omega) (by omega) (by omega)
    obtain ⟨t, i, ht, hi, e, g1, g2, g3, g4⟩ := where_b (v := v) (N := N) (T := T) (u := u) (M := M) hY c
    by_cases d0 : x2 = 0
    · subst d0
      refine ⟨M 70 (36 + x1), v, N, u, M, Rel_up h, fun F Q q => ?_, fun F Q q => ?_⟩
      · simp (disch := first | omega | decide) only [mX11_of, mX11_isCar, mX10_countCars, ↓kh_c8, ↓kh_g8_0, ↓kh_g8_1, ↓kh_g8_2, ↓kh_g8_3, ↓kh_g8_4, ↓kh_g8_5, ↓kh_g8_6, ↓kh_g8_7, ↓kh_c10, ↓kh_g10_0, ↓kh_g10_1, ↓kh_g10_2, ↓kh_g10_3, ↓kh_g10_4, ↓kh_g10_5, ↓kh_g10_6, ↓kh_g10_7, ↓kh_g10_8, ↓kh_g10_9, ↓kh_g10_10, ↓kh_g10_11, ↓kh_g10_12, ↓kh_p10_12, ↓kh_g10_13, ↓kh_p10_13, ↓kh_g10_14, ↓kh_p10_14, ↓kh_g10_15, ↓kh_p10_15, ↓kh_c11, ↓kh_g11_0, ↓kh_r12, ↓kh_w12, ↓kh_n12, ↓kh_r15, ↓kh_w15, ↓kh_n15, ↓kh_cp12_33, ↓kh_cp12_68, ↓kh_cp12_12, ↓kh_cp12_14, ↓kh_cp15_36, ↓be_y, ↓be_n, ↓bf_y, ↓bf_n, ↓bl_y, ↓bl_n, ↓bm_y, ↓bm_n, ↓bg_y, ↓bg_n, ↓bs_y, ↓bs_n, ↓bo_y, ↓bo_n, ↓bp_y, ↓bp_n, ↓forall_eq, ↓within_y, ↓within_n, ↓isIn_y, ↓isIn_n, and_true, true_and, and_self, us_at, us_ne, w32_id, um_eq, um_ne, um_um, uu_eq, uu_ne, uu_uu, vv_eq, vv_ne, vv_vv, ne_eq, not_false_eq_true, not_true_eq_false, reduceCtorEq, Int.reduceAdd, Int.reduceSub, Int.reduceMul, Int.reduceNeg, Nat.reduceEqDiff, or_true, true_or, true_implies, false_implies, Int.reduceLT, Int.reduceLE, Int.reduceEq, (jY_d hY).1, hC1.1.1]
        exact q
      · simp (disch := first | omega | decide) only [mX12_of, mX12_isCar, ↓rh_rcv, ↓rh_g0, ↓rh_r70, ↓rh_w70, ↓be_y, ↓be_n, ↓bf_y, ↓bf_n, ↓bl_y, ↓bl_n, ↓bm_y, ↓bm_n, ↓bg_y, ↓bg_n, ↓bs_y, ↓bs_n, ↓bo_y, ↓bo_n, ↓bp_y, ↓bp_n, ↓forall_eq, ↓within_y, ↓within_n, ↓isIn_y, ↓isIn_n, and_true, true_and, and_self, us_at, us_ne, w32_id, um_eq, um_ne, um_um, uu_eq, uu_ne, uu_uu, vv_eq, vv_ne, vv_vv, ne_eq, not_false_eq_true, not_true_eq_false, reduceCtorEq, Int.reduceAdd, Int.reduceSub, Int.reduceMul, Int.reduceNeg, Nat.reduceEqDiff, or_true, true_or, true_implies, false_implies, Int.reduceLT, Int.reduceLE, Int.reduceEq]
        exact q
    by_cases d1 : x2 = 1
    · subst d1
      refine ⟨M 70 (41 + x1), v, N, u, M, Rel_up h, fun F Q q => ?_, fun F Q q => ?_⟩
      · simp (disch := first | omega | decide) only [mX11_of, mX11_isCar, mX10_countCars, ↓kh_c8, ↓kh_g8_0, ↓kh_g8_1, ↓kh_g8_2, ↓kh_g8_3, ↓kh_g8_4, ↓kh_g8_5, ↓kh_g8_6, ↓kh_g8_7, ↓kh_c10, ↓kh_g10_0, ↓kh_g10_1, ↓kh_g10_2, ↓kh_g10_3, ↓kh_g10_4, ↓kh_g10_5, ↓kh_g10_6, ↓kh_g10_7, ↓kh_g10_8, ↓kh_g10_9, ↓kh_g10_10, ↓kh_g10_11, ↓kh_g10_12, ↓kh_p10_12, ↓kh_g10_13, ↓kh_p10_13, ↓kh_g10_14, ↓kh_p10_14, ↓kh_g10_15, ↓kh_p10_15, ↓kh_c11, ↓kh_g11_0, ↓kh_r12, ↓kh_w12, ↓kh_n12, ↓kh_r16, ↓kh_w16, ↓kh_n16, ↓kh_cp12_33, ↓kh_cp12_68, ↓kh_cp12_12, ↓kh_cp12_14, ↓kh_cp16_37, ↓be_y, ↓be_n, ↓bf_y, ↓bf_n, ↓bl_y, ↓bl_n, ↓bm_y, ↓bm_n, ↓bg_y, ↓bg_n, ↓bs_y, ↓bs_n, ↓bo_y, ↓bo_n, ↓bp_y, ↓bp_n, ↓forall_eq, ↓within_y, ↓within_n, ↓isIn_y, ↓isIn_n, and_true, true_and, and_self, us_at, us_ne, w32_id, um_eq, um_ne, um_um, uu_eq, uu_ne, uu_uu, vv_eq, vv_ne, vv_vv, ne_eq, not_false_eq_true, not_true_eq_false, reduceCtorEq, Int.reduceAdd, Int.reduceSub, Int.reduceMul, Int.reduceNeg, Nat.reduceEqDiff, or_true, true_or, true_implies, false_implies, Int.reduceLT, Int.reduceLE, Int.reduceEq, (jY_d hY).1, hC1.2.1.1]
        exact q
      · simp (disch := first | omega | decide) only [mX12_of, mX12_isCar, ↓rh_rcv, ↓rh_g0, ↓rh_r70, ↓rh_w70, ↓be_y, ↓be_n, ↓bf_y, ↓bf_n, ↓bl_y, ↓bl_n, ↓bm_y, ↓bm_n, ↓bg_y, ↓bg_n, ↓bs_y, ↓bs_n, ↓bo_y, ↓bo_n, ↓bp_y, ↓bp_n, ↓forall_eq, ↓within_y, ↓within_n, ↓isIn_y, ↓isIn_n, and_true, true_and, and_self, us_at, us_ne, w32_id, um_eq, um_ne, um_um, uu_eq, uu_ne, uu_uu, vv_eq, vv_ne, vv_vv, ne_eq, not_false_eq_true, not_true_eq_false, reduceCtorEq, Int.reduceAdd, Int.reduceSub, Int.reduceMul, Int.reduceNeg, Nat.reduceEqDiff, or_true, true_or, true_implies, false_implies, Int.reduceLT, Int.reduceLE, Int.reduceEq]
        exact q
    by_cases d2 : x2 = 2
    · subst d2
      refine ⟨t, v, N, u, M, Rel_up h, fun F Q q => ?_, fun F Q q => ?_⟩
      · simp (disch := first | omega | decide) only [mX11_of, mX11_isCar, mX10_countCars, ↓kh_c8, ↓kh_g8_0, ↓kh_g8_1, ↓kh_g8_2, ↓kh_g8_3, ↓kh_g8_4, ↓kh_g8_5, ↓kh_g8_6, ↓kh_g8_7, ↓kh_c10, ↓kh_g10_0, ↓kh_g10_1, ↓kh_g10_2, ↓kh_g10_3, ↓kh_g10_4, ↓kh_g10_5, ↓kh_g10_6, ↓kh_g10_7, ↓kh_g10_8, ↓kh_g10_9, ↓kh_g10_10, ↓kh_g10_11, ↓kh_g10_12, ↓kh_p10_12, ↓kh_g10_13, ↓kh_p10_13, ↓kh_g10_14, ↓kh_p10_14, ↓kh_g10_15, ↓kh_p10_15, ↓kh_c11, ↓kh_g11_0, ↓kh_r12, ↓kh_w12, ↓kh_n12, ↓kh_cp12_33, ↓kh_cp12_68, ↓kh_cp12_12, ↓kh_cp12_14, ↓be_y, ↓be_n, ↓bf_y, ↓bf_n, ↓bl_y, ↓bl_n, ↓bm_y, ↓bm_n, ↓bg_y, ↓bg_n, ↓bs_y, ↓bs_n, ↓bo_y, ↓bo_n, ↓bp_y, ↓bp_n, ↓forall_eq, ↓within_y, ↓within_n, ↓isIn_y, ↓isIn_n, and_true, true_and, and_self, us_at, us_ne, w32_id, um_eq, um_ne, um_um, uu_eq, uu_ne, uu_uu, vv_eq, vv_ne, vv_vv, ne_eq, not_false_eq_true, not_true_eq_false, reduceCtorEq, Int.reduceAdd, Int.reduceSub, Int.reduceMul, Int.reduceNeg, Nat.reduceEqDiff, or_true, true_or, true_implies, false_implies, Int.reduceLT, Int.reduceLE, Int.reduceEq, (jY_d hY).1]
        exact g1 _ _ q
      · simp (disch := first | omega | decide) only [mX12_of, mX12_isCar, ↓rh_rcv, ↓rh_g0, ↓rh_r70, ↓rh_w70, ↓be_y, ↓be_n, ↓bf_y, ↓bf_n, ↓bl_y, ↓bl_n, ↓bm_y, ↓bm_n, ↓bg_y, ↓bg_n, ↓bs_y, ↓bs_n, ↓bo_y, ↓bo_n, ↓bp_y, ↓bp_n, ↓forall_eq, ↓within_y, ↓within_n, ↓isIn_y, ↓isIn_n, and_true, true_and, and_self, us_at, us_ne, w32_id, um_eq, um_ne, um_um, uu_eq, uu_ne, uu_uu, vv_eq, vv_ne, vv_vv, ne_eq, not_false_eq_true, not_true_eq_false, reduceCtorEq, Int.reduceAdd, Int.reduceSub, Int.reduceMul, Int.reduceNeg, Nat.reduceEqDiff, or_true, true_or, true_implies, false_implies, Int.reduceLT, Int.reduceLE, Int.reduceEq]
        exact g3 _ _ q
    by_cases d3 : x2 = 3
    · subst d3
      refine ⟨i, v, N, u, M, Rel_up h, fun F Q q => ?_, fun F Q q => ?_⟩
      · simp (disch := first | omega | decide) only [mX11_of, mX11_isCar, mX10_countCars, mX10_placeOf, ↓kh_c8, ↓kh_g8_0, ↓kh_g8_1, ↓kh_g8_2, ↓kh_g8_3, ↓kh_g8_4, ↓kh_g8_5, ↓kh_g8_6, ↓kh_g8_7, ↓kh_c10, ↓kh_g10_0, ↓kh_g10_1, ↓kh_g10_2, ↓kh_g10_3, ↓kh_g10_4, ↓kh_g10_5, ↓kh_g10_6, ↓kh_g10_7, ↓kh_g10_8, ↓kh_g10_9, ↓kh_g10_10, ↓kh_g10_11, ↓kh_g10_12, ↓kh_p10_12, ↓kh_g10_13, ↓kh_p10_13, ↓kh_g10_14, ↓kh_p10_14, ↓kh_g10_15, ↓kh_p10_15, ↓kh_c11, ↓kh_g11_0, ↓kh_r12, ↓kh_w12, ↓kh_n12, ↓kh_cp12_33, ↓kh_cp12_68, ↓kh_cp12_12, ↓kh_cp12_14, ↓be_y, ↓be_n, ↓bf_y, ↓bf_n, ↓bl_y, ↓bl_n, ↓bm_y, ↓bm_n, ↓bg_y, ↓bg_n, ↓bs_y, ↓bs_n, ↓bo_y, ↓bo_n, ↓bp_y, ↓bp_n, ↓forall_eq, ↓within_y, ↓within_n, ↓isIn_y, ↓isIn_n, and_true, true_and, and_self, us_at, us_ne, w32_id, um_eq, um_ne, um_um, uu_eq, uu_ne, uu_uu, vv_eq, vv_ne, vv_vv, ne_eq, not_false_eq_true, not_true_eq_false, reduceCtorEq, Int.reduceAdd, Int.reduceSub, Int.reduceMul, Int.reduceNeg, Nat.reduceEqDiff, or_true, true_or, true_implies, false_implies, Int.reduceLT, Int.reduceLE, Int.reduceEq, (jY_d hY).1]
        refine g1 _ _ ?_
        simp (disch := first | omega | decide) only [w32_id, ↓kh_c11, ↓kh_g11_0, ↓kh_r12, ↓kh_w12, ↓kh_n12, ↓kh_cp12_33, ↓kh_cp12_68, ↓kh_cp12_12, ↓kh_cp12_14, ↓be_y, ↓be_n, ↓bf_y, ↓bf_n, ↓bl_y, ↓bl_n, ↓bm_y, ↓bm_n, ↓bg_y, ↓bg_n, ↓bs_y, ↓bs_n, ↓bo_y, ↓bo_n, ↓bp_y, ↓bp_n, ↓forall_eq, ↓within_y, ↓within_n, ↓isIn_y, ↓isIn_n, and_true, true_and, and_self, us_at, us_ne, w32_id, um_eq, um_ne, um_um, uu_eq, uu_ne, uu_uu, vv_eq, vv_ne, vv_vv, ne_eq, not_false_eq_true, not_true_eq_false, reduceCtorEq, Int.reduceAdd, Int.reduceSub, Int.reduceMul, Int.reduceNeg, Nat.reduceEqDiff, or_true, true_or, true_implies, false_implies, Int.reduceLT, Int.reduceLE, Int.reduceEq]
        exact g2 _ _ q
      · simp (disch := first | omega | decide) only [mX12_of, mX12_isCar, mX12_placeOf, ↓rh_rcv, ↓rh_g0, ↓rh_r70, ↓rh_w70, ↓be_y, ↓be_n, ↓bf_y, ↓bf_n, ↓bl_y, ↓bl_n, ↓bm_y, ↓bm_n, ↓bg_y, ↓bg_n, ↓bs_y, ↓bs_n, ↓bo_y, ↓bo_n, ↓bp_y, ↓bp_n, ↓forall_eq, ↓within_y, ↓within_n, ↓isIn_y, ↓isIn_n, and_true, true_and, and_self, us_at, us_ne, w32_id, um_eq, um_ne, um_um, uu_eq, uu_ne, uu_uu, vv_eq, vv_ne, vv_vv, ne_eq, not_false_eq_true, not_true_eq_false, reduceCtorEq, Int.reduceAdd, Int.reduceSub, Int.reduceMul, Int.reduceNeg, Nat.reduceEqDiff, or_true, true_or, true_implies, false_implies, Int.reduceLT, Int.reduceLE, Int.reduceEq]
        refine g3 _ _ ?_
        exact g4 _ _ q
    by_cases d4 : x2 = 4
    · subst d4
      refine ⟨if tb (M 70 30) x1 then 1 else 0, v, N, u, M, Rel_up h, fun F Q q => ?_, fun F Q q => ?_⟩
      · simp (disch := first | omega | decide) only [mX11_of, mX11_isCar, mX10_countCars, mX10_isWide, ↓kh_c8, ↓kh_g8_0, ↓kh_g8_1, ↓kh_g8_2, ↓kh_g8_3, ↓kh_g8_4, ↓kh_g8_5, ↓kh_g8_6, ↓kh_g8_7, ↓kh_c10, ↓kh_g10_0, ↓kh_g10_1, ↓kh_g10_2, ↓kh_g10_3, ↓kh_g10_4, ↓kh_g10_5, ↓kh_g10_6, ↓kh_g10_7, ↓kh_g10_8, ↓kh_g10_9, ↓kh_g10_10, ↓kh_g10_11, ↓kh_g10_12, ↓kh_p10_12, ↓kh_g10_13, ↓kh_p10_13, ↓kh_g10_14, ↓kh_p10_14, ↓kh_g10_15, ↓kh_p10_15, ↓kh_c11, ↓kh_g11_0, ↓kh_r12, ↓kh_w12, ↓kh_n12, ↓kh_cp12_33, ↓kh_cp12_68, ↓kh_cp12_12, ↓kh_cp12_14, ↓be_y, ↓be_n, ↓bf_y, ↓bf_n, ↓bl_y, ↓bl_n, ↓bm_y, ↓bm_n, ↓bg_y, ↓bg_n, ↓bs_y, ↓bs_n, ↓bo_y, ↓bo_n, ↓bp_y, ↓bp_n, ↓forall_eq, ↓within_y, ↓within_n, ↓isIn_y, ↓isIn_n, and_true, true_and, and_self, us_at, us_ne, w32_id, um_eq, um_ne, um_um, uu_eq, uu_ne, uu_uu, vv_eq, vv_ne, vv_vv, ne_eq, not_false_eq_true, not_true_eq_false, reduceCtorEq, Int.reduceAdd, Int.reduceSub, Int.reduceMul, Int.reduceNeg, Nat.reduceEqDiff, or_true, true_or, true_implies, false_implies, Int.reduceLT, Int.reduceLE, Int.reduceEq, (jY_d hY).1, tbx]
        cases hh : tb (M 70 30) x1 <;> simp [hh, w32_id] at q ⊢ <;> exact q
      · simp (disch := first | omega | decide) only [mX12_of, mX12_isCar, mX12_isWide, ↓rh_rcv, ↓rh_g0, ↓rh_r70, ↓rh_w70, ↓be_y, ↓be_n, ↓bf_y, ↓bf_n, ↓bl_y, ↓bl_n, ↓bm_y, ↓bm_n, ↓bg_y, ↓bg_n, ↓bs_y, ↓bs_n, ↓bo_y, ↓bo_n, ↓bp_y, ↓bp_n, ↓forall_eq, ↓within_y, ↓within_n, ↓isIn_y, ↓isIn_n, and_true, true_and, and_self, us_at, us_ne, w32_id, um_eq, um_ne, um_um, uu_eq, uu_ne, uu_uu, vv_eq, vv_ne, vv_vv, ne_eq, not_false_eq_true, not_true_eq_false, reduceCtorEq, Int.reduceAdd, Int.reduceSub, Int.reduceMul, Int.reduceNeg, Nat.reduceEqDiff, or_true, true_or, true_implies, false_implies, Int.reduceLT, Int.reduceLE, Int.reduceEq, tbx]
        exact q
    by_cases d5 : x2 = 5
    · subst d5
      refine ⟨M 70 (31 + x1), v, N, u, M, Rel_up h, fun F Q q => ?_, fun F Q q => ?_⟩
      · simp (disch := first | omega | decide) only [mX11_of, mX11_isCar, mX10_countCars, mX10_wornOf, ↓kh_c8, ↓kh_g8_0, ↓kh_g8_1, ↓kh_g8_2, ↓kh_g8_3, ↓kh_g8_4, ↓kh_g8_5, ↓kh_g8_6, ↓kh_g8_7, ↓kh_c10, ↓kh_g10_0, ↓kh_g10_1, ↓kh_g10_2, ↓kh_g10_3, ↓kh_g10_4, ↓kh_g10_5, ↓kh_g10_6, ↓kh_g10_7, ↓kh_g10_8, ↓kh_g10_9, ↓kh_g10_10, ↓kh_g10_11, ↓kh_g10_12, ↓kh_p10_12, ↓kh_g10_13, ↓kh_p10_13, ↓kh_g10_14, ↓kh_p10_14, ↓kh_g10_15, ↓kh_p10_15, ↓kh_c11, ↓kh_g11_0, ↓kh_r12, ↓kh_w12, ↓kh_n12, ↓kh_cp12_33, ↓kh_cp12_68, ↓kh_cp12_12, ↓kh_cp12_14, ↓be_y, ↓be_n, ↓bf_y, ↓bf_n, ↓bl_y, ↓bl_n, ↓bm_y, ↓bm_n, ↓bg_y, ↓bg_n, ↓bs_y, ↓bs_n, ↓bo_y, ↓bo_n, ↓bp_y, ↓bp_n, ↓forall_eq, ↓within_y, ↓within_n, ↓isIn_y, ↓isIn_n, and_true, true_and, and_self, us_at, us_ne, w32_id, um_eq, um_ne, um_um, uu_eq, uu_ne, uu_uu, vv_eq, vv_ne, vv_vv, ne_eq, not_false_eq_true, not_true_eq_false, reduceCtorEq, Int.reduceAdd, Int.reduceSub, Int.reduceMul, Int.reduceNeg, Nat.reduceEqDiff, or_true, true_or, true_implies, false_implies, Int.reduceLT, Int.reduceLE, Int.reduceEq, (jY_d hY).1, hw.1]
        exact q
      · simp (disch := first | omega | decide) only [mX12_of, mX12_isCar, ↓rh_rcv, ↓rh_g0, ↓rh_r70, ↓rh_w70, ↓be_y, ↓be_n, ↓bf_y, ↓bf_n, ↓bl_y, ↓bl_n, ↓bm_y, ↓bm_n, ↓bg_y, ↓bg_n, ↓bs_y, ↓bs_n, ↓bo_y, ↓bo_n, ↓bp_y, ↓bp_n, ↓forall_eq, ↓within_y, ↓within_n, ↓isIn_y, ↓isIn_n, and_true, true_and, and_self, us_at, us_ne, w32_id, um_eq, um_ne, um_um, uu_eq, uu_ne, uu_uu, vv_eq, vv_ne, vv_vv, ne_eq, not_false_eq_true, not_true_eq_false, reduceCtorEq, Int.reduceAdd, Int.reduceSub, Int.reduceMul, Int.reduceNeg, Nat.reduceEqDiff, or_true, true_or, true_implies, false_implies, Int.reduceLT, Int.reduceLE, Int.reduceEq]
        exact q
    · refine ⟨-1, v, N, u, M, Rel_up h, fun F Q q => ?_, fun F Q q => ?_⟩
      · simp (disch := first | omega | decide) only [mX11_of, mX11_isCar, mX10_countCars, ↓kh_c8, ↓kh_g8_0, ↓kh_g8_1, ↓kh_g8_2, ↓kh_g8_3, ↓kh_g8_4, ↓kh_g8_5, ↓kh_g8_6, ↓kh_g8_7, ↓kh_c10, ↓kh_g10_0, ↓kh_g10_1, ↓kh_g10_2, ↓kh_g10_3, ↓kh_g10_4, ↓kh_g10_5, ↓kh_g10_6, ↓kh_g10_7, ↓kh_g10_8, ↓kh_g10_9, ↓kh_g10_10, ↓kh_g10_11, ↓kh_g10_12, ↓kh_p10_12, ↓kh_g10_13, ↓kh_p10_13, ↓kh_g10_14, ↓kh_p10_14, ↓kh_g10_15, ↓kh_p10_15, ↓kh_c11, ↓kh_g11_0, ↓kh_r12, ↓kh_w12, ↓kh_n12, ↓kh_cp12_33, ↓kh_cp12_68, ↓kh_cp12_12, ↓kh_cp12_14, ↓be_y, ↓be_n, ↓bf_y, ↓bf_n, ↓bl_y, ↓bl_n, ↓bm_y, ↓bm_n, ↓bg_y, ↓bg_n, ↓bs_y, ↓bs_n, ↓bo_y, ↓bo_n, ↓bp_y, ↓bp_n, ↓forall_eq, ↓within_y, ↓within_n, ↓isIn_y, ↓isIn_n, and_true, true_and, and_self, us_at, us_ne, w32_id, um_eq, um_ne, um_um, uu_eq, uu_ne, uu_uu, vv_eq, vv_ne, vv_vv, ne_eq, not_false_eq_true, not_true_eq_false, reduceCtorEq, Int.reduceAdd, Int.reduceSub, Int.reduceMul, Int.reduceNeg, Nat.reduceEqDiff, or_true, true_or, true_implies, false_implies, Int.reduceLT, Int.reduceLE, Int.reduceEq, (jY_d hY).1]
        exact q
      · simp (disch := first | omega | decide) only [mX12_of, mX12_isCar, ↓rh_rcv, ↓rh_g0, ↓rh_r70, ↓rh_w70, ↓be_y, ↓be_n, ↓bf_y, ↓bf_n, ↓bl_y, ↓bl_n, ↓bm_y, ↓bm_n, ↓bg_y, ↓bg_n, ↓bs_y, ↓bs_n, ↓bo_y, ↓bo_n, ↓bp_y, ↓bp_n, ↓forall_eq, ↓within_y, ↓within_n, ↓isIn_y, ↓isIn_n, and_true, true_and, and_self, us_at, us_ne, w32_id, um_eq, um_ne, um_um, uu_eq, uu_ne, uu_uu, vv_eq, vv_ne, vv_vv, ne_eq, not_false_eq_true, not_true_eq_false, reduceCtorEq, Int.reduceAdd, Int.reduceSub, Int.reduceMul, Int.reduceNeg, Nat.reduceEqDiff, or_true, true_or, true_implies, false_implies, Int.reduceLT, Int.reduceLE, Int.reduceEq]
        exact q
  · refine ⟨-1, v, N, u, M, Rel_up h, fun F Q q => ?_, fun F Q q => ?_⟩
    · simp (disch := first | omega | decide) only [mX11_of, mX11_isCar, mX10_countCars, ↓kh_c8, ↓kh_g8_0, ↓kh_g8_1, ↓kh_g8_2, ↓kh_g8_3, ↓kh_g8_4, ↓kh_g8_5, ↓kh_g8_6, ↓kh_g8_7, ↓kh_c10, ↓kh_g10_0, ↓kh_g10_1, ↓kh_g10_2, ↓kh_g10_3, ↓kh_g10_4, ↓kh_g10_5, ↓kh_g10_6, ↓kh_g10_7, ↓kh_g10_8, ↓kh_g10_9, ↓kh_g10_10, ↓kh_g10_11, ↓kh_g10_12, ↓kh_p10_12, ↓kh_g10_13, ↓kh_p10_13, ↓kh_g10_14, ↓kh_p10_14, ↓kh_g10_15, ↓kh_p10_15, ↓kh_c11, ↓kh_g11_0, ↓kh_r12, ↓kh_w12, ↓kh_n12, ↓kh_cp12_33, ↓kh_cp12_68, ↓kh_cp12_12, ↓kh_cp12_14, ↓be_y, ↓be_n, ↓bf_y, ↓bf_n, ↓bl_y, ↓bl_n, ↓bm_y, ↓bm_n, ↓bg_y, ↓bg_n, ↓bs_y, ↓bs_n, ↓bo_y, ↓bo_n, ↓bp_y, ↓bp_n, ↓forall_eq, ↓within_y, ↓within_n, ↓isIn_y, ↓isIn_n, and_true, true_and, and_self, us_at, us_ne, w32_id, um_eq, um_ne, um_um, uu_eq, uu_ne, uu_uu, vv_eq, vv_ne, vv_vv, ne_eq, not_false_eq_true, not_true_eq_false, reduceCtorEq, Int.reduceAdd, Int.reduceSub, Int.reduceMul, Int.reduceNeg, Nat.reduceEqDiff, or_true, true_or, true_implies, false_implies, Int.reduceLT, Int.reduceLE, Int.reduceEq, (jY_d hY).1]
      exact q
    · simp (disch := first | omega | decide) only [mX12_of, mX12_isCar, ↓rh_rcv, ↓rh_g0, ↓rh_r70, ↓rh_w70, ↓be_y, ↓be_n, ↓bf_y, ↓bf_n, ↓bl_y, ↓bl_n, ↓bm_y, ↓bm_n, ↓bg_y, ↓bg_n, ↓bs_y, ↓bs_n, ↓bo_y, ↓bo_n, ↓bp_y, ↓bp_n, ↓forall_eq, ↓within_y, ↓within_n, ↓isIn_y, ↓isIn_n, and_true, true_and, and_self, us_at, us_ne, w32_id, um_eq, um_ne, um_um, uu_eq, uu_ne, uu_uu, vv_eq, vv_ne, vv_vv, ne_eq, not_false_eq_true, not_true_eq_false, reduceCtorEq, Int.reduceAdd, Int.reduceSub, Int.reduceMul, Int.reduceNeg, Nat.reduceEqDiff, or_true, true_or, true_implies, false_implies, Int.reduceLT, Int.reduceLE, Int.reduceEq]
      exact q
-- by the book
theorem ledger_b (hY : jY (N 12) (M 70)) (hx : 0 ≤ x1 ∧ x1 ≤ 2) : ∀ (k : Nat) (i a : Int), i + k = M 70 11 → 0 ≤ i → ∃ r : Int, (∀ (F : hp) (Q : Int → hp → Prop), Q r (kh F v N T) → mX11_ledger_L16 Q (k + 1) 8 x1 a i (kh F v N T)) ∧ (∀ (F : hp) (Q : Int → hp → Prop), Q r (rh F u M) → mX12_ledger_L16 Q (k + 1) 69 x1 a i (rh F u M)) := by
  obtain ⟨e, -, -, -, hb, -, -, -, -, -, -, h11⟩ := jY_d hY
  have e11 := e.2.2.2.2.2.2
  intro k
  induction k with
  | zero =>
    intro i a hi h0
    refine ⟨a, fun F Q q => ?_, fun F Q q => ?_⟩
    · rw [mX11_ledger_L16]
      simp (disch := first | omega | decide) only [mX10_countLines, ↓kh_c8, ↓kh_g8_0, ↓kh_g8_1, ↓kh_g8_2, ↓kh_g8_3, ↓kh_g8_4, ↓kh_g8_5, ↓kh_g8_6, ↓kh_g8_7, ↓kh_c10, ↓kh_g10_0, ↓kh_g10_1, ↓kh_g10_2, ↓kh_g10_3, ↓kh_g10_4, ↓kh_g10_5, ↓kh_g10_6, ↓kh_g10_7, ↓kh_g10_8, ↓kh_g10_9, ↓kh_g10_10, ↓kh_g10_11, ↓kh_g10_12, ↓kh_p10_12, ↓kh_g10_13, ↓kh_p10_13, ↓kh_g10_14, ↓kh_p10_14, ↓kh_g10_15, ↓kh_p10_15, ↓kh_c11, ↓kh_g11_0, ↓kh_r12, ↓kh_w12, ↓kh_n12, ↓kh_cp12_33, ↓kh_cp12_68, ↓kh_cp12_12, ↓kh_cp12_14, ↓be_y, ↓be_n, ↓bf_y, ↓bf_n, ↓bl_y, ↓bl_n, ↓bm_y, ↓bm_n, ↓bg_y, ↓bg_n, ↓bs_y, ↓bs_n, ↓bo_y, ↓bo_n, ↓bp_y, ↓bp_n, ↓forall_eq, ↓within_y, ↓within_n, ↓isIn_y, ↓isIn_n, and_true, true_and, and_self, us_at, us_ne, w32_id, um_eq, um_ne, um_um, uu_eq, uu_ne, uu_uu, vv_eq, vv_ne, vv_vv, ne_eq, not_false_eq_true, not_true_eq_false, reduceCtorEq, Int.reduceAdd, Int.reduceSub, Int.reduceMul, Int.reduceNeg, Nat.reduceEqDiff, or_true, true_or, true_implies, false_implies, Int.reduceLT, Int.reduceLE, Int.reduceEq, e11]
      exact q
    · rw [mX12_ledger_L16]
      simp (disch := first | omega | decide) only [w32_id, ↓rh_rcv, ↓rh_g0, ↓rh_r70, ↓rh_w70, ↓be_y, ↓be_n, ↓bf_y, ↓bf_n, ↓bl_y, ↓bl_n, ↓bm_y, ↓bm_n, ↓bg_y, ↓bg_n, ↓bs_y, ↓bs_n, ↓bo_y, ↓bo_n, ↓bp_y, ↓bp_n, ↓forall_eq, ↓within_y, ↓within_n, ↓isIn_y, ↓isIn_n, and_true, true_and, and_self, us_at, us_ne, w32_id, um_eq, um_ne, um_um, uu_eq, uu_ne, uu_uu, vv_eq, vv_ne, vv_vv, ne_eq, not_false_eq_true, not_true_eq_false, reduceCtorEq, Int.reduceAdd, Int.reduceSub, Int.reduceMul, Int.reduceNeg, Nat.reduceEqDiff, or_true, true_or, true_implies, false_implies, Int.reduceLT, Int.reduceLE, Int.reduceEq]
      exact q
  | succ k ih =>
    intro i a hi h0
    obtain ⟨b1, b2, b3⟩ := hb i (by omega) (by omega)
    have p2 := pk_2 b2 b3
    by_cases d : M 70 (1924 + i) / 3 % 3 = x1
    · obtain ⟨r, g1, g2⟩ := ih (i + 1) (a + 1) (by omega) (by omega)
      refine ⟨r, fun F Q q => ?_, fun F Q q => ?_⟩
      · rw [mX11_ledger_L16]
        simp (disch := first | omega | decide) only [mX10_countLines, mX10_lineTells, mX11_ledger_J49, ↓kh_c8, ↓kh_g8_0, ↓kh_g8_1, ↓kh_g8_2, ↓kh_g8_3, ↓kh_g8_4, ↓kh_g8_5, ↓kh_g8_6, ↓kh_g8_7, ↓kh_c10, ↓kh_g10_0, ↓kh_g10_1, ↓kh_g10_2, ↓kh_g10_3, ↓kh_g10_4, ↓kh_g10_5, ↓kh_g10_6, ↓kh_g10_7, ↓kh_g10_8, ↓kh_g10_9, ↓kh_g10_10, ↓kh_g10_11, ↓kh_g10_12, ↓kh_p10_12, ↓kh_g10_13, ↓kh_p10_13, ↓kh_g10_14, ↓kh_p10_14, ↓kh_g10_15, ↓kh_p10_15, ↓kh_c11, ↓kh_g11_0, ↓kh_r12, ↓kh_w12, ↓kh_n12, ↓kh_cp12_33, ↓kh_cp12_68, ↓kh_cp12_12, ↓kh_cp12_14, ↓be_y, ↓be_n, ↓bf_y, ↓bf_n, ↓bl_y, ↓bl_n, ↓bm_y, ↓bm_n, ↓bg_y, ↓bg_n, ↓bs_y, ↓bs_n, ↓bo_y, ↓bo_n, ↓bp_y, ↓bp_n, ↓forall_eq, ↓within_y, ↓within_n, ↓isIn_y, ↓isIn_n, and_true, true_and, and_self, us_at, us_ne, w32_id, um_eq, um_ne, um_um, uu_eq, uu_ne, uu_uu, vv_eq, vv_ne, vv_vv, ne_eq, not_false_eq_true, not_true_eq_false, reduceCtorEq, Int.reduceAdd, Int.reduceSub, Int.reduceMul, Int.reduceNeg, Nat.reduceEqDiff, or_true, true_or, true_implies, false_implies, Int.reduceLT, Int.reduceLE, Int.reduceEq, e11, b1, p2]
        exact g1 F Q q
      · rw [mX12_ledger_L16]
        simp (disch := first | omega | decide) only [mX12_entry, mX12_ledger_J43, ↓rh_rcv, ↓rh_g0, ↓rh_r70, ↓rh_w70, ↓be_y, ↓be_n, ↓bf_y, ↓bf_n, ↓bl_y, ↓bl_n, ↓bm_y, ↓bm_n, ↓bg_y, ↓bg_n, ↓bs_y, ↓bs_n, ↓bo_y, ↓bo_n, ↓bp_y, ↓bp_n, ↓forall_eq, ↓within_y, ↓within_n, ↓isIn_y, ↓isIn_n, and_true, true_and, and_self, us_at, us_ne, w32_id, um_eq, um_ne, um_um, uu_eq, uu_ne, uu_uu, vv_eq, vv_ne, vv_vv, ne_eq, not_false_eq_true, not_true_eq_false, reduceCtorEq, Int.reduceAdd, Int.reduceSub, Int.reduceMul, Int.reduceNeg, Nat.reduceEqDiff, or_true, true_or, true_implies, false_implies, Int.reduceLT, Int.reduceLE, Int.reduceEq, td, tm]
        exact g2 F Q q
    · obtain ⟨r, g1, g2⟩ := ih (i + 1) a (by omega) (by omega)
      refine ⟨r, fun F Q q => ?_, fun F Q q => ?_⟩
      · rw [mX11_ledger_L16]
        simp (disch := first | omega | decide) only [mX10_countLines, mX10_lineTells, mX11_ledger_J49, ↓kh_c8, ↓kh_g8_0, ↓kh_g8_1, ↓kh_g8_2, ↓kh_g8_3, ↓kh_g8_4, ↓kh_g8_5, ↓kh_g8_6, ↓kh_g8_7, ↓kh_c10, ↓kh_g10_0, ↓kh_g10_1, ↓kh_g10_2, ↓kh_g10_3, ↓kh_g10_4, ↓kh_g10_5, ↓kh_g10_6, ↓kh_g10_7, ↓kh_g10_8, ↓kh_g10_9, ↓kh_g10_10, ↓kh_g10_11, ↓kh_g10_12, ↓kh_p10_12, ↓kh_g10_13, ↓kh_p10_13, ↓kh_g10_14, ↓kh_p10_14, ↓kh_g10_15, ↓kh_p10_15, ↓kh_c11, ↓kh_g11_0, ↓kh_r12, ↓kh_w12, ↓kh_n12, ↓kh_cp12_33, ↓kh_cp12_68, ↓kh_cp12_12, ↓kh_cp12_14, ↓be_y, ↓be_n, ↓bf_y, ↓bf_n, ↓bl_y, ↓bl_n, ↓bm_y, ↓bm_n, ↓bg_y, ↓bg_n, ↓bs_y, ↓bs_n, ↓bo_y, ↓bo_n, ↓bp_y, ↓bp_n, ↓forall_eq, ↓within_y, ↓within_n, ↓isIn_y, ↓isIn_n, and_true, true_and, and_self, us_at, us_ne, w32_id, um_eq, um_ne, um_um, uu_eq, uu_ne, uu_uu, vv_eq, vv_ne, vv_vv, ne_eq, not_false_eq_true, not_true_eq_false, reduceCtorEq, Int.reduceAdd, Int.reduceSub, Int.reduceMul, Int.reduceNeg, Nat.reduceEqDiff, or_true, true_or, true_implies, false_implies, Int.reduceLT, Int.reduceLE, Int.reduceEq, e11, b1, p2]
        exact g1 F Q q
      · rw [mX12_ledger_L16]
        simp (disch := first | omega | decide) only [mX12_entry, mX12_ledger_J43, ↓rh_rcv, ↓rh_g0, ↓rh_r70, ↓rh_w70, ↓be_y, ↓be_n, ↓bf_y, ↓bf_n, ↓bl_y, ↓bl_n, ↓bm_y, ↓bm_n, ↓bg_y, ↓bg_n, ↓bs_y, ↓bs_n, ↓bo_y, ↓bo_n, ↓bp_y, ↓bp_n, ↓forall_eq, ↓within_y, ↓within_n, ↓isIn_y, ↓isIn_n, and_true, true_and, and_self, us_at, us_ne, w32_id, um_eq, um_ne, um_um, uu_eq, uu_ne, uu_uu, vv_eq, vv_ne, vv_vv, ne_eq, not_false_eq_true, not_true_eq_false, reduceCtorEq, Int.reduceAdd, Int.reduceSub, Int.reduceMul, Int.reduceNeg, Nat.reduceEqDiff, or_true, true_or, true_implies, false_implies, Int.reduceLT, Int.reduceLE, Int.reduceEq, td, tm, Int.add_zero]
        exact g2 F Q q
set_option maxHeartbeats 4000000 in
theorem op_ledger (h1 : -2147483648 ≤ x1 ∧ x1 ≤ 2147483647) : OP n (mX11_ledger 8 x1) (mX12_ledger 69 x1) := by
  refine op_to (fun G v N T u M h => ?_)
  obtain ⟨⟨hY, hK, hC, hF, hB, hT, hS, hD, hX, hG⟩, hI, hM, hL, hW, hH, hN⟩ := id h
  have hc := jY_c hY
  have hl := (jY_d hY).2.2.2.2.2.2.2.2.2.2.2
  by_cases c : 0 ≤ x1 ∧ x1 ≤ 2
  · obtain ⟨r, g1, g2⟩ := ledger_b (v := v) (N := N) (T := T) (u := u) (M := M) hY c (M 70 11).toNat 0 0 (by omega) (by omega)
    refine ⟨r, v, N, u, M, Rel_up h, fun F Q q => ?_, fun F Q q => ?_⟩
    · simp (disch := first | omega | decide) only [mX11_ledger, ↓kh_c8, ↓kh_g8_0, ↓kh_g8_1, ↓kh_g8_2, ↓kh_g8_3, ↓kh_g8_4, ↓kh_g8_5, ↓kh_g8_6, ↓kh_g8_7, ↓kh_c10, ↓kh_g10_0, ↓kh_g10_1, ↓kh_g10_2, ↓kh_g10_3, ↓kh_g10_4, ↓kh_g10_5, ↓kh_g10_6, ↓kh_g10_7, ↓kh_g10_8, ↓kh_g10_9, ↓kh_g10_10, ↓kh_g10_11, ↓kh_g10_12, ↓kh_p10_12, ↓kh_g10_13, ↓kh_p10_13, ↓kh_g10_14, ↓kh_p10_14, ↓kh_g10_15, ↓kh_p10_15, ↓kh_c11, ↓kh_g11_0, ↓kh_r12, ↓kh_w12, ↓kh_n12, ↓kh_cp12_33, ↓kh_cp12_68, ↓kh_cp12_12, ↓kh_cp12_14, ↓be_y, ↓be_n, ↓bf_y, ↓bf_n, ↓bl_y, ↓bl_n, ↓bm_y, ↓bm_n, ↓bg_y, ↓bg_n, ↓bs_y, ↓bs_n, ↓bo_y, ↓bo_n, ↓bp_y, ↓bp_n, ↓forall_eq, ↓within_y, ↓within_n, ↓isIn_y, ↓isIn_n, and_true, true_and, and_self, us_at, us_ne, w32_id, um_eq, um_ne, um_um, uu_eq, uu_ne, uu_uu, vv_eq, vv_ne, vv_vv, ne_eq, not_false_eq_true, not_true_eq_false, reduceCtorEq, Int.reduceAdd, Int.reduceSub, Int.reduceMul, Int.reduceNeg, Nat.reduceEqDiff, or_true, true_or, true_implies, false_implies, Int.reduceLT, Int.reduceLE, Int.reduceEq]
      exact ⟨_, g1 F Q q⟩
    · simp (disch := first | omega | decide) only [mX12_ledger, ↓rh_rcv, ↓rh_g0, ↓rh_r70, ↓rh_w70, ↓be_y, ↓be_n, ↓bf_y, ↓bf_n, ↓bl_y, ↓bl_n, ↓bm_y, ↓bm_n, ↓bg_y, ↓bg_n, ↓bs_y, ↓bs_n, ↓bo_y, ↓bo_n, ↓bp_y, ↓bp_n, ↓forall_eq, ↓within_y, ↓within_n, ↓isIn_y, ↓isIn_n, and_true, true_and, and_self, us_at, us_ne, w32_id, um_eq, um_ne, um_um, uu_eq, uu_ne, uu_uu, vv_eq, vv_ne, vv_vv, ne_eq, not_false_eq_true, not_true_eq_false, reduceCtorEq, Int.reduceAdd, Int.reduceSub, Int.reduceMul, Int.reduceNeg, Nat.reduceEqDiff, or_true, true_or, true_implies, false_implies, Int.reduceLT, Int.reduceLE, Int.reduceEq]
      exact ⟨_, g2 F Q q⟩
  · refine ⟨-2, v, N, u, M, Rel_up h, fun F Q q => ?_, fun F Q q => ?_⟩
    · by_cases d0 : 0 ≤ x1 ∧ x1 ≤ 2 <;> first | (exfalso; omega) | (simp (disch := omega) only [mX11_ledger, kh_c8, kh_g8_0, kh_g8_1, kh_g8_2, kh_g8_3, kh_g8_4, kh_g8_5, kh_g8_6, kh_g8_7, kh_c10, kh_g10_0, kh_g10_1, kh_g10_2, kh_g10_3, kh_g10_4, kh_g10_5, kh_g10_6, kh_g10_7, kh_g10_8, kh_g10_9, kh_g10_10, kh_g10_11, kh_g10_12, kh_p10_12, kh_g10_13, kh_p10_13, kh_g10_14, kh_p10_14, kh_g10_15, kh_p10_15, kh_c11, kh_g11_0, kh_r12, kh_w12, kh_n12, kh_cp12_33, kh_cp12_68, kh_cp12_12, kh_cp12_14, ↓i_pos, ↓i_neg, and_true, true_and, and_self, w32_id, us_at, us_ne, um_eq, um_ne, um_um, uu_eq, uu_ne, uu_uu, vv_eq, vv_ne, vv_vv, forall_eq, within_y, within_n, isIn_y, isIn_n, ne_eq, not_false_eq_true, not_true_eq_false, reduceCtorEq, Int.reduceAdd, Int.reduceSub, Int.reduceMul, Int.reduceNeg, Nat.reduceEqDiff, or_true, true_or, true_implies, false_implies, Int.reduceLT, Int.reduceLE, Int.reduceEq, iMax_l, iMax_r, iMin_l, iMin_r]; first | done | exact q)
    · by_cases d0 : 0 ≤ x1 ∧ x1 ≤ 2 <;> first | (exfalso; omega) | (simp (disch := omega) only [mX12_ledger, rh_rcv, rh_g0, rh_r70, rh_w70, ↓i_pos, ↓i_neg, and_true, true_and, and_self, w32_id, us_at, us_ne, um_eq, um_ne, um_um, uu_eq, uu_ne, uu_uu, vv_eq, vv_ne, vv_vv, forall_eq, within_y, within_n, isIn_y, isIn_n, ne_eq, not_false_eq_true, not_true_eq_false, reduceCtorEq, Int.reduceAdd, Int.reduceSub, Int.reduceMul, Int.reduceNeg, Nat.reduceEqDiff, or_true, true_or, true_implies, false_implies, Int.reduceLT, Int.reduceLE, Int.reduceEq, iMax_l, iMax_r, iMin_l, iMin_r]; first | done | exact q)
end Q1
