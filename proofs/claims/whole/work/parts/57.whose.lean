section WH
variable {n x1 x2 : Int} {G : hp} {T : Nat → Int → Option Nat} {u : Nat → Int}
theorem or4 {a i : Int} (ha : 0 ≤ a ∧ a < 16) (hi : 0 ≤ i ∧ i < 4) : iOr a 0 = a ∧ 0 ≤ iOr a (iShl 1 i) ∧ iOr a (iShl 1 i) < 16 := by
  have k : ∀ x, x < 16 → ∀ y, y < 4 → iOr ((x : Nat) : Int) 0 = ((x : Nat) : Int) ∧ 0 ≤ iOr ((x : Nat) : Int) (iShl 1 ((y : Nat) : Int)) ∧ iOr ((x : Nat) : Int) (iShl 1 ((y : Nat) : Int)) < 16 := by decide +kernel
  obtain ⟨x, rfl⟩ := Int.eq_ofNat_of_zero_le ha.1
  obtain ⟨y, rfl⟩ := Int.eq_ofNat_of_zero_le hi.1
  exact k x (by omega) y (by omega)
theorem sk_r {F : hp} {M : Nat → Int → Int} {X4 : Nat → Int → Int → hp → Prop} {Q : Int → hp → Prop} {a1 k0 : Int} (h6 : 0 ≤ M 70 6 ∧ M 70 6 ≤ 8) (q : mX12_whose_J89 X4 Q 69 k0 a1 0 (rh F u M)) : ∀ (k : Nat) (i : Int), i + k = M 70 6 → 0 ≤ i → mX12_whose_L20 X4 Q (k + 1) 69 a1 k0 0 (108 + 2 * i) (rh F u M) := by
  intro k
  induction k with
  | zero =>
    intro i hi h0
    rw [mX12_whose_L20]
    simp (disch := first | omega | decide) only [w32_id, ↓rh_rcv, ↓rh_g0, ↓rh_r70, ↓rh_w70, ↓be_y, ↓be_n, ↓bf_y, ↓bf_n, ↓bl_y, ↓bl_n, ↓bm_y, ↓bm_n, ↓bg_y, ↓bg_n, ↓bs_y, ↓bs_n, ↓bo_y, ↓bo_n, ↓bp_y, ↓bp_n, ↓forall_eq, ↓within_y, ↓within_n, ↓isIn_y, ↓isIn_n, and_true, true_and, and_self, us_at, us_ne, w32_id, um_eq, um_ne, um_um, uu_eq, uu_ne, uu_uu, vv_eq, vv_ne, vv_vv, ne_eq, not_false_eq_true, not_true_eq_false, reduceCtorEq, Int.reduceAdd, Int.reduceSub, Int.reduceMul, Int.reduceNeg, Nat.reduceEqDiff, or_true, true_or, true_implies, false_implies, Int.reduceLT, Int.reduceLE, Int.reduceEq]
    exact q
  | succ k ih =>
    intro i hi h0
    have e : 108 + 2 * i + 2 = 108 + 2 * (i + 1) := by omega
    rw [mX12_whose_L20]
    simp (disch := first | omega | decide) only [mX12_whose_J69, mX12_whose_J70, ↓rh_rcv, ↓rh_g0, ↓rh_r70, ↓rh_w70, ↓be_y, ↓be_n, ↓bf_y, ↓bf_n, ↓bl_y, ↓bl_n, ↓bm_y, ↓bm_n, ↓bg_y, ↓bg_n, ↓bs_y, ↓bs_n, ↓bo_y, ↓bo_n, ↓bp_y, ↓bp_n, ↓forall_eq, ↓within_y, ↓within_n, ↓isIn_y, ↓isIn_n, and_true, true_and, and_self, us_at, us_ne, w32_id, um_eq, um_ne, um_um, uu_eq, uu_ne, uu_uu, vv_eq, vv_ne, vv_vv, ne_eq, not_false_eq_true, not_true_eq_false, reduceCtorEq, Int.reduceAdd, Int.reduceSub, Int.reduceMul, Int.reduceNeg, Nat.reduceEqDiff, or_true, true_or, true_implies, false_implies, Int.reduceLT, Int.reduceLE, Int.reduceEq]
    rw [e]
    exact ih (i + 1) (by omega) (by omega)
theorem said_b {k0 : Int} : ∀ (k : Nat) (i : Int) (v : Nat → Nat → Int) (N : Nat → Int → Int) (M : Nat → Int → Int), Rel n G v N T u M → 0 ≤ k0 → k0 < M 70 1 → i + k = M 70 6 → 0 ≤ i → ∃ b v' N' M', (b = 0 ∨ b = 1) ∧ (Rel n G v' N' T u M' ∧ M' 70 = M 70) ∧ (∀ (F : hp) (Q : Int → hp → Prop), (∀ h, 87 ≤ h → F h = G h) → Q b (kh F v' N' T) → mX11_saysAllThatWasSaid_L10 Q (k + 1) 8 (T 27 k0) (some 25) i (kh F v N T)) ∧ (∀ (F : hp) (X4 : Nat → Int → Int → hp → Prop) (Q : Int → hp → Prop) (a1 : Int), (b = 0 → mX12_whose_J89 X4 Q 69 k0 a1 0 (rh F u M')) → (b = 1 → mX12_whose_J89 X4 Q 69 k0 a1 (iShl 1 k0) (rh F u M')) → mX12_whose_L20 X4 Q (k + 1) 69 a1 k0 1 (108 + 2 * i) (rh F u M)) := by
  intro k
  induction k with
  | zero =>
    intro i v N M h k1 k2 hi h0
    obtain ⟨d1, ⟨d2, d3⟩, d4⟩ := h.1.2.2.2.2.2.2.2.1
    refine ⟨1, v, N, M, .inr rfl, ⟨h, rfl⟩, fun F Q hF q => ?_, fun F X4 Q a1 q0 q1 => ?_⟩
    · rw [mX11_saysAllThatWasSaid_L10]
      simp (disch := first | omega | decide) only [w32_id, ↓kh_c8, ↓kh_g8_0, ↓kh_g8_1, ↓kh_g8_2, ↓kh_g8_3, ↓kh_g8_4, ↓kh_g8_5, ↓kh_g8_6, ↓kh_g8_7, ↓kh_c25, ↓kh_g25_0, ↓kh_g25_1, ↓kh_p25_1, ↓kh_g25_2, ↓kh_p25_2, ↓be_y, ↓be_n, ↓bf_y, ↓bf_n, ↓bl_y, ↓bl_n, ↓bm_y, ↓bm_n, ↓bg_y, ↓bg_n, ↓bs_y, ↓bs_n, ↓bo_y, ↓bo_n, ↓bp_y, ↓bp_n, ↓forall_eq, ↓within_y, ↓within_n, ↓isIn_y, ↓isIn_n, and_true, true_and, and_self, us_at, us_ne, w32_id, um_eq, um_ne, um_um, uu_eq, uu_ne, uu_uu, vv_eq, vv_ne, vv_vv, ne_eq, not_false_eq_true, not_true_eq_false, reduceCtorEq, Int.reduceAdd, Int.reduceSub, Int.reduceMul, Int.reduceNeg, Nat.reduceEqDiff, or_true, true_or, true_implies, false_implies, Int.reduceLT, Int.reduceLE, Int.reduceEq, d2]
      exact q
    · rw [mX12_whose_L20]
      simp (disch := first | omega | decide) only [w32_id, ↓rh_rcv, ↓rh_g0, ↓rh_r70, ↓rh_w70, ↓be_y, ↓be_n, ↓bf_y, ↓bf_n, ↓bl_y, ↓bl_n, ↓bm_y, ↓bm_n, ↓bg_y, ↓bg_n, ↓bs_y, ↓bs_n, ↓bo_y, ↓bo_n, ↓bp_y, ↓bp_n, ↓forall_eq, ↓within_y, ↓within_n, ↓isIn_y, ↓isIn_n, and_true, true_and, and_self, us_at, us_ne, w32_id, um_eq, um_ne, um_um, uu_eq, uu_ne, uu_uu, vv_eq, vv_ne, vv_vv, ne_eq, not_false_eq_true, not_true_eq_false, reduceCtorEq, Int.reduceAdd, Int.reduceSub, Int.reduceMul, Int.reduceNeg, Nat.reduceEqDiff, or_true, true_or, true_implies, false_implies, Int.reduceLT, Int.reduceLE, Int.reduceEq]
      exact q1 rfl
  | succ k ih =>
    intro i v N M h k1 k2 hi h0
    obtain ⟨d1, ⟨d2, d3⟩, d4⟩ := h.1.2.2.2.2.2.2.2.1
    obtain ⟨⟨s1, s2⟩, s3, s4⟩ := d4 i h0 (by omega)
    obtain ⟨r, v1, N1, M1, r0, b1, ⟨b2, b3, b4, b5, b6⟩, b7, b8⟩ := chg_b h (c := M 70 (108 + 2 * i)) (by omega) (k0 := k0) (by omega) (rf := T 27 k0) ⟨fun e => by omega, fun e => rfl⟩
    have s1' : N 26 (3 * i + 0) = M 70 (108 + 2 * i) := by rw [show 3 * i + 0 = 3 * i by omega]; exact s1
    have s3' : N1 26 (3 * i + 1) = M 70 (108 + 2 * i + 1) := by rw [b5]; exact s3
    have t3' : M1 70 (108 + 2 * i + 1) = M 70 (108 + 2 * i + 1) := by rw [b3]
    have cs : ∀ (F : hp) (Q : Int → hp → Prop), (∀ h, 87 ≤ h → F h = G h) → ((r = M 70 (108 + 2 * i + 1) → mX11_saysAllThatWasSaid_L10 Q (k + 1) 8 (T 27 k0) (some 25) (i + 1) (kh F v1 N1 T)) ∧ (¬ r = M 70 (108 + 2 * i + 1) → Q 0 (kh F v1 N1 T))) → mX11_saysAllThatWasSaid_L10 Q (k + 1 + 1) 8 (T 27 k0) (some 25) i (kh F v N T) := fun F Q hF q => by
      rw [mX11_saysAllThatWasSaid_L10]
      simp (disch := first | omega | decide) only [mX7_cell, ↓kh_c8, ↓kh_g8_0, ↓kh_g8_1, ↓kh_g8_2, ↓kh_g8_3, ↓kh_g8_4, ↓kh_g8_5, ↓kh_g8_6, ↓kh_g8_7, ↓kh_c9, ↓kh_g9_0, ↓kh_g9_1, ↓kh_c25, ↓kh_g25_0, ↓kh_g25_1, ↓kh_p25_1, ↓kh_g25_2, ↓kh_p25_2, ↓kh_r26, ↓kh_w26, ↓kh_n26, ↓kh_cp26_47, ↓be_y, ↓be_n, ↓bf_y, ↓bf_n, ↓bl_y, ↓bl_n, ↓bm_y, ↓bm_n, ↓bg_y, ↓bg_n, ↓bs_y, ↓bs_n, ↓bo_y, ↓bo_n, ↓bp_y, ↓bp_n, ↓forall_eq, ↓within_y, ↓within_n, ↓isIn_y, ↓isIn_n, and_true, true_and, and_self, us_at, us_ne, w32_id, um_eq, um_ne, um_um, uu_eq, uu_ne, uu_uu, vv_eq, vv_ne, vv_vv, ne_eq, not_false_eq_true, not_true_eq_false, reduceCtorEq, Int.reduceAdd, Int.reduceSub, Int.reduceMul, Int.reduceNeg, Nat.reduceEqDiff, or_true, true_or, true_implies, false_implies, Int.reduceLT, Int.reduceLE, Int.reduceEq, d2, s1']
      refine b7 F _ hF ?_
      simp (disch := first | omega | decide) only [mX7_cell, ↓kh_c8, ↓kh_g8_0, ↓kh_g8_1, ↓kh_g8_2, ↓kh_g8_3, ↓kh_g8_4, ↓kh_g8_5, ↓kh_g8_6, ↓kh_g8_7, ↓kh_c9, ↓kh_g9_0, ↓kh_g9_1, ↓kh_c25, ↓kh_g25_0, ↓kh_g25_1, ↓kh_p25_1, ↓kh_g25_2, ↓kh_p25_2, ↓kh_r26, ↓kh_w26, ↓kh_n26, ↓kh_cp26_47, ↓be_y, ↓be_n, ↓bf_y, ↓bf_n, ↓bl_y, ↓bl_n, ↓bm_y, ↓bm_n, ↓bg_y, ↓bg_n, ↓bs_y, ↓bs_n, ↓bo_y, ↓bo_n, ↓bp_y, ↓bp_n, ↓forall_eq, ↓within_y, ↓within_n, ↓isIn_y, ↓isIn_n, and_true, true_and, and_self, us_at, us_ne, w32_id, um_eq, um_ne, um_um, uu_eq, uu_ne, uu_uu, vv_eq, vv_ne, vv_vv, ne_eq, not_false_eq_true, not_true_eq_false, reduceCtorEq, Int.reduceAdd, Int.reduceSub, Int.reduceMul, Int.reduceNeg, Nat.reduceEqDiff, or_true, true_or, true_implies, false_implies, Int.reduceLT, Int.reduceLE, Int.reduceEq, s3']
      exact q
    have rs : ∀ (F : hp) (X4 : Nat → Int → Int → hp → Prop) (Q : Int → hp → Prop) (a1 : Int), ((r = M 70 (108 + 2 * i + 1) → mX12_whose_L20 X4 Q (k + 1) 69 a1 k0 1 (108 + 2 * (i + 1)) (rh F u M1)) ∧ (¬ r = M 70 (108 + 2 * i + 1) → mX12_whose_L20 X4 Q (k + 1) 69 a1 k0 0 (108 + 2 * (i + 1)) (rh F u M1))) → mX12_whose_L20 X4 Q (k + 1 + 1) 69 a1 k0 1 (108 + 2 * i) (rh F u M) := fun F X4 Q a1 q => by
      have e : 108 + 2 * i + 2 = 108 + 2 * (i + 1) := by omega
      rw [mX12_whose_L20]
      simp (disch := first | omega | decide) only [w32_id, ↓rh_rcv, ↓rh_g0, ↓rh_r70, ↓rh_w70, ↓be_y, ↓be_n, ↓bf_y, ↓bf_n, ↓bl_y, ↓bl_n, ↓bm_y, ↓bm_n, ↓bg_y, ↓bg_n, ↓bs_y, ↓bs_n, ↓bo_y, ↓bo_n, ↓bp_y, ↓bp_n, ↓forall_eq, ↓within_y, ↓within_n, ↓isIn_y, ↓isIn_n, and_true, true_and, and_self, us_at, us_ne, w32_id, um_eq, um_ne, um_um, uu_eq, uu_ne, uu_uu, vv_eq, vv_ne, vv_vv, ne_eq, not_false_eq_true, not_true_eq_false, reduceCtorEq, Int.reduceAdd, Int.reduceSub, Int.reduceMul, Int.reduceNeg, Nat.reduceEqDiff, or_true, true_or, true_implies, false_implies, Int.reduceLT, Int.reduceLE, Int.reduceEq]
      refine b8 F _ ?_
      rw [← e] at q
      simp (disch := first | omega | decide) only [mX12_whose_J69, mX12_whose_J70, ↓rh_rcv, ↓rh_g0, ↓rh_r70, ↓rh_w70, ↓be_y, ↓be_n, ↓bf_y, ↓bf_n, ↓bl_y, ↓bl_n, ↓bm_y, ↓bm_n, ↓bg_y, ↓bg_n, ↓bs_y, ↓bs_n, ↓bo_y, ↓bo_n, ↓bp_y, ↓bp_n, ↓forall_eq, ↓within_y, ↓within_n, ↓isIn_y, ↓isIn_n, and_true, true_and, and_self, us_at, us_ne, w32_id, um_eq, um_ne, um_um, uu_eq, uu_ne, uu_uu, vv_eq, vv_ne, vv_vv, ne_eq, not_false_eq_true, not_true_eq_false, reduceCtorEq, Int.reduceAdd, Int.reduceSub, Int.reduceMul, Int.reduceNeg, Nat.reduceEqDiff, or_true, true_or, true_implies, false_implies, Int.reduceLT, Int.reduceLE, Int.reduceEq, t3']
      exact q
    by_cases d : r = M 70 (108 + 2 * i + 1)
    · obtain ⟨b, v', N', M', i0, ⟨i1, i2⟩, i3, i4⟩ := ih (i + 1) _ _ _ b1 k1 (by rw [b3]; exact k2) (by rw [b3]; omega) (by omega)
      refine ⟨b, v', N', M', i0, ⟨i1, by rw [i2, b3]⟩, fun F Q hF q => cs F Q hF ?_, fun F X4 Q a1 q0 q1 => rs F X4 Q a1 ?_⟩
      · rw [bp_y d]; exact i3 F Q hF q
      · rw [bp_y d]; exact i4 F X4 Q a1 q0 q1
    · refine ⟨0, v1, N1, M1, .inl rfl, ⟨b1, b3⟩, fun F Q hF q => cs F Q hF ?_, fun F X4 Q a1 q0 q1 => rs F X4 Q a1 ?_⟩
      · rw [bp_n d]; exact q
      · rw [bp_n d]
        exact sk_r (by rw [b3]; omega) (q0 rfl) k (i + 1) (by rw [b3]; omega) (by omega)
theorem who_b : ∀ (k : Nat) (i a : Int) (v : Nat → Nat → Int) (N : Nat → Int → Int) (M : Nat → Int → Int), Rel n G v N T u M → i + k = M 70 1 → 0 ≤ i → 0 ≤ a ∧ a < 16 → ∃ r v' N' M', Rel n G v' N' T u M' ∧ (∀ (F : hp) (Q : Int → hp → Prop), (∀ h, 87 ≤ h → F h = G h) → Q r (kh F v' N' T) → mX11_whose_L4 Q (k + 1) 8 a i (kh F v N T)) ∧ (∀ (F : hp) (Q : Int → hp → Prop), Q r (rh F u M') → mX12_whose_L4 Q (k + 1) 69 a i (rh F u M)) := by
  intro k
  induction k with
  | zero =>
    intro i a v N M h hi h0 ha
    have x1 := h.1.2.2.2.2.2.2.2.2.1.1
    have xe := x1.1
    refine ⟨a, v, N, M, h, fun F Q hF q => ?_, fun F Q q => ?_⟩
    · rw [mX11_whose_L4]
      simp (disch := first | omega | decide) only [w32_id, ↓kh_c8, ↓kh_g8_0, ↓kh_g8_1, ↓kh_g8_2, ↓kh_g8_3, ↓kh_g8_4, ↓kh_g8_5, ↓kh_g8_6, ↓kh_g8_7, ↓kh_c10, ↓kh_g10_0, ↓kh_g10_1, ↓kh_g10_2, ↓kh_g10_3, ↓kh_g10_4, ↓kh_g10_5, ↓kh_g10_6, ↓kh_g10_7, ↓kh_g10_8, ↓kh_g10_9, ↓kh_g10_10, ↓kh_g10_11, ↓kh_g10_12, ↓kh_p10_12, ↓kh_g10_13, ↓kh_p10_13, ↓kh_g10_14, ↓kh_p10_14, ↓kh_g10_15, ↓kh_p10_15, ↓be_y, ↓be_n, ↓bf_y, ↓bf_n, ↓bl_y, ↓bl_n, ↓bm_y, ↓bm_n, ↓bg_y, ↓bg_n, ↓bs_y, ↓bs_n, ↓bo_y, ↓bo_n, ↓bp_y, ↓bp_n, ↓forall_eq, ↓within_y, ↓within_n, ↓isIn_y, ↓isIn_n, and_true, true_and, and_self, us_at, us_ne, w32_id, um_eq, um_ne, um_um, uu_eq, uu_ne, uu_uu, vv_eq, vv_ne, vv_vv, ne_eq, not_false_eq_true, not_true_eq_false, reduceCtorEq, Int.reduceAdd, Int.reduceSub, Int.reduceMul, Int.reduceNeg, Nat.reduceEqDiff, or_true, true_or, true_implies, false_implies, Int.reduceLT, Int.reduceLE, Int.reduceEq, xe]
      exact q
    · rw [mX12_whose_L4]
      simp (disch := first | omega | decide) only [w32_id, ↓rh_rcv, ↓rh_g0, ↓rh_r70, ↓rh_w70, ↓be_y, ↓be_n, ↓bf_y, ↓bf_n, ↓bl_y, ↓bl_n, ↓bm_y, ↓bm_n, ↓bg_y, ↓bg_n, ↓bs_y, ↓bs_n, ↓bo_y, ↓bo_n, ↓bp_y, ↓bp_n, ↓forall_eq, ↓within_y, ↓within_n, ↓isIn_y, ↓isIn_n, and_true, true_and, and_self, us_at, us_ne, w32_id, um_eq, um_ne, um_um, uu_eq, uu_ne, uu_uu, vv_eq, vv_ne, vv_vv, ne_eq, not_false_eq_true, not_true_eq_false, reduceCtorEq, Int.reduceAdd, Int.reduceSub, Int.reduceMul, Int.reduceNeg, Nat.reduceEqDiff, or_true, true_or, true_implies, false_implies, Int.reduceLT, Int.reduceLE, Int.reduceEq]
      exact q
  | succ k ih =>
    intro i a v N M h hi h0 ha
    have x1 := h.1.2.2.2.2.2.2.2.2.1.1
    have xe := x1.1
    have o := or4 ha (i := i) (by omega)
    obtain ⟨d1, ⟨d2, d3⟩, d4⟩ := h.1.2.2.2.2.2.2.2.1
    obtain ⟨b, v1, N1, M1, b0, ⟨b1, b2⟩, b3, b4⟩ := said_b (k0 := i) (M 70 6).toNat 0 v N M h h0 (by omega) (by omega) (by omega)
    have cs : ∀ (F : hp) (Q : Int → hp → Prop), (∀ h, 87 ≤ h → F h = G h) → ((w32 b = 0 → mX11_whose_L4 Q (k + 1) 8 a (i + 1) (kh F v1 N1 T)) ∧ (¬ w32 b = 0 → mX11_whose_L4 Q (k + 1) 8 (iOr a (iShl 1 i)) (i + 1) (kh F v1 N1 T))) → mX11_whose_L4 Q (k + 1 + 1) 8 a i (kh F v N T) := fun F Q hF q => by
      rw [mX11_whose_L4]
      simp (disch := first | omega | decide) only [mX11_saysAllThatWasSaid, ↓kh_c8, ↓kh_g8_0, ↓kh_g8_1, ↓kh_g8_2, ↓kh_g8_3, ↓kh_g8_4, ↓kh_g8_5, ↓kh_g8_6, ↓kh_g8_7, ↓kh_c10, ↓kh_g10_0, ↓kh_g10_1, ↓kh_g10_2, ↓kh_g10_3, ↓kh_g10_4, ↓kh_g10_5, ↓kh_g10_6, ↓kh_g10_7, ↓kh_g10_8, ↓kh_g10_9, ↓kh_g10_10, ↓kh_g10_11, ↓kh_g10_12, ↓kh_p10_12, ↓kh_g10_13, ↓kh_p10_13, ↓kh_g10_14, ↓kh_p10_14, ↓kh_g10_15, ↓kh_p10_15, ↓kh_ar27, ↓kh_sr27, ↓be_y, ↓be_n, ↓bf_y, ↓bf_n, ↓bl_y, ↓bl_n, ↓bm_y, ↓bm_n, ↓bg_y, ↓bg_n, ↓bs_y, ↓bs_n, ↓bo_y, ↓bo_n, ↓bp_y, ↓bp_n, ↓forall_eq, ↓within_y, ↓within_n, ↓isIn_y, ↓isIn_n, and_true, true_and, and_self, us_at, us_ne, w32_id, um_eq, um_ne, um_um, uu_eq, uu_ne, uu_uu, vv_eq, vv_ne, vv_vv, ne_eq, not_false_eq_true, not_true_eq_false, reduceCtorEq, Int.reduceAdd, Int.reduceSub, Int.reduceMul, Int.reduceNeg, Nat.reduceEqDiff, or_true, true_or, true_implies, false_implies, Int.reduceLT, Int.reduceLE, Int.reduceEq, xe]
      refine ⟨_, b3 F _ hF ?_⟩
      simp only [mX11_whose_J37, forall_eq]
      exact q
    have rs : ∀ (F : hp) (Q : Int → hp → Prop), (b = 0 → mX12_whose_L4 Q (k + 1) 69 a (i + 1) (rh F u M1)) → (b = 1 → mX12_whose_L4 Q (k + 1) 69 (iOr a (iShl 1 i)) (i + 1) (rh F u M1)) → mX12_whose_L4 Q (k + 1 + 1) 69 a i (rh F u M) := fun F Q q0 q1 => by
      rw [mX12_whose_L4]
      simp (disch := first | omega | decide) only [w32_id, ↓rh_rcv, ↓rh_g0, ↓rh_r70, ↓rh_w70, ↓be_y, ↓be_n, ↓bf_y, ↓bf_n, ↓bl_y, ↓bl_n, ↓bm_y, ↓bm_n, ↓bg_y, ↓bg_n, ↓bs_y, ↓bs_n, ↓bo_y, ↓bo_n, ↓bp_y, ↓bp_n, ↓forall_eq, ↓within_y, ↓within_n, ↓isIn_y, ↓isIn_n, and_true, true_and, and_self, us_at, us_ne, w32_id, um_eq, um_ne, um_um, uu_eq, uu_ne, uu_uu, vv_eq, vv_ne, vv_vv, ne_eq, not_false_eq_true, not_true_eq_false, reduceCtorEq, Int.reduceAdd, Int.reduceSub, Int.reduceMul, Int.reduceNeg, Nat.reduceEqDiff, or_true, true_or, true_implies, false_implies, Int.reduceLT, Int.reduceLE, Int.reduceEq]
      refine ⟨_, b4 F _ Q a (fun e => ?_) (fun e => ?_)⟩
      · unfold mX12_whose_J89
        rw [forall_eq, o.1]
        exact q0 e
      · unfold mX12_whose_J89
        rw [forall_eq]
        exact q1 e
    rcases b0 with rfl | rfl
    · obtain ⟨r, v', N', M', i1, i2, i3⟩ := ih (i + 1) a _ _ _ b1 (by rw [b2]; omega) (by omega) ha
      refine ⟨r, v', N', M', i1, fun F Q hF q => cs F Q hF ?_, fun F Q q => rs F Q (fun _ => i3 F Q q) (fun e => by cases e)⟩
      rw [be_y (by omega)]
      exact i2 F Q hF q
    · obtain ⟨r, v', N', M', i1, i2, i3⟩ := ih (i + 1) (iOr a (iShl 1 i)) _ _ _ b1 (by rw [b2]; omega) (by omega) o.2
      refine ⟨r, v', N', M', i1, fun F Q hF q => cs F Q hF ?_, fun F Q q => rs F Q (fun e => by cases e) (fun _ => i3 F Q q)⟩
      rw [be_n (by omega)]
      exact i2 F Q hF q
theorem op_whose : OP n (mX11_whose 8) (mX12_whose 69) := by
  refine op_tg (fun G v N T u M h => ?_)
  have x1 := h.1.2.2.2.2.2.2.2.2.1.1
  obtain ⟨r, v', N', M', k1, k2, k3⟩ := who_b (M 70 1).toNat 0 0 v N M h (by omega) (by omega) (by omega)
  exact ⟨r, v', N', T, u, M', Rel_up k1, fun F Q hF q => ⟨_, k2 F Q hF q⟩, fun F Q q => ⟨_, k3 F Q q⟩⟩
end WH
