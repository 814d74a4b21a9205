-- ===== rows of the cars of a track =====
def onl (A : Int → Int) (t : Int) : List Int := tl A (15 + 5 * t) (A (12 + t))
def okl (f : Int → Int → Bool) : List Int → Bool
  | [] => true
  | a :: r => match r with
    | [] => true
    | b :: _ => !f a b && okl f r
section RW
variable {n x1 x2 : Int} {F : hp} {v : Nat → Nat → Int} {N : Nat → Int → Int} {T : Nat → Int → Option Nat} {u : Nat → Int} {M : Nat → Int → Int}
theorem pw5 {x : Int} (h : 0 ≤ x ∧ x ≤ 4) : 0 ≤ iShl 1 x ∧ iShl 1 x < ((2 ^ 5 : Nat) : Int) := by
  rw [shl_1 (by omega)]
  exact ⟨Int.natCast_nonneg _, Int.ofNat_lt.mpr (Nat.pow_lt_pow_right (a := 2) (by decide) (show x.toNat < 5 by omega))⟩
theorem pw25 {x : Int} (h : 0 ≤ x ∧ x ≤ 24) : 0 ≤ iShl 1 x ∧ iShl 1 x < ((2 ^ 25 : Nat) : Int) := by
  rw [shl_1 (by omega)]
  exact ⟨Int.natCast_nonneg _, Int.ofNat_lt.mpr (Nat.pow_lt_pow_right (a := 2) (by decide) (show x.toNat < 25 by omega))⟩
theorem con_l (hY : jY (N 12) (M 70)) {t : Int} (ht : 0 ≤ t ∧ t < 3) : ∀ (k : Nat) (i m : Int), i + k = M 70 (12 + t) → 0 ≤ i → 0 ≤ m ∧ m < ((2 ^ 5 : Nat) : Int) → (∀ c, 0 ≤ c → c ≤ 4 → tb m c = decide (c ∈ tl (M 70) (15 + 5 * t) i)) → ∃ m', (0 ≤ m' ∧ m' ≤ 31) ∧ (∀ c, 0 ≤ c → c ≤ 4 → tb m' c = decide (c ∈ onl (M 70) t)) ∧ ∀ (F : hp) (Q : Int → hp → Prop), Q m' (kh F v N T) → mX10_carsOn_L4 Q (k + 1) 11 t m i (kh F v N T) := by
  have hc := jY_c hY
  obtain ⟨w1, w2⟩ := trk hY ht
  have w3 := w1.1
  have e5 : ((2 ^ 5 : Nat) : Int) = 32 := by decide
  intro k
  induction k with
  | zero =>
    intro i m hi h0 hm hb
    obtain rfl : i = M 70 (12 + t) := by omega
    refine ⟨m, by omega, hb, fun F Q q => ?_⟩
    rw [mX10_carsOn_L4]
    simp (disch := first | omega | decide) only [mX10_countOn, ↓kh_c11, ↓kh_g11_0, ↓kh_r12, ↓kh_w12, ↓kh_n12, ↓kh_cp12_33, ↓kh_cp12_68, ↓kh_cp12_12, ↓kh_cp12_14, ↓be_y, ↓be_n, ↓bf_y, ↓bf_n, ↓bl_y, ↓bl_n, ↓bm_y, ↓bm_n, ↓bg_y, ↓bg_n, ↓bs_y, ↓bs_n, ↓bo_y, ↓bo_n, ↓bp_y, ↓bp_n, ↓forall_eq, ↓within_y, ↓within_n, ↓isIn_y, ↓isIn_n, and_true, true_and, and_self, us_at, us_ne, w32_id, um_eq, um_ne, um_um, uu_eq, uu_ne, uu_uu, vv_eq, vv_ne, vv_vv, ne_eq, not_false_eq_true, not_true_eq_false, reduceCtorEq, Int.reduceAdd, Int.reduceSub, Int.reduceMul, Int.reduceNeg, Nat.reduceEqDiff, or_true, true_or, true_implies, false_implies, Int.reduceLT, Int.reduceLE, Int.reduceEq, w3]
    exact q
  | succ k ih =>
    intro i m hi h0 hm hb
    obtain ⟨b1, b2, b3⟩ := w2 i h0 (by omega)
    have p := pw5 (x := M 70 (15 + 5 * t + i)) (by omega)
    have o := or_b 5 (by decide) hm p
    obtain ⟨m', g1, g2, g3⟩ := ih (i + 1) (iOr m (iShl 1 (M 70 (15 + 5 * t + i)))) (by omega) (by omega) o (fun c c0 c1 => by
      rw [tb_or (by omega) (by omega) c0, tb_one (by omega) c0, hb c c0 c1, tl_snoc h0, ← Bool.decide_or]
      congr 1
      rw [List.mem_append, List.mem_singleton]
      exact propext ⟨fun h => h.imp id Eq.symm, fun h => h.imp id Eq.symm⟩)
    refine ⟨m', g1, g2, fun F Q q => ?_⟩
    rw [mX10_carsOn_L4]
    simp (disch := first | omega | decide) only [mX10_countOn, mX10_carAt, ↓kh_c11, ↓kh_g11_0, ↓kh_r12, ↓kh_w12, ↓kh_n12, ↓kh_cp12_33, ↓kh_cp12_68, ↓kh_cp12_12, ↓kh_cp12_14, ↓be_y, ↓be_n, ↓bf_y, ↓bf_n, ↓bl_y, ↓bl_n, ↓bm_y, ↓bm_n, ↓bg_y, ↓bg_n, ↓bs_y, ↓bs_n, ↓bo_y, ↓bo_n, ↓bp_y, ↓bp_n, ↓forall_eq, ↓within_y, ↓within_n, ↓isIn_y, ↓isIn_n, and_true, true_and, and_self, us_at, us_ne, w32_id, um_eq, um_ne, um_um, uu_eq, uu_ne, uu_uu, vv_eq, vv_ne, vv_vv, ne_eq, not_false_eq_true, not_true_eq_false, reduceCtorEq, Int.reduceAdd, Int.reduceSub, Int.reduceMul, Int.reduceNeg, Nat.reduceEqDiff, or_true, true_or, true_implies, false_implies, Int.reduceLT, Int.reduceLE, Int.reduceEq, w3, b1]
    exact g3 F Q q
theorem con_c (hY : jY (N 12) (M 70)) {t : Int} (ht : 0 ≤ t ∧ t < 3) : ∃ m', (0 ≤ m' ∧ m' ≤ 31) ∧ (∀ c, 0 ≤ c → c ≤ 4 → tb m' c = decide (c ∈ onl (M 70) t)) ∧ ∀ (F : hp) (Q : Int → hp → Prop), Q m' (kh F v N T) → mX10_carsOn 11 t (kh F v N T) Q := by
  have w := (trk hY ht).1
  obtain ⟨m', g1, g2, g3⟩ := con_l (v := v) (T := T) hY ht (M 70 (12 + t)).toNat 0 0 (by omega) (by omega) (by decide) (fun c c0 c1 => by rw [tl_nil _ _ (by omega)]; simp [tb])
  exact ⟨m', g1, g2, fun F Q q => ⟨_, g3 F Q q⟩⟩
-- for every two cars a bit
def prs (A : Int → Int) (P c i : Int) : Prop := (0 ≤ P ∧ P < ((2 ^ 25 : Nat) : Int)) ∧ ∀ a b, 0 ≤ a → a < A 0 → 0 ≤ b → b < A 0 → (5 * a + b < 5 * c + i → tb P (5 * a + b) = !zForb A a b) ∧ (5 * c + i ≤ 5 * a + b → tb P (5 * a + b) = false)
theorem prs_i (hY : jY (N 12) (M 70)) (hC : jC (N 15) (N 16) (N 17) (N 18) (N 19) (M 70)) (hF : jF (v 10 15) (M 70)) {c : Int} (hcc : 0 ≤ c ∧ c < M 70 0) : ∀ (k : Nat) (i P : Int), i + k = M 70 0 → 0 ≤ i → prs (M 70) P c i → ∃ P', prs (M 70) P' (c + 1) 0 ∧ ∀ (F : hp) (X : Nat → Int → Int → hp → Prop) (Q : Int → hp → Prop), X 10 P' (c + 1) (kh F v N T) → mX5_pairsThatMay_L17 X Q (k + 1) 10 P c i (kh F v N T) := by
  have hc := jY_c hY
  have e4 := hc.1
  have e25 : ((2 ^ 25 : Nat) : Int) = 33554432 := by decide
  intro k
  induction k with
  | zero =>
    intro i P hi h0 hP
    refine ⟨P, ⟨hP.1, fun a b a0 a1 b0 b1 => ⟨fun g => (hP.2 a b a0 a1 b0 b1).1 (by omega), fun g => (hP.2 a b a0 a1 b0 b1).2 (by omega)⟩⟩, fun F X Q q => ?_⟩
    rw [mX5_pairsThatMay_L17]
    simp (disch := first | omega | decide) only [mX10_countCars, ↓kh_c10, ↓kh_g10_0, ↓kh_g10_1, ↓kh_g10_2, ↓kh_g10_3, ↓kh_g10_4, ↓kh_g10_5, ↓kh_g10_6, ↓kh_g10_7, ↓kh_g10_8, ↓kh_g10_9, ↓kh_g10_10, ↓kh_g10_11, ↓kh_g10_12, ↓kh_p10_12, ↓kh_g10_13, ↓kh_p10_13, ↓kh_g10_14, ↓kh_p10_14, ↓kh_g10_15, ↓kh_p10_15, ↓kh_c11, ↓kh_g11_0, ↓kh_r12, ↓kh_w12, ↓kh_n12, ↓kh_cp12_33, ↓kh_cp12_68, ↓kh_cp12_12, ↓kh_cp12_14, ↓be_y, ↓be_n, ↓bf_y, ↓bf_n, ↓bl_y, ↓bl_n, ↓bm_y, ↓bm_n, ↓bg_y, ↓bg_n, ↓bs_y, ↓bs_n, ↓bo_y, ↓bo_n, ↓bp_y, ↓bp_n, ↓forall_eq, ↓within_y, ↓within_n, ↓isIn_y, ↓isIn_n, and_true, true_and, and_self, us_at, us_ne, w32_id, um_eq, um_ne, um_um, uu_eq, uu_ne, uu_uu, vv_eq, vv_ne, vv_vv, ne_eq, not_false_eq_true, not_true_eq_false, reduceCtorEq, Int.reduceAdd, Int.reduceSub, Int.reduceMul, Int.reduceNeg, Nat.reduceEqDiff, or_true, true_or, true_implies, false_implies, Int.reduceLT, Int.reduceLE, Int.reduceEq, e4]
    exact q
  | succ k ih =>
    intro i P hi h0 hP
    have p := pw25 (x := 5 * c + i) (by omega)
    have o := or_b 25 (by decide) hP.1 p
    have hp1 := hP.1
    cases hz : zForb (M 70) c i with
    | true =>
      obtain ⟨P', g1, g2⟩ := ih (i + 1) P (by omega) (by omega) ⟨hP.1, fun a b a0 a1 b0 b1 => ⟨fun g => by
        by_cases d : 5 * a + b = 5 * c + i
        · obtain ⟨rfl, rfl⟩ : a = c ∧ b = i := by omega
          rw [(hP.2 a b a0 a1 b0 b1).2 (by omega), hz]
          rfl
        · exact (hP.2 a b a0 a1 b0 b1).1 (by omega), fun g => (hP.2 a b a0 a1 b0 b1).2 (by omega)⟩⟩
      refine ⟨P', g1, fun F X Q q => ?_⟩
      rw [mX5_pairsThatMay_L17]
      simp (disch := first | omega | decide) only [mX10_countCars, ↓kh_c10, ↓kh_g10_0, ↓kh_g10_1, ↓kh_g10_2, ↓kh_g10_3, ↓kh_g10_4, ↓kh_g10_5, ↓kh_g10_6, ↓kh_g10_7, ↓kh_g10_8, ↓kh_g10_9, ↓kh_g10_10, ↓kh_g10_11, ↓kh_g10_12, ↓kh_p10_12, ↓kh_g10_13, ↓kh_p10_13, ↓kh_g10_14, ↓kh_p10_14, ↓kh_g10_15, ↓kh_p10_15, ↓kh_c11, ↓kh_g11_0, ↓kh_r12, ↓kh_w12, ↓kh_n12, ↓kh_cp12_33, ↓kh_cp12_68, ↓kh_cp12_12, ↓kh_cp12_14, ↓be_y, ↓be_n, ↓bf_y, ↓bf_n, ↓bl_y, ↓bl_n, ↓bm_y, ↓bm_n, ↓bg_y, ↓bg_n, ↓bs_y, ↓bs_n, ↓bo_y, ↓bo_n, ↓bp_y, ↓bp_n, ↓forall_eq, ↓within_y, ↓within_n, ↓isIn_y, ↓isIn_n, and_true, true_and, and_self, us_at, us_ne, w32_id, um_eq, um_ne, um_um, uu_eq, uu_ne, uu_uu, vv_eq, vv_ne, vv_vv, ne_eq, not_false_eq_true, not_true_eq_false, reduceCtorEq, Int.reduceAdd, Int.reduceSub, Int.reduceMul, Int.reduceNeg, Nat.reduceEqDiff, or_true, true_or, true_implies, false_implies, Int.reduceLT, Int.reduceLE, Int.reduceEq, e4, msb_c hC hF, hz, if_true]
      rw [mX5_pairsThatMay_J47]
      exact g2 F X Q q
    | false =>
      obtain ⟨P', g1, g2⟩ := ih (i + 1) (iOr P (iShl 1 (5 * c + i))) (by omega) (by omega) ⟨o, fun a b a0 a1 b0 b1 => by
        rw [tb_or (by omega) (by omega) (by omega), tb_one (by omega) (by omega)]
        refine ⟨fun g => ?_, fun g => ?_⟩
        · by_cases d : 5 * a + b = 5 * c + i
          · obtain ⟨rfl, rfl⟩ : a = c ∧ b = i := by omega
            rw [hz]
            simp
          · rw [(hP.2 a b a0 a1 b0 b1).1 (by omega), decide_eq_false (by omega), Bool.or_false]
        · rw [(hP.2 a b a0 a1 b0 b1).2 (by omega), decide_eq_false (by omega)]
          rfl⟩
      refine ⟨P', g1, fun F X Q q => ?_⟩
      rw [mX5_pairsThatMay_L17]
      simp (disch := first | omega | decide) only [mX10_countCars, ↓kh_c10, ↓kh_g10_0, ↓kh_g10_1, ↓kh_g10_2, ↓kh_g10_3, ↓kh_g10_4, ↓kh_g10_5, ↓kh_g10_6, ↓kh_g10_7, ↓kh_g10_8, ↓kh_g10_9, ↓kh_g10_10, ↓kh_g10_11, ↓kh_g10_12, ↓kh_p10_12, ↓kh_g10_13, ↓kh_p10_13, ↓kh_g10_14, ↓kh_p10_14, ↓kh_g10_15, ↓kh_p10_15, ↓kh_c11, ↓kh_g11_0, ↓kh_r12, ↓kh_w12, ↓kh_n12, ↓kh_cp12_33, ↓kh_cp12_68, ↓kh_cp12_12, ↓kh_cp12_14, ↓be_y, ↓be_n, ↓bf_y, ↓bf_n, ↓bl_y, ↓bl_n, ↓bm_y, ↓bm_n, ↓bg_y, ↓bg_n, ↓bs_y, ↓bs_n, ↓bo_y, ↓bo_n, ↓bp_y, ↓bp_n, ↓forall_eq, ↓within_y, ↓within_n, ↓isIn_y, ↓isIn_n, and_true, true_and, and_self, us_at, us_ne, w32_id, um_eq, um_ne, um_um, uu_eq, uu_ne, uu_uu, vv_eq, vv_ne, vv_vv, ne_eq, not_false_eq_true, not_true_eq_false, reduceCtorEq, Int.reduceAdd, Int.reduceSub, Int.reduceMul, Int.reduceNeg, Nat.reduceEqDiff, or_true, true_or, true_implies, false_implies, Int.reduceLT, Int.reduceLE, Int.reduceEq, e4, msb_c hC hF, hz, if_false, Bool.false_eq_true]
      rw [mX5_pairsThatMay_J47]
      exact g2 F X Q q
theorem prs_o (hY : jY (N 12) (M 70)) (hC : jC (N 15) (N 16) (N 17) (N 18) (N 19) (M 70)) (hF : jF (v 10 15) (M 70)) : ∀ (k : Nat) (c P : Int), c + k = M 70 0 → 0 ≤ c → prs (M 70) P c 0 → ∃ P', prs (M 70) P' (M 70 0) 0 ∧ ∀ (F : hp) (Q : Int → hp → Prop), Q P' (kh F v N T) → mX5_pairsThatMay_L4 Q (k + 1) 10 P c (kh F v N T) := by
  have hc := jY_c hY
  have e4 := hc.1
  intro k
  induction k with
  | zero =>
    intro c P hk h0 hP
    obtain rfl : c = M 70 0 := by omega
    refine ⟨P, hP, fun F Q q => ?_⟩
    rw [mX5_pairsThatMay_L4]
    simp (disch := first | omega | decide) only [mX10_countCars, ↓kh_c10, ↓kh_g10_0, ↓kh_g10_1, ↓kh_g10_2, ↓kh_g10_3, ↓kh_g10_4, ↓kh_g10_5, ↓kh_g10_6, ↓kh_g10_7, ↓kh_g10_8, ↓kh_g10_9, ↓kh_g10_10, ↓kh_g10_11, ↓kh_g10_12, ↓kh_p10_12, ↓kh_g10_13, ↓kh_p10_13, ↓kh_g10_14, ↓kh_p10_14, ↓kh_g10_15, ↓kh_p10_15, ↓kh_c11, ↓kh_g11_0, ↓kh_r12, ↓kh_w12, ↓kh_n12, ↓kh_cp12_33, ↓kh_cp12_68, ↓kh_cp12_12, ↓kh_cp12_14, ↓be_y, ↓be_n, ↓bf_y, ↓bf_n, ↓bl_y, ↓bl_n, ↓bm_y, ↓bm_n, ↓bg_y, ↓bg_n, ↓bs_y, ↓bs_n, ↓bo_y, ↓bo_n, ↓bp_y, ↓bp_n, ↓forall_eq, ↓within_y, ↓within_n, ↓isIn_y, ↓isIn_n, and_true, true_and, and_self, us_at, us_ne, w32_id, um_eq, um_ne, um_um, uu_eq, uu_ne, uu_uu, vv_eq, vv_ne, vv_vv, ne_eq, not_false_eq_true, not_true_eq_false, reduceCtorEq, Int.reduceAdd, Int.reduceSub, Int.reduceMul, Int.reduceNeg, Nat.reduceEqDiff, or_true, true_or, true_implies, false_implies, Int.reduceLT, Int.reduceLE, Int.reduceEq, e4]
    exact q
  | succ k ih =>
    intro c P hk h0 hP
    obtain ⟨P1, a1, a2⟩ := prs_i (v := v) (N := N) (T := T) hY hC hF (c := c) (by omega) (M 70 0).toNat 0 P (by omega) (by omega) hP
    obtain ⟨P', g1, g2⟩ := ih (c + 1) P1 (by omega) (by omega) a1
    refine ⟨P', g1, fun F Q q => ?_⟩
    rw [mX5_pairsThatMay_L4]
    simp (disch := first | omega | decide) only [mX10_countCars, ↓kh_c10, ↓kh_g10_0, ↓kh_g10_1, ↓kh_g10_2, ↓kh_g10_3, ↓kh_g10_4, ↓kh_g10_5, ↓kh_g10_6, ↓kh_g10_7, ↓kh_g10_8, ↓kh_g10_9, ↓kh_g10_10, ↓kh_g10_11, ↓kh_g10_12, ↓kh_p10_12, ↓kh_g10_13, ↓kh_p10_13, ↓kh_g10_14, ↓kh_p10_14, ↓kh_g10_15, ↓kh_p10_15, ↓kh_c11, ↓kh_g11_0, ↓kh_r12, ↓kh_w12, ↓kh_n12, ↓kh_cp12_33, ↓kh_cp12_68, ↓kh_cp12_12, ↓kh_cp12_14, ↓be_y, ↓be_n, ↓bf_y, ↓bf_n, ↓bl_y, ↓bl_n, ↓bm_y, ↓bm_n, ↓bg_y, ↓bg_n, ↓bs_y, ↓bs_n, ↓bo_y, ↓bo_n, ↓bp_y, ↓bp_n, ↓forall_eq, ↓within_y, ↓within_n, ↓isIn_y, ↓isIn_n, and_true, true_and, and_self, us_at, us_ne, w32_id, um_eq, um_ne, um_um, uu_eq, uu_ne, uu_uu, vv_eq, vv_ne, vv_vv, ne_eq, not_false_eq_true, not_true_eq_false, reduceCtorEq, Int.reduceAdd, Int.reduceSub, Int.reduceMul, Int.reduceNeg, Nat.reduceEqDiff, or_true, true_or, true_implies, false_implies, Int.reduceLT, Int.reduceLE, Int.reduceEq, e4]
    exact ⟨_, a2 _ _ _ (g2 F Q q)⟩
theorem prs_c (hY : jY (N 12) (M 70)) (hC : jC (N 15) (N 16) (N 17) (N 18) (N 19) (M 70)) (hF : jF (v 10 15) (M 70)) : ∃ P, (0 ≤ P ∧ P ≤ 33554431) ∧ (∀ a b, 0 ≤ a → a < M 70 0 → 0 ≤ b → b < M 70 0 → tb P (5 * a + b) = !zForb (M 70) a b) ∧ ∀ (F : hp) (Q : Int → hp → Prop), Q P (kh F v N T) → mX5_pairsThatMay 10 (kh F v N T) Q := by
  have hc := jY_c hY
  obtain ⟨P, g1, g2⟩ := prs_o (v := v) (N := N) (T := T) hY hC hF (M 70 0).toNat 0 0 (by omega) (by omega) ⟨by decide, fun a b a0 a1 b0 b1 => ⟨fun g => by omega, fun g => by simp [tb]⟩⟩
  have e25 : ((2 ^ 25 : Nat) : Int) = 33554432 := by decide
  exact ⟨P, by have := g1.1; omega, fun a b a0 a1 b0 b1 => (g1.2 a b a0 a1 b0 b1).1 (by omega), fun F Q q => ⟨_, g2 F Q q⟩⟩
-- may a row stand
theorem may_l {P m : Int} {R A : Int → Int} (hP : 0 ≤ P ∧ P ≤ 33554431) (hA : A 0 ≤ 5) (hpr : ∀ a b, 0 ≤ a → a < A 0 → 0 ≤ b → b < A 0 → tb P (5 * a + b) = !zForb A a b) {F : hp} {Q : Int → hp → Prop} : ∀ (L : List Int) (a i : Int), tl R (i - 1) (a :: L).length = a :: L → i + L.length = m → (∀ c ∈ a :: L, 0 ≤ c ∧ c < A 0) → 1 ≤ i ∧ m ≤ 5 → Q (if okl (zForb A) (a :: L) then 1 else 0) (kh F v (um N 63 R) T) → mX1_mayStand_L11 Q (L.length + 1) 62 P m i (kh F v (um N 63 R) T) := by
  intro L
  induction L with
  | nil =>
    intro a i h1 h2 h3 h4 q
    have h2 : i + ((0 : Nat) : Int) = m := h2
    rw [mX1_mayStand_L11]
    simp (disch := first | omega | decide) only [w32_id, ↓kh_c62, ↓kh_g62_0, ↓kh_r63, ↓kh_w63, ↓kh_n63, ↓be_y, ↓be_n, ↓bf_y, ↓bf_n, ↓bl_y, ↓bl_n, ↓bm_y, ↓bm_n, ↓bg_y, ↓bg_n, ↓bs_y, ↓bs_n, ↓bo_y, ↓bo_n, ↓bp_y, ↓bp_n, ↓forall_eq, ↓within_y, ↓within_n, ↓isIn_y, ↓isIn_n, and_true, true_and, and_self, us_at, us_ne, w32_id, um_eq, um_ne, um_um, uu_eq, uu_ne, uu_uu, vv_eq, vv_ne, vv_vv, ne_eq, not_false_eq_true, not_true_eq_false, reduceCtorEq, Int.reduceAdd, Int.reduceSub, Int.reduceMul, Int.reduceNeg, Nat.reduceEqDiff, or_true, true_or, true_implies, false_implies, Int.reduceLT, Int.reduceLE, Int.reduceEq]
    exact q
  | cons b L ih =>
    intro a i h1 h2 h3 h4 q
    rw [List.length_cons] at h1 h2
    rw [show (((b :: L).length + 1 : Nat) : Int) = ((b :: L).length : Int) + 1 by omega, tl_cons (by omega), List.cons.injEq] at h1
    obtain ⟨h1a, h1b⟩ := h1
    rw [show i - 1 + 1 = i by omega] at h1b
    have h1c := h1b
    rw [List.length_cons, show ((L.length + 1 : Nat) : Int) = (L.length : Int) + 1 by omega, tl_cons (by omega), List.cons.injEq] at h1c
    have h1d := h1c.1
    have ca := h3 a List.mem_cons_self
    have cb := h3 b (List.mem_cons_of_mem _ List.mem_cons_self)
    have hb := hpr a b ca.1 ca.2 cb.1 cb.2
    have q' : Q (if (!zForb A a b && okl (zForb A) (b :: L)) then 1 else 0) (kh F v (um N 63 R) T) := q
    rw [List.length_cons, mX1_mayStand_L11]
    cases hz : zForb A a b with
    | true =>
      rw [hz] at hb q'
      have bn := bit_n (x := P) (k := 5 * a + b) (by omega) (by omega) hb
      simp (disch := first | omega | decide) only [w32_id, ↓kh_c62, ↓kh_g62_0, ↓kh_r63, ↓kh_w63, ↓kh_n63, ↓be_y, ↓be_n, ↓bf_y, ↓bf_n, ↓bl_y, ↓bl_n, ↓bm_y, ↓bm_n, ↓bg_y, ↓bg_n, ↓bs_y, ↓bs_n, ↓bo_y, ↓bo_n, ↓bp_y, ↓bp_n, ↓forall_eq, ↓within_y, ↓within_n, ↓isIn_y, ↓isIn_n, and_true, true_and, and_self, us_at, us_ne, w32_id, um_eq, um_ne, um_um, uu_eq, uu_ne, uu_uu, vv_eq, vv_ne, vv_vv, ne_eq, not_false_eq_true, not_true_eq_false, reduceCtorEq, Int.reduceAdd, Int.reduceSub, Int.reduceMul, Int.reduceNeg, Nat.reduceEqDiff, or_true, true_or, true_implies, false_implies, Int.reduceLT, Int.reduceLE, Int.reduceEq, h1a, h1d, bn]
      exact q'
    | false =>
      rw [hz] at hb q'
      have bn := bit_y (x := P) (k := 5 * a + b) (by omega) (by omega) hb
      simp (disch := first | omega | decide) only [w32_id, ↓kh_c62, ↓kh_g62_0, ↓kh_r63, ↓kh_w63, ↓kh_n63, ↓be_y, ↓be_n, ↓bf_y, ↓bf_n, ↓bl_y, ↓bl_n, ↓bm_y, ↓bm_n, ↓bg_y, ↓bg_n, ↓bs_y, ↓bs_n, ↓bo_y, ↓bo_n, ↓bp_y, ↓bp_n, ↓forall_eq, ↓within_y, ↓within_n, ↓isIn_y, ↓isIn_n, and_true, true_and, and_self, us_at, us_ne, w32_id, um_eq, um_ne, um_um, uu_eq, uu_ne, uu_uu, vv_eq, vv_ne, vv_vv, ne_eq, not_false_eq_true, not_true_eq_false, reduceCtorEq, Int.reduceAdd, Int.reduceSub, Int.reduceMul, Int.reduceNeg, Nat.reduceEqDiff, or_true, true_or, true_implies, false_implies, Int.reduceLT, Int.reduceLE, Int.reduceEq, h1a, h1d, bn]
      exact ih b (i + 1) (by rw [show i + 1 - 1 = i by omega]; exact h1b) (by omega) (fun c hc' => h3 c (List.mem_cons_of_mem _ hc')) (by omega) q'
theorem may_c {P m o : Int} {A : Int → Int} (ho : 0 ≤ o ∧ o < 120) (hm : 0 ≤ m ∧ m ≤ 31) (hmA : ∀ c, 0 ≤ c → c ≤ 4 → tb m c = true → c < A 0) (hP : 0 ≤ P ∧ P ≤ 33554431) (hA : A 0 ≤ 5) (hpr : ∀ a b, 0 ≤ a → a < A 0 → 0 ≤ b → b < A 0 → tb P (5 * a + b) = !zForb A a b) (R : Int → Int) : ∃ R', tl R' 0 (frl o m 5).length = frl o m 5 ∧ ∀ (F : hp) (Q : Int → hp → Prop), Q (if okl (zForb A) (frl o m 5) then 1 else 0) (kh F v (um N 63 R') T) → mX1_mayStand 62 o m P (kh F v (um N 63 R) T) Q := by
  obtain ⟨R', a1, a2⟩ := fill_c (v := v) (N := N) (T := T) ho hm R
  have ll := frl_len o m 5
  refine ⟨R', a1, fun F Q q => ?_⟩
  simp (disch := first | omega | decide) only [mX1_mayStand, ↓kh_c62, ↓kh_g62_0, ↓be_y, ↓be_n, ↓bf_y, ↓bf_n, ↓bl_y, ↓bl_n, ↓bm_y, ↓bm_n, ↓bg_y, ↓bg_n, ↓bs_y, ↓bs_n, ↓bo_y, ↓bo_n, ↓bp_y, ↓bp_n, ↓forall_eq, ↓within_y, ↓within_n, ↓isIn_y, ↓isIn_n, and_true, true_and, and_self, us_at, us_ne, w32_id, um_eq, um_ne, um_um, uu_eq, uu_ne, uu_uu, vv_eq, vv_ne, vv_vv, ne_eq, not_false_eq_true, not_true_eq_false, reduceCtorEq, Int.reduceAdd, Int.reduceSub, Int.reduceMul, Int.reduceNeg, Nat.reduceEqDiff, or_true, true_or, true_implies, false_implies, Int.reduceLT, Int.reduceLE, Int.reduceEq]
  refine a2 _ _ ?_
  have mem : ∀ c ∈ frl o m 5, 0 ≤ c ∧ c < A 0 := fun c hc => by
    have a := frl_mem ho hc
    exact ⟨a.1.1, hmA c a.1.1 a.1.2 a.2⟩
  cases hL : frl o m 5 with
  | nil =>
    rw [hL] at q
    refine ⟨1, ?_⟩
    rw [mX1_mayStand_L11]
    simp (disch := first | omega | decide) only [List.length_nil, ↓kh_c62, ↓kh_g62_0, ↓kh_r63, ↓kh_w63, ↓kh_n63, ↓be_y, ↓be_n, ↓bf_y, ↓bf_n, ↓bl_y, ↓bl_n, ↓bm_y, ↓bm_n, ↓bg_y, ↓bg_n, ↓bs_y, ↓bs_n, ↓bo_y, ↓bo_n, ↓bp_y, ↓bp_n, ↓forall_eq, ↓within_y, ↓within_n, ↓isIn_y, ↓isIn_n, and_true, true_and, and_self, us_at, us_ne, w32_id, um_eq, um_ne, um_um, uu_eq, uu_ne, uu_uu, vv_eq, vv_ne, vv_vv, ne_eq, not_false_eq_true, not_true_eq_false, reduceCtorEq, Int.reduceAdd, Int.reduceSub, Int.reduceMul, Int.reduceNeg, Nat.reduceEqDiff, or_true, true_or, true_implies, false_implies, Int.reduceLT, Int.reduceLE, Int.reduceEq]
    exact q
  | cons a L =>
    rw [hL] at q a1 mem ll
    rw [List.length_cons] at ll
    exact ⟨L.length + 1, may_l hP hA hpr L a 1 a1 (by rw [List.length_cons]; omega) mem (by rw [List.length_cons]; omega) q⟩
end RW
