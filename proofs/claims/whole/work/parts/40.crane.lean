-- ===== the crane =====
theorem tl_cons {f : Int → Int} {b n : Int} (h : 0 ≤ n) : tl f b (n + 1) = f b :: tl f (b + 1) n := by
  obtain ⟨m, rfl⟩ := Int.eq_ofNat_of_zero_le h
  unfold tl
  rw [show ((m : Int) + 1).toNat = m + 1 by omega, List.range_succ_eq_map, List.map_cons, List.map_map, Int.toNat_natCast]
  congr 1
  · congr 1
    omega
  · apply List.map_congr_left
    intro i _
    show f (b + ((i + 1 : Nat) : Int)) = f (b + 1 + (i : Int))
    congr 1
    omega
def tml (A : Int → Int) : List Int → Int → Int → Int
  | [], _, r => r
  | c :: L, l, r => tml A L (l + A (46 + c)) ((if r < l + A (46 + c) then l + A (46 + c) else r) + A (51 + c))
theorem tml_b {A : Int → Int} (hA : ∀ c, 0 ≤ c → c < 5 → (1 ≤ A (46 + c) ∧ A (46 + c) ≤ 20) ∧ 1 ≤ A (51 + c) ∧ A (51 + c) ≤ 20) : ∀ (L : List Int) (l r i : Int), (∀ c ∈ L, 0 ≤ c ∧ c ≤ 4) → 0 ≤ l ∧ l ≤ 20 * i → 0 ≤ r ∧ r ≤ 40 * i → 0 ≤ tml A L l r ∧ tml A L l r ≤ 40 * (i + L.length) := by
  intro L
  induction L with
  | nil =>
    intro l r i _ h1 h2
    show 0 ≤ r ∧ r ≤ 40 * (i + ((0 : Nat) : Int))
    omega
  | cons c L ih =>
    intro l r i hc h1 h2
    have a := hc c List.mem_cons_self
    have b := hA c a.1 (by omega)
    rw [tml, List.length_cons]
    have g := ih (l + A (46 + c)) ((if r < l + A (46 + c) then l + A (46 + c) else r) + A (51 + c)) (i + 1) (fun c hc' => hc c (List.mem_cons_of_mem _ hc')) (by omega) (by split <;> omega)
    omega
section CR
variable {n x1 x2 : Int} {F : hp} {v : Nat → Nat → Int} {N : Nat → Int → Int} {T : Nat → Int → Option Nat} {u : Nat → Int} {M : Nat → Int → Int}
theorem jC_t (hC : jC (N 15) (N 16) (N 17) (N 18) (N 19) (M 70)) : ∀ c, 0 ≤ c → c < 5 → (1 ≤ M 70 (46 + c) ∧ M 70 (46 + c) ≤ 20) ∧ 1 ≤ M 70 (51 + c) ∧ M 70 (51 + c) ≤ 20 := fun c h0 h1 => ⟨(hC c h0 h1).2.2.1, (hC c h0 h1).2.2.2.1⟩
theorem time_c {R : Int → Int} {m : Int} (hC : jC (N 15) (N 16) (N 17) (N 18) (N 19) (M 70)) {F : hp} {Q : Int → hp → Prop} : ∀ (L : List Int) (l r i : Int), tl R i L.length = L → i + L.length = m → (∀ c ∈ L, (0 ≤ c ∧ c ≤ 4) ∧ c < M 70 0) → 0 ≤ i ∧ m ≤ 5 → 0 ≤ l ∧ l ≤ 20 * i → 0 ≤ r ∧ r ≤ 40 * i → Q (tml (M 70) L l r) (kh F v (um N 63 R) T) → mX1_timeOf_L22 Q (L.length + 1) 62 (some 10) m l r i (kh F v (um N 63 R) T) := by
  intro L
  induction L with
  | nil =>
    intro l r i h1 h2 h3 h4 h5 h6 q
    have h2 : i + ((0 : Nat) : Int) = m := h2
    rw [mX1_timeOf_L22]
    simp (disch := first | omega | decide) only [w32_id, ↓kh_c10, ↓kh_g10_0, ↓kh_g10_1, ↓kh_g10_2, ↓kh_g10_3, ↓kh_g10_4, ↓kh_g10_5, ↓kh_g10_6, ↓kh_g10_7, ↓kh_g10_8, ↓kh_g10_9, ↓kh_g10_10, ↓kh_g10_11, ↓kh_g10_12, ↓kh_p10_12, ↓kh_g10_13, ↓kh_p10_13, ↓kh_g10_14, ↓kh_p10_14, ↓kh_g10_15, ↓kh_p10_15, ↓kh_c62, ↓kh_g62_0, ↓kh_r63, ↓kh_w63, ↓kh_n63, ↓be_y, ↓be_n, ↓bf_y, ↓bf_n, ↓bl_y, ↓bl_n, ↓bm_y, ↓bm_n, ↓bg_y, ↓bg_n, ↓bs_y, ↓bs_n, ↓bo_y, ↓bo_n, ↓bp_y, ↓bp_n, ↓forall_eq, ↓within_y, ↓within_n, ↓isIn_y, ↓isIn_n, and_true, true_and, and_self, us_at, us_ne, w32_id, um_eq, um_ne, um_um, uu_eq, uu_ne, uu_uu, vv_eq, vv_ne, vv_vv, ne_eq, not_false_eq_true, not_true_eq_false, reduceCtorEq, Int.reduceAdd, Int.reduceSub, Int.reduceMul, Int.reduceNeg, Nat.reduceEqDiff, or_true, true_or, true_implies, false_implies, Int.reduceLT, Int.reduceLE, Int.reduceEq]
    exact q
  | cons c L ih =>
    intro l r i h1 h2 h3 h4 h5 h6 q
    rw [List.length_cons] at h1 h2
    rw [show ((L.length + 1 : Nat) : Int) = (L.length : Int) + 1 by omega, tl_cons (by omega), List.cons.injEq] at h1
    obtain ⟨h1a, h1b⟩ := h1
    have a := h3 c List.mem_cons_self
    have b := hC c a.1.1 (by omega)
    have b1 := b.2.2.1
    have b2 := b.2.2.2.1
    have b3 := (b.2.2.2.2.2.1 a.2).1
    have b4 := (b.2.2.2.2.2.1 a.2).2.1
    rw [tml] at q
    rw [List.length_cons, mX1_timeOf_L22]
    by_cases d : r < l + M 70 (46 + c)
    · rw [if_pos d] at q
      have mx : iMax (l + M 70 (46 + c)) r = l + M 70 (46 + c) := iMax_l (by omega)
      simp (disch := first | omega | decide) only [w32_id, ↓kh_c10, ↓kh_g10_0, ↓kh_g10_1, ↓kh_g10_2, ↓kh_g10_3, ↓kh_g10_4, ↓kh_g10_5, ↓kh_g10_6, ↓kh_g10_7, ↓kh_g10_8, ↓kh_g10_9, ↓kh_g10_10, ↓kh_g10_11, ↓kh_g10_12, ↓kh_p10_12, ↓kh_g10_13, ↓kh_p10_13, ↓kh_g10_14, ↓kh_p10_14, ↓kh_g10_15, ↓kh_p10_15, ↓kh_r17, ↓kh_w17, ↓kh_n17, ↓kh_r18, ↓kh_w18, ↓kh_n18, ↓kh_c62, ↓kh_g62_0, ↓kh_r63, ↓kh_w63, ↓kh_n63, ↓kh_cp17_38, ↓kh_cp18_39, ↓be_y, ↓be_n, ↓bf_y, ↓bf_n, ↓bl_y, ↓bl_n, ↓bm_y, ↓bm_n, ↓bg_y, ↓bg_n, ↓bs_y, ↓bs_n, ↓bo_y, ↓bo_n, ↓bp_y, ↓bp_n, ↓forall_eq, ↓within_y, ↓within_n, ↓isIn_y, ↓isIn_n, and_true, true_and, and_self, us_at, us_ne, w32_id, um_eq, um_ne, um_um, uu_eq, uu_ne, uu_uu, vv_eq, vv_ne, vv_vv, ne_eq, not_false_eq_true, not_true_eq_false, reduceCtorEq, Int.reduceAdd, Int.reduceSub, Int.reduceMul, Int.reduceNeg, Nat.reduceEqDiff, or_true, true_or, true_implies, false_implies, Int.reduceLT, Int.reduceLE, Int.reduceEq, h1a, b3, b4, mx]
      exact ih _ _ (i + 1) h1b (by omega) (fun c hc' => h3 c (List.mem_cons_of_mem _ hc')) (by omega) (by omega) (by omega) q
    · rw [if_neg d] at q
      have mx : iMax (l + M 70 (46 + c)) r = r := iMax_r (by omega)
      simp (disch := first | omega | decide) only [w32_id, ↓kh_c10, ↓kh_g10_0, ↓kh_g10_1, ↓kh_g10_2, ↓kh_g10_3, ↓kh_g10_4, ↓kh_g10_5, ↓kh_g10_6, ↓kh_g10_7, ↓kh_g10_8, ↓kh_g10_9, ↓kh_g10_10, ↓kh_g10_11, ↓kh_g10_12, ↓kh_p10_12, ↓kh_g10_13, ↓kh_p10_13, ↓kh_g10_14, ↓kh_p10_14, ↓kh_g10_15, ↓kh_p10_15, ↓kh_r17, ↓kh_w17, ↓kh_n17, ↓kh_r18, ↓kh_w18, ↓kh_n18, ↓kh_c62, ↓kh_g62_0, ↓kh_r63, ↓kh_w63, ↓kh_n63, ↓kh_cp17_38, ↓kh_cp18_39, ↓be_y, ↓be_n, ↓bf_y, ↓bf_n, ↓bl_y, ↓bl_n, ↓bm_y, ↓bm_n, ↓bg_y, ↓bg_n, ↓bs_y, ↓bs_n, ↓bo_y, ↓bo_n, ↓bp_y, ↓bp_n, ↓forall_eq, ↓within_y, ↓within_n, ↓isIn_y, ↓isIn_n, and_true, true_and, and_self, us_at, us_ne, w32_id, um_eq, um_ne, um_um, uu_eq, uu_ne, uu_uu, vv_eq, vv_ne, vv_vv, ne_eq, not_false_eq_true, not_true_eq_false, reduceCtorEq, Int.reduceAdd, Int.reduceSub, Int.reduceMul, Int.reduceNeg, Nat.reduceEqDiff, or_true, true_or, true_implies, false_implies, Int.reduceLT, Int.reduceLE, Int.reduceEq, h1a, b3, b4, mx]
      exact ih _ _ (i + 1) h1b (by omega) (fun c hc' => h3 c (List.mem_cons_of_mem _ hc')) (by omega) (by omega) (by omega) q
theorem time_r {R : Int → Int} (hC : jC (N 15) (N 16) (N 17) (N 18) (N 19) (M 70)) {F : hp} {Q : Int → hp → Prop} : ∀ (L : List Int) (l r i : Int), tl R i L.length = L → i + L.length = M 70 0 → (∀ c ∈ L, (0 ≤ c ∧ c ≤ 4) ∧ c < M 70 0) → 0 ≤ i ∧ M 70 0 ≤ 5 → 0 ≤ l ∧ l ≤ 20 * i → 0 ≤ r ∧ r ≤ 40 * i → Q (tml (M 70) L l r) (rh F u (um M 79 R)) → mX12_doneBy_L12 Q (L.length + 1) 69 l r i (rh F u (um M 79 R)) := by
  intro L
  induction L with
  | nil =>
    intro l r i h1 h2 h3 h4 h5 h6 q
    have h2 : i + ((0 : Nat) : Int) = M 70 0 := h2
    rw [mX12_doneBy_L12]
    simp (disch := first | omega | decide) only [w32_id, ↓rh_rcv, ↓rh_g0, ↓rh_g26, ↓rh_r70, ↓rh_w70, ↓rh_r79, ↓rh_w79, ↓be_y, ↓be_n, ↓bf_y, ↓bf_n, ↓bl_y, ↓bl_n, ↓bm_y, ↓bm_n, ↓bg_y, ↓bg_n, ↓bs_y, ↓bs_n, ↓bo_y, ↓bo_n, ↓bp_y, ↓bp_n, ↓forall_eq, ↓within_y, ↓within_n, ↓isIn_y, ↓isIn_n, and_true, true_and, and_self, us_at, us_ne, w32_id, um_eq, um_ne, um_um, uu_eq, uu_ne, uu_uu, vv_eq, vv_ne, vv_vv, ne_eq, not_false_eq_true, not_true_eq_false, reduceCtorEq, Int.reduceAdd, Int.reduceSub, Int.reduceMul, Int.reduceNeg, Nat.reduceEqDiff, or_true, true_or, true_implies, false_implies, Int.reduceLT, Int.reduceLE, Int.reduceEq]
    exact q
  | cons c L ih =>
    intro l r i h1 h2 h3 h4 h5 h6 q
    rw [List.length_cons] at h1 h2
    rw [show ((L.length + 1 : Nat) : Int) = (L.length : Int) + 1 by omega, tl_cons (by omega), List.cons.injEq] at h1
    obtain ⟨h1a, h1b⟩ := h1
    have a := h3 c List.mem_cons_self
    have b := hC c a.1.1 (by omega)
    have b1 := b.2.2.1
    have b2 := b.2.2.2.1
    rw [tml] at q
    rw [List.length_cons, mX12_doneBy_L12]
    by_cases d : r < l + M 70 (46 + c)
    · rw [if_pos d] at q
      simp (disch := first | omega | decide) only [mX12_doneBy_J51, ↓rh_rcv, ↓rh_g0, ↓rh_g26, ↓rh_r70, ↓rh_w70, ↓rh_r79, ↓rh_w79, ↓be_y, ↓be_n, ↓bf_y, ↓bf_n, ↓bl_y, ↓bl_n, ↓bm_y, ↓bm_n, ↓bg_y, ↓bg_n, ↓bs_y, ↓bs_n, ↓bo_y, ↓bo_n, ↓bp_y, ↓bp_n, ↓forall_eq, ↓within_y, ↓within_n, ↓isIn_y, ↓isIn_n, and_true, true_and, and_self, us_at, us_ne, w32_id, um_eq, um_ne, um_um, uu_eq, uu_ne, uu_uu, vv_eq, vv_ne, vv_vv, ne_eq, not_false_eq_true, not_true_eq_false, reduceCtorEq, Int.reduceAdd, Int.reduceSub, Int.reduceMul, Int.reduceNeg, Nat.reduceEqDiff, or_true, true_or, true_implies, false_implies, Int.reduceLT, Int.reduceLE, Int.reduceEq, h1a]
      exact ih _ _ (i + 1) h1b (by omega) (fun c hc' => h3 c (List.mem_cons_of_mem _ hc')) (by omega) (by omega) (by omega) q
    · rw [if_neg d] at q
      simp (disch := first | omega | decide) only [mX12_doneBy_J51, ↓rh_rcv, ↓rh_g0, ↓rh_g26, ↓rh_r70, ↓rh_w70, ↓rh_r79, ↓rh_w79, ↓be_y, ↓be_n, ↓bf_y, ↓bf_n, ↓bl_y, ↓bl_n, ↓bm_y, ↓bm_n, ↓bg_y, ↓bg_n, ↓bs_y, ↓bs_n, ↓bo_y, ↓bo_n, ↓bp_y, ↓bp_n, ↓forall_eq, ↓within_y, ↓within_n, ↓isIn_y, ↓isIn_n, and_true, true_and, and_self, us_at, us_ne, w32_id, um_eq, um_ne, um_um, uu_eq, uu_ne, uu_uu, vv_eq, vv_ne, vv_vv, ne_eq, not_false_eq_true, not_true_eq_false, reduceCtorEq, Int.reduceAdd, Int.reduceSub, Int.reduceMul, Int.reduceNeg, Nat.reduceEqDiff, or_true, true_or, true_implies, false_implies, Int.reduceLT, Int.reduceLE, Int.reduceEq, h1a]
      exact ih _ _ (i + 1) h1b (by omega) (fun c hc' => h3 c (List.mem_cons_of_mem _ hc')) (by omega) (by omega) (by omega) q
def tmf (A : Int → Int) (o : Int) : Int := tml A (frl o (iShl 1 (A 0) - 1) 5) 0 0
theorem frl_t {o m : Int} (ho : 0 ≤ o ∧ o < 120) (hm : 0 ≤ m ∧ m ≤ 5) : ∀ c ∈ frl o (iShl 1 m - 1) 5, (0 ≤ c ∧ c ≤ 4) ∧ c < m := fun c hc => by
  have a := frl_mem ho hc
  have b := (told_s hm).2 c a.1.1 a.1.2
  rw [b] at a
  exact ⟨a.1, of_decide_eq_true a.2⟩
theorem tmf_b {o : Int} (hC : jC (N 15) (N 16) (N 17) (N 18) (N 19) (M 70)) (hn : 0 ≤ M 70 0 ∧ M 70 0 ≤ 5) (ho : 0 ≤ o ∧ o < 120) : 0 ≤ tmf (M 70) o ∧ tmf (M 70) o ≤ 200 := by
  have a := tml_b (jC_t hC) (frl o (iShl 1 (M 70 0) - 1) 5) 0 0 0 (fun c hc => (frl_t ho hn c hc).1) (by omega) (by omega)
  rw [ord_n ho hn] at a
  unfold tmf
  omega
theorem timeOf_c {o : Int} (hY : jY (N 12) (M 70)) (hC : jC (N 15) (N 16) (N 17) (N 18) (N 19) (M 70)) (ho : 0 ≤ o ∧ o < 120) (R : Int → Int) : ∃ R', ∀ (F : hp) (Q : Int → hp → Prop), Q (tmf (M 70) o) (kh F v (um N 63 R') T) → mX1_timeOf 62 o (some 10) (kh F v (um N 63 R) T) Q := by
  have hc := jY_c hY
  have e4 := hc.1
  obtain ⟨R', a1, a2⟩ := fill_c (v := v) (N := N) (T := T) (o := o) (m := iShl 1 (M 70 0) - 1) ho (told_s hc.2).1 R
  refine ⟨R', fun F Q q => ?_⟩
  have ol := ord_n ho hc.2
  simp (disch := first | omega | decide) only [mX1_timeOf, mX10_toldCars, ↓kh_c10, ↓kh_g10_0, ↓kh_g10_1, ↓kh_g10_2, ↓kh_g10_3, ↓kh_g10_4, ↓kh_g10_5, ↓kh_g10_6, ↓kh_g10_7, ↓kh_g10_8, ↓kh_g10_9, ↓kh_g10_10, ↓kh_g10_11, ↓kh_g10_12, ↓kh_p10_12, ↓kh_g10_13, ↓kh_p10_13, ↓kh_g10_14, ↓kh_p10_14, ↓kh_g10_15, ↓kh_p10_15, ↓kh_c11, ↓kh_g11_0, ↓kh_r12, ↓kh_w12, ↓kh_n12, ↓kh_c62, ↓kh_g62_0, ↓kh_cp12_33, ↓kh_cp12_68, ↓kh_cp12_12, ↓kh_cp12_14, ↓be_y, ↓be_n, ↓bf_y, ↓bf_n, ↓bl_y, ↓bl_n, ↓bm_y, ↓bm_n, ↓bg_y, ↓bg_n, ↓bs_y, ↓bs_n, ↓bo_y, ↓bo_n, ↓bp_y, ↓bp_n, ↓forall_eq, ↓within_y, ↓within_n, ↓isIn_y, ↓isIn_n, and_true, true_and, and_self, us_at, us_ne, w32_id, um_eq, um_ne, um_um, uu_eq, uu_ne, uu_uu, vv_eq, vv_ne, vv_vv, ne_eq, not_false_eq_true, not_true_eq_false, reduceCtorEq, Int.reduceAdd, Int.reduceSub, Int.reduceMul, Int.reduceNeg, Nat.reduceEqDiff, or_true, true_or, true_implies, false_implies, Int.reduceLT, Int.reduceLE, Int.reduceEq, e4]
  refine a2 _ _ ?_
  rw [ol]
  refine ⟨_, time_c hC (frl o (iShl 1 (M 70 0) - 1) 5) 0 0 0 a1 (by omega) (frl_t ho hc.2) (by omega) (by omega) (by omega) q⟩
theorem doneBy_r {o : Int} (hn : 0 ≤ M 70 0 ∧ M 70 0 ≤ 5) (hC : jC (N 15) (N 16) (N 17) (N 18) (N 19) (M 70)) (ho : 0 ≤ o ∧ o < 120) (R : Int → Int) : ∃ R', ∀ (F : hp) (Q : Int → hp → Prop), Q (tmf (M 70) o) (rh F u (um M 79 R')) → mX12_doneBy 69 o (rh F u (um M 79 R)) Q := by
  obtain ⟨R', a1, a2⟩ := lay_r (u := u) (M := M) (o := o) ho hn R
  refine ⟨R', fun F Q q => ?_⟩
  have ol := ord_n ho hn
  simp (disch := first | omega | decide) only [mX12_doneBy, ↓rh_rcv, ↓rh_g0, ↓be_y, ↓be_n, ↓bf_y, ↓bf_n, ↓bl_y, ↓bl_n, ↓bm_y, ↓bm_n, ↓bg_y, ↓bg_n, ↓bs_y, ↓bs_n, ↓bo_y, ↓bo_n, ↓bp_y, ↓bp_n, ↓forall_eq, ↓within_y, ↓within_n, ↓isIn_y, ↓isIn_n, and_true, true_and, and_self, us_at, us_ne, w32_id, um_eq, um_ne, um_um, uu_eq, uu_ne, uu_uu, vv_eq, vv_ne, vv_vv, ne_eq, not_false_eq_true, not_true_eq_false, reduceCtorEq, Int.reduceAdd, Int.reduceSub, Int.reduceMul, Int.reduceNeg, Nat.reduceEqDiff, or_true, true_or, true_implies, false_implies, Int.reduceLT, Int.reduceLE, Int.reduceEq]
  refine a2 _ _ ?_
  exact ⟨_, time_r hC (frl o (iShl 1 (M 70 0) - 1) 5) 0 0 0 a1 (by omega) (frl_t ho hn) (by omega) (by omega) (by omega) q⟩
theorem best_b (hY : jY (N 12) (M 70)) (hC : jC (N 15) (N 16) (N 17) (N 18) (N 19) (M 70)) : ∀ (k : Nat) (o b : Int) (R S : Int → Int), o + k = 120 → 0 ≤ o → 0 ≤ b ∧ b < 120 → ∃ r R' S', (0 ≤ r ∧ r < 120) ∧ (∀ (F : hp) (Q : Int → hp → Prop), Q r (kh F v (um N 63 R') T) → mX11_fastestOrder_L17 Q (k + 1) 8 b (tmf (M 70) b) o (kh F v (um N 63 R) T)) ∧ (∀ (F : hp) (Q : Int → hp → Prop), Q r (rh F u (um M 79 S')) → mX12_bestOrder_L4 Q (k + 1) 69 b o (rh F u (um M 79 S))) := by
  have hc := jY_c hY
  intro k
  induction k with
  | zero =>
    intro o b R S ho h0 hb
    refine ⟨b, R, S, hb, fun F Q q => ?_, fun F Q q => ?_⟩
    · rw [mX11_fastestOrder_L17]
      simp (disch := first | omega | decide) only [w32_id, ↓kh_c8, ↓kh_g8_0, ↓kh_g8_1, ↓kh_g8_2, ↓kh_g8_3, ↓kh_g8_4, ↓kh_g8_5, ↓kh_g8_6, ↓kh_g8_7, ↓be_y, ↓be_n, ↓bf_y, ↓bf_n, ↓bl_y, ↓bl_n, ↓bm_y, ↓bm_n, ↓bg_y, ↓bg_n, ↓bs_y, ↓bs_n, ↓bo_y, ↓bo_n, ↓bp_y, ↓bp_n, ↓forall_eq, ↓within_y, ↓within_n, ↓isIn_y, ↓isIn_n, and_true, true_and, and_self, us_at, us_ne, w32_id, um_eq, um_ne, um_um, uu_eq, uu_ne, uu_uu, vv_eq, vv_ne, vv_vv, ne_eq, not_false_eq_true, not_true_eq_false, reduceCtorEq, Int.reduceAdd, Int.reduceSub, Int.reduceMul, Int.reduceNeg, Nat.reduceEqDiff, or_true, true_or, true_implies, false_implies, Int.reduceLT, Int.reduceLE, Int.reduceEq]
      exact q
    · rw [mX12_bestOrder_L4]
      simp (disch := first | omega | decide) only [w32_id, ↓rh_rcv, ↓rh_g0, ↓be_y, ↓be_n, ↓bf_y, ↓bf_n, ↓bl_y, ↓bl_n, ↓bm_y, ↓bm_n, ↓bg_y, ↓bg_n, ↓bs_y, ↓bs_n, ↓bo_y, ↓bo_n, ↓bp_y, ↓bp_n, ↓forall_eq, ↓within_y, ↓within_n, ↓isIn_y, ↓isIn_n, and_true, true_and, and_self, us_at, us_ne, w32_id, um_eq, um_ne, um_um, uu_eq, uu_ne, uu_uu, vv_eq, vv_ne, vv_vv, ne_eq, not_false_eq_true, not_true_eq_false, reduceCtorEq, Int.reduceAdd, Int.reduceSub, Int.reduceMul, Int.reduceNeg, Nat.reduceEqDiff, or_true, true_or, true_implies, false_implies, Int.reduceLT, Int.reduceLE, Int.reduceEq]
      exact q
  | succ k ih =>
    intro o b R S ho h0 hb
    have t1 := tmf_b hC hc.2 (o := o) (by omega)
    have t2 := tmf_b hC hc.2 (o := b) hb
    obtain ⟨R1, a1⟩ := timeOf_c (v := v) (N := N) (T := T) hY hC (o := o) (by omega) R
    obtain ⟨S1, b1⟩ := doneBy_r (u := u) hc.2 hC (o := o) (by omega) S
    obtain ⟨S2, b2⟩ := doneBy_r (u := u) hc.2 hC (o := b) hb S1
    by_cases d : tmf (M 70) o < tmf (M 70) b
    · obtain ⟨r, R', S', g0, g1, g2⟩ := ih (o + 1) o R1 S2 (by omega) (by omega) (by omega)
      refine ⟨r, R', S', g0, fun F Q q => ?_, fun F Q q => ?_⟩
      · rw [mX11_fastestOrder_L17]
        simp (disch := first | omega | decide) only [w32_id, ↓kh_c8, ↓kh_g8_0, ↓kh_g8_1, ↓kh_g8_2, ↓kh_g8_3, ↓kh_g8_4, ↓kh_g8_5, ↓kh_g8_6, ↓kh_g8_7, ↓kh_c62, ↓kh_g62_0, ↓be_y, ↓be_n, ↓bf_y, ↓bf_n, ↓bl_y, ↓bl_n, ↓bm_y, ↓bm_n, ↓bg_y, ↓bg_n, ↓bs_y, ↓bs_n, ↓bo_y, ↓bo_n, ↓bp_y, ↓bp_n, ↓forall_eq, ↓within_y, ↓within_n, ↓isIn_y, ↓isIn_n, and_true, true_and, and_self, us_at, us_ne, w32_id, um_eq, um_ne, um_um, uu_eq, uu_ne, uu_uu, vv_eq, vv_ne, vv_vv, ne_eq, not_false_eq_true, not_true_eq_false, reduceCtorEq, Int.reduceAdd, Int.reduceSub, Int.reduceMul, Int.reduceNeg, Nat.reduceEqDiff, or_true, true_or, true_implies, false_implies, Int.reduceLT, Int.reduceLE, Int.reduceEq]
        refine a1 _ _ ?_
        simp (disch := first | omega | decide) only [mX11_fastestOrder_J48, ↓kh_c8, ↓kh_g8_0, ↓kh_g8_1, ↓kh_g8_2, ↓kh_g8_3, ↓kh_g8_4, ↓kh_g8_5, ↓kh_g8_6, ↓kh_g8_7, ↓be_y, ↓be_n, ↓bf_y, ↓bf_n, ↓bl_y, ↓bl_n, ↓bm_y, ↓bm_n, ↓bg_y, ↓bg_n, ↓bs_y, ↓bs_n, ↓bo_y, ↓bo_n, ↓bp_y, ↓bp_n, ↓forall_eq, ↓within_y, ↓within_n, ↓isIn_y, ↓isIn_n, and_true, true_and, and_self, us_at, us_ne, w32_id, um_eq, um_ne, um_um, uu_eq, uu_ne, uu_uu, vv_eq, vv_ne, vv_vv, ne_eq, not_false_eq_true, not_true_eq_false, reduceCtorEq, Int.reduceAdd, Int.reduceSub, Int.reduceMul, Int.reduceNeg, Nat.reduceEqDiff, or_true, true_or, true_implies, false_implies, Int.reduceLT, Int.reduceLE, Int.reduceEq]
        exact g1 F Q q
      · rw [mX12_bestOrder_L4]
        simp (disch := first | omega | decide) only [w32_id, ↓rh_rcv, ↓rh_g0, ↓be_y, ↓be_n, ↓bf_y, ↓bf_n, ↓bl_y, ↓bl_n, ↓bm_y, ↓bm_n, ↓bg_y, ↓bg_n, ↓bs_y, ↓bs_n, ↓bo_y, ↓bo_n, ↓bp_y, ↓bp_n, ↓forall_eq, ↓within_y, ↓within_n, ↓isIn_y, ↓isIn_n, and_true, true_and, and_self, us_at, us_ne, w32_id, um_eq, um_ne, um_um, uu_eq, uu_ne, uu_uu, vv_eq, vv_ne, vv_vv, ne_eq, not_false_eq_true, not_true_eq_false, reduceCtorEq, Int.reduceAdd, Int.reduceSub, Int.reduceMul, Int.reduceNeg, Nat.reduceEqDiff, or_true, true_or, true_implies, false_implies, Int.reduceLT, Int.reduceLE, Int.reduceEq]
        refine b1 _ _ ?_
        simp (disch := first | omega | decide) only [w32_id, ↓rh_rcv, ↓rh_g0, ↓be_y, ↓be_n, ↓bf_y, ↓bf_n, ↓bl_y, ↓bl_n, ↓bm_y, ↓bm_n, ↓bg_y, ↓bg_n, ↓bs_y, ↓bs_n, ↓bo_y, ↓bo_n, ↓bp_y, ↓bp_n, ↓forall_eq, ↓within_y, ↓within_n, ↓isIn_y, ↓isIn_n, and_true, true_and, and_self, us_at, us_ne, w32_id, um_eq, um_ne, um_um, uu_eq, uu_ne, uu_uu, vv_eq, vv_ne, vv_vv, ne_eq, not_false_eq_true, not_true_eq_false, reduceCtorEq, Int.reduceAdd, Int.reduceSub, Int.reduceMul, Int.reduceNeg, Nat.reduceEqDiff, or_true, true_or, true_implies, false_implies, Int.reduceLT, Int.reduceLE, Int.reduceEq]
        refine b2 _ _ ?_
        simp (disch := first | omega | decide) only [mX12_bestOrder_J25, ↓rh_rcv, ↓rh_g0, ↓be_y, ↓be_n, ↓bf_y, ↓bf_n, ↓bl_y, ↓bl_n, ↓bm_y, ↓bm_n, ↓bg_y, ↓bg_n, ↓bs_y, ↓bs_n, ↓bo_y, ↓bo_n, ↓bp_y, ↓bp_n, ↓forall_eq, ↓within_y, ↓within_n, ↓isIn_y, ↓isIn_n, and_true, true_and, and_self, us_at, us_ne, w32_id, um_eq, um_ne, um_um, uu_eq, uu_ne, uu_uu, vv_eq, vv_ne, vv_vv, ne_eq, not_false_eq_true, not_true_eq_false, reduceCtorEq, Int.reduceAdd, Int.reduceSub, Int.reduceMul, Int.reduceNeg, Nat.reduceEqDiff, or_true, true_or, true_implies, false_implies, Int.reduceLT, Int.reduceLE, Int.reduceEq]
        exact g2 F Q q
    · obtain ⟨r, R', S', g0, g1, g2⟩ := ih (o + 1) b R1 S2 (by omega) (by omega) hb
      refine ⟨r, R', S', g0, fun F Q q => ?_, fun F Q q => ?_⟩
      · rw [mX11_fastestOrder_L17]
        simp (disch := first | omega | decide) only [w32_id, ↓kh_c8, ↓kh_g8_0, ↓kh_g8_1, ↓kh_g8_2, ↓kh_g8_3, ↓kh_g8_4, ↓kh_g8_5, ↓kh_g8_6, ↓kh_g8_7, ↓kh_c62, ↓kh_g62_0, ↓be_y, ↓be_n, ↓bf_y, ↓bf_n, ↓bl_y, ↓bl_n, ↓bm_y, ↓bm_n, ↓bg_y, ↓bg_n, ↓bs_y, ↓bs_n, ↓bo_y, ↓bo_n, ↓bp_y, ↓bp_n, ↓forall_eq, ↓within_y, ↓within_n, ↓isIn_y, ↓isIn_n, and_true, true_and, and_self, us_at, us_ne, w32_id, um_eq, um_ne, um_um, uu_eq, uu_ne, uu_uu, vv_eq, vv_ne, vv_vv, ne_eq, not_false_eq_true, not_true_eq_false, reduceCtorEq, Int.reduceAdd, Int.reduceSub, Int.reduceMul, Int.reduceNeg, Nat.reduceEqDiff, or_true, true_or, true_implies, false_implies, Int.reduceLT, Int.reduceLE, Int.reduceEq]
        refine a1 _ _ ?_
        simp (disch := first | omega | decide) only [mX11_fastestOrder_J48, ↓kh_c8, ↓kh_g8_0, ↓kh_g8_1, ↓kh_g8_2, ↓kh_g8_3, ↓kh_g8_4, ↓kh_g8_5, ↓kh_g8_6, ↓kh_g8_7, ↓be_y, ↓be_n, ↓bf_y, ↓bf_n, ↓bl_y, ↓bl_n, ↓bm_y, ↓bm_n, ↓bg_y, ↓bg_n, ↓bs_y, ↓bs_n, ↓bo_y, ↓bo_n, ↓bp_y, ↓bp_n, ↓forall_eq, ↓within_y, ↓within_n, ↓isIn_y, ↓isIn_n, and_true, true_and, and_self, us_at, us_ne, w32_id, um_eq, um_ne, um_um, uu_eq, uu_ne, uu_uu, vv_eq, vv_ne, vv_vv, ne_eq, not_false_eq_true, not_true_eq_false, reduceCtorEq, Int.reduceAdd, Int.reduceSub, Int.reduceMul, Int.reduceNeg, Nat.reduceEqDiff, or_true, true_or, true_implies, false_implies, Int.reduceLT, Int.reduceLE, Int.reduceEq]
        exact g1 F Q q
      · rw [mX12_bestOrder_L4]
        simp (disch := first | omega | decide) only [w32_id, ↓rh_rcv, ↓rh_g0, ↓be_y, ↓be_n, ↓bf_y, ↓bf_n, ↓bl_y, ↓bl_n, ↓bm_y, ↓bm_n, ↓bg_y, ↓bg_n, ↓bs_y, ↓bs_n, ↓bo_y, ↓bo_n, ↓bp_y, ↓bp_n, ↓forall_eq, ↓within_y, ↓within_n, ↓isIn_y, ↓isIn_n, and_true, true_and, and_self, us_at, us_ne, w32_id, um_eq, um_ne, um_um, uu_eq, uu_ne, uu_uu, vv_eq, vv_ne, vv_vv, ne_eq, not_false_eq_true, not_true_eq_false, reduceCtorEq, Int.reduceAdd, Int.reduceSub, Int.reduceMul, Int.reduceNeg, Nat.reduceEqDiff, or_true, true_or, true_implies, false_implies, Int.reduceLT, Int.reduceLE, Int.reduceEq]
        refine b1 _ _ ?_
        simp (disch := first | omega | decide) only [w32_id, ↓rh_rcv, ↓rh_g0, ↓be_y, ↓be_n, ↓bf_y, ↓bf_n, ↓bl_y, ↓bl_n, ↓bm_y, ↓bm_n, ↓bg_y, ↓bg_n, ↓bs_y, ↓bs_n, ↓bo_y, ↓bo_n, ↓bp_y, ↓bp_n, ↓forall_eq, ↓within_y, ↓within_n, ↓isIn_y, ↓isIn_n, and_true, true_and, and_self, us_at, us_ne, w32_id, um_eq, um_ne, um_um, uu_eq, uu_ne, uu_uu, vv_eq, vv_ne, vv_vv, ne_eq, not_false_eq_true, not_true_eq_false, reduceCtorEq, Int.reduceAdd, Int.reduceSub, Int.reduceMul, Int.reduceNeg, Nat.reduceEqDiff, or_true, true_or, true_implies, false_implies, Int.reduceLT, Int.reduceLE, Int.reduceEq]
        refine b2 _ _ ?_
        simp (disch := first | omega | decide) only [mX12_bestOrder_J25, ↓rh_rcv, ↓rh_g0, ↓be_y, ↓be_n, ↓bf_y, ↓bf_n, ↓bl_y, ↓bl_n, ↓bm_y, ↓bm_n, ↓bg_y, ↓bg_n, ↓bs_y, ↓bs_n, ↓bo_y, ↓bo_n, ↓bp_y, ↓bp_n, ↓forall_eq, ↓within_y, ↓within_n, ↓isIn_y, ↓isIn_n, and_true, true_and, and_self, us_at, us_ne, w32_id, um_eq, um_ne, um_um, uu_eq, uu_ne, uu_uu, vv_eq, vv_ne, vv_vv, ne_eq, not_false_eq_true, not_true_eq_false, reduceCtorEq, Int.reduceAdd, Int.reduceSub, Int.reduceMul, Int.reduceNeg, Nat.reduceEqDiff, or_true, true_or, true_implies, false_implies, Int.reduceLT, Int.reduceLE, Int.reduceEq]
        exact g2 F Q q
theorem fast_b (hY : jY (N 12) (M 70)) (hC : jC (N 15) (N 16) (N 17) (N 18) (N 19) (M 70)) : ∃ r R S, (0 ≤ r ∧ r < 120) ∧ (∀ (F : hp) (Q : Int → hp → Prop), Q r (kh F v (um N 63 R) T) → mX11_fastestOrder 8 (kh F v N T) Q) ∧ (∀ (F : hp) (Q : Int → hp → Prop), Q r (rh F u (um M 79 S)) → mX12_bestOrder 69 (rh F u M) Q) := by
  obtain ⟨R1, a1⟩ := timeOf_c (v := v) (N := N) (T := T) hY hC (o := 0) (by omega) (N 63)
  obtain ⟨r, R', S', g0, g1, g2⟩ := best_b (v := v) (N := N) (T := T) (u := u) (M := M) hY hC 119 1 0 R1 (M 79) (by omega) (by omega) (by omega)
  rw [um_self] at a1 g2
  refine ⟨r, R', S', g0, fun F Q q => ?_, fun F Q q => ⟨120, g2 F Q q⟩⟩
  simp (disch := first | omega | decide) only [mX11_fastestOrder, ↓kh_c8, ↓kh_g8_0, ↓kh_g8_1, ↓kh_g8_2, ↓kh_g8_3, ↓kh_g8_4, ↓kh_g8_5, ↓kh_g8_6, ↓kh_g8_7, ↓kh_c62, ↓kh_g62_0, ↓be_y, ↓be_n, ↓bf_y, ↓bf_n, ↓bl_y, ↓bl_n, ↓bm_y, ↓bm_n, ↓bg_y, ↓bg_n, ↓bs_y, ↓bs_n, ↓bo_y, ↓bo_n, ↓bp_y, ↓bp_n, ↓forall_eq, ↓within_y, ↓within_n, ↓isIn_y, ↓isIn_n, and_true, true_and, and_self, us_at, us_ne, w32_id, um_eq, um_ne, um_um, uu_eq, uu_ne, uu_uu, vv_eq, vv_ne, vv_vv, ne_eq, not_false_eq_true, not_true_eq_false, reduceCtorEq, Int.reduceAdd, Int.reduceSub, Int.reduceMul, Int.reduceNeg, Nat.reduceEqDiff, or_true, true_or, true_implies, false_implies, Int.reduceLT, Int.reduceLE, Int.reduceEq]
  refine a1 _ _ ?_
  exact ⟨120, g1 F Q q⟩
set_option maxHeartbeats 4000000 in
theorem op_crane (h1 : -2147483648 ≤ x1 ∧ x1 ≤ 2147483647) : OP n (mX11_crane 8 x1) (mX12_crane 69 x1) := by
  refine op_to (fun G v N T u M h => ?_)
  obtain ⟨⟨hY, hK, hC, hF, hB, hT, hS, hD, hX, hG⟩, hI, hM, hL, hW, hH, hN⟩ := id h
  have hc := jY_c hY
  obtain ⟨r, R, S, g0, g1, g2⟩ := fast_b (v := v) (N := N) (T := T) (u := u) (M := M) hY hC
  by_cases d : x1 = 0
  · refine ⟨r, v, um N 63 R, u, um M 79 S, Rel_up h, fun F Q q => ?_, fun F Q q => ?_⟩
    · simp (disch := first | omega | decide) only [mX11_crane, ↓kh_c8, ↓kh_g8_0, ↓kh_g8_1, ↓kh_g8_2, ↓kh_g8_3, ↓kh_g8_4, ↓kh_g8_5, ↓kh_g8_6, ↓kh_g8_7, ↓be_y, ↓be_n, ↓bf_y, ↓bf_n, ↓bl_y, ↓bl_n, ↓bm_y, ↓bm_n, ↓bg_y, ↓bg_n, ↓bs_y, ↓bs_n, ↓bo_y, ↓bo_n, ↓bp_y, ↓bp_n, ↓forall_eq, ↓within_y, ↓within_n, ↓isIn_y, ↓isIn_n, and_true, true_and, and_self, us_at, us_ne, w32_id, um_eq, um_ne, um_um, uu_eq, uu_ne, uu_uu, vv_eq, vv_ne, vv_vv, ne_eq, not_false_eq_true, not_true_eq_false, reduceCtorEq, Int.reduceAdd, Int.reduceSub, Int.reduceMul, Int.reduceNeg, Nat.reduceEqDiff, or_true, true_or, true_implies, false_implies, Int.reduceLT, Int.reduceLE, Int.reduceEq]
      exact g1 _ _ q
    · simp (disch := first | omega | decide) only [mX12_crane, ↓rh_rcv, ↓rh_g0, ↓be_y, ↓be_n, ↓bf_y, ↓bf_n, ↓bl_y, ↓bl_n, ↓bm_y, ↓bm_n, ↓bg_y, ↓bg_n, ↓bs_y, ↓bs_n, ↓bo_y, ↓bo_n, ↓bp_y, ↓bp_n, ↓forall_eq, ↓within_y, ↓within_n, ↓isIn_y, ↓isIn_n, and_true, true_and, and_self, us_at, us_ne, w32_id, um_eq, um_ne, um_um, uu_eq, uu_ne, uu_uu, vv_eq, vv_ne, vv_vv, ne_eq, not_false_eq_true, not_true_eq_false, reduceCtorEq, Int.reduceAdd, Int.reduceSub, Int.reduceMul, Int.reduceNeg, Nat.reduceEqDiff, or_true, true_or, true_implies, false_implies, Int.reduceLT, Int.reduceLE, Int.reduceEq]
      refine g2 _ _ ?_
      exact q
  · obtain ⟨R1, a1⟩ := timeOf_c (v := v) (N := N) (T := T) hY hC (o := r) g0 R
    obtain ⟨S1, b1⟩ := doneBy_r (u := u) hc.2 hC (o := r) g0 S
    refine ⟨tmf (M 70) r, v, um N 63 R1, u, um M 79 S1, Rel_up h, fun F Q q => ?_, fun F Q q => ?_⟩
    · simp (disch := first | omega | decide) only [mX11_crane, ↓kh_c8, ↓kh_g8_0, ↓kh_g8_1, ↓kh_g8_2, ↓kh_g8_3, ↓kh_g8_4, ↓kh_g8_5, ↓kh_g8_6, ↓kh_g8_7, ↓be_y, ↓be_n, ↓bf_y, ↓bf_n, ↓bl_y, ↓bl_n, ↓bm_y, ↓bm_n, ↓bg_y, ↓bg_n, ↓bs_y, ↓bs_n, ↓bo_y, ↓bo_n, ↓bp_y, ↓bp_n, ↓forall_eq, ↓within_y, ↓within_n, ↓isIn_y, ↓isIn_n, and_true, true_and, and_self, us_at, us_ne, w32_id, um_eq, um_ne, um_um, uu_eq, uu_ne, uu_uu, vv_eq, vv_ne, vv_vv, ne_eq, not_false_eq_true, not_true_eq_false, reduceCtorEq, Int.reduceAdd, Int.reduceSub, Int.reduceMul, Int.reduceNeg, Nat.reduceEqDiff, or_true, true_or, true_implies, false_implies, Int.reduceLT, Int.reduceLE, Int.reduceEq]
      refine g1 _ _ ?_
      simp (disch := first | omega | decide) only [w32_id, ↓kh_c8, ↓kh_g8_0, ↓kh_g8_1, ↓kh_g8_2, ↓kh_g8_3, ↓kh_g8_4, ↓kh_g8_5, ↓kh_g8_6, ↓kh_g8_7, ↓kh_c62, ↓kh_g62_0, ↓be_y, ↓be_n, ↓bf_y, ↓bf_n, ↓bl_y, ↓bl_n, ↓bm_y, ↓bm_n, ↓bg_y, ↓bg_n, ↓bs_y, ↓bs_n, ↓bo_y, ↓bo_n, ↓bp_y, ↓bp_n, ↓forall_eq, ↓within_y, ↓within_n, ↓isIn_y, ↓isIn_n, and_true, true_and, and_self, us_at, us_ne, w32_id, um_eq, um_ne, um_um, uu_eq, uu_ne, uu_uu, vv_eq, vv_ne, vv_vv, ne_eq, not_false_eq_true, not_true_eq_false, reduceCtorEq, Int.reduceAdd, Int.reduceSub, Int.reduceMul, Int.reduceNeg, Nat.reduceEqDiff, or_true, true_or, true_implies, false_implies, Int.reduceLT, Int.reduceLE, Int.reduceEq]
      exact a1 _ _ q
    · simp (disch := first | omega | decide) only [mX12_crane, ↓rh_rcv, ↓rh_g0, ↓be_y, ↓be_n, ↓bf_y, ↓bf_n, ↓bl_y, ↓bl_n, ↓bm_y, ↓bm_n, ↓bg_y, ↓bg_n, ↓bs_y, ↓bs_n, ↓bo_y, ↓bo_n, ↓bp_y, ↓bp_n, ↓forall_eq, ↓within_y, ↓within_n, ↓isIn_y, ↓isIn_n, and_true, true_and, and_self, us_at, us_ne, w32_id, um_eq, um_ne, um_um, uu_eq, uu_ne, uu_uu, vv_eq, vv_ne, vv_vv, ne_eq, not_false_eq_true, not_true_eq_false, reduceCtorEq, Int.reduceAdd, Int.reduceSub, Int.reduceMul, Int.reduceNeg, Nat.reduceEqDiff, or_true, true_or, true_implies, false_implies, Int.reduceLT, Int.reduceLE, Int.reduceEq]
      refine g2 _ _ ?_
      simp (disch := first | omega | decide) only [w32_id, ↓rh_rcv, ↓rh_g0, ↓be_y, ↓be_n, ↓bf_y, ↓bf_n, ↓bl_y, ↓bl_n, ↓bm_y, ↓bm_n, ↓bg_y, ↓bg_n, ↓bs_y, ↓bs_n, ↓bo_y, ↓bo_n, ↓bp_y, ↓bp_n, ↓forall_eq, ↓within_y, ↓within_n, ↓isIn_y, ↓isIn_n, and_true, true_and, and_self, us_at, us_ne, w32_id, um_eq, um_ne, um_um, uu_eq, uu_ne, uu_uu, vv_eq, vv_ne, vv_vv, ne_eq, not_false_eq_true, not_true_eq_false, reduceCtorEq, Int.reduceAdd, Int.reduceSub, Int.reduceMul, Int.reduceNeg, Nat.reduceEqDiff, or_true, true_or, true_implies, false_implies, Int.reduceLT, Int.reduceLE, Int.reduceEq]
      exact b1 _ _ q
theorem idle_b (hY : jY (N 12) (M 70)) (hC : jC (N 15) (N 16) (N 17) (N 18) (N 19) (M 70)) {t : Int} : ∀ (k : Nat) (c a : Int), c + k = M 70 0 → 0 ≤ c → ∃ r : Int, (∀ (F : hp) (Q : Int → hp → Prop), Q r (kh F v N T) → mX11_idle_L20 Q (k + 1) 8 t a c (kh F v N T)) ∧ (∀ (F : hp) (Q : Int → hp → Prop), Q r (rh F u M) → mX12_idle_L11 Q (k + 1) 69 (t - a) c (rh F u M)) := by
  have hc := jY_c hY
  have e4 := hc.1
  intro k
  induction k with
  | zero =>
    intro c a hk h0
    refine ⟨t - a, fun F Q q => ?_, fun F Q q => ?_⟩
    · rw [mX11_idle_L20]
      simp (disch := first | omega | decide) only [mX10_countCars, ↓kh_c8, ↓kh_g8_0, ↓kh_g8_1, ↓kh_g8_2, ↓kh_g8_3, ↓kh_g8_4, ↓kh_g8_5, ↓kh_g8_6, ↓kh_g8_7, ↓kh_c10, ↓kh_g10_0, ↓kh_g10_1, ↓kh_g10_2, ↓kh_g10_3, ↓kh_g10_4, ↓kh_g10_5, ↓kh_g10_6, ↓kh_g10_7, ↓kh_g10_8, ↓kh_g10_9, ↓kh_g10_10, ↓kh_g10_11, ↓kh_g10_12, ↓kh_p10_12, ↓kh_g10_13, ↓kh_p10_13, ↓kh_g10_14, ↓kh_p10_14, ↓kh_g10_15, ↓kh_p10_15, ↓kh_c11, ↓kh_g11_0, ↓kh_r12, ↓kh_w12, ↓kh_n12, ↓kh_cp12_33, ↓kh_cp12_68, ↓kh_cp12_12, ↓kh_cp12_14, ↓be_y, ↓be_n, ↓bf_y, ↓bf_n, ↓bl_y, ↓bl_n, ↓bm_y, ↓bm_n, ↓bg_y, ↓bg_n, ↓bs_y, ↓bs_n, ↓bo_y, ↓bo_n, ↓bp_y, ↓bp_n, ↓forall_eq, ↓within_y, ↓within_n, ↓isIn_y, ↓isIn_n, and_true, true_and, and_self, us_at, us_ne, w32_id, um_eq, um_ne, um_um, uu_eq, uu_ne, uu_uu, vv_eq, vv_ne, vv_vv, ne_eq, not_false_eq_true, not_true_eq_false, reduceCtorEq, Int.reduceAdd, Int.reduceSub, Int.reduceMul, Int.reduceNeg, Nat.reduceEqDiff, or_true, true_or, true_implies, false_implies, Int.reduceLT, Int.reduceLE, Int.reduceEq, e4]
      exact q
    · rw [mX12_idle_L11]
      simp (disch := first | omega | decide) only [w32_id, ↓rh_rcv, ↓rh_g0, ↓rh_r70, ↓rh_w70, ↓be_y, ↓be_n, ↓bf_y, ↓bf_n, ↓bl_y, ↓bl_n, ↓bm_y, ↓bm_n, ↓bg_y, ↓bg_n, ↓bs_y, ↓bs_n, ↓bo_y, ↓bo_n, ↓bp_y, ↓bp_n, ↓forall_eq, ↓within_y, ↓within_n, ↓isIn_y, ↓isIn_n, and_true, true_and, and_self, us_at, us_ne, w32_id, um_eq, um_ne, um_um, uu_eq, uu_ne, uu_uu, vv_eq, vv_ne, vv_vv, ne_eq, not_false_eq_true, not_true_eq_false, reduceCtorEq, Int.reduceAdd, Int.reduceSub, Int.reduceMul, Int.reduceNeg, Nat.reduceEqDiff, or_true, true_or, true_implies, false_implies, Int.reduceLT, Int.reduceLE, Int.reduceEq]
      exact q
  | succ k ih =>
    intro c a hk h0
    have o := ((hC c h0 (by omega)).2.2.2.2.2.1 (by omega)).2.1
    obtain ⟨r, g1, g2⟩ := ih (c + 1) (a + M 70 (51 + c)) (by omega) (by omega)
    refine ⟨r, fun F Q q => ?_, fun F Q q => ?_⟩
    · rw [mX11_idle_L20]
      simp (disch := first | omega | decide) only [mX10_countCars, ↓kh_c8, ↓kh_g8_0, ↓kh_g8_1, ↓kh_g8_2, ↓kh_g8_3, ↓kh_g8_4, ↓kh_g8_5, ↓kh_g8_6, ↓kh_g8_7, ↓kh_c10, ↓kh_g10_0, ↓kh_g10_1, ↓kh_g10_2, ↓kh_g10_3, ↓kh_g10_4, ↓kh_g10_5, ↓kh_g10_6, ↓kh_g10_7, ↓kh_g10_8, ↓kh_g10_9, ↓kh_g10_10, ↓kh_g10_11, ↓kh_g10_12, ↓kh_p10_12, ↓kh_g10_13, ↓kh_p10_13, ↓kh_g10_14, ↓kh_p10_14, ↓kh_g10_15, ↓kh_p10_15, ↓kh_c11, ↓kh_g11_0, ↓kh_r12, ↓kh_w12, ↓kh_n12, ↓kh_r18, ↓kh_w18, ↓kh_n18, ↓kh_cp12_33, ↓kh_cp12_68, ↓kh_cp12_12, ↓kh_cp12_14, ↓kh_cp18_39, ↓be_y, ↓be_n, ↓bf_y, ↓bf_n, ↓bl_y, ↓bl_n, ↓bm_y, ↓bm_n, ↓bg_y, ↓bg_n, ↓bs_y, ↓bs_n, ↓bo_y, ↓bo_n, ↓bp_y, ↓bp_n, ↓forall_eq, ↓within_y, ↓within_n, ↓isIn_y, ↓isIn_n, and_true, true_and, and_self, us_at, us_ne, w32_id, um_eq, um_ne, um_um, uu_eq, uu_ne, uu_uu, vv_eq, vv_ne, vv_vv, ne_eq, not_false_eq_true, not_true_eq_false, reduceCtorEq, Int.reduceAdd, Int.reduceSub, Int.reduceMul, Int.reduceNeg, Nat.reduceEqDiff, or_true, true_or, true_implies, false_implies, Int.reduceLT, Int.reduceLE, Int.reduceEq, e4, o]
      exact g1 F Q q
    · rw [mX12_idle_L11]
      simp (disch := first | omega | decide) only [w32_id, ↓rh_rcv, ↓rh_g0, ↓rh_r70, ↓rh_w70, ↓be_y, ↓be_n, ↓bf_y, ↓bf_n, ↓bl_y, ↓bl_n, ↓bm_y, ↓bm_n, ↓bg_y, ↓bg_n, ↓bs_y, ↓bs_n, ↓bo_y, ↓bo_n, ↓bp_y, ↓bp_n, ↓forall_eq, ↓within_y, ↓within_n, ↓isIn_y, ↓isIn_n, and_true, true_and, and_self, us_at, us_ne, w32_id, um_eq, um_ne, um_um, uu_eq, uu_ne, uu_uu, vv_eq, vv_ne, vv_vv, ne_eq, not_false_eq_true, not_true_eq_false, reduceCtorEq, Int.reduceAdd, Int.reduceSub, Int.reduceMul, Int.reduceNeg, Nat.reduceEqDiff, or_true, true_or, true_implies, false_implies, Int.reduceLT, Int.reduceLE, Int.reduceEq]
      rw [show t - a - M 70 (51 + c) = t - (a + M 70 (51 + c)) by omega]
      exact g2 F Q q
set_option maxHeartbeats 4000000 in
theorem op_idle  : OP n (mX11_idle 8) (mX12_idle 69) := by
  refine op_to (fun G v N T u M h => ?_)
  obtain ⟨⟨hY, hK, hC, hF, hB, hT, hS, hD, hX, hG⟩, hI, hM, hL, hW, hH, hN⟩ := id h
  have hc := jY_c hY
  obtain ⟨r, R, S, g0, g1, g2⟩ := fast_b (v := v) (N := N) (T := T) (u := u) (M := M) hY hC
  obtain ⟨R1, a1⟩ := timeOf_c (v := v) (N := N) (T := T) hY hC (o := r) g0 R
  obtain ⟨S1, b1⟩ := doneBy_r (u := u) hc.2 hC (o := r) g0 S
  obtain ⟨t, k1, k2⟩ := idle_b (v := v) (N := um N 63 R1) (T := T) (u := u) (M := um M 79 S1) hY hC (t := tmf (M 70) r) (M 70 0).toNat 0 0 (by show _ = M 70 0; omega) (by omega)
  refine ⟨t, v, um N 63 R1, u, um M 79 S1, Rel_up h, fun F Q q => ?_, fun F Q q => ?_⟩
  · simp (disch := first | omega | decide) only [mX11_idle, ↓kh_c8, ↓kh_g8_0, ↓kh_g8_1, ↓kh_g8_2, ↓kh_g8_3, ↓kh_g8_4, ↓kh_g8_5, ↓kh_g8_6, ↓kh_g8_7, ↓kh_c62, ↓kh_g62_0, ↓be_y, ↓be_n, ↓bf_y, ↓bf_n, ↓bl_y, ↓bl_n, ↓bm_y, ↓bm_n, ↓bg_y, ↓bg_n, ↓bs_y, ↓bs_n, ↓bo_y, ↓bo_n, ↓bp_y, ↓bp_n, ↓forall_eq, ↓within_y, ↓within_n, ↓isIn_y, ↓isIn_n, and_true, true_and, and_self, us_at, us_ne, w32_id, um_eq, um_ne, um_um, uu_eq, uu_ne, uu_uu, vv_eq, vv_ne, vv_vv, ne_eq, not_false_eq_true, not_true_eq_false, reduceCtorEq, Int.reduceAdd, Int.reduceSub, Int.reduceMul, Int.reduceNeg, Nat.reduceEqDiff, or_true, true_or, true_implies, false_implies, Int.reduceLT, Int.reduceLE, Int.reduceEq]
    refine g1 _ _ ?_
    simp (disch := first | omega | decide) only [w32_id, ↓kh_c8, ↓kh_g8_0, ↓kh_g8_1, ↓kh_g8_2, ↓kh_g8_3, ↓kh_g8_4, ↓kh_g8_5, ↓kh_g8_6, ↓kh_g8_7, ↓kh_c62, ↓kh_g62_0, ↓be_y, ↓be_n, ↓bf_y, ↓bf_n, ↓bl_y, ↓bl_n, ↓bm_y, ↓bm_n, ↓bg_y, ↓bg_n, ↓bs_y, ↓bs_n, ↓bo_y, ↓bo_n, ↓bp_y, ↓bp_n, ↓forall_eq, ↓within_y, ↓within_n, ↓isIn_y, ↓isIn_n, and_true, true_and, and_self, us_at, us_ne, w32_id, um_eq, um_ne, um_um, uu_eq, uu_ne, uu_uu, vv_eq, vv_ne, vv_vv, ne_eq, not_false_eq_true, not_true_eq_false, reduceCtorEq, Int.reduceAdd, Int.reduceSub, Int.reduceMul, Int.reduceNeg, Nat.reduceEqDiff, or_true, true_or, true_implies, false_implies, Int.reduceLT, Int.reduceLE, Int.reduceEq]
    refine a1 _ _ ?_
    exact ⟨_, k1 F Q q⟩
  · simp (disch := first | omega | decide) only [mX12_idle, ↓rh_rcv, ↓rh_g0, ↓be_y, ↓be_n, ↓bf_y, ↓bf_n, ↓bl_y, ↓bl_n, ↓bm_y, ↓bm_n, ↓bg_y, ↓bg_n, ↓bs_y, ↓bs_n, ↓bo_y, ↓bo_n, ↓bp_y, ↓bp_n, ↓forall_eq, ↓within_y, ↓within_n, ↓isIn_y, ↓isIn_n, and_true, true_and, and_self, us_at, us_ne, w32_id, um_eq, um_ne, um_um, uu_eq, uu_ne, uu_uu, vv_eq, vv_ne, vv_vv, ne_eq, not_false_eq_true, not_true_eq_false, reduceCtorEq, Int.reduceAdd, Int.reduceSub, Int.reduceMul, Int.reduceNeg, Nat.reduceEqDiff, or_true, true_or, true_implies, false_implies, Int.reduceLT, Int.reduceLE, Int.reduceEq]
    refine g2 _ _ ?_
    simp (disch := first | omega | decide) only [w32_id, ↓rh_rcv, ↓rh_g0, ↓be_y, ↓be_n, ↓bf_y, ↓bf_n, ↓bl_y, ↓bl_n, ↓bm_y, ↓bm_n, ↓bg_y, ↓bg_n, ↓bs_y, ↓bs_n, ↓bo_y, ↓bo_n, ↓bp_y, ↓bp_n, ↓forall_eq, ↓within_y, ↓within_n, ↓isIn_y, ↓isIn_n, and_true, true_and, and_self, us_at, us_ne, w32_id, um_eq, um_ne, um_um, uu_eq, uu_ne, uu_uu, vv_eq, vv_ne, vv_vv, ne_eq, not_false_eq_true, not_true_eq_false, reduceCtorEq, Int.reduceAdd, Int.reduceSub, Int.reduceMul, Int.reduceNeg, Nat.reduceEqDiff, or_true, true_or, true_implies, false_implies, Int.reduceLT, Int.reduceLE, Int.reduceEq]
    refine b1 _ _ ?_
    rw [Int.sub_zero] at k2
    exact ⟨_, k2 F Q q⟩
end CR
