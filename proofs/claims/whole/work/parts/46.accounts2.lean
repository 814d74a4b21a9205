section AD
variable {n x1 x2 : Int} {F : hp} {v : Nat → Nat → Int} {N : Nat → Int → Int} {T : Nat → Int → Option Nat} {u : Nat → Int} {M : Nat → Int → Int}
theorem um_66 (N : Nat → Int → Int) (a b c : Int → Int) : um (um (um N 66 a) 65 b) 66 c = um (um N 66 c) 65 b := by
  funext j
  by_cases h1 : j = 65
  · subst h1; rfl
  · by_cases h2 : j = 66
    · subst h2; rfl
    · rw [um_ne h2, um_ne h1, um_ne h2, um_ne h1, um_ne h2]
theorem most_l {A Z m : Int → Int} {s : Int} (hs : 1 ≤ s ∧ s < 64) (hZ : ∀ p, 1 ≤ p → p ≤ s → Z p = sof A p) (hb : ∀ p, 0 ≤ p → p < 64 → -2147483648 ≤ sof A p ∧ sof A p ≤ 2147483647) (hm : ∀ p, 1 ≤ p → p < s → -1 ≤ m p ∧ m p ≤ p) : ∀ (k : Nat) (i b : Int), i + k = s → 1 ≤ i → 1 ≤ b ∧ b ≤ s → (b = 1 ∨ ∃ q, (1 ≤ q ∧ q < i) ∧ VP s q ∧ sof A q = 0 ∧ b = 1 + m (rst s q)) → (∀ q, 1 ≤ q → q < i → VP s q → sof A q = 0 → 1 + m (rst s q) ≤ b) → ∃ r, (1 ≤ r ∧ r ≤ s) ∧ (r = 1 ∨ ∃ q, (1 ≤ q ∧ q < s) ∧ VP s q ∧ sof A q = 0 ∧ r = 1 + m (rst s q)) ∧ (∀ q, 1 ≤ q → q < s → VP s q → sof A q = 0 → 1 + m (rst s q) ≤ r) ∧ ∀ (F : hp) (Q : Int → hp → Prop), Q r (kh F v (um (um N 66 m) 65 Z) T) → mX0_mostOf_L10 Q (k + 1) 64 s b (iAnd s (-s)) i (kh F v (um (um N 66 m) 65 Z) T) := by
  intro k
  induction k with
  | zero =>
    intro i b hi h0 hbb h1 h2
    obtain rfl : i = s := by omega
    refine ⟨b, hbb, h1, h2, fun F Q q => ?_⟩
    rw [mX0_mostOf_L10]
    simp (disch := first | omega | decide) only [w32_id, ↓kh_c64, ↓kh_g64_0, ↓kh_g64_1, ↓be_y, ↓be_n, ↓bf_y, ↓bf_n, ↓bl_y, ↓bl_n, ↓bm_y, ↓bm_n, ↓bg_y, ↓bg_n, ↓bs_y, ↓bs_n, ↓bo_y, ↓bo_n, ↓bp_y, ↓bp_n, ↓forall_eq, ↓within_y, ↓within_n, ↓isIn_y, ↓isIn_n, and_true, true_and, and_self, us_at, us_ne, w32_id, um_eq, um_ne, um_um, uu_eq, uu_ne, uu_uu, vv_eq, vv_ne, vv_vv, ne_eq, not_false_eq_true, not_true_eq_false, reduceCtorEq, Int.reduceAdd, Int.reduceSub, Int.reduceMul, Int.reduceNeg, Nat.reduceEqDiff, or_true, true_or, true_implies, false_implies, Int.reduceLT, Int.reduceLE, Int.reduceEq]
    exact q
  | succ k ih =>
    intro i b hi h0 hbb h1 h2
    by_cases d : VP s i ∧ Z i = 0
    · have rb := rst_b (s := s) (p := i) (by omega) (by omega) d.1.1
      have mb := hm (rst s i) rb.1 rb.2
      have si : sof A i = 0 := by rw [← hZ i h0 (by omega)]; exact d.2
      have rr : iAnd s (iXor i (-1)) = rst s i := rfl
      by_cases d2 : b ≤ 1 + m (rst s i)
      · have mx : iMax b (1 + m (rst s i)) = 1 + m (rst s i) := iMax_r (by omega)
        obtain ⟨r, g1, g2, g3, g4⟩ := ih (i + 1) (1 + m (rst s i)) (by omega) (by omega) (by omega) (.inr ⟨i, by omega, d.1, si, rfl⟩) (fun q q0 q1 q2 q3 => by
          by_cases e : q = i
          · subst e; omega
          · have := h2 q q0 (by omega) q2 q3; omega)
        refine ⟨r, g1, g2, g3, fun F Q q => ?_⟩
        rw [mX0_mostOf_L10]
        simp (disch := first | omega | decide) only [w32_id, ↓kh_c64, ↓kh_g64_0, ↓kh_g64_1, ↓be_y, ↓be_n, ↓bf_y, ↓bf_n, ↓bl_y, ↓bl_n, ↓bm_y, ↓bm_n, ↓bg_y, ↓bg_n, ↓bs_y, ↓bs_n, ↓bo_y, ↓bo_n, ↓bp_y, ↓bp_n, ↓forall_eq, ↓within_y, ↓within_n, ↓isIn_y, ↓isIn_n, and_true, true_and, and_self, us_at, us_ne, w32_id, um_eq, um_ne, um_um, uu_eq, uu_ne, uu_uu, vv_eq, vv_ne, vv_vv, ne_eq, not_false_eq_true, not_true_eq_false, reduceCtorEq, Int.reduceAdd, Int.reduceSub, Int.reduceMul, Int.reduceNeg, Nat.reduceEqDiff, or_true, true_or, true_implies, false_implies, Int.reduceLT, Int.reduceLE, Int.reduceEq]
        refine isg_y (N := um N 66 m) (by omega) (by omega) d.1 d.2 ?_
        simp (disch := first | omega | decide) only [mX0_mostOf_J45, ↓kh_c64, ↓kh_g64_0, ↓kh_g64_1, ↓kh_r66, ↓kh_w66, ↓kh_n66, ↓be_y, ↓be_n, ↓bf_y, ↓bf_n, ↓bl_y, ↓bl_n, ↓bm_y, ↓bm_n, ↓bg_y, ↓bg_n, ↓bs_y, ↓bs_n, ↓bo_y, ↓bo_n, ↓bp_y, ↓bp_n, ↓forall_eq, ↓within_y, ↓within_n, ↓isIn_y, ↓isIn_n, and_true, true_and, and_self, us_at, us_ne, w32_id, um_eq, um_ne, um_um, uu_eq, uu_ne, uu_uu, vv_eq, vv_ne, vv_vv, ne_eq, not_false_eq_true, not_true_eq_false, reduceCtorEq, Int.reduceAdd, Int.reduceSub, Int.reduceMul, Int.reduceNeg, Nat.reduceEqDiff, or_true, true_or, true_implies, false_implies, Int.reduceLT, Int.reduceLE, Int.reduceEq, rr, mx]
        exact g4 F Q q
      · have mx : iMax b (1 + m (rst s i)) = b := iMax_l (by omega)
        obtain ⟨r, g1, g2, g3, g4⟩ := ih (i + 1) b (by omega) (by omega) hbb (h1.imp id (fun ⟨q, a, b⟩ => ⟨q, by omega, b⟩)) (fun q q0 q1 q2 q3 => by
          by_cases e : q = i
          · subst e; omega
          · exact h2 q q0 (by omega) q2 q3)
        refine ⟨r, g1, g2, g3, fun F Q q => ?_⟩
        rw [mX0_mostOf_L10]
        simp (disch := first | omega | decide) only [w32_id, ↓kh_c64, ↓kh_g64_0, ↓kh_g64_1, ↓be_y, ↓be_n, ↓bf_y, ↓bf_n, ↓bl_y, ↓bl_n, ↓bm_y, ↓bm_n, ↓bg_y, ↓bg_n, ↓bs_y, ↓bs_n, ↓bo_y, ↓bo_n, ↓bp_y, ↓bp_n, ↓forall_eq, ↓within_y, ↓within_n, ↓isIn_y, ↓isIn_n, and_true, true_and, and_self, us_at, us_ne, w32_id, um_eq, um_ne, um_um, uu_eq, uu_ne, uu_uu, vv_eq, vv_ne, vv_vv, ne_eq, not_false_eq_true, not_true_eq_false, reduceCtorEq, Int.reduceAdd, Int.reduceSub, Int.reduceMul, Int.reduceNeg, Nat.reduceEqDiff, or_true, true_or, true_implies, false_implies, Int.reduceLT, Int.reduceLE, Int.reduceEq]
        refine isg_y (N := um N 66 m) (by omega) (by omega) d.1 d.2 ?_
        simp (disch := first | omega | decide) only [mX0_mostOf_J45, ↓kh_c64, ↓kh_g64_0, ↓kh_g64_1, ↓kh_r66, ↓kh_w66, ↓kh_n66, ↓be_y, ↓be_n, ↓bf_y, ↓bf_n, ↓bl_y, ↓bl_n, ↓bm_y, ↓bm_n, ↓bg_y, ↓bg_n, ↓bs_y, ↓bs_n, ↓bo_y, ↓bo_n, ↓bp_y, ↓bp_n, ↓forall_eq, ↓within_y, ↓within_n, ↓isIn_y, ↓isIn_n, and_true, true_and, and_self, us_at, us_ne, w32_id, um_eq, um_ne, um_um, uu_eq, uu_ne, uu_uu, vv_eq, vv_ne, vv_vv, ne_eq, not_false_eq_true, not_true_eq_false, reduceCtorEq, Int.reduceAdd, Int.reduceSub, Int.reduceMul, Int.reduceNeg, Nat.reduceEqDiff, or_true, true_or, true_implies, false_implies, Int.reduceLT, Int.reduceLE, Int.reduceEq, rr, mx]
        exact g4 F Q q
    · obtain ⟨r, g1, g2, g3, g4⟩ := ih (i + 1) b (by omega) (by omega) hbb (h1.imp id (fun ⟨q, a, b⟩ => ⟨q, by omega, b⟩)) (fun q q0 q1 q2 q3 => by
        by_cases e : q = i
        · subst e
          exact absurd ⟨q2, by rw [hZ q h0 (by omega)]; exact q3⟩ d
        · exact h2 q q0 (by omega) q2 q3)
      refine ⟨r, g1, g2, g3, fun F Q q => ?_⟩
      rw [mX0_mostOf_L10]
      simp (disch := first | omega | decide) only [w32_id, ↓kh_c64, ↓kh_g64_0, ↓kh_g64_1, ↓be_y, ↓be_n, ↓bf_y, ↓bf_n, ↓bl_y, ↓bl_n, ↓bm_y, ↓bm_n, ↓bg_y, ↓bg_n, ↓bs_y, ↓bs_n, ↓bo_y, ↓bo_n, ↓bp_y, ↓bp_n, ↓forall_eq, ↓within_y, ↓within_n, ↓isIn_y, ↓isIn_n, and_true, true_and, and_self, us_at, us_ne, w32_id, um_eq, um_ne, um_um, uu_eq, uu_ne, uu_uu, vv_eq, vv_ne, vv_vv, ne_eq, not_false_eq_true, not_true_eq_false, reduceCtorEq, Int.reduceAdd, Int.reduceSub, Int.reduceMul, Int.reduceNeg, Nat.reduceEqDiff, or_true, true_or, true_implies, false_implies, Int.reduceLT, Int.reduceLE, Int.reduceEq]
      refine isg_n (N := um N 66 m) (by omega) (by omega) (by rw [hZ i h0 (by omega)]; exact hb i (by omega) (by omega)) d ?_
      simp (disch := first | omega | decide) only [mX0_mostOf_J45, ↓kh_c64, ↓kh_g64_0, ↓kh_g64_1, ↓kh_r66, ↓kh_w66, ↓kh_n66, ↓be_y, ↓be_n, ↓bf_y, ↓bf_n, ↓bl_y, ↓bl_n, ↓bm_y, ↓bm_n, ↓bg_y, ↓bg_n, ↓bs_y, ↓bs_n, ↓bo_y, ↓bo_n, ↓bp_y, ↓bp_n, ↓forall_eq, ↓within_y, ↓within_n, ↓isIn_y, ↓isIn_n, and_true, true_and, and_self, us_at, us_ne, w32_id, um_eq, um_ne, um_um, uu_eq, uu_ne, uu_uu, vv_eq, vv_ne, vv_vv, ne_eq, not_false_eq_true, not_true_eq_false, reduceCtorEq, Int.reduceAdd, Int.reduceSub, Int.reduceMul, Int.reduceNeg, Nat.reduceEqDiff, or_true, true_or, true_implies, false_implies, Int.reduceLT, Int.reduceLE, Int.reduceEq]
      exact g4 F Q q
theorem EqC_u {A m : Int → Int} {s r p : Int} (h : EqC A m p) (hp : 1 ≤ p ∧ p < s) (hs : s < 64) : EqC A (us m s r) p := by
  obtain ⟨h1, h2, h3⟩ := h
  have e : us m s r p = m p := us_ne (by omega)
  have e2 : ∀ q, 1 ≤ q → q < p → VP p q → us m s r (rst p q) = m (rst p q) := fun q q0 q1 hv => us_ne (by have := rst_b (s := p) (p := q) (by omega) (by omega) hv.1; omega)
  refine ⟨by rw [e]; exact h1, fun d => by rw [e]; exact h2 d, fun d => ?_⟩
  obtain ⟨k1, k2, k3⟩ := h3 d
  refine ⟨by rw [e]; exact k1, ?_, fun q q0 q1 q2 q3 => by rw [e, e2 q q0 q1 q2]; exact k3 q q0 q1 q2 q3⟩
  rw [e]
  rcases k2 with k | ⟨q, q1, q2, q3, q4⟩
  · exact .inl k
  · exact .inr ⟨q, q1, q2, q3, by rw [e2 q q1.1 q1.2 q2]; exact q4⟩
theorem weigh_l {A : Int → Int} (hB : ∀ r, 0 ≤ r → r < 6 → N 20 r = A (61 + r)) (hb : ∀ p, 0 ≤ p → p < 64 → -2147483648 ≤ sof A p ∧ sof A p ≤ 2147483647) : ∀ (k : Nat) (s : Int) (Z m : Int → Int), s + k = 64 → 1 ≤ s → (∀ p, 1 ≤ p → p < s → Z p = sof A p) → (∀ p, 1 ≤ p → p < s → EqC A m p) → ∃ Z' m', (∀ p, 1 ≤ p → p < 64 → Z' p = sof A p) ∧ (∀ p, 1 ≤ p → p < 64 → EqC A m' p) ∧ ∀ (F : hp) (Q : hp → Prop), Q (kh F v (um (um N 66 m') 65 Z') T) → mX0_weighSets_L2 Q (k + 1) 64 (some 20) s (kh F v (um (um N 66 m) 65 Z) T) := by
  intro k
  induction k with
  | zero =>
    intro s Z m hs h0 h1 h2
    obtain rfl : s = 64 := by omega
    refine ⟨Z, m, h1, h2, fun F Q q => ?_⟩
    rw [mX0_weighSets_L2]
    simp (disch := first | omega | decide) only [w32_id, ↓kh_c64, ↓kh_g64_0, ↓kh_g64_1, ↓be_y, ↓be_n, ↓bf_y, ↓bf_n, ↓bl_y, ↓bl_n, ↓bm_y, ↓bm_n, ↓bg_y, ↓bg_n, ↓bs_y, ↓bs_n, ↓bo_y, ↓bo_n, ↓bp_y, ↓bp_n, ↓forall_eq, ↓within_y, ↓within_n, ↓isIn_y, ↓isIn_n, and_true, true_and, and_self, us_at, us_ne, w32_id, um_eq, um_ne, um_um, uu_eq, uu_ne, uu_uu, vv_eq, vv_ne, vv_vv, ne_eq, not_false_eq_true, not_true_eq_false, reduceCtorEq, Int.reduceAdd, Int.reduceSub, Int.reduceMul, Int.reduceNeg, Nat.reduceEqDiff, or_true, true_or, true_implies, false_implies, Int.reduceLT, Int.reduceLE, Int.reduceEq]
    exact q
  | succ k ih =>
    intro s Z m hs h0 h1 h2
    have sb := hb s (by omega) (by omega)
    have hZ : ∀ p, 1 ≤ p → p ≤ s → us Z s (sof A s) p = sof A p := fun p p0 p1 => by
      by_cases e : p = s
      · subst e; exact us_eq _ _ _
      · rw [us_ne e]; exact h1 p p0 (by omega)
    by_cases d : sof A s = 0
    · obtain ⟨r, g1, g2, g3, g4⟩ := most_l (v := v) (N := N) (T := T) (A := A) (Z := us Z s (sof A s)) (m := m) (s := s) (by omega) hZ hb (fun p p0 p1 => (h2 p p0 p1).1) (s - 1).toNat 1 1 (by omega) (by omega) (by omega) (.inl rfl) (fun q q0 q1 => by omega)
      have hn : EqC A (us m s r) s := by
        have e2 : ∀ q, 1 ≤ q → q < s → VP s q → us m s r (rst s q) = m (rst s q) := fun q q0 q1 hv => us_ne (by have := rst_b (s := s) (p := q) (by omega) (by omega) hv.1; omega)
        refine ⟨by rw [us_eq]; omega, fun d' => absurd d d', fun _ => ⟨by rw [us_eq]; omega, ?_, fun q q0 q1 q2 q3 => by rw [us_eq, e2 q q0 q1 q2]; exact g3 q q0 q1 q2 q3⟩⟩
        rw [us_eq]
        rcases g2 with e | ⟨q, q1, q2, q3, q4⟩
        · exact .inl e
        · exact .inr ⟨q, q1, q2, q3, by rw [e2 q q1.1 q1.2 q2]; exact q4⟩
      obtain ⟨Z', m', k1, k2, k3⟩ := ih (s + 1) (us Z s (sof A s)) (us m s r) (by omega) (by omega) (fun p p0 p1 => hZ p p0 (by omega)) (fun p p0 p1 => by
        by_cases e : p = s
        · subst e; exact hn
        · exact EqC_u (h2 p p0 (by omega)) (by omega) (by omega))
      refine ⟨Z', m', k1, k2, fun F Q q => ?_⟩
      rw [mX0_weighSets_L2]
      simp (disch := first | omega | decide) only [w32_id, ↓kh_c64, ↓kh_g64_0, ↓kh_g64_1, ↓be_y, ↓be_n, ↓bf_y, ↓bf_n, ↓bl_y, ↓bl_n, ↓bm_y, ↓bm_n, ↓bg_y, ↓bg_n, ↓bs_y, ↓bs_n, ↓bo_y, ↓bo_n, ↓bp_y, ↓bp_n, ↓forall_eq, ↓within_y, ↓within_n, ↓isIn_y, ↓isIn_n, and_true, true_and, and_self, us_at, us_ne, w32_id, um_eq, um_ne, um_um, uu_eq, uu_ne, uu_uu, vv_eq, vv_ne, vv_vv, ne_eq, not_false_eq_true, not_true_eq_false, reduceCtorEq, Int.reduceAdd, Int.reduceSub, Int.reduceMul, Int.reduceNeg, Nat.reduceEqDiff, or_true, true_or, true_implies, false_implies, Int.reduceLT, Int.reduceLE, Int.reduceEq]
      refine sums_c (N := um (um N 66 m) 65 Z) (by omega) hB ?_
      simp (disch := first | omega | decide) only [mX0_mostOf, ↓kh_c64, ↓kh_g64_0, ↓kh_g64_1, ↓kh_r65, ↓kh_w65, ↓kh_n65, ↓kh_r66, ↓kh_w66, ↓kh_n66, ↓be_y, ↓be_n, ↓bf_y, ↓bf_n, ↓bl_y, ↓bl_n, ↓bm_y, ↓bm_n, ↓bg_y, ↓bg_n, ↓bs_y, ↓bs_n, ↓bo_y, ↓bo_n, ↓bp_y, ↓bp_n, ↓forall_eq, ↓within_y, ↓within_n, ↓isIn_y, ↓isIn_n, and_true, true_and, and_self, us_at, us_ne, w32_id, um_eq, um_ne, um_um, uu_eq, uu_ne, uu_uu, vv_eq, vv_ne, vv_vv, ne_eq, not_false_eq_true, not_true_eq_false, reduceCtorEq, Int.reduceAdd, Int.reduceSub, Int.reduceMul, Int.reduceNeg, Nat.reduceEqDiff, or_true, true_or, true_implies, false_implies, Int.reduceLT, Int.reduceLE, Int.reduceEq]
      refine ⟨_, g4 F _ ?_⟩
      simp (disch := first | omega | decide) only [mX0_weighSets_J42, ↓kh_c64, ↓kh_g64_0, ↓kh_g64_1, ↓kh_r65, ↓kh_w65, ↓kh_n65, ↓kh_r66, ↓kh_w66, ↓kh_n66, ↓be_y, ↓be_n, ↓bf_y, ↓bf_n, ↓bl_y, ↓bl_n, ↓bm_y, ↓bm_n, ↓bg_y, ↓bg_n, ↓bs_y, ↓bs_n, ↓bo_y, ↓bo_n, ↓bp_y, ↓bp_n, ↓forall_eq, ↓within_y, ↓within_n, ↓isIn_y, ↓isIn_n, and_true, true_and, and_self, us_at, us_ne, w32_id, um_eq, um_ne, um_um, uu_eq, uu_ne, uu_uu, vv_eq, vv_ne, vv_vv, ne_eq, not_false_eq_true, not_true_eq_false, reduceCtorEq, Int.reduceAdd, Int.reduceSub, Int.reduceMul, Int.reduceNeg, Nat.reduceEqDiff, or_true, true_or, true_implies, false_implies, Int.reduceLT, Int.reduceLE, Int.reduceEq, um_66]
      exact k3 F Q q
    · have hn : EqC A (us m s (-1)) s := ⟨by rw [us_eq]; omega, fun _ => us_eq _ _ _, fun d' => absurd d' d⟩
      obtain ⟨Z', m', k1, k2, k3⟩ := ih (s + 1) (us Z s (sof A s)) (us m s (-1)) (by omega) (by omega) (fun p p0 p1 => hZ p p0 (by omega)) (fun p p0 p1 => by
        by_cases e : p = s
        · subst e; exact hn
        · exact EqC_u (h2 p p0 (by omega)) (by omega) (by omega))
      refine ⟨Z', m', k1, k2, fun F Q q => ?_⟩
      rw [mX0_weighSets_L2]
      simp (disch := first | omega | decide) only [w32_id, ↓kh_c64, ↓kh_g64_0, ↓kh_g64_1, ↓be_y, ↓be_n, ↓bf_y, ↓bf_n, ↓bl_y, ↓bl_n, ↓bm_y, ↓bm_n, ↓bg_y, ↓bg_n, ↓bs_y, ↓bs_n, ↓bo_y, ↓bo_n, ↓bp_y, ↓bp_n, ↓forall_eq, ↓within_y, ↓within_n, ↓isIn_y, ↓isIn_n, and_true, true_and, and_self, us_at, us_ne, w32_id, um_eq, um_ne, um_um, uu_eq, uu_ne, uu_uu, vv_eq, vv_ne, vv_vv, ne_eq, not_false_eq_true, not_true_eq_false, reduceCtorEq, Int.reduceAdd, Int.reduceSub, Int.reduceMul, Int.reduceNeg, Nat.reduceEqDiff, or_true, true_or, true_implies, false_implies, Int.reduceLT, Int.reduceLE, Int.reduceEq]
      refine sums_c (N := um (um N 66 m) 65 Z) (by omega) hB ?_
      simp (disch := first | omega | decide) only [mX0_weighSets_J42, ↓kh_c64, ↓kh_g64_0, ↓kh_g64_1, ↓kh_r65, ↓kh_w65, ↓kh_n65, ↓kh_r66, ↓kh_w66, ↓kh_n66, ↓be_y, ↓be_n, ↓bf_y, ↓bf_n, ↓bl_y, ↓bl_n, ↓bm_y, ↓bm_n, ↓bg_y, ↓bg_n, ↓bs_y, ↓bs_n, ↓bo_y, ↓bo_n, ↓bp_y, ↓bp_n, ↓forall_eq, ↓within_y, ↓within_n, ↓isIn_y, ↓isIn_n, and_true, true_and, and_self, us_at, us_ne, w32_id, um_eq, um_ne, um_um, uu_eq, uu_ne, uu_uu, vv_eq, vv_ne, vv_vv, ne_eq, not_false_eq_true, not_true_eq_false, reduceCtorEq, Int.reduceAdd, Int.reduceSub, Int.reduceMul, Int.reduceNeg, Nat.reduceEqDiff, or_true, true_or, true_implies, false_implies, Int.reduceLT, Int.reduceLE, Int.reduceEq, um_66]
      exact k3 F Q q
-- the reference's
def CUR (A g : Int → Int) (s p c : Int) : Prop := c = -1 ∨ s = 0 ∨ ∃ q, (1 ≤ q ∧ p < q ∧ q ≤ s) ∧ VP s q ∧ sof A q = 0 ∧ g (rst s q) ≠ -1 ∧ c = 1 + g (rst s q)
theorem CUR_m {A g : Int → Int} {s p p' c : Int} (h : CUR A g s p c) (hp : p' ≤ p) : CUR A g s p' c := by
  rcases h with h | h | ⟨q, a, b⟩
  · exact .inl h
  · exact .inr (.inl h)
  · exact .inr (.inr ⟨q, by omega, b⟩)
theorem lay_i2 {g : Int → Int} {s : Int} (hs : 0 ≤ s ∧ s < 64) (hb : ∀ p, 0 ≤ p → p < 64 → -2147483648 ≤ sof (M 70) p ∧ sof (M 70) p ≤ 2147483647) (hg : ∀ p, 0 ≤ p → p < s → -1 ≤ g p ∧ g p ≤ p) : ∀ (k : Nat) (p c : Int), p ≤ k → 0 ≤ p ∧ p ≤ s → p.toNat &&& s.toNat = p.toNat → -1 ≤ c ∧ c ≤ s → CUR (M 70) g s p c → (∀ q, 1 ≤ q → p < q → q ≤ s → VP s q → sof (M 70) q = 0 → g (rst s q) ≠ -1 → 1 + g (rst s q) ≤ c) → ∃ c', (-1 ≤ c' ∧ c' ≤ s) ∧ CUR (M 70) g s 0 c' ∧ (∀ q, 1 ≤ q → q ≤ s → VP s q → sof (M 70) q = 0 → g (rst s q) ≠ -1 → 1 + g (rst s q) ≤ c') ∧ (s = 0 → c' = c) ∧ ∀ (F : hp) (X : Nat → Int → hp → Prop) (Q : hp → Prop), X 69 (s + 1) (rh F u (um M 86 (us g s c'))) → mX12_layGroups_L25 X Q (k + 1) 69 s p (rh F u (um M 86 (us g s c))) := by
  intro k
  induction k with
  | zero =>
    intro p c hk hp hsub hc h1 h2
    obtain rfl : p = 0 := by omega
    refine ⟨c, hc, h1, fun q q0 q1 => h2 q q0 (by omega) q1, fun _ => rfl, fun F X Q q => ?_⟩
    rw [mX12_layGroups_L25]
    simp (disch := first | omega | decide) only [w32_id, ↓rh_rcv, ↓rh_g0, ↓be_y, ↓be_n, ↓bf_y, ↓bf_n, ↓bl_y, ↓bl_n, ↓bm_y, ↓bm_n, ↓bg_y, ↓bg_n, ↓bs_y, ↓bs_n, ↓bo_y, ↓bo_n, ↓bp_y, ↓bp_n, ↓forall_eq, ↓within_y, ↓within_n, ↓isIn_y, ↓isIn_n, and_true, true_and, and_self, us_at, us_ne, w32_id, um_eq, um_ne, um_um, uu_eq, uu_ne, uu_uu, vv_eq, vv_ne, vv_vv, ne_eq, not_false_eq_true, not_true_eq_false, reduceCtorEq, Int.reduceAdd, Int.reduceSub, Int.reduceMul, Int.reduceNeg, Nat.reduceEqDiff, or_true, true_or, true_implies, false_implies, Int.reduceLT, Int.reduceLE, Int.reduceEq]
    exact q
  | succ k ih =>
    intro p c hk hp hsub hc h1 h2
    by_cases d0 : p = 0
    · subst d0
      refine ⟨c, hc, h1, fun q q0 q1 => h2 q q0 (by omega) q1, fun _ => rfl, fun F X Q q => ?_⟩
      rw [mX12_layGroups_L25]
      simp (disch := first | omega | decide) only [w32_id, ↓rh_rcv, ↓rh_g0, ↓be_y, ↓be_n, ↓bf_y, ↓bf_n, ↓bl_y, ↓bl_n, ↓bm_y, ↓bm_n, ↓bg_y, ↓bg_n, ↓bs_y, ↓bs_n, ↓bo_y, ↓bo_n, ↓bp_y, ↓bp_n, ↓forall_eq, ↓within_y, ↓within_n, ↓isIn_y, ↓isIn_n, and_true, true_and, and_self, us_at, us_ne, w32_id, um_eq, um_ne, um_um, uu_eq, uu_ne, uu_uu, vv_eq, vv_ne, vv_vv, ne_eq, not_false_eq_true, not_true_eq_false, reduceCtorEq, Int.reduceAdd, Int.reduceSub, Int.reduceMul, Int.reduceNeg, Nat.reduceEqDiff, or_true, true_or, true_implies, false_implies, Int.reduceLT, Int.reduceLE, Int.reduceEq]
      exact q
    · obtain ⟨t1, t2, t3⟩ := vp_t4 (s := s.toNat) (q := p.toNat) (by omega) (by omega) (by omega) hsub
      have e' : iAnd (p - 1) s = (((p.toNat - 1) &&& s.toNat : Nat) : Int) := by
        have := iAnd_n (a := p.toNat - 1) (b := s.toNat) (by omega)
        rw [show ((p.toNat - 1 : Nat) : Int) = p - 1 by omega, Int.toNat_of_nonneg hs.1] at this
        exact this
      generalize hp' : (p.toNat - 1) &&& s.toNat = p' at t1 t2 t3 e'
      have nb : ∀ q, 1 ≤ q → (p' : Int) < q → q ≤ s → VP s q → q = p ∨ p < q := fun q q0 q1 q2 q3 => by
        by_cases e : p ≤ q
        · omega
        · have sq := (sub_i hs (show 0 ≤ q ∧ q < 64 by omega)).mp q3.1
          have := t3 q.toNat (by omega) sq
          omega
      have bb := ib_b hs (show 0 ≤ p ∧ p < 64 by omega)
      have sb := hb p (by omega) (by omega)
      have vsub : iAnd p (iXor s (-1)) = 0 := (sub_i hs (by omega)).mpr hsub
      have rr : iAnd s (iXor p (-1)) = rst s p := rfl
      have rg := rst_g hs (show 0 ≤ p ∧ p < 64 by omega)
      have rlt : rst s p < s := by
        by_cases e : p = s
        · subst e; have := (rst_s (s := p) (by omega)).1; omega
        · exact (rst_b hs (by omega) vsub).2
      have gb := hg (rst s p) rg.1 rlt
      have ur : us g s c (rst s p) = g (rst s p) := us_ne (by omega)
      by_cases d1 : VP s p ∧ sof (M 70) p = 0 ∧ g (rst s p) ≠ -1
      · obtain ⟨dv, ds, dg⟩ := d1
        have v2 := dv.2
        by_cases d2 : c < 1 + g (rst s p)
        · obtain ⟨c', g1, g2, g3, g4, g5⟩ := ih p' (1 + g (rst s p)) (by omega) (by omega) (by rw [Int.toNat_natCast]; exact t1) (by omega) (.inr (.inr ⟨p, by omega, dv, ds, dg, rfl⟩)) (fun q q0 q1 q2 q3 q4 q5 => by
            rcases nb q q0 q1 q2 q3 with e | e
            · subst e; omega
            · have := h2 q q0 e q2 q3 q4 q5; omega)
          refine ⟨c', g1, g2, g3, fun e => by omega, fun F X Q q => ?_⟩
          rw [mX12_layGroups_L25]
          simp (disch := first | omega | decide) only [mX12_lowBit, ↓rh_rcv, ↓rh_g0, ↓be_y, ↓be_n, ↓bf_y, ↓bf_n, ↓bl_y, ↓bl_n, ↓bm_y, ↓bm_n, ↓bg_y, ↓bg_n, ↓bs_y, ↓bs_n, ↓bo_y, ↓bo_n, ↓bp_y, ↓bp_n, ↓forall_eq, ↓within_y, ↓within_n, ↓isIn_y, ↓isIn_n, and_true, true_and, and_self, us_at, us_ne, w32_id, um_eq, um_ne, um_um, uu_eq, uu_ne, uu_uu, vv_eq, vv_ne, vv_vv, ne_eq, not_false_eq_true, not_true_eq_false, reduceCtorEq, Int.reduceAdd, Int.reduceSub, Int.reduceMul, Int.reduceNeg, Nat.reduceEqDiff, or_true, true_or, true_implies, false_implies, Int.reduceLT, Int.reduceLE, Int.reduceEq]
          refine sums_r (M := um M 86 (us g s c)) (by omega) ?_
          simp (disch := first | omega | decide) only [mX12_layGroups_J101, mX12_layGroups_J102, ↓rh_rcv, ↓rh_g0, ↓rh_g34, ↓rh_r86, ↓rh_w86, ↓be_y, ↓be_n, ↓bf_y, ↓bf_n, ↓bl_y, ↓bl_n, ↓bm_y, ↓bm_n, ↓bg_y, ↓bg_n, ↓bs_y, ↓bs_n, ↓bo_y, ↓bo_n, ↓bp_y, ↓bp_n, ↓forall_eq, ↓within_y, ↓within_n, ↓isIn_y, ↓isIn_n, and_true, true_and, and_self, us_at, us_ne, w32_id, um_eq, um_ne, um_um, uu_eq, uu_ne, uu_uu, vv_eq, vv_ne, vv_vv, ne_eq, not_false_eq_true, not_true_eq_false, reduceCtorEq, Int.reduceAdd, Int.reduceSub, Int.reduceMul, Int.reduceNeg, Nat.reduceEqDiff, or_true, true_or, true_implies, false_implies, Int.reduceLT, Int.reduceLE, Int.reduceEq, ds, rr, ur, e', us_us]
          exact g5 F X Q q
        · obtain ⟨c', g1, g2, g3, g4, g5⟩ := ih p' c (by omega) (by omega) (by rw [Int.toNat_natCast]; exact t1) hc (CUR_m h1 (by omega)) (fun q q0 q1 q2 q3 q4 q5 => by
            rcases nb q q0 q1 q2 q3 with e | e
            · subst e; omega
            · exact h2 q q0 e q2 q3 q4 q5)
          refine ⟨c', g1, g2, g3, g4, fun F X Q q => ?_⟩
          rw [mX12_layGroups_L25]
          simp (disch := first | omega | decide) only [mX12_lowBit, ↓rh_rcv, ↓rh_g0, ↓be_y, ↓be_n, ↓bf_y, ↓bf_n, ↓bl_y, ↓bl_n, ↓bm_y, ↓bm_n, ↓bg_y, ↓bg_n, ↓bs_y, ↓bs_n, ↓bo_y, ↓bo_n, ↓bp_y, ↓bp_n, ↓forall_eq, ↓within_y, ↓within_n, ↓isIn_y, ↓isIn_n, and_true, true_and, and_self, us_at, us_ne, w32_id, um_eq, um_ne, um_um, uu_eq, uu_ne, uu_uu, vv_eq, vv_ne, vv_vv, ne_eq, not_false_eq_true, not_true_eq_false, reduceCtorEq, Int.reduceAdd, Int.reduceSub, Int.reduceMul, Int.reduceNeg, Nat.reduceEqDiff, or_true, true_or, true_implies, false_implies, Int.reduceLT, Int.reduceLE, Int.reduceEq]
          refine sums_r (M := um M 86 (us g s c)) (by omega) ?_
          simp (disch := first | omega | decide) only [mX12_layGroups_J101, mX12_layGroups_J102, ↓rh_rcv, ↓rh_g0, ↓rh_g34, ↓rh_r86, ↓rh_w86, ↓be_y, ↓be_n, ↓bf_y, ↓bf_n, ↓bl_y, ↓bl_n, ↓bm_y, ↓bm_n, ↓bg_y, ↓bg_n, ↓bs_y, ↓bs_n, ↓bo_y, ↓bo_n, ↓bp_y, ↓bp_n, ↓forall_eq, ↓within_y, ↓within_n, ↓isIn_y, ↓isIn_n, and_true, true_and, and_self, us_at, us_ne, w32_id, um_eq, um_ne, um_um, uu_eq, uu_ne, uu_uu, vv_eq, vv_ne, vv_vv, ne_eq, not_false_eq_true, not_true_eq_false, reduceCtorEq, Int.reduceAdd, Int.reduceSub, Int.reduceMul, Int.reduceNeg, Nat.reduceEqDiff, or_true, true_or, true_implies, false_implies, Int.reduceLT, Int.reduceLE, Int.reduceEq, ds, rr, ur, e', us_us]
          exact g5 F X Q q
      · obtain ⟨c', g1, g2, g3, g4, g5⟩ := ih p' c (by omega) (by omega) (by rw [Int.toNat_natCast]; exact t1) hc (CUR_m h1 (by omega)) (fun q q0 q1 q2 q3 q4 q5 => by
          rcases nb q q0 q1 q2 q3 with e | e
          · subst e; exact absurd ⟨q3, q4, q5⟩ d1
          · exact h2 q q0 e q2 q3 q4 q5)
        refine ⟨c', g1, g2, g3, g4, fun F X Q q => ?_⟩
        rw [mX12_layGroups_L25]
        by_cases w1 : iAnd p (iAnd s (-s)) = 0
        · simp (disch := first | omega | decide) only [mX12_lowBit, mX12_layGroups_J102, ↓rh_rcv, ↓rh_g0, ↓be_y, ↓be_n, ↓bf_y, ↓bf_n, ↓bl_y, ↓bl_n, ↓bm_y, ↓bm_n, ↓bg_y, ↓bg_n, ↓bs_y, ↓bs_n, ↓bo_y, ↓bo_n, ↓bp_y, ↓bp_n, ↓forall_eq, ↓within_y, ↓within_n, ↓isIn_y, ↓isIn_n, and_true, true_and, and_self, us_at, us_ne, w32_id, um_eq, um_ne, um_um, uu_eq, uu_ne, uu_uu, vv_eq, vv_ne, vv_vv, ne_eq, not_false_eq_true, not_true_eq_false, reduceCtorEq, Int.reduceAdd, Int.reduceSub, Int.reduceMul, Int.reduceNeg, Nat.reduceEqDiff, or_true, true_or, true_implies, false_implies, Int.reduceLT, Int.reduceLE, Int.reduceEq, e']
          exact g5 F X Q q
        · simp (disch := first | omega | decide) only [mX12_lowBit, ↓rh_rcv, ↓rh_g0, ↓be_y, ↓be_n, ↓bf_y, ↓bf_n, ↓bl_y, ↓bl_n, ↓bm_y, ↓bm_n, ↓bg_y, ↓bg_n, ↓bs_y, ↓bs_n, ↓bo_y, ↓bo_n, ↓bp_y, ↓bp_n, ↓forall_eq, ↓within_y, ↓within_n, ↓isIn_y, ↓isIn_n, and_true, true_and, and_self, us_at, us_ne, w32_id, um_eq, um_ne, um_um, uu_eq, uu_ne, uu_uu, vv_eq, vv_ne, vv_vv, ne_eq, not_false_eq_true, not_true_eq_false, reduceCtorEq, Int.reduceAdd, Int.reduceSub, Int.reduceMul, Int.reduceNeg, Nat.reduceEqDiff, or_true, true_or, true_implies, false_implies, Int.reduceLT, Int.reduceLE, Int.reduceEq]
          refine sums_r (M := um M 86 (us g s c)) (by omega) ?_
          by_cases w2 : sof (M 70) p = 0
          · have w3 : g (rst s p) = -1 := Classical.byContradiction (fun e => d1 ⟨⟨vsub, w1⟩, w2, e⟩)
            simp (disch := first | omega | decide) only [mX12_layGroups_J102, ↓rh_rcv, ↓rh_g0, ↓rh_g34, ↓rh_r86, ↓rh_w86, ↓be_y, ↓be_n, ↓bf_y, ↓bf_n, ↓bl_y, ↓bl_n, ↓bm_y, ↓bm_n, ↓bg_y, ↓bg_n, ↓bs_y, ↓bs_n, ↓bo_y, ↓bo_n, ↓bp_y, ↓bp_n, ↓forall_eq, ↓within_y, ↓within_n, ↓isIn_y, ↓isIn_n, and_true, true_and, and_self, us_at, us_ne, w32_id, um_eq, um_ne, um_um, uu_eq, uu_ne, uu_uu, vv_eq, vv_ne, vv_vv, ne_eq, not_false_eq_true, not_true_eq_false, reduceCtorEq, Int.reduceAdd, Int.reduceSub, Int.reduceMul, Int.reduceNeg, Nat.reduceEqDiff, or_true, true_or, true_implies, false_implies, Int.reduceLT, Int.reduceLE, Int.reduceEq, w2, rr, ur, w3, e']
            exact g5 F X Q q
          · simp (disch := first | omega | decide) only [mX12_layGroups_J102, ↓rh_rcv, ↓rh_g0, ↓rh_g34, ↓rh_r86, ↓rh_w86, ↓be_y, ↓be_n, ↓bf_y, ↓bf_n, ↓bl_y, ↓bl_n, ↓bm_y, ↓bm_n, ↓bg_y, ↓bg_n, ↓bs_y, ↓bs_n, ↓bo_y, ↓bo_n, ↓bp_y, ↓bp_n, ↓forall_eq, ↓within_y, ↓within_n, ↓isIn_y, ↓isIn_n, and_true, true_and, and_self, us_at, us_ne, w32_id, um_eq, um_ne, um_um, uu_eq, uu_ne, uu_uu, vv_eq, vv_ne, vv_vv, ne_eq, not_false_eq_true, not_true_eq_false, reduceCtorEq, Int.reduceAdd, Int.reduceSub, Int.reduceMul, Int.reduceNeg, Nat.reduceEqDiff, or_true, true_or, true_implies, false_implies, Int.reduceLT, Int.reduceLE, Int.reduceEq, e']
            exact g5 F X Q q
theorem EqM_u {A m : Int → Int} {s r p : Int} (h : EqM A m p) (hp : 1 ≤ p ∧ p < s) (hs : s < 64) : EqM A (us m s r) p := by
  obtain ⟨h1, h2, h3⟩ := h
  have e : us m s r p = m p := us_ne (by omega)
  have e2 : ∀ q, 1 ≤ q → q ≤ p → us m s r (rst p q) = m (rst p q) := fun q q0 q1 => us_ne (by have := rst_g (s := p) (p := q) (by omega) (by omega); omega)
  refine ⟨by rw [e]; exact h1, ?_, fun q q0 q1 q2 q3 q4 => by rw [e2 q q0 q1] at q4 ⊢; rw [e]; exact h3 q q0 q1 q2 q3 q4⟩
  rw [e]
  rcases h2 with k | ⟨q, q1, q2, q3, q4, q5⟩
  · exact .inl k
  · exact .inr ⟨q, q1, q2, q3, by rw [e2 q q1.1 q1.2]; exact q4, by rw [e2 q q1.1 q1.2]; exact q5⟩
theorem lay_o2 (hb : ∀ p, 0 ≤ p → p < 64 → -2147483648 ≤ sof (M 70) p ∧ sof (M 70) p ≤ 2147483647) : ∀ (k : Nat) (s : Int) (g : Int → Int), s + k = 64 → 0 ≤ s → (0 < s → g 0 = 0) → (∀ p, 1 ≤ p → p < s → EqM (M 70) g p) → ∃ g', g' 0 = 0 ∧ (∀ p, 1 ≤ p → p < 64 → EqM (M 70) g' p) ∧ ∀ (F : hp) (Q : hp → Prop), Q (rh F u (um M 86 g')) → mX12_layGroups_L2 Q (k + 1) 69 s (rh F u (um M 86 g)) := by
  intro k
  induction k with
  | zero =>
    intro s g hs h0 h1 h2
    obtain rfl : s = 64 := by omega
    refine ⟨g, h1 (by omega), h2, fun F Q q => ?_⟩
    rw [mX12_layGroups_L2]
    simp (disch := first | omega | decide) only [w32_id, ↓rh_rcv, ↓rh_g0, ↓be_y, ↓be_n, ↓bf_y, ↓bf_n, ↓bl_y, ↓bl_n, ↓bm_y, ↓bm_n, ↓bg_y, ↓bg_n, ↓bs_y, ↓bs_n, ↓bo_y, ↓bo_n, ↓bp_y, ↓bp_n, ↓forall_eq, ↓within_y, ↓within_n, ↓isIn_y, ↓isIn_n, and_true, true_and, and_self, us_at, us_ne, w32_id, um_eq, um_ne, um_um, uu_eq, uu_ne, uu_uu, vv_eq, vv_ne, vv_vv, ne_eq, not_false_eq_true, not_true_eq_false, reduceCtorEq, Int.reduceAdd, Int.reduceSub, Int.reduceMul, Int.reduceNeg, Nat.reduceEqDiff, or_true, true_or, true_implies, false_implies, Int.reduceLT, Int.reduceLE, Int.reduceEq]
    exact q
  | succ k ih =>
    intro s g hs h0 h1 h2
    have gb : ∀ p, 0 ≤ p → p < s → -1 ≤ g p ∧ g p ≤ p := fun p p0 p1 => by
      by_cases e : p = 0
      · subst e; rw [h1 (by omega)]; omega
      · exact (h2 p (by omega) p1).1
    by_cases d : s = 0
    · subst d
      obtain ⟨g', k1, k2, k3⟩ := ih 1 (us g 0 0) (by omega) (by omega) (fun _ => us_eq _ _ _) (fun p p0 p1 => by omega)
      obtain ⟨c', -, -, -, l4, l5⟩ := lay_i2 (u := u) (M := M) (g := g) (s := 0) (by omega) hb gb 0 0 0 (by omega) (by omega) (by decide) (by omega) (.inr (.inl rfl)) (fun q q0 q1 q2 => by omega)
      rw [l4 rfl] at l5
      refine ⟨g', k1, k2, fun F Q q => ?_⟩
      rw [mX12_layGroups_L2]
      simp (disch := first | omega | decide) only [mX12_layGroups_J22, ↓rh_rcv, ↓rh_g0, ↓rh_g34, ↓rh_r86, ↓rh_w86, ↓be_y, ↓be_n, ↓bf_y, ↓bf_n, ↓bl_y, ↓bl_n, ↓bm_y, ↓bm_n, ↓bg_y, ↓bg_n, ↓bs_y, ↓bs_n, ↓bo_y, ↓bo_n, ↓bp_y, ↓bp_n, ↓forall_eq, ↓within_y, ↓within_n, ↓isIn_y, ↓isIn_n, and_true, true_and, and_self, us_at, us_ne, w32_id, um_eq, um_ne, um_um, uu_eq, uu_ne, uu_uu, vv_eq, vv_ne, vv_vv, ne_eq, not_false_eq_true, not_true_eq_false, reduceCtorEq, Int.reduceAdd, Int.reduceSub, Int.reduceMul, Int.reduceNeg, Nat.reduceEqDiff, or_true, true_or, true_implies, false_implies, Int.reduceLT, Int.reduceLE, Int.reduceEq]
      exact ⟨1, l5 _ _ _ (k3 F Q q)⟩
    · obtain ⟨c', l1, l2, l3, -, l5⟩ := lay_i2 (u := u) (M := M) (g := g) (s := s) (by omega) hb gb s.toNat s (-1) (by omega) (by omega) (Nat.and_self _) (by omega) (.inl rfl) (fun q q0 q1 q2 => by omega)
      have e2 : ∀ q, 1 ≤ q → q ≤ s → us g s c' (rst s q) = g (rst s q) ∨ ¬ VP s q := fun q q0 q1 => by
        by_cases hv : VP s q
        · left
          refine us_ne ?_
          by_cases e : q = s
          · subst e; have := (rst_s (s := q) (by omega)).1; omega
          · have := rst_b (s := s) (p := q) (by omega) (by omega) hv.1; omega
        · exact .inr hv
      have hn : EqM (M 70) (us g s c') s := by
        refine ⟨by rw [us_eq]; exact l1, ?_, fun q q0 q1 q2 q3 q4 => ?_⟩
        · rw [us_eq]
          rcases l2 with e | e | ⟨q, q1, q2, q3, q4, q5⟩
          · exact .inl e
          · exact absurd e d
          · rcases e2 q q1.1 q1.2.2 with e | e
            · exact .inr ⟨q, ⟨q1.1, q1.2.2⟩, q2, q3, by rw [e]; exact q4, by rw [e]; exact q5⟩
            · exact absurd q2 e
        · rcases e2 q q0 q1 with e | e
          · rw [e] at q4 ⊢
            rw [us_eq]
            exact l3 q q0 q1 q2 q3 q4
          · exact absurd q2 e
      obtain ⟨g', k1, k2, k3⟩ := ih (s + 1) (us g s c') (by omega) (by omega) (fun _ => by rw [us_ne (by omega)]; exact h1 (by omega)) (fun p p0 p1 => by
        by_cases e : p = s
        · subst e; exact hn
        · exact EqM_u (h2 p p0 (by omega)) (by omega) (by omega))
      refine ⟨g', k1, k2, fun F Q q => ?_⟩
      rw [mX12_layGroups_L2]
      simp (disch := first | omega | decide) only [mX12_layGroups_J22, ↓rh_rcv, ↓rh_g0, ↓rh_g34, ↓rh_r86, ↓rh_w86, ↓be_y, ↓be_n, ↓bf_y, ↓bf_n, ↓bl_y, ↓bl_n, ↓bm_y, ↓bm_n, ↓bg_y, ↓bg_n, ↓bs_y, ↓bs_n, ↓bo_y, ↓bo_n, ↓bp_y, ↓bp_n, ↓forall_eq, ↓within_y, ↓within_n, ↓isIn_y, ↓isIn_n, and_true, true_and, and_self, us_at, us_ne, w32_id, um_eq, um_ne, um_um, uu_eq, uu_ne, uu_uu, vv_eq, vv_ne, vv_vv, ne_eq, not_false_eq_true, not_true_eq_false, reduceCtorEq, Int.reduceAdd, Int.reduceSub, Int.reduceMul, Int.reduceNeg, Nat.reduceEqDiff, or_true, true_or, true_implies, false_implies, Int.reduceLT, Int.reduceLE, Int.reduceEq]
      exact ⟨_, l5 _ _ _ (k3 F Q q)⟩
-- the lowest group
theorem lg_l {m g Z : Int → Int} {s : Int} (hs : 1 ≤ s ∧ s < 64) (hb : ∀ p, 0 ≤ p → p < 64 → -2147483648 ≤ sof (M 70) p ∧ sof (M 70) p ≤ 2147483647) (hZ : ∀ p, 1 ≤ p → p < 64 → Z p = sof (M 70) p) (hm : ∀ p, 1 ≤ p → p < 64 → -1 ≤ m p ∧ m p ≤ p) (hg : ∀ p, 1 ≤ p → p < 64 → m p = g p) : ∀ (k : Nat) (i : Int), i + k = s → 1 ≤ i → ∃ r, (1 ≤ r ∧ r ≤ s) ∧ VP s r ∧ (∀ (F : hp) (Q : Int → hp → Prop), Q r (kh F v (um (um N 66 m) 65 Z) T) → mX0_lowestGroup_L7 Q (k + 1) 64 s (iAnd s (-s)) i (kh F v (um (um N 66 m) 65 Z) T)) ∧ (∀ (F : hp) (Q : Int → hp → Prop), Q r (rh F u (um M 86 g)) → mX12_lowestGroup_L2 Q (k + 1) 69 s i (rh F u (um M 86 g))) := by
  intro k
  induction k with
  | zero =>
    intro i hi h0
    obtain rfl : i = s := by omega
    refine ⟨i, by omega, (rst_s (by omega)).2, fun F Q q => ?_, fun F Q q => ?_⟩
    · rw [mX0_lowestGroup_L7]
      simp (disch := first | omega | decide) only [w32_id, ↓kh_c64, ↓kh_g64_0, ↓kh_g64_1, ↓be_y, ↓be_n, ↓bf_y, ↓bf_n, ↓bl_y, ↓bl_n, ↓bm_y, ↓bm_n, ↓bg_y, ↓bg_n, ↓bs_y, ↓bs_n, ↓bo_y, ↓bo_n, ↓bp_y, ↓bp_n, ↓forall_eq, ↓within_y, ↓within_n, ↓isIn_y, ↓isIn_n, and_true, true_and, and_self, us_at, us_ne, w32_id, um_eq, um_ne, um_um, uu_eq, uu_ne, uu_uu, vv_eq, vv_ne, vv_vv, ne_eq, not_false_eq_true, not_true_eq_false, reduceCtorEq, Int.reduceAdd, Int.reduceSub, Int.reduceMul, Int.reduceNeg, Nat.reduceEqDiff, or_true, true_or, true_implies, false_implies, Int.reduceLT, Int.reduceLE, Int.reduceEq]
      exact q
    · rw [mX12_lowestGroup_L2]
      simp (disch := first | omega | decide) only [w32_id, ↓rh_rcv, ↓rh_g0, ↓be_y, ↓be_n, ↓bf_y, ↓bf_n, ↓bl_y, ↓bl_n, ↓bm_y, ↓bm_n, ↓bg_y, ↓bg_n, ↓bs_y, ↓bs_n, ↓bo_y, ↓bo_n, ↓bp_y, ↓bp_n, ↓forall_eq, ↓within_y, ↓within_n, ↓isIn_y, ↓isIn_n, and_true, true_and, and_self, us_at, us_ne, w32_id, um_eq, um_ne, um_um, uu_eq, uu_ne, uu_uu, vv_eq, vv_ne, vv_vv, ne_eq, not_false_eq_true, not_true_eq_false, reduceCtorEq, Int.reduceAdd, Int.reduceSub, Int.reduceMul, Int.reduceNeg, Nat.reduceEqDiff, or_true, true_or, true_implies, false_implies, Int.reduceLT, Int.reduceLE, Int.reduceEq]
      exact q
  | succ k ih =>
    intro i hi h0
    obtain ⟨r, g0, g1, g2, g3⟩ := ih (i + 1) (by omega) (by omega)
    have bb := ib_b (s := s) (p := i) (by omega) (by omega)
    have sb := hb i (by omega) (by omega)
    have zi := hZ i h0 (by omega)
    have rr : iAnd s (iXor i (-1)) = rst s i := rfl
    have rg := rst_g (s := s) (p := i) (by omega) (by omega)
    have ms := hm s (by omega) (by omega)
    have gs := hg s (by omega) (by omega)
    by_cases d : VP s i ∧ sof (M 70) i = 0
    · obtain ⟨dv, ds⟩ := d
      have v1 := dv.1
      have v2 := dv.2
      have rb := rst_b (s := s) (p := i) (by omega) (by omega) v1
      have mr := hm (rst s i) rb.1 (by omega)
      have gr := hg (rst s i) rb.1 (by omega)
      by_cases d2 : 1 + m (rst s i) = m s
      · refine ⟨i, by omega, dv, fun F Q q => ?_, fun F Q q => ?_⟩
        · rw [mX0_lowestGroup_L7]
          simp (disch := first | omega | decide) only [w32_id, ↓kh_c64, ↓kh_g64_0, ↓kh_g64_1, ↓be_y, ↓be_n, ↓bf_y, ↓bf_n, ↓bl_y, ↓bl_n, ↓bm_y, ↓bm_n, ↓bg_y, ↓bg_n, ↓bs_y, ↓bs_n, ↓bo_y, ↓bo_n, ↓bp_y, ↓bp_n, ↓forall_eq, ↓within_y, ↓within_n, ↓isIn_y, ↓isIn_n, and_true, true_and, and_self, us_at, us_ne, w32_id, um_eq, um_ne, um_um, uu_eq, uu_ne, uu_uu, vv_eq, vv_ne, vv_vv, ne_eq, not_false_eq_true, not_true_eq_false, reduceCtorEq, Int.reduceAdd, Int.reduceSub, Int.reduceMul, Int.reduceNeg, Nat.reduceEqDiff, or_true, true_or, true_implies, false_implies, Int.reduceLT, Int.reduceLE, Int.reduceEq]
          refine isg_y (N := um N 66 m) (by omega) (by omega) dv (by rw [zi]; exact ds) ?_
          simp (disch := first | omega | decide) only [w32_id, ↓kh_c64, ↓kh_g64_0, ↓kh_g64_1, ↓kh_r66, ↓kh_w66, ↓kh_n66, ↓be_y, ↓be_n, ↓bf_y, ↓bf_n, ↓bl_y, ↓bl_n, ↓bm_y, ↓bm_n, ↓bg_y, ↓bg_n, ↓bs_y, ↓bs_n, ↓bo_y, ↓bo_n, ↓bp_y, ↓bp_n, ↓forall_eq, ↓within_y, ↓within_n, ↓isIn_y, ↓isIn_n, and_true, true_and, and_self, us_at, us_ne, w32_id, um_eq, um_ne, um_um, uu_eq, uu_ne, uu_uu, vv_eq, vv_ne, vv_vv, ne_eq, not_false_eq_true, not_true_eq_false, reduceCtorEq, Int.reduceAdd, Int.reduceSub, Int.reduceMul, Int.reduceNeg, Nat.reduceEqDiff, or_true, true_or, true_implies, false_implies, Int.reduceLT, Int.reduceLE, Int.reduceEq, rr]
          exact q
        · rw [mX12_lowestGroup_L2]
          simp (disch := first | omega | decide) only [mX12_lowBit, ↓rh_rcv, ↓rh_g0, ↓be_y, ↓be_n, ↓bf_y, ↓bf_n, ↓bl_y, ↓bl_n, ↓bm_y, ↓bm_n, ↓bg_y, ↓bg_n, ↓bs_y, ↓bs_n, ↓bo_y, ↓bo_n, ↓bp_y, ↓bp_n, ↓forall_eq, ↓within_y, ↓within_n, ↓isIn_y, ↓isIn_n, and_true, true_and, and_self, us_at, us_ne, w32_id, um_eq, um_ne, um_um, uu_eq, uu_ne, uu_uu, vv_eq, vv_ne, vv_vv, ne_eq, not_false_eq_true, not_true_eq_false, reduceCtorEq, Int.reduceAdd, Int.reduceSub, Int.reduceMul, Int.reduceNeg, Nat.reduceEqDiff, or_true, true_or, true_implies, false_implies, Int.reduceLT, Int.reduceLE, Int.reduceEq]
          refine sums_r (M := um M 86 g) (by omega) ?_
          simp (disch := first | omega | decide) only [w32_id, ↓rh_rcv, ↓rh_g0, ↓rh_g34, ↓rh_r86, ↓rh_w86, ↓be_y, ↓be_n, ↓bf_y, ↓bf_n, ↓bl_y, ↓bl_n, ↓bm_y, ↓bm_n, ↓bg_y, ↓bg_n, ↓bs_y, ↓bs_n, ↓bo_y, ↓bo_n, ↓bp_y, ↓bp_n, ↓forall_eq, ↓within_y, ↓within_n, ↓isIn_y, ↓isIn_n, and_true, true_and, and_self, us_at, us_ne, w32_id, um_eq, um_ne, um_um, uu_eq, uu_ne, uu_uu, vv_eq, vv_ne, vv_vv, ne_eq, not_false_eq_true, not_true_eq_false, reduceCtorEq, Int.reduceAdd, Int.reduceSub, Int.reduceMul, Int.reduceNeg, Nat.reduceEqDiff, or_true, true_or, true_implies, false_implies, Int.reduceLT, Int.reduceLE, Int.reduceEq, ds, rr]
          exact q
      · refine ⟨r, g0, g1, fun F Q q => ?_, fun F Q q => ?_⟩
        · rw [mX0_lowestGroup_L7]
          simp (disch := first | omega | decide) only [w32_id, ↓kh_c64, ↓kh_g64_0, ↓kh_g64_1, ↓be_y, ↓be_n, ↓bf_y, ↓bf_n, ↓bl_y, ↓bl_n, ↓bm_y, ↓bm_n, ↓bg_y, ↓bg_n, ↓bs_y, ↓bs_n, ↓bo_y, ↓bo_n, ↓bp_y, ↓bp_n, ↓forall_eq, ↓within_y, ↓within_n, ↓isIn_y, ↓isIn_n, and_true, true_and, and_self, us_at, us_ne, w32_id, um_eq, um_ne, um_um, uu_eq, uu_ne, uu_uu, vv_eq, vv_ne, vv_vv, ne_eq, not_false_eq_true, not_true_eq_false, reduceCtorEq, Int.reduceAdd, Int.reduceSub, Int.reduceMul, Int.reduceNeg, Nat.reduceEqDiff, or_true, true_or, true_implies, false_implies, Int.reduceLT, Int.reduceLE, Int.reduceEq]
          refine isg_y (N := um N 66 m) (by omega) (by omega) dv (by rw [zi]; exact ds) ?_
          simp (disch := first | omega | decide) only [mX0_lowestGroup_J45, ↓kh_c64, ↓kh_g64_0, ↓kh_g64_1, ↓kh_r66, ↓kh_w66, ↓kh_n66, ↓be_y, ↓be_n, ↓bf_y, ↓bf_n, ↓bl_y, ↓bl_n, ↓bm_y, ↓bm_n, ↓bg_y, ↓bg_n, ↓bs_y, ↓bs_n, ↓bo_y, ↓bo_n, ↓bp_y, ↓bp_n, ↓forall_eq, ↓within_y, ↓within_n, ↓isIn_y, ↓isIn_n, and_true, true_and, and_self, us_at, us_ne, w32_id, um_eq, um_ne, um_um, uu_eq, uu_ne, uu_uu, vv_eq, vv_ne, vv_vv, ne_eq, not_false_eq_true, not_true_eq_false, reduceCtorEq, Int.reduceAdd, Int.reduceSub, Int.reduceMul, Int.reduceNeg, Nat.reduceEqDiff, or_true, true_or, true_implies, false_implies, Int.reduceLT, Int.reduceLE, Int.reduceEq, rr]
          exact g2 F Q q
        · rw [mX12_lowestGroup_L2]
          simp (disch := first | omega | decide) only [mX12_lowBit, ↓rh_rcv, ↓rh_g0, ↓be_y, ↓be_n, ↓bf_y, ↓bf_n, ↓bl_y, ↓bl_n, ↓bm_y, ↓bm_n, ↓bg_y, ↓bg_n, ↓bs_y, ↓bs_n, ↓bo_y, ↓bo_n, ↓bp_y, ↓bp_n, ↓forall_eq, ↓within_y, ↓within_n, ↓isIn_y, ↓isIn_n, and_true, true_and, and_self, us_at, us_ne, w32_id, um_eq, um_ne, um_um, uu_eq, uu_ne, uu_uu, vv_eq, vv_ne, vv_vv, ne_eq, not_false_eq_true, not_true_eq_false, reduceCtorEq, Int.reduceAdd, Int.reduceSub, Int.reduceMul, Int.reduceNeg, Nat.reduceEqDiff, or_true, true_or, true_implies, false_implies, Int.reduceLT, Int.reduceLE, Int.reduceEq]
          refine sums_r (M := um M 86 g) (by omega) ?_
          simp (disch := first | omega | decide) only [mX12_lowestGroup_J55, ↓rh_rcv, ↓rh_g0, ↓rh_g34, ↓rh_r86, ↓rh_w86, ↓be_y, ↓be_n, ↓bf_y, ↓bf_n, ↓bl_y, ↓bl_n, ↓bm_y, ↓bm_n, ↓bg_y, ↓bg_n, ↓bs_y, ↓bs_n, ↓bo_y, ↓bo_n, ↓bp_y, ↓bp_n, ↓forall_eq, ↓within_y, ↓within_n, ↓isIn_y, ↓isIn_n, and_true, true_and, and_self, us_at, us_ne, w32_id, um_eq, um_ne, um_um, uu_eq, uu_ne, uu_uu, vv_eq, vv_ne, vv_vv, ne_eq, not_false_eq_true, not_true_eq_false, reduceCtorEq, Int.reduceAdd, Int.reduceSub, Int.reduceMul, Int.reduceNeg, Nat.reduceEqDiff, or_true, true_or, true_implies, false_implies, Int.reduceLT, Int.reduceLE, Int.reduceEq, ds, rr]
          exact g3 F Q q
    · refine ⟨r, g0, g1, fun F Q q => ?_, fun F Q q => ?_⟩
      · rw [mX0_lowestGroup_L7]
        simp (disch := first | omega | decide) only [w32_id, ↓kh_c64, ↓kh_g64_0, ↓kh_g64_1, ↓be_y, ↓be_n, ↓bf_y, ↓bf_n, ↓bl_y, ↓bl_n, ↓bm_y, ↓bm_n, ↓bg_y, ↓bg_n, ↓bs_y, ↓bs_n, ↓bo_y, ↓bo_n, ↓bp_y, ↓bp_n, ↓forall_eq, ↓within_y, ↓within_n, ↓isIn_y, ↓isIn_n, and_true, true_and, and_self, us_at, us_ne, w32_id, um_eq, um_ne, um_um, uu_eq, uu_ne, uu_uu, vv_eq, vv_ne, vv_vv, ne_eq, not_false_eq_true, not_true_eq_false, reduceCtorEq, Int.reduceAdd, Int.reduceSub, Int.reduceMul, Int.reduceNeg, Nat.reduceEqDiff, or_true, true_or, true_implies, false_implies, Int.reduceLT, Int.reduceLE, Int.reduceEq]
        refine isg_n (N := um N 66 m) (by omega) (by omega) (by rw [zi]; exact sb) (by rw [zi]; exact d) ?_
        simp (disch := first | omega | decide) only [mX0_lowestGroup_J45, ↓kh_c64, ↓kh_g64_0, ↓kh_g64_1, ↓kh_r66, ↓kh_w66, ↓kh_n66, ↓be_y, ↓be_n, ↓bf_y, ↓bf_n, ↓bl_y, ↓bl_n, ↓bm_y, ↓bm_n, ↓bg_y, ↓bg_n, ↓bs_y, ↓bs_n, ↓bo_y, ↓bo_n, ↓bp_y, ↓bp_n, ↓forall_eq, ↓within_y, ↓within_n, ↓isIn_y, ↓isIn_n, and_true, true_and, and_self, us_at, us_ne, w32_id, um_eq, um_ne, um_um, uu_eq, uu_ne, uu_uu, vv_eq, vv_ne, vv_vv, ne_eq, not_false_eq_true, not_true_eq_false, reduceCtorEq, Int.reduceAdd, Int.reduceSub, Int.reduceMul, Int.reduceNeg, Nat.reduceEqDiff, or_true, true_or, true_implies, false_implies, Int.reduceLT, Int.reduceLE, Int.reduceEq]
        exact g2 F Q q
      · rw [mX12_lowestGroup_L2]
        by_cases w0 : iAnd i (iXor s (-1)) = 0
        · by_cases w1 : iAnd i (iAnd s (-s)) = 0
          · simp (disch := first | omega | decide) only [mX12_lowBit, mX12_lowestGroup_J55, ↓rh_rcv, ↓rh_g0, ↓be_y, ↓be_n, ↓bf_y, ↓bf_n, ↓bl_y, ↓bl_n, ↓bm_y, ↓bm_n, ↓bg_y, ↓bg_n, ↓bs_y, ↓bs_n, ↓bo_y, ↓bo_n, ↓bp_y, ↓bp_n, ↓forall_eq, ↓within_y, ↓within_n, ↓isIn_y, ↓isIn_n, and_true, true_and, and_self, us_at, us_ne, w32_id, um_eq, um_ne, um_um, uu_eq, uu_ne, uu_uu, vv_eq, vv_ne, vv_vv, ne_eq, not_false_eq_true, not_true_eq_false, reduceCtorEq, Int.reduceAdd, Int.reduceSub, Int.reduceMul, Int.reduceNeg, Nat.reduceEqDiff, or_true, true_or, true_implies, false_implies, Int.reduceLT, Int.reduceLE, Int.reduceEq]
            exact g3 F Q q
          · have w2 : ¬ sof (M 70) i = 0 := fun e => d ⟨⟨w0, w1⟩, e⟩
            simp (disch := first | omega | decide) only [mX12_lowBit, ↓rh_rcv, ↓rh_g0, ↓be_y, ↓be_n, ↓bf_y, ↓bf_n, ↓bl_y, ↓bl_n, ↓bm_y, ↓bm_n, ↓bg_y, ↓bg_n, ↓bs_y, ↓bs_n, ↓bo_y, ↓bo_n, ↓bp_y, ↓bp_n, ↓forall_eq, ↓within_y, ↓within_n, ↓isIn_y, ↓isIn_n, and_true, true_and, and_self, us_at, us_ne, w32_id, um_eq, um_ne, um_um, uu_eq, uu_ne, uu_uu, vv_eq, vv_ne, vv_vv, ne_eq, not_false_eq_true, not_true_eq_false, reduceCtorEq, Int.reduceAdd, Int.reduceSub, Int.reduceMul, Int.reduceNeg, Nat.reduceEqDiff, or_true, true_or, true_implies, false_implies, Int.reduceLT, Int.reduceLE, Int.reduceEq]
            refine sums_r (M := um M 86 g) (by omega) ?_
            simp (disch := first | omega | decide) only [mX12_lowestGroup_J55, ↓rh_rcv, ↓rh_g0, ↓be_y, ↓be_n, ↓bf_y, ↓bf_n, ↓bl_y, ↓bl_n, ↓bm_y, ↓bm_n, ↓bg_y, ↓bg_n, ↓bs_y, ↓bs_n, ↓bo_y, ↓bo_n, ↓bp_y, ↓bp_n, ↓forall_eq, ↓within_y, ↓within_n, ↓isIn_y, ↓isIn_n, and_true, true_and, and_self, us_at, us_ne, w32_id, um_eq, um_ne, um_um, uu_eq, uu_ne, uu_uu, vv_eq, vv_ne, vv_vv, ne_eq, not_false_eq_true, not_true_eq_false, reduceCtorEq, Int.reduceAdd, Int.reduceSub, Int.reduceMul, Int.reduceNeg, Nat.reduceEqDiff, or_true, true_or, true_implies, false_implies, Int.reduceLT, Int.reduceLE, Int.reduceEq]
            exact g3 F Q q
        · simp (disch := first | omega | decide) only [mX12_lowestGroup_J55, ↓rh_rcv, ↓rh_g0, ↓be_y, ↓be_n, ↓bf_y, ↓bf_n, ↓bl_y, ↓bl_n, ↓bm_y, ↓bm_n, ↓bg_y, ↓bg_n, ↓bs_y, ↓bs_n, ↓bo_y, ↓bo_n, ↓bp_y, ↓bp_n, ↓forall_eq, ↓within_y, ↓within_n, ↓isIn_y, ↓isIn_n, and_true, true_and, and_self, us_at, us_ne, w32_id, um_eq, um_ne, um_um, uu_eq, uu_ne, uu_uu, vv_eq, vv_ne, vv_vv, ne_eq, not_false_eq_true, not_true_eq_false, reduceCtorEq, Int.reduceAdd, Int.reduceSub, Int.reduceMul, Int.reduceNeg, Nat.reduceEqDiff, or_true, true_or, true_implies, false_implies, Int.reduceLT, Int.reduceLE, Int.reduceEq]
          exact g3 F Q q
theorem lg_b {m g Z : Int → Int} (hb : ∀ p, 0 ≤ p → p < 64 → -2147483648 ≤ sof (M 70) p ∧ sof (M 70) p ≤ 2147483647) (hZ : ∀ p, 1 ≤ p → p < 64 → Z p = sof (M 70) p) (hm : ∀ p, 1 ≤ p → p < 64 → -1 ≤ m p ∧ m p ≤ p) (hg : ∀ p, 1 ≤ p → p < 64 → m p = g p) {s : Int} (hs : 1 ≤ s ∧ s < 64) : ∃ r, (1 ≤ r ∧ r ≤ s) ∧ VP s r ∧ (∀ (F : hp) (Q : Int → hp → Prop), Q r (kh F v (um (um N 66 m) 65 Z) T) → mX0_lowestGroup 64 s (kh F v (um (um N 66 m) 65 Z) T) Q) ∧ (∀ (F : hp) (Q : Int → hp → Prop), Q r (rh F u (um M 86 g)) → mX12_lowestGroup 69 s (rh F u (um M 86 g)) Q) := by
  obtain ⟨r, g0, g1, g2, g3⟩ := lg_l (v := v) (N := N) (T := T) (u := u) (M := M) hs hb hZ hm hg (s - 1).toNat 1 (by omega) (by omega)
  refine ⟨r, g0, g1, fun F Q q => ?_, fun F Q q => ⟨_, g3 F Q q⟩⟩
  unfold mX0_lowestGroup
  intro z hz
  subst hz
  exact ⟨_, g2 F Q q⟩
theorem grp_l {m g Z : Int → Int} (hb : ∀ p, 0 ≤ p → p < 64 → -2147483648 ≤ sof (M 70) p ∧ sof (M 70) p ≤ 2147483647) (hZ : ∀ p, 1 ≤ p → p < 64 → Z p = sof (M 70) p) (hm : ∀ p, 1 ≤ p → p < 64 → -1 ≤ m p ∧ m p ≤ p) (hg : ∀ p, 1 ≤ p → p < 64 → m p = g p) (hx : 0 ≤ x1 ∧ x1 ≤ 5) : ∀ (k i : Nat) (s : Int), i + k = 6 → 1 ≤ s ∧ s < 64 → s.toNat % 2 ^ i = 0 → tb s x1 = true → ∃ r, (∀ (F : hp) (Q : Int → hp → Prop), Q r (kh F v (um (um N 66 m) 65 Z) T) → mX0_groupOf_L11 Q (k + 1) 64 x1 s i (kh F v (um (um N 66 m) 65 Z) T)) ∧ (∀ (F : hp) (Q K : Int → hp → Prop), (∀ x F5, mX12_group_L22 Q (k + 1) 69 x1 s x F5 → K x F5) → Q r (rh F u (um M 86 g)) → mX12_lowestGroup 69 s (rh F u (um M 86 g)) K) := by
  intro k
  induction k with
  | zero =>
    intro i s hi hs hd ht
    exfalso
    obtain rfl : i = 6 := by omega
    have : (2 ^ 6 : Nat) = 64 := by decide
    omega
  | succ k ih =>
    intro i s hi hs hd ht
    obtain ⟨r, r0, r1, r2, r3⟩ := lg_b (v := v) (N := N) (T := T) (u := u) (M := M) hb hZ hm hg hs
    have hsb : r.toNat &&& s.toNat = r.toNat := (sub_i (by omega) (by omega)).mp r1.1
    cases hr : tb r x1 with
    | true =>
      have b1 := bit_y (x := r) (k := x1) (by omega) (by omega) hr
      refine ⟨r, fun F Q q => ?_, fun F Q K hK q => ?_⟩
      · rw [mX0_groupOf_L11]
        simp (disch := first | omega | decide) only [w32_id, ↓kh_c64, ↓kh_g64_0, ↓kh_g64_1, ↓be_y, ↓be_n, ↓bf_y, ↓bf_n, ↓bl_y, ↓bl_n, ↓bm_y, ↓bm_n, ↓bg_y, ↓bg_n, ↓bs_y, ↓bs_n, ↓bo_y, ↓bo_n, ↓bp_y, ↓bp_n, ↓forall_eq, ↓within_y, ↓within_n, ↓isIn_y, ↓isIn_n, and_true, true_and, and_self, us_at, us_ne, w32_id, um_eq, um_ne, um_um, uu_eq, uu_ne, uu_uu, vv_eq, vv_ne, vv_vv, ne_eq, not_false_eq_true, not_true_eq_false, reduceCtorEq, Int.reduceAdd, Int.reduceSub, Int.reduceMul, Int.reduceNeg, Nat.reduceEqDiff, or_true, true_or, true_implies, false_implies, Int.reduceLT, Int.reduceLE, Int.reduceEq]
        refine r2 _ _ ?_
        simp (disch := first | omega | decide) only [w32_id, ↓kh_c64, ↓kh_g64_0, ↓kh_g64_1, ↓be_y, ↓be_n, ↓bf_y, ↓bf_n, ↓bl_y, ↓bl_n, ↓bm_y, ↓bm_n, ↓bg_y, ↓bg_n, ↓bs_y, ↓bs_n, ↓bo_y, ↓bo_n, ↓bp_y, ↓bp_n, ↓forall_eq, ↓within_y, ↓within_n, ↓isIn_y, ↓isIn_n, and_true, true_and, and_self, us_at, us_ne, w32_id, um_eq, um_ne, um_um, uu_eq, uu_ne, uu_uu, vv_eq, vv_ne, vv_vv, ne_eq, not_false_eq_true, not_true_eq_false, reduceCtorEq, Int.reduceAdd, Int.reduceSub, Int.reduceMul, Int.reduceNeg, Nat.reduceEqDiff, or_true, true_or, true_implies, false_implies, Int.reduceLT, Int.reduceLE, Int.reduceEq, b1]
        exact q
      · refine r3 _ _ (hK _ _ ?_)
        rw [mX12_group_L22]
        simp (disch := first | omega | decide) only [w32_id, ↓rh_rcv, ↓rh_g0, ↓be_y, ↓be_n, ↓bf_y, ↓bf_n, ↓bl_y, ↓bl_n, ↓bm_y, ↓bm_n, ↓bg_y, ↓bg_n, ↓bs_y, ↓bs_n, ↓bo_y, ↓bo_n, ↓bp_y, ↓bp_n, ↓forall_eq, ↓within_y, ↓within_n, ↓isIn_y, ↓isIn_n, and_true, true_and, and_self, us_at, us_ne, w32_id, um_eq, um_ne, um_um, uu_eq, uu_ne, uu_uu, vv_eq, vv_ne, vv_vv, ne_eq, not_false_eq_true, not_true_eq_false, reduceCtorEq, Int.reduceAdd, Int.reduceSub, Int.reduceMul, Int.reduceNeg, Nat.reduceEqDiff, or_true, true_or, true_implies, false_implies, Int.reduceLT, Int.reduceLE, Int.reduceEq, has_y (h0 := ⟨by omega, by omega⟩) (hk := ⟨hx.1, by omega⟩) (hb := hr)]
        exact q
    | false =>
      have b1 := bit_n (x := r) (k := x1) (by omega) (by omega) hr
      have rg := rst_g (s := s) (p := r) (by omega) (by omega)
      have tr : tb (rst s r) x1 = true := by
        have e : tb (rst s r) x1 = (tb s x1 && !tb r x1) := tb_andn (by omega) (by omega) (by omega)
        rw [e, ht, hr]
        rfl
      have r1' : 1 ≤ rst s r := by
        by_cases e : rst s r = 0
        · rw [e] at tr
          simp [tb] at tr
        · omega
      have dd := vp_t5 (s := s.toNat) (p := r.toNat) (by omega) (by omega) hsb (by rw [Int.toNat_of_nonneg (show 0 ≤ s by omega), Int.toNat_of_nonneg (show 0 ≤ r by omega)]; exact r1.2) (k := i) (by omega) hd
      rw [Int.toNat_of_nonneg (show 0 ≤ s by omega), Int.toNat_of_nonneg (show 0 ≤ r by omega)] at dd
      have rr : iAnd s (iXor r (-1)) = rst s r := rfl
      obtain ⟨z, z1, z2⟩ := ih (i + 1) (rst s r) (by omega) (by omega) dd tr
      refine ⟨z, fun F Q q => ?_, fun F Q K hK q => ?_⟩
      · rw [mX0_groupOf_L11]
        simp (disch := first | omega | decide) only [w32_id, ↓kh_c64, ↓kh_g64_0, ↓kh_g64_1, ↓be_y, ↓be_n, ↓bf_y, ↓bf_n, ↓bl_y, ↓bl_n, ↓bm_y, ↓bm_n, ↓bg_y, ↓bg_n, ↓bs_y, ↓bs_n, ↓bo_y, ↓bo_n, ↓bp_y, ↓bp_n, ↓forall_eq, ↓within_y, ↓within_n, ↓isIn_y, ↓isIn_n, and_true, true_and, and_self, us_at, us_ne, w32_id, um_eq, um_ne, um_um, uu_eq, uu_ne, uu_uu, vv_eq, vv_ne, vv_vv, ne_eq, not_false_eq_true, not_true_eq_false, reduceCtorEq, Int.reduceAdd, Int.reduceSub, Int.reduceMul, Int.reduceNeg, Nat.reduceEqDiff, or_true, true_or, true_implies, false_implies, Int.reduceLT, Int.reduceLE, Int.reduceEq]
        refine r2 _ _ ?_
        simp (disch := first | omega | decide) only [w32_id, ↓kh_c64, ↓kh_g64_0, ↓kh_g64_1, ↓be_y, ↓be_n, ↓bf_y, ↓bf_n, ↓bl_y, ↓bl_n, ↓bm_y, ↓bm_n, ↓bg_y, ↓bg_n, ↓bs_y, ↓bs_n, ↓bo_y, ↓bo_n, ↓bp_y, ↓bp_n, ↓forall_eq, ↓within_y, ↓within_n, ↓isIn_y, ↓isIn_n, and_true, true_and, and_self, us_at, us_ne, w32_id, um_eq, um_ne, um_um, uu_eq, uu_ne, uu_uu, vv_eq, vv_ne, vv_vv, ne_eq, not_false_eq_true, not_true_eq_false, reduceCtorEq, Int.reduceAdd, Int.reduceSub, Int.reduceMul, Int.reduceNeg, Nat.reduceEqDiff, or_true, true_or, true_implies, false_implies, Int.reduceLT, Int.reduceLE, Int.reduceEq, b1, rr]
        have g := z1 F Q q
        rw [show ((i + 1 : Nat) : Int) = (i : Int) + 1 by omega] at g
        exact g
      · refine r3 _ _ (hK _ _ ?_)
        have g := z2 F Q _ (fun _ _ h => h) q
        rw [mX12_group_L22]
        simp (disch := first | omega | decide) only [w32_id, ↓rh_rcv, ↓rh_g0, ↓be_y, ↓be_n, ↓bf_y, ↓bf_n, ↓bl_y, ↓bl_n, ↓bm_y, ↓bm_n, ↓bg_y, ↓bg_n, ↓bs_y, ↓bs_n, ↓bo_y, ↓bo_n, ↓bp_y, ↓bp_n, ↓forall_eq, ↓within_y, ↓within_n, ↓isIn_y, ↓isIn_n, and_true, true_and, and_self, us_at, us_ne, w32_id, um_eq, um_ne, um_um, uu_eq, uu_ne, uu_uu, vv_eq, vv_ne, vv_vv, ne_eq, not_false_eq_true, not_true_eq_false, reduceCtorEq, Int.reduceAdd, Int.reduceSub, Int.reduceMul, Int.reduceNeg, Nat.reduceEqDiff, or_true, true_or, true_implies, false_implies, Int.reduceLT, Int.reduceLE, Int.reduceEq, has_n (h0 := ⟨by omega, by omega⟩) (hk := ⟨hx.1, by omega⟩) (hb := hr), rr]
        exact g
theorem jB_s {B A : Int → Int} (h : jB n B A) (hn : 0 ≤ n ∧ n ≤ 1000) : ∀ p, 0 ≤ p → p < 64 → -2147483648 ≤ sof A p ∧ sof A p ≤ 2147483647 := fun p p0 p1 => by
  have a := sfl_b (A := A) (s := p) (m := 99 * n) (by omega) (fun r r0 r1 => (h.1 r r0 r1).2) 6 0 (by omega) (by omega)
  unfold sof
  omega
theorem acc_b (hB : jB n (N 20) (M 70)) (hn : 0 ≤ n ∧ n ≤ 1000) : ∃ Z m g, (∀ p, 1 ≤ p → p < 64 → Z p = sof (M 70) p) ∧ (∀ p, 1 ≤ p → p < 64 → -1 ≤ m p ∧ m p ≤ p) ∧ (∀ p, 1 ≤ p → p < 64 → m p = g p) ∧ (∀ (F : hp) (Q : hp → Prop), Q (kh F v (um (um N 66 m) 65 Z) T) → mX0_weighSets 64 (some 20) (kh F v N T) Q) ∧ (∀ (F : hp) (Q : hp → Prop), Q (rh F u (um M 86 g)) → mX12_layGroups 69 (rh F u M) Q) := by
  have hb := jB_s hB hn
  obtain ⟨Z, m, a1, a2, a3⟩ := weigh_l (v := v) (N := N) (T := T) (A := M 70) (fun r r0 r1 => (hB.1 r r0 r1).1) hb 63 1 (N 65) (N 66) (by omega) (by omega) (fun p p0 p1 => by omega) (fun p p0 p1 => by omega)
  obtain ⟨g, b1, b2, b3⟩ := lay_o2 (u := u) (M := M) hb 64 0 (M 86) (by omega) (by omega) (fun h => by omega) (fun p p0 p1 => by omega)
  rw [um_self, um_self] at a3
  rw [um_self] at b3
  exact ⟨Z, m, g, a1, fun p p0 p1 => (a2 p p0 p1).1, fun p p0 p1 => eqcm a2 b1 b2 p.toNat p (by omega) p0 p1, fun F Q q => ⟨64, a3 F Q q⟩, fun F Q q => ⟨65, b3 F Q q⟩⟩
set_option maxHeartbeats 4000000 in
theorem op_settled (h1 : -2147483648 ≤ x1 ∧ x1 ≤ 2147483647) (hn : 0 ≤ n ∧ n ≤ 1000) : OP n (mX11_settled 8 x1) (mX12_settled 69 x1) := by
  refine op_to (fun G v N T u M h => ?_)
  have hB := h.1.2.2.2.2.1
  by_cases c : 0 ≤ x1 ∧ x1 ≤ 1
  · obtain ⟨Z, m, g, a1, a2, a3, a4, a5⟩ := acc_b (v := v) (T := T) (u := u) hB hn
    have e := a3 63 (by omega) (by omega)
    by_cases d : x1 = 1
    · refine ⟨g 63, v, um (um N 66 m) 65 Z, u, um M 86 g, Rel_up h, fun F Q q => ?_, fun F Q q => ?_⟩
      · simp (disch := first | omega | decide) only [mX11_settled, mX0_mostGroups, ↓kh_c8, ↓kh_g8_0, ↓kh_g8_1, ↓kh_g8_2, ↓kh_g8_3, ↓kh_g8_4, ↓kh_g8_5, ↓kh_g8_6, ↓kh_g8_7, ↓kh_c10, ↓kh_g10_0, ↓kh_g10_1, ↓kh_g10_2, ↓kh_g10_3, ↓kh_g10_4, ↓kh_g10_5, ↓kh_g10_6, ↓kh_g10_7, ↓kh_g10_8, ↓kh_g10_9, ↓kh_g10_10, ↓kh_g10_11, ↓kh_g10_12, ↓kh_p10_12, ↓kh_g10_13, ↓kh_p10_13, ↓kh_g10_14, ↓kh_p10_14, ↓kh_g10_15, ↓kh_p10_15, ↓kh_c64, ↓kh_g64_0, ↓kh_g64_1, ↓be_y, ↓be_n, ↓bf_y, ↓bf_n, ↓bl_y, ↓bl_n, ↓bm_y, ↓bm_n, ↓bg_y, ↓bg_n, ↓bs_y, ↓bs_n, ↓bo_y, ↓bo_n, ↓bp_y, ↓bp_n, ↓forall_eq, ↓within_y, ↓within_n, ↓isIn_y, ↓isIn_n, and_true, true_and, and_self, us_at, us_ne, w32_id, um_eq, um_ne, um_um, uu_eq, uu_ne, uu_uu, vv_eq, vv_ne, vv_vv, ne_eq, not_false_eq_true, not_true_eq_false, reduceCtorEq, Int.reduceAdd, Int.reduceSub, Int.reduceMul, Int.reduceNeg, Nat.reduceEqDiff, or_true, true_or, true_implies, false_implies, Int.reduceLT, Int.reduceLE, Int.reduceEq]
        refine a4 _ _ ?_
        simp (disch := first | omega | decide) only [w32_id, ↓kh_c64, ↓kh_g64_0, ↓kh_g64_1, ↓kh_r66, ↓kh_w66, ↓kh_n66, ↓be_y, ↓be_n, ↓bf_y, ↓bf_n, ↓bl_y, ↓bl_n, ↓bm_y, ↓bm_n, ↓bg_y, ↓bg_n, ↓bs_y, ↓bs_n, ↓bo_y, ↓bo_n, ↓bp_y, ↓bp_n, ↓forall_eq, ↓within_y, ↓within_n, ↓isIn_y, ↓isIn_n, and_true, true_and, and_self, us_at, us_ne, w32_id, um_eq, um_ne, um_um, uu_eq, uu_ne, uu_uu, vv_eq, vv_ne, vv_vv, ne_eq, not_false_eq_true, not_true_eq_false, reduceCtorEq, Int.reduceAdd, Int.reduceSub, Int.reduceMul, Int.reduceNeg, Nat.reduceEqDiff, or_true, true_or, true_implies, false_implies, Int.reduceLT, Int.reduceLE, Int.reduceEq, e]
        exact q
      · simp (disch := first | omega | decide) only [mX12_settled, ↓rh_rcv, ↓rh_g0, ↓be_y, ↓be_n, ↓bf_y, ↓bf_n, ↓bl_y, ↓bl_n, ↓bm_y, ↓bm_n, ↓bg_y, ↓bg_n, ↓bs_y, ↓bs_n, ↓bo_y, ↓bo_n, ↓bp_y, ↓bp_n, ↓forall_eq, ↓within_y, ↓within_n, ↓isIn_y, ↓isIn_n, and_true, true_and, and_self, us_at, us_ne, w32_id, um_eq, um_ne, um_um, uu_eq, uu_ne, uu_uu, vv_eq, vv_ne, vv_vv, ne_eq, not_false_eq_true, not_true_eq_false, reduceCtorEq, Int.reduceAdd, Int.reduceSub, Int.reduceMul, Int.reduceNeg, Nat.reduceEqDiff, or_true, true_or, true_implies, false_implies, Int.reduceLT, Int.reduceLE, Int.reduceEq]
        refine a5 _ _ ?_
        simp (disch := first | omega | decide) only [w32_id, ↓rh_rcv, ↓rh_g0, ↓rh_g34, ↓rh_r86, ↓rh_w86, ↓be_y, ↓be_n, ↓bf_y, ↓bf_n, ↓bl_y, ↓bl_n, ↓bm_y, ↓bm_n, ↓bg_y, ↓bg_n, ↓bs_y, ↓bs_n, ↓bo_y, ↓bo_n, ↓bp_y, ↓bp_n, ↓forall_eq, ↓within_y, ↓within_n, ↓isIn_y, ↓isIn_n, and_true, true_and, and_self, us_at, us_ne, w32_id, um_eq, um_ne, um_um, uu_eq, uu_ne, uu_uu, vv_eq, vv_ne, vv_vv, ne_eq, not_false_eq_true, not_true_eq_false, reduceCtorEq, Int.reduceAdd, Int.reduceSub, Int.reduceMul, Int.reduceNeg, Nat.reduceEqDiff, or_true, true_or, true_implies, false_implies, Int.reduceLT, Int.reduceLE, Int.reduceEq]
        exact q
    · refine ⟨6 - g 63, v, um (um N 66 m) 65 Z, u, um M 86 g, Rel_up h, fun F Q q => ?_, fun F Q q => ?_⟩
      · simp (disch := first | omega | decide) only [mX11_settled, mX0_mostGroups, ↓kh_c8, ↓kh_g8_0, ↓kh_g8_1, ↓kh_g8_2, ↓kh_g8_3, ↓kh_g8_4, ↓kh_g8_5, ↓kh_g8_6, ↓kh_g8_7, ↓kh_c10, ↓kh_g10_0, ↓kh_g10_1, ↓kh_g10_2, ↓kh_g10_3, ↓kh_g10_4, ↓kh_g10_5, ↓kh_g10_6, ↓kh_g10_7, ↓kh_g10_8, ↓kh_g10_9, ↓kh_g10_10, ↓kh_g10_11, ↓kh_g10_12, ↓kh_p10_12, ↓kh_g10_13, ↓kh_p10_13, ↓kh_g10_14, ↓kh_p10_14, ↓kh_g10_15, ↓kh_p10_15, ↓kh_c64, ↓kh_g64_0, ↓kh_g64_1, ↓be_y, ↓be_n, ↓bf_y, ↓bf_n, ↓bl_y, ↓bl_n, ↓bm_y, ↓bm_n, ↓bg_y, ↓bg_n, ↓bs_y, ↓bs_n, ↓bo_y, ↓bo_n, ↓bp_y, ↓bp_n, ↓forall_eq, ↓within_y, ↓within_n, ↓isIn_y, ↓isIn_n, and_true, true_and, and_self, us_at, us_ne, w32_id, um_eq, um_ne, um_um, uu_eq, uu_ne, uu_uu, vv_eq, vv_ne, vv_vv, ne_eq, not_false_eq_true, not_true_eq_false, reduceCtorEq, Int.reduceAdd, Int.reduceSub, Int.reduceMul, Int.reduceNeg, Nat.reduceEqDiff, or_true, true_or, true_implies, false_implies, Int.reduceLT, Int.reduceLE, Int.reduceEq]
        refine a4 _ _ ?_
        simp (disch := first | omega | decide) only [w32_id, ↓kh_c64, ↓kh_g64_0, ↓kh_g64_1, ↓kh_r66, ↓kh_w66, ↓kh_n66, ↓be_y, ↓be_n, ↓bf_y, ↓bf_n, ↓bl_y, ↓bl_n, ↓bm_y, ↓bm_n, ↓bg_y, ↓bg_n, ↓bs_y, ↓bs_n, ↓bo_y, ↓bo_n, ↓bp_y, ↓bp_n, ↓forall_eq, ↓within_y, ↓within_n, ↓isIn_y, ↓isIn_n, and_true, true_and, and_self, us_at, us_ne, w32_id, um_eq, um_ne, um_um, uu_eq, uu_ne, uu_uu, vv_eq, vv_ne, vv_vv, ne_eq, not_false_eq_true, not_true_eq_false, reduceCtorEq, Int.reduceAdd, Int.reduceSub, Int.reduceMul, Int.reduceNeg, Nat.reduceEqDiff, or_true, true_or, true_implies, false_implies, Int.reduceLT, Int.reduceLE, Int.reduceEq, e]
        exact q
      · simp (disch := first | omega | decide) only [mX12_settled, ↓rh_rcv, ↓rh_g0, ↓be_y, ↓be_n, ↓bf_y, ↓bf_n, ↓bl_y, ↓bl_n, ↓bm_y, ↓bm_n, ↓bg_y, ↓bg_n, ↓bs_y, ↓bs_n, ↓bo_y, ↓bo_n, ↓bp_y, ↓bp_n, ↓forall_eq, ↓within_y, ↓within_n, ↓isIn_y, ↓isIn_n, and_true, true_and, and_self, us_at, us_ne, w32_id, um_eq, um_ne, um_um, uu_eq, uu_ne, uu_uu, vv_eq, vv_ne, vv_vv, ne_eq, not_false_eq_true, not_true_eq_false, reduceCtorEq, Int.reduceAdd, Int.reduceSub, Int.reduceMul, Int.reduceNeg, Nat.reduceEqDiff, or_true, true_or, true_implies, false_implies, Int.reduceLT, Int.reduceLE, Int.reduceEq]
        refine a5 _ _ ?_
        simp (disch := first | omega | decide) only [w32_id, ↓rh_rcv, ↓rh_g0, ↓rh_g34, ↓rh_r86, ↓rh_w86, ↓be_y, ↓be_n, ↓bf_y, ↓bf_n, ↓bl_y, ↓bl_n, ↓bm_y, ↓bm_n, ↓bg_y, ↓bg_n, ↓bs_y, ↓bs_n, ↓bo_y, ↓bo_n, ↓bp_y, ↓bp_n, ↓forall_eq, ↓within_y, ↓within_n, ↓isIn_y, ↓isIn_n, and_true, true_and, and_self, us_at, us_ne, w32_id, um_eq, um_ne, um_um, uu_eq, uu_ne, uu_uu, vv_eq, vv_ne, vv_vv, ne_eq, not_false_eq_true, not_true_eq_false, reduceCtorEq, Int.reduceAdd, Int.reduceSub, Int.reduceMul, Int.reduceNeg, Nat.reduceEqDiff, or_true, true_or, true_implies, false_implies, Int.reduceLT, Int.reduceLE, Int.reduceEq]
        exact q
  · refine ⟨-1, v, N, u, M, Rel_up h, fun F Q q => ?_, fun F Q q => ?_⟩
    · by_cases d0 : 0 ≤ x1 ∧ x1 ≤ 1 <;> first | (exfalso; omega) | (simp (disch := omega) only [mX11_settled, kh_c8, kh_g8_0, kh_g8_1, kh_g8_2, kh_g8_3, kh_g8_4, kh_g8_5, kh_g8_6, kh_g8_7, ↓i_pos, ↓i_neg, and_true, true_and, and_self, w32_id, us_at, us_ne, um_eq, um_ne, um_um, uu_eq, uu_ne, uu_uu, vv_eq, vv_ne, vv_vv, forall_eq, within_y, within_n, isIn_y, isIn_n, ne_eq, not_false_eq_true, not_true_eq_false, reduceCtorEq, Int.reduceAdd, Int.reduceSub, Int.reduceMul, Int.reduceNeg, Nat.reduceEqDiff, or_true, true_or, true_implies, false_implies, Int.reduceLT, Int.reduceLE, Int.reduceEq, iMax_l, iMax_r, iMin_l, iMin_r]; first | done | exact q)
    · by_cases d0 : 0 ≤ x1 ∧ x1 ≤ 1 <;> first | (exfalso; omega) | (simp (disch := omega) only [mX12_settled, rh_rcv, rh_g0, ↓i_pos, ↓i_neg, and_true, true_and, and_self, w32_id, us_at, us_ne, um_eq, um_ne, um_um, uu_eq, uu_ne, uu_uu, vv_eq, vv_ne, vv_vv, forall_eq, within_y, within_n, isIn_y, isIn_n, ne_eq, not_false_eq_true, not_true_eq_false, reduceCtorEq, Int.reduceAdd, Int.reduceSub, Int.reduceMul, Int.reduceNeg, Nat.reduceEqDiff, or_true, true_or, true_implies, false_implies, Int.reduceLT, Int.reduceLE, Int.reduceEq, iMax_l, iMax_r, iMin_l, iMin_r]; first | done | exact q)
set_option maxHeartbeats 4000000 in
theorem op_group (h1 : -2147483648 ≤ x1 ∧ x1 ≤ 2147483647) (hn : 0 ≤ n ∧ n ≤ 1000) : OP n (mX11_group 8 x1) (mX12_group 69 x1) := by
  refine op_to (fun G v N T u M h => ?_)
  have hB := h.1.2.2.2.2.1
  by_cases c : 0 ≤ x1 ∧ x1 ≤ 5
  · obtain ⟨Z, m, g, a1, a2, a3, a4, a5⟩ := acc_b (v := v) (T := T) (u := u) hB hn
    have t63 : tb 63 x1 = true := by
      obtain rfl | rfl | rfl | rfl | rfl | rfl : x1 = 0 ∨ x1 = 1 ∨ x1 = 2 ∨ x1 = 3 ∨ x1 = 4 ∨ x1 = 5 := by omega
      all_goals decide
    obtain ⟨r, r1, r2⟩ := grp_l (v := v) (N := N) (T := T) (u := u) (M := M) (x1 := x1) (jB_s hB hn) a1 a2 a3 c 6 0 63 (by omega) (by omega) (by decide) t63
    refine ⟨r, v, um (um N 66 m) 65 Z, u, um M 86 g, Rel_up h, fun F Q q => ?_, fun F Q q => ?_⟩
    · simp (disch := first | omega | decide) only [mX11_group, mX11_isRailway, mX0_groupOf, ↓kh_c8, ↓kh_g8_0, ↓kh_g8_1, ↓kh_g8_2, ↓kh_g8_3, ↓kh_g8_4, ↓kh_g8_5, ↓kh_g8_6, ↓kh_g8_7, ↓kh_c10, ↓kh_g10_0, ↓kh_g10_1, ↓kh_g10_2, ↓kh_g10_3, ↓kh_g10_4, ↓kh_g10_5, ↓kh_g10_6, ↓kh_g10_7, ↓kh_g10_8, ↓kh_g10_9, ↓kh_g10_10, ↓kh_g10_11, ↓kh_g10_12, ↓kh_p10_12, ↓kh_g10_13, ↓kh_p10_13, ↓kh_g10_14, ↓kh_p10_14, ↓kh_g10_15, ↓kh_p10_15, ↓kh_c64, ↓kh_g64_0, ↓kh_g64_1, ↓be_y, ↓be_n, ↓bf_y, ↓bf_n, ↓bl_y, ↓bl_n, ↓bm_y, ↓bm_n, ↓bg_y, ↓bg_n, ↓bs_y, ↓bs_n, ↓bo_y, ↓bo_n, ↓bp_y, ↓bp_n, ↓forall_eq, ↓within_y, ↓within_n, ↓isIn_y, ↓isIn_n, and_true, true_and, and_self, us_at, us_ne, w32_id, um_eq, um_ne, um_um, uu_eq, uu_ne, uu_uu, vv_eq, vv_ne, vv_vv, ne_eq, not_false_eq_true, not_true_eq_false, reduceCtorEq, Int.reduceAdd, Int.reduceSub, Int.reduceMul, Int.reduceNeg, Nat.reduceEqDiff, or_true, true_or, true_implies, false_implies, Int.reduceLT, Int.reduceLE, Int.reduceEq]
      refine a4 _ _ ?_
      exact ⟨7, r1 F Q q⟩
    · simp (disch := first | omega | decide) only [mX12_group, mX12_isRailway, ↓rh_rcv, ↓rh_g0, ↓be_y, ↓be_n, ↓bf_y, ↓bf_n, ↓bl_y, ↓bl_n, ↓bm_y, ↓bm_n, ↓bg_y, ↓bg_n, ↓bs_y, ↓bs_n, ↓bo_y, ↓bo_n, ↓bp_y, ↓bp_n, ↓forall_eq, ↓within_y, ↓within_n, ↓isIn_y, ↓isIn_n, and_true, true_and, and_self, us_at, us_ne, w32_id, um_eq, um_ne, um_um, uu_eq, uu_ne, uu_uu, vv_eq, vv_ne, vv_vv, ne_eq, not_false_eq_true, not_true_eq_false, reduceCtorEq, Int.reduceAdd, Int.reduceSub, Int.reduceMul, Int.reduceNeg, Nat.reduceEqDiff, or_true, true_or, true_implies, false_implies, Int.reduceLT, Int.reduceLE, Int.reduceEq]
      refine a5 _ _ ?_
      simp (disch := first | omega | decide) only [w32_id, ↓rh_rcv, ↓rh_g0, ↓be_y, ↓be_n, ↓bf_y, ↓bf_n, ↓bl_y, ↓bl_n, ↓bm_y, ↓bm_n, ↓bg_y, ↓bg_n, ↓bs_y, ↓bs_n, ↓bo_y, ↓bo_n, ↓bp_y, ↓bp_n, ↓forall_eq, ↓within_y, ↓within_n, ↓isIn_y, ↓isIn_n, and_true, true_and, and_self, us_at, us_ne, w32_id, um_eq, um_ne, um_um, uu_eq, uu_ne, uu_uu, vv_eq, vv_ne, vv_vv, ne_eq, not_false_eq_true, not_true_eq_false, reduceCtorEq, Int.reduceAdd, Int.reduceSub, Int.reduceMul, Int.reduceNeg, Nat.reduceEqDiff, or_true, true_or, true_implies, false_implies, Int.reduceLT, Int.reduceLE, Int.reduceEq]
      exact r2 F Q _ (fun _ _ h => ⟨_, h⟩) q
  · refine ⟨-1, v, N, u, M, Rel_up h, fun F Q q => ?_, fun F Q q => ?_⟩
    · by_cases d0 : 0 ≤ x1 ∧ x1 ≤ 5 <;> first | (exfalso; omega) | (simp (disch := omega) only [mX11_group, mX11_isRailway, kh_c8, kh_g8_0, kh_g8_1, kh_g8_2, kh_g8_3, kh_g8_4, kh_g8_5, kh_g8_6, kh_g8_7, ↓i_pos, ↓i_neg, and_true, true_and, and_self, w32_id, us_at, us_ne, um_eq, um_ne, um_um, uu_eq, uu_ne, uu_uu, vv_eq, vv_ne, vv_vv, forall_eq, within_y, within_n, isIn_y, isIn_n, ne_eq, not_false_eq_true, not_true_eq_false, reduceCtorEq, Int.reduceAdd, Int.reduceSub, Int.reduceMul, Int.reduceNeg, Nat.reduceEqDiff, or_true, true_or, true_implies, false_implies, Int.reduceLT, Int.reduceLE, Int.reduceEq, iMax_l, iMax_r, iMin_l, iMin_r]; first | done | exact q)
    · by_cases d0 : 0 ≤ x1 ∧ x1 ≤ 5 <;> first | (exfalso; omega) | (simp (disch := omega) only [mX12_group, mX12_isRailway, rh_rcv, rh_g0, ↓i_pos, ↓i_neg, and_true, true_and, and_self, w32_id, us_at, us_ne, um_eq, um_ne, um_um, uu_eq, uu_ne, uu_uu, vv_eq, vv_ne, vv_vv, forall_eq, within_y, within_n, isIn_y, isIn_n, ne_eq, not_false_eq_true, not_true_eq_false, reduceCtorEq, Int.reduceAdd, Int.reduceSub, Int.reduceMul, Int.reduceNeg, Nat.reduceEqDiff, or_true, true_or, true_implies, false_implies, Int.reduceLT, Int.reduceLE, Int.reduceEq, iMax_l, iMax_r, iMin_l, iMin_r]; first | done | exact q)
end AD
