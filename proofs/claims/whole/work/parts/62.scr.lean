section CP
variable {n : Int} {v : Nat → Nat → Int} {N : Nat → Int → Int} {T : Nat → Int → Option Nat} {A Y : Int → Int}
theorem co16_33 (hY : jY (N 33) A) {t : Int} (ht : 0 ≤ t ∧ t < 3) {X : Option Nat → Int → Int → hp → Prop} {Q : Int → hp → Prop} : ∀ (k : Nat) (i : Int) (D : Int → Int), i + k = A (12 + t) → 0 ≤ i → cinv A (A 0) t i D → ∃ D', cinv A (A 0) (t + 1) 0 D' ∧ ∀ F : hp, X (some 32) (pc D') (t + 1) (kh F v N T) → mX4_codeOf_L16 X Q (k + 1) (some 32) (pc D) t (bwl A t i) i (kh F v N T) := by
  have w := trk (N := fun _ => N 33) (M := fun _ => A) hY ht
  have w1 : N 33 (11 + t) = A (12 + t) := w.1.1
  have wb : 0 ≤ A (12 + t) ∧ A (12 + t) ≤ 5 := w.1.2
  have h := yst_v hY
  have hc := jY_c (A := A) hY
  intro k
  induction k with
  | zero =>
    intro i D hi h0 hI
    obtain rfl : i = A (12 + t) := by omega
    refine ⟨D, cinv_n hI, fun F q => ?_⟩
    rw [mX4_codeOf_L16]
    simp (disch := first | omega | decide) only [mX10_countOn, ↓kh_c32, ↓kh_g32_0, ↓kh_r33, ↓kh_w33, ↓kh_n33, ↓kh_cp33_12, ↓be_y, ↓be_n, ↓bf_y, ↓bf_n, ↓bl_y, ↓bl_n, ↓bm_y, ↓bm_n, ↓bg_y, ↓bg_n, ↓bs_y, ↓bs_n, ↓bo_y, ↓bo_n, ↓bp_y, ↓bp_n, ↓forall_eq, ↓within_y, ↓within_n, ↓isIn_y, ↓isIn_n, and_true, true_and, and_self, us_at, us_ne, w32_id, um_eq, um_ne, um_um, uu_eq, uu_ne, uu_uu, vv_eq, vv_ne, vv_vv, ne_eq, not_false_eq_true, not_true_eq_false, reduceCtorEq, Int.reduceAdd, Int.reduceSub, Int.reduceMul, Int.reduceNeg, Nat.reduceEqDiff, or_true, true_or, true_implies, false_implies, Int.reduceLT, Int.reduceLE, Int.reduceEq, w1]
    exact q
  | succ k ih =>
    intro i D hi h0 hI
    obtain ⟨s1, s2⟩ := cinv_s h hc.2.2 ht h0 (by omega) hI
    have w2 : N 33 (14 + 5 * t + i) = A (15 + 5 * t + i) := (w.2 i h0 (by show i < A (12 + t); omega)).1
    have eb : bwl A t (i + 1) = A (15 + 5 * t + i) := by
      unfold bwl
      rw [if_neg (by omega), show i + 1 - 1 = i by omega]
    obtain ⟨D', a1, a2⟩ := ih (i + 1) _ (by omega) (by omega) s2
    refine ⟨D', a1, fun F q => ?_⟩
    have a3 := a2 F q
    rw [eb, ← s1] at a3
    rw [mX4_codeOf_L16]
    simp (disch := first | omega | decide) only [mX10_countOn, mX10_carAt, ↓kh_c32, ↓kh_g32_0, ↓kh_r33, ↓kh_w33, ↓kh_n33, ↓kh_cp33_12, ↓be_y, ↓be_n, ↓bf_y, ↓bf_n, ↓bl_y, ↓bl_n, ↓bm_y, ↓bm_n, ↓bg_y, ↓bg_n, ↓bs_y, ↓bs_n, ↓bo_y, ↓bo_n, ↓bp_y, ↓bp_n, ↓forall_eq, ↓within_y, ↓within_n, ↓isIn_y, ↓isIn_n, and_true, true_and, and_self, us_at, us_ne, w32_id, um_eq, um_ne, um_um, uu_eq, uu_ne, uu_uu, vv_eq, vv_ne, vv_vv, ne_eq, not_false_eq_true, not_true_eq_false, reduceCtorEq, Int.reduceAdd, Int.reduceSub, Int.reduceMul, Int.reduceNeg, Nat.reduceEqDiff, or_true, true_or, true_implies, false_implies, Int.reduceLT, Int.reduceLE, Int.reduceEq, w1, w2]
    exact a3
theorem code_33 (hY : jY (N 33) A) {F : hp} {Q : Int → hp → Prop} (q : Q (enc (yst A)) (kh F v N T)) : mX4_codeOf (some 32) (kh F v N T) Q := by
  have h := yst_v hY
  have hp : ∀ t, 0 ≤ t → t < 3 → 0 ≤ A (12 + t) := fun t t0 t1 => (trk (N := fun _ => N 33) (M := fun _ => A) hY ⟨t0, t1⟩).1.2.1
  obtain ⟨D1, a1, a2⟩ := co16_33 (v := v) (T := T) hY (t := 0) (by omega) (X := fun a0' a1' a2' F' => mX4_codeOf_L4 Q 3 a0' a1' a2' F') (Q := Q) (A (12 + 0)).toNat 0 _ (by have := hp 0 (by omega) (by omega); omega) (by omega) cinv_0
  obtain ⟨D2, b1, b2⟩ := co16_33 (v := v) (T := T) hY (t := 0 + 1) (by omega) (X := fun a0' a1' a2' F' => mX4_codeOf_L4 Q 2 a0' a1' a2' F') (Q := Q) (A (12 + (0 + 1))).toNat 0 _ (by have := hp (0 + 1) (by omega) (by omega); omega) (by omega) a1
  obtain ⟨D3, c1, c2⟩ := co16_33 (v := v) (T := T) hY (t := 0 + 1 + 1) (by omega) (X := fun a0' a1' a2' F' => mX4_codeOf_L4 Q 1 a0' a1' a2' F') (Q := Q) (A (12 + (0 + 1 + 1))).toNat 0 _ (by have := hp (0 + 1 + 1) (by omega) (by omega); omega) (by omega) b1
  have eb : ∀ t, bwl A t 0 = 5 + t := fun t => if_pos rfl
  have ez : pc (fun _ => 0) = 0 := by show (0 : Int) + 8 * 0 + 64 * 0 + 512 * 0 + 4096 * 0 = 0; decide
  rw [eb, ez] at a2
  rw [eb] at b2 c2
  have z3 : mX4_codeOf_L4 Q 1 (some 32) (pc D3) (0 + 1 + 1 + 1) (kh F v N T) := by
    rw [mX4_codeOf_L4]
    refine ⟨fun d => absurd d (by rw [w32_id (by decide) (by decide)]; decide), fun _ => ?_⟩
    have e : pc D3 = enc (yst A) := cinv_e h hp c1
    rw [e]
    exact q
  have z2 : mX4_codeOf_L4 Q 2 (some 32) (pc D2) (0 + 1 + 1) (kh F v N T) := by
    rw [mX4_codeOf_L4]
    exact ⟨fun _ v1 hv => (by subst hv; exact ⟨_, c2 F z3⟩), fun d => absurd (by rw [w32_id (by decide) (by decide)]; decide) d⟩
  have z1 : mX4_codeOf_L4 Q 3 (some 32) (pc D1) (0 + 1) (kh F v N T) := by
    rw [mX4_codeOf_L4]
    exact ⟨fun _ v1 hv => (by subst hv; exact ⟨_, b2 F z2⟩), fun d => absurd (by rw [w32_id (by decide) (by decide)]; decide) d⟩
  refine ⟨4, ?_⟩
  rw [mX4_codeOf_L4]
  exact ⟨fun _ v1 hv => (by subst hv; exact ⟨_, a2 F z1⟩), fun d => absurd (by rw [w32_id (by decide) (by decide)]; decide) d⟩
end CP
-- ===== the reference's own stand: its rows 80 (cars, from the bottom) and 81 (how many) =====
def brow (s : std) : List Int := s.1.reverse ++ s.2.1.reverse ++ s.2.2.reverse
def rrep (s : std) (R C : Int → Int) : Prop := (C 0 = s.1.length ∧ C 1 = s.2.1.length ∧ C 2 = s.2.2.length) ∧ tl R 0 (brow s).length = brow s
section TF
variable {n : Int} {u : Nat → Int} {M : Nat → Int → Int} {A Y C : Int → Int}
theorem tf24_70 {t : Int} (ht : 0 ≤ t ∧ t < 3) (hC : C t = M 70 (12 + t)) (hb : M 70 (12 + t) ≤ 5) : ∀ (k : Nat) (i : Int) (L : List Int) (R : Int → Int), i + k = M 70 (12 + t) → 0 ≤ i → tl R 0 L.length = L → (L.length : Int) + k ≤ 5 → ∃ R', tl R' 0 (L ++ tl (M 70) (15 + 5 * t + i) k).length = L ++ tl (M 70) (15 + 5 * t + i) k ∧ ∀ (F : hp) (X : Nat → Option Nat → Int → Int → hp → Prop) (Q : hp → Prop), X 69 (some 70) ((L ++ tl (M 70) (15 + 5 * t + i) k).length : Int) (t + 1) (rh F u (um (um M 80 R') 81 C)) → mX12_takeFrom_L24 X Q (k + 1) 69 (some 70) L.length t i (rh F u (um (um M 80 R) 81 C)) := by
  intro k
  induction k with
  | zero =>
    intro i L R hi h0 hR hl
    have e : tl (M 70) (15 + 5 * t + i) ((0 : Nat) : Int) = [] := tl_nil _ _ (by omega)
    rw [e, List.append_nil]
    refine ⟨R, hR, fun F X Q q => ?_⟩
    rw [mX12_takeFrom_L24]
    simp (disch := first | omega | decide) only [w32_id, ↓rh_rcv, ↓rh_g28, ↓rh_r81, ↓rh_w81, ↓be_y, ↓be_n, ↓bf_y, ↓bf_n, ↓bl_y, ↓bl_n, ↓bm_y, ↓bm_n, ↓bg_y, ↓bg_n, ↓bs_y, ↓bs_n, ↓bo_y, ↓bo_n, ↓bp_y, ↓bp_n, ↓forall_eq, ↓within_y, ↓within_n, ↓isIn_y, ↓isIn_n, and_true, true_and, and_self, us_at, us_ne, w32_id, um_eq, um_ne, um_um, uu_eq, uu_ne, uu_uu, vv_eq, vv_ne, vv_vv, ne_eq, not_false_eq_true, not_true_eq_false, reduceCtorEq, Int.reduceAdd, Int.reduceSub, Int.reduceMul, Int.reduceNeg, Nat.reduceEqDiff, or_true, true_or, true_implies, false_implies, Int.reduceLT, Int.reduceLE, Int.reduceEq, hC]
    exact q
  | succ k ih =>
    intro i L R hi h0 hR hl
    have p := tl_put (c := M 70 (15 + 5 * t + i)) hR
    have ll : ((L ++ [M 70 (15 + 5 * t + i)]).length : Int) = (L.length : Int) + 1 := by rw [List.length_append]; rfl
    obtain ⟨R', a1, a2⟩ := ih (i + 1) (L ++ [M 70 (15 + 5 * t + i)]) _ (by omega) (by omega) p (by omega)
    have e : tl (M 70) (15 + 5 * t + i) ((k + 1 : Nat) : Int) = M 70 (15 + 5 * t + i) :: tl (M 70) (15 + 5 * t + (i + 1)) k := by
      rw [show (((k + 1 : Nat)) : Int) = (k : Int) + 1 by omega, tl_cons (by omega), show 15 + 5 * t + i + 1 = 15 + 5 * t + (i + 1) by omega]
    rw [List.append_assoc, List.singleton_append, ← e] at a1 a2
    refine ⟨R', a1, fun F X Q q => ?_⟩
    have a3 := a2 F X Q q
    rw [ll] at a3
    rw [mX12_takeFrom_L24]
    simp (disch := first | omega | decide) only [w32_id, ↓rh_rcv, ↓rh_g27, ↓rh_g28, ↓rh_r70, ↓rh_w70, ↓rh_r80, ↓rh_w80, ↓rh_r81, ↓rh_w81, ↓be_y, ↓be_n, ↓bf_y, ↓bf_n, ↓bl_y, ↓bl_n, ↓bm_y, ↓bm_n, ↓bg_y, ↓bg_n, ↓bs_y, ↓bs_n, ↓bo_y, ↓bo_n, ↓bp_y, ↓bp_n, ↓forall_eq, ↓within_y, ↓within_n, ↓isIn_y, ↓isIn_n, and_true, true_and, and_self, us_at, us_ne, w32_id, um_eq, um_ne, um_um, uu_eq, uu_ne, uu_uu, vv_eq, vv_ne, vv_vv, ne_eq, not_false_eq_true, not_true_eq_false, reduceCtorEq, Int.reduceAdd, Int.reduceSub, Int.reduceMul, Int.reduceNeg, Nat.reduceEqDiff, or_true, true_or, true_implies, false_implies, Int.reduceLT, Int.reduceLE, Int.reduceEq, hC]
    exact a3
theorem take_70 (hY : jY Y (M 70)) : ∃ R C, rrep (yst (M 70)) R C ∧ ∀ (F : hp) (Q : hp → Prop), Q (rh F u (um (um M 80 R) 81 C)) → mX12_takeFrom 69 (some 70) (rh F u M) Q := by
  have w0 := (trk (N := fun _ => Y) (M := fun _ => M 70) hY (t := 0) (by omega)).1.2
  have w1 := (trk (N := fun _ => Y) (M := fun _ => M 70) hY (t := 1) (by omega)).1.2
  have w2 := (trk (N := fun _ => Y) (M := fun _ => M 70) hY (t := 2) (by omega)).1.2
  have v0 : 0 ≤ M 70 (12 + 0) ∧ M 70 (12 + 0) ≤ 5 := w0
  have v1 : 0 ≤ M 70 (12 + 1) ∧ M 70 (12 + 1) ≤ 5 := w1
  have v2 : 0 ≤ M 70 (12 + 2) ∧ M 70 (12 + 2) ≤ 5 := w2
  have ys := yok_sum (jY_k hY)
  have y3 := (jY_d hY).2.2.1
  have s0 := (y3 0 (by omega) (by omega)).1
  have s1 := (y3 1 (by omega) (by omega)).1
  have s2 := (y3 2 (by omega) (by omega)).1
  simp only [Int.reduceAdd] at s0 s1 s2 v0 v1 v2
  have hc := jY_c hY
  have t0 : ((M 70 12).toNat : Int) = M 70 12 := by omega
  have t1 : ((M 70 13).toNat : Int) = M 70 13 := by omega
  have t2 : ((M 70 14).toNat : Int) = M 70 14 := by omega
  have l0 := tl_len (M 70) 15 (n := M 70 12) (by omega)
  have l1 := tl_len (M 70) 20 (n := M 70 13) (by omega)
  have l2 := tl_len (M 70) 25 (n := M 70 14) (by omega)
  obtain ⟨R1, p1, q1⟩ := tf24_70 (u := u) (M := M) (C := us (M 81) 0 (M 70 12)) (t := 0) (by omega) (us_eq _ _ _) v0.2 (M 70 12).toNat 0 [] (M 80) (by rw [t0, Int.zero_add]; rfl) (by omega) rfl (by rw [t0]; show (0 : Int) + M 70 12 ≤ 5; omega)
  rw [t0] at p1 q1
  simp only [List.nil_append, Int.reduceMul, Int.reduceAdd] at p1 q1
  obtain ⟨R2, p2, q2⟩ := tf24_70 (u := u) (M := M) (C := us (us (M 81) 0 (M 70 12)) 1 (M 70 13)) (t := 1) (by omega) (us_eq _ _ _) v1.2 (M 70 13).toNat 0 (tl (M 70) 15 (M 70 12)) R1 (by rw [t1, Int.zero_add]; rfl) (by omega) p1 (by rw [t1, l0]; omega)
  rw [t1] at p2 q2
  simp only [Int.reduceMul, Int.reduceAdd] at p2 q2
  obtain ⟨R3, p3, q3⟩ := tf24_70 (u := u) (M := M) (C := us (us (us (M 81) 0 (M 70 12)) 1 (M 70 13)) 2 (M 70 14)) (t := 2) (by omega) (us_eq _ _ _) v2.2 (M 70 14).toNat 0 (tl (M 70) 15 (M 70 12) ++ tl (M 70) 20 (M 70 13)) R2 (by rw [t2, Int.zero_add]; rfl) (by omega) p2 (by rw [t2, List.length_append]; omega)
  rw [t2] at p3 q3
  simp only [Int.reduceMul, Int.reduceAdd] at p3 q3
  have eb : brow (yst (M 70)) = tl (M 70) 15 (M 70 12) ++ tl (M 70) 20 (M 70 13) ++ tl (M 70) 25 (M 70 14) := by
    unfold brow yst
    rw [List.reverse_reverse, List.reverse_reverse, List.reverse_reverse]
  refine ⟨R3, us (us (us (M 81) 0 (M 70 12)) 1 (M 70 13)) 2 (M 70 14), ⟨⟨?_, ?_, ?_⟩, by rw [eb]; exact p3⟩, fun F Q q => ?_⟩
  · unfold yst
    simp (disch := omega) only [us_at, us_ne, List.length_reverse]
    exact l0.symm
  · unfold yst
    simp (disch := omega) only [us_at, us_ne, List.length_reverse]
    exact l1.symm
  · unfold yst
    simp (disch := omega) only [us_at, us_ne, List.length_reverse]
    exact l2.symm
  · have mm : um (um M 80 (M 80)) 81 (M 81) = M := by rw [um_self, um_self]
    refine ⟨4, ?_⟩
    rw [mX12_takeFrom_L4]
    rw [← mm]
    simp (disch := first | omega | decide) only [w32_id, ↓rh_rcv, ↓rh_g28, ↓rh_r70, ↓rh_w70, ↓rh_r81, ↓rh_w81, ↓be_y, ↓be_n, ↓bf_y, ↓bf_n, ↓bl_y, ↓bl_n, ↓bm_y, ↓bm_n, ↓bg_y, ↓bg_n, ↓bs_y, ↓bs_n, ↓bo_y, ↓bo_n, ↓bp_y, ↓bp_n, ↓forall_eq, ↓within_y, ↓within_n, ↓isIn_y, ↓isIn_n, and_true, true_and, and_self, us_at, us_ne, w32_id, um_eq, um_ne, um_um, uu_eq, uu_ne, uu_uu, vv_eq, vv_ne, vv_vv, ne_eq, not_false_eq_true, not_true_eq_false, reduceCtorEq, Int.reduceAdd, Int.reduceSub, Int.reduceMul, Int.reduceNeg, Nat.reduceEqDiff, or_true, true_or, true_implies, false_implies, Int.reduceLT, Int.reduceLE, Int.reduceEq]
    refine ⟨_, q1 F (fun o' a1' a2' a3' F' => mX12_takeFrom_L4 Q 3 o' a1' a2' a3' F') Q ?_⟩
    show mX12_takeFrom_L4 Q 3 _ _ _ _ _
    rw [mX12_takeFrom_L4]
    simp (disch := first | omega | decide) only [w32_id, ↓rh_rcv, ↓rh_g28, ↓rh_r70, ↓rh_w70, ↓rh_r81, ↓rh_w81, ↓be_y, ↓be_n, ↓bf_y, ↓bf_n, ↓bl_y, ↓bl_n, ↓bm_y, ↓bm_n, ↓bg_y, ↓bg_n, ↓bs_y, ↓bs_n, ↓bo_y, ↓bo_n, ↓bp_y, ↓bp_n, ↓forall_eq, ↓within_y, ↓within_n, ↓isIn_y, ↓isIn_n, and_true, true_and, and_self, us_at, us_ne, w32_id, um_eq, um_ne, um_um, uu_eq, uu_ne, uu_uu, vv_eq, vv_ne, vv_vv, ne_eq, not_false_eq_true, not_true_eq_false, reduceCtorEq, Int.reduceAdd, Int.reduceSub, Int.reduceMul, Int.reduceNeg, Nat.reduceEqDiff, or_true, true_or, true_implies, false_implies, Int.reduceLT, Int.reduceLE, Int.reduceEq]
    refine ⟨_, q2 F (fun o' a1' a2' a3' F' => mX12_takeFrom_L4 Q 2 o' a1' a2' a3' F') Q ?_⟩
    show mX12_takeFrom_L4 Q 2 _ _ _ _ _
    rw [mX12_takeFrom_L4]
    simp (disch := first | omega | decide) only [w32_id, ↓rh_rcv, ↓rh_g28, ↓rh_r70, ↓rh_w70, ↓rh_r81, ↓rh_w81, ↓be_y, ↓be_n, ↓bf_y, ↓bf_n, ↓bl_y, ↓bl_n, ↓bm_y, ↓bm_n, ↓bg_y, ↓bg_n, ↓bs_y, ↓bs_n, ↓bo_y, ↓bo_n, ↓bp_y, ↓bp_n, ↓forall_eq, ↓within_y, ↓within_n, ↓isIn_y, ↓isIn_n, and_true, true_and, and_self, us_at, us_ne, w32_id, um_eq, um_ne, um_um, uu_eq, uu_ne, uu_uu, vv_eq, vv_ne, vv_vv, ne_eq, not_false_eq_true, not_true_eq_false, reduceCtorEq, Int.reduceAdd, Int.reduceSub, Int.reduceMul, Int.reduceNeg, Nat.reduceEqDiff, or_true, true_or, true_implies, false_implies, Int.reduceLT, Int.reduceLE, Int.reduceEq]
    refine ⟨_, q3 F (fun o' a1' a2' a3' F' => mX12_takeFrom_L4 Q 1 o' a1' a2' a3' F') Q ?_⟩
    show mX12_takeFrom_L4 Q 1 _ _ _ _ _
    rw [mX12_takeFrom_L4]
    simp (disch := first | omega | decide) only [w32_id, ↓rh_rcv, ↓rh_g28, ↓rh_r70, ↓rh_w70, ↓rh_r81, ↓rh_w81, ↓be_y, ↓be_n, ↓bf_y, ↓bf_n, ↓bl_y, ↓bl_n, ↓bm_y, ↓bm_n, ↓bg_y, ↓bg_n, ↓bs_y, ↓bs_n, ↓bo_y, ↓bo_n, ↓bp_y, ↓bp_n, ↓forall_eq, ↓within_y, ↓within_n, ↓isIn_y, ↓isIn_n, and_true, true_and, and_self, us_at, us_ne, w32_id, um_eq, um_ne, um_um, uu_eq, uu_ne, uu_uu, vv_eq, vv_ne, vv_vv, ne_eq, not_false_eq_true, not_true_eq_false, reduceCtorEq, Int.reduceAdd, Int.reduceSub, Int.reduceMul, Int.reduceNeg, Nat.reduceEqDiff, or_true, true_or, true_implies, false_implies, Int.reduceLT, Int.reduceLE, Int.reduceEq]
    exact q
theorem tf24_71 {t : Int} (ht : 0 ≤ t ∧ t < 3) (hC : C t = M 71 (12 + t)) (hb : M 71 (12 + t) ≤ 5) : ∀ (k : Nat) (i : Int) (L : List Int) (R : Int → Int), i + k = M 71 (12 + t) → 0 ≤ i → tl R 0 L.length = L → (L.length : Int) + k ≤ 5 → ∃ R', tl R' 0 (L ++ tl (M 71) (15 + 5 * t + i) k).length = L ++ tl (M 71) (15 + 5 * t + i) k ∧ ∀ (F : hp) (X : Nat → Option Nat → Int → Int → hp → Prop) (Q : hp → Prop), X 69 (some 71) ((L ++ tl (M 71) (15 + 5 * t + i) k).length : Int) (t + 1) (rh F u (um (um M 80 R') 81 C)) → mX12_takeFrom_L24 X Q (k + 1) 69 (some 71) L.length t i (rh F u (um (um M 80 R) 81 C)) := by
  intro k
  induction k with
  | zero =>
    intro i L R hi h0 hR hl
    have e : tl (M 71) (15 + 5 * t + i) ((0 : Nat) : Int) = [] := tl_nil _ _ (by omega)
    rw [e, List.append_nil]
    refine ⟨R, hR, fun F X Q q => ?_⟩
    rw [mX12_takeFrom_L24]
    simp (disch := first | omega | decide) only [w32_id, ↓rh_rcv, ↓rh_g28, ↓rh_r81, ↓rh_w81, ↓be_y, ↓be_n, ↓bf_y, ↓bf_n, ↓bl_y, ↓bl_n, ↓bm_y, ↓bm_n, ↓bg_y, ↓bg_n, ↓bs_y, ↓bs_n, ↓bo_y, ↓bo_n, ↓bp_y, ↓bp_n, ↓forall_eq, ↓within_y, ↓within_n, ↓isIn_y, ↓isIn_n, and_true, true_and, and_self, us_at, us_ne, w32_id, um_eq, um_ne, um_um, uu_eq, uu_ne, uu_uu, vv_eq, vv_ne, vv_vv, ne_eq, not_false_eq_true, not_true_eq_false, reduceCtorEq, Int.reduceAdd, Int.reduceSub, Int.reduceMul, Int.reduceNeg, Nat.reduceEqDiff, or_true, true_or, true_implies, false_implies, Int.reduceLT, Int.reduceLE, Int.reduceEq, hC]
    exact q
  | succ k ih =>
    intro i L R hi h0 hR hl
    have p := tl_put (c := M 71 (15 + 5 * t + i)) hR
    have ll : ((L ++ [M 71 (15 + 5 * t + i)]).length : Int) = (L.length : Int) + 1 := by rw [List.length_append]; rfl
    obtain ⟨R', a1, a2⟩ := ih (i + 1) (L ++ [M 71 (15 + 5 * t + i)]) _ (by omega) (by omega) p (by omega)
    have e : tl (M 71) (15 + 5 * t + i) ((k + 1 : Nat) : Int) = M 71 (15 + 5 * t + i) :: tl (M 71) (15 + 5 * t + (i + 1)) k := by
      rw [show (((k + 1 : Nat)) : Int) = (k : Int) + 1 by omega, tl_cons (by omega), show 15 + 5 * t + i + 1 = 15 + 5 * t + (i + 1) by omega]
    rw [List.append_assoc, List.singleton_append, ← e] at a1 a2
    refine ⟨R', a1, fun F X Q q => ?_⟩
    have a3 := a2 F X Q q
    rw [ll] at a3
    rw [mX12_takeFrom_L24]
    simp (disch := first | omega | decide) only [w32_id, ↓rh_rcv, ↓rh_g27, ↓rh_g28, ↓rh_r71, ↓rh_w71, ↓rh_r80, ↓rh_w80, ↓rh_r81, ↓rh_w81, ↓be_y, ↓be_n, ↓bf_y, ↓bf_n, ↓bl_y, ↓bl_n, ↓bm_y, ↓bm_n, ↓bg_y, ↓bg_n, ↓bs_y, ↓bs_n, ↓bo_y, ↓bo_n, ↓bp_y, ↓bp_n, ↓forall_eq, ↓within_y, ↓within_n, ↓isIn_y, ↓isIn_n, and_true, true_and, and_self, us_at, us_ne, w32_id, um_eq, um_ne, um_um, uu_eq, uu_ne, uu_uu, vv_eq, vv_ne, vv_vv, ne_eq, not_false_eq_true, not_true_eq_false, reduceCtorEq, Int.reduceAdd, Int.reduceSub, Int.reduceMul, Int.reduceNeg, Nat.reduceEqDiff, or_true, true_or, true_implies, false_implies, Int.reduceLT, Int.reduceLE, Int.reduceEq, hC]
    exact a3
theorem take_71 (hY : jY Y (M 71)) : ∃ R C, rrep (yst (M 71)) R C ∧ ∀ (F : hp) (Q : hp → Prop), Q (rh F u (um (um M 80 R) 81 C)) → mX12_takeFrom 69 (some 71) (rh F u M) Q := by
  have w0 := (trk (N := fun _ => Y) (M := fun _ => M 71) hY (t := 0) (by omega)).1.2
  have w1 := (trk (N := fun _ => Y) (M := fun _ => M 71) hY (t := 1) (by omega)).1.2
  have w2 := (trk (N := fun _ => Y) (M := fun _ => M 71) hY (t := 2) (by omega)).1.2
  have v0 : 0 ≤ M 71 (12 + 0) ∧ M 71 (12 + 0) ≤ 5 := w0
  have v1 : 0 ≤ M 71 (12 + 1) ∧ M 71 (12 + 1) ≤ 5 := w1
  have v2 : 0 ≤ M 71 (12 + 2) ∧ M 71 (12 + 2) ≤ 5 := w2
  have ys := yok_sum (jY_k hY)
  have y3 := (jY_d hY).2.2.1
  have s0 := (y3 0 (by omega) (by omega)).1
  have s1 := (y3 1 (by omega) (by omega)).1
  have s2 := (y3 2 (by omega) (by omega)).1
  simp only [Int.reduceAdd] at s0 s1 s2 v0 v1 v2
  have hc := jY_c hY
  have t0 : ((M 71 12).toNat : Int) = M 71 12 := by omega
  have t1 : ((M 71 13).toNat : Int) = M 71 13 := by omega
  have t2 : ((M 71 14).toNat : Int) = M 71 14 := by omega
  have l0 := tl_len (M 71) 15 (n := M 71 12) (by omega)
  have l1 := tl_len (M 71) 20 (n := M 71 13) (by omega)
  have l2 := tl_len (M 71) 25 (n := M 71 14) (by omega)
  obtain ⟨R1, p1, q1⟩ := tf24_71 (u := u) (M := M) (C := us (M 81) 0 (M 71 12)) (t := 0) (by omega) (us_eq _ _ _) v0.2 (M 71 12).toNat 0 [] (M 80) (by rw [t0, Int.zero_add]; rfl) (by omega) rfl (by rw [t0]; show (0 : Int) + M 71 12 ≤ 5; omega)
  rw [t0] at p1 q1
  simp only [List.nil_append, Int.reduceMul, Int.reduceAdd] at p1 q1
  obtain ⟨R2, p2, q2⟩ := tf24_71 (u := u) (M := M) (C := us (us (M 81) 0 (M 71 12)) 1 (M 71 13)) (t := 1) (by omega) (us_eq _ _ _) v1.2 (M 71 13).toNat 0 (tl (M 71) 15 (M 71 12)) R1 (by rw [t1, Int.zero_add]; rfl) (by omega) p1 (by rw [t1, l0]; omega)
  rw [t1] at p2 q2
  simp only [Int.reduceMul, Int.reduceAdd] at p2 q2
  obtain ⟨R3, p3, q3⟩ := tf24_71 (u := u) (M := M) (C := us (us (us (M 81) 0 (M 71 12)) 1 (M 71 13)) 2 (M 71 14)) (t := 2) (by omega) (us_eq _ _ _) v2.2 (M 71 14).toNat 0 (tl (M 71) 15 (M 71 12) ++ tl (M 71) 20 (M 71 13)) R2 (by rw [t2, Int.zero_add]; rfl) (by omega) p2 (by rw [t2, List.length_append]; omega)
  rw [t2] at p3 q3
  simp only [Int.reduceMul, Int.reduceAdd] at p3 q3
  have eb : brow (yst (M 71)) = tl (M 71) 15 (M 71 12) ++ tl (M 71) 20 (M 71 13) ++ tl (M 71) 25 (M 71 14) := by
    unfold brow yst
    rw [List.reverse_reverse, List.reverse_reverse, List.reverse_reverse]
  refine ⟨R3, us (us (us (M 81) 0 (M 71 12)) 1 (M 71 13)) 2 (M 71 14), ⟨⟨?_, ?_, ?_⟩, by rw [eb]; exact p3⟩, fun F Q q => ?_⟩
  · unfold yst
    simp (disch := omega) only [us_at, us_ne, List.length_reverse]
    exact l0.symm
  · unfold yst
    simp (disch := omega) only [us_at, us_ne, List.length_reverse]
    exact l1.symm
  · unfold yst
    simp (disch := omega) only [us_at, us_ne, List.length_reverse]
    exact l2.symm
  · have mm : um (um M 80 (M 80)) 81 (M 81) = M := by rw [um_self, um_self]
    refine ⟨4, ?_⟩
    rw [mX12_takeFrom_L4]
    rw [← mm]
    simp (disch := first | omega | decide) only [w32_id, ↓rh_rcv, ↓rh_g28, ↓rh_r71, ↓rh_w71, ↓rh_r81, ↓rh_w81, ↓be_y, ↓be_n, ↓bf_y, ↓bf_n, ↓bl_y, ↓bl_n, ↓bm_y, ↓bm_n, ↓bg_y, ↓bg_n, ↓bs_y, ↓bs_n, ↓bo_y, ↓bo_n, ↓bp_y, ↓bp_n, ↓forall_eq, ↓within_y, ↓within_n, ↓isIn_y, ↓isIn_n, and_true, true_and, and_self, us_at, us_ne, w32_id, um_eq, um_ne, um_um, uu_eq, uu_ne, uu_uu, vv_eq, vv_ne, vv_vv, ne_eq, not_false_eq_true, not_true_eq_false, reduceCtorEq, Int.reduceAdd, Int.reduceSub, Int.reduceMul, Int.reduceNeg, Nat.reduceEqDiff, or_true, true_or, true_implies, false_implies, Int.reduceLT, Int.reduceLE, Int.reduceEq]
    refine ⟨_, q1 F (fun o' a1' a2' a3' F' => mX12_takeFrom_L4 Q 3 o' a1' a2' a3' F') Q ?_⟩
    show mX12_takeFrom_L4 Q 3 _ _ _ _ _
    rw [mX12_takeFrom_L4]
    simp (disch := first | omega | decide) only [w32_id, ↓rh_rcv, ↓rh_g28, ↓rh_r71, ↓rh_w71, ↓rh_r81, ↓rh_w81, ↓be_y, ↓be_n, ↓bf_y, ↓bf_n, ↓bl_y, ↓bl_n, ↓bm_y, ↓bm_n, ↓bg_y, ↓bg_n, ↓bs_y, ↓bs_n, ↓bo_y, ↓bo_n, ↓bp_y, ↓bp_n, ↓forall_eq, ↓within_y, ↓within_n, ↓isIn_y, ↓isIn_n, and_true, true_and, and_self, us_at, us_ne, w32_id, um_eq, um_ne, um_um, uu_eq, uu_ne, uu_uu, vv_eq, vv_ne, vv_vv, ne_eq, not_false_eq_true, not_true_eq_false, reduceCtorEq, Int.reduceAdd, Int.reduceSub, Int.reduceMul, Int.reduceNeg, Nat.reduceEqDiff, or_true, true_or, true_implies, false_implies, Int.reduceLT, Int.reduceLE, Int.reduceEq]
    refine ⟨_, q2 F (fun o' a1' a2' a3' F' => mX12_takeFrom_L4 Q 2 o' a1' a2' a3' F') Q ?_⟩
    show mX12_takeFrom_L4 Q 2 _ _ _ _ _
    rw [mX12_takeFrom_L4]
    simp (disch := first | omega | decide) only [w32_id, ↓rh_rcv, ↓rh_g28, ↓rh_r71, ↓rh_w71, ↓rh_r81, ↓rh_w81, ↓be_y, ↓be_n, ↓bf_y, ↓bf_n, ↓bl_y, ↓bl_n, ↓bm_y, ↓bm_n, ↓bg_y, ↓bg_n, ↓bs_y, ↓bs_n, ↓bo_y, ↓bo_n, ↓bp_y, ↓bp_n, ↓forall_eq, ↓within_y, ↓within_n, ↓isIn_y, ↓isIn_n, and_true, true_and, and_self, us_at, us_ne, w32_id, um_eq, um_ne, um_um, uu_eq, uu_ne, uu_uu, vv_eq, vv_ne, vv_vv, ne_eq, not_false_eq_true, not_true_eq_false, reduceCtorEq, Int.reduceAdd, Int.reduceSub, Int.reduceMul, Int.reduceNeg, Nat.reduceEqDiff, or_true, true_or, true_implies, false_implies, Int.reduceLT, Int.reduceLE, Int.reduceEq]
    refine ⟨_, q3 F (fun o' a1' a2' a3' F' => mX12_takeFrom_L4 Q 1 o' a1' a2' a3' F') Q ?_⟩
    show mX12_takeFrom_L4 Q 1 _ _ _ _ _
    rw [mX12_takeFrom_L4]
    simp (disch := first | omega | decide) only [w32_id, ↓rh_rcv, ↓rh_g28, ↓rh_r71, ↓rh_w71, ↓rh_r81, ↓rh_w81, ↓be_y, ↓be_n, ↓bf_y, ↓bf_n, ↓bl_y, ↓bl_n, ↓bm_y, ↓bm_n, ↓bg_y, ↓bg_n, ↓bs_y, ↓bs_n, ↓bo_y, ↓bo_n, ↓bp_y, ↓bp_n, ↓forall_eq, ↓within_y, ↓within_n, ↓isIn_y, ↓isIn_n, and_true, true_and, and_self, us_at, us_ne, w32_id, um_eq, um_ne, um_um, uu_eq, uu_ne, uu_uu, vv_eq, vv_ne, vv_vv, ne_eq, not_false_eq_true, not_true_eq_false, reduceCtorEq, Int.reduceAdd, Int.reduceSub, Int.reduceMul, Int.reduceNeg, Nat.reduceEqDiff, or_true, true_or, true_implies, false_implies, Int.reduceLT, Int.reduceLE, Int.reduceEq]
    exact q
end TF
