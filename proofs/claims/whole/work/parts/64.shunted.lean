def en (C : Int → Int) (t : Int) : Int := if t = 0 then C 0 else if t = 1 then C 0 + C 1 else C 0 + C 1 + C 2
section SV
variable {n : Int} {u : Nat → Int} {M : Nat → Int → Int} {s : std}
theorem um_cm {M : Nat → Int → Int} {R C : Int → Int} : um (um M 80 R) 81 C = um (um M 81 C) 80 R := by
  funext j
  by_cases a : j = 80
  · subst a; rw [um_ne (by decide), um_eq, um_eq]
  · by_cases b : j = 81
    · subst b; rw [um_eq, um_ne (by decide), um_eq]
    · rw [um_ne b, um_ne a, um_ne a, um_ne b]
theorem end_r {t : Int} (ht : 0 ≤ t ∧ t < 3) {F : hp} {Q : Int → hp → Prop} : mX12_endOf 69 t (rh F u M) Q ↔ Q (en (M 81) t) (rh F u M) := by
  obtain rfl | rfl | rfl : t = 0 ∨ t = 1 ∨ t = 2 := by omega
  · unfold en
    rw [if_pos rfl]
    simp (disch := first | omega | decide) only [mX12_endOf, ↓rh_rcv, ↓rh_g28, ↓rh_r81, ↓rh_w81, ↓be_y, ↓be_n, ↓bf_y, ↓bf_n, ↓bl_y, ↓bl_n, ↓bm_y, ↓bm_n, ↓bg_y, ↓bg_n, ↓bs_y, ↓bs_n, ↓bo_y, ↓bo_n, ↓bp_y, ↓bp_n, ↓forall_eq, ↓within_y, ↓within_n, ↓isIn_y, ↓isIn_n, and_true, true_and, and_self, us_at, us_ne, w32_id, um_eq, um_ne, um_um, uu_eq, uu_ne, uu_uu, vv_eq, vv_ne, vv_vv, ne_eq, not_false_eq_true, not_true_eq_false, reduceCtorEq, Int.reduceAdd, Int.reduceSub, Int.reduceMul, Int.reduceNeg, Nat.reduceEqDiff, or_true, true_or, true_implies, false_implies, Int.reduceLT, Int.reduceLE, Int.reduceEq]
  · unfold en
    rw [if_neg (by decide), if_pos rfl]
    simp (disch := first | omega | decide) only [mX12_endOf, ↓rh_rcv, ↓rh_g28, ↓rh_r81, ↓rh_w81, ↓be_y, ↓be_n, ↓bf_y, ↓bf_n, ↓bl_y, ↓bl_n, ↓bm_y, ↓bm_n, ↓bg_y, ↓bg_n, ↓bs_y, ↓bs_n, ↓bo_y, ↓bo_n, ↓bp_y, ↓bp_n, ↓forall_eq, ↓within_y, ↓within_n, ↓isIn_y, ↓isIn_n, and_true, true_and, and_self, us_at, us_ne, w32_id, um_eq, um_ne, um_um, uu_eq, uu_ne, uu_uu, vv_eq, vv_ne, vv_vv, ne_eq, not_false_eq_true, not_true_eq_false, reduceCtorEq, Int.reduceAdd, Int.reduceSub, Int.reduceMul, Int.reduceNeg, Nat.reduceEqDiff, or_true, true_or, true_implies, false_implies, Int.reduceLT, Int.reduceLE, Int.reduceEq]
  · unfold en
    rw [if_neg (by decide), if_neg (by decide)]
    simp (disch := first | omega | decide) only [mX12_endOf, mX12_cars, ↓rh_rcv, ↓rh_g28, ↓rh_r81, ↓rh_w81, ↓be_y, ↓be_n, ↓bf_y, ↓bf_n, ↓bl_y, ↓bl_n, ↓bm_y, ↓bm_n, ↓bg_y, ↓bg_n, ↓bs_y, ↓bs_n, ↓bo_y, ↓bo_n, ↓bp_y, ↓bp_n, ↓forall_eq, ↓within_y, ↓within_n, ↓isIn_y, ↓isIn_n, and_true, true_and, and_self, us_at, us_ne, w32_id, um_eq, um_ne, um_um, uu_eq, uu_ne, uu_uu, vv_eq, vv_ne, vv_vv, ne_eq, not_false_eq_true, not_true_eq_false, reduceCtorEq, Int.reduceAdd, Int.reduceSub, Int.reduceMul, Int.reduceNeg, Nat.reduceEqDiff, or_true, true_or, true_implies, false_implies, Int.reduceLT, Int.reduceLE, Int.reduceEq]
theorem core_l {f t c : Int} {x y z : List Int} (hf : 0 ≤ f ∧ f < 3) (ht : 0 ≤ t ∧ t < 3) (d : f < t) (hs : spl (M 80) x c (y ++ z)) (hl : (x.length : Int) + y.length + z.length < 5) (he : en (M 81) t - 1 = (x.length : Int) + y.length) : ∃ R', spl R' (x ++ y) c z ∧ ∀ (F : hp) (Q : Int → hp → Prop), Q 1 (rh F u (um (um M 80 R') 81 (us (us (M 81) f (M 81 f - 1)) t (M 81 t + 1)))) → mX12_isShunted_J64 Q 69 f t x.length c (rh F u M) := by
  obtain ⟨R1, d1, a1, a2⟩ := sh89 (u := u) (M := M) (f := f) (t := t) (a3 := (x.length : Int)) (c := c) (a5 := (x.length : Int) + y.length) y x z c (M 80) hs hl rfl
  have lx : ((x ++ y).length : Int) = (x.length : Int) + y.length := by rw [List.length_append]; omega
  have w := spl_w (x := c) a1
  rw [lx] at w
  rw [um_self] at a2
  refine ⟨_, w, fun F Q q => ?_⟩
  have e3 : us (M 81) f (M 81 f - 1) t = M 81 t := us_ne (by omega)
  simp (disch := first | omega | decide) only [mX12_isShunted_J64, ↓end_r, mX12_isShunted_J84, ↓rh_rcv, ↓rh_g0, ↓be_y, ↓be_n, ↓bf_y, ↓bf_n, ↓bl_y, ↓bl_n, ↓bm_y, ↓bm_n, ↓bg_y, ↓bg_n, ↓bs_y, ↓bs_n, ↓bo_y, ↓bo_n, ↓bp_y, ↓bp_n, ↓forall_eq, ↓within_y, ↓within_n, ↓isIn_y, ↓isIn_n, and_true, true_and, and_self, us_at, us_ne, w32_id, um_eq, um_ne, um_um, uu_eq, uu_ne, uu_uu, vv_eq, vv_ne, vv_vv, ne_eq, not_false_eq_true, not_true_eq_false, reduceCtorEq, Int.reduceAdd, Int.reduceSub, Int.reduceMul, Int.reduceNeg, Nat.reduceEqDiff, or_true, true_or, true_implies, false_implies, Int.reduceLT, Int.reduceLE, Int.reduceEq]
  rw [he]
  refine ⟨_, a2 F Q ⟨1, ?_⟩⟩
  rw [mX12_isShunted_L121]
  simp (disch := first | omega | decide) only [w32_id, ↓rh_rcv, ↓rh_g27, ↓rh_g28, ↓rh_r80, ↓rh_w80, ↓rh_r81, ↓rh_w81, ↓be_y, ↓be_n, ↓bf_y, ↓bf_n, ↓bl_y, ↓bl_n, ↓bm_y, ↓bm_n, ↓bg_y, ↓bg_n, ↓bs_y, ↓bs_n, ↓bo_y, ↓bo_n, ↓bp_y, ↓bp_n, ↓forall_eq, ↓within_y, ↓within_n, ↓isIn_y, ↓isIn_n, and_true, true_and, and_self, us_at, us_ne, w32_id, um_eq, um_ne, um_um, uu_eq, uu_ne, uu_uu, vv_eq, vv_ne, vv_vv, ne_eq, not_false_eq_true, not_true_eq_false, reduceCtorEq, Int.reduceAdd, Int.reduceSub, Int.reduceMul, Int.reduceNeg, Nat.reduceEqDiff, or_true, true_or, true_implies, false_implies, Int.reduceLT, Int.reduceLE, Int.reduceEq, e3]
  exact q
theorem core_r {f t c : Int} {x yr z : List Int} (hf : 0 ≤ f ∧ f < 3) (ht : 0 ≤ t ∧ t < 3) (d : t < f) (hs : spl (M 80) (x ++ yr.reverse) c z) (hl : (x.length : Int) + yr.length + z.length < 5) (he : en (M 81) t = (x.length : Int)) : ∃ R', spl R' x c (yr.reverse ++ z) ∧ ∀ (F : hp) (Q : Int → hp → Prop), Q 1 (rh F u (um (um M 80 R') 81 (us (us (M 81) f (M 81 f - 1)) t (M 81 t + 1)))) → mX12_isShunted_J64 Q 69 f t ((x.length : Int) + yr.length) c (rh F u M) := by
  obtain ⟨R1, d1, a1, a2⟩ := sh121 (u := u) (M := M) (f := f) (t := t) (c := c) (a5 := (x.length : Int)) (K := fun _ _ => True) yr x z c (M 80) hs hl rfl
  have w := spl_w (x := c) a1
  refine ⟨_, w, fun F Q q => ?_⟩
  have e3 : us (M 81) f (M 81 f - 1) t = M 81 t := us_ne (by omega)
  have mm : um (um M 80 (M 80)) 81 (M 81) = M := by rw [um_self, um_self]
  have a3 := a2 F Q (M 81)
  rw [mm] at a3
  simp (disch := first | omega | decide) only [mX12_isShunted_J64, ↓end_r, mX12_isShunted_J84, ↓rh_rcv, ↓rh_g0, ↓be_y, ↓be_n, ↓bf_y, ↓bf_n, ↓bl_y, ↓bl_n, ↓bm_y, ↓bm_n, ↓bg_y, ↓bg_n, ↓bs_y, ↓bs_n, ↓bo_y, ↓bo_n, ↓bp_y, ↓bp_n, ↓forall_eq, ↓within_y, ↓within_n, ↓isIn_y, ↓isIn_n, and_true, true_and, and_self, us_at, us_ne, w32_id, um_eq, um_ne, um_um, uu_eq, uu_ne, uu_uu, vv_eq, vv_ne, vv_vv, ne_eq, not_false_eq_true, not_true_eq_false, reduceCtorEq, Int.reduceAdd, Int.reduceSub, Int.reduceMul, Int.reduceNeg, Nat.reduceEqDiff, or_true, true_or, true_implies, false_implies, Int.reduceLT, Int.reduceLE, Int.reduceEq]
  rw [he]
  refine ⟨1, ?_⟩
  rw [mX12_isShunted_L89]
  simp (disch := first | omega | decide) only [w32_id, ↓rh_rcv, ↓rh_g27, ↓be_y, ↓be_n, ↓bf_y, ↓bf_n, ↓bl_y, ↓bl_n, ↓bm_y, ↓bm_n, ↓bg_y, ↓bg_n, ↓bs_y, ↓bs_n, ↓bo_y, ↓bo_n, ↓bp_y, ↓bp_n, ↓forall_eq, ↓within_y, ↓within_n, ↓isIn_y, ↓isIn_n, and_true, true_and, and_self, us_at, us_ne, w32_id, um_eq, um_ne, um_um, uu_eq, uu_ne, uu_uu, vv_eq, vv_ne, vv_vv, ne_eq, not_false_eq_true, not_true_eq_false, reduceCtorEq, Int.reduceAdd, Int.reduceSub, Int.reduceMul, Int.reduceNeg, Nat.reduceEqDiff, or_true, true_or, true_implies, false_implies, Int.reduceLT, Int.reduceLE, Int.reduceEq]
  refine ⟨_, a3 ?_⟩
  simp (disch := first | omega | decide) only [w32_id, ↓rh_rcv, ↓rh_g27, ↓rh_g28, ↓rh_r80, ↓rh_w80, ↓rh_r81, ↓rh_w81, ↓be_y, ↓be_n, ↓bf_y, ↓bf_n, ↓bl_y, ↓bl_n, ↓bm_y, ↓bm_n, ↓bg_y, ↓bg_n, ↓bs_y, ↓bs_n, ↓bo_y, ↓bo_n, ↓bp_y, ↓bp_n, ↓forall_eq, ↓within_y, ↓within_n, ↓isIn_y, ↓isIn_n, and_true, true_and, and_self, us_at, us_ne, w32_id, um_eq, um_ne, um_um, uu_eq, uu_ne, uu_uu, vv_eq, vv_ne, vv_vv, ne_eq, not_false_eq_true, not_true_eq_false, reduceCtorEq, Int.reduceAdd, Int.reduceSub, Int.reduceMul, Int.reduceNeg, Nat.reduceEqDiff, or_true, true_or, true_implies, false_implies, Int.reduceLT, Int.reduceLE, Int.reduceEq, e3]
  exact q
end SV
