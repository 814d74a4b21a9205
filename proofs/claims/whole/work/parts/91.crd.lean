-- ===== a law read by the class =====
def cxq (p : Int × Int) : Int := if p.1 = 0 then p.2 else if p.1 = 1 then 10000 + p.2 else 20000 + cxo p.1
def crs (tk plc : Nat → Int) (cn : Nat) (v : Nat → Nat → Int) (N : Nat → Int → Int) : gs → Prop
  | .inl (j, o) => v 49 7 = 0 ∧ v 49 8 = -1 ∧ v 49 9 = (j : Int) ∧ v 49 10 = tk j ∧ v 49 12 = (o.length : Int) ∧ (∀ (i : Nat) p, o[i]? = some p → N 53 i = cxq p) ∧ j ≤ cn ∧ o.length ≤ j
  | .inr (k, e) => v 49 7 = k ∧ (1 ≤ k ∧ k ≤ 6) ∧ v 49 8 = plc e ∧ v 49 10 = 45 ∧ (0 ≤ v 49 12 ∧ v 49 12 ≤ 300) ∧ e ≤ cn
def crd (tk plc : Nat → Int) (cn : Nat) (mo : Int) (d : Int) (s : gs) (v : Nat → Nat → Int) (N : Nat → Int → Int) : Prop := v 49 11 = d ∧ v 49 14 = mo ∧ (∀ i : Nat, i ≤ cn → N 51 i = tk i ∧ N 52 i = plc i) ∧ crs tk plc cn v N s
def frz (v v' : Nat → Nat → Int) : Prop := (∀ h, h ≠ 49 → v' h = v h) ∧ v' 49 6 = v 49 6 ∧ v' 49 13 = v 49 13 ∧ v' 49 14 = v 49 14
def fr53 (N N' : Nat → Int → Int) : Prop := ∀ j, j ≠ 53 → N' j = N j
def tkok (tk : Nat → Int) (cn : Nat) : Prop := tk cn = 44 ∧ cn ≤ 300 ∧ ∀ i, i ≤ cn → 0 ≤ tk i ∧ tk i ≤ 10100
def CLM (tk plc : Nat → Int) (cn : Nat) (mo : Int) (T : Nat → Int → Option Nat) (d : Int) (s : gs) (d' : Int) (s' : gs) (run : hp → (hp → Prop) → Prop) : Prop := ∀ v N, crd tk plc cn mo d s v N → ∃ v' N', crd tk plc cn mo d' s' v' N' ∧ frz v v' ∧ fr53 N N' ∧ ∀ (F : hp) (Q : hp → Prop), Q (kh F v' N' T) → run (kh F v N T) Q
section CR1
variable {tk plc : Nat → Int} {cn : Nat} {mo : Int} {T : Nat → Int → Option Nat} {d : Int} {s : gs} {v : Nat → Nat → Int} {N : Nat → Int → Int}
theorem frz_r (v : Nat → Nat → Int) : frz v v := ⟨fun _ _ => rfl, rfl, rfl, rfl⟩
theorem frz_t {v v' v'' : Nat → Nat → Int} (a : frz v v') (b : frz v' v'') : frz v v'' := ⟨fun h hh => by rw [b.1 h hh, a.1 h hh], by rw [b.2.1, a.2.1], by rw [b.2.2.1, a.2.2.1], by rw [b.2.2.2, a.2.2.2]⟩
theorem fr53_t {N N' N'' : Nat → Int → Int} (a : fr53 N N') (b : fr53 N' N'') : fr53 N N'' := fun j h => by rw [b j h, a j h]
theorem frz_w {v : Nat → Nat → Int} {k : Nat} {x : Int} (h : k ≠ 6 ∧ k ≠ 13 ∧ k ≠ 14) : frz v (vv v 49 k x) := ⟨fun h hh => by simp [vv, hh], by simp [vv, uu, h.1.symm], by simp [vv, uu, h.2.1.symm], by simp [vv, uu, h.2.2.symm]⟩
theorem vv_a {v : Nat → Nat → Int} {k : Nat} {x : Int} : vv v 49 k x 49 k = x := by simp [vv, uu]
theorem vv_b {v : Nat → Nat → Int} {k j : Nat} {x : Int} (h : j ≠ k) : vv v 49 k x 49 j = v 49 j := by simp [vv, uu, h]
theorem crd_t (h : crd tk plc cn mo d s v N) : v 49 10 = gcur tk s := by
  rcases s with ⟨j, o⟩ | ⟨k, e⟩
  · exact h.2.2.2.2.2.2.1
  · exact h.2.2.2.2.2.2.1
theorem crd_b (ht : tkok tk cn) (h : crd tk plc cn mo d s v N) : 0 ≤ gcur tk s ∧ gcur tk s ≤ 10100 := by
  rcases s with ⟨j, o⟩ | ⟨k, e⟩
  · exact ht.2.2 j h.2.2.2.2.2.2.2.2.2.1
  · show (0 : Int) ≤ 45 ∧ (45 : Int) ≤ 10100; omega
theorem c_next (ht : tkok tk cn) (hc : gcur tk s ≠ 44) : CLM tk plc cn mo T d s d (gadv s) (fun F Q => mX2_nextToken 49 F Q) := by
  intro v N h
  obtain ⟨h1, h2, h3, h4⟩ := id h
  rcases s with ⟨j, o⟩ | ⟨k, e⟩
  · obtain ⟨a1, a2, a3, a4, a5, a6, a7, a8⟩ := h4
    have hc : tk j ≠ 44 := hc
    have jl : j ≠ cn := fun e => hc (by rw [e]; exact ht.1)
    have tb := ht.2.2 j a7
    have tb1 := ht.2.2 (j + 1) (by omega)
    have c300 := ht.2.1
    have r51 : N 51 ((j : Int) + 1) = tk (j + 1) := by
      have := (h3 (j + 1) (by omega)).1
      rw [show ((j + 1 : Nat) : Int) = (j : Int) + 1 by omega] at this
      exact this
    have f10 : ¬ w32 (tk j) = 44 := by rw [w32_id (by omega) (by omega)]; exact hc
    refine ⟨vv (vv v 49 9 ((j : Int) + 1)) 49 10 (tk (j + 1)), N, ⟨by rw [vv_b (by decide), vv_b (by decide)]; exact h1, by rw [vv_b (by decide), vv_b (by decide)]; exact h2, h3, ?_⟩, frz_t (frz_w (by decide)) (frz_w (by decide)), fun _ _ => rfl, fun F Q z => ?_⟩
    · refine ⟨by rw [vv_b (by decide), vv_b (by decide)]; exact a1, by rw [vv_b (by decide), vv_b (by decide)]; exact a2, by rw [vv_b (by decide), vv_a]; omega, by rw [vv_a], by rw [vv_b (by decide), vv_b (by decide)]; exact a5, a6, by omega, by omega⟩
    · simp (disch := first | omega | decide) only [mX2_nextToken, ↓kh_c49, ↓kh_g49_0, ↓kh_g49_1, ↓kh_g49_2, ↓kh_g49_3, ↓kh_g49_4, ↓kh_g49_5, ↓kh_g49_6, ↓kh_p49_6, ↓kh_g49_7, ↓kh_p49_7, ↓kh_g49_8, ↓kh_p49_8, ↓kh_g49_9, ↓kh_p49_9, ↓kh_g49_10, ↓kh_p49_10, ↓kh_g49_11, ↓kh_p49_11, ↓kh_g49_12, ↓kh_p49_12, ↓kh_g49_13, ↓kh_p49_13, ↓kh_g49_14, ↓kh_p49_14, ↓kh_r51, ↓kh_w51, ↓kh_n51, ↓be_y, ↓be_n, ↓bf_y, ↓bf_n, ↓bl_y, ↓bl_n, ↓bm_y, ↓bm_n, ↓bg_y, ↓bg_n, ↓bs_y, ↓bs_n, ↓bo_y, ↓bo_n, ↓bp_y, ↓bp_n, ↓forall_eq, ↓within_y, ↓within_n, ↓isIn_y, ↓isIn_n, and_true, true_and, and_self, us_at, us_ne, w32_id, um_eq, um_ne, um_um, uu_eq, uu_ne, uu_uu, vv_eq, vv_ne, vv_vv, ne_eq, not_false_eq_true, not_true_eq_false, reduceCtorEq, Int.reduceAdd, Int.reduceSub, Int.reduceMul, Int.reduceNeg, Nat.reduceEqDiff, or_true, true_or, true_implies, false_implies, Int.reduceLT, Int.reduceLE, Int.reduceEq, a1, a3, a4, f10, r51]
      exact z
  · obtain ⟨a1, a2, -⟩ := h4
    refine ⟨v, N, h, frz_r v, fun _ _ => rfl, fun F Q z => ?_⟩
    have nz : ¬ w32 k = 0 := by rw [w32_id (by omega) (by omega)]; omega
    simp (disch := first | omega | decide) only [mX2_nextToken, ↓kh_c49, ↓kh_g49_0, ↓kh_g49_1, ↓kh_g49_2, ↓kh_g49_3, ↓kh_g49_4, ↓kh_g49_5, ↓kh_g49_6, ↓kh_p49_6, ↓kh_g49_7, ↓kh_p49_7, ↓kh_g49_8, ↓kh_p49_8, ↓kh_g49_9, ↓kh_p49_9, ↓kh_g49_10, ↓kh_p49_10, ↓kh_g49_11, ↓kh_p49_11, ↓kh_g49_12, ↓kh_p49_12, ↓kh_g49_13, ↓kh_p49_13, ↓kh_g49_14, ↓kh_p49_14, ↓kh_r51, ↓kh_w51, ↓kh_n51, ↓be_y, ↓be_n, ↓bf_y, ↓bf_n, ↓bl_y, ↓bl_n, ↓bm_y, ↓bm_n, ↓bg_y, ↓bg_n, ↓bs_y, ↓bs_n, ↓bo_y, ↓bo_n, ↓bp_y, ↓bp_n, ↓forall_eq, ↓within_y, ↓within_n, ↓isIn_y, ↓isIn_n, and_true, true_and, and_self, us_at, us_ne, w32_id, um_eq, um_ne, um_um, uu_eq, uu_ne, uu_uu, vv_eq, vv_ne, vv_vv, ne_eq, not_false_eq_true, not_true_eq_false, reduceCtorEq, Int.reduceAdd, Int.reduceSub, Int.reduceMul, Int.reduceNeg, Nat.reduceEqDiff, or_true, true_or, true_implies, false_implies, Int.reduceLT, Int.reduceLE, Int.reduceEq, a1, nz]
    exact z
theorem c_fail (ht : tkok tk cn) {x : Int} (hx : 1 ≤ x ∧ x ≤ 6) : CLM tk plc cn mo T d s d (gfal x s) (fun F Q => mX2_fail 49 x F Q) := by
  intro v N h
  obtain ⟨h1, h2, h3, h4⟩ := id h
  rcases s with ⟨j, o⟩ | ⟨k, e⟩
  · obtain ⟨a1, a2, a3, a4, a5, a6, a7, a8⟩ := h4
    have c300 := ht.2.1
    have r52 := (h3 j a7).2
    refine ⟨vv (vv (vv v 49 7 x) 49 8 (plc j)) 49 10 45, N, ⟨by simp [vv, uu]; exact h1, by simp [vv, uu]; exact h2, h3, ?_⟩, frz_t (frz_t (frz_w (by decide)) (frz_w (by decide))) (frz_w (by decide)), fun _ _ => rfl, fun F Q z => ?_⟩
    · refine ⟨by simp [vv, uu], hx, by simp [vv, uu], by simp [vv, uu], ?_, a7⟩
      rw [vv_b (by decide), vv_b (by decide), vv_b (by decide)]; omega
    · simp (disch := first | omega | decide) only [mX2_fail, mX2_fail_J25, ↓kh_c49, ↓kh_g49_0, ↓kh_g49_1, ↓kh_g49_2, ↓kh_g49_3, ↓kh_g49_4, ↓kh_g49_5, ↓kh_g49_6, ↓kh_p49_6, ↓kh_g49_7, ↓kh_p49_7, ↓kh_g49_8, ↓kh_p49_8, ↓kh_g49_9, ↓kh_p49_9, ↓kh_g49_10, ↓kh_p49_10, ↓kh_g49_11, ↓kh_p49_11, ↓kh_g49_12, ↓kh_p49_12, ↓kh_g49_13, ↓kh_p49_13, ↓kh_g49_14, ↓kh_p49_14, ↓kh_r52, ↓kh_w52, ↓kh_n52, ↓be_y, ↓be_n, ↓bf_y, ↓bf_n, ↓bl_y, ↓bl_n, ↓bm_y, ↓bm_n, ↓bg_y, ↓bg_n, ↓bs_y, ↓bs_n, ↓bo_y, ↓bo_n, ↓bp_y, ↓bp_n, ↓forall_eq, ↓within_y, ↓within_n, ↓isIn_y, ↓isIn_n, and_true, true_and, and_self, us_at, us_ne, w32_id, um_eq, um_ne, um_um, uu_eq, uu_ne, uu_uu, vv_eq, vv_ne, vv_vv, ne_eq, not_false_eq_true, not_true_eq_false, reduceCtorEq, Int.reduceAdd, Int.reduceSub, Int.reduceMul, Int.reduceNeg, Nat.reduceEqDiff, or_true, true_or, true_implies, false_implies, Int.reduceLT, Int.reduceLE, Int.reduceEq, a1, a3, r52]
      exact z
  · obtain ⟨a1, a2, a3, a4, a5, a6⟩ := h4
    have nz : ¬ w32 k = 0 := by rw [w32_id (by omega) (by omega)]; omega
    refine ⟨vv v 49 10 45, N, ⟨by simp [vv, uu]; exact h1, by simp [vv, uu]; exact h2, h3, ?_⟩, frz_w (by decide), fun _ _ => rfl, fun F Q z => ?_⟩
    · exact ⟨by rw [vv_b (by decide)]; exact a1, a2, by rw [vv_b (by decide)]; exact a3, by rw [vv_a], by rw [vv_b (by decide)]; exact a5, a6⟩
    · simp (disch := first | omega | decide) only [mX2_fail, mX2_fail_J25, ↓kh_c49, ↓kh_g49_0, ↓kh_g49_1, ↓kh_g49_2, ↓kh_g49_3, ↓kh_g49_4, ↓kh_g49_5, ↓kh_g49_6, ↓kh_p49_6, ↓kh_g49_7, ↓kh_p49_7, ↓kh_g49_8, ↓kh_p49_8, ↓kh_g49_9, ↓kh_p49_9, ↓kh_g49_10, ↓kh_p49_10, ↓kh_g49_11, ↓kh_p49_11, ↓kh_g49_12, ↓kh_p49_12, ↓kh_g49_13, ↓kh_p49_13, ↓kh_g49_14, ↓kh_p49_14, ↓kh_r52, ↓kh_w52, ↓kh_n52, ↓be_y, ↓be_n, ↓bf_y, ↓bf_n, ↓bl_y, ↓bl_n, ↓bm_y, ↓bm_n, ↓bg_y, ↓bg_n, ↓bs_y, ↓bs_n, ↓bo_y, ↓bo_n, ↓bp_y, ↓bp_n, ↓forall_eq, ↓within_y, ↓within_n, ↓isIn_y, ↓isIn_n, and_true, true_and, and_self, us_at, us_ne, w32_id, um_eq, um_ne, um_um, uu_eq, uu_ne, uu_uu, vv_eq, vv_ne, vv_vv, ne_eq, not_false_eq_true, not_true_eq_false, reduceCtorEq, Int.reduceAdd, Int.reduceSub, Int.reduceMul, Int.reduceNeg, Nat.reduceEqDiff, or_true, true_or, true_implies, false_implies, Int.reduceLT, Int.reduceLE, Int.reduceEq, a1, nz]
      exact z
theorem c_exp (ht : tkok tk cn) {c : Int} (c1 : c ≠ 44) (c2 : 0 ≤ c ∧ c ≤ 10100) : CLM tk plc cn mo T d s d (gexp tk c s) (fun F Q => mX2_expect 49 c F Q) := by
  intro v N h
  have t := crd_t h
  have b := crd_b ht h
  unfold gexp
  by_cases e : gcur tk s = c
  · rw [if_pos e]
    obtain ⟨v', N', k1, k2, k3, k4⟩ := c_next (T := T) ht (by rw [e]; exact c1) v N h
    refine ⟨v', N', k1, k2, k3, fun F Q z => ?_⟩
    have e' : w32 (gcur tk s) = w32 c := by rw [e]
    simp (disch := first | omega | decide) only [mX2_expect, ↓kh_c49, ↓kh_g49_0, ↓kh_g49_1, ↓kh_g49_2, ↓kh_g49_3, ↓kh_g49_4, ↓kh_g49_5, ↓kh_g49_6, ↓kh_p49_6, ↓kh_g49_7, ↓kh_p49_7, ↓kh_g49_8, ↓kh_p49_8, ↓kh_g49_9, ↓kh_p49_9, ↓kh_g49_10, ↓kh_p49_10, ↓kh_g49_11, ↓kh_p49_11, ↓kh_g49_12, ↓kh_p49_12, ↓kh_g49_13, ↓kh_p49_13, ↓kh_g49_14, ↓kh_p49_14, ↓be_y, ↓be_n, ↓bf_y, ↓bf_n, ↓bl_y, ↓bl_n, ↓bm_y, ↓bm_n, ↓bg_y, ↓bg_n, ↓bs_y, ↓bs_n, ↓bo_y, ↓bo_n, ↓bp_y, ↓bp_n, ↓forall_eq, ↓within_y, ↓within_n, ↓isIn_y, ↓isIn_n, and_true, true_and, and_self, us_at, us_ne, w32_id, um_eq, um_ne, um_um, uu_eq, uu_ne, uu_uu, vv_eq, vv_ne, vv_vv, ne_eq, not_false_eq_true, not_true_eq_false, reduceCtorEq, Int.reduceAdd, Int.reduceSub, Int.reduceMul, Int.reduceNeg, Nat.reduceEqDiff, or_true, true_or, true_implies, false_implies, Int.reduceLT, Int.reduceLE, Int.reduceEq, t, e']
    exact k4 F Q z
  · rw [if_neg e]
    obtain ⟨v', N', k1, k2, k3, k4⟩ := c_fail (T := T) ht (x := 1) (by omega) v N h
    refine ⟨v', N', k1, k2, k3, fun F Q z => ?_⟩
    have e' : ¬ w32 (gcur tk s) = w32 c := by rw [w32_id (by omega) (by omega), w32_id (by omega) (by omega)]; exact e
    simp (disch := first | omega | decide) only [mX2_expect, ↓kh_c49, ↓kh_g49_0, ↓kh_g49_1, ↓kh_g49_2, ↓kh_g49_3, ↓kh_g49_4, ↓kh_g49_5, ↓kh_g49_6, ↓kh_p49_6, ↓kh_g49_7, ↓kh_p49_7, ↓kh_g49_8, ↓kh_p49_8, ↓kh_g49_9, ↓kh_p49_9, ↓kh_g49_10, ↓kh_p49_10, ↓kh_g49_11, ↓kh_p49_11, ↓kh_g49_12, ↓kh_p49_12, ↓kh_g49_13, ↓kh_p49_13, ↓kh_g49_14, ↓kh_p49_14, ↓be_y, ↓be_n, ↓bf_y, ↓bf_n, ↓bl_y, ↓bl_n, ↓bm_y, ↓bm_n, ↓bg_y, ↓bg_n, ↓bs_y, ↓bs_n, ↓bo_y, ↓bo_n, ↓bp_y, ↓bp_n, ↓forall_eq, ↓within_y, ↓within_n, ↓isIn_y, ↓isIn_n, and_true, true_and, and_self, us_at, us_ne, w32_id, um_eq, um_ne, um_um, uu_eq, uu_ne, uu_uu, vv_eq, vv_ne, vv_vv, ne_eq, not_false_eq_true, not_true_eq_false, reduceCtorEq, Int.reduceAdd, Int.reduceSub, Int.reduceMul, Int.reduceNeg, Nat.reduceEqDiff, or_true, true_or, true_implies, false_implies, Int.reduceLT, Int.reduceLE, Int.reduceEq, t, e']
    exact k4 F Q z
theorem c_emit (ht : tkok tk cn) {p : Int × Int} {x : Int} (hx : x = cxq p ∨ ∃ k e, s = .inr (k, e)) (hl : ∀ j o, s = .inl (j, o) → o.length + 1 ≤ j) : CLM tk plc cn mo T d s d (gemt p s) (fun F Q => mX2_emit 49 x F Q) := by
  intro v N h
  obtain ⟨h1, h2, h3, h4⟩ := id h
  have c300 := ht.2.1
  rcases s with ⟨j, o⟩ | ⟨k, e⟩
  · obtain ⟨a1, a2, a3, a4, a5, a6, a7, a8⟩ := h4
    have l := hl j o rfl
    have hx : x = cxq p := by
      rcases hx with hx | ⟨k, e, hx⟩
      · exact hx
      · exact absurd hx (by simp)
    refine ⟨vv v 49 12 ((o.length : Int) + 1), um N 53 (us (N 53) o.length x), ⟨by rw [vv_b (by decide)]; exact h1, by rw [vv_b (by decide)]; exact h2, fun i hi => by rw [um_ne (by decide), um_ne (by decide)]; exact h3 i hi, ?_⟩, frz_w (by decide), fun j hj => um_ne hj, fun F Q z => ?_⟩
    · refine ⟨by rw [vv_b (by decide)]; exact a1, by rw [vv_b (by decide)]; exact a2, by rw [vv_b (by decide)]; exact a3, by rw [vv_b (by decide)]; exact a4, by rw [vv_a, List.length_append, List.length_singleton]; omega, fun i y hi => ?_, a7, by rw [List.length_append, List.length_singleton]; exact l⟩
      rw [um_eq]
      by_cases f : i < o.length
      · rw [List.getElem?_append_left f] at hi
        rw [us_ne (by omega)]
        exact a6 i y hi
      · by_cases g : i = o.length
        · subst g
          rw [List.getElem?_append_right (Nat.le_refl _), Nat.sub_self] at hi
          simp only [List.getElem?_cons_zero, Option.some.injEq] at hi
          subst hi
          rw [us_eq]; exact hx
        · rw [List.getElem?_eq_none (by rw [List.length_append, List.length_singleton]; omega)] at hi
          exact absurd hi (by simp)
    · simp (disch := first | omega | decide) only [mX2_emit, ↓kh_c49, ↓kh_g49_0, ↓kh_g49_1, ↓kh_g49_2, ↓kh_g49_3, ↓kh_g49_4, ↓kh_g49_5, ↓kh_g49_6, ↓kh_p49_6, ↓kh_g49_7, ↓kh_p49_7, ↓kh_g49_8, ↓kh_p49_8, ↓kh_g49_9, ↓kh_p49_9, ↓kh_g49_10, ↓kh_p49_10, ↓kh_g49_11, ↓kh_p49_11, ↓kh_g49_12, ↓kh_p49_12, ↓kh_g49_13, ↓kh_p49_13, ↓kh_g49_14, ↓kh_p49_14, ↓kh_r53, ↓kh_w53, ↓kh_n53, ↓be_y, ↓be_n, ↓bf_y, ↓bf_n, ↓bl_y, ↓bl_n, ↓bm_y, ↓bm_n, ↓bg_y, ↓bg_n, ↓bs_y, ↓bs_n, ↓bo_y, ↓bo_n, ↓bp_y, ↓bp_n, ↓forall_eq, ↓within_y, ↓within_n, ↓isIn_y, ↓isIn_n, and_true, true_and, and_self, us_at, us_ne, w32_id, um_eq, um_ne, um_um, uu_eq, uu_ne, uu_uu, vv_eq, vv_ne, vv_vv, ne_eq, not_false_eq_true, not_true_eq_false, reduceCtorEq, Int.reduceAdd, Int.reduceSub, Int.reduceMul, Int.reduceNeg, Nat.reduceEqDiff, or_true, true_or, true_implies, false_implies, Int.reduceLT, Int.reduceLE, Int.reduceEq, a5]
      exact z
  · obtain ⟨a1, a2, a3, a4, a5, a6⟩ := h4
    by_cases f : v 49 12 < 300
    · refine ⟨vv v 49 12 (v 49 12 + 1), um N 53 (us (N 53) (v 49 12) x), ⟨by rw [vv_b (by decide)]; exact h1, by rw [vv_b (by decide)]; exact h2, fun i hi => by rw [um_ne (by decide), um_ne (by decide)]; exact h3 i hi, ?_⟩, frz_w (by decide), fun j hj => um_ne hj, fun F Q z => ?_⟩
      · exact ⟨by rw [vv_b (by decide)]; exact a1, a2, by rw [vv_b (by decide)]; exact a3, by rw [vv_b (by decide)]; exact a4, by rw [vv_a]; omega, a6⟩
      · simp (disch := first | omega | decide) only [mX2_emit, ↓kh_c49, ↓kh_g49_0, ↓kh_g49_1, ↓kh_g49_2, ↓kh_g49_3, ↓kh_g49_4, ↓kh_g49_5, ↓kh_g49_6, ↓kh_p49_6, ↓kh_g49_7, ↓kh_p49_7, ↓kh_g49_8, ↓kh_p49_8, ↓kh_g49_9, ↓kh_p49_9, ↓kh_g49_10, ↓kh_p49_10, ↓kh_g49_11, ↓kh_p49_11, ↓kh_g49_12, ↓kh_p49_12, ↓kh_g49_13, ↓kh_p49_13, ↓kh_g49_14, ↓kh_p49_14, ↓kh_r53, ↓kh_w53, ↓kh_n53, ↓be_y, ↓be_n, ↓bf_y, ↓bf_n, ↓bl_y, ↓bl_n, ↓bm_y, ↓bm_n, ↓bg_y, ↓bg_n, ↓bs_y, ↓bs_n, ↓bo_y, ↓bo_n, ↓bp_y, ↓bp_n, ↓forall_eq, ↓within_y, ↓within_n, ↓isIn_y, ↓isIn_n, and_true, true_and, and_self, us_at, us_ne, w32_id, um_eq, um_ne, um_um, uu_eq, uu_ne, uu_uu, vv_eq, vv_ne, vv_vv, ne_eq, not_false_eq_true, not_true_eq_false, reduceCtorEq, Int.reduceAdd, Int.reduceSub, Int.reduceMul, Int.reduceNeg, Nat.reduceEqDiff, or_true, true_or, true_implies, false_implies, Int.reduceLT, Int.reduceLE, Int.reduceEq]
        exact z
    · refine ⟨v, N, h, frz_r v, fun _ _ => rfl, fun F Q z => ?_⟩
      simp (disch := first | omega | decide) only [mX2_emit, ↓kh_c49, ↓kh_g49_0, ↓kh_g49_1, ↓kh_g49_2, ↓kh_g49_3, ↓kh_g49_4, ↓kh_g49_5, ↓kh_g49_6, ↓kh_p49_6, ↓kh_g49_7, ↓kh_p49_7, ↓kh_g49_8, ↓kh_p49_8, ↓kh_g49_9, ↓kh_p49_9, ↓kh_g49_10, ↓kh_p49_10, ↓kh_g49_11, ↓kh_p49_11, ↓kh_g49_12, ↓kh_p49_12, ↓kh_g49_13, ↓kh_p49_13, ↓kh_g49_14, ↓kh_p49_14, ↓kh_r53, ↓kh_w53, ↓kh_n53, ↓be_y, ↓be_n, ↓bf_y, ↓bf_n, ↓bl_y, ↓bl_n, ↓bm_y, ↓bm_n, ↓bg_y, ↓bg_n, ↓bs_y, ↓bs_n, ↓bo_y, ↓bo_n, ↓bp_y, ↓bp_n, ↓forall_eq, ↓within_y, ↓within_n, ↓isIn_y, ↓isIn_n, and_true, true_and, and_self, us_at, us_ne, w32_id, um_eq, um_ne, um_um, uu_eq, uu_ne, uu_uu, vv_eq, vv_ne, vv_vv, ne_eq, not_false_eq_true, not_true_eq_false, reduceCtorEq, Int.reduceAdd, Int.reduceSub, Int.reduceMul, Int.reduceNeg, Nat.reduceEqDiff, or_true, true_or, true_implies, false_implies, Int.reduceLT, Int.reduceLE, Int.reduceEq]
      exact z
-- opens: one more is open, and on
theorem c_opens (ht : tkok tk cn) (hc : gcur tk s ≠ 44) (hd : 0 ≤ d ∧ d < 8) : ∀ v N, crd tk plc cn mo d s v N → ∃ v' N', crd tk plc cn mo (d + 1) (gadv s) v' N' ∧ frz v v' ∧ fr53 N N' ∧ ∀ (F : hp) (Q : Int → hp → Prop), Q 1 (kh F v' N' T) → mX2_opens 49 (kh F v N T) Q := by
  intro v N h
  have h' : crd tk plc cn mo (d + 1) s (vv v 49 11 (d + 1)) N := by
    obtain ⟨h1, h2, h3, h4⟩ := id h
    refine ⟨by rw [vv_a], by rw [vv_b (by decide)]; exact h2, h3, ?_⟩
    rcases s with ⟨j, o⟩ | ⟨k, e⟩
    · simp only [crs] at h4 ⊢
      simp (disch := decide) only [vv_b]
      exact h4
    · simp only [crs] at h4 ⊢
      simp (disch := decide) only [vv_b]
      exact h4
  obtain ⟨v', N', k1, k2, k3, k4⟩ := c_next (T := T) ht hc _ N h'
  refine ⟨v', N', k1, frz_t (frz_w (by decide)) k2, k3, fun F Q z => ?_⟩
  have e := h.1
  simp (disch := first | omega | decide) only [mX2_opens, ↓kh_c49, ↓kh_g49_0, ↓kh_g49_1, ↓kh_g49_2, ↓kh_g49_3, ↓kh_g49_4, ↓kh_g49_5, ↓kh_g49_6, ↓kh_p49_6, ↓kh_g49_7, ↓kh_p49_7, ↓kh_g49_8, ↓kh_p49_8, ↓kh_g49_9, ↓kh_p49_9, ↓kh_g49_10, ↓kh_p49_10, ↓kh_g49_11, ↓kh_p49_11, ↓kh_g49_12, ↓kh_p49_12, ↓kh_g49_13, ↓kh_p49_13, ↓kh_g49_14, ↓kh_p49_14, ↓be_y, ↓be_n, ↓bf_y, ↓bf_n, ↓bl_y, ↓bl_n, ↓bm_y, ↓bm_n, ↓bg_y, ↓bg_n, ↓bs_y, ↓bs_n, ↓bo_y, ↓bo_n, ↓bp_y, ↓bp_n, ↓forall_eq, ↓within_y, ↓within_n, ↓isIn_y, ↓isIn_n, and_true, true_and, and_self, us_at, us_ne, w32_id, um_eq, um_ne, um_um, uu_eq, uu_ne, uu_uu, vv_eq, vv_ne, vv_vv, ne_eq, not_false_eq_true, not_true_eq_false, reduceCtorEq, Int.reduceAdd, Int.reduceSub, Int.reduceMul, Int.reduceNeg, Nat.reduceEqDiff, or_true, true_or, true_implies, false_implies, Int.reduceLT, Int.reduceLE, Int.reduceEq, e]
  exact k4 F _ z
theorem c_opensF (ht : tkok tk cn) (hd : d = 8) : ∀ v N, crd tk plc cn mo d s v N → ∃ v' N', crd tk plc cn mo d (gfal 3 s) v' N' ∧ frz v v' ∧ fr53 N N' ∧ ∀ (F : hp) (Q : Int → hp → Prop), Q 0 (kh F v' N' T) → mX2_opens 49 (kh F v N T) Q := by
  intro v N h
  obtain ⟨v', N', k1, k2, k3, k4⟩ := c_fail (T := T) ht (x := 3) (by omega) v N h
  refine ⟨v', N', k1, k2, k3, fun F Q z => ?_⟩
  have e := h.1
  simp (disch := first | omega | decide) only [mX2_opens, ↓kh_c49, ↓kh_g49_0, ↓kh_g49_1, ↓kh_g49_2, ↓kh_g49_3, ↓kh_g49_4, ↓kh_g49_5, ↓kh_g49_6, ↓kh_p49_6, ↓kh_g49_7, ↓kh_p49_7, ↓kh_g49_8, ↓kh_p49_8, ↓kh_g49_9, ↓kh_p49_9, ↓kh_g49_10, ↓kh_p49_10, ↓kh_g49_11, ↓kh_p49_11, ↓kh_g49_12, ↓kh_p49_12, ↓kh_g49_13, ↓kh_p49_13, ↓kh_g49_14, ↓kh_p49_14, ↓be_y, ↓be_n, ↓bf_y, ↓bf_n, ↓bl_y, ↓bl_n, ↓bm_y, ↓bm_n, ↓bg_y, ↓bg_n, ↓bs_y, ↓bs_n, ↓bo_y, ↓bo_n, ↓bp_y, ↓bp_n, ↓forall_eq, ↓within_y, ↓within_n, ↓isIn_y, ↓isIn_n, and_true, true_and, and_self, us_at, us_ne, w32_id, um_eq, um_ne, um_um, uu_eq, uu_ne, uu_uu, vv_eq, vv_ne, vv_vv, ne_eq, not_false_eq_true, not_true_eq_false, reduceCtorEq, Int.reduceAdd, Int.reduceSub, Int.reduceMul, Int.reduceNeg, Nat.reduceEqDiff, or_true, true_or, true_implies, false_implies, Int.reduceLT, Int.reduceLE, Int.reduceEq, e]
  exact k4 F _ z
theorem c_close : CLM tk plc cn mo T (d + 1) s d s (fun F Q => gI F (some 49) 2 11 (fun x1 => pF F (some 49) 2 11 (vi (x1 - 1)) (fun F2 => Q F2))) := by
  intro v N h
  obtain ⟨h1, h2, h3, h4⟩ := id h
  refine ⟨vv v 49 11 d, N, ⟨by rw [vv_a], by rw [vv_b (by decide)]; exact h2, h3, ?_⟩, frz_w (by decide), fun _ _ => rfl, fun F Q z => ?_⟩
  · rcases s with ⟨j, o⟩ | ⟨k, e⟩
    · simp only [crs] at h4 ⊢
      simp (disch := decide) only [vv_b]
      exact h4
    · simp only [crs] at h4 ⊢
      simp (disch := decide) only [vv_b]
      exact h4
  · have e : d + 1 - 1 = d := by omega
    simp (disch := first | omega | decide) only [h1, ↓kh_c49, ↓kh_g49_0, ↓kh_g49_1, ↓kh_g49_2, ↓kh_g49_3, ↓kh_g49_4, ↓kh_g49_5, ↓kh_g49_6, ↓kh_p49_6, ↓kh_g49_7, ↓kh_p49_7, ↓kh_g49_8, ↓kh_p49_8, ↓kh_g49_9, ↓kh_p49_9, ↓kh_g49_10, ↓kh_p49_10, ↓kh_g49_11, ↓kh_p49_11, ↓kh_g49_12, ↓kh_p49_12, ↓kh_g49_13, ↓kh_p49_13, ↓kh_g49_14, ↓kh_p49_14, ↓be_y, ↓be_n, ↓bf_y, ↓bf_n, ↓bl_y, ↓bl_n, ↓bm_y, ↓bm_n, ↓bg_y, ↓bg_n, ↓bs_y, ↓bs_n, ↓bo_y, ↓bo_n, ↓bp_y, ↓bp_n, ↓forall_eq, ↓within_y, ↓within_n, ↓isIn_y, ↓isIn_n, and_true, true_and, and_self, us_at, us_ne, w32_id, um_eq, um_ne, um_um, uu_eq, uu_ne, uu_uu, vv_eq, vv_ne, vv_vv, ne_eq, not_false_eq_true, not_true_eq_false, reduceCtorEq, Int.reduceAdd, Int.reduceSub, Int.reduceMul, Int.reduceNeg, Nat.reduceEqDiff, or_true, true_or, true_implies, false_implies, Int.reduceLT, Int.reduceLE, Int.reduceEq, e]
    exact z
theorem c_name (ht : tkok tk cn) {mb : Bool} (hm : mo = if mb then 1 else 0) (c1 : 0 ≤ gcur tk s ∧ gcur tk s ≤ 10) (c2 : okn mb (gcur tk s)) : CLM tk plc cn mo T d s d (gemt (1, gcur tk s) (gadv s)) (fun F Q => mX2_readName 49 (gcur tk s) F Q) := by
  intro v N h
  obtain ⟨h1, h2, h3, h4⟩ := id h
  have c300 := ht.2.1
  rcases s with ⟨j, o⟩ | ⟨k, e⟩
  · obtain ⟨a1, a2, a3, a4, a5, a6, a7, a8⟩ := h4
    have c1 : 0 ≤ tk j ∧ tk j ≤ 10 := c1
    have c2 : okn mb (tk j) := c2
    have jl : j ≠ cn := fun e => by have := ht.1; rw [← e] at this; omega
    have tb1 := ht.2.2 (j + 1) (by omega)
    have r51 : N 51 ((j : Int) + 1) = tk (j + 1) := by
      have := (h3 (j + 1) (by omega)).1
      rw [show ((j + 1 : Nat) : Int) = (j : Int) + 1 by omega] at this
      exact this
    refine ⟨vv (vv (vv v 49 12 ((o.length : Int) + 1)) 49 9 ((j : Int) + 1)) 49 10 (tk (j + 1)), um N 53 (us (N 53) o.length (10000 + tk j)), ⟨by simp [vv, uu]; exact h1, by simp [vv, uu]; exact h2, fun i hi => by rw [um_ne (by decide), um_ne (by decide)]; exact h3 i hi, ?_⟩, frz_t (frz_t (frz_w (by decide)) (frz_w (by decide))) (frz_w (by decide)), fun j hj => um_ne hj, fun F Q z => ?_⟩
    · refine ⟨by simp [vv, uu]; exact a1, by simp [vv, uu]; exact a2, by simp [vv, uu], by simp [vv, uu], by simp [vv, uu], fun i y hi => ?_, by omega, by rw [List.length_append, List.length_singleton]; omega⟩
      rw [um_eq]
      by_cases f : i < o.length
      · rw [List.getElem?_append_left f] at hi
        rw [us_ne (by omega)]
        exact a6 i y hi
      · by_cases g : i = o.length
        · subst g
          rw [List.getElem?_append_right (Nat.le_refl _), Nat.sub_self] at hi
          simp only [List.getElem?_cons_zero, Option.some.injEq] at hi
          subst hi
          rw [us_eq]; rfl
        · rw [List.getElem?_eq_none (by rw [List.length_append, List.length_singleton]; omega)] at hi
          exact absurd hi (by simp)
    · show mX2_readName 49 (tk j) _ Q
      cases mb with
      | true =>
        have h2 : v 49 14 = 1 := by rw [h2, hm]; rfl
        have := c2.1 rfl
        simp (disch := first | omega | decide) only [mX2_readName, mX2_readName_J26, mX2_emit, mX2_nextToken, ↓kh_c49, ↓kh_g49_0, ↓kh_g49_1, ↓kh_g49_2, ↓kh_g49_3, ↓kh_g49_4, ↓kh_g49_5, ↓kh_g49_6, ↓kh_p49_6, ↓kh_g49_7, ↓kh_p49_7, ↓kh_g49_8, ↓kh_p49_8, ↓kh_g49_9, ↓kh_p49_9, ↓kh_g49_10, ↓kh_p49_10, ↓kh_g49_11, ↓kh_p49_11, ↓kh_g49_12, ↓kh_p49_12, ↓kh_g49_13, ↓kh_p49_13, ↓kh_g49_14, ↓kh_p49_14, ↓kh_r51, ↓kh_w51, ↓kh_n51, ↓kh_r53, ↓kh_w53, ↓kh_n53, ↓be_y, ↓be_n, ↓bf_y, ↓bf_n, ↓bl_y, ↓bl_n, ↓bm_y, ↓bm_n, ↓bg_y, ↓bg_n, ↓bs_y, ↓bs_n, ↓bo_y, ↓bo_n, ↓bp_y, ↓bp_n, ↓forall_eq, ↓within_y, ↓within_n, ↓isIn_y, ↓isIn_n, and_true, true_and, and_self, us_at, us_ne, w32_id, um_eq, um_ne, um_um, uu_eq, uu_ne, uu_uu, vv_eq, vv_ne, vv_vv, ne_eq, not_false_eq_true, not_true_eq_false, reduceCtorEq, Int.reduceAdd, Int.reduceSub, Int.reduceMul, Int.reduceNeg, Nat.reduceEqDiff, or_true, true_or, true_implies, false_implies, Int.reduceLT, Int.reduceLE, Int.reduceEq, a1, a3, a4, a5, h2, r51]
        exact z
      | false =>
        have h2 : v 49 14 = 0 := by rw [h2, hm]; rfl
        have := c2.2 rfl
        simp (disch := first | omega | decide) only [mX2_readName, mX2_readName_J26, mX2_emit, mX2_nextToken, ↓kh_c49, ↓kh_g49_0, ↓kh_g49_1, ↓kh_g49_2, ↓kh_g49_3, ↓kh_g49_4, ↓kh_g49_5, ↓kh_g49_6, ↓kh_p49_6, ↓kh_g49_7, ↓kh_p49_7, ↓kh_g49_8, ↓kh_p49_8, ↓kh_g49_9, ↓kh_p49_9, ↓kh_g49_10, ↓kh_p49_10, ↓kh_g49_11, ↓kh_p49_11, ↓kh_g49_12, ↓kh_p49_12, ↓kh_g49_13, ↓kh_p49_13, ↓kh_g49_14, ↓kh_p49_14, ↓kh_r51, ↓kh_w51, ↓kh_n51, ↓kh_r53, ↓kh_w53, ↓kh_n53, ↓be_y, ↓be_n, ↓bf_y, ↓bf_n, ↓bl_y, ↓bl_n, ↓bm_y, ↓bm_n, ↓bg_y, ↓bg_n, ↓bs_y, ↓bs_n, ↓bo_y, ↓bo_n, ↓bp_y, ↓bp_n, ↓forall_eq, ↓within_y, ↓within_n, ↓isIn_y, ↓isIn_n, and_true, true_and, and_self, us_at, us_ne, w32_id, um_eq, um_ne, um_um, uu_eq, uu_ne, uu_uu, vv_eq, vv_ne, vv_vv, ne_eq, not_false_eq_true, not_true_eq_false, reduceCtorEq, Int.reduceAdd, Int.reduceSub, Int.reduceMul, Int.reduceNeg, Nat.reduceEqDiff, or_true, true_or, true_implies, false_implies, Int.reduceLT, Int.reduceLE, Int.reduceEq, a1, a3, a4, a5, h2, r51]
        exact z
  · exact absurd c1 (by simp [gcur])
theorem c_nameF (ht : tkok tk cn) {mb : Bool} (hm : mo = if mb then 1 else 0) (c1 : 0 ≤ gcur tk s ∧ gcur tk s ≤ 10) (c2 : ¬ okn mb (gcur tk s)) : CLM tk plc cn mo T d s d (gfal 5 s) (fun F Q => mX2_readName 49 (gcur tk s) F Q) := by
  intro v N h
  have h2 := h.2.1
  obtain ⟨v', N', k1, k2, k3, k4⟩ := c_fail (T := T) ht (x := 5) (by omega) v N h
  refine ⟨v', N', k1, k2, k3, fun F Q z => ?_⟩
  show mX2_readName 49 (gcur tk s) _ Q
  unfold okn at c2
  cases mb with
  | true =>
    have h2 : v 49 14 = 1 := by rw [h2, hm]; rfl
    have : ¬ gcur tk s < 9 := fun t => c2 ⟨fun _ => t, fun t => absurd t (by decide)⟩
    simp (disch := first | omega | decide) only [mX2_readName, mX2_readName_J26, ↓kh_c49, ↓kh_g49_0, ↓kh_g49_1, ↓kh_g49_2, ↓kh_g49_3, ↓kh_g49_4, ↓kh_g49_5, ↓kh_g49_6, ↓kh_p49_6, ↓kh_g49_7, ↓kh_p49_7, ↓kh_g49_8, ↓kh_p49_8, ↓kh_g49_9, ↓kh_p49_9, ↓kh_g49_10, ↓kh_p49_10, ↓kh_g49_11, ↓kh_p49_11, ↓kh_g49_12, ↓kh_p49_12, ↓kh_g49_13, ↓kh_p49_13, ↓kh_g49_14, ↓kh_p49_14, ↓be_y, ↓be_n, ↓bf_y, ↓bf_n, ↓bl_y, ↓bl_n, ↓bm_y, ↓bm_n, ↓bg_y, ↓bg_n, ↓bs_y, ↓bs_n, ↓bo_y, ↓bo_n, ↓bp_y, ↓bp_n, ↓forall_eq, ↓within_y, ↓within_n, ↓isIn_y, ↓isIn_n, and_true, true_and, and_self, us_at, us_ne, w32_id, um_eq, um_ne, um_um, uu_eq, uu_ne, uu_uu, vv_eq, vv_ne, vv_vv, ne_eq, not_false_eq_true, not_true_eq_false, reduceCtorEq, Int.reduceAdd, Int.reduceSub, Int.reduceMul, Int.reduceNeg, Nat.reduceEqDiff, or_true, true_or, true_implies, false_implies, Int.reduceLT, Int.reduceLE, Int.reduceEq, h2]
    exact k4 F Q z
  | false =>
    have h2 : v 49 14 = 0 := by rw [h2, hm]; rfl
    have : ¬ (gcur tk s < 6 ∨ 8 < gcur tk s) := fun t => c2 ⟨fun t => absurd t (by decide), fun _ => t⟩
    simp (disch := first | omega | decide) only [mX2_readName, mX2_readName_J26, ↓kh_c49, ↓kh_g49_0, ↓kh_g49_1, ↓kh_g49_2, ↓kh_g49_3, ↓kh_g49_4, ↓kh_g49_5, ↓kh_g49_6, ↓kh_p49_6, ↓kh_g49_7, ↓kh_p49_7, ↓kh_g49_8, ↓kh_p49_8, ↓kh_g49_9, ↓kh_p49_9, ↓kh_g49_10, ↓kh_p49_10, ↓kh_g49_11, ↓kh_p49_11, ↓kh_g49_12, ↓kh_p49_12, ↓kh_g49_13, ↓kh_p49_13, ↓kh_g49_14, ↓kh_p49_14, ↓be_y, ↓be_n, ↓bf_y, ↓bf_n, ↓bl_y, ↓bl_n, ↓bm_y, ↓bm_n, ↓bg_y, ↓bg_n, ↓bs_y, ↓bs_n, ↓bo_y, ↓bo_n, ↓bp_y, ↓bp_n, ↓forall_eq, ↓within_y, ↓within_n, ↓isIn_y, ↓isIn_n, and_true, true_and, and_self, us_at, us_ne, w32_id, um_eq, um_ne, um_um, uu_eq, uu_ne, uu_uu, vv_eq, vv_ne, vv_vv, ne_eq, not_false_eq_true, not_true_eq_false, reduceCtorEq, Int.reduceAdd, Int.reduceSub, Int.reduceMul, Int.reduceNeg, Nat.reduceEqDiff, or_true, true_or, true_implies, false_implies, Int.reduceLT, Int.reduceLE, Int.reduceEq, h2]
    exact k4 F Q z
-- a number within bounds, and on
theorem c_num (ht : tkok tk cn) {lo hi : Int} (hb : 0 ≤ lo ∧ hi ≤ 9999) (c1 : 100 + lo ≤ gcur tk s ∧ gcur tk s ≤ 100 + hi) : ∀ v N, crd tk plc cn mo d s v N → ∃ v' N', crd tk plc cn mo d (gadv s) v' N' ∧ frz v v' ∧ fr53 N N' ∧ ∀ (F : hp) (Q : Int → hp → Prop), Q (gcur tk s - 100) (kh F v' N' T) → mX2_expectNumber 49 lo hi (kh F v N T) Q := by
  intro v N h
  have t := crd_t h
  obtain ⟨v', N', k1, k2, k3, k4⟩ := c_next (T := T) ht (by omega) v N h
  refine ⟨v', N', k1, k2, k3, fun F Q z => ?_⟩
  simp (disch := first | omega | decide) only [mX2_expectNumber, ↓kh_c49, ↓kh_g49_0, ↓kh_g49_1, ↓kh_g49_2, ↓kh_g49_3, ↓kh_g49_4, ↓kh_g49_5, ↓kh_g49_6, ↓kh_p49_6, ↓kh_g49_7, ↓kh_p49_7, ↓kh_g49_8, ↓kh_p49_8, ↓kh_g49_9, ↓kh_p49_9, ↓kh_g49_10, ↓kh_p49_10, ↓kh_g49_11, ↓kh_p49_11, ↓kh_g49_12, ↓kh_p49_12, ↓kh_g49_13, ↓kh_p49_13, ↓kh_g49_14, ↓kh_p49_14, ↓be_y, ↓be_n, ↓bf_y, ↓bf_n, ↓bl_y, ↓bl_n, ↓bm_y, ↓bm_n, ↓bg_y, ↓bg_n, ↓bs_y, ↓bs_n, ↓bo_y, ↓bo_n, ↓bp_y, ↓bp_n, ↓forall_eq, ↓within_y, ↓within_n, ↓isIn_y, ↓isIn_n, and_true, true_and, and_self, us_at, us_ne, w32_id, um_eq, um_ne, um_um, uu_eq, uu_ne, uu_uu, vv_eq, vv_ne, vv_vv, ne_eq, not_false_eq_true, not_true_eq_false, reduceCtorEq, Int.reduceAdd, Int.reduceSub, Int.reduceMul, Int.reduceNeg, Nat.reduceEqDiff, or_true, true_or, true_implies, false_implies, Int.reduceLT, Int.reduceLE, Int.reduceEq, t]
  exact k4 F _ z
theorem c_numB (ht : tkok tk cn) {lo hi : Int} (hb : 0 ≤ lo ∧ lo ≤ hi ∧ hi ≤ 9999) (c1 : 100 ≤ gcur tk s) (c2 : gcur tk s < 100 + lo ∨ 100 + hi < gcur tk s) : ∀ v N, crd tk plc cn mo d s v N → ∃ v' N', crd tk plc cn mo d (gfal 2 s) v' N' ∧ frz v v' ∧ fr53 N N' ∧ ∀ (F : hp) (Q : Int → hp → Prop), Q 0 (kh F v' N' T) → mX2_expectNumber 49 lo hi (kh F v N T) Q := by
  intro v N h
  have t := crd_t h
  have b := crd_b ht h
  obtain ⟨v', N', k1, k2, k3, k4⟩ := c_fail (T := T) ht (x := 2) (by omega) v N h
  refine ⟨v', N', k1, k2, k3, fun F Q z => ?_⟩
  simp (disch := first | omega | decide) only [mX2_expectNumber, ↓kh_c49, ↓kh_g49_0, ↓kh_g49_1, ↓kh_g49_2, ↓kh_g49_3, ↓kh_g49_4, ↓kh_g49_5, ↓kh_g49_6, ↓kh_p49_6, ↓kh_g49_7, ↓kh_p49_7, ↓kh_g49_8, ↓kh_p49_8, ↓kh_g49_9, ↓kh_p49_9, ↓kh_g49_10, ↓kh_p49_10, ↓kh_g49_11, ↓kh_p49_11, ↓kh_g49_12, ↓kh_p49_12, ↓kh_g49_13, ↓kh_p49_13, ↓kh_g49_14, ↓kh_p49_14, ↓be_y, ↓be_n, ↓bf_y, ↓bf_n, ↓bl_y, ↓bl_n, ↓bm_y, ↓bm_n, ↓bg_y, ↓bg_n, ↓bs_y, ↓bs_n, ↓bo_y, ↓bo_n, ↓bp_y, ↓bp_n, ↓forall_eq, ↓within_y, ↓within_n, ↓isIn_y, ↓isIn_n, and_true, true_and, and_self, us_at, us_ne, w32_id, um_eq, um_ne, um_um, uu_eq, uu_ne, uu_uu, vv_eq, vv_ne, vv_vv, ne_eq, not_false_eq_true, not_true_eq_false, reduceCtorEq, Int.reduceAdd, Int.reduceSub, Int.reduceMul, Int.reduceNeg, Nat.reduceEqDiff, or_true, true_or, true_implies, false_implies, Int.reduceLT, Int.reduceLE, Int.reduceEq, t]
  exact k4 F _ z
theorem c_numN (ht : tkok tk cn) {lo hi : Int} (c1 : gcur tk s < 100) : ∀ v N, crd tk plc cn mo d s v N → ∃ v' N', crd tk plc cn mo d (gfal 1 s) v' N' ∧ frz v v' ∧ fr53 N N' ∧ ∀ (F : hp) (Q : Int → hp → Prop), Q 0 (kh F v' N' T) → mX2_expectNumber 49 lo hi (kh F v N T) Q := by
  intro v N h
  have t := crd_t h
  have b := crd_b ht h
  obtain ⟨v', N', k1, k2, k3, k4⟩ := c_fail (T := T) ht (x := 1) (by omega) v N h
  refine ⟨v', N', k1, k2, k3, fun F Q z => ?_⟩
  simp (disch := first | omega | decide) only [mX2_expectNumber, ↓kh_c49, ↓kh_g49_0, ↓kh_g49_1, ↓kh_g49_2, ↓kh_g49_3, ↓kh_g49_4, ↓kh_g49_5, ↓kh_g49_6, ↓kh_p49_6, ↓kh_g49_7, ↓kh_p49_7, ↓kh_g49_8, ↓kh_p49_8, ↓kh_g49_9, ↓kh_p49_9, ↓kh_g49_10, ↓kh_p49_10, ↓kh_g49_11, ↓kh_p49_11, ↓kh_g49_12, ↓kh_p49_12, ↓kh_g49_13, ↓kh_p49_13, ↓kh_g49_14, ↓kh_p49_14, ↓be_y, ↓be_n, ↓bf_y, ↓bf_n, ↓bl_y, ↓bl_n, ↓bm_y, ↓bm_n, ↓bg_y, ↓bg_n, ↓bs_y, ↓bs_n, ↓bo_y, ↓bo_n, ↓bp_y, ↓bp_n, ↓forall_eq, ↓within_y, ↓within_n, ↓isIn_y, ↓isIn_n, and_true, true_and, and_self, us_at, us_ne, w32_id, um_eq, um_ne, um_um, uu_eq, uu_ne, uu_uu, vv_eq, vv_ne, vv_vv, ne_eq, not_false_eq_true, not_true_eq_false, reduceCtorEq, Int.reduceAdd, Int.reduceSub, Int.reduceMul, Int.reduceNeg, Nat.reduceEqDiff, or_true, true_or, true_implies, false_implies, Int.reduceLT, Int.reduceLE, Int.reduceEq, t]
  exact k4 F _ z
end CR1
