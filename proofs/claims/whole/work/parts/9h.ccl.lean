-- ===== a clause read by the class =====
def gnum (tk : Nat → Int) (lo hi : Int) (s : gs) : gs := if gcur tk s < 100 then gfal 1 s else if 100 + lo ≤ gcur tk s ∧ gcur tk s ≤ 100 + hi then gadv s else gfal 2 s
def cc (s : Int) : Int := if s = 7 then 0 else s + 11
def ccl (cl : List (Int × Int × Int)) (N : Nat → Int → Int) : Prop := ∀ (i : Nat) t, cl[i]? = some t → N 54 (3 * i) = cc t.1 ∧ (2 ≤ t.1 → t.1 ≠ 5 → N 54 (3 * i + 1) = t.2.1 ∧ (t.1 ≠ 7 → N 54 (3 * i + 2) = t.2.2))
def cbw (w : Int) (cl : List (Int × Int × Int)) (N : Nat → Int → Int) : Prop := (N 55 (2 * w) = -1 ∧ ∀ t, t ∈ cl → t.1 ≠ w) ∨ (∃ (i : Nat) (p q : Int), cl[i]? = some (w, p, q) ∧ (∀ (i' : Nat) t, cl[i']? = some t → t.1 = w → i' = i) ∧ (0 ≤ p ∧ p ≤ 300) ∧ N 55 (2 * w) = p ∧ N 55 (2 * w + 1) = q)
section CC
variable {tk plc : Nat → Int} {cn : Nat} {mo : Int} {T : Nat → Int → Option Nat} {d : Int} {s : gs} {v : Nat → Nat → Int} {N : Nat → Int → Int}
theorem crd_13 {x : Int} (h : crd tk plc cn mo d s v N) : crd tk plc cn mo d s (vv v 49 13 x) N := by
  obtain ⟨h1, h2, h3, h4⟩ := h
  refine ⟨by rw [vv_b (by decide)]; exact h1, by rw [vv_b (by decide)]; exact h2, h3, ?_⟩
  rcases s with ⟨j, o⟩ | ⟨k, e⟩
  · simp only [crs] at h4 ⊢
    simp (disch := decide) only [vv_b]
    exact h4
  · simp only [crs] at h4 ⊢
    simp (disch := decide) only [vv_b]
    exact h4
theorem crd_14 {m : Int} (h : crd tk plc cn mo d s v N) : crd tk plc cn m d s (vv v 49 14 m) N := by
  obtain ⟨h1, h2, h3, h4⟩ := h
  refine ⟨by rw [vv_b (by decide)]; exact h1, by rw [vv_a], h3, ?_⟩
  rcases s with ⟨j, o⟩ | ⟨k, e⟩
  · simp only [crs] at h4 ⊢
    simp (disch := decide) only [vv_b]
    exact h4
  · simp only [crs] at h4 ⊢
    simp (disch := decide) only [vv_b]
    exact h4
theorem crd_n {N' : Nat → Int → Int} (e1 : N' 51 = N 51) (e2 : N' 52 = N 52) (e3 : N' 53 = N 53) (h : crd tk plc cn mo d s v N) : crd tk plc cn mo d s v N' := by
  obtain ⟨h1, h2, h3, h4⟩ := h
  refine ⟨h1, h2, by rw [e1, e2]; exact h3, ?_⟩
  rcases s with ⟨j, o⟩ | ⟨k, e⟩
  · simp only [crs] at h4 ⊢
    rw [e3]; exact h4
  · exact h4
-- a number within bounds; its value stands where there is no fault
theorem c_gnum (ht : tkok tk cn) {lo hi : Int} (hb : 0 ≤ lo ∧ lo ≤ hi ∧ hi ≤ 9999) : ∀ v N, crd tk plc cn mo d s v N → ∃ (x : Int) (v' : Nat → Nat → Int) (N' : Nat → Int → Int), crd tk plc cn mo d (gnum tk lo hi s) v' N' ∧ frz v v' ∧ fr53 N N' ∧ (∀ j o, gnum tk lo hi s = .inl (j, o) → x = gcur tk s - 100 ∧ lo ≤ x ∧ x ≤ hi) ∧ ∀ (F : hp) (Q : Int → hp → Prop), Q x (kh F v' N' T) → mX2_expectNumber 49 lo hi (kh F v N T) Q := by
  intro v N h
  unfold gnum
  by_cases c1 : gcur tk s < 100
  · rw [if_pos c1]
    obtain ⟨v', N', a1, a2, a3, a4⟩ := c_numN (T := T) (lo := lo) (hi := hi) ht c1 v N h
    refine ⟨0, v', N', a1, a2, a3, fun j o e => ?_, a4⟩
    rcases s with ⟨i, b⟩ | ⟨i, b⟩ <;> exact absurd e (by simp [gfal])
  · rw [if_neg c1]
    by_cases c2 : 100 + lo ≤ gcur tk s ∧ gcur tk s ≤ 100 + hi
    · rw [if_pos c2]
      obtain ⟨v', N', a1, a2, a3, a4⟩ := c_num (T := T) ht ⟨hb.1, hb.2.2⟩ c2 v N h
      exact ⟨gcur tk s - 100, v', N', a1, a2, a3, fun j o e => ⟨rfl, by omega, by omega⟩, a4⟩
    · rw [if_neg c2]
      obtain ⟨v', N', a1, a2, a3, a4⟩ := c_numB (T := T) ht hb (by omega) (by omega) v N h
      refine ⟨0, v', N', a1, a2, a3, fun j o e => ?_, a4⟩
      rcases s with ⟨i, b⟩ | ⟨i, b⟩ <;> exact absurd e (by simp [gfal])
theorem c_add {c a b x : Int} (hc : v 49 13 = c) (hb : 0 ≤ c ∧ c ≤ 24) (h : crd tk plc cn mo d s v N) : ∃ N', crd tk plc cn mo d s (vv v 49 13 (if c < 24 then c + 1 else c)) N' ∧ (∀ j, j ≠ 54 → N' j = N j) ∧ (c < 24 → N' 54 = us (us (us (N 54) (3 * c) x) (3 * c + 1) a) (3 * c + 2) b) ∧ ∀ (F : hp) (Q : hp → Prop), Q (kh F (vv v 49 13 (if c < 24 then c + 1 else c)) N' T) → mX2_addClause 49 x a b (kh F v N T) Q := by
  by_cases e : c < 24
  · rw [if_pos e]
    refine ⟨um N 54 (us (us (us (N 54) (3 * c) x) (3 * c + 1) a) (3 * c + 2) b), crd_13 (crd_n (um_ne (by decide)) (um_ne (by decide)) (um_ne (by decide)) h), fun j hj => um_ne hj, fun _ => um_eq _ _ _, fun F Q z => ?_⟩
    simp (disch := first | omega | decide) only [mX2_addClause, ↓kh_c49, ↓kh_g49_0, ↓kh_g49_1, ↓kh_g49_2, ↓kh_g49_3, ↓kh_g49_4, ↓kh_g49_5, ↓kh_g49_6, ↓kh_p49_6, ↓kh_g49_7, ↓kh_p49_7, ↓kh_g49_8, ↓kh_p49_8, ↓kh_g49_9, ↓kh_p49_9, ↓kh_g49_10, ↓kh_p49_10, ↓kh_g49_11, ↓kh_p49_11, ↓kh_g49_12, ↓kh_p49_12, ↓kh_g49_13, ↓kh_p49_13, ↓kh_g49_14, ↓kh_p49_14, ↓kh_r54, ↓kh_w54, ↓kh_n54, ↓be_y, ↓be_n, ↓bf_y, ↓bf_n, ↓bl_y, ↓bl_n, ↓bm_y, ↓bm_n, ↓bg_y, ↓bg_n, ↓bs_y, ↓bs_n, ↓bo_y, ↓bo_n, ↓bp_y, ↓bp_n, ↓forall_eq, ↓within_y, ↓within_n, ↓isIn_y, ↓isIn_n, and_true, true_and, and_self, us_at, us_ne, w32_id, um_eq, um_ne, um_um, uu_eq, uu_ne, uu_uu, vv_eq, vv_ne, vv_vv, ne_eq, not_false_eq_true, not_true_eq_false, reduceCtorEq, Int.reduceAdd, Int.reduceSub, Int.reduceMul, Int.reduceNeg, Nat.reduceEqDiff, or_true, true_or, true_implies, false_implies, Int.reduceLT, Int.reduceLE, Int.reduceEq, hc]
    exact z
  · rw [if_neg e]
    have : vv v 49 13 c = v := by
      funext h k
      by_cases d1 : h = 49
      · subst d1
        by_cases d2 : k = 13
        · subst d2; rw [vv_a, hc]
        · rw [vv_b d2]
      · simp [vv, d1]
    rw [this]
    refine ⟨N, h, fun _ _ => rfl, fun n => absurd n e, fun F Q z => ?_⟩
    simp (disch := first | omega | decide) only [mX2_addClause, ↓kh_c49, ↓kh_g49_0, ↓kh_g49_1, ↓kh_g49_2, ↓kh_g49_3, ↓kh_g49_4, ↓kh_g49_5, ↓kh_g49_6, ↓kh_p49_6, ↓kh_g49_7, ↓kh_p49_7, ↓kh_g49_8, ↓kh_p49_8, ↓kh_g49_9, ↓kh_p49_9, ↓kh_g49_10, ↓kh_p49_10, ↓kh_g49_11, ↓kh_p49_11, ↓kh_g49_12, ↓kh_p49_12, ↓kh_g49_13, ↓kh_p49_13, ↓kh_g49_14, ↓kh_p49_14, ↓kh_r54, ↓kh_w54, ↓kh_n54, ↓be_y, ↓be_n, ↓bf_y, ↓bf_n, ↓bl_y, ↓bl_n, ↓bm_y, ↓bm_n, ↓bg_y, ↓bg_n, ↓bs_y, ↓bs_n, ↓bo_y, ↓bo_n, ↓bp_y, ↓bp_n, ↓forall_eq, ↓within_y, ↓within_n, ↓isIn_y, ↓isIn_n, and_true, true_and, and_self, us_at, us_ne, w32_id, um_eq, um_ne, um_um, uu_eq, uu_ne, uu_uu, vv_eq, vv_ne, vv_vv, ne_eq, not_false_eq_true, not_true_eq_false, reduceCtorEq, Int.reduceAdd, Int.reduceSub, Int.reduceMul, Int.reduceNeg, Nat.reduceEqDiff, or_true, true_or, true_implies, false_implies, Int.reduceLT, Int.reduceLE, Int.reduceEq, hc]
    exact z
end CC
