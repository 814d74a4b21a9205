def plo (c : Int) : Int := if c = 17 then 1 else 0
def phi (c : Int) : Int := if c = 17 then 9 else if c = 15 then 2 else 3
def pwd (c : Int) : Int := if c = 13 then 2 else if c = 14 then 18 else if c = 15 then 7 else 19
def plo2 (c : Int) : Int := if c = 13 then 1 else 0
def phi2 (c : Int) : Int := if c = 13 then 9 else if c = 14 then 3 else if c = 15 then 2 else 1
-- what a clause comes to
def gcz (tk : Nat → Int) (j : Nat) (o : List (Int × Int)) (cl : List (Int × Int × Int)) (s' : gs) (cl' : List (Int × Int × Int)) : Prop :=
  (¬ (11 ≤ tk j ∧ tk j ≤ 17) ∧ tk j ≠ 0 ∧ s' = .inr (1, j))
  ∨ ((tk j = 11 ∨ tk j = 12) ∧ (∃ t, t ∈ cl ∧ t.1 = tk j - 11) ∧ s' = .inr (4, j))
  ∨ (((11 ≤ tk j ∧ tk j ≤ 17) ∨ tk j = 0) ∧ ¬ ((tk j = 11 ∨ tk j = 12) ∧ ∃ t, t ∈ cl ∧ t.1 = tk j - 11) ∧
    ((cl.length = 24 ∧ s' = .inr (6, j))
    ∨ (cl.length < 24 ∧
      (((tk j = 11 ∨ tk j = 12) ∧ ∃ s1, gg tk (decide (tk j = 11)) 0 0 (.inl (j + 1, o)) s1 ∧ s' = gexp tk 40 s1 ∧ ∀ j1 o1, s1 = .inl (j1, o1) → cl' = cl ++ [(tk j - 11, (o.length : Int), (o1.length : Int))])
      ∨ ((tk j = 13 ∨ tk j = 14 ∨ tk j = 15 ∨ tk j = 17) ∧ s' = gexp tk 40 (gnum tk (plo2 (tk j)) (phi2 (tk j)) (gexp tk (pwd (tk j)) (gnum tk (plo (tk j)) (phi (tk j)) (.inl (j + 1, o))))) ∧ cl' = cl ++ [(tk j - 11, tk (j + 1) - 100, tk (j + 3) - 100)])
      ∨ (tk j = 16 ∧ s' = gexp tk 40 (.inl (j + 1, o)) ∧ cl' = cl ++ [(5, 0, 0)])
      ∨ (tk j = 0 ∧ s' = gexp tk 40 (gnum tk 1 60 (.inl (j + 1, o))) ∧ cl' = cl ++ [(7, tk (j + 1) - 100, 0)])))))
def CT (tk plc : Nat → Int) (cn : Nat) (j : Nat) (o : List (Int × Int)) (cl : List (Int × Int × Int)) (v : Nat → Nat → Int) (N : Nat → Int → Int) : Prop := (∃ mo, crd tk plc cn mo 0 (.inl (j, o)) v N) ∧ v 49 13 = (cl.length : Int) ∧ cl.length ≤ 24 ∧ ccl cl N ∧ cbw 0 cl N ∧ cbw 1 cl N
def fry (N N' : Nat → Int → Int) : Prop := ∀ j, j ≠ 53 → j ≠ 54 → j ≠ 55 → N' j = N j
def frw (v v' : Nat → Nat → Int) : Prop := (∀ h, h ≠ 49 → v' h = v h) ∧ v' 49 6 = v 49 6
-- the state after a clause, be it faulty or not
def CF (tk plc : Nat → Int) (cn : Nat) (s : gs) (cl : List (Int × Int × Int)) (v : Nat → Nat → Int) (N : Nat → Int → Int) : Prop := (∃ mo, crd tk plc cn mo 0 s v N) ∧ (0 ≤ v 49 13 ∧ v 49 13 ≤ 24) ∧ ∀ j o, s = .inl (j, o) → CT tk plc cn j o cl v N
section CZ
variable {tk plc : Nat → Int} {cn : Nat} {mo : Int} {T : Nat → Int → Option Nat} {d : Int} {s : gs} {v : Nat → Nat → Int} {N : Nat → Int → Int} {j : Nat} {o : List (Int × Int)} {cl : List (Int × Int × Int)}
theorem gfal_n {k : Int} {s : gs} {i : Nat} {b : List (Int × Int)} (e : gfal k s = .inl (i, b)) : False := by rcases s with ⟨j, o⟩ | ⟨j, o⟩ <;> exact absurd e (by simp [gfal])
theorem gnumO {lo hi : Int} {s : gs} {i : Nat} {b : List (Int × Int)} (e : gnum tk lo hi s = .inl (i, b)) : ∃ k, s = .inl (k, b) ∧ i = k + 1 ∧ 100 + lo ≤ tk k ∧ tk k ≤ 100 + hi := by
  unfold gnum at e
  by_cases c1 : gcur tk s < 100
  · rw [if_pos c1] at e; exact (gfal_n e).elim
  · rw [if_neg c1] at e
    by_cases c2 : 100 + lo ≤ gcur tk s ∧ gcur tk s ≤ 100 + hi
    · rw [if_pos c2] at e
      obtain ⟨k, e1, e2⟩ := g_advO e
      subst e1
      exact ⟨k, rfl, e2, c2⟩
    · rw [if_neg c2] at e; exact (gfal_n e).elim
theorem c_pair (ht : tkok tk cn) {lo hi W lo2 hi2 : Int} (hb : 0 ≤ lo ∧ lo ≤ hi ∧ hi ≤ 9999) (hW : 0 ≤ W ∧ W ≤ 28) (hb2 : 0 ≤ lo2 ∧ lo2 ≤ hi2 ∧ hi2 ≤ 9999) : ∀ v N, crd tk plc cn mo d s v N → ∃ (x y : Int) (v' : Nat → Nat → Int) (N' : Nat → Int → Int), crd tk plc cn mo d (gnum tk lo2 hi2 (gexp tk W (gnum tk lo hi s))) v' N' ∧ frz v v' ∧ fr53 N N' ∧ (∀ j o j' o', s = .inl (j, o) → gnum tk lo2 hi2 (gexp tk W (gnum tk lo hi s)) = .inl (j', o') → x = tk j - 100 ∧ y = tk (j + 2) - 100) ∧ ∀ (F : hp) (K : Int → Int → hp → Prop), K x y (kh F v' N' T) → mX2_expectNumber 49 lo hi (kh F v N T) (fun x5 F4 => rcv F4 (some 49) 2 (fun o8 => mX2_expect o8 W F4 (fun F7 => rcv F7 (some 49) 2 (fun o11 => mX2_expectNumber o11 lo2 hi2 F7 (fun x10 F9 => K x5 x10 F9))))) := by
  intro v N h
  obtain ⟨x, v1, N1, a1, a2, a3, a4, a5⟩ := c_gnum (T := T) ht hb v N h
  obtain ⟨v2, N2, b1, b2, b3, b4⟩ := c_exp (T := T) ht (c := W) (by omega) (by omega) v1 N1 a1
  obtain ⟨y, v3, N3, k1, k2, k3, k4, k5⟩ := c_gnum (T := T) ht hb2 v2 N2 b1
  refine ⟨x, y, v3, N3, k1, frz_t a2 (frz_t b2 k2), fr53_t a3 (fr53_t b3 k3), fun j o j' o' e e' => ?_, fun F K z => ?_⟩
  · obtain ⟨i1, f1, f2, -⟩ := gnumO e'
    obtain ⟨i2, f3, f4⟩ := g_expO f1
    obtain ⟨i3, f5, f6, -⟩ := gnumO f3
    have x1 := (a4 _ _ f3).1
    have y1 := (k4 _ _ e').1
    subst e
    simp only [Sum.inl.injEq, Prod.mk.injEq] at f5
    rw [f1] at y1
    have y2 : y = tk i1 - 100 := y1
    have x2 : x = tk j - 100 := x1
    rw [show i1 = j + 2 by omega] at y2
    exact ⟨x2, y2⟩
  · refine a5 F _ ?_
    simp (disch := first | omega | decide) only [w32_id, ↓kh_c49, ↓kh_g49_0, ↓kh_g49_1, ↓kh_g49_2, ↓kh_g49_3, ↓kh_g49_4, ↓kh_g49_5, ↓kh_g49_6, ↓kh_p49_6, ↓kh_g49_7, ↓kh_p49_7, ↓kh_g49_8, ↓kh_p49_8, ↓kh_g49_9, ↓kh_p49_9, ↓kh_g49_10, ↓kh_p49_10, ↓kh_g49_11, ↓kh_p49_11, ↓kh_g49_12, ↓kh_p49_12, ↓kh_g49_13, ↓kh_p49_13, ↓kh_g49_14, ↓kh_p49_14, ↓be_y, ↓be_n, ↓bf_y, ↓bf_n, ↓bl_y, ↓bl_n, ↓bm_y, ↓bm_n, ↓bg_y, ↓bg_n, ↓bs_y, ↓bs_n, ↓bo_y, ↓bo_n, ↓bp_y, ↓bp_n, ↓forall_eq, ↓within_y, ↓within_n, ↓isIn_y, ↓isIn_n, and_true, true_and, and_self, us_at, us_ne, w32_id, um_eq, um_ne, um_um, uu_eq, uu_ne, uu_uu, vv_eq, vv_ne, vv_vv, ne_eq, not_false_eq_true, not_true_eq_false, reduceCtorEq, Int.reduceAdd, Int.reduceSub, Int.reduceMul, Int.reduceNeg, Nat.reduceEqDiff, or_true, true_or, true_implies, false_implies, Int.reduceLT, Int.reduceLE, Int.reduceEq]
    refine b4 F _ ?_
    simp (disch := first | omega | decide) only [w32_id, ↓kh_c49, ↓kh_g49_0, ↓kh_g49_1, ↓kh_g49_2, ↓kh_g49_3, ↓kh_g49_4, ↓kh_g49_5, ↓kh_g49_6, ↓kh_p49_6, ↓kh_g49_7, ↓kh_p49_7, ↓kh_g49_8, ↓kh_p49_8, ↓kh_g49_9, ↓kh_p49_9, ↓kh_g49_10, ↓kh_p49_10, ↓kh_g49_11, ↓kh_p49_11, ↓kh_g49_12, ↓kh_p49_12, ↓kh_g49_13, ↓kh_p49_13, ↓kh_g49_14, ↓kh_p49_14, ↓be_y, ↓be_n, ↓bf_y, ↓bf_n, ↓bl_y, ↓bl_n, ↓bm_y, ↓bm_n, ↓bg_y, ↓bg_n, ↓bs_y, ↓bs_n, ↓bo_y, ↓bo_n, ↓bp_y, ↓bp_n, ↓forall_eq, ↓within_y, ↓within_n, ↓isIn_y, ↓isIn_n, and_true, true_and, and_self, us_at, us_ne, w32_id, um_eq, um_ne, um_um, uu_eq, uu_ne, uu_uu, vv_eq, vv_ne, vv_vv, ne_eq, not_false_eq_true, not_true_eq_false, reduceCtorEq, Int.reduceAdd, Int.reduceSub, Int.reduceMul, Int.reduceNeg, Nat.reduceEqDiff, or_true, true_or, true_implies, false_implies, Int.reduceLT, Int.reduceLE, Int.reduceEq]
    exact k5 F _ z
theorem frw_z {v v' : Nat → Nat → Int} (h : frz v v') : frw v v' := ⟨h.1, h.2.1⟩
theorem frw_t {v v' v'' : Nat → Nat → Int} (a : frw v v') (b : frw v' v'') : frw v v'' := ⟨fun h hh => by rw [b.1 h hh, a.1 h hh], by rw [b.2, a.2]⟩
theorem frw_w {v : Nat → Nat → Int} {k : Nat} {x : Int} (h : k ≠ 6) : frw v (vv v 49 k x) := ⟨fun h hh => by simp [vv, hh], by simp [vv, uu, h.symm]⟩
theorem fry_t {N N' N'' : Nat → Int → Int} (a : fry N N') (b : fry N' N'') : fry N N'' := fun j h1 h2 h3 => by rw [b j h1 h2 h3, a j h1 h2 h3]
theorem fry_53 {N N' : Nat → Int → Int} (a : fr53 N N') : fry N N' := fun j h1 _ _ => a j h1
-- one more deed in the row
theorem ccl_put {N N' : Nat → Int → Int} (h : ccl cl N) {sr a b : Int} (e : N' 54 = us (us (us (N 54) (3 * cl.length) (cc sr)) (3 * cl.length + 1) a) (3 * cl.length + 2) b) {a' b' : Int} (ha : 2 ≤ sr → sr ≠ 5 → a = a' ∧ (sr ≠ 7 → b = b')) : ccl (cl ++ [(sr, a', b')]) N' := by
  intro i t hi
  rw [e]
  by_cases f : i < cl.length
  · rw [List.getElem?_append_left f] at hi
    have := h i t hi
    rw [us_ne (by omega), us_ne (by omega), us_ne (by omega), us_ne (by omega), us_ne (by omega), us_ne (by omega), us_ne (by omega), us_ne (by omega), us_ne (by omega)]
    exact this
  · by_cases g : i = cl.length
    · subst g
      rw [List.getElem?_append_right (Nat.le_refl _), Nat.sub_self] at hi
      simp only [List.getElem?_cons_zero, Option.some.injEq] at hi
      subst hi
      rw [us_ne (by omega), us_ne (by omega), us_eq, us_ne (by omega), us_eq, us_eq]
      exact ⟨rfl, ha⟩
    · rw [List.getElem?_eq_none (by rw [List.length_append, List.length_singleton]; omega)] at hi
      exact absurd hi (by simp)
theorem cbw_put {w : Int} {N N' : Nat → Int → Int} (h : cbw w cl N) (e : N' 55 = N 55) {sr a b : Int} (hs : sr ≠ w) : cbw w (cl ++ [(sr, a, b)]) N' := by
  unfold cbw at h ⊢
  rw [e]
  rcases h with ⟨h1, h2⟩ | ⟨i, p, q, h1, h2, h3, h4⟩
  · left
    refine ⟨h1, fun t ht => ?_⟩
    rcases List.mem_append.1 ht with k | k
    · exact h2 t k
    · rw [List.mem_singleton] at k; subst k; exact hs
  · right
    have il : i < cl.length := by
      rcases Nat.lt_or_ge i cl.length with t | t
      · exact t
      · rw [List.getElem?_eq_none t] at h1; exact absurd h1 (by simp)
    refine ⟨i, p, q, by rw [List.getElem?_append_left il]; exact h1, fun i' t hi ht => ?_, h3, h4⟩
    by_cases f : i' < cl.length
    · rw [List.getElem?_append_left f] at hi; exact h2 i' t hi ht
    · by_cases g : i' = cl.length
      · subst g
        rw [List.getElem?_append_right (Nat.le_refl _), Nat.sub_self] at hi
        simp only [List.getElem?_cons_zero, Option.some.injEq] at hi
        subst hi
        exact absurd ht hs
      · rw [List.getElem?_eq_none (by rw [List.length_append, List.length_singleton]; omega)] at hi
        exact absurd hi (by simp)
end CZ
