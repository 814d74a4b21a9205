section CS
variable {tk plc : Nat → Int} {cn : Nat} {mo : Int} {T : Nat → Int → Option Nat} {v : Nat → Nat → Int} {N : Nat → Int → Int} {j : Nat} {o : List (Int × Int)} {cl cl' : List (Int × Int × Int)}
theorem cbw_p2 {w : Int} {N N' : Nat → Int → Int} (h : cbw w cl N) (e1 : N' 55 (2 * w) = N 55 (2 * w)) (e2 : N' 55 (2 * w + 1) = N 55 (2 * w + 1)) {sr a b : Int} (hs : sr ≠ w) : cbw w (cl ++ [(sr, a, b)]) N' := by
  have : cbw w (cl ++ [(sr, a, b)]) N := cbw_put h rfl hs
  unfold cbw at this ⊢
  rw [e1, e2]
  exact this
theorem cbw_new {w p q : Int} {N' : Nat → Int → Int} (h : ∀ t, t ∈ cl → t.1 ≠ w) (hp0 : 0 ≤ p ∧ p ≤ 300) (e1 : N' 55 (2 * w) = p) (e2 : N' 55 (2 * w + 1) = q) : cbw w (cl ++ [(w, p, q)]) N' := by
  right
  refine ⟨cl.length, p, q, by rw [List.getElem?_append_right (Nat.le_refl _), Nat.sub_self]; rfl, fun i' t hi ht => ?_, hp0, e1, e2⟩
  by_cases f : i' < cl.length
  · rw [List.getElem?_append_left f] at hi
    exact absurd ht (h t (List.mem_of_getElem? hi))
  · by_cases g : i' = cl.length
    · exact g
    · rw [List.getElem?_eq_none (by rw [List.length_append, List.length_singleton]; omega)] at hi
      exact absurd hi (by simp)
-- up to where the clause is taken
theorem rc_68 (ht : tkok tk cn) (h : CT tk plc cn j o cl v N) (c1 : (11 ≤ tk j ∧ tk j ≤ 17) ∨ tk j = 0) (c2 : ¬ ((tk j = 11 ∨ tk j = 12) ∧ ∃ t, t ∈ cl ∧ t.1 = tk j - 11)) {F : hp} {Q : hp → Prop} (z : mX2_readClause_J68 Q 49 (tk j) (kh F v N T)) : mX2_readClause 49 (kh F v N T) Q := by
  obtain ⟨⟨mo, hc⟩, h2, h3, h4, h5, h6⟩ := h
  have t := crd_t hc
  have t : v 49 10 = tk j := t
  have b := crd_b ht hc
  have b : 0 ≤ tk j ∧ tk j ≤ 10100 := b
  have z28 : mX2_readClause_J28 Q 49 (tk j) (kh F v N T) := by
    by_cases e1 : tk j = 11
    · have nb : N 55 0 = -1 := by
        rcases h5 with ⟨k, -⟩ | ⟨i, p, q, k, -⟩
        · exact k
        · exact absurd ⟨.inl e1, ⟨_, List.mem_of_getElem? k, by show (0 : Int) = _; omega⟩⟩ c2
      clear c2
      simp (disch := first | omega | decide) only [mX2_readClause_J28, mX2_readClause_J44, ↓kh_c49, ↓kh_g49_0, ↓kh_g49_1, ↓kh_g49_2, ↓kh_g49_3, ↓kh_g49_4, ↓kh_g49_5, ↓kh_g49_6, ↓kh_p49_6, ↓kh_g49_7, ↓kh_p49_7, ↓kh_g49_8, ↓kh_p49_8, ↓kh_g49_9, ↓kh_p49_9, ↓kh_g49_10, ↓kh_p49_10, ↓kh_g49_11, ↓kh_p49_11, ↓kh_g49_12, ↓kh_p49_12, ↓kh_g49_13, ↓kh_p49_13, ↓kh_g49_14, ↓kh_p49_14, ↓kh_r55, ↓kh_w55, ↓kh_n55, ↓be_y, ↓be_n, ↓bf_y, ↓bf_n, ↓bl_y, ↓bl_n, ↓bm_y, ↓bm_n, ↓bg_y, ↓bg_n, ↓bs_y, ↓bs_n, ↓bo_y, ↓bo_n, ↓bp_y, ↓bp_n, ↓forall_eq, ↓within_y, ↓within_n, ↓isIn_y, ↓isIn_n, and_true, true_and, and_self, us_at, us_ne, w32_id, um_eq, um_ne, um_um, uu_eq, uu_ne, uu_uu, vv_eq, vv_ne, vv_vv, ne_eq, not_false_eq_true, not_true_eq_false, reduceCtorEq, Int.reduceAdd, Int.reduceSub, Int.reduceMul, Int.reduceNeg, Nat.reduceEqDiff, or_true, true_or, true_implies, false_implies, Int.reduceLT, Int.reduceLE, Int.reduceEq, nb]
      exact z
    · by_cases e2 : tk j = 12
      · have nb : N 55 2 = -1 := by
          rcases h6 with ⟨k, -⟩ | ⟨i, p, q, k, -⟩
          · exact k
          · exact absurd ⟨.inr e2, ⟨_, List.mem_of_getElem? k, by show (1 : Int) = _; omega⟩⟩ c2
        clear c2
        simp (disch := first | omega | decide) only [mX2_readClause_J28, mX2_readClause_J44, ↓kh_c49, ↓kh_g49_0, ↓kh_g49_1, ↓kh_g49_2, ↓kh_g49_3, ↓kh_g49_4, ↓kh_g49_5, ↓kh_g49_6, ↓kh_p49_6, ↓kh_g49_7, ↓kh_p49_7, ↓kh_g49_8, ↓kh_p49_8, ↓kh_g49_9, ↓kh_p49_9, ↓kh_g49_10, ↓kh_p49_10, ↓kh_g49_11, ↓kh_p49_11, ↓kh_g49_12, ↓kh_p49_12, ↓kh_g49_13, ↓kh_p49_13, ↓kh_g49_14, ↓kh_p49_14, ↓kh_r55, ↓kh_w55, ↓kh_n55, ↓be_y, ↓be_n, ↓bf_y, ↓bf_n, ↓bl_y, ↓bl_n, ↓bm_y, ↓bm_n, ↓bg_y, ↓bg_n, ↓bs_y, ↓bs_n, ↓bo_y, ↓bo_n, ↓bp_y, ↓bp_n, ↓forall_eq, ↓within_y, ↓within_n, ↓isIn_y, ↓isIn_n, and_true, true_and, and_self, us_at, us_ne, w32_id, um_eq, um_ne, um_um, uu_eq, uu_ne, uu_uu, vv_eq, vv_ne, vv_vv, ne_eq, not_false_eq_true, not_true_eq_false, reduceCtorEq, Int.reduceAdd, Int.reduceSub, Int.reduceMul, Int.reduceNeg, Nat.reduceEqDiff, or_true, true_or, true_implies, false_implies, Int.reduceLT, Int.reduceLE, Int.reduceEq, nb]
        exact z
      · clear c2
        simp (disch := first | omega | decide) only [mX2_readClause_J28, mX2_readClause_J44, ↓kh_c49, ↓kh_g49_0, ↓kh_g49_1, ↓kh_g49_2, ↓kh_g49_3, ↓kh_g49_4, ↓kh_g49_5, ↓kh_g49_6, ↓kh_p49_6, ↓kh_g49_7, ↓kh_p49_7, ↓kh_g49_8, ↓kh_p49_8, ↓kh_g49_9, ↓kh_p49_9, ↓kh_g49_10, ↓kh_p49_10, ↓kh_g49_11, ↓kh_p49_11, ↓kh_g49_12, ↓kh_p49_12, ↓kh_g49_13, ↓kh_p49_13, ↓kh_g49_14, ↓kh_p49_14, ↓kh_r55, ↓kh_w55, ↓kh_n55, ↓be_y, ↓be_n, ↓bf_y, ↓bf_n, ↓bl_y, ↓bl_n, ↓bm_y, ↓bm_n, ↓bg_y, ↓bg_n, ↓bs_y, ↓bs_n, ↓bo_y, ↓bo_n, ↓bp_y, ↓bp_n, ↓forall_eq, ↓within_y, ↓within_n, ↓isIn_y, ↓isIn_n, and_true, true_and, and_self, us_at, us_ne, w32_id, um_eq, um_ne, um_um, uu_eq, uu_ne, uu_uu, vv_eq, vv_ne, vv_vv, ne_eq, not_false_eq_true, not_true_eq_false, reduceCtorEq, Int.reduceAdd, Int.reduceSub, Int.reduceMul, Int.reduceNeg, Nat.reduceEqDiff, or_true, true_or, true_implies, false_implies, Int.reduceLT, Int.reduceLE, Int.reduceEq]
        exact z
  clear c2
  by_cases e : tk j = 0
  · simp (disch := first | omega | decide) only [mX2_readClause, ↓kh_c49, ↓kh_g49_0, ↓kh_g49_1, ↓kh_g49_2, ↓kh_g49_3, ↓kh_g49_4, ↓kh_g49_5, ↓kh_g49_6, ↓kh_p49_6, ↓kh_g49_7, ↓kh_p49_7, ↓kh_g49_8, ↓kh_p49_8, ↓kh_g49_9, ↓kh_p49_9, ↓kh_g49_10, ↓kh_p49_10, ↓kh_g49_11, ↓kh_p49_11, ↓kh_g49_12, ↓kh_p49_12, ↓kh_g49_13, ↓kh_p49_13, ↓kh_g49_14, ↓kh_p49_14, ↓be_y, ↓be_n, ↓bf_y, ↓bf_n, ↓bl_y, ↓bl_n, ↓bm_y, ↓bm_n, ↓bg_y, ↓bg_n, ↓bs_y, ↓bs_n, ↓bo_y, ↓bo_n, ↓bp_y, ↓bp_n, ↓forall_eq, ↓within_y, ↓within_n, ↓isIn_y, ↓isIn_n, and_true, true_and, and_self, us_at, us_ne, w32_id, um_eq, um_ne, um_um, uu_eq, uu_ne, uu_uu, vv_eq, vv_ne, vv_vv, ne_eq, not_false_eq_true, not_true_eq_false, reduceCtorEq, Int.reduceAdd, Int.reduceSub, Int.reduceMul, Int.reduceNeg, Nat.reduceEqDiff, or_true, true_or, true_implies, false_implies, Int.reduceLT, Int.reduceLE, Int.reduceEq, t]
    exact z28
  · simp (disch := first | omega | decide) only [mX2_readClause, ↓kh_c49, ↓kh_g49_0, ↓kh_g49_1, ↓kh_g49_2, ↓kh_g49_3, ↓kh_g49_4, ↓kh_g49_5, ↓kh_g49_6, ↓kh_p49_6, ↓kh_g49_7, ↓kh_p49_7, ↓kh_g49_8, ↓kh_p49_8, ↓kh_g49_9, ↓kh_p49_9, ↓kh_g49_10, ↓kh_p49_10, ↓kh_g49_11, ↓kh_p49_11, ↓kh_g49_12, ↓kh_p49_12, ↓kh_g49_13, ↓kh_p49_13, ↓kh_g49_14, ↓kh_p49_14, ↓be_y, ↓be_n, ↓bf_y, ↓bf_n, ↓bl_y, ↓bl_n, ↓bm_y, ↓bm_n, ↓bg_y, ↓bg_n, ↓bs_y, ↓bs_n, ↓bo_y, ↓bo_n, ↓bp_y, ↓bp_n, ↓forall_eq, ↓within_y, ↓within_n, ↓isIn_y, ↓isIn_n, and_true, true_and, and_self, us_at, us_ne, w32_id, um_eq, um_ne, um_um, uu_eq, uu_ne, uu_uu, vv_eq, vv_ne, vv_vv, ne_eq, not_false_eq_true, not_true_eq_false, reduceCtorEq, Int.reduceAdd, Int.reduceSub, Int.reduceMul, Int.reduceNeg, Nat.reduceEqDiff, or_true, true_or, true_implies, false_implies, Int.reduceLT, Int.reduceLE, Int.reduceEq, t]
    exact z28
theorem fail_CF {k : Int} (hk : 1 ≤ k ∧ k ≤ 6) (ht : tkok tk cn) (h : CT tk plc cn j o cl v N) : ∃ v' N', CF tk plc cn (.inr (k, j)) cl' v' N' ∧ frw v v' ∧ fry N N' ∧ ∀ (F : hp) (Q : hp → Prop), Q (kh F v' N' T) → mX2_fail 49 k (kh F v N T) Q := by
  obtain ⟨⟨mo, hc⟩, h2, h3, h4, h5, h6⟩ := h
  obtain ⟨v', N', a1, a2, a3, a4⟩ := c_fail (T := T) ht hk v N hc
  have e13 := a2.2.2.1
  exact ⟨v', N', ⟨⟨mo, a1⟩, by omega, fun j o e => absurd e (by simp)⟩, frw_z a2, fry_53 a3, a4⟩
-- a deed's end: it is laid down, and the semicolon
theorem deed_e (ht : tkok tk cn) {s : gs} {sr x a b a' b' : Int} (hx : x = cc sr) (hs : 2 ≤ sr ∧ sr ≤ 7) {v N : _} (hc : crd tk plc cn mo 0 s v N) (h13 : v 49 13 = (cl.length : Int)) (hl : cl.length < 24) (h4 : ccl cl N) (h5 : cbw 0 cl N) (h6 : cbw 1 cl N) (hv : ∀ j o, gexp tk 40 s = .inl (j, o) → sr ≠ 5 → a = a' ∧ (sr ≠ 7 → b = b')) : ∃ v' N', CF tk plc cn (gexp tk 40 s) (cl ++ [(sr, a', b')]) v' N' ∧ frw v v' ∧ fry N N' ∧ ∀ (F : hp) (Q : hp → Prop), Q (kh F v' N' T) → mX2_readDeed_J160 (fun F4 => mX2_readClause_J115 Q 49 F4) 49 x a b (kh F v N T) := by
  obtain ⟨N1, a1, a2, a3, a4⟩ := c_add (T := T) (c := (cl.length : Int)) (a := a) (b := b) (x := x) h13 (by omega) hc
  rw [if_pos (by omega)] at a1 a4
  obtain ⟨v2, N2, b1, b2, b3, b4⟩ := c_exp (T := T) ht (c := 40) (by omega) (by omega) _ N1 a1
  have e13 : v2 49 13 = (cl.length : Int) + 1 := by rw [b2.2.2.1, vv_a]
  have n54 : N2 54 = us (us (us (N 54) (3 * cl.length) (cc sr)) (3 * cl.length + 1) a) (3 * cl.length + 2) b := by rw [b3 54 (by decide), a3 (by omega), hx]
  have n55 : N2 55 = N 55 := by rw [b3 55 (by decide), a2 55 (by decide)]
  refine ⟨v2, N2, ⟨⟨mo, b1⟩, by omega, fun j o e => ?_⟩, frw_t (frw_w (by decide)) (frw_z b2), fry_t (fun j _ h2 _ => a2 j h2) (fry_53 b3), fun F Q z => ?_⟩
  · refine ⟨⟨mo, by rw [← e]; exact b1⟩, by rw [e13, List.length_append, List.length_singleton]; omega, by rw [List.length_append, List.length_singleton]; omega, ccl_put h4 n54 (fun _ h => hv j o e h), cbw_put h5 n55 (by omega), cbw_put h6 n55 (by omega)⟩
  · simp (disch := first | omega | decide) only [mX2_readDeed_J160, ↓kh_c49, ↓kh_g49_0, ↓kh_g49_1, ↓kh_g49_2, ↓kh_g49_3, ↓kh_g49_4, ↓kh_g49_5, ↓kh_g49_6, ↓kh_p49_6, ↓kh_g49_7, ↓kh_p49_7, ↓kh_g49_8, ↓kh_p49_8, ↓kh_g49_9, ↓kh_p49_9, ↓kh_g49_10, ↓kh_p49_10, ↓kh_g49_11, ↓kh_p49_11, ↓kh_g49_12, ↓kh_p49_12, ↓kh_g49_13, ↓kh_p49_13, ↓kh_g49_14, ↓kh_p49_14, ↓be_y, ↓be_n, ↓bf_y, ↓bf_n, ↓bl_y, ↓bl_n, ↓bm_y, ↓bm_n, ↓bg_y, ↓bg_n, ↓bs_y, ↓bs_n, ↓bo_y, ↓bo_n, ↓bp_y, ↓bp_n, ↓forall_eq, ↓within_y, ↓within_n, ↓isIn_y, ↓isIn_n, and_true, true_and, and_self, us_at, us_ne, w32_id, um_eq, um_ne, um_um, uu_eq, uu_ne, uu_uu, vv_eq, vv_ne, vv_vv, ne_eq, not_false_eq_true, not_true_eq_false, reduceCtorEq, Int.reduceAdd, Int.reduceSub, Int.reduceMul, Int.reduceNeg, Nat.reduceEqDiff, or_true, true_or, true_implies, false_implies, Int.reduceLT, Int.reduceLE, Int.reduceEq]
    refine a4 F _ ?_
    simp (disch := first | omega | decide) only [mX2_readClause_J115, ↓kh_c49, ↓kh_g49_0, ↓kh_g49_1, ↓kh_g49_2, ↓kh_g49_3, ↓kh_g49_4, ↓kh_g49_5, ↓kh_g49_6, ↓kh_p49_6, ↓kh_g49_7, ↓kh_p49_7, ↓kh_g49_8, ↓kh_p49_8, ↓kh_g49_9, ↓kh_p49_9, ↓kh_g49_10, ↓kh_p49_10, ↓kh_g49_11, ↓kh_p49_11, ↓kh_g49_12, ↓kh_p49_12, ↓kh_g49_13, ↓kh_p49_13, ↓kh_g49_14, ↓kh_p49_14, ↓be_y, ↓be_n, ↓bf_y, ↓bf_n, ↓bl_y, ↓bl_n, ↓bm_y, ↓bm_n, ↓bg_y, ↓bg_n, ↓bs_y, ↓bs_n, ↓bo_y, ↓bo_n, ↓bp_y, ↓bp_n, ↓forall_eq, ↓within_y, ↓within_n, ↓isIn_y, ↓isIn_n, and_true, true_and, and_self, us_at, us_ne, w32_id, um_eq, um_ne, um_um, uu_eq, uu_ne, uu_uu, vv_eq, vv_ne, vv_vv, ne_eq, not_false_eq_true, not_true_eq_false, reduceCtorEq, Int.reduceAdd, Int.reduceSub, Int.reduceMul, Int.reduceNeg, Nat.reduceEqDiff, or_true, true_or, true_implies, false_implies, Int.reduceLT, Int.reduceLE, Int.reduceEq]
    exact b4 F Q z
set_option maxHeartbeats 8000000 in
theorem cz_c (ht : tkok tk cn) (h : CT tk plc cn j o cl v N) {s' : gs} (hz : gcz tk j o cl s' cl') : ∃ v' N', CF tk plc cn s' cl' v' N' ∧ frw v v' ∧ fry N N' ∧ ∀ (F : hp) (Q : hp → Prop), Q (kh F v' N' T) → mX2_readClause 49 (kh F v N T) Q := by
  obtain ⟨⟨mo, hc⟩, h2, h3, h4, h5, h6⟩ := id h
  have t := crd_t hc
  have t : v 49 10 = tk j := t
  have b := crd_b ht hc
  have b : 0 ≤ tk j ∧ tk j ≤ 10100 := b
  rcases hz with ⟨c1, c2, rfl⟩ | ⟨c1, ⟨t1, t2, t3⟩, rfl⟩ | ⟨c1, c2, hz⟩
  · obtain ⟨v', N', a1, a2, a3, a4⟩ := fail_CF (T := T) (cl' := cl') (k := 1) (by omega) ht h
    refine ⟨v', N', a1, a2, a3, fun F Q z => ?_⟩
    have c1' : tk j < 11 ∨ 17 < tk j := by omega
    clear c1
    simp (disch := first | omega | decide) only [mX2_readClause, ↓kh_c49, ↓kh_g49_0, ↓kh_g49_1, ↓kh_g49_2, ↓kh_g49_3, ↓kh_g49_4, ↓kh_g49_5, ↓kh_g49_6, ↓kh_p49_6, ↓kh_g49_7, ↓kh_p49_7, ↓kh_g49_8, ↓kh_p49_8, ↓kh_g49_9, ↓kh_p49_9, ↓kh_g49_10, ↓kh_p49_10, ↓kh_g49_11, ↓kh_p49_11, ↓kh_g49_12, ↓kh_p49_12, ↓kh_g49_13, ↓kh_p49_13, ↓kh_g49_14, ↓kh_p49_14, ↓be_y, ↓be_n, ↓bf_y, ↓bf_n, ↓bl_y, ↓bl_n, ↓bm_y, ↓bm_n, ↓bg_y, ↓bg_n, ↓bs_y, ↓bs_n, ↓bo_y, ↓bo_n, ↓bp_y, ↓bp_n, ↓forall_eq, ↓within_y, ↓within_n, ↓isIn_y, ↓isIn_n, and_true, true_and, and_self, us_at, us_ne, w32_id, um_eq, um_ne, um_um, uu_eq, uu_ne, uu_uu, vv_eq, vv_ne, vv_vv, ne_eq, not_false_eq_true, not_true_eq_false, reduceCtorEq, Int.reduceAdd, Int.reduceSub, Int.reduceMul, Int.reduceNeg, Nat.reduceEqDiff, or_true, true_or, true_implies, false_implies, Int.reduceLT, Int.reduceLE, Int.reduceEq, t]
    exact a4 F Q z
  · obtain ⟨v', N', a1, a2, a3, a4⟩ := fail_CF (T := T) (cl' := cl') (k := 4) (by omega) ht h
    refine ⟨v', N', a1, a2, a3, fun F Q z => ?_⟩
    have fin : mX2_readClause_J60 Q 49 (kh F v N T) := by
      simp (disch := first | omega | decide) only [mX2_readClause_J60, ↓kh_c49, ↓kh_g49_0, ↓kh_g49_1, ↓kh_g49_2, ↓kh_g49_3, ↓kh_g49_4, ↓kh_g49_5, ↓kh_g49_6, ↓kh_p49_6, ↓kh_g49_7, ↓kh_p49_7, ↓kh_g49_8, ↓kh_p49_8, ↓kh_g49_9, ↓kh_p49_9, ↓kh_g49_10, ↓kh_p49_10, ↓kh_g49_11, ↓kh_p49_11, ↓kh_g49_12, ↓kh_p49_12, ↓kh_g49_13, ↓kh_p49_13, ↓kh_g49_14, ↓kh_p49_14, ↓be_y, ↓be_n, ↓bf_y, ↓bf_n, ↓bl_y, ↓bl_n, ↓bm_y, ↓bm_n, ↓bg_y, ↓bg_n, ↓bs_y, ↓bs_n, ↓bo_y, ↓bo_n, ↓bp_y, ↓bp_n, ↓forall_eq, ↓within_y, ↓within_n, ↓isIn_y, ↓isIn_n, and_true, true_and, and_self, us_at, us_ne, w32_id, um_eq, um_ne, um_um, uu_eq, uu_ne, uu_uu, vv_eq, vv_ne, vv_vv, ne_eq, not_false_eq_true, not_true_eq_false, reduceCtorEq, Int.reduceAdd, Int.reduceSub, Int.reduceMul, Int.reduceNeg, Nat.reduceEqDiff, or_true, true_or, true_implies, false_implies, Int.reduceLT, Int.reduceLE, Int.reduceEq]
      exact a4 F Q z
    rcases c1 with c | c
    · have nb : ¬ N 55 0 = -1 ∧ N 55 0 ≤ 300 ∧ -1 ≤ N 55 0 := by
        rcases h5 with ⟨-, k⟩ | ⟨i, p, q, -, -, k1, k2, -⟩
        · exact absurd (by omega) (k t1 t2)
        · have k2 : N 55 0 = p := k2
          omega
      simp (disch := first | omega | decide) only [mX2_readClause, mX2_readClause_J28, ↓kh_c49, ↓kh_g49_0, ↓kh_g49_1, ↓kh_g49_2, ↓kh_g49_3, ↓kh_g49_4, ↓kh_g49_5, ↓kh_g49_6, ↓kh_p49_6, ↓kh_g49_7, ↓kh_p49_7, ↓kh_g49_8, ↓kh_p49_8, ↓kh_g49_9, ↓kh_p49_9, ↓kh_g49_10, ↓kh_p49_10, ↓kh_g49_11, ↓kh_p49_11, ↓kh_g49_12, ↓kh_p49_12, ↓kh_g49_13, ↓kh_p49_13, ↓kh_g49_14, ↓kh_p49_14, ↓kh_r55, ↓kh_w55, ↓kh_n55, ↓be_y, ↓be_n, ↓bf_y, ↓bf_n, ↓bl_y, ↓bl_n, ↓bm_y, ↓bm_n, ↓bg_y, ↓bg_n, ↓bs_y, ↓bs_n, ↓bo_y, ↓bo_n, ↓bp_y, ↓bp_n, ↓forall_eq, ↓within_y, ↓within_n, ↓isIn_y, ↓isIn_n, and_true, true_and, and_self, us_at, us_ne, w32_id, um_eq, um_ne, um_um, uu_eq, uu_ne, uu_uu, vv_eq, vv_ne, vv_vv, ne_eq, not_false_eq_true, not_true_eq_false, reduceCtorEq, Int.reduceAdd, Int.reduceSub, Int.reduceMul, Int.reduceNeg, Nat.reduceEqDiff, or_true, true_or, true_implies, false_implies, Int.reduceLT, Int.reduceLE, Int.reduceEq, t]
      exact fin
    · have nb : ¬ N 55 2 = -1 ∧ N 55 2 ≤ 300 ∧ -1 ≤ N 55 2 := by
        rcases h6 with ⟨-, k⟩ | ⟨i, p, q, -, -, k1, k2, -⟩
        · exact absurd (by omega) (k t1 t2)
        · have k2 : N 55 2 = p := k2
          omega
      simp (disch := first | omega | decide) only [mX2_readClause, mX2_readClause_J28, mX2_readClause_J44, ↓kh_c49, ↓kh_g49_0, ↓kh_g49_1, ↓kh_g49_2, ↓kh_g49_3, ↓kh_g49_4, ↓kh_g49_5, ↓kh_g49_6, ↓kh_p49_6, ↓kh_g49_7, ↓kh_p49_7, ↓kh_g49_8, ↓kh_p49_8, ↓kh_g49_9, ↓kh_p49_9, ↓kh_g49_10, ↓kh_p49_10, ↓kh_g49_11, ↓kh_p49_11, ↓kh_g49_12, ↓kh_p49_12, ↓kh_g49_13, ↓kh_p49_13, ↓kh_g49_14, ↓kh_p49_14, ↓kh_r55, ↓kh_w55, ↓kh_n55, ↓be_y, ↓be_n, ↓bf_y, ↓bf_n, ↓bl_y, ↓bl_n, ↓bm_y, ↓bm_n, ↓bg_y, ↓bg_n, ↓bs_y, ↓bs_n, ↓bo_y, ↓bo_n, ↓bp_y, ↓bp_n, ↓forall_eq, ↓within_y, ↓within_n, ↓isIn_y, ↓isIn_n, and_true, true_and, and_self, us_at, us_ne, w32_id, um_eq, um_ne, um_um, uu_eq, uu_ne, uu_uu, vv_eq, vv_ne, vv_vv, ne_eq, not_false_eq_true, not_true_eq_false, reduceCtorEq, Int.reduceAdd, Int.reduceSub, Int.reduceMul, Int.reduceNeg, Nat.reduceEqDiff, or_true, true_or, true_implies, false_implies, Int.reduceLT, Int.reduceLE, Int.reduceEq, t]
      exact fin
  · rcases hz with ⟨c3, rfl⟩ | ⟨c3, hz⟩
    · obtain ⟨v', N', a1, a2, a3, a4⟩ := fail_CF (T := T) (cl' := cl') (k := 6) (by omega) ht h
      refine ⟨v', N', a1, a2, a3, fun F Q z => rc_68 ht h c1 c2 ?_⟩
      clear c2
      have h2' : v 49 13 = 24 := by omega
      simp (disch := first | omega | decide) only [mX2_readClause_J68, ↓kh_c49, ↓kh_g49_0, ↓kh_g49_1, ↓kh_g49_2, ↓kh_g49_3, ↓kh_g49_4, ↓kh_g49_5, ↓kh_g49_6, ↓kh_p49_6, ↓kh_g49_7, ↓kh_p49_7, ↓kh_g49_8, ↓kh_p49_8, ↓kh_g49_9, ↓kh_p49_9, ↓kh_g49_10, ↓kh_p49_10, ↓kh_g49_11, ↓kh_p49_11, ↓kh_g49_12, ↓kh_p49_12, ↓kh_g49_13, ↓kh_p49_13, ↓kh_g49_14, ↓kh_p49_14, ↓be_y, ↓be_n, ↓bf_y, ↓bf_n, ↓bl_y, ↓bl_n, ↓bm_y, ↓bm_n, ↓bg_y, ↓bg_n, ↓bs_y, ↓bs_n, ↓bo_y, ↓bo_n, ↓bp_y, ↓bp_n, ↓forall_eq, ↓within_y, ↓within_n, ↓isIn_y, ↓isIn_n, and_true, true_and, and_self, us_at, us_ne, w32_id, um_eq, um_ne, um_um, uu_eq, uu_ne, uu_uu, vv_eq, vv_ne, vv_vv, ne_eq, not_false_eq_true, not_true_eq_false, reduceCtorEq, Int.reduceAdd, Int.reduceSub, Int.reduceMul, Int.reduceNeg, Nat.reduceEqDiff, or_true, true_or, true_implies, false_implies, Int.reduceLT, Int.reduceLE, Int.reduceEq, h2']
      exact a4 F Q z
    · obtain ⟨v1, N1, p1, p2, p3, p4⟩ := c_next (T := T) ht (s := .inl (j, o)) (by show tk j ≠ 44; omega) v N hc
      have p1 : crd tk plc cn mo 0 (.inl (j + 1, o)) v1 N1 := p1
      have q13 : v1 49 13 = (cl.length : Int) := by rw [p2.2.2.1]; exact h2
      have q4 : ccl cl N1 := by unfold ccl; rw [p3 54 (by decide)]; exact h4
      have q5 : cbw 0 cl N1 := by unfold cbw; rw [p3 55 (by decide)]; exact h5
      have q6 : cbw 1 cl N1 := by unfold cbw; rw [p3 55 (by decide)]; exact h6
      rcases hz with ⟨k1, s1, k2, rfl, k3⟩ | ⟨k1, rfl, rfl⟩ | ⟨k1, rfl, rfl⟩ | ⟨k1, rfl, rfl⟩
      · -- a law
        have p1' := crd_14 (m := if decide (tk j = 11) = true then 1 else 0) p1
        have ol := crd_l p1
        have e12 : v1 49 12 = (o.length : Int) := p1.2.2.2.2.2.2.2.1
        have c300 := ht.2.1
        obtain ⟨w, hw, hw1, hw2⟩ : ∃ w : Int, (w = 0 ∨ w = 1) ∧ tk j = w + 11 ∧ (if decide (tk j = 11) = true then (1 : Int) else 0) = 1 - w := by
          rcases k1 with k | k
          · exact ⟨0, .inl rfl, by omega, by rw [if_pos (by simp [k])]; rfl⟩
          · exact ⟨1, .inr rfl, by omega, by rw [if_neg (by simp [k])]; rfl⟩
        have nw : ∀ t, t ∈ cl → t.1 ≠ w := fun t ht e => c2 ⟨k1, t, ht, by omega⟩
        clear c2
        have hc2 : crd tk plc cn (if decide (tk j = 11) = true then 1 else 0) 0 (.inl (j + 1, o)) (vv v1 49 14 (1 - w)) (um N1 55 (us (N1 55) (2 * w) o.length)) := crd_n (um_ne (by decide)) (um_ne (by decide)) (um_ne (by decide)) (by rw [hw2] at p1' ⊢; exact p1')
        obtain ⟨v3, N3, a1, a2, a3, a4⟩ := gA_t (plc := plc) (T := T) ht k2 (by omega) 100 (by omega) _ _ hc2
        have b12 : 0 ≤ v3 49 12 ∧ v3 49 12 ≤ 300 := by
          rcases s1 with ⟨j1, o1⟩ | ⟨k, e⟩
          · have := crd_l a1
            have e3 : v3 49 12 = (o1.length : Int) := a1.2.2.2.2.2.2.2.1
            omega
          · exact a1.2.2.2.2.2.2.2.1
        have hc3 : crd tk plc cn (if decide (tk j = 11) = true then 1 else 0) 0 s1 v3 (um N3 55 (us (N3 55) (2 * w + 1) (v3 49 12))) := crd_n (um_ne (by decide)) (um_ne (by decide)) (um_ne (by decide)) a1
        have e13 : v3 49 13 = (cl.length : Int) := by rw [a2.2.2.1, vv_b (by decide)]; exact q13
        obtain ⟨N4, b1, b2, b3, b4⟩ := c_add (T := T) (c := (cl.length : Int)) (a := 0) (b := 0) (x := tk j) e13 (by omega) hc3
        rw [if_pos (show (cl.length : Int) < 24 by omega)] at b1 b4
        obtain ⟨v5, N5, d1, d2, d3, d4⟩ := c_exp (T := T) ht (c := 40) (by omega) (by omega) _ N4 b1
        have f13 : v5 49 13 = (cl.length : Int) + 1 := by rw [d2.2.2.1, vv_a]
        have n54 : N5 54 = us (us (us (N 54) (3 * cl.length) (cc w)) (3 * cl.length + 1) 0) (3 * cl.length + 2) 0 := by
          rw [d3 54 (by decide), b3 (by omega), um_ne (by decide), a3 54 (by decide), um_ne (by decide), p3 54 (by decide)]
          have : cc w = tk j := by unfold cc; rw [if_neg (by omega)]; omega
          rw [this]
        have n55 : N5 55 = us (us (N 55) (2 * w) o.length) (2 * w + 1) (v3 49 12) := by
          rw [d3 55 (by decide), b2 55 (by decide), um_eq, a3 55 (by decide), um_eq, p3 55 (by decide)]
        refine ⟨v5, N5, ⟨⟨_, d1⟩, by omega, fun j' o' e => ?_⟩, frw_t (frw_z p2) (frw_t (frw_w (by decide)) (frw_t (frw_z a2) (frw_t (frw_w (by decide)) (frw_z d2)))), ?_, fun F Q z => rc_68 ht h c1 (fun k => by obtain ⟨t, ht', e⟩ := k.2; exact nw t ht' (by omega)) ?_⟩
        · obtain ⟨j1, es, ej⟩ := g_expO e
          have k3' := k3 _ _ es
          have e3 : v3 49 12 = (o'.length : Int) := by rw [es] at a1; exact a1.2.2.2.2.2.2.2.1
          rw [k3', show tk j - 11 = w by omega]
          refine ⟨⟨_, by rw [← e]; exact d1⟩, by rw [f13, List.length_append, List.length_singleton]; omega, by rw [List.length_append, List.length_singleton]; omega, ccl_put h4 n54 (fun t => by omega), ?_, ?_⟩
          · rcases hw with rfl | rfl
            · exact cbw_new nw (by omega) (by rw [n55, us_ne (by decide), us_eq]) (by rw [n55, us_eq, e3])
            · exact cbw_p2 h5 (by rw [n55, us_ne (by decide), us_ne (by decide)]) (by rw [n55, us_ne (by decide), us_ne (by decide)]) (by decide)
          · rcases hw with rfl | rfl
            · exact cbw_p2 h6 (by rw [n55, us_ne (by decide), us_ne (by decide)]) (by rw [n55, us_ne (by decide), us_ne (by decide)]) (by decide)
            · exact cbw_new nw (by omega) (by rw [n55, us_ne (by decide), us_eq]) (by rw [n55, us_eq, e3])
        · exact fry_t (fry_53 p3) (fry_t (fun j _ _ h3 => um_ne h3) (fry_t (fry_53 a3) (fry_t (fun j _ h2 h3 => by rw [b2 j h2, um_ne h3]) (fry_53 d3))))
        · have law : mX2_readLaw 49 (tk j) (kh F v1 N1 T) (fun F1 => mX2_readClause_J115 Q 49 F1) := by
            have g2 : mX2_addClause 49 (tk j) 0 0 (kh F v3 (um N3 55 (us (N3 55) (2 * w + 1) (v3 49 12))) T) (fun F1 => mX2_readClause_J115 Q 49 F1) := by
              refine b4 F _ ?_
              simp (disch := first | omega | decide) only [mX2_readClause_J115, ↓kh_c49, ↓kh_g49_0, ↓kh_g49_1, ↓kh_g49_2, ↓kh_g49_3, ↓kh_g49_4, ↓kh_g49_5, ↓kh_g49_6, ↓kh_p49_6, ↓kh_g49_7, ↓kh_p49_7, ↓kh_g49_8, ↓kh_p49_8, ↓kh_g49_9, ↓kh_p49_9, ↓kh_g49_10, ↓kh_p49_10, ↓kh_g49_11, ↓kh_p49_11, ↓kh_g49_12, ↓kh_p49_12, ↓kh_g49_13, ↓kh_p49_13, ↓kh_g49_14, ↓kh_p49_14, ↓be_y, ↓be_n, ↓bf_y, ↓bf_n, ↓bl_y, ↓bl_n, ↓bm_y, ↓bm_n, ↓bg_y, ↓bg_n, ↓bs_y, ↓bs_n, ↓bo_y, ↓bo_n, ↓bp_y, ↓bp_n, ↓forall_eq, ↓within_y, ↓within_n, ↓isIn_y, ↓isIn_n, and_true, true_and, and_self, us_at, us_ne, w32_id, um_eq, um_ne, um_um, uu_eq, uu_ne, uu_uu, vv_eq, vv_ne, vv_vv, ne_eq, not_false_eq_true, not_true_eq_false, reduceCtorEq, Int.reduceAdd, Int.reduceSub, Int.reduceMul, Int.reduceNeg, Nat.reduceEqDiff, or_true, true_or, true_implies, false_implies, Int.reduceLT, Int.reduceLE, Int.reduceEq]
              exact d4 F Q z
            rcases hw with rfl | rfl
            · have g3 := a4 F (fun F4 => gR F4 (some 49) 2 5 (fun x6 => gI F4 (some 49) 2 12 (fun x7 => sI F4 x6 0 (0 + 1) x7 (fun F8 => rcv F8 (some 49) 2 (fun o10 => mX2_addClause o10 (tk j) 0 0 F8 (fun F9 => mX2_readClause_J115 Q 49 F9)))))) (by
                simp (disch := first | omega | decide) only [w32_id, ↓kh_c49, ↓kh_g49_0, ↓kh_g49_1, ↓kh_g49_2, ↓kh_g49_3, ↓kh_g49_4, ↓kh_g49_5, ↓kh_g49_6, ↓kh_p49_6, ↓kh_g49_7, ↓kh_p49_7, ↓kh_g49_8, ↓kh_p49_8, ↓kh_g49_9, ↓kh_p49_9, ↓kh_g49_10, ↓kh_p49_10, ↓kh_g49_11, ↓kh_p49_11, ↓kh_g49_12, ↓kh_p49_12, ↓kh_g49_13, ↓kh_p49_13, ↓kh_g49_14, ↓kh_p49_14, ↓kh_r55, ↓kh_w55, ↓kh_n55, ↓be_y, ↓be_n, ↓bf_y, ↓bf_n, ↓bl_y, ↓bl_n, ↓bm_y, ↓bm_n, ↓bg_y, ↓bg_n, ↓bs_y, ↓bs_n, ↓bo_y, ↓bo_n, ↓bp_y, ↓bp_n, ↓forall_eq, ↓within_y, ↓within_n, ↓isIn_y, ↓isIn_n, and_true, true_and, and_self, us_at, us_ne, w32_id, um_eq, um_ne, um_um, uu_eq, uu_ne, uu_uu, vv_eq, vv_ne, vv_vv, ne_eq, not_false_eq_true, not_true_eq_false, reduceCtorEq, Int.reduceAdd, Int.reduceSub, Int.reduceMul, Int.reduceNeg, Nat.reduceEqDiff, or_true, true_or, true_implies, false_implies, Int.reduceLT, Int.reduceLE, Int.reduceEq]
                exact g2)
              simp (disch := first | omega | decide) only [mX2_readLaw, mX2_readLaw_J12, mX2_readLaw_J27, mX2_readSum, ↓kh_c49, ↓kh_g49_0, ↓kh_g49_1, ↓kh_g49_2, ↓kh_g49_3, ↓kh_g49_4, ↓kh_g49_5, ↓kh_g49_6, ↓kh_p49_6, ↓kh_g49_7, ↓kh_p49_7, ↓kh_g49_8, ↓kh_p49_8, ↓kh_g49_9, ↓kh_p49_9, ↓kh_g49_10, ↓kh_p49_10, ↓kh_g49_11, ↓kh_p49_11, ↓kh_g49_12, ↓kh_p49_12, ↓kh_g49_13, ↓kh_p49_13, ↓kh_g49_14, ↓kh_p49_14, ↓kh_r55, ↓kh_w55, ↓kh_n55, ↓be_y, ↓be_n, ↓bf_y, ↓bf_n, ↓bl_y, ↓bl_n, ↓bm_y, ↓bm_n, ↓bg_y, ↓bg_n, ↓bs_y, ↓bs_n, ↓bo_y, ↓bo_n, ↓bp_y, ↓bp_n, ↓forall_eq, ↓within_y, ↓within_n, ↓isIn_y, ↓isIn_n, and_true, true_and, and_self, us_at, us_ne, w32_id, um_eq, um_ne, um_um, uu_eq, uu_ne, uu_uu, vv_eq, vv_ne, vv_vv, ne_eq, not_false_eq_true, not_true_eq_false, reduceCtorEq, Int.reduceAdd, Int.reduceSub, Int.reduceMul, Int.reduceNeg, Nat.reduceEqDiff, or_true, true_or, true_implies, false_implies, Int.reduceLT, Int.reduceLE, Int.reduceEq, e12]
              exact g3
            · have g3 := a4 F (fun F4 => gR F4 (some 49) 2 5 (fun x6 => gI F4 (some 49) 2 12 (fun x7 => sI F4 x6 0 (2 + 1) x7 (fun F8 => rcv F8 (some 49) 2 (fun o10 => mX2_addClause o10 (tk j) 0 0 F8 (fun F9 => mX2_readClause_J115 Q 49 F9)))))) (by
                simp (disch := first | omega | decide) only [w32_id, ↓kh_c49, ↓kh_g49_0, ↓kh_g49_1, ↓kh_g49_2, ↓kh_g49_3, ↓kh_g49_4, ↓kh_g49_5, ↓kh_g49_6, ↓kh_p49_6, ↓kh_g49_7, ↓kh_p49_7, ↓kh_g49_8, ↓kh_p49_8, ↓kh_g49_9, ↓kh_p49_9, ↓kh_g49_10, ↓kh_p49_10, ↓kh_g49_11, ↓kh_p49_11, ↓kh_g49_12, ↓kh_p49_12, ↓kh_g49_13, ↓kh_p49_13, ↓kh_g49_14, ↓kh_p49_14, ↓kh_r55, ↓kh_w55, ↓kh_n55, ↓be_y, ↓be_n, ↓bf_y, ↓bf_n, ↓bl_y, ↓bl_n, ↓bm_y, ↓bm_n, ↓bg_y, ↓bg_n, ↓bs_y, ↓bs_n, ↓bo_y, ↓bo_n, ↓bp_y, ↓bp_n, ↓forall_eq, ↓within_y, ↓within_n, ↓isIn_y, ↓isIn_n, and_true, true_and, and_self, us_at, us_ne, w32_id, um_eq, um_ne, um_um, uu_eq, uu_ne, uu_uu, vv_eq, vv_ne, vv_vv, ne_eq, not_false_eq_true, not_true_eq_false, reduceCtorEq, Int.reduceAdd, Int.reduceSub, Int.reduceMul, Int.reduceNeg, Nat.reduceEqDiff, or_true, true_or, true_implies, false_implies, Int.reduceLT, Int.reduceLE, Int.reduceEq]
                exact g2)
              simp (disch := first | omega | decide) only [mX2_readLaw, mX2_readLaw_J12, mX2_readLaw_J27, mX2_readSum, ↓kh_c49, ↓kh_g49_0, ↓kh_g49_1, ↓kh_g49_2, ↓kh_g49_3, ↓kh_g49_4, ↓kh_g49_5, ↓kh_g49_6, ↓kh_p49_6, ↓kh_g49_7, ↓kh_p49_7, ↓kh_g49_8, ↓kh_p49_8, ↓kh_g49_9, ↓kh_p49_9, ↓kh_g49_10, ↓kh_p49_10, ↓kh_g49_11, ↓kh_p49_11, ↓kh_g49_12, ↓kh_p49_12, ↓kh_g49_13, ↓kh_p49_13, ↓kh_g49_14, ↓kh_p49_14, ↓kh_r55, ↓kh_w55, ↓kh_n55, ↓be_y, ↓be_n, ↓bf_y, ↓bf_n, ↓bl_y, ↓bl_n, ↓bm_y, ↓bm_n, ↓bg_y, ↓bg_n, ↓bs_y, ↓bs_n, ↓bo_y, ↓bo_n, ↓bp_y, ↓bp_n, ↓forall_eq, ↓within_y, ↓within_n, ↓isIn_y, ↓isIn_n, and_true, true_and, and_self, us_at, us_ne, w32_id, um_eq, um_ne, um_um, uu_eq, uu_ne, uu_uu, vv_eq, vv_ne, vv_vv, ne_eq, not_false_eq_true, not_true_eq_false, reduceCtorEq, Int.reduceAdd, Int.reduceSub, Int.reduceMul, Int.reduceNeg, Nat.reduceEqDiff, or_true, true_or, true_implies, false_implies, Int.reduceLT, Int.reduceLE, Int.reduceEq, e12]
              exact g3
          simp (disch := first | omega | decide) only [mX2_readClause_J68, ↓kh_c49, ↓kh_g49_0, ↓kh_g49_1, ↓kh_g49_2, ↓kh_g49_3, ↓kh_g49_4, ↓kh_g49_5, ↓kh_g49_6, ↓kh_p49_6, ↓kh_g49_7, ↓kh_p49_7, ↓kh_g49_8, ↓kh_p49_8, ↓kh_g49_9, ↓kh_p49_9, ↓kh_g49_10, ↓kh_p49_10, ↓kh_g49_11, ↓kh_p49_11, ↓kh_g49_12, ↓kh_p49_12, ↓kh_g49_13, ↓kh_p49_13, ↓kh_g49_14, ↓kh_p49_14, ↓be_y, ↓be_n, ↓bf_y, ↓bf_n, ↓bl_y, ↓bl_n, ↓bm_y, ↓bm_n, ↓bg_y, ↓bg_n, ↓bs_y, ↓bs_n, ↓bo_y, ↓bo_n, ↓bp_y, ↓bp_n, ↓forall_eq, ↓within_y, ↓within_n, ↓isIn_y, ↓isIn_n, and_true, true_and, and_self, us_at, us_ne, w32_id, um_eq, um_ne, um_um, uu_eq, uu_ne, uu_uu, vv_eq, vv_ne, vv_vv, ne_eq, not_false_eq_true, not_true_eq_false, reduceCtorEq, Int.reduceAdd, Int.reduceSub, Int.reduceMul, Int.reduceNeg, Nat.reduceEqDiff, or_true, true_or, true_implies, false_implies, Int.reduceLT, Int.reduceLE, Int.reduceEq, h2]
          refine p4 F _ ?_
          rcases k1 with k | k
          · simp (disch := first | omega | decide) only [mX2_readClause_J102, ↓kh_c49, ↓kh_g49_0, ↓kh_g49_1, ↓kh_g49_2, ↓kh_g49_3, ↓kh_g49_4, ↓kh_g49_5, ↓kh_g49_6, ↓kh_p49_6, ↓kh_g49_7, ↓kh_p49_7, ↓kh_g49_8, ↓kh_p49_8, ↓kh_g49_9, ↓kh_p49_9, ↓kh_g49_10, ↓kh_p49_10, ↓kh_g49_11, ↓kh_p49_11, ↓kh_g49_12, ↓kh_p49_12, ↓kh_g49_13, ↓kh_p49_13, ↓kh_g49_14, ↓kh_p49_14, ↓be_y, ↓be_n, ↓bf_y, ↓bf_n, ↓bl_y, ↓bl_n, ↓bm_y, ↓bm_n, ↓bg_y, ↓bg_n, ↓bs_y, ↓bs_n, ↓bo_y, ↓bo_n, ↓bp_y, ↓bp_n, ↓forall_eq, ↓within_y, ↓within_n, ↓isIn_y, ↓isIn_n, and_true, true_and, and_self, us_at, us_ne, w32_id, um_eq, um_ne, um_um, uu_eq, uu_ne, uu_uu, vv_eq, vv_ne, vv_vv, ne_eq, not_false_eq_true, not_true_eq_false, reduceCtorEq, Int.reduceAdd, Int.reduceSub, Int.reduceMul, Int.reduceNeg, Nat.reduceEqDiff, or_true, true_or, true_implies, false_implies, Int.reduceLT, Int.reduceLE, Int.reduceEq]
            exact law
          · simp (disch := first | omega | decide) only [mX2_readClause_J102, ↓kh_c49, ↓kh_g49_0, ↓kh_g49_1, ↓kh_g49_2, ↓kh_g49_3, ↓kh_g49_4, ↓kh_g49_5, ↓kh_g49_6, ↓kh_p49_6, ↓kh_g49_7, ↓kh_p49_7, ↓kh_g49_8, ↓kh_p49_8, ↓kh_g49_9, ↓kh_p49_9, ↓kh_g49_10, ↓kh_p49_10, ↓kh_g49_11, ↓kh_p49_11, ↓kh_g49_12, ↓kh_p49_12, ↓kh_g49_13, ↓kh_p49_13, ↓kh_g49_14, ↓kh_p49_14, ↓be_y, ↓be_n, ↓bf_y, ↓bf_n, ↓bl_y, ↓bl_n, ↓bm_y, ↓bm_n, ↓bg_y, ↓bg_n, ↓bs_y, ↓bs_n, ↓bo_y, ↓bo_n, ↓bp_y, ↓bp_n, ↓forall_eq, ↓within_y, ↓within_n, ↓isIn_y, ↓isIn_n, and_true, true_and, and_self, us_at, us_ne, w32_id, um_eq, um_ne, um_um, uu_eq, uu_ne, uu_uu, vv_eq, vv_ne, vv_vv, ne_eq, not_false_eq_true, not_true_eq_false, reduceCtorEq, Int.reduceAdd, Int.reduceSub, Int.reduceMul, Int.reduceNeg, Nat.reduceEqDiff, or_true, true_or, true_implies, false_implies, Int.reduceLT, Int.reduceLE, Int.reduceEq]
            exact law
      · -- two numbers and a word between
        have go : ∀ (lo hi W lo2 hi2 : Int), plo (tk j) = lo → phi (tk j) = hi → pwd (tk j) = W → plo2 (tk j) = lo2 → phi2 (tk j) = hi2 → (0 ≤ lo ∧ lo ≤ hi ∧ hi ≤ 9999) → (0 ≤ W ∧ W ≤ 28) → (0 ≤ lo2 ∧ lo2 ≤ hi2 ∧ hi2 ≤ 9999) → ∃ (v' : Nat → Nat → Int) (N' : Nat → Int → Int), CF tk plc cn (gexp tk 40 (gnum tk (plo2 (tk j)) (phi2 (tk j)) (gexp tk (pwd (tk j)) (gnum tk (plo (tk j)) (phi (tk j)) (.inl (j + 1, o)))))) (cl ++ [(tk j - 11, tk (j + 1) - 100, tk (j + 3) - 100)]) v' N' ∧ frw v1 v' ∧ fry N1 N' ∧ ∀ (F : hp) (Q : hp → Prop), Q (kh F v' N' T) → mX2_expectNumber 49 lo hi (kh F v1 N1 T) (fun x5 F4 => rcv F4 (some 49) 2 (fun o8 => mX2_expect o8 W F4 (fun F7 => rcv F7 (some 49) 2 (fun o11 => mX2_expectNumber o11 lo2 hi2 F7 (fun x10 F9 => mX2_readDeed_J160 (fun F4 => mX2_readClause_J115 Q 49 F4) 49 (tk j) x5 x10 F9))))) := by
          intro lo hi W lo2 hi2 g1 g2 g3 g4 g5 hb hW hb2
          rw [g1, g2, g3, g4, g5]
          obtain ⟨x, y, v2, N2, a1, a2, a3, a4, a5⟩ := c_pair (T := T) ht hb hW hb2 v1 N1 p1
          obtain ⟨v3, N3, b1, b2, b3, b4⟩ := deed_e (T := T) (sr := tk j - 11) (x := tk j) (a := x) (b := y) (a' := tk (j + 1) - 100) (b' := tk (j + 3) - 100) ht (by unfold cc; rw [if_neg (by omega)]; omega) (by omega) a1 (by rw [a2.2.2.1]; exact q13) c3 (by unfold ccl; rw [a3 54 (by decide)]; exact q4) (by unfold cbw; rw [a3 55 (by decide)]; exact q5) (by unfold cbw; rw [a3 55 (by decide)]; exact q6) (fun j' o' e _ => by
            obtain ⟨i, e1, e2⟩ := g_expO e
            have := a4 _ _ _ _ rfl e1
            exact ⟨this.1, fun _ => this.2⟩)
          exact ⟨v3, N3, b1, frw_t (frw_z a2) b2, fry_t (fry_53 a3) b3, fun F Q z => a5 F _ (b4 F Q z)⟩
        obtain ⟨v3, N3, b1, b2, b3, b4⟩ : ∃ (v' : Nat → Nat → Int) (N' : Nat → Int → Int), CF tk plc cn (gexp tk 40 (gnum tk (plo2 (tk j)) (phi2 (tk j)) (gexp tk (pwd (tk j)) (gnum tk (plo (tk j)) (phi (tk j)) (.inl (j + 1, o)))))) (cl ++ [(tk j - 11, tk (j + 1) - 100, tk (j + 3) - 100)]) v' N' ∧ frw v1 v' ∧ fry N1 N' ∧ ∀ (F : hp) (Q : hp → Prop), Q (kh F v' N' T) → mX2_readDeed 49 (tk j) (kh F v1 N1 T) (fun F4 => mX2_readClause_J115 Q 49 F4) := by
          rcases k1 with k | k | k | k
          · obtain ⟨v', N', a1, a2, a3, a4⟩ := go 0 3 2 1 9 (by rw [k]; rfl) (by rw [k]; rfl) (by rw [k]; rfl) (by rw [k]; rfl) (by rw [k]; rfl) (by omega) (by omega) (by omega)
            refine ⟨v', N', a1, a2, a3, fun F Q z => ?_⟩
            have := a4 F Q z
            rw [k] at this ⊢
            unfold mX2_readDeed
            refine ⟨fun n => absurd n (by decide), fun _ => ?_, fun n => absurd n (by decide), fun n => absurd n (by decide), fun n => absurd n (by decide), fun _ n => absurd (by decide) n⟩
            simp (disch := first | omega | decide) only [w32_id, ↓kh_c49, ↓kh_g49_0, ↓kh_g49_1, ↓kh_g49_2, ↓kh_g49_3, ↓kh_g49_4, ↓kh_g49_5, ↓kh_g49_6, ↓kh_p49_6, ↓kh_g49_7, ↓kh_p49_7, ↓kh_g49_8, ↓kh_p49_8, ↓kh_g49_9, ↓kh_p49_9, ↓kh_g49_10, ↓kh_p49_10, ↓kh_g49_11, ↓kh_p49_11, ↓kh_g49_12, ↓kh_p49_12, ↓kh_g49_13, ↓kh_p49_13, ↓kh_g49_14, ↓kh_p49_14, ↓be_y, ↓be_n, ↓bf_y, ↓bf_n, ↓bl_y, ↓bl_n, ↓bm_y, ↓bm_n, ↓bg_y, ↓bg_n, ↓bs_y, ↓bs_n, ↓bo_y, ↓bo_n, ↓bp_y, ↓bp_n, ↓forall_eq, ↓within_y, ↓within_n, ↓isIn_y, ↓isIn_n, and_true, true_and, and_self, us_at, us_ne, w32_id, um_eq, um_ne, um_um, uu_eq, uu_ne, uu_uu, vv_eq, vv_ne, vv_vv, ne_eq, not_false_eq_true, not_true_eq_false, reduceCtorEq, Int.reduceAdd, Int.reduceSub, Int.reduceMul, Int.reduceNeg, Nat.reduceEqDiff, or_true, true_or, true_implies, false_implies, Int.reduceLT, Int.reduceLE, Int.reduceEq]
            exact this
          · obtain ⟨v', N', a1, a2, a3, a4⟩ := go 0 3 18 0 3 (by rw [k]; rfl) (by rw [k]; rfl) (by rw [k]; rfl) (by rw [k]; rfl) (by rw [k]; rfl) (by omega) (by omega) (by omega)
            refine ⟨v', N', a1, a2, a3, fun F Q z => ?_⟩
            have := a4 F Q z
            rw [k] at this ⊢
            unfold mX2_readDeed
            refine ⟨fun n => absurd n (by decide), fun n => absurd n (by decide), fun _ => ?_, fun n => absurd n (by decide), fun n => absurd n (by decide), fun _ _ n => absurd (by decide) n⟩
            simp (disch := first | omega | decide) only [w32_id, ↓kh_c49, ↓kh_g49_0, ↓kh_g49_1, ↓kh_g49_2, ↓kh_g49_3, ↓kh_g49_4, ↓kh_g49_5, ↓kh_g49_6, ↓kh_p49_6, ↓kh_g49_7, ↓kh_p49_7, ↓kh_g49_8, ↓kh_p49_8, ↓kh_g49_9, ↓kh_p49_9, ↓kh_g49_10, ↓kh_p49_10, ↓kh_g49_11, ↓kh_p49_11, ↓kh_g49_12, ↓kh_p49_12, ↓kh_g49_13, ↓kh_p49_13, ↓kh_g49_14, ↓kh_p49_14, ↓be_y, ↓be_n, ↓bf_y, ↓bf_n, ↓bl_y, ↓bl_n, ↓bm_y, ↓bm_n, ↓bg_y, ↓bg_n, ↓bs_y, ↓bs_n, ↓bo_y, ↓bo_n, ↓bp_y, ↓bp_n, ↓forall_eq, ↓within_y, ↓within_n, ↓isIn_y, ↓isIn_n, and_true, true_and, and_self, us_at, us_ne, w32_id, um_eq, um_ne, um_um, uu_eq, uu_ne, uu_uu, vv_eq, vv_ne, vv_vv, ne_eq, not_false_eq_true, not_true_eq_false, reduceCtorEq, Int.reduceAdd, Int.reduceSub, Int.reduceMul, Int.reduceNeg, Nat.reduceEqDiff, or_true, true_or, true_implies, false_implies, Int.reduceLT, Int.reduceLE, Int.reduceEq]
            exact this
          · obtain ⟨v', N', a1, a2, a3, a4⟩ := go 0 2 7 0 2 (by rw [k]; rfl) (by rw [k]; rfl) (by rw [k]; rfl) (by rw [k]; rfl) (by rw [k]; rfl) (by omega) (by omega) (by omega)
            refine ⟨v', N', a1, a2, a3, fun F Q z => ?_⟩
            have := a4 F Q z
            rw [k] at this ⊢
            unfold mX2_readDeed
            refine ⟨fun n => absurd n (by decide), fun n => absurd n (by decide), fun n => absurd n (by decide), fun _ => ?_, fun n => absurd n (by decide), fun _ _ _ n => absurd (by decide) n⟩
            simp (disch := first | omega | decide) only [w32_id, ↓kh_c49, ↓kh_g49_0, ↓kh_g49_1, ↓kh_g49_2, ↓kh_g49_3, ↓kh_g49_4, ↓kh_g49_5, ↓kh_g49_6, ↓kh_p49_6, ↓kh_g49_7, ↓kh_p49_7, ↓kh_g49_8, ↓kh_p49_8, ↓kh_g49_9, ↓kh_p49_9, ↓kh_g49_10, ↓kh_p49_10, ↓kh_g49_11, ↓kh_p49_11, ↓kh_g49_12, ↓kh_p49_12, ↓kh_g49_13, ↓kh_p49_13, ↓kh_g49_14, ↓kh_p49_14, ↓be_y, ↓be_n, ↓bf_y, ↓bf_n, ↓bl_y, ↓bl_n, ↓bm_y, ↓bm_n, ↓bg_y, ↓bg_n, ↓bs_y, ↓bs_n, ↓bo_y, ↓bo_n, ↓bp_y, ↓bp_n, ↓forall_eq, ↓within_y, ↓within_n, ↓isIn_y, ↓isIn_n, and_true, true_and, and_self, us_at, us_ne, w32_id, um_eq, um_ne, um_um, uu_eq, uu_ne, uu_uu, vv_eq, vv_ne, vv_vv, ne_eq, not_false_eq_true, not_true_eq_false, reduceCtorEq, Int.reduceAdd, Int.reduceSub, Int.reduceMul, Int.reduceNeg, Nat.reduceEqDiff, or_true, true_or, true_implies, false_implies, Int.reduceLT, Int.reduceLE, Int.reduceEq]
            exact this
          · obtain ⟨v', N', a1, a2, a3, a4⟩ := go 1 9 19 0 1 (by rw [k]; rfl) (by rw [k]; rfl) (by rw [k]; rfl) (by rw [k]; rfl) (by rw [k]; rfl) (by omega) (by omega) (by omega)
            refine ⟨v', N', a1, a2, a3, fun F Q z => ?_⟩
            have := a4 F Q z
            rw [k] at this ⊢
            unfold mX2_readDeed
            refine ⟨fun n => absurd n (by decide), fun n => absurd n (by decide), fun n => absurd n (by decide), fun n => absurd n (by decide), fun _ => ?_, fun _ _ _ _ n => absurd (by decide) n⟩
            simp (disch := first | omega | decide) only [w32_id, ↓kh_c49, ↓kh_g49_0, ↓kh_g49_1, ↓kh_g49_2, ↓kh_g49_3, ↓kh_g49_4, ↓kh_g49_5, ↓kh_g49_6, ↓kh_p49_6, ↓kh_g49_7, ↓kh_p49_7, ↓kh_g49_8, ↓kh_p49_8, ↓kh_g49_9, ↓kh_p49_9, ↓kh_g49_10, ↓kh_p49_10, ↓kh_g49_11, ↓kh_p49_11, ↓kh_g49_12, ↓kh_p49_12, ↓kh_g49_13, ↓kh_p49_13, ↓kh_g49_14, ↓kh_p49_14, ↓be_y, ↓be_n, ↓bf_y, ↓bf_n, ↓bl_y, ↓bl_n, ↓bm_y, ↓bm_n, ↓bg_y, ↓bg_n, ↓bs_y, ↓bs_n, ↓bo_y, ↓bo_n, ↓bp_y, ↓bp_n, ↓forall_eq, ↓within_y, ↓within_n, ↓isIn_y, ↓isIn_n, and_true, true_and, and_self, us_at, us_ne, w32_id, um_eq, um_ne, um_um, uu_eq, uu_ne, uu_uu, vv_eq, vv_ne, vv_vv, ne_eq, not_false_eq_true, not_true_eq_false, reduceCtorEq, Int.reduceAdd, Int.reduceSub, Int.reduceMul, Int.reduceNeg, Nat.reduceEqDiff, or_true, true_or, true_implies, false_implies, Int.reduceLT, Int.reduceLE, Int.reduceEq]
            exact this
        refine ⟨v3, N3, b1, frw_t (frw_z p2) b2, fry_t (fry_53 p3) b3, fun F Q z => rc_68 ht h c1 c2 ?_⟩
        clear c2 go
        simp (disch := first | omega | decide) only [mX2_readClause_J68, ↓kh_c49, ↓kh_g49_0, ↓kh_g49_1, ↓kh_g49_2, ↓kh_g49_3, ↓kh_g49_4, ↓kh_g49_5, ↓kh_g49_6, ↓kh_p49_6, ↓kh_g49_7, ↓kh_p49_7, ↓kh_g49_8, ↓kh_p49_8, ↓kh_g49_9, ↓kh_p49_9, ↓kh_g49_10, ↓kh_p49_10, ↓kh_g49_11, ↓kh_p49_11, ↓kh_g49_12, ↓kh_p49_12, ↓kh_g49_13, ↓kh_p49_13, ↓kh_g49_14, ↓kh_p49_14, ↓be_y, ↓be_n, ↓bf_y, ↓bf_n, ↓bl_y, ↓bl_n, ↓bm_y, ↓bm_n, ↓bg_y, ↓bg_n, ↓bs_y, ↓bs_n, ↓bo_y, ↓bo_n, ↓bp_y, ↓bp_n, ↓forall_eq, ↓within_y, ↓within_n, ↓isIn_y, ↓isIn_n, and_true, true_and, and_self, us_at, us_ne, w32_id, um_eq, um_ne, um_um, uu_eq, uu_ne, uu_uu, vv_eq, vv_ne, vv_vv, ne_eq, not_false_eq_true, not_true_eq_false, reduceCtorEq, Int.reduceAdd, Int.reduceSub, Int.reduceMul, Int.reduceNeg, Nat.reduceEqDiff, or_true, true_or, true_implies, false_implies, Int.reduceLT, Int.reduceLE, Int.reduceEq, h2]
        refine p4 F _ ?_
        simp (disch := first | omega | decide) only [w32_id, ↓kh_c49, ↓kh_g49_0, ↓kh_g49_1, ↓kh_g49_2, ↓kh_g49_3, ↓kh_g49_4, ↓kh_g49_5, ↓kh_g49_6, ↓kh_p49_6, ↓kh_g49_7, ↓kh_p49_7, ↓kh_g49_8, ↓kh_p49_8, ↓kh_g49_9, ↓kh_p49_9, ↓kh_g49_10, ↓kh_p49_10, ↓kh_g49_11, ↓kh_p49_11, ↓kh_g49_12, ↓kh_p49_12, ↓kh_g49_13, ↓kh_p49_13, ↓kh_g49_14, ↓kh_p49_14, ↓be_y, ↓be_n, ↓bf_y, ↓bf_n, ↓bl_y, ↓bl_n, ↓bm_y, ↓bm_n, ↓bg_y, ↓bg_n, ↓bs_y, ↓bs_n, ↓bo_y, ↓bo_n, ↓bp_y, ↓bp_n, ↓forall_eq, ↓within_y, ↓within_n, ↓isIn_y, ↓isIn_n, and_true, true_and, and_self, us_at, us_ne, w32_id, um_eq, um_ne, um_um, uu_eq, uu_ne, uu_uu, vv_eq, vv_ne, vv_vv, ne_eq, not_false_eq_true, not_true_eq_false, reduceCtorEq, Int.reduceAdd, Int.reduceSub, Int.reduceMul, Int.reduceNeg, Nat.reduceEqDiff, or_true, true_or, true_implies, false_implies, Int.reduceLT, Int.reduceLE, Int.reduceEq]
        exact b4 F Q z
      · obtain ⟨v3, N3, b1, b2, b3, b4⟩ := deed_e (T := T) (sr := 5) (x := 16) (a := 0) (b := 0) (a' := 0) (b' := 0) ht rfl (by omega) p1 q13 c3 q4 q5 q6 (fun _ _ _ n => absurd rfl n)
        refine ⟨v3, N3, b1, frw_t (frw_z p2) b2, fry_t (fry_53 p3) b3, fun F Q z => rc_68 ht h c1 c2 ?_⟩
        clear c2
        simp (disch := first | omega | decide) only [mX2_readClause_J68, ↓kh_c49, ↓kh_g49_0, ↓kh_g49_1, ↓kh_g49_2, ↓kh_g49_3, ↓kh_g49_4, ↓kh_g49_5, ↓kh_g49_6, ↓kh_p49_6, ↓kh_g49_7, ↓kh_p49_7, ↓kh_g49_8, ↓kh_p49_8, ↓kh_g49_9, ↓kh_p49_9, ↓kh_g49_10, ↓kh_p49_10, ↓kh_g49_11, ↓kh_p49_11, ↓kh_g49_12, ↓kh_p49_12, ↓kh_g49_13, ↓kh_p49_13, ↓kh_g49_14, ↓kh_p49_14, ↓be_y, ↓be_n, ↓bf_y, ↓bf_n, ↓bl_y, ↓bl_n, ↓bm_y, ↓bm_n, ↓bg_y, ↓bg_n, ↓bs_y, ↓bs_n, ↓bo_y, ↓bo_n, ↓bp_y, ↓bp_n, ↓forall_eq, ↓within_y, ↓within_n, ↓isIn_y, ↓isIn_n, and_true, true_and, and_self, us_at, us_ne, w32_id, um_eq, um_ne, um_um, uu_eq, uu_ne, uu_uu, vv_eq, vv_ne, vv_vv, ne_eq, not_false_eq_true, not_true_eq_false, reduceCtorEq, Int.reduceAdd, Int.reduceSub, Int.reduceMul, Int.reduceNeg, Nat.reduceEqDiff, or_true, true_or, true_implies, false_implies, Int.reduceLT, Int.reduceLE, Int.reduceEq, h2]
        refine p4 F _ ?_
        have g := b4 F Q z
        rw [k1]
        simp (disch := first | omega | decide) only [w32_id, ↓kh_c49, ↓kh_g49_0, ↓kh_g49_1, ↓kh_g49_2, ↓kh_g49_3, ↓kh_g49_4, ↓kh_g49_5, ↓kh_g49_6, ↓kh_p49_6, ↓kh_g49_7, ↓kh_p49_7, ↓kh_g49_8, ↓kh_p49_8, ↓kh_g49_9, ↓kh_p49_9, ↓kh_g49_10, ↓kh_p49_10, ↓kh_g49_11, ↓kh_p49_11, ↓kh_g49_12, ↓kh_p49_12, ↓kh_g49_13, ↓kh_p49_13, ↓kh_g49_14, ↓kh_p49_14, ↓be_y, ↓be_n, ↓bf_y, ↓bf_n, ↓bl_y, ↓bl_n, ↓bm_y, ↓bm_n, ↓bg_y, ↓bg_n, ↓bs_y, ↓bs_n, ↓bo_y, ↓bo_n, ↓bp_y, ↓bp_n, ↓forall_eq, ↓within_y, ↓within_n, ↓isIn_y, ↓isIn_n, and_true, true_and, and_self, us_at, us_ne, w32_id, um_eq, um_ne, um_um, uu_eq, uu_ne, uu_uu, vv_eq, vv_ne, vv_vv, ne_eq, not_false_eq_true, not_true_eq_false, reduceCtorEq, Int.reduceAdd, Int.reduceSub, Int.reduceMul, Int.reduceNeg, Nat.reduceEqDiff, or_true, true_or, true_implies, false_implies, Int.reduceLT, Int.reduceLE, Int.reduceEq]
        unfold mX2_readDeed
        exact ⟨fun n => absurd n (by decide), fun n => absurd n (by decide), fun n => absurd n (by decide), fun n => absurd n (by decide), fun n => absurd n (by decide), fun _ _ _ _ _ => g⟩
      · obtain ⟨x, v2, N2, a1, a2, a3, a4, a5⟩ := c_gnum (T := T) ht (lo := 1) (hi := 60) (by omega) v1 N1 p1
        obtain ⟨v3, N3, b1, b2, b3, b4⟩ := deed_e (T := T) (sr := 7) (x := 0) (a := x) (b := 0) (a' := tk (j + 1) - 100) (b' := 0) ht rfl (by omega) a1 (by rw [a2.2.2.1]; exact q13) c3 (by unfold ccl; rw [a3 54 (by decide)]; exact q4) (by unfold cbw; rw [a3 55 (by decide)]; exact q5) (by unfold cbw; rw [a3 55 (by decide)]; exact q6) (fun j' o' e _ => by
          obtain ⟨i, e1, e2⟩ := g_expO e
          exact ⟨(a4 _ _ e1).1, fun n => absurd rfl n⟩)
        refine ⟨v3, N3, b1, frw_t (frw_z p2) (frw_t (frw_z a2) b2), fry_t (fry_53 p3) (fry_t (fry_53 a3) b3), fun F Q z => rc_68 ht h c1 c2 ?_⟩
        clear c2
        simp (disch := first | omega | decide) only [mX2_readClause_J68, ↓kh_c49, ↓kh_g49_0, ↓kh_g49_1, ↓kh_g49_2, ↓kh_g49_3, ↓kh_g49_4, ↓kh_g49_5, ↓kh_g49_6, ↓kh_p49_6, ↓kh_g49_7, ↓kh_p49_7, ↓kh_g49_8, ↓kh_p49_8, ↓kh_g49_9, ↓kh_p49_9, ↓kh_g49_10, ↓kh_p49_10, ↓kh_g49_11, ↓kh_p49_11, ↓kh_g49_12, ↓kh_p49_12, ↓kh_g49_13, ↓kh_p49_13, ↓kh_g49_14, ↓kh_p49_14, ↓be_y, ↓be_n, ↓bf_y, ↓bf_n, ↓bl_y, ↓bl_n, ↓bm_y, ↓bm_n, ↓bg_y, ↓bg_n, ↓bs_y, ↓bs_n, ↓bo_y, ↓bo_n, ↓bp_y, ↓bp_n, ↓forall_eq, ↓within_y, ↓within_n, ↓isIn_y, ↓isIn_n, and_true, true_and, and_self, us_at, us_ne, w32_id, um_eq, um_ne, um_um, uu_eq, uu_ne, uu_uu, vv_eq, vv_ne, vv_vv, ne_eq, not_false_eq_true, not_true_eq_false, reduceCtorEq, Int.reduceAdd, Int.reduceSub, Int.reduceMul, Int.reduceNeg, Nat.reduceEqDiff, or_true, true_or, true_implies, false_implies, Int.reduceLT, Int.reduceLE, Int.reduceEq, h2]
        refine p4 F _ ?_
        have g := b4 F Q z
        rw [k1]
        simp (disch := first | omega | decide) only [w32_id, ↓kh_c49, ↓kh_g49_0, ↓kh_g49_1, ↓kh_g49_2, ↓kh_g49_3, ↓kh_g49_4, ↓kh_g49_5, ↓kh_g49_6, ↓kh_p49_6, ↓kh_g49_7, ↓kh_p49_7, ↓kh_g49_8, ↓kh_p49_8, ↓kh_g49_9, ↓kh_p49_9, ↓kh_g49_10, ↓kh_p49_10, ↓kh_g49_11, ↓kh_p49_11, ↓kh_g49_12, ↓kh_p49_12, ↓kh_g49_13, ↓kh_p49_13, ↓kh_g49_14, ↓kh_p49_14, ↓be_y, ↓be_n, ↓bf_y, ↓bf_n, ↓bl_y, ↓bl_n, ↓bm_y, ↓bm_n, ↓bg_y, ↓bg_n, ↓bs_y, ↓bs_n, ↓bo_y, ↓bo_n, ↓bp_y, ↓bp_n, ↓forall_eq, ↓within_y, ↓within_n, ↓isIn_y, ↓isIn_n, and_true, true_and, and_self, us_at, us_ne, w32_id, um_eq, um_ne, um_um, uu_eq, uu_ne, uu_uu, vv_eq, vv_ne, vv_vv, ne_eq, not_false_eq_true, not_true_eq_false, reduceCtorEq, Int.reduceAdd, Int.reduceSub, Int.reduceMul, Int.reduceNeg, Nat.reduceEqDiff, or_true, true_or, true_implies, false_implies, Int.reduceLT, Int.reduceLE, Int.reduceEq]
        unfold mX2_readDeed
        refine ⟨fun _ => ?_, fun n => absurd n (by decide), fun n => absurd n (by decide), fun n => absurd n (by decide), fun n => absurd n (by decide), fun n => absurd (by decide) n⟩
        simp (disch := first | omega | decide) only [w32_id, ↓kh_c49, ↓kh_g49_0, ↓kh_g49_1, ↓kh_g49_2, ↓kh_g49_3, ↓kh_g49_4, ↓kh_g49_5, ↓kh_g49_6, ↓kh_p49_6, ↓kh_g49_7, ↓kh_p49_7, ↓kh_g49_8, ↓kh_p49_8, ↓kh_g49_9, ↓kh_p49_9, ↓kh_g49_10, ↓kh_p49_10, ↓kh_g49_11, ↓kh_p49_11, ↓kh_g49_12, ↓kh_p49_12, ↓kh_g49_13, ↓kh_p49_13, ↓kh_g49_14, ↓kh_p49_14, ↓be_y, ↓be_n, ↓bf_y, ↓bf_n, ↓bl_y, ↓bl_n, ↓bm_y, ↓bm_n, ↓bg_y, ↓bg_n, ↓bs_y, ↓bs_n, ↓bo_y, ↓bo_n, ↓bp_y, ↓bp_n, ↓forall_eq, ↓within_y, ↓within_n, ↓isIn_y, ↓isIn_n, and_true, true_and, and_self, us_at, us_ne, w32_id, um_eq, um_ne, um_um, uu_eq, uu_ne, uu_uu, vv_eq, vv_ne, vv_vv, ne_eq, not_false_eq_true, not_true_eq_false, reduceCtorEq, Int.reduceAdd, Int.reduceSub, Int.reduceMul, Int.reduceNeg, Nat.reduceEqDiff, or_true, true_or, true_implies, false_implies, Int.reduceLT, Int.reduceLE, Int.reduceEq]
        exact a5 F _ g
end CS
