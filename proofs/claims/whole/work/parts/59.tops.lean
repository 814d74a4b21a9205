-- ===== the uppermost cars of a stand, as the class finds them =====
abbrev std := List Int × List Int × List Int
def top (s : std) (t : Int) : Int := (sg s t).getD 0 (5 + t)
section TP
variable {n P : Int} {s : std} {v : Nat → Nat → Int} {N : Nat → Int → Int} {T : Nat → Int → Option Nat}
theorem sg_dis (hn : (sts s).Nodup) {t t' c : Int} (ht : 0 ≤ t ∧ t < 3) (ht' : 0 ≤ t' ∧ t' < 3) (h : c ∈ sg s t) (h' : c ∈ sg s t') : t = t' := by
  unfold sts at hn
  obtain ⟨h1, -, h5⟩ := List.nodup_append.1 hn
  obtain ⟨-, -, h6⟩ := List.nodup_append.1 h1
  obtain rfl | rfl | rfl : t = 0 ∨ t = 1 ∨ t = 2 := by omega
  · obtain rfl | rfl | rfl : t' = 0 ∨ t' = 1 ∨ t' = 2 := by omega
    · rfl
    · exact absurd rfl (h6 c h c h')
    · exact absurd rfl (h5 c (List.mem_append_left _ h) c h')
  · obtain rfl | rfl | rfl : t' = 0 ∨ t' = 1 ∨ t' = 2 := by omega
    · exact absurd rfl (h6 c h' c h)
    · rfl
    · exact absurd rfl (h5 c (List.mem_append_right _ h) c h')
  · obtain rfl | rfl | rfl : t' = 0 ∨ t' = 1 ∨ t' = 2 := by omega
    · exact absurd rfl (h5 c (List.mem_append_left _ h') c h)
    · exact absurd rfl (h5 c (List.mem_append_right _ h') c h)
    · rfl
theorem nd_inj {l : List Int} (hn : l.Nodup) {i j : Nat} (hi : i < l.length) (hj : j < l.length) (e : l[i] = l[j]) : i = j := by
  have h := List.pairwise_iff_getElem.1 hn
  by_cases d : i < j
  · exact absurd e (h i j hi hj d)
  · by_cases d2 : j < i
    · exact absurd e.symm (h j i hj hi d2)
    · omega
-- below it lies the i-th, then it is the one before
theorem bel_to (h : svl n s) (hn : n ≤ 5) {t e : Int} (ht : 0 ≤ t ∧ t < 3) (he : 0 ≤ e ∧ e < n) (i : Nat) (hi : i ≤ (sg s t).length) (q : bel s e = (sg s t).getD i (5 + t)) : ∃ hj : i - 1 < (sg s t).length, 0 < i ∧ e = (sg s t)[i - 1] := by
  obtain ⟨t', ht', j, hj, rfl⟩ := sts_at ((svl_m h).2 he)
  have nd := svl_n h
  rw [bel_at nd ht' hj] at q
  by_cases d1 : j + 1 < (sg s t').length
  · rw [gd_in d1] at q
    have m1 := (svl_m h).1 (sg_mem ht' (List.getElem_mem d1))
    by_cases d2 : i < (sg s t).length
    · rw [gd_in d2] at q
      obtain rfl : t = t' := sg_dis nd ht ht' (List.getElem_mem d2) (by rw [← q]; exact List.getElem_mem d1)
      obtain rfl : j + 1 = i := nd_inj (sg_nd nd ht) d1 d2 q
      exact ⟨hj, by omega, rfl⟩
    · rw [gd_out (by omega)] at q
      omega
  · rw [gd_out (by omega)] at q
    by_cases d2 : i < (sg s t).length
    · rw [gd_in d2] at q
      have m1 := (svl_m h).1 (sg_mem ht (List.getElem_mem d2))
      omega
    · rw [gd_out (by omega)] at q
      obtain rfl : t = t' := by omega
      obtain rfl : j + 1 = i := by omega
      exact ⟨hj, by omega, rfl⟩
def upr (s : std) (c : Int) (U : Int → Int) : Prop := (∀ e, 0 ≤ e → e < c → U (bel s e) = e) ∧ ∀ i, 0 ≤ i → i < 8 → (∀ e, 0 ≤ e → e < c → bel s e ≠ i) → U i = -1
theorem bel_inj (h : svl n s) (hn : n ≤ 5) {e e' : Int} (he : 0 ≤ e ∧ e < n) (he' : 0 ≤ e' ∧ e' < n) (q : bel s e = bel s e') : e = e' := by
  obtain ⟨t', ht', j, hj, rfl⟩ := sts_at ((svl_m h).2 he')
  rw [bel_at (svl_n h) ht' hj] at q
  obtain ⟨hj2, -, r⟩ := bel_to h hn ht' he (j + 1) (by omega) q
  rw [r]
  congr 1
theorem fill_60 {x : Int} (hx : -2147483648 ≤ x ∧ x ≤ 2147483647) : ∀ (k : Nat) (i : Int) (U : Int → Int), i + k = 8 → 0 ≤ i → (∀ j, 0 ≤ j → j < i → U j = x) → ∃ U', (∀ j, 0 ≤ j → j < 8 → U' j = x) ∧ ∀ (F : hp) (Q : hp → Prop), Q (kh F v (um N 60 U') T) → mJ7_fill_53178_L5 Q (k + 1) (some 60) x i 8 (kh F v (um N 60 U) T) := by
  intro k
  induction k with
  | zero =>
    intro i U hi h0 hU
    refine ⟨U, fun j j0 j1 => hU j j0 (by omega), fun F Q q => ?_⟩
    rw [mJ7_fill_53178_L5]
    simp (disch := first | omega | decide) only [w32_id, ↓kh_r60, ↓kh_w60, ↓kh_n60, ↓be_y, ↓be_n, ↓bf_y, ↓bf_n, ↓bl_y, ↓bl_n, ↓bm_y, ↓bm_n, ↓bg_y, ↓bg_n, ↓bs_y, ↓bs_n, ↓bo_y, ↓bo_n, ↓bp_y, ↓bp_n, ↓forall_eq, ↓within_y, ↓within_n, ↓isIn_y, ↓isIn_n, and_true, true_and, and_self, us_at, us_ne, w32_id, um_eq, um_ne, um_um, uu_eq, uu_ne, uu_uu, vv_eq, vv_ne, vv_vv, ne_eq, not_false_eq_true, not_true_eq_false, reduceCtorEq, Int.reduceAdd, Int.reduceSub, Int.reduceMul, Int.reduceNeg, Nat.reduceEqDiff, or_true, true_or, true_implies, false_implies, Int.reduceLT, Int.reduceLE, Int.reduceEq]
    exact q
  | succ k ih =>
    intro i U hi h0 hU
    obtain ⟨U', a1, a2⟩ := ih (i + 1) (us U i x) (by omega) (by omega) (fun j j0 j1 => by
      by_cases d : j = i
      · rw [d, us_eq]
      · rw [us_ne d]; exact hU j j0 (by omega))
    refine ⟨U', a1, fun F Q q => ?_⟩
    rw [mJ7_fill_53178_L5]
    simp (disch := first | omega | decide) only [w32_id, ↓kh_r60, ↓kh_w60, ↓kh_n60, ↓be_y, ↓be_n, ↓bf_y, ↓bf_n, ↓bl_y, ↓bl_n, ↓bm_y, ↓bm_n, ↓bg_y, ↓bg_n, ↓bs_y, ↓bs_n, ↓bo_y, ↓bo_n, ↓bp_y, ↓bp_n, ↓forall_eq, ↓within_y, ↓within_n, ↓isIn_y, ↓isIn_n, and_true, true_and, and_self, us_at, us_ne, w32_id, um_eq, um_ne, um_um, uu_eq, uu_ne, uu_uu, vv_eq, vv_ne, vv_vv, ne_eq, not_false_eq_true, not_true_eq_false, reduceCtorEq, Int.reduceAdd, Int.reduceSub, Int.reduceMul, Int.reduceNeg, Nat.reduceEqDiff, or_true, true_or, true_implies, false_implies, Int.reduceLT, Int.reduceLE, Int.reduceEq]
    exact a2 F Q q
theorem ft10 (h : svl n s) (hn : n ≤ 5) : ∀ (k : Nat) (c : Int) (U : Int → Int), c + k = n → 0 ≤ c → upr s c U → ∃ U', upr s n U' ∧ ∀ (F : hp) (Q : hp → Prop), (∃ k5, mX4_findTops_L34 Q k5 56 n 0 (kh F v (um N 60 U') T)) → mX4_findTops_L10 Q (k + 1) 56 (enc s) n c (kh F v (um N 60 U) T) := by
  intro k
  induction k with
  | zero =>
    intro c U hc h0 hU
    obtain rfl : c = n := by omega
    refine ⟨U, hU, fun F Q q => ?_⟩
    rw [mX4_findTops_L10]
    simp (disch := first | omega | decide) only [w32_id, ↓kh_c56, ↓kh_g56_0, ↓kh_g56_1, ↓kh_g56_2, ↓kh_g56_3, ↓kh_g56_4, ↓kh_g56_5, ↓kh_p56_5, ↓kh_g56_6, ↓kh_p56_6, ↓kh_g56_7, ↓kh_p56_7, ↓kh_r60, ↓kh_w60, ↓kh_n60, ↓be_y, ↓be_n, ↓bf_y, ↓bf_n, ↓bl_y, ↓bl_n, ↓bm_y, ↓bm_n, ↓bg_y, ↓bg_n, ↓bs_y, ↓bs_n, ↓bo_y, ↓bo_n, ↓bp_y, ↓bp_n, ↓forall_eq, ↓within_y, ↓within_n, ↓isIn_y, ↓isIn_n, and_true, true_and, and_self, us_at, us_ne, w32_id, um_eq, um_ne, um_um, uu_eq, uu_ne, uu_uu, vv_eq, vv_ne, vv_vv, ne_eq, not_false_eq_true, not_true_eq_false, reduceCtorEq, Int.reduceAdd, Int.reduceSub, Int.reduceMul, Int.reduceNeg, Nat.reduceEqDiff, or_true, true_or, true_implies, false_implies, Int.reduceLT, Int.reduceLE, Int.reduceEq]
    exact q
  | succ k ih =>
    intro c U hc h0 hU
    have b := bel_b (c := c) h hn
    have ed := enc_d h hn (c := c) (by omega)
    obtain ⟨U', a1, a2⟩ := ih (c + 1) (us U (bel s c) c) (by omega) (by omega) ⟨fun e e0 e1 => by
      by_cases d : e = c
      · rw [d, us_eq]
      · rw [us_ne (fun q => d (bel_inj h hn (by omega) (by omega) q))]
        exact hU.1 e e0 (by omega), fun i i0 i1 i2 => by
      rw [us_ne (fun q => i2 c h0 (by omega) q.symm)]
      exact hU.2 i i0 i1 (fun e e0 e1 => i2 e e0 (by omega))⟩
    refine ⟨U', a1, fun F Q q => ?_⟩
    rw [mX4_findTops_L10]
    simp (disch := first | omega | decide) only [mX4_belowOf, ↓kh_c56, ↓kh_g56_0, ↓kh_g56_1, ↓kh_g56_2, ↓kh_g56_3, ↓kh_g56_4, ↓kh_g56_5, ↓kh_p56_5, ↓kh_g56_6, ↓kh_p56_6, ↓kh_g56_7, ↓kh_p56_7, ↓kh_r60, ↓kh_w60, ↓kh_n60, ↓be_y, ↓be_n, ↓bf_y, ↓bf_n, ↓bl_y, ↓bl_n, ↓bm_y, ↓bm_n, ↓bg_y, ↓bg_n, ↓bs_y, ↓bs_n, ↓bo_y, ↓bo_n, ↓bp_y, ↓bp_n, ↓forall_eq, ↓within_y, ↓within_n, ↓isIn_y, ↓isIn_n, and_true, true_and, and_self, us_at, us_ne, w32_id, um_eq, um_ne, um_um, uu_eq, uu_ne, uu_uu, vv_eq, vv_ne, vv_vv, ne_eq, not_false_eq_true, not_true_eq_false, reduceCtorEq, Int.reduceAdd, Int.reduceSub, Int.reduceMul, Int.reduceNeg, Nat.reduceEqDiff, or_true, true_or, true_implies, false_implies, Int.reduceLT, Int.reduceLE, Int.reduceEq, ed]
    exact a2 F Q q
theorem sg_len (h : svl n s) (hn : 0 ≤ n) {t : Int} (ht : 0 ≤ t ∧ t < 3) : ((sg s t).length : Int) ≤ n := by
  have e := h.length_eq
  unfold ran sts at e
  simp only [List.length_append, List.length_map, List.length_range] at e
  obtain rfl | rfl | rfl : t = 0 ∨ t = 1 ∨ t = 2 := by omega
  · show ((s.1.length : Nat) : Int) ≤ n
    omega
  · show ((s.2.1.length : Nat) : Int) ≤ n
    omega
  · show ((s.2.2.length : Nat) : Int) ≤ n
    omega
theorem gd_b (h : svl n s) (hn : n ≤ 5) {t : Int} (ht : 0 ≤ t ∧ t < 3) (i : Nat) : 0 ≤ (sg s t).getD i (5 + t) ∧ (sg s t).getD i (5 + t) ≤ 7 := by
  by_cases d : i < (sg s t).length
  · rw [gd_in d]
    have := (svl_m h).1 (sg_mem ht (List.getElem_mem d))
    omega
  · rw [gd_out (by omega)]; omega
theorem ft47 (h : svl n s) (hn : 0 ≤ n ∧ n ≤ 5) {t : Int} (ht : 0 ≤ t ∧ t < 3) {U : Int → Int} (hU : upr s n U) (eU : N 60 = U) {F : hp} {X : Nat → Int → Int → hp → Prop} {Q : hp → Prop} (q : mX4_findTops_J79 X Q 56 n t (top s t) (kh F v N T)) : ∀ (j : Nat), j ≤ (sg s t).length → mX4_findTops_L47 X Q (j + 1) 56 n t ((sg s t).getD j (5 + t)) ((sg s t).length - j) (kh F v N T) := by
  have ln := sg_len h hn.1 ht
  intro j
  induction j with
  | zero =>
    intro hj
    have b := gd_b h hn.2 ht 0
    rw [mX4_findTops_L47]
    by_cases d : ((sg s t).length : Int) < n
    · have z : N 60 ((sg s t).getD 0 (5 + t)) = -1 := by
        rw [eU]
        refine hU.2 _ b.1 (by omega) (fun e e0 e1 q => ?_)
        obtain ⟨-, z, -⟩ := bel_to h hn.2 ht ⟨e0, e1⟩ 0 (by omega) q
        omega
      simp (disch := first | omega | decide) only [w32_id, ↓kh_c56, ↓kh_g56_0, ↓kh_g56_1, ↓kh_g56_2, ↓kh_g56_3, ↓kh_g56_4, ↓kh_g56_5, ↓kh_p56_5, ↓kh_g56_6, ↓kh_p56_6, ↓kh_g56_7, ↓kh_p56_7, ↓kh_r60, ↓kh_w60, ↓kh_n60, ↓be_y, ↓be_n, ↓bf_y, ↓bf_n, ↓bl_y, ↓bl_n, ↓bm_y, ↓bm_n, ↓bg_y, ↓bg_n, ↓bs_y, ↓bs_n, ↓bo_y, ↓bo_n, ↓bp_y, ↓bp_n, ↓forall_eq, ↓within_y, ↓within_n, ↓isIn_y, ↓isIn_n, and_true, true_and, and_self, us_at, us_ne, w32_id, um_eq, um_ne, um_um, uu_eq, uu_ne, uu_uu, vv_eq, vv_ne, vv_vv, ne_eq, not_false_eq_true, not_true_eq_false, reduceCtorEq, Int.reduceAdd, Int.reduceSub, Int.reduceMul, Int.reduceNeg, Nat.reduceEqDiff, or_true, true_or, true_implies, false_implies, Int.reduceLT, Int.reduceLE, Int.reduceEq, z]
      exact q
    · simp (disch := first | omega | decide) only [w32_id, ↓kh_c56, ↓kh_g56_0, ↓kh_g56_1, ↓kh_g56_2, ↓kh_g56_3, ↓kh_g56_4, ↓kh_g56_5, ↓kh_p56_5, ↓kh_g56_6, ↓kh_p56_6, ↓kh_g56_7, ↓kh_p56_7, ↓kh_r60, ↓kh_w60, ↓kh_n60, ↓be_y, ↓be_n, ↓bf_y, ↓bf_n, ↓bl_y, ↓bl_n, ↓bm_y, ↓bm_n, ↓bg_y, ↓bg_n, ↓bs_y, ↓bs_n, ↓bo_y, ↓bo_n, ↓bp_y, ↓bp_n, ↓forall_eq, ↓within_y, ↓within_n, ↓isIn_y, ↓isIn_n, and_true, true_and, and_self, us_at, us_ne, w32_id, um_eq, um_ne, um_um, uu_eq, uu_ne, uu_uu, vv_eq, vv_ne, vv_vv, ne_eq, not_false_eq_true, not_true_eq_false, reduceCtorEq, Int.reduceAdd, Int.reduceSub, Int.reduceMul, Int.reduceNeg, Nat.reduceEqDiff, or_true, true_or, true_implies, false_implies, Int.reduceLT, Int.reduceLE, Int.reduceEq]
      exact q
  | succ j ih =>
    intro hj
    have b := gd_b h hn.2 ht (j + 1)
    have z : N 60 ((sg s t).getD (j + 1) (5 + t)) = (sg s t).getD j (5 + t) := by
      have m := (svl_m h).1 (sg_mem ht (List.getElem_mem (show j < (sg s t).length by omega)))
      rw [eU, ← bel_at (svl_n h) ht (show j < (sg s t).length by omega), hU.1 _ m.1 m.2, gd_in]
    have m2 : 0 ≤ (sg s t).getD j (5 + t) := (gd_b h hn.2 ht j).1
    have m3 := (gd_b h hn.2 ht j).2
    have i1 := ih (by omega)
    have e : ((sg s t).length : Int) - ((j + 1 : Nat) : Int) + 1 = ((sg s t).length : Int) - (j : Int) := by omega
    rw [mX4_findTops_L47]
    simp (disch := first | omega | decide) only [w32_id, ↓kh_c56, ↓kh_g56_0, ↓kh_g56_1, ↓kh_g56_2, ↓kh_g56_3, ↓kh_g56_4, ↓kh_g56_5, ↓kh_p56_5, ↓kh_g56_6, ↓kh_p56_6, ↓kh_g56_7, ↓kh_p56_7, ↓kh_r60, ↓kh_w60, ↓kh_n60, ↓be_y, ↓be_n, ↓bf_y, ↓bf_n, ↓bl_y, ↓bl_n, ↓bm_y, ↓bm_n, ↓bg_y, ↓bg_n, ↓bs_y, ↓bs_n, ↓bo_y, ↓bo_n, ↓bp_y, ↓bp_n, ↓forall_eq, ↓within_y, ↓within_n, ↓isIn_y, ↓isIn_n, and_true, true_and, and_self, us_at, us_ne, w32_id, um_eq, um_ne, um_um, uu_eq, uu_ne, uu_uu, vv_eq, vv_ne, vv_vv, ne_eq, not_false_eq_true, not_true_eq_false, reduceCtorEq, Int.reduceAdd, Int.reduceSub, Int.reduceMul, Int.reduceNeg, Nat.reduceEqDiff, or_true, true_or, true_implies, false_implies, Int.reduceLT, Int.reduceLE, Int.reduceEq, z]
    rw [e]
    exact i1
theorem ft47e (h : svl n s) (hn : 0 ≤ n ∧ n ≤ 5) {t x : Int} (ht : 0 ≤ t ∧ t < 3) (hx : x = 5 + t) {U : Int → Int} (hU : upr s n U) (eU : N 60 = U) {F : hp} {X : Nat → Int → Int → hp → Prop} {Q : hp → Prop} (q : mX4_findTops_J79 X Q 56 n t (top s t) (kh F v N T)) : ∃ k, mX4_findTops_L47 X Q k 56 n t x 0 (kh F v N T) := by
  have g := ft47 h hn ht hU eU q _ (Nat.le_refl _)
  rw [gd_out (Nat.le_refl _), Int.sub_self] at g
  exact ⟨_, by rw [hx]; exact g⟩
theorem tops_c (h : svl n s) (hn : 0 ≤ n ∧ n ≤ 5) : ∃ U W, (∀ t, 0 ≤ t → t < 3 → W t = top s t) ∧ ∀ (F : hp) (Q : hp → Prop), Q (kh F v (um (um N 60 U) 61 W) T) → mX4_findTops 56 (enc s) n (kh F v N T) Q := by
  obtain ⟨U0, a1, a2⟩ := fill_60 (v := v) (N := N) (T := T) (x := -1) (by omega) 8 0 (N 60) (by omega) (by omega) (fun j j0 j1 => by omega)
  obtain ⟨U, b1, b2⟩ := ft10 (v := v) (N := N) (T := T) h hn.2 n.toNat 0 U0 (by omega) (by omega) ⟨fun e e0 e1 => by omega, fun i i0 i1 _ => a1 i i0 i1⟩
  refine ⟨U, us (us (us (N 61) 0 (top s 0)) 1 (top s 1)) 2 (top s 2), fun t t0 t1 => ?_, fun F Q q => ?_⟩
  · obtain rfl | rfl | rfl : t = 0 ∨ t = 1 ∨ t = 2 := by omega
    all_goals simp (disch := omega) only [us_at, us_ne]
  · unfold mX4_findTops
    rw [kh_g56_3]
    unfold mJ7_fill_53178
    rw [kh_n60]
    refine ⟨9, ?_⟩
    have := a2 F (fun F2 => ∃ k3, mX4_findTops_L10 Q k3 56 (enc s) n 0 F2) ⟨_, b2 F Q ⟨4, ?_⟩⟩
    · rw [um_self] at this
      exact this
    · rw [mX4_findTops_L34]
      simp (disch := first | omega | decide) only [w32_id, ↓kh_c56, ↓kh_g56_0, ↓kh_g56_1, ↓kh_g56_2, ↓kh_g56_3, ↓kh_g56_4, ↓kh_g56_5, ↓kh_p56_5, ↓kh_g56_6, ↓kh_p56_6, ↓kh_g56_7, ↓kh_p56_7, ↓be_y, ↓be_n, ↓bf_y, ↓bf_n, ↓bl_y, ↓bl_n, ↓bm_y, ↓bm_n, ↓bg_y, ↓bg_n, ↓bs_y, ↓bs_n, ↓bo_y, ↓bo_n, ↓bp_y, ↓bp_n, ↓forall_eq, ↓within_y, ↓within_n, ↓isIn_y, ↓isIn_n, and_true, true_and, and_self, us_at, us_ne, w32_id, um_eq, um_ne, um_um, uu_eq, uu_ne, uu_uu, vv_eq, vv_ne, vv_vv, ne_eq, not_false_eq_true, not_true_eq_false, reduceCtorEq, Int.reduceAdd, Int.reduceSub, Int.reduceMul, Int.reduceNeg, Nat.reduceEqDiff, or_true, true_or, true_implies, false_implies, Int.reduceLT, Int.reduceLE, Int.reduceEq]
      refine ft47e (N := um N 60 U) h hn (t := 0) (by omega) (by omega) b1 rfl ?_
      simp (disch := first | omega | decide) only [mX4_findTops_J79, ↓kh_c56, ↓kh_g56_0, ↓kh_g56_1, ↓kh_g56_2, ↓kh_g56_3, ↓kh_g56_4, ↓kh_g56_5, ↓kh_p56_5, ↓kh_g56_6, ↓kh_p56_6, ↓kh_g56_7, ↓kh_p56_7, ↓kh_r61, ↓kh_w61, ↓kh_n61, ↓be_y, ↓be_n, ↓bf_y, ↓bf_n, ↓bl_y, ↓bl_n, ↓bm_y, ↓bm_n, ↓bg_y, ↓bg_n, ↓bs_y, ↓bs_n, ↓bo_y, ↓bo_n, ↓bp_y, ↓bp_n, ↓forall_eq, ↓within_y, ↓within_n, ↓isIn_y, ↓isIn_n, and_true, true_and, and_self, us_at, us_ne, w32_id, um_eq, um_ne, um_um, uu_eq, uu_ne, uu_uu, vv_eq, vv_ne, vv_vv, ne_eq, not_false_eq_true, not_true_eq_false, reduceCtorEq, Int.reduceAdd, Int.reduceSub, Int.reduceMul, Int.reduceNeg, Nat.reduceEqDiff, or_true, true_or, true_implies, false_implies, Int.reduceLT, Int.reduceLE, Int.reduceEq]
      rw [mX4_findTops_L34]
      simp (disch := first | omega | decide) only [w32_id, ↓kh_c56, ↓kh_g56_0, ↓kh_g56_1, ↓kh_g56_2, ↓kh_g56_3, ↓kh_g56_4, ↓kh_g56_5, ↓kh_p56_5, ↓kh_g56_6, ↓kh_p56_6, ↓kh_g56_7, ↓kh_p56_7, ↓be_y, ↓be_n, ↓bf_y, ↓bf_n, ↓bl_y, ↓bl_n, ↓bm_y, ↓bm_n, ↓bg_y, ↓bg_n, ↓bs_y, ↓bs_n, ↓bo_y, ↓bo_n, ↓bp_y, ↓bp_n, ↓forall_eq, ↓within_y, ↓within_n, ↓isIn_y, ↓isIn_n, and_true, true_and, and_self, us_at, us_ne, w32_id, um_eq, um_ne, um_um, uu_eq, uu_ne, uu_uu, vv_eq, vv_ne, vv_vv, ne_eq, not_false_eq_true, not_true_eq_false, reduceCtorEq, Int.reduceAdd, Int.reduceSub, Int.reduceMul, Int.reduceNeg, Nat.reduceEqDiff, or_true, true_or, true_implies, false_implies, Int.reduceLT, Int.reduceLE, Int.reduceEq]
      refine ft47e (N := um (um N 60 U) 61 _) h hn (t := 1) (by omega) (by omega) b1 rfl ?_
      simp (disch := first | omega | decide) only [mX4_findTops_J79, ↓kh_c56, ↓kh_g56_0, ↓kh_g56_1, ↓kh_g56_2, ↓kh_g56_3, ↓kh_g56_4, ↓kh_g56_5, ↓kh_p56_5, ↓kh_g56_6, ↓kh_p56_6, ↓kh_g56_7, ↓kh_p56_7, ↓kh_r61, ↓kh_w61, ↓kh_n61, ↓be_y, ↓be_n, ↓bf_y, ↓bf_n, ↓bl_y, ↓bl_n, ↓bm_y, ↓bm_n, ↓bg_y, ↓bg_n, ↓bs_y, ↓bs_n, ↓bo_y, ↓bo_n, ↓bp_y, ↓bp_n, ↓forall_eq, ↓within_y, ↓within_n, ↓isIn_y, ↓isIn_n, and_true, true_and, and_self, us_at, us_ne, w32_id, um_eq, um_ne, um_um, uu_eq, uu_ne, uu_uu, vv_eq, vv_ne, vv_vv, ne_eq, not_false_eq_true, not_true_eq_false, reduceCtorEq, Int.reduceAdd, Int.reduceSub, Int.reduceMul, Int.reduceNeg, Nat.reduceEqDiff, or_true, true_or, true_implies, false_implies, Int.reduceLT, Int.reduceLE, Int.reduceEq]
      rw [mX4_findTops_L34]
      simp (disch := first | omega | decide) only [w32_id, ↓kh_c56, ↓kh_g56_0, ↓kh_g56_1, ↓kh_g56_2, ↓kh_g56_3, ↓kh_g56_4, ↓kh_g56_5, ↓kh_p56_5, ↓kh_g56_6, ↓kh_p56_6, ↓kh_g56_7, ↓kh_p56_7, ↓be_y, ↓be_n, ↓bf_y, ↓bf_n, ↓bl_y, ↓bl_n, ↓bm_y, ↓bm_n, ↓bg_y, ↓bg_n, ↓bs_y, ↓bs_n, ↓bo_y, ↓bo_n, ↓bp_y, ↓bp_n, ↓forall_eq, ↓within_y, ↓within_n, ↓isIn_y, ↓isIn_n, and_true, true_and, and_self, us_at, us_ne, w32_id, um_eq, um_ne, um_um, uu_eq, uu_ne, uu_uu, vv_eq, vv_ne, vv_vv, ne_eq, not_false_eq_true, not_true_eq_false, reduceCtorEq, Int.reduceAdd, Int.reduceSub, Int.reduceMul, Int.reduceNeg, Nat.reduceEqDiff, or_true, true_or, true_implies, false_implies, Int.reduceLT, Int.reduceLE, Int.reduceEq]
      refine ft47e (N := um (um N 60 U) 61 _) h hn (t := 2) (by omega) (by omega) b1 rfl ?_
      simp (disch := first | omega | decide) only [mX4_findTops_J79, ↓kh_c56, ↓kh_g56_0, ↓kh_g56_1, ↓kh_g56_2, ↓kh_g56_3, ↓kh_g56_4, ↓kh_g56_5, ↓kh_p56_5, ↓kh_g56_6, ↓kh_p56_6, ↓kh_g56_7, ↓kh_p56_7, ↓kh_r61, ↓kh_w61, ↓kh_n61, ↓be_y, ↓be_n, ↓bf_y, ↓bf_n, ↓bl_y, ↓bl_n, ↓bm_y, ↓bm_n, ↓bg_y, ↓bg_n, ↓bs_y, ↓bs_n, ↓bo_y, ↓bo_n, ↓bp_y, ↓bp_n, ↓forall_eq, ↓within_y, ↓within_n, ↓isIn_y, ↓isIn_n, and_true, true_and, and_self, us_at, us_ne, w32_id, um_eq, um_ne, um_um, uu_eq, uu_ne, uu_uu, vv_eq, vv_ne, vv_vv, ne_eq, not_false_eq_true, not_true_eq_false, reduceCtorEq, Int.reduceAdd, Int.reduceSub, Int.reduceMul, Int.reduceNeg, Nat.reduceEqDiff, or_true, true_or, true_implies, false_implies, Int.reduceLT, Int.reduceLE, Int.reduceEq]
      rw [mX4_findTops_L34]
      simp (disch := first | omega | decide) only [w32_id, ↓kh_c56, ↓kh_g56_0, ↓kh_g56_1, ↓kh_g56_2, ↓kh_g56_3, ↓kh_g56_4, ↓kh_g56_5, ↓kh_p56_5, ↓kh_g56_6, ↓kh_p56_6, ↓kh_g56_7, ↓kh_p56_7, ↓be_y, ↓be_n, ↓bf_y, ↓bf_n, ↓bl_y, ↓bl_n, ↓bm_y, ↓bm_n, ↓bg_y, ↓bg_n, ↓bs_y, ↓bs_n, ↓bo_y, ↓bo_n, ↓bp_y, ↓bp_n, ↓forall_eq, ↓within_y, ↓within_n, ↓isIn_y, ↓isIn_n, and_true, true_and, and_self, us_at, us_ne, w32_id, um_eq, um_ne, um_um, uu_eq, uu_ne, uu_uu, vv_eq, vv_ne, vv_vv, ne_eq, not_false_eq_true, not_true_eq_false, reduceCtorEq, Int.reduceAdd, Int.reduceSub, Int.reduceMul, Int.reduceNeg, Nat.reduceEqDiff, or_true, true_or, true_implies, false_implies, Int.reduceLT, Int.reduceLE, Int.reduceEq]
      exact q
-- which track a car stands on
theorem trk_l (h : svl n s) (hn : n ≤ 5) {t : Int} (ht : 0 ≤ t ∧ t < 3) {F : hp} {Q : Int → hp → Prop} (q : Q t F) : ∀ (k : Nat) (i : Nat) (a : Int), i + k = (sg s t).length → 0 ≤ a ∧ a + k ≤ 4 → mX4_trackIn_L8 Q (k + 1) (enc s) ((sg s t).getD i (5 + t)) a F := by
  intro k
  induction k with
  | zero =>
    intro i a hi ha
    rw [gd_out (by omega), mX4_trackIn_L8]
    have e : 5 + t - 5 = t := by omega
    rw [e, w32_id (x := a) (by omega) (by omega), w32_id (x := 5 + t) (by omega) (by omega)]
    exact ⟨fun _ => ⟨fun d => by omega, fun _ => q⟩, fun _ => q⟩
  | succ k ih =>
    intro i a hi ha
    have hj : i < (sg s t).length := by omega
    have m := (svl_m h).1 (sg_mem ht (List.getElem_mem hj))
    have ed := enc_d h hn (c := (sg s t)[i]) (by omega)
    rw [bel_at (svl_n h) ht hj] at ed
    have i1 := ih (i + 1) (a + 1) (by omega) (by omega)
    rw [gd_in hj, mX4_trackIn_L8, w32_id (x := a) (by omega) (by omega), w32_id (x := (sg s t)[i]) (by omega) (by omega)]
    unfold mX4_belowOf
    rw [ed]
    exact ⟨fun _ => ⟨fun _ => i1, fun d => by omega⟩, fun d => by omega⟩
theorem trk_c (h : svl n s) (hn : 0 ≤ n ∧ n ≤ 5) {t c : Int} (ht : 0 ≤ t ∧ t < 3) (hc : c ∈ sg s t) {F : hp} {Q : Int → hp → Prop} (q : Q t F) : mX4_trackIn (enc s) c F Q := by
  obtain ⟨i, hi, rfl⟩ := List.getElem_of_mem hc
  have ln := sg_len h hn.1 ht
  have m := (svl_m h).1 (sg_mem ht (List.getElem_mem hi))
  have ed := enc_d h hn.2 (c := (sg s t)[i]) (by omega)
  rw [bel_at (svl_n h) ht hi] at ed
  unfold mX4_trackIn mX4_belowOf
  rw [ed]
  exact ⟨_, trk_l h hn.2 ht q ((sg s t).length - (i + 1)) (i + 1) 0 (by omega) (by omega)⟩
-- a move
def goes (P : Int) (s : std) (f t : Int) : Prop := f ≠ t ∧ top s f < 5 ∧ (top s t < 5 → tb P (5 * top s f + top s t) = true)
def moved (s : std) (f t : Int) : std := sp (sp s f (sg s f).tail) t (top s f :: sg s t)
theorem top_l (h : svl n s) (hn : n ≤ 5) {t : Int} (ht : 0 ≤ t ∧ t < 3) : (sg s t = [] ∧ top s t = 5 + t) ∨ (∃ c r, sg s t = c :: r ∧ top s t = c ∧ 0 ≤ c ∧ c < n) := by
  cases e : sg s t with
  | nil => left; unfold top; rw [e]; exact ⟨rfl, rfl⟩
  | cons c r =>
    right
    have m := (svl_m h).1 (sg_mem (s := s) (c := c) ht (by rw [e]; exact List.mem_cons_self))
    refine ⟨c, r, rfl, ?_, m⟩
    unfold top; rw [e]; rfl
theorem stp_y (h : svl n s) (hn : n ≤ 5) {mv : Int} (hm : 0 ≤ mv ∧ mv < 9) (g : goes P s (mv / 3) (mv % 3)) : stp P s mv = some (moved s (mv / 3) (mv % 3)) := by
  obtain ⟨g1, g2, g3⟩ := g
  have ft := top_l h hn (t := mv / 3) (by omega)
  have tt := top_l h hn (t := mv % 3) (by omega)
  unfold stp moved
  rw [if_neg g1]
  rcases ft with ⟨a1, a2⟩ | ⟨c, r, a1, a2, a3⟩
  · omega
  · rw [a1, a2]
    rw [a2] at g3
    rcases tt with ⟨b1, b2⟩ | ⟨d, q, b1, b2, b3⟩
    · rw [b1]; rfl
    · rw [b1]
      rw [b2] at g3
      simp only [g3 (by omega), if_true]
      rfl
theorem stp_n (h : svl n s) (hn : n ≤ 5) {mv : Int} (hm : 0 ≤ mv ∧ mv < 9) (g : ¬ goes P s (mv / 3) (mv % 3)) : stp P s mv = none := by
  have ft := top_l h hn (t := mv / 3) (by omega)
  have tt := top_l h hn (t := mv % 3) (by omega)
  unfold stp
  by_cases d : mv / 3 = mv % 3
  · rw [if_pos d]
  rw [if_neg d]
  rcases ft with ⟨a1, a2⟩ | ⟨c, r, a1, a2, a3⟩
  · rw [a1]
  · rw [a1]
    rcases tt with ⟨b1, b2⟩ | ⟨e, q, b1, b2, b3⟩
    · exact absurd ⟨d, by omega, fun z => by omega⟩ g
    · rw [b1]
      cases z : tb P (5 * c + e) with
      | false => simp only [z, Bool.false_eq_true, if_false]
      | true => exact absurd ⟨d, by omega, fun _ => by rw [a2, b2]; exact z⟩ g
end TP
