-- ===== how the cars of a yard stand, and the class's number of it =====
def pc (D : Int → Int) : Int := D 0 + 8 * D 1 + 64 * D 2 + 512 * D 3 + 4096 * D 4
def dok (D : Int → Int) : Prop := ∀ c, 0 ≤ c → c < 5 → 0 ≤ D c ∧ D c ≤ 7
def yst (A : Int → Int) : std := ((tl A 15 (A 12)).reverse, (tl A 20 (A 13)).reverse, (tl A 25 (A 14)).reverse)
def bwl (A : Int → Int) (t i : Int) : Int := if i = 0 then 5 + t else A (15 + 5 * t + (i - 1))
def cinv (A : Int → Int) (n t i : Int) (D : Int → Int) : Prop := dok D ∧ (∀ t' j, 0 ≤ t' → t' < 3 → 0 ≤ j → j < A (12 + t') → D (A (15 + 5 * t' + j)) = if t' < t ∨ (t' = t ∧ j < i) then bel (yst A) (A (15 + 5 * t' + j)) else 0) ∧ ∀ c, c < 0 ∨ n ≤ c → D c = 0
section CO
variable {n : Int} {v : Nat → Nat → Int} {N : Nat → Int → Int} {T : Nat → Int → Option Nat} {A Y : Int → Int}
theorem pc_b {D : Int → Int} (h : dok D) : 0 ≤ pc D ∧ pc D < 32768 := by
  have b0 := h 0 (by omega) (by omega)
  have b1 := h 1 (by omega) (by omega)
  have b2 := h 2 (by omega) (by omega)
  have b3 := h 3 (by omega) (by omega)
  have b4 := h 4 (by omega) (by omega)
  unfold pc
  omega
theorem pc_st {D : Int → Int} {c y : Int} (h : dok D) (hc : 0 ≤ c ∧ c < 5) (h0 : D c = 0) (hy : 0 ≤ y ∧ y < 8) : iOr (pc D) (iShl y (3 * c)) = pc (us D c y) := by
  have b0 := h 0 (by omega) (by omega)
  have b1 := h 1 (by omega) (by omega)
  have b2 := h 2 (by omega) (by omega)
  have b3 := h 3 (by omega) (by omega)
  have b4 := h 4 (by omega) (by omega)
  have pb := pc_b h
  obtain rfl | rfl | rfl | rfl | rfl : c = 0 ∨ c = 1 ∨ c = 2 ∨ c = 3 ∨ c = 4 := by omega
  · have q : iShl y (3 * 0) = y * 1 := shl_p 0 (by decide) (by omega) (by show y * 1 < _; omega)
    rw [q, dg_or pb hy (by omega) (by unfold pc; omega)]
    unfold pc
    simp (disch := omega) only [us_at, us_ne]
    omega
  · have q : iShl y (3 * 1) = y * 8 := shl_p 3 (by decide) (by omega) (by show y * 8 < _; omega)
    rw [q, dg_or pb hy (by omega) (by unfold pc; omega)]
    unfold pc
    simp (disch := omega) only [us_at, us_ne]
    omega
  · have q : iShl y (3 * 2) = y * 64 := shl_p 6 (by decide) (by omega) (by show y * 64 < _; omega)
    rw [q, dg_or pb hy (by omega) (by unfold pc; omega)]
    unfold pc
    simp (disch := omega) only [us_at, us_ne]
    omega
  · have q : iShl y (3 * 3) = y * 512 := shl_p 9 (by decide) (by omega) (by show y * 512 < _; omega)
    rw [q, dg_or pb hy (by omega) (by unfold pc; omega)]
    unfold pc
    simp (disch := omega) only [us_at, us_ne]
    omega
  · have q : iShl y (3 * 4) = y * 4096 := shl_p 12 (by decide) (by omega) (by show y * 4096 < _; omega)
    rw [q, dg_or pb hy (by omega) (by unfold pc; omega)]
    unfold pc
    simp (disch := omega) only [us_at, us_ne]
    omega
theorem yst_sg {t : Int} (ht : 0 ≤ t ∧ t < 3) : sg (yst A) t = (tl A (15 + 5 * t) (A (12 + t))).reverse := by
  obtain rfl | rfl | rfl : t = 0 ∨ t = 1 ∨ t = 2 := by omega
  · rfl
  · rfl
  · rfl
theorem yst_ln {t : Int} (ht : 0 ≤ t ∧ t < 3) (h0 : 0 ≤ A (12 + t)) : ((sg (yst A) t).length : Int) = A (12 + t) := by
  rw [yst_sg ht, List.length_reverse, tl_len _ _ h0]
theorem yst_at {t i : Int} (ht : 0 ≤ t ∧ t < 3) (h0 : 0 ≤ i) (h1 : i < A (12 + t)) : ∃ k, ∃ hk : k < (sg (yst A) t).length, (sg (yst A) t)[k] = A (15 + 5 * t + i) ∧ (k : Int) = A (12 + t) - 1 - i := by
  have ln := yst_ln (A := A) ht (by omega)
  have hk : (A (12 + t) - 1 - i).toNat < (sg (yst A) t).length := by omega
  refine ⟨(A (12 + t) - 1 - i).toNat, hk, ?_, by omega⟩
  have g := tl_get (f := A) (b := 15 + 5 * t) (n := A (12 + t)) rfl h0 h1
  have l2 := tl_len A (15 + 5 * t) (n := A (12 + t)) (by omega)
  have e : (sg (yst A) t)[(A (12 + t) - 1 - i).toNat]? = some (A (15 + 5 * t + i)) := by
    rw [yst_sg ht, List.getElem?_reverse (by omega)]
    rw [show (tl A (15 + 5 * t) (A (12 + t))).length - 1 - (A (12 + t) - 1 - i).toNat = i.toNat by omega]
    exact g
  rw [List.getElem?_eq_getElem hk] at e
  exact Option.some.inj e
theorem yst_v (h : jY Y A) : svl (A 0) (yst A) := by
  have k := jY_k h
  obtain ⟨y1, -, y3, y4, -⟩ := jY_d h
  have p := k.2.2.2.2.2.2.2.2.2
  have t0 := y3 0 (by omega) (by omega)
  have t1 := y3 1 (by omega) (by omega)
  have t2 := y3 2 (by omega) (by omega)
  simp only [Int.reduceAdd] at t0 t1 t2
  have e4 := y1.2.2.2.2.1
  have c0 : tl Y 14 (Y 11) = tl A 15 (A 12) := by
    rw [t0.1]
    unfold tl
    refine List.map_congr_left (fun i hi => ?_)
    have := List.mem_range.1 hi
    rw [y4 i (by omega) (by omega)]
  have c1 : tl Y 19 (Y 12) = tl A 20 (A 13) := by
    rw [t1.1]
    unfold tl
    refine List.map_congr_left (fun i hi => ?_)
    have := List.mem_range.1 hi
    rw [show 19 + (i : Int) = 14 + (5 + i) by omega, y4 _ (by omega) (by omega)]
    congr 1; omega
  have c2 : tl Y 24 (Y 13) = tl A 25 (A 14) := by
    rw [t2.1]
    unfold tl
    refine List.map_congr_left (fun i hi => ?_)
    have := List.mem_range.1 hi
    rw [show 24 + (i : Int) = 14 + (10 + i) by omega, y4 _ (by omega) (by omega)]
    congr 1; omega
  rw [c0, c1, c2, e4] at p
  exact (List.Perm.append (List.Perm.append (List.reverse_perm _) (List.reverse_perm _)) (List.reverse_perm _)).trans p
theorem yst_bel (h : svl n (yst A)) {t i : Int} (ht : 0 ≤ t ∧ t < 3) (h0 : 0 ≤ i) (h1 : i < A (12 + t)) : bel (yst A) (A (15 + 5 * t + i)) = bwl A t i := by
  obtain ⟨k, hk, e, ke⟩ := yst_at (A := A) ht h0 h1
  have ln := yst_ln (A := A) ht (by omega)
  rw [← e, bel_at (svl_n h) ht hk]
  unfold bwl
  by_cases d : i = 0
  · rw [if_pos d, gd_out (by omega)]
  · rw [if_neg d, gd_in (show k + 1 < (sg (yst A) t).length by omega)]
    obtain ⟨k', hk', e', ke'⟩ := yst_at (A := A) ht (i := i - 1) (by omega) (by omega)
    obtain rfl : k' = k + 1 := by omega
    exact e'
theorem yst_m (h : svl n (yst A)) {t i : Int} (ht : 0 ≤ t ∧ t < 3) (h0 : 0 ≤ i) (h1 : i < A (12 + t)) : 0 ≤ A (15 + 5 * t + i) ∧ A (15 + 5 * t + i) < n := by
  obtain ⟨k, hk, e, -⟩ := yst_at (A := A) ht h0 h1
  rw [← e]
  exact (svl_m h).1 (sg_mem ht (List.getElem_mem hk))
theorem yst_one (h : svl n (yst A)) {t i t' i' : Int} (ht : 0 ≤ t ∧ t < 3) (h0 : 0 ≤ i) (h1 : i < A (12 + t)) (ht' : 0 ≤ t' ∧ t' < 3) (h0' : 0 ≤ i') (h1' : i' < A (12 + t')) (e : A (15 + 5 * t + i) = A (15 + 5 * t' + i')) : t = t' ∧ i = i' := by
  obtain ⟨k, hk, e1, ke⟩ := yst_at (A := A) ht h0 h1
  obtain ⟨k', hk', e1', ke'⟩ := yst_at (A := A) ht' h0' h1'
  have nd := svl_n h
  obtain rfl : t = t' := sg_dis nd ht ht' (c := A (15 + 5 * t + i)) (by rw [← e1]; exact List.getElem_mem hk) (by rw [e, ← e1']; exact List.getElem_mem hk')
  obtain rfl : k = k' := nd_inj (sg_nd nd ht) hk hk' (by rw [e1, e1', e])
  exact ⟨rfl, by omega⟩
theorem yst_all (h : svl n (yst A)) (hp : ∀ t, 0 ≤ t → t < 3 → 0 ≤ A (12 + t)) {c : Int} (hc : 0 ≤ c ∧ c < n) : ∃ t i, (0 ≤ t ∧ t < 3) ∧ (0 ≤ i ∧ i < A (12 + t)) ∧ A (15 + 5 * t + i) = c := by
  obtain ⟨t, ht, k, hk, e⟩ := sts_at ((svl_m h).2 hc)
  have ln := yst_ln (A := A) ht (hp t ht.1 ht.2)
  obtain ⟨k', hk', e', ke'⟩ := yst_at (A := A) ht (i := A (12 + t) - 1 - k) (by omega) (by omega)
  refine ⟨t, A (12 + t) - 1 - k, ht, ⟨by omega, by omega⟩, ?_⟩
  obtain rfl : k' = k := by omega
  rw [← e', e]
theorem cinv_s (h : svl n (yst A)) (hn : n ≤ 5) {t i : Int} {D : Int → Int} (ht : 0 ≤ t ∧ t < 3) (h0 : 0 ≤ i) (h1 : i < A (12 + t)) (hI : cinv A n t i D) : iOr (pc D) (iShl (bwl A t i) (3 * A (15 + 5 * t + i))) = pc (us D (A (15 + 5 * t + i)) (bwl A t i)) ∧ cinv A n t (i + 1) (us D (A (15 + 5 * t + i)) (bwl A t i)) := by
  obtain ⟨i1, i2, i3⟩ := hI
  have m := yst_m h ht h0 h1
  have eb := yst_bel h ht h0 h1
  have b := bel_b (c := A (15 + 5 * t + i)) h hn
  rw [eb] at b
  have z := i2 t i ht.1 ht.2 h0 h1
  rw [if_neg (by omega)] at z
  refine ⟨pc_st i1 (by omega) z (by omega), fun c c0 c1 => ?_, fun t' j t0 t1 j0 j1 => ?_, fun c hc => ?_⟩
  · by_cases d : c = A (15 + 5 * t + i)
    · rw [d, us_eq]; exact b
    · rw [us_ne d]; exact i1 c c0 c1
  · by_cases d : A (15 + 5 * t' + j) = A (15 + 5 * t + i)
    · obtain ⟨rfl, rfl⟩ := yst_one h ⟨t0, t1⟩ j0 j1 ht h0 h1 d
      rw [us_eq, if_pos (by omega), eb]
    · rw [us_ne d, i2 t' j t0 t1 j0 j1]
      by_cases d2 : t' < t ∨ (t' = t ∧ j < i)
      · rw [if_pos d2, if_pos (by omega)]
      · rw [if_neg d2, if_neg (fun e => ?_)]
        obtain ⟨rfl, rfl⟩ : t' = t ∧ j = i := by omega
        exact d rfl
  · rw [us_ne (by omega)]; exact i3 c hc
theorem cinv_n {t : Int} {D : Int → Int} (hI : cinv A n t (A (12 + t)) D) : cinv A n (t + 1) 0 D := by
  refine ⟨hI.1, fun t' j t0 t1 j0 j1 => ?_, hI.2.2⟩
  rw [hI.2.1 t' j t0 t1 j0 j1]
  by_cases d : t' < t ∨ (t' = t ∧ j < A (12 + t))
  · rw [if_pos d, if_pos (by omega)]
  · rw [if_neg d, if_neg (fun e => ?_)]
    have e2 : t' = t := by omega
    subst e2
    omega
theorem cinv_e (h : svl n (yst A)) (hp : ∀ t, 0 ≤ t → t < 3 → 0 ≤ A (12 + t)) {D : Int → Int} (hI : cinv A n 3 0 D) : pc D = enc (yst A) := by
  have g : ∀ c, D c = bel (yst A) c := fun c => by
    by_cases d : 0 ≤ c ∧ c < n
    · obtain ⟨t, i, ht, hi, e⟩ := yst_all h hp d
      have z := hI.2.1 t i ht.1 ht.2 hi.1 hi.2
      rw [if_pos (by omega), e] at z
      exact z
    · rw [hI.2.2 c (by omega), bel_out (fun e => d ((svl_m h).1 e))]
  unfold pc enc
  rw [g, g, g, g, g]
theorem cinv_0 : cinv A n 0 0 (fun _ => 0) := by
  refine ⟨fun c c0 c1 => (by show (0 : Int) ≤ 0 ∧ (0 : Int) ≤ 7; omega), fun t' j t0 t1 j0 j1 => ?_, fun c hc => rfl⟩
  rw [if_neg (by omega)]
theorem co16_12 (hY : jY (N 12) A) {t : Int} (ht : 0 ≤ t ∧ t < 3) {X : Option Nat → Int → Int → hp → Prop} {Q : Int → hp → Prop} : ∀ (k : Nat) (i : Int) (D : Int → Int), i + k = A (12 + t) → 0 ≤ i → cinv A (A 0) t i D → ∃ D', cinv A (A 0) (t + 1) 0 D' ∧ ∀ F : hp, X (some 11) (pc D') (t + 1) (kh F v N T) → mX4_codeOf_L16 X Q (k + 1) (some 11) (pc D) t (bwl A t i) i (kh F v N T) := by
  have w := trk (M := fun _ => A) hY ht
  have w1 := w.1.1
  have wb := w.1.2
  have h := yst_v hY
  have hc := jY_c (A := A) hY
  intro k
  induction k with
  | zero =>
    intro i D hi h0 hI
    obtain rfl : i = A (12 + t) := by omega
    refine ⟨D, cinv_n hI, fun F q => ?_⟩
    rw [mX4_codeOf_L16]
    simp (disch := first | omega | decide) only [mX10_countOn, ↓kh_c11, ↓kh_g11_0, ↓kh_r12, ↓kh_w12, ↓kh_n12, ↓kh_cp12_33, ↓kh_cp12_68, ↓kh_cp12_12, ↓kh_cp12_14, ↓be_y, ↓be_n, ↓bf_y, ↓bf_n, ↓bl_y, ↓bl_n, ↓bm_y, ↓bm_n, ↓bg_y, ↓bg_n, ↓bs_y, ↓bs_n, ↓bo_y, ↓bo_n, ↓bp_y, ↓bp_n, ↓forall_eq, ↓within_y, ↓within_n, ↓isIn_y, ↓isIn_n, and_true, true_and, and_self, us_at, us_ne, w32_id, um_eq, um_ne, um_um, uu_eq, uu_ne, uu_uu, vv_eq, vv_ne, vv_vv, ne_eq, not_false_eq_true, not_true_eq_false, reduceCtorEq, Int.reduceAdd, Int.reduceSub, Int.reduceMul, Int.reduceNeg, Nat.reduceEqDiff, or_true, true_or, true_implies, false_implies, Int.reduceLT, Int.reduceLE, Int.reduceEq, w1]
    exact q
  | succ k ih =>
    intro i D hi h0 hI
    obtain ⟨s1, s2⟩ := cinv_s h hc.2.2 ht h0 (by omega) hI
    have w2 := (w.2 i h0 (by show i < A (12 + t); omega)).1
    have eb : bwl A t (i + 1) = A (15 + 5 * t + i) := by
      unfold bwl
      rw [if_neg (by omega), show i + 1 - 1 = i by omega]
    obtain ⟨D', a1, a2⟩ := ih (i + 1) _ (by omega) (by omega) s2
    refine ⟨D', a1, fun F q => ?_⟩
    have a3 := a2 F q
    rw [eb, ← s1] at a3
    rw [mX4_codeOf_L16]
    simp (disch := first | omega | decide) only [mX10_countOn, mX10_carAt, ↓kh_c11, ↓kh_g11_0, ↓kh_r12, ↓kh_w12, ↓kh_n12, ↓kh_cp12_33, ↓kh_cp12_68, ↓kh_cp12_12, ↓kh_cp12_14, ↓be_y, ↓be_n, ↓bf_y, ↓bf_n, ↓bl_y, ↓bl_n, ↓bm_y, ↓bm_n, ↓bg_y, ↓bg_n, ↓bs_y, ↓bs_n, ↓bo_y, ↓bo_n, ↓bp_y, ↓bp_n, ↓forall_eq, ↓within_y, ↓within_n, ↓isIn_y, ↓isIn_n, and_true, true_and, and_self, us_at, us_ne, w32_id, um_eq, um_ne, um_um, uu_eq, uu_ne, uu_uu, vv_eq, vv_ne, vv_vv, ne_eq, not_false_eq_true, not_true_eq_false, reduceCtorEq, Int.reduceAdd, Int.reduceSub, Int.reduceMul, Int.reduceNeg, Nat.reduceEqDiff, or_true, true_or, true_implies, false_implies, Int.reduceLT, Int.reduceLE, Int.reduceEq, w1, w2]
    exact a3
theorem code_12 (hY : jY (N 12) A) {F : hp} {Q : Int → hp → Prop} (q : Q (enc (yst A)) (kh F v N T)) : mX4_codeOf (some 11) (kh F v N T) Q := by
  have h := yst_v hY
  have hp : ∀ t, 0 ≤ t → t < 3 → 0 ≤ A (12 + t) := fun t t0 t1 => (trk (M := fun _ => A) hY ⟨t0, t1⟩).1.2.1
  obtain ⟨D1, a1, a2⟩ := co16_12 (v := v) (T := T) hY (t := 0) (by omega) (X := fun a0' a1' a2' F' => mX4_codeOf_L4 Q 3 a0' a1' a2' F') (Q := Q) (A (12 + 0)).toNat 0 _ (by have := hp 0 (by omega) (by omega); omega) (by omega) cinv_0
  obtain ⟨D2, b1, b2⟩ := co16_12 (v := v) (T := T) hY (t := 0 + 1) (by omega) (X := fun a0' a1' a2' F' => mX4_codeOf_L4 Q 2 a0' a1' a2' F') (Q := Q) (A (12 + (0 + 1))).toNat 0 _ (by have := hp (0 + 1) (by omega) (by omega); omega) (by omega) a1
  obtain ⟨D3, c1, c2⟩ := co16_12 (v := v) (T := T) hY (t := 0 + 1 + 1) (by omega) (X := fun a0' a1' a2' F' => mX4_codeOf_L4 Q 1 a0' a1' a2' F') (Q := Q) (A (12 + (0 + 1 + 1))).toNat 0 _ (by have := hp (0 + 1 + 1) (by omega) (by omega); omega) (by omega) b1
  have eb : ∀ t, bwl A t 0 = 5 + t := fun t => if_pos rfl
  have ez : pc (fun _ => 0) = 0 := by show (0 : Int) + 8 * 0 + 64 * 0 + 512 * 0 + 4096 * 0 = 0; decide
  rw [eb, ez] at a2
  rw [eb] at b2 c2
  have z3 : mX4_codeOf_L4 Q 1 (some 11) (pc D3) (0 + 1 + 1 + 1) (kh F v N T) := by
    rw [mX4_codeOf_L4]
    refine ⟨fun d => absurd d (by rw [w32_id (by decide) (by decide)]; decide), fun _ => ?_⟩
    have e : pc D3 = enc (yst A) := cinv_e h hp c1
    rw [e]
    exact q
  have z2 : mX4_codeOf_L4 Q 2 (some 11) (pc D2) (0 + 1 + 1) (kh F v N T) := by
    rw [mX4_codeOf_L4]
    exact ⟨fun _ v1 hv => (by subst hv; exact ⟨_, c2 F z3⟩), fun d => absurd (by rw [w32_id (by decide) (by decide)]; decide) d⟩
  have z1 : mX4_codeOf_L4 Q 3 (some 11) (pc D1) (0 + 1) (kh F v N T) := by
    rw [mX4_codeOf_L4]
    exact ⟨fun _ v1 hv => (by subst hv; exact ⟨_, b2 F z2⟩), fun d => absurd (by rw [w32_id (by decide) (by decide)]; decide) d⟩
  refine ⟨4, ?_⟩
  rw [mX4_codeOf_L4]
  exact ⟨fun _ v1 hv => (by subst hv; exact ⟨_, a2 F z1⟩), fun d => absurd (by rw [w32_id (by decide) (by decide)]; decide) d⟩
end CO
