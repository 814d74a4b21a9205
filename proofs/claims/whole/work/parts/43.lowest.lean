section LW
variable {n x1 x2 : Int} {F : hp} {v : Nat → Nat → Int} {N : Nat → Int → Int} {T : Nat → Int → Option Nat} {u : Nat → Int} {M : Nat → Int → Int}
-- a car stands on one track
theorem onl_Y (hY : jY (N 12) (M 70)) {t : Int} (ht : 0 ≤ t ∧ t < 3) : onl (M 70) t = tl (N 12) (14 + 5 * t) (N 12 (11 + t)) := by
  obtain ⟨w1, w2⟩ := trk hY ht
  unfold onl tl
  rw [w1.1]
  apply List.map_congr_left
  intro i hi
  rw [List.mem_range] at hi
  exact (w2 i (by omega) (by omega)).1.symm
theorem onl_nd (hY : jY (N 12) (M 70)) : (onl (M 70) 0 ++ onl (M 70) 1 ++ onl (M 70) 2).Nodup := by
  rw [onl_Y hY (by omega), onl_Y hY (by omega), onl_Y hY (by omega)]
  exact ((jY_k hY).2.2.2.2.2.2.2.2.2.nodup_iff).mpr (ran_nodup _)
theorem onl_u (hY : jY (N 12) (M 70)) {t s c : Int} (ht : 0 ≤ t ∧ t < 3) (hs : 0 ≤ s ∧ s < 3) (h1 : c ∈ onl (M 70) t) (h2 : c ∈ onl (M 70) s) : t = s := by
  have nd := onl_nd hY
  rw [List.nodup_append, List.nodup_append] at nd
  obtain ⟨⟨-, -, d1⟩, -, d2⟩ := nd
  obtain rfl | rfl | rfl : t = 0 ∨ t = 1 ∨ t = 2 := by omega
  all_goals
    obtain rfl | rfl | rfl : s = 0 ∨ s = 1 ∨ s = 2 := by omega
    all_goals first
      | rfl
      | exact absurd rfl (d1 c h1 c h2)
      | exact absurd rfl (d1 c h2 c h1)
      | exact absurd rfl (d2 c (List.mem_append.mpr (.inl h1)) c h2)
      | exact absurd rfl (d2 c (List.mem_append.mpr (.inr h1)) c h2)
      | exact absurd rfl (d2 c (List.mem_append.mpr (.inl h2)) c h1)
      | exact absurd rfl (d2 c (List.mem_append.mpr (.inr h2)) c h1)
theorem onl_in (hY : jY (N 12) (M 70)) {t c : Int} (ht : 0 ≤ t ∧ t < 3) (h : c ∈ onl (M 70) t) : 0 ≤ c ∧ c < M 70 0 := by
  unfold onl at h
  rw [tl_mem] at h
  obtain ⟨i, h1, rfl⟩ := h
  exact ((trk hY ht).2 i h1.1 h1.2).2
theorem onl_d (hY : jY (N 12) (M 70)) {t : Int} (ht : 0 ≤ t ∧ t < 3) : (onl (M 70) t).Nodup := by
  have nd := onl_nd hY
  rw [List.nodup_append, List.nodup_append] at nd
  obtain rfl | rfl | rfl : t = 0 ∨ t = 1 ∨ t = 2 := by omega
  · exact nd.1.1
  · exact nd.1.2.1
  · exact nd.2.1
theorem ont_r (hY : jY (N 12) (M 70)) {t c : Int} (ht : 0 ≤ t ∧ t < 3) (hc : 0 ≤ c ∧ c < M 70 0) {F : hp} {Q : Int → hp → Prop} (q : Q (if c ∈ onl (M 70) t then 1 else 0) (rh F u M)) : mX12_isOnTrack 69 c t (rh F u M) Q := by
  obtain ⟨s, i, hs, hi, e, -, -, g3, -⟩ := where_b (v := fun _ _ => 0) (N := N) (T := fun _ _ => none) (u := u) (M := M) hY hc
  have m : c ∈ onl (M 70) s := by
    unfold onl
    rw [tl_mem]
    exact ⟨i, hi, e.symm⟩
  simp (disch := first | omega | decide) only [mX12_isOnTrack, ↓rh_rcv, ↓rh_g0, ↓be_y, ↓be_n, ↓bf_y, ↓bf_n, ↓bl_y, ↓bl_n, ↓bm_y, ↓bm_n, ↓bg_y, ↓bg_n, ↓bs_y, ↓bs_n, ↓bo_y, ↓bo_n, ↓bp_y, ↓bp_n, ↓forall_eq, ↓within_y, ↓within_n, ↓isIn_y, ↓isIn_n, and_true, true_and, and_self, us_at, us_ne, w32_id, um_eq, um_ne, um_um, uu_eq, uu_ne, uu_uu, vv_eq, vv_ne, vv_vv, ne_eq, not_false_eq_true, not_true_eq_false, reduceCtorEq, Int.reduceAdd, Int.reduceSub, Int.reduceMul, Int.reduceNeg, Nat.reduceEqDiff, or_true, true_or, true_implies, false_implies, Int.reduceLT, Int.reduceLE, Int.reduceEq]
  refine g3 _ _ ?_
  by_cases d : s = t
  · subst d
    rw [if_pos m] at q
    simp (disch := first | omega | decide) only [w32_id, ↓rh_rcv, ↓rh_g0, ↓be_y, ↓be_n, ↓bf_y, ↓bf_n, ↓bl_y, ↓bl_n, ↓bm_y, ↓bm_n, ↓bg_y, ↓bg_n, ↓bs_y, ↓bs_n, ↓bo_y, ↓bo_n, ↓bp_y, ↓bp_n, ↓forall_eq, ↓within_y, ↓within_n, ↓isIn_y, ↓isIn_n, and_true, true_and, and_self, us_at, us_ne, w32_id, um_eq, um_ne, um_um, uu_eq, uu_ne, uu_uu, vv_eq, vv_ne, vv_vv, ne_eq, not_false_eq_true, not_true_eq_false, reduceCtorEq, Int.reduceAdd, Int.reduceSub, Int.reduceMul, Int.reduceNeg, Nat.reduceEqDiff, or_true, true_or, true_implies, false_implies, Int.reduceLT, Int.reduceLE, Int.reduceEq]
    exact q
  · rw [if_neg (fun h => d (onl_u hY hs ht m h))] at q
    simp (disch := first | omega | decide) only [w32_id, ↓rh_rcv, ↓rh_g0, ↓be_y, ↓be_n, ↓bf_y, ↓bf_n, ↓bl_y, ↓bl_n, ↓bm_y, ↓bm_n, ↓bg_y, ↓bg_n, ↓bs_y, ↓bs_n, ↓bo_y, ↓bo_n, ↓bp_y, ↓bp_n, ↓forall_eq, ↓within_y, ↓within_n, ↓isIn_y, ↓isIn_n, and_true, true_and, and_self, us_at, us_ne, w32_id, um_eq, um_ne, um_um, uu_eq, uu_ne, uu_uu, vv_eq, vv_ne, vv_vv, ne_eq, not_false_eq_true, not_true_eq_false, reduceCtorEq, Int.reduceAdd, Int.reduceSub, Int.reduceMul, Int.reduceNeg, Nat.reduceEqDiff, or_true, true_or, true_implies, false_implies, Int.reduceLT, Int.reduceLE, Int.reduceEq]
    exact q
-- the row's cars of that track alone
theorem cmp_l (hY : jY (N 12) (M 70)) {t m a3 a4 : Int} (ht : 0 ≤ t ∧ t < 3) : ∀ (L : List Int) (S : Int → Int) (i : Int) (K : List Int), tl S i L.length = L → i + L.length = M 70 0 → tl S 0 K.length = K → (K.length : Int) ≤ i → (∀ c ∈ L, 0 ≤ c ∧ c < M 70 0) → ∃ S', tl S' 0 (K ++ L.filter (fun c => decide (c ∈ onl (M 70) t))).length = K ++ L.filter (fun c => decide (c ∈ onl (M 70) t)) ∧ ∀ (F : hp) (X : Nat → Int → Int → Int → Int → hp → Prop) (Q : Int → hp → Prop), (∃ f, mX12_layRows_L92 X Q f 69 t m a3 a4 1 1 (rh F u (um M 79 S'))) → mX12_layRows_L37 X Q (L.length + 1) 69 t m a3 a4 K.length 1 i (rh F u (um M 79 S)) := by
  have hc := jY_c hY
  intro L
  induction L with
  | nil =>
    intro S i K h1 h2 h3 h4 h5
    have h2 : i + ((0 : Nat) : Int) = M 70 0 := h2
    refine ⟨S, by simpa using h3, fun F X Q q => ?_⟩
    rw [mX12_layRows_L37]
    simp (disch := first | omega | decide) only [w32_id, ↓rh_rcv, ↓rh_g0, ↓rh_g26, ↓rh_r70, ↓rh_w70, ↓rh_r79, ↓rh_w79, ↓be_y, ↓be_n, ↓bf_y, ↓bf_n, ↓bl_y, ↓bl_n, ↓bm_y, ↓bm_n, ↓bg_y, ↓bg_n, ↓bs_y, ↓bs_n, ↓bo_y, ↓bo_n, ↓bp_y, ↓bp_n, ↓forall_eq, ↓within_y, ↓within_n, ↓isIn_y, ↓isIn_n, and_true, true_and, and_self, us_at, us_ne, w32_id, um_eq, um_ne, um_um, uu_eq, uu_ne, uu_uu, vv_eq, vv_ne, vv_vv, ne_eq, not_false_eq_true, not_true_eq_false, reduceCtorEq, Int.reduceAdd, Int.reduceSub, Int.reduceMul, Int.reduceNeg, Nat.reduceEqDiff, or_true, true_or, true_implies, false_implies, Int.reduceLT, Int.reduceLE, Int.reduceEq]
    exact q
  | cons c L ih =>
    intro S i K h1 h2 h3 h4 h5
    rw [List.length_cons] at h1 h2
    rw [show ((L.length + 1 : Nat) : Int) = (L.length : Int) + 1 by omega, tl_cons (by omega), List.cons.injEq] at h1
    obtain ⟨h1a, h1b⟩ := h1
    have cc := h5 c List.mem_cons_self
    by_cases d : c ∈ onl (M 70) t
    · have h1c : tl (us S K.length c) (i + 1) L.length = L := by
        rw [tl_congr (f := us S K.length c) (g := S) (fun j j0 j1 => us_ne (by omega))]
        exact h1b
      obtain ⟨S', g1, g2⟩ := ih (us S K.length c) (i + 1) (K ++ [c]) h1c (by omega) (tl_put h3) (by rw [List.length_append, List.length_singleton]; omega) (fun c hc' => h5 c (List.mem_cons_of_mem _ hc'))
      rw [List.append_assoc, List.singleton_append] at g1
      refine ⟨S', by rw [List.filter_cons_of_pos (by simpa using d)]; exact g1, fun F X Q q => ?_⟩
      rw [List.length_cons, mX12_layRows_L37]
      simp (disch := first | omega | decide) only [w32_id, ↓rh_rcv, ↓rh_g0, ↓rh_g26, ↓rh_r70, ↓rh_w70, ↓rh_r79, ↓rh_w79, ↓be_y, ↓be_n, ↓bf_y, ↓bf_n, ↓bl_y, ↓bl_n, ↓bm_y, ↓bm_n, ↓bg_y, ↓bg_n, ↓bs_y, ↓bs_n, ↓bo_y, ↓bo_n, ↓bp_y, ↓bp_n, ↓forall_eq, ↓within_y, ↓within_n, ↓isIn_y, ↓isIn_n, and_true, true_and, and_self, us_at, us_ne, w32_id, um_eq, um_ne, um_um, uu_eq, uu_ne, uu_uu, vv_eq, vv_ne, vv_vv, ne_eq, not_false_eq_true, not_true_eq_false, reduceCtorEq, Int.reduceAdd, Int.reduceSub, Int.reduceMul, Int.reduceNeg, Nat.reduceEqDiff, or_true, true_or, true_implies, false_implies, Int.reduceLT, Int.reduceLE, Int.reduceEq, h1a]
      refine ont_r (M := um M 79 S) hY ht cc ?_
      rw [show um M 79 S 70 = M 70 from rfl, if_pos d]
      simp (disch := first | omega | decide) only [mX12_layRows_J83, ↓rh_rcv, ↓rh_g0, ↓rh_g26, ↓rh_r70, ↓rh_w70, ↓rh_r79, ↓rh_w79, ↓be_y, ↓be_n, ↓bf_y, ↓bf_n, ↓bl_y, ↓bl_n, ↓bm_y, ↓bm_n, ↓bg_y, ↓bg_n, ↓bs_y, ↓bs_n, ↓bo_y, ↓bo_n, ↓bp_y, ↓bp_n, ↓forall_eq, ↓within_y, ↓within_n, ↓isIn_y, ↓isIn_n, and_true, true_and, and_self, us_at, us_ne, w32_id, um_eq, um_ne, um_um, uu_eq, uu_ne, uu_uu, vv_eq, vv_ne, vv_vv, ne_eq, not_false_eq_true, not_true_eq_false, reduceCtorEq, Int.reduceAdd, Int.reduceSub, Int.reduceMul, Int.reduceNeg, Nat.reduceEqDiff, or_true, true_or, true_implies, false_implies, Int.reduceLT, Int.reduceLE, Int.reduceEq, h1a]
      have g := g2 F X Q q
      rw [List.length_append, List.length_singleton, show ((K.length + 1 : Nat) : Int) = (K.length : Int) + 1 by omega] at g
      exact g
    · obtain ⟨S', g1, g2⟩ := ih S (i + 1) K h1b (by omega) h3 (by omega) (fun c hc' => h5 c (List.mem_cons_of_mem _ hc'))
      refine ⟨S', by rw [List.filter_cons_of_neg (by simpa using d)]; exact g1, fun F X Q q => ?_⟩
      rw [List.length_cons, mX12_layRows_L37]
      simp (disch := first | omega | decide) only [w32_id, ↓rh_rcv, ↓rh_g0, ↓rh_g26, ↓rh_r70, ↓rh_w70, ↓rh_r79, ↓rh_w79, ↓be_y, ↓be_n, ↓bf_y, ↓bf_n, ↓bl_y, ↓bl_n, ↓bm_y, ↓bm_n, ↓bg_y, ↓bg_n, ↓bs_y, ↓bs_n, ↓bo_y, ↓bo_n, ↓bp_y, ↓bp_n, ↓forall_eq, ↓within_y, ↓within_n, ↓isIn_y, ↓isIn_n, and_true, true_and, and_self, us_at, us_ne, w32_id, um_eq, um_ne, um_um, uu_eq, uu_ne, uu_uu, vv_eq, vv_ne, vv_vv, ne_eq, not_false_eq_true, not_true_eq_false, reduceCtorEq, Int.reduceAdd, Int.reduceSub, Int.reduceMul, Int.reduceNeg, Nat.reduceEqDiff, or_true, true_or, true_implies, false_implies, Int.reduceLT, Int.reduceLE, Int.reduceEq, h1a]
      refine ont_r (M := um M 79 S) hY ht cc ?_
      rw [show um M 79 S 70 = M 70 from rfl, if_neg d]
      simp (disch := first | omega | decide) only [mX12_layRows_J83, ↓rh_rcv, ↓rh_g0, ↓rh_g26, ↓rh_r70, ↓rh_w70, ↓rh_r79, ↓rh_w79, ↓be_y, ↓be_n, ↓bf_y, ↓bf_n, ↓bl_y, ↓bl_n, ↓bm_y, ↓bm_n, ↓bg_y, ↓bg_n, ↓bs_y, ↓bs_n, ↓bo_y, ↓bo_n, ↓bp_y, ↓bp_n, ↓forall_eq, ↓within_y, ↓within_n, ↓isIn_y, ↓isIn_n, and_true, true_and, and_self, us_at, us_ne, w32_id, um_eq, um_ne, um_um, uu_eq, uu_ne, uu_uu, vv_eq, vv_ne, vv_vv, ne_eq, not_false_eq_true, not_true_eq_false, reduceCtorEq, Int.reduceAdd, Int.reduceSub, Int.reduceMul, Int.reduceNeg, Nat.reduceEqDiff, or_true, true_or, true_implies, false_implies, Int.reduceLT, Int.reduceLE, Int.reduceEq, h1a]
      exact g2 F X Q q
theorem ia1 : iAnd 1 1 = 1 := by decide
theorem ia2 : iAnd 1 0 = 0 := by decide
theorem ia3 : iAnd 0 1 = 0 := by decide
theorem ia4 : iAnd 0 0 = 0 := by decide
theorem chk_l (hC : jC (N 15) (N 16) (N 17) (N 18) (N 19) (M 70)) (hF : jF (v 10 15) (M 70)) {S : Int → Int} {t m a3 a4 : Int} {F : hp} {X : Nat → Int → Int → Int → Int → hp → Prop} {Q : Int → hp → Prop} : ∀ (L : List Int) (a i s : Int), tl S (i - 1) (a :: L).length = a :: L → i + L.length = m → (∀ c ∈ a :: L, 0 ≤ c ∧ c ≤ 4) → 1 ≤ i ∧ m ≤ 5 → (s = 0 ∨ s = 1) → mX12_layRows_L92 X Q 1 69 t m a3 a4 (if s = 1 ∧ okl (zForb (M 70)) (a :: L) = true then 1 else 0) m (rh F u (um M 79 S)) → mX12_layRows_L92 X Q (L.length + 1) 69 t m a3 a4 s i (rh F u (um M 79 S)) := by
  intro L
  induction L with
  | nil =>
    intro a i s h1 h2 h3 h4 hs q
    have h2 : i + ((0 : Nat) : Int) = m := h2
    obtain rfl : i = m := by omega
    rcases hs with rfl | rfl
    · rw [if_neg (by omega)] at q
      exact q
    · rw [if_pos ⟨rfl, rfl⟩] at q
      exact q
  | cons b L ih =>
    intro a i s h1 h2 h3 h4 hs q
    rw [List.length_cons] at h1 h2
    rw [show (((b :: L).length + 1 : Nat) : Int) = ((b :: L).length : Int) + 1 by omega, tl_cons (by omega), List.cons.injEq] at h1
    obtain ⟨h1a, h1b⟩ := h1
    rw [show i - 1 + 1 = i by omega] at h1b
    have h1c := h1b
    rw [List.length_cons, show ((L.length + 1 : Nat) : Int) = (L.length : Int) + 1 by omega, tl_cons (by omega), List.cons.injEq] at h1c
    have h1d := h1c.1
    have ca := h3 a List.mem_cons_self
    have cb := h3 b (List.mem_cons_of_mem _ List.mem_cons_self)
    have q' : mX12_layRows_L92 X Q 1 69 t m a3 a4 (if s = 1 ∧ (!zForb (M 70) a b && okl (zForb (M 70)) (b :: L)) = true then 1 else 0) m (rh F u (um M 79 S)) := q
    have ms : ∀ Q, mX12_isForbidden 69 a b (rh F u (um M 79 S)) Q ↔ Q (if zForb (M 70) a b then 1 else 0) (rh F u (um M 79 S)) := fun Q => msb_r (v := v) (N := N) (M := um M 79 S) hC hF ca cb
    have go := ih b (i + 1)
    rw [show i + 1 - 1 = i by omega] at go
    rw [List.length_cons, mX12_layRows_L92]
    cases hz : zForb (M 70) a b with
    | true =>
      rw [hz] at q'
      simp only [Bool.not_true, Bool.false_and, Bool.false_eq_true, and_false, if_false] at q'
      simp (disch := first | omega | decide) only [w32_id, ↓rh_rcv, ↓rh_g0, ↓rh_g26, ↓rh_r79, ↓rh_w79, ↓be_y, ↓be_n, ↓bf_y, ↓bf_n, ↓bl_y, ↓bl_n, ↓bm_y, ↓bm_n, ↓bg_y, ↓bg_n, ↓bs_y, ↓bs_n, ↓bo_y, ↓bo_n, ↓bp_y, ↓bp_n, ↓forall_eq, ↓within_y, ↓within_n, ↓isIn_y, ↓isIn_n, and_true, true_and, and_self, us_at, us_ne, w32_id, um_eq, um_ne, um_um, uu_eq, uu_ne, uu_uu, vv_eq, vv_ne, vv_vv, ne_eq, not_false_eq_true, not_true_eq_false, reduceCtorEq, Int.reduceAdd, Int.reduceSub, Int.reduceMul, Int.reduceNeg, Nat.reduceEqDiff, or_true, true_or, true_implies, false_implies, Int.reduceLT, Int.reduceLE, Int.reduceEq, h1a, h1d, ms, hz, if_true]
      rw [mX12_layRows_J128]
      intro z hz'
      have z0 : z = 0 := by rcases hs with rfl | rfl <;> simp only [hz', ia2, ia4]
      subst z0
      refine go 0 h1b (by omega) (fun c hc' => h3 c (List.mem_cons_of_mem _ hc')) (by omega) (.inl rfl) ?_
      rw [if_neg (by omega)]
      exact q'
    | false =>
      rw [hz] at q'
      simp only [Bool.not_false, Bool.true_and] at q'
      simp (disch := first | omega | decide) only [w32_id, ↓rh_rcv, ↓rh_g0, ↓rh_g26, ↓rh_r79, ↓rh_w79, ↓be_y, ↓be_n, ↓bf_y, ↓bf_n, ↓bl_y, ↓bl_n, ↓bm_y, ↓bm_n, ↓bg_y, ↓bg_n, ↓bs_y, ↓bs_n, ↓bo_y, ↓bo_n, ↓bp_y, ↓bp_n, ↓forall_eq, ↓within_y, ↓within_n, ↓isIn_y, ↓isIn_n, and_true, true_and, and_self, us_at, us_ne, w32_id, um_eq, um_ne, um_um, uu_eq, uu_ne, uu_uu, vv_eq, vv_ne, vv_vv, ne_eq, not_false_eq_true, not_true_eq_false, reduceCtorEq, Int.reduceAdd, Int.reduceSub, Int.reduceMul, Int.reduceNeg, Nat.reduceEqDiff, or_true, true_or, true_implies, false_implies, Int.reduceLT, Int.reduceLE, Int.reduceEq, h1a, h1d, ms, hz, if_false, Bool.false_eq_true]
      rw [mX12_layRows_J128]
      intro z hz'
      have z0 : z = s := by rcases hs with rfl | rfl <;> simp only [hz', ia1, ia3]
      subst z0
      exact go z h1b (by omega) (fun c hc' => h3 c (List.mem_cons_of_mem _ hc')) (by omega) hs q'
theorem low_l {S W : Int → Int} {t m a3 a4 : Int} (hm : m ≤ 5) {F : hp} {X : Nat → Int → Int → Int → Int → hp → Prop} {Q : Int → hp → Prop} (q : X 69 t m (a3 + 1) (a4 + 1) (rh F u (um (um M 79 S) 85 (cpy S W 0 0 m)))) : ∀ (k : Nat) (i : Int), i + k = m → 0 ≤ i → mX12_layRows_L152 X Q (k + 1) 69 t m a3 a4 i (rh F u (um (um M 79 S) 85 (cpy S W 0 0 i))) := by
  intro k
  induction k with
  | zero =>
    intro i hi h0
    obtain rfl : i = m := by omega
    rw [mX12_layRows_L152]
    simp (disch := first | omega | decide) only [mX12_layRows_J178, mX12_layRows_J181, ↓rh_rcv, ↓rh_g0, ↓rh_g26, ↓rh_g33, ↓rh_r79, ↓rh_w79, ↓rh_r85, ↓rh_w85, ↓be_y, ↓be_n, ↓bf_y, ↓bf_n, ↓bl_y, ↓bl_n, ↓bm_y, ↓bm_n, ↓bg_y, ↓bg_n, ↓bs_y, ↓bs_n, ↓bo_y, ↓bo_n, ↓bp_y, ↓bp_n, ↓forall_eq, ↓within_y, ↓within_n, ↓isIn_y, ↓isIn_n, and_true, true_and, and_self, us_at, us_ne, w32_id, um_eq, um_ne, um_um, uu_eq, uu_ne, uu_uu, vv_eq, vv_ne, vv_vv, ne_eq, not_false_eq_true, not_true_eq_false, reduceCtorEq, Int.reduceAdd, Int.reduceSub, Int.reduceMul, Int.reduceNeg, Nat.reduceEqDiff, or_true, true_or, true_implies, false_implies, Int.reduceLT, Int.reduceLE, Int.reduceEq]
    exact q
  | succ k ih =>
    intro i hi h0
    rw [mX12_layRows_L152]
    simp (disch := first | omega | decide) only [w32_id, ↓rh_rcv, ↓rh_g0, ↓rh_g26, ↓rh_g33, ↓rh_r79, ↓rh_w79, ↓rh_r85, ↓rh_w85, ↓be_y, ↓be_n, ↓bf_y, ↓bf_n, ↓bl_y, ↓bl_n, ↓bm_y, ↓bm_n, ↓bg_y, ↓bg_n, ↓bs_y, ↓bs_n, ↓bo_y, ↓bo_n, ↓bp_y, ↓bp_n, ↓forall_eq, ↓within_y, ↓within_n, ↓isIn_y, ↓isIn_n, and_true, true_and, and_self, us_at, us_ne, w32_id, um_eq, um_ne, um_um, uu_eq, uu_ne, uu_uu, vv_eq, vv_ne, vv_vv, ne_eq, not_false_eq_true, not_true_eq_false, reduceCtorEq, Int.reduceAdd, Int.reduceSub, Int.reduceMul, Int.reduceNeg, Nat.reduceEqDiff, or_true, true_or, true_implies, false_implies, Int.reduceLT, Int.reduceLE, Int.reduceEq]
    have e := cpy_step (f := S) (g := W) (sp := 0) (dp := 0) h0
    rw [Int.zero_add] at e
    rw [e]
    exact ih (i + 1) (by omega) (by omega)
end LW
