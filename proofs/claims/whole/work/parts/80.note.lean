-- ===== the class's search =====
def cin (q : qt) (N : Nat → Int → Int) : Prop := (∀ (j : Nat) x, q[j]? = some x → N 57 j = enc x.1 ∧ N 58 j = 9 * (x.2.1 : Int) + x.2.2) ∧ ∀ c : Int, 0 ≤ c → c < 32768 → (kb (N 59 (c / 32)) (c % 32).toNat = true ↔ ∃ x, x ∈ q ∧ enc x.1 = c)
def frk (N N' : Nat → Int → Int) : Prop := ∀ j, j ≠ 57 → j ≠ 58 → j ≠ 59 → j ≠ 60 → j ≠ 61 → N' j = N j
section NT
variable {n P : Int} {v : Nat → Nat → Int} {N : Nat → Int → Int} {T : Nat → Int → Option Nat} {s0 s s' : std} {q : qt}
theorem frk_t {N N' N'' : Nat → Int → Int} (a : frk N N') (b : frk N' N'') : frk N N'' := fun j h1 h2 h3 h4 h5 => by rw [b j h1 h2 h3 h4 h5, a j h1 h2 h3 h4 h5]
theorem cin_u {U W : Int → Int} (h : cin q N) : cin q (um (um N 60 U) 61 W) := by
  obtain ⟨a, b⟩ := h
  refine ⟨fun j x hj => ?_, fun c c0 c1 => ?_⟩
  · rw [um_ne (by decide), um_ne (by decide), um_ne (by decide), um_ne (by decide)]
    exact a j x hj
  · rw [um_ne (by decide), um_ne (by decide)]
    exact b c c0 c1
theorem note_c (hn : 0 ≤ n ∧ n ≤ 5) (hq : ∀ x, x ∈ q → svl n x.1) (hs : svl n s') (hl : s' ∉ q.map (fun x => x.1) → q.length < 2520) (hl2 : q.length ≤ 2520) (hc : cin q N) (i mv : Nat) {w : Int} (hw : w = 9 * (i : Int) + mv) : ∃ N', cin (qadd q i mv s') N' ∧ frk N N' ∧ N' 61 = N 61 ∧ ∀ (F : hp) (Q : hp → Prop), Q (kh F (vv v 56 5 (qadd q i mv s').length) N' T) → mX4_note 56 (enc s') w (kh F (vv v 56 5 q.length) N T) Q := by
  have cb := enc_b hs hn.2
  obtain ⟨h1, h2⟩ := hc
  have e1 : iShr (enc s') 5 = enc s' / 32 := shr_5 cb.1 (by omega)
  have e2 : iAnd (enc s') 31 = (((enc s' % 32).toNat : Nat) : Int) := by rw [and_31 cb.1 (by omega)]; omega
  have bb : (enc s' % 32).toNat < 32 := by omega
  have k := h2 (enc s') cb.1 cb.2
  by_cases d : s' ∈ q.map (fun x => x.1)
  · have ky : kb (N 59 (enc s' / 32)) (enc s' % 32).toNat = true := k.2 (by
      obtain ⟨x, hx, e⟩ := List.mem_map.1 d
      exact ⟨x, hx, by rw [e]⟩)
    have kf := kb_y bb ky
    refine ⟨N, ?_, fun _ _ _ _ _ _ => rfl, rfl, fun F Q z => ?_⟩
    · unfold qadd; rw [if_pos d]; exact ⟨h1, h2⟩
    · unfold qadd at z
      rw [if_pos d] at z
      unfold mX4_note
      rw [e1, e2]
      intro z1 hz1 z2 hz2
      subst hz1 hz2
      simp (disch := first | omega | decide) only [w32_id, ↓kh_c56, ↓kh_g56_0, ↓kh_g56_1, ↓kh_g56_2, ↓kh_g56_3, ↓kh_g56_4, ↓kh_g56_5, ↓kh_p56_5, ↓kh_g56_6, ↓kh_p56_6, ↓kh_g56_7, ↓kh_p56_7, ↓kh_r57, ↓kh_w57, ↓kh_n57, ↓kh_r58, ↓kh_w58, ↓kh_n58, ↓kh_r59, ↓kh_w59, ↓kh_n59, ↓be_y, ↓be_n, ↓bf_y, ↓bf_n, ↓bl_y, ↓bl_n, ↓bm_y, ↓bm_n, ↓bg_y, ↓bg_n, ↓bs_y, ↓bs_n, ↓bo_y, ↓bo_n, ↓bp_y, ↓bp_n, ↓forall_eq, ↓within_y, ↓within_n, ↓isIn_y, ↓isIn_n, and_true, true_and, and_self, us_at, us_ne, w32_id, um_eq, um_ne, um_um, uu_eq, uu_ne, uu_uu, vv_eq, vv_ne, vv_vv, ne_eq, not_false_eq_true, not_true_eq_false, reduceCtorEq, Int.reduceAdd, Int.reduceSub, Int.reduceMul, Int.reduceNeg, Nat.reduceEqDiff, or_true, true_or, true_implies, false_implies, Int.reduceLT, Int.reduceLE, Int.reduceEq, kf]
      exact z
  · have kn : kb (N 59 (enc s' / 32)) (enc s' % 32).toNat = false := by
      rw [Bool.eq_false_iff]
      intro t
      obtain ⟨x, hx, e⟩ := k.1 t
      have := enc_inj hn (hq x hx) hs e
      exact d (List.mem_map.2 ⟨x, hx, this⟩)
    have kf := kb_n bb kn
    have l := hl d
    refine ⟨um (um (um N 59 (us (N 59) (enc s' / 32) (iOr (N 59 (enc s' / 32)) (iShl 1 (((enc s' % 32).toNat : Nat) : Int))))) 57 (us (N 57) q.length (enc s'))) 58 (us (N 58) q.length w), ?_, fun j j1 j2 j3 j4 j5 => by rw [um_ne j2, um_ne j1, um_ne j3], by rw [um_ne (by decide), um_ne (by decide), um_ne (by decide)], fun F Q z => ?_⟩
    · unfold qadd
      rw [if_neg d]
      refine ⟨fun j x hj => ?_, fun c c0 c1 => ?_⟩
      · rw [um_eq, um_ne (by decide), um_eq]
        by_cases e : j < q.length
        · rw [List.getElem?_append_left e] at hj
          rw [us_ne (by omega), us_ne (by omega)]
          exact h1 j x hj
        · by_cases f : j = q.length
          · subst f
            rw [List.getElem?_append_right (Nat.le_refl _), Nat.sub_self] at hj
            simp only [List.getElem?_cons_zero, Option.some.injEq] at hj
            subst hj
            rw [us_eq, us_eq]
            exact ⟨rfl, hw⟩
          · rw [List.getElem?_eq_none (by rw [List.length_append, List.length_singleton]; omega)] at hj
            exact absurd hj (by simp)
      · rw [um_ne (by decide), um_ne (by decide), um_eq]
        have kc := h2 c c0 c1
        have im : (∃ x, x ∈ q ++ [(s', i, mv)] ∧ enc x.1 = c) ↔ (∃ x, x ∈ q ∧ enc x.1 = c) ∨ enc s' = c := by
          constructor
          · rintro ⟨x, hx, e⟩
            rcases List.mem_append.1 hx with t | t
            · exact .inl ⟨x, t, e⟩
            · rw [List.mem_singleton] at t
              subst t
              exact .inr e
          · rintro (⟨x, hx, e⟩ | e)
            · exact ⟨x, List.mem_append.2 (.inl hx), e⟩
            · exact ⟨_, List.mem_append.2 (.inr (List.mem_singleton.2 rfl)), e⟩
        rw [im, ← kc]
        by_cases e : c / 32 = enc s' / 32
        · rw [us_at e, kb_or bb, ← e, Bool.or_eq_true, Bool.and_eq_true, decide_eq_true_eq, decide_eq_true_eq]
          constructor
          · rintro (t | t)
            · exact .inl t
            · right; clear im kc k; omega
          · rintro (t | t)
            · exact .inl t
            · right; subst t; exact ⟨bb, rfl⟩
        · rw [us_ne e]
          constructor
          · exact fun t => .inl t
          · rintro (t | t)
            · exact t
            · subst t; exact absurd rfl e
    · unfold qadd at z
      rw [if_neg d, List.length_append, List.length_singleton, show ((q.length + 1 : Nat) : Int) = (q.length : Int) + 1 by omega] at z
      unfold mX4_note
      rw [e1, e2]
      intro z1 hz1 z2 hz2
      subst hz1 hz2
      simp (disch := first | omega | decide) only [w32_id, ↓kh_c56, ↓kh_g56_0, ↓kh_g56_1, ↓kh_g56_2, ↓kh_g56_3, ↓kh_g56_4, ↓kh_g56_5, ↓kh_p56_5, ↓kh_g56_6, ↓kh_p56_6, ↓kh_g56_7, ↓kh_p56_7, ↓kh_r57, ↓kh_w57, ↓kh_n57, ↓kh_r58, ↓kh_w58, ↓kh_n58, ↓kh_r59, ↓kh_w59, ↓kh_n59, ↓be_y, ↓be_n, ↓bf_y, ↓bf_n, ↓bl_y, ↓bl_n, ↓bm_y, ↓bm_n, ↓bg_y, ↓bg_n, ↓bs_y, ↓bs_n, ↓bo_y, ↓bo_n, ↓bp_y, ↓bp_n, ↓forall_eq, ↓within_y, ↓within_n, ↓isIn_y, ↓isIn_n, and_true, true_and, and_self, us_at, us_ne, w32_id, um_eq, um_ne, um_um, uu_eq, uu_ne, uu_uu, vv_eq, vv_ne, vv_vv, ne_eq, not_false_eq_true, not_true_eq_false, reduceCtorEq, Int.reduceAdd, Int.reduceSub, Int.reduceMul, Int.reduceNeg, Nat.reduceEqDiff, or_true, true_or, true_implies, false_implies, Int.reduceLT, Int.reduceLE, Int.reduceEq, kf]
      exact z
theorem ex98 (hn : 0 ≤ n ∧ n ≤ 5) (hP : 0 ≤ P ∧ P ≤ 2147483647) {i : Nat} {a : Nat × Nat} : ∀ (k m : Nat) (q : qt) (N : Nat → Int → Int), m + k = 9 → qok n s0 q → q[i]? = some (s, a) → cin q N → (∀ t, 0 ≤ t → t < 3 → N 61 t = top s t) → ∃ N', cin ((List.range' m k).foldl (bq1 P i) q) N' ∧ frk N N' ∧ ∀ (F : hp) (X : Nat → Int → Int → Int → hp → Prop) (Q : hp → Prop), X 56 n P ((i : Int) + 1) (kh F (vv v 56 5 ((List.range' m k).foldl (bq1 P i) q).length) N' T) → mX4_explore_L98 X Q (k + 1) 56 n P i m (kh F (vv v 56 5 q.length) N T) := by
  intro k
  induction k with
  | zero =>
    intro m q N hm ho hi hc ht
    obtain rfl : m = 9 := by omega
    refine ⟨N, hc, fun _ _ _ _ _ _ => rfl, fun F X Q z => ?_⟩
    rw [mX4_explore_L98]
    exact ⟨fun d => absurd d (by decide), fun _ => z⟩
  | succ k ih =>
    intro m q N hm ho hi hc ht
    have il : i < q.length := by
      rcases Nat.lt_or_ge i q.length with t | t
      · exact t
      · rw [List.getElem?_eq_none t] at hi; exact absurd hi (by simp)
    have ll := qok_len hn ho
    have mi : (s, a) ∈ q := List.mem_of_getElem? hi
    have hs : svl n s := ho.2.1 _ mi
    have rd : N 57 i = enc s := (hc.1 i _ hi).1
    have mc : ((m : Nat) : Int) + 1 = ((m + 1 : Nat) : Int) := by omega
    rw [List.range'_succ, List.foldl_cons]
    cases g : stp P s m with
    | none =>
      rw [bq1_n hi g]
      obtain ⟨N', a1, a2, a3⟩ := ih (m + 1) q N (by omega) ho hi hc ht
      refine ⟨N', a1, a2, fun F X Q z => ?_⟩
      rw [mX4_explore_L98]
      simp (disch := first | omega | decide) only [w32_id, ↓kh_c56, ↓kh_g56_0, ↓kh_g56_1, ↓kh_g56_2, ↓kh_g56_3, ↓kh_g56_4, ↓kh_g56_5, ↓kh_p56_5, ↓kh_g56_6, ↓kh_p56_6, ↓kh_g56_7, ↓kh_p56_7, ↓kh_r57, ↓kh_w57, ↓kh_n57, ↓be_y, ↓be_n, ↓bf_y, ↓bf_n, ↓bl_y, ↓bl_n, ↓bm_y, ↓bm_n, ↓bg_y, ↓bg_n, ↓bs_y, ↓bs_n, ↓bo_y, ↓bo_n, ↓bp_y, ↓bp_n, ↓forall_eq, ↓within_y, ↓within_n, ↓isIn_y, ↓isIn_n, and_true, true_and, and_self, us_at, us_ne, w32_id, um_eq, um_ne, um_um, uu_eq, uu_ne, uu_uu, vv_eq, vv_ne, vv_vv, ne_eq, not_false_eq_true, not_true_eq_false, reduceCtorEq, Int.reduceAdd, Int.reduceSub, Int.reduceMul, Int.reduceNeg, Nat.reduceEqDiff, or_true, true_or, true_implies, false_implies, Int.reduceLT, Int.reduceLE, Int.reduceEq, rd]
      refine moved_c hs hn.2 hP ht (mv := (m : Int)) (by omega) ?_
      rw [g]
      simp (disch := first | omega | decide) only [mX4_explore_J141, ↓kh_c56, ↓kh_g56_0, ↓kh_g56_1, ↓kh_g56_2, ↓kh_g56_3, ↓kh_g56_4, ↓kh_g56_5, ↓kh_p56_5, ↓kh_g56_6, ↓kh_p56_6, ↓kh_g56_7, ↓kh_p56_7, ↓be_y, ↓be_n, ↓bf_y, ↓bf_n, ↓bl_y, ↓bl_n, ↓bm_y, ↓bm_n, ↓bg_y, ↓bg_n, ↓bs_y, ↓bs_n, ↓bo_y, ↓bo_n, ↓bp_y, ↓bp_n, ↓forall_eq, ↓within_y, ↓within_n, ↓isIn_y, ↓isIn_n, and_true, true_and, and_self, us_at, us_ne, w32_id, um_eq, um_ne, um_um, uu_eq, uu_ne, uu_uu, vv_eq, vv_ne, vv_vv, ne_eq, not_false_eq_true, not_true_eq_false, reduceCtorEq, Int.reduceAdd, Int.reduceSub, Int.reduceMul, Int.reduceNeg, Nat.reduceEqDiff, or_true, true_or, true_implies, false_implies, Int.reduceLT, Int.reduceLE, Int.reduceEq, mc]
      exact a3 F X Q z
    | some s' =>
      have hs' := stp_v hn.2 hs (by omega) g
      have eb := enc_b hs' hn.2
      rw [bq1_y hi g]
      obtain ⟨ok', l, el⟩ := qadd_ok ho il (mv := m) (by omega) hs'
      obtain ⟨N1, b1, b2, b3, b4⟩ := note_c (v := v) (T := T) hn ho.2.1 hs' (fun d => by
        have := qok_len hn (qok_put ho il (mv := m) (by omega) hs' d)
        rw [List.length_append, List.length_singleton] at this
        omega) ll hc i m (w := 9 * (i : Int) + m) rfl
      obtain ⟨N', a1, a2, a3⟩ := ih (m + 1) (qadd q i m s') N1 (by omega) ok' (by rw [el, List.getElem?_append_left il]; exact hi) b1 (fun t t0 t1 => by rw [b3]; exact ht t t0 t1)
      refine ⟨N', a1, frk_t b2 a2, fun F X Q z => ?_⟩
      rw [mX4_explore_L98]
      simp (disch := first | omega | decide) only [w32_id, ↓kh_c56, ↓kh_g56_0, ↓kh_g56_1, ↓kh_g56_2, ↓kh_g56_3, ↓kh_g56_4, ↓kh_g56_5, ↓kh_p56_5, ↓kh_g56_6, ↓kh_p56_6, ↓kh_g56_7, ↓kh_p56_7, ↓kh_r57, ↓kh_w57, ↓kh_n57, ↓be_y, ↓be_n, ↓bf_y, ↓bf_n, ↓bl_y, ↓bl_n, ↓bm_y, ↓bm_n, ↓bg_y, ↓bg_n, ↓bs_y, ↓bs_n, ↓bo_y, ↓bo_n, ↓bp_y, ↓bp_n, ↓forall_eq, ↓within_y, ↓within_n, ↓isIn_y, ↓isIn_n, and_true, true_and, and_self, us_at, us_ne, w32_id, um_eq, um_ne, um_um, uu_eq, uu_ne, uu_uu, vv_eq, vv_ne, vv_vv, ne_eq, not_false_eq_true, not_true_eq_false, reduceCtorEq, Int.reduceAdd, Int.reduceSub, Int.reduceMul, Int.reduceNeg, Nat.reduceEqDiff, or_true, true_or, true_implies, false_implies, Int.reduceLT, Int.reduceLE, Int.reduceEq, rd]
      refine moved_c hs hn.2 hP ht (mv := (m : Int)) (by omega) ?_
      rw [g]
      simp (disch := first | omega | decide) only [w32_id, ↓kh_c56, ↓kh_g56_0, ↓kh_g56_1, ↓kh_g56_2, ↓kh_g56_3, ↓kh_g56_4, ↓kh_g56_5, ↓kh_p56_5, ↓kh_g56_6, ↓kh_p56_6, ↓kh_g56_7, ↓kh_p56_7, ↓be_y, ↓be_n, ↓bf_y, ↓bf_n, ↓bl_y, ↓bl_n, ↓bm_y, ↓bm_n, ↓bg_y, ↓bg_n, ↓bs_y, ↓bs_n, ↓bo_y, ↓bo_n, ↓bp_y, ↓bp_n, ↓forall_eq, ↓within_y, ↓within_n, ↓isIn_y, ↓isIn_n, and_true, true_and, and_self, us_at, us_ne, w32_id, um_eq, um_ne, um_um, uu_eq, uu_ne, uu_uu, vv_eq, vv_ne, vv_vv, ne_eq, not_false_eq_true, not_true_eq_false, reduceCtorEq, Int.reduceAdd, Int.reduceSub, Int.reduceMul, Int.reduceNeg, Nat.reduceEqDiff, or_true, true_or, true_implies, false_implies, Int.reduceLT, Int.reduceLE, Int.reduceEq]
      refine b4 F _ ?_
      simp (disch := first | omega | decide) only [mX4_explore_J141, ↓kh_c56, ↓kh_g56_0, ↓kh_g56_1, ↓kh_g56_2, ↓kh_g56_3, ↓kh_g56_4, ↓kh_g56_5, ↓kh_p56_5, ↓kh_g56_6, ↓kh_p56_6, ↓kh_g56_7, ↓kh_p56_7, ↓be_y, ↓be_n, ↓bf_y, ↓bf_n, ↓bl_y, ↓bl_n, ↓bm_y, ↓bm_n, ↓bg_y, ↓bg_n, ↓bs_y, ↓bs_n, ↓bo_y, ↓bo_n, ↓bp_y, ↓bp_n, ↓forall_eq, ↓within_y, ↓within_n, ↓isIn_y, ↓isIn_n, and_true, true_and, and_self, us_at, us_ne, w32_id, um_eq, um_ne, um_um, uu_eq, uu_ne, uu_uu, vv_eq, vv_ne, vv_vv, ne_eq, not_false_eq_true, not_true_eq_false, reduceCtorEq, Int.reduceAdd, Int.reduceSub, Int.reduceMul, Int.reduceNeg, Nat.reduceEqDiff, or_true, true_or, true_implies, false_implies, Int.reduceLT, Int.reduceLE, Int.reduceEq, mc]
      exact a3 F X Q z
theorem ex66 (hn : 0 ≤ n ∧ n ≤ 5) (hP : 0 ≤ P ∧ P ≤ 2147483647) : ∀ (k i : Nat) (q : qt) (N : Nat → Int → Int), k + i = 2521 → qok n s0 q → cin q N → ∃ N', cin (bfs P k i q) N' ∧ qok n s0 (bfs P k i q) ∧ frk N N' ∧ ∀ (F : hp) (Q : hp → Prop), Q (kh F (vv v 56 5 (bfs P k i q).length) N' T) → mX4_explore_L66 Q (k + 1) 56 n P i (kh F (vv v 56 5 q.length) N T) := by
  intro k
  induction k with
  | zero =>
    intro i q N hk ho hc
    have ll := qok_len hn ho
    refine ⟨N, hc, ho, fun _ _ _ _ _ _ => rfl, fun F Q z => ?_⟩
    rw [mX4_explore_L66]
    simp (disch := first | omega | decide) only [w32_id, ↓kh_c56, ↓kh_g56_0, ↓kh_g56_1, ↓kh_g56_2, ↓kh_g56_3, ↓kh_g56_4, ↓kh_g56_5, ↓kh_p56_5, ↓kh_g56_6, ↓kh_p56_6, ↓kh_g56_7, ↓kh_p56_7, ↓be_y, ↓be_n, ↓bf_y, ↓bf_n, ↓bl_y, ↓bl_n, ↓bm_y, ↓bm_n, ↓bg_y, ↓bg_n, ↓bs_y, ↓bs_n, ↓bo_y, ↓bo_n, ↓bp_y, ↓bp_n, ↓forall_eq, ↓within_y, ↓within_n, ↓isIn_y, ↓isIn_n, and_true, true_and, and_self, us_at, us_ne, w32_id, um_eq, um_ne, um_um, uu_eq, uu_ne, uu_uu, vv_eq, vv_ne, vv_vv, ne_eq, not_false_eq_true, not_true_eq_false, reduceCtorEq, Int.reduceAdd, Int.reduceSub, Int.reduceMul, Int.reduceNeg, Nat.reduceEqDiff, or_true, true_or, true_implies, false_implies, Int.reduceLT, Int.reduceLE, Int.reduceEq]
    exact z
  | succ k ih =>
    intro i q N hk ho hc
    have ll := qok_len hn ho
    rw [bfs]
    by_cases d : i < q.length
    · rw [if_pos d]
      have e : q[i]? = some (q[i].1, q[i].2) := List.getElem?_eq_getElem d
      have hs : svl n q[i].1 := ho.2.1 _ (List.getElem_mem d)
      have rd : N 57 i = enc q[i].1 := (hc.1 i _ e).1
      obtain ⟨U, W, w1, w2⟩ := tops_c (v := vv v 56 5 q.length) (N := N) (T := T) hs hn
      obtain ⟨N1, b1, b2, b3⟩ := ex98 (v := v) (T := T) hn hP 9 0 q (um (um N 60 U) 61 W) rfl ho e (cin_u hc) (fun t t0 t1 => by rw [um_eq]; exact w1 t t0 t1)
      obtain ⟨o1, l, el⟩ := fold_ok (P := P) (i := i) hn.2 9 0 q rfl ho d
      obtain ⟨N', a1, a2, a3, a4⟩ := ih (i + 1) (bq P i q) N1 (by omega) o1 b1
      refine ⟨N', a1, a2, frk_t (fun j h1 h2 h3 h4 h5 => by rw [um_ne h5, um_ne h4]) (frk_t b2 a3), fun F Q z => ?_⟩
      rw [mX4_explore_L66]
      simp (disch := first | omega | decide) only [w32_id, ↓kh_c56, ↓kh_g56_0, ↓kh_g56_1, ↓kh_g56_2, ↓kh_g56_3, ↓kh_g56_4, ↓kh_g56_5, ↓kh_p56_5, ↓kh_g56_6, ↓kh_p56_6, ↓kh_g56_7, ↓kh_p56_7, ↓kh_r57, ↓kh_w57, ↓kh_n57, ↓be_y, ↓be_n, ↓bf_y, ↓bf_n, ↓bl_y, ↓bl_n, ↓bm_y, ↓bm_n, ↓bg_y, ↓bg_n, ↓bs_y, ↓bs_n, ↓bo_y, ↓bo_n, ↓bp_y, ↓bp_n, ↓forall_eq, ↓within_y, ↓within_n, ↓isIn_y, ↓isIn_n, and_true, true_and, and_self, us_at, us_ne, w32_id, um_eq, um_ne, um_um, uu_eq, uu_ne, uu_uu, vv_eq, vv_ne, vv_vv, ne_eq, not_false_eq_true, not_true_eq_false, reduceCtorEq, Int.reduceAdd, Int.reduceSub, Int.reduceMul, Int.reduceNeg, Nat.reduceEqDiff, or_true, true_or, true_implies, false_implies, Int.reduceLT, Int.reduceLE, Int.reduceEq, rd]
      refine w2 F _ ?_
      exact ⟨_, b3 F _ Q (a4 F Q z)⟩
    · rw [if_neg d]
      refine ⟨N, hc, ho, fun _ _ _ _ _ _ => rfl, fun F Q z => ?_⟩
      rw [mX4_explore_L66]
      simp (disch := first | omega | decide) only [w32_id, ↓kh_c56, ↓kh_g56_0, ↓kh_g56_1, ↓kh_g56_2, ↓kh_g56_3, ↓kh_g56_4, ↓kh_g56_5, ↓kh_p56_5, ↓kh_g56_6, ↓kh_p56_6, ↓kh_g56_7, ↓kh_p56_7, ↓be_y, ↓be_n, ↓bf_y, ↓bf_n, ↓bl_y, ↓bl_n, ↓bm_y, ↓bm_n, ↓bg_y, ↓bg_n, ↓bs_y, ↓bs_n, ↓bo_y, ↓bo_n, ↓bp_y, ↓bp_n, ↓forall_eq, ↓within_y, ↓within_n, ↓isIn_y, ↓isIn_n, and_true, true_and, and_self, us_at, us_ne, w32_id, um_eq, um_ne, um_um, uu_eq, uu_ne, uu_uu, vv_eq, vv_ne, vv_vv, ne_eq, not_false_eq_true, not_true_eq_false, reduceCtorEq, Int.reduceAdd, Int.reduceSub, Int.reduceMul, Int.reduceNeg, Nat.reduceEqDiff, or_true, true_or, true_implies, false_implies, Int.reduceLT, Int.reduceLE, Int.reduceEq]
      exact z
end NT
