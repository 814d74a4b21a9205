def aft (n P : Int) (s : std) (v : Nat → Nat → Int) (N : Nat → Int → Int) : Prop := v 56 5 = ((bfs P 2521 0 [(s, 0, 0)]).length : Int) ∧ (∀ (j : Nat) x, (bfs P 2521 0 [(s, 0, 0)])[j]? = some x → N 57 j = enc x.1 ∧ N 58 j = 9 * (x.2.1 : Int) + x.2.2) ∧ v 56 6 = n ∧ v 56 7 = P
def frv (v v' : Nat → Nat → Int) : Prop := ∀ h, h ≠ 56 → v' h = v h
section XP
variable {n P : Int} {v : Nat → Nat → Int} {N : Nat → Int → Int} {T : Nat → Int → Option Nat} {s0 s s' : std} {q : qt}
theorem fill_59 : ∀ (k : Nat) (i : Int) (U : Int → Int), i + k = 1024 → 0 ≤ i → (∀ j, 0 ≤ j → j < i → U j = 0) → ∃ U', (∀ j, 0 ≤ j → j < 1024 → U' j = 0) ∧ ∀ (F : hp) (Q : hp → Prop), Q (kh F v (um N 59 U') T) → mJ7_fill_53178_L5 Q (k + 1) (some 59) 0 i 1024 (kh F v (um N 59 U) T) := by
  intro k
  induction k with
  | zero =>
    intro i U hi h0 hU
    refine ⟨U, fun j j0 j1 => hU j j0 (by omega), fun F Q q => ?_⟩
    rw [mJ7_fill_53178_L5]
    simp (disch := first | omega | decide) only [w32_id, ↓kh_r59, ↓kh_w59, ↓kh_n59, ↓be_y, ↓be_n, ↓bf_y, ↓bf_n, ↓bl_y, ↓bl_n, ↓bm_y, ↓bm_n, ↓bg_y, ↓bg_n, ↓bs_y, ↓bs_n, ↓bo_y, ↓bo_n, ↓bp_y, ↓bp_n, ↓forall_eq, ↓within_y, ↓within_n, ↓isIn_y, ↓isIn_n, and_true, true_and, and_self, us_at, us_ne, w32_id, um_eq, um_ne, um_um, uu_eq, uu_ne, uu_uu, vv_eq, vv_ne, vv_vv, ne_eq, not_false_eq_true, not_true_eq_false, reduceCtorEq, Int.reduceAdd, Int.reduceSub, Int.reduceMul, Int.reduceNeg, Nat.reduceEqDiff, or_true, true_or, true_implies, false_implies, Int.reduceLT, Int.reduceLE, Int.reduceEq]
    exact q
  | succ k ih =>
    intro i U hi h0 hU
    obtain ⟨U', a1, a2⟩ := ih (i + 1) (us U i 0) (by omega) (by omega) (fun j j0 j1 => by
      by_cases d : j = i
      · rw [d, us_eq]
      · rw [us_ne d]; exact hU j j0 (by omega))
    refine ⟨U', a1, fun F Q q => ?_⟩
    rw [mJ7_fill_53178_L5]
    simp (disch := first | omega | decide) only [w32_id, ↓kh_r59, ↓kh_w59, ↓kh_n59, ↓be_y, ↓be_n, ↓bf_y, ↓bf_n, ↓bl_y, ↓bl_n, ↓bm_y, ↓bm_n, ↓bg_y, ↓bg_n, ↓bs_y, ↓bs_n, ↓bo_y, ↓bo_n, ↓bp_y, ↓bp_n, ↓forall_eq, ↓within_y, ↓within_n, ↓isIn_y, ↓isIn_n, and_true, true_and, and_self, us_at, us_ne, w32_id, um_eq, um_ne, um_um, uu_eq, uu_ne, uu_uu, vv_eq, vv_ne, vv_vv, ne_eq, not_false_eq_true, not_true_eq_false, reduceCtorEq, Int.reduceAdd, Int.reduceSub, Int.reduceMul, Int.reduceNeg, Nat.reduceEqDiff, or_true, true_or, true_implies, false_implies, Int.reduceLT, Int.reduceLE, Int.reduceEq]
    exact a2 F Q q
theorem bfs_ok (hn : n ≤ 5) : ∀ (k i : Nat) (q : qt), qok n s0 q → qok n s0 (bfs P k i q) := by
  intro k
  induction k with
  | zero => exact fun _ _ h => h
  | succ k ih =>
    intro i q h
    rw [bfs]
    by_cases d : i < q.length
    · rw [if_pos d]; exact ih _ _ (fold_ok (P := P) (i := i) hn 9 0 q rfl h d).1
    · rw [if_neg d]; exact h
theorem xp34 (hn : 0 ≤ n ∧ n ≤ 5) (hP : 0 ≤ P ∧ P ≤ 2147483647) (hs : svl n s) : ∃ v' N', aft n P s v' N' ∧ frv v v' ∧ frk N N' ∧ ∀ (F : hp) (Q : hp → Prop), Q (kh F v' N' T) → mX4_explore_J34 Q 56 (enc s) n P (kh F v N T) := by
  obtain ⟨U, u1, u2⟩ := fill_59 (v := vv (vv v 56 6 n) 56 7 P) (N := N) (T := T) 1024 0 (N 59) (by omega) (by omega) (fun j j0 j1 => by omega)
  obtain ⟨N1, a1, a2, -, a4⟩ := note_c (v := vv (vv v 56 6 n) 56 7 P) (T := T) (q := []) (N := um N 59 U) hn (fun x hx => absurd hx (by simp)) hs (fun _ => by simp) (by simp) ⟨fun j x hj => absurd hj (by simp), fun c c0 c1 => by
    rw [um_eq, u1 (c / 32) (by omega) (by omega), kb_0]
    constructor
    · exact fun t => absurd t (by decide)
    · rintro ⟨x, hx, -⟩
      exact absurd hx (by simp)⟩ 0 0 (w := 0) rfl
  have e : qadd [] 0 0 s = [(s, 0, 0)] := by
    unfold qadd
    rw [if_neg (by simp)]
    rfl
  rw [e] at a1 a4
  obtain ⟨N', b1, b2, b3, b4⟩ := ex66 (P := P) (v := vv (vv v 56 6 n) 56 7 P) (T := T) hn hP 2521 0 [(s, 0, 0)] N1 rfl (qok_0 hs) a1
  refine ⟨vv (vv (vv v 56 6 n) 56 7 P) 56 5 (bfs P 2521 0 [(s, 0, 0)]).length, N', ⟨by simp [vv, uu], b1.1, by simp [vv, uu], by simp [vv, uu]⟩, fun h hh => ?_, frk_t (fun j h1 h2 h3 h4 h5 => by rw [um_ne h3]) (frk_t a2 b3), fun F Q z => ?_⟩
  · simp only [vv, if_neg hh]
  · unfold mX4_explore_J34 mJ7_fill_53178
    simp (disch := first | omega | decide) only [w32_id, ↓kh_c56, ↓kh_g56_0, ↓kh_g56_1, ↓kh_g56_2, ↓kh_g56_3, ↓kh_g56_4, ↓kh_g56_5, ↓kh_p56_5, ↓kh_g56_6, ↓kh_p56_6, ↓kh_g56_7, ↓kh_p56_7, ↓kh_r57, ↓kh_w57, ↓kh_n57, ↓kh_r58, ↓kh_w58, ↓kh_n58, ↓kh_r59, ↓kh_w59, ↓kh_n59, ↓be_y, ↓be_n, ↓bf_y, ↓bf_n, ↓bl_y, ↓bl_n, ↓bm_y, ↓bm_n, ↓bg_y, ↓bg_n, ↓bs_y, ↓bs_n, ↓bo_y, ↓bo_n, ↓bp_y, ↓bp_n, ↓forall_eq, ↓within_y, ↓within_n, ↓isIn_y, ↓isIn_n, and_true, true_and, and_self, us_at, us_ne, w32_id, um_eq, um_ne, um_um, uu_eq, uu_ne, uu_uu, vv_eq, vv_ne, vv_vv, ne_eq, not_false_eq_true, not_true_eq_false, reduceCtorEq, Int.reduceAdd, Int.reduceSub, Int.reduceMul, Int.reduceNeg, Nat.reduceEqDiff, or_true, true_or, true_implies, false_implies, Int.reduceLT, Int.reduceLE, Int.reduceEq]
    refine ⟨1025, ?_⟩
    have g := u2 F (fun F4 => pF F4 (some 56) 4 5 (vi 0) (fun F5 => rcv F5 (some 56) 4 (fun o7 => mX4_note o7 (enc s) 0 F5 (fun F6 => (∃ k8, mX4_explore_L66 Q k8 56 n P 0 F6))))) (by
      simp (disch := first | omega | decide) only [w32_id, ↓kh_c56, ↓kh_g56_0, ↓kh_g56_1, ↓kh_g56_2, ↓kh_g56_3, ↓kh_g56_4, ↓kh_g56_5, ↓kh_p56_5, ↓kh_g56_6, ↓kh_p56_6, ↓kh_g56_7, ↓kh_p56_7, ↓be_y, ↓be_n, ↓bf_y, ↓bf_n, ↓bl_y, ↓bl_n, ↓bm_y, ↓bm_n, ↓bg_y, ↓bg_n, ↓bs_y, ↓bs_n, ↓bo_y, ↓bo_n, ↓bp_y, ↓bp_n, ↓forall_eq, ↓within_y, ↓within_n, ↓isIn_y, ↓isIn_n, and_true, true_and, and_self, us_at, us_ne, w32_id, um_eq, um_ne, um_um, uu_eq, uu_ne, uu_uu, vv_eq, vv_ne, vv_vv, ne_eq, not_false_eq_true, not_true_eq_false, reduceCtorEq, Int.reduceAdd, Int.reduceSub, Int.reduceMul, Int.reduceNeg, Nat.reduceEqDiff, or_true, true_or, true_implies, false_implies, Int.reduceLT, Int.reduceLE, Int.reduceEq]
      exact a4 F _ ⟨2522, b4 F Q z⟩)
    have e2 : um N 59 (N 59) = N := by
      funext j
      by_cases d : j = 59
      · subst d; rw [um_eq]
      · rw [um_ne d]
    rw [e2] at g
    exact g
theorem xp_c (hn : 0 ≤ n ∧ n ≤ 5) (hP : 0 ≤ P ∧ P ≤ 33554431) (hs : svl n s) (hH : jH (v 56 5) (v 56 6) (v 56 7) (N 57) (N 58)) : ∃ v' N', aft n P s v' N' ∧ frv v v' ∧ frk N N' ∧ ∀ (F : hp) (Q : hp → Prop), Q (kh F v' N' T) → mX4_explore 56 (enc s) n P (kh F v N T) Q := by
  obtain ⟨v1, N1, a1, a2, a3, a4⟩ := xp34 (v := v) (N := N) (T := T) hn (P := P) (by omega) hs
  have eb := enc_b hs hn.2
  obtain ⟨f0, hH⟩ := hH
  by_cases d : 0 < v 56 5
  · obtain ⟨s1, c1, c2, c3, c4, c5⟩ := hH d
    have ok := bfs_ok (P := v 56 7) c2.2 2521 0 _ (qok_0 c1)
    have ll := qok_len c2 ok
    have vb : v 56 5 ≤ 2520 := by omega
    have e0 := (c5 0 _ ok.1).1
    have e0 : N 57 0 = enc s1 := e0
    have eb1 := enc_b c1 c2.2
    by_cases d2 : N 57 0 = enc s
    · by_cases d3 : v 56 6 = n
      · by_cases d4 : v 56 7 = P
        · rw [d3] at c1
          have es := enc_inj hn c1 hs (by rw [← e0, d2])
          rw [es, d4] at c4 c5
          refine ⟨v, N, ⟨c4, c5, d3, d4⟩, fun _ _ => rfl, fun _ _ _ _ _ _ => rfl, fun F Q z => ?_⟩
          simp (disch := first | omega | decide) only [mX4_explore, ↓kh_c56, ↓kh_g56_0, ↓kh_g56_1, ↓kh_g56_2, ↓kh_g56_3, ↓kh_g56_4, ↓kh_g56_5, ↓kh_p56_5, ↓kh_g56_6, ↓kh_p56_6, ↓kh_g56_7, ↓kh_p56_7, ↓kh_r57, ↓kh_w57, ↓kh_n57, ↓be_y, ↓be_n, ↓bf_y, ↓bf_n, ↓bl_y, ↓bl_n, ↓bm_y, ↓bm_n, ↓bg_y, ↓bg_n, ↓bs_y, ↓bs_n, ↓bo_y, ↓bo_n, ↓bp_y, ↓bp_n, ↓forall_eq, ↓within_y, ↓within_n, ↓isIn_y, ↓isIn_n, and_true, true_and, and_self, us_at, us_ne, w32_id, um_eq, um_ne, um_um, uu_eq, uu_ne, uu_uu, vv_eq, vv_ne, vv_vv, ne_eq, not_false_eq_true, not_true_eq_false, reduceCtorEq, Int.reduceAdd, Int.reduceSub, Int.reduceMul, Int.reduceNeg, Nat.reduceEqDiff, or_true, true_or, true_implies, false_implies, Int.reduceLT, Int.reduceLE, Int.reduceEq]
          exact z
        · refine ⟨v1, N1, a1, a2, a3, fun F Q z => ?_⟩
          simp (disch := first | omega | decide) only [mX4_explore, ↓kh_c56, ↓kh_g56_0, ↓kh_g56_1, ↓kh_g56_2, ↓kh_g56_3, ↓kh_g56_4, ↓kh_g56_5, ↓kh_p56_5, ↓kh_g56_6, ↓kh_p56_6, ↓kh_g56_7, ↓kh_p56_7, ↓kh_r57, ↓kh_w57, ↓kh_n57, ↓be_y, ↓be_n, ↓bf_y, ↓bf_n, ↓bl_y, ↓bl_n, ↓bm_y, ↓bm_n, ↓bg_y, ↓bg_n, ↓bs_y, ↓bs_n, ↓bo_y, ↓bo_n, ↓bp_y, ↓bp_n, ↓forall_eq, ↓within_y, ↓within_n, ↓isIn_y, ↓isIn_n, and_true, true_and, and_self, us_at, us_ne, w32_id, um_eq, um_ne, um_um, uu_eq, uu_ne, uu_uu, vv_eq, vv_ne, vv_vv, ne_eq, not_false_eq_true, not_true_eq_false, reduceCtorEq, Int.reduceAdd, Int.reduceSub, Int.reduceMul, Int.reduceNeg, Nat.reduceEqDiff, or_true, true_or, true_implies, false_implies, Int.reduceLT, Int.reduceLE, Int.reduceEq]
          exact a4 F Q z
      · refine ⟨v1, N1, a1, a2, a3, fun F Q z => ?_⟩
        simp (disch := first | omega | decide) only [mX4_explore, ↓kh_c56, ↓kh_g56_0, ↓kh_g56_1, ↓kh_g56_2, ↓kh_g56_3, ↓kh_g56_4, ↓kh_g56_5, ↓kh_p56_5, ↓kh_g56_6, ↓kh_p56_6, ↓kh_g56_7, ↓kh_p56_7, ↓kh_r57, ↓kh_w57, ↓kh_n57, ↓be_y, ↓be_n, ↓bf_y, ↓bf_n, ↓bl_y, ↓bl_n, ↓bm_y, ↓bm_n, ↓bg_y, ↓bg_n, ↓bs_y, ↓bs_n, ↓bo_y, ↓bo_n, ↓bp_y, ↓bp_n, ↓forall_eq, ↓within_y, ↓within_n, ↓isIn_y, ↓isIn_n, and_true, true_and, and_self, us_at, us_ne, w32_id, um_eq, um_ne, um_um, uu_eq, uu_ne, uu_uu, vv_eq, vv_ne, vv_vv, ne_eq, not_false_eq_true, not_true_eq_false, reduceCtorEq, Int.reduceAdd, Int.reduceSub, Int.reduceMul, Int.reduceNeg, Nat.reduceEqDiff, or_true, true_or, true_implies, false_implies, Int.reduceLT, Int.reduceLE, Int.reduceEq]
        exact a4 F Q z
    · refine ⟨v1, N1, a1, a2, a3, fun F Q z => ?_⟩
      simp (disch := first | omega | decide) only [mX4_explore, ↓kh_c56, ↓kh_g56_0, ↓kh_g56_1, ↓kh_g56_2, ↓kh_g56_3, ↓kh_g56_4, ↓kh_g56_5, ↓kh_p56_5, ↓kh_g56_6, ↓kh_p56_6, ↓kh_g56_7, ↓kh_p56_7, ↓kh_r57, ↓kh_w57, ↓kh_n57, ↓be_y, ↓be_n, ↓bf_y, ↓bf_n, ↓bl_y, ↓bl_n, ↓bm_y, ↓bm_n, ↓bg_y, ↓bg_n, ↓bs_y, ↓bs_n, ↓bo_y, ↓bo_n, ↓bp_y, ↓bp_n, ↓forall_eq, ↓within_y, ↓within_n, ↓isIn_y, ↓isIn_n, and_true, true_and, and_self, us_at, us_ne, w32_id, um_eq, um_ne, um_um, uu_eq, uu_ne, uu_uu, vv_eq, vv_ne, vv_vv, ne_eq, not_false_eq_true, not_true_eq_false, reduceCtorEq, Int.reduceAdd, Int.reduceSub, Int.reduceMul, Int.reduceNeg, Nat.reduceEqDiff, or_true, true_or, true_implies, false_implies, Int.reduceLT, Int.reduceLE, Int.reduceEq]
      exact a4 F Q z
  · refine ⟨v1, N1, a1, a2, a3, fun F Q z => ?_⟩
    simp (disch := first | omega | decide) only [mX4_explore, ↓kh_c56, ↓kh_g56_0, ↓kh_g56_1, ↓kh_g56_2, ↓kh_g56_3, ↓kh_g56_4, ↓kh_g56_5, ↓kh_p56_5, ↓kh_g56_6, ↓kh_p56_6, ↓kh_g56_7, ↓kh_p56_7, ↓kh_r57, ↓kh_w57, ↓kh_n57, ↓be_y, ↓be_n, ↓bf_y, ↓bf_n, ↓bl_y, ↓bl_n, ↓bm_y, ↓bm_n, ↓bg_y, ↓bg_n, ↓bs_y, ↓bs_n, ↓bo_y, ↓bo_n, ↓bp_y, ↓bp_n, ↓forall_eq, ↓within_y, ↓within_n, ↓isIn_y, ↓isIn_n, and_true, true_and, and_self, us_at, us_ne, w32_id, um_eq, um_ne, um_um, uu_eq, uu_ne, uu_uu, vv_eq, vv_ne, vv_vv, ne_eq, not_false_eq_true, not_true_eq_false, reduceCtorEq, Int.reduceAdd, Int.reduceSub, Int.reduceMul, Int.reduceNeg, Nat.reduceEqDiff, or_true, true_or, true_implies, false_implies, Int.reduceLT, Int.reduceLE, Int.reduceEq]
    exact a4 F Q z
theorem aft_H (hn : 0 ≤ n ∧ n ≤ 5) (hP : 0 ≤ P ∧ P ≤ 33554431) (hs : svl n s) (h : aft n P s v N) : jH (v 56 5) (v 56 6) (v 56 7) (N 57) (N 58) := by
  obtain ⟨a, b, c, d⟩ := h
  refine ⟨by omega, fun _ => ⟨s, by rw [c]; exact hs, by rw [c]; exact hn, by rw [d]; exact hP, by rw [a, d], by rw [d]; exact b⟩⟩
end XP
