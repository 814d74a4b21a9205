-- ===== the reference's stand out of its number =====
section SS
variable {n : Int} {u : Nat → Int} {M : Nat → Int → Int} {s : std}
theorem brow_len (hn : 0 ≤ n) (h : svl n s) : ((brow s).length : Int) = n := by
  have := svl_l3 hn h
  unfold brow
  simp only [List.length_append, List.length_reverse]
  omega
theorem so_w (hn : 0 ≤ n ∧ n ≤ 5) (h : svl n s) : ∃ M', rrep s (M' 80) (M' 81) ∧ frm M M' ∧ ∀ (F : hp) (Q : hp → Prop), Q (rh F u M') → mX12_standSo 69 (num s) n (rh F u M) Q := by
  obtain ⟨t1, t2, -⟩ := stb_e hn h
  obtain ⟨d1, d2, d3⟩ := num_d hn h
  have nb := num_b hn h
  have l3 := svl_l3 hn.1 h
  have bl := brow_len hn.1 h
  obtain ⟨R', a1, a2⟩ := ss54 (u := u) (M := um M 81 (us (us (us (M 81) 0 s.1.length) 1 s.2.1.length) 2 s.2.2.length)) hn.2 n.toNat (lh 0 (brow s)) [] (M 80) (by rw [List.length_nil]; omega) (by omega) rfl (fun z hz => absurd hz (by simp))
  rw [t1] at a1
  refine ⟨um (um M 81 (us (us (us (M 81) 0 s.1.length) 1 s.2.1.length) 2 s.2.2.length)) 80 R', ⟨⟨?_, ?_, ?_⟩, ?_⟩, fun j j1 j2 => by rw [um_ne j1, um_ne j2], fun F Q q => ?_⟩
  · rw [um_ne (by decide), um_eq, us_ne (by decide), us_ne (by decide), us_eq]
  · rw [um_ne (by decide), um_eq, us_ne (by decide), us_eq]
  · rw [um_ne (by decide), um_eq, us_eq]
  · rw [um_eq]; exact a1
  · have g := a2 F Q q
    rw [Int.toNat_of_nonneg hn.1] at g
    have e1 : um (um M 81 (us (us (us (M 81) 0 s.1.length) 1 s.2.1.length) 2 s.2.2.length)) 80 (M 80) = um M 81 (us (us (us (M 81) 0 s.1.length) 1 s.2.1.length) 2 s.2.2.length) := by
      funext j
      by_cases d : j = 80
      · subst d; rw [um_eq, um_ne (by decide)]
      · rw [um_ne d]
    rw [e1] at g
    have w0 : w32 (num s) = num s := w32_id (by omega) (by omega)
    have w1 : (w32 ((num s).tdiv 6)).tmod 6 = s.1.length := by
      rw [td nb.1, w32_id (by omega) (by omega), tm (by omega)]; exact d2
    have w2 : (num s).tmod 6 = s.2.1.length := by rw [tm nb.1]; exact d1
    have w3 : (num s).tdiv 36 = lh 0 (brow s) := by rw [td nb.1]; exact d3
    have w4 : n - (s.1.length : Int) - s.2.1.length = s.2.2.length := by omega
    unfold mX12_standSo
    rw [w0, w1, w2, w3]
    simp (disch := first | omega | decide) only [w4, ↓rh_rcv, ↓rh_g27, ↓rh_g28, ↓rh_r80, ↓rh_w80, ↓rh_r81, ↓rh_w81, ↓be_y, ↓be_n, ↓bf_y, ↓bf_n, ↓bl_y, ↓bl_n, ↓bm_y, ↓bm_n, ↓bg_y, ↓bg_n, ↓bs_y, ↓bs_n, ↓bo_y, ↓bo_n, ↓bp_y, ↓bp_n, ↓forall_eq, ↓within_y, ↓within_n, ↓isIn_y, ↓isIn_n, and_true, true_and, and_self, us_at, us_ne, w32_id, um_eq, um_ne, um_um, uu_eq, uu_ne, uu_uu, vv_eq, vv_ne, vv_vv, ne_eq, not_false_eq_true, not_true_eq_false, reduceCtorEq, Int.reduceAdd, Int.reduceSub, Int.reduceMul, Int.reduceNeg, Nat.reduceEqDiff, or_true, true_or, true_implies, false_implies, Int.reduceLT, Int.reduceLE, Int.reduceEq]
    exact ⟨_, g⟩
end SS
