section DD
variable {n : Int} {u : Nat → Int} {M : Nat → Int → Int} {s : std}
theorem bmp_len {x : Int} {r : List Int} : (bmp x r).length = r.length := List.length_map _
theorem bmp_b {x : Int} {r : List Int} (h : ∀ z, z ∈ r → 0 ≤ z ∧ z < r.length) : ∀ z, z ∈ bmp x r → 0 ≤ z ∧ z < (r.length : Int) + 1 := fun z hz => by
  obtain ⟨y, hy, e⟩ := List.mem_map.1 hz
  have b := h y hy
  by_cases d : y < x
  · rw [if_pos d] at e; omega
  · rw [if_neg d] at e; omega
theorem ss54 (hn : n ≤ 5) : ∀ (k : Nat) (w : Int) (r : List Int) (R : Int → Int), (k : Int) + r.length = n → 0 ≤ w ∧ w < 4320 → tl R k r.length = r → (∀ z, z ∈ r → 0 ≤ z ∧ z < r.length) → ∃ R', tl R' 0 (dcd k w r).length = dcd k w r ∧ ∀ (F : hp) (Q : hp → Prop), Q (rh F u (um M 80 R')) → mX12_standSo_L54 Q (k + 1) 69 n w ((k : Int) - 1) (rh F u (um M 80 R)) := by
  intro k
  induction k with
  | zero =>
    intro w r R hl hw h hz
    refine ⟨R, h, fun F Q q => ?_⟩
    rw [mX12_standSo_L54]
    simp (disch := first | omega | decide) only [w32_id, ↓rh_rcv, ↓rh_g0, ↓be_y, ↓be_n, ↓bf_y, ↓bf_n, ↓bl_y, ↓bl_n, ↓bm_y, ↓bm_n, ↓bg_y, ↓bg_n, ↓bs_y, ↓bs_n, ↓bo_y, ↓bo_n, ↓bp_y, ↓bp_n, ↓forall_eq, ↓within_y, ↓within_n, ↓isIn_y, ↓isIn_n, and_true, true_and, and_self, us_at, us_ne, w32_id, um_eq, um_ne, um_um, uu_eq, uu_ne, uu_uu, vv_eq, vv_ne, vv_vv, ne_eq, not_false_eq_true, not_true_eq_false, reduceCtorEq, Int.reduceAdd, Int.reduceSub, Int.reduceMul, Int.reduceNeg, Nat.reduceEqDiff, or_true, true_or, true_implies, false_implies, Int.reduceLT, Int.reduceLE, Int.reduceEq]
    exact q
  | succ k ih =>
    intro w r R hl hw h hz
    have em : n - k = (r.length : Int) + 1 := by omega
    have x0 := Int.emod_nonneg w (show (r.length : Int) + 1 ≠ 0 by omega)
    have x1 := Int.emod_lt_of_pos w (show 0 < (r.length : Int) + 1 by omega)
    have d0 : 0 ≤ w / ((r.length : Int) + 1) := Int.ediv_nonneg hw.1 (by omega)
    have d1 : w / ((r.length : Int) + 1) ≤ w := Int.ediv_le_self _ hw.1
    have ek : ((k + 1 : Nat) : Int) = (k : Int) + 1 := by omega
    rw [ek] at h hl
    obtain ⟨R1, a1, a2, a3⟩ := ss85 (u := u) (M := M) (a3 := w / ((r.length : Int) + 1)) (a4 := (k : Int)) (x := w % ((r.length : Int) + 1)) (by omega) (by omega) hn r [] (us R k (w % ((r.length : Int) + 1))) (us_eq _ _ _) (by
      rw [List.nil_append]
      conv => rhs; rw [← h]
      exact tl_congr (fun i i0 i1 => us_ne (by omega))) (fun z hz' => by have := hz z hz'; omega) (by rw [List.length_nil]; omega)
    rw [List.nil_append, bmp_len] at a2
    obtain ⟨R', b1, b2⟩ := ih (w / ((r.length : Int) + 1)) ((w % ((r.length : Int) + 1)) :: bmp (w % ((r.length : Int) + 1)) r) R1 (by rw [List.length_cons, bmp_len]; omega) (by omega) (by
      rw [List.length_cons, bmp_len, show ((r.length + 1 : Nat) : Int) = (r.length : Int) + 1 by omega, tl_cons (by omega), a1, a2]) (fun z hz' => by
      rw [List.length_cons, bmp_len]
      rcases List.mem_cons.1 hz' with rfl | hz2
      · omega
      · have := bmp_b hz z hz2
        omega)
    refine ⟨R', b1, fun F Q q => ?_⟩
    have g := a3 F (fun o' a2' a3' a4' F' => mX12_standSo_L54 Q (k + 1) o' a2' a3' a4' F') Q (b2 F Q q)
    rw [List.length_nil, show (k : Int) + 1 + ((0 : Nat) : Int) = (k : Int) + 1 by omega] at g
    have e1 : (((k + 1 : Nat)) : Int) - 1 = (k : Int) := by omega
    have w1 : w.tmod ((r.length : Int) + 1) = w % ((r.length : Int) + 1) := tm hw.1
    have w2 : w.tdiv ((r.length : Int) + 1) = w / ((r.length : Int) + 1) := td hw.1
    have nz : ¬ (r.length : Int) + 1 = 0 := by omega
    rw [e1, mX12_standSo_L54]
    simp (disch := first | omega | decide) only [em, ↓rh_rcv, ↓rh_g27, ↓rh_r80, ↓rh_w80, ↓be_y, ↓be_n, ↓bf_y, ↓bf_n, ↓bl_y, ↓bl_n, ↓bm_y, ↓bm_n, ↓bg_y, ↓bg_n, ↓bs_y, ↓bs_n, ↓bo_y, ↓bo_n, ↓bp_y, ↓bp_n, ↓forall_eq, ↓within_y, ↓within_n, ↓isIn_y, ↓isIn_n, and_true, true_and, and_self, us_at, us_ne, w32_id, um_eq, um_ne, um_um, uu_eq, uu_ne, uu_uu, vv_eq, vv_ne, vv_vv, ne_eq, not_false_eq_true, not_true_eq_false, reduceCtorEq, Int.reduceAdd, Int.reduceSub, Int.reduceMul, Int.reduceNeg, Nat.reduceEqDiff, or_true, true_or, true_implies, false_implies, Int.reduceLT, Int.reduceLE, Int.reduceEq, w1, w2, nz]
    exact ⟨_, g⟩
end DD
