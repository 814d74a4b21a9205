-- ===== steps are kept =====
theorem yok_cg {Y Y' : Int → Int} (h : yok Y) (e : ∀ k, 0 ≤ k → k < 60 → Y' k = Y k) : yok Y' := yok_mk h (fun k hk => e k (by omega) (by omega)) (by rw [e 0 (by omega) (by omega)]; exact h.1) (by rw [e 1 (by omega) (by omega)]; exact h.2.1) (by rw [e 2 (by omega) (by omega)]; exact h.2.2.1) (by rw [e 3 (by omega) (by omega)]; exact h.2.2.2.1) (by rw [e 5 (by omega) (by omega)]; exact h.2.2.2.2.2.1) (by rw [e 29 (by omega) (by omega)]; exact h.2.2.2.2.2.2.1) (fun c g0 g1 => by rw [e (6 + c) (by omega) (by omega)]; exact h.2.2.2.2.2.2.2.1 c g0 g1)
theorem zs_r {k : Int} (h : 0 ≤ k ∧ k < 60) : 0 ≤ zs k ∧ zs k < 60 := by
  unfold zs
  repeat' split
  all_goals omega
theorem za_1 {s : Int} (h : 0 < s ∧ s < 30) : za s = s + 6 := by unfold za; rw [if_neg (by omega), if_pos (by omega)]
theorem za_2 {s : Int} (h : 30 ≤ s) : za s = s + 1894 := by unfold za; rw [if_neg (by omega), if_neg (by omega)]
theorem yrel_cg {Y Y' S S' : Int → Int} (h : yrel Y S) (e : ∀ k, 0 ≤ k → k < 60 → Y' k = Y k) (f : ∀ s, 0 ≤ s → s < 60 → S' s = S s) : yrel Y' S' := by
  refine ⟨fun k g0 g1 => ?_, yok_cg h.2.1 e, fun i g0 g1 => ?_⟩
  · have z := zs_r ⟨g0, g1⟩
    rw [e k g0 g1, f _ z.1 z.2]
    exact h.1 k g0 g1
  · rw [f i (by omega) g1]
    exact h.2.2 i g0 g1
def kpB (A : Int → Int) : Int → Int := if A 3 = 30 then us (cpy A A 184 124 1740) 3 29 else A
def kpC (B : Int → Int) (x : Int) : Int → Int := us (cpy B (cpy B (us B x (B 0)) 7 (x + 1) 29) 1924 (x + 1 + 29) 30) 3 (B 3 + 1)
def kpA (A : Int → Int) : Int → Int := kpC (kpB A) (124 + 60 * kpB A 3)
theorem kpC_o {B : Int → Int} {x i : Int} (hx : 124 ≤ x) (hi : i ≠ 3 ∧ (i < x ∨ x + 60 ≤ i)) : kpC B x i = B i := by
  unfold kpC
  rw [us_ne hi.1, cpy_out (by omega), cpy_out (by omega), us_ne (by omega)]
theorem kpC_3 {B : Int → Int} {x : Int} : kpC B x 3 = B 3 + 1 := us_eq _ _ _
theorem kpC_x {B : Int → Int} {x s : Int} (hx : 124 ≤ x) (hs : 0 ≤ s ∧ s < 60) : kpC B x (x + s) = B (za s) := by
  unfold kpC
  rw [us_ne (by omega)]
  by_cases d : s = 0
  · subst d
    rw [cpy_out (by omega), cpy_out (by omega), us_at (by omega)]
    rfl
  · by_cases d2 : s < 30
    · rw [cpy_out (by omega), cpy_in (by omega), za_1 (by omega)]
      congr 1
      omega
    · rw [cpy_in (by omega), za_2 (by omega)]
      congr 1
      omega
theorem za_b {s : Int} (hs : 0 ≤ s ∧ s < 60) : za s = 0 ∨ (7 ≤ za s ∧ za s < 36) ∨ (1924 ≤ za s ∧ za s < 1954) := by
  unfold za
  repeat' split
  all_goals omega
theorem jK_keep {Y K A : Int → Int} {e k : Int} (hY : jY Y A) (hK : jK e k K A) : jK (if k < 30 then e else (e + 1) % 30) (if k < 30 then k + 1 else k) (cpy Y K 0 ((e + k) % 30 * 60) 60) (kpA A) ∧ (∀ i, ¬ (i = 3 ∨ (124 ≤ i ∧ i < 1924)) → kpA A i = A i) := by
  obtain ⟨h1, ⟨h2, h2a, h2b⟩, h3⟩ := hK
  by_cases d : A 3 = 30
  · have eB : kpB A = us (cpy A A 184 124 1740) 3 29 := by unfold kpB; rw [if_pos d]
    have eB3 : kpB A 3 = 29 := by rw [eB, us_eq]
    have eA : kpA A = kpC (kpB A) 1864 := by unfold kpA; rw [eB3]; rfl
    have b0 : ∀ i, ¬ (i = 3 ∨ (124 ≤ i ∧ i < 1864)) → kpB A i = A i := fun i hi => by rw [eB, us_ne (by omega), cpy_out (by omega)]
    have ag : ∀ i, ¬ (i = 3 ∨ (124 ≤ i ∧ i < 1924)) → kpA A i = A i := fun i hi => by rw [eA, kpC_o (by omega) (by omega), b0 i (by omega)]
    refine ⟨⟨by rw [if_neg (by omega)]; omega, ?_, fun j j0 j1 => ?_⟩, ag⟩
    · rw [if_neg (by omega), eA, kpC_3, eB3]
      omega
    · rw [eA, kpC_3, eB3] at j1
      rw [if_neg (by omega), ag 0 (by omega)]
      by_cases d2 : j = 29
      · subst d2
        refine ⟨yrel_cg hY (fun i g0 g1 => ?_) (fun s g0 g1 => ?_), ?_⟩
        · rw [cpy_in (by omega)]
          congr 1
          omega
        · rw [eA, show (124 : Int) + 60 * 29 + s = 1864 + s by omega, kpC_x (by omega) ⟨g0, g1⟩, b0 _ (by have := za_b ⟨g0, g1⟩; omega)]
        · rw [eA, show (124 : Int) + 60 * 29 = 1864 + 0 by omega, kpC_x (by omega) (by omega), b0 _ (by have := za_b (s := 0) (by omega); omega)]
          show A (za 0) ≤ A 0
          exact Int.le_refl _
      · obtain ⟨r1, r2⟩ := h3 (j + 1) (by omega) (by omega)
        refine ⟨yrel_cg r1 (fun i g0 g1 => ?_) (fun s g0 g1 => ?_), ?_⟩
        · rw [cpy_out (by omega)]
          congr 1
          omega
        · rw [eA, kpC_o (by omega) (by omega), eB, us_ne (by omega), cpy_in (by omega)]
          congr 1
          omega
        · rw [eA, kpC_o (by omega) (by omega), eB, us_ne (by omega), cpy_in (by omega), show 184 + (124 + 60 * j - 124) = 124 + 60 * (j + 1) by omega]
          exact r2
  · have eB : kpB A = A := by unfold kpB; rw [if_neg d]
    have eA : kpA A = kpC A (124 + 60 * A 3) := by unfold kpA; rw [eB]
    have ag : ∀ i, ¬ (i = 3 ∨ (124 ≤ i ∧ i < 1924)) → kpA A i = A i := fun i hi => by rw [eA, kpC_o (by omega) (by omega)]
    refine ⟨⟨by rw [if_pos (by omega)]; omega, ?_, fun j j0 j1 => ?_⟩, ag⟩
    · rw [if_pos (by omega), eA, kpC_3]
      omega
    · rw [eA, kpC_3] at j1
      rw [if_pos (by omega), ag 0 (by omega)]
      by_cases d2 : j = A 3
      · subst d2
        refine ⟨yrel_cg hY (fun i g0 g1 => ?_) (fun s g0 g1 => ?_), ?_⟩
        · rw [cpy_in (by omega)]
          congr 1
          omega
        · rw [eA, kpC_x (by omega) ⟨g0, g1⟩]
        · rw [eA]
          have := kpC_x (B := A) (x := 124 + 60 * A 3) (s := 0) (by omega) (by omega)
          rw [Int.add_zero] at this
          rw [this]
          exact Int.le_refl _
      · obtain ⟨r1, r2⟩ := h3 j j0 (by omega)
        refine ⟨yrel_cg r1 (fun i g0 g1 => ?_) (fun s g0 g1 => ?_), ?_⟩
        · rw [cpy_out (by omega)]
        · rw [eA, kpC_o (by omega) (by omega)]
        · rw [eA, kpC_o (by omega) (by omega)]
          exact r2
theorem vv_self (v : Nat → Nat → Int) (h k : Nat) : vv v h k (v h k) = v := by
  funext j
  by_cases hj : j = h
  · subst hj
    rw [vv_eq]
    funext i
    by_cases hi : i = k <;> simp [uu, hi]
  · rw [vv_ne hj]
theorem um_self (M : Nat → Int → Int) (h : Nat) : um M h (M h) = M := by funext j; by_cases hj : j = h <;> simp [um, hj]
section KP
variable {F : hp} {u : Nat → Int} {M : Nat → Int → Int} {v : Nat → Nat → Int} {N : Nat → Int → Int} {T : Nat → Int → Option Nat} {Q : hp → Prop}
theorem kp115 {B C : Int → Int} {x : Int} (hx : 124 ≤ x ∧ x ≤ 1864) (hC : ∀ i, 1924 ≤ i → C i = B i) (hC3 : C 3 = B 3) (q : Q (rh F u (um M 70 (us (cpy B C 1924 (x + 1 + 29) 30) 3 (B 3 + 1))))) : ∀ (k : Nat) (i : Int), i + k = 30 → 0 ≤ i → mX12_keep_L115 Q (k + 1) 69 x i (rh F u (um M 70 (cpy B C 1924 (x + 1 + 29) i))) := by
  intro k
  induction k with
  | zero =>
    intro i hi h0
    obtain rfl : i = 30 := by omega
    rw [mX12_keep_L115]
    simp (disch := first | omega | decide) only [cpy_out, hC3, ↓rh_rcv, ↓rh_g0, ↓rh_r70, ↓rh_w70, ↓be_y, ↓be_n, ↓bf_y, ↓bf_n, ↓bl_y, ↓bl_n, ↓bm_y, ↓bm_n, ↓bg_y, ↓bg_n, ↓bs_y, ↓bs_n, ↓bo_y, ↓bo_n, ↓bp_y, ↓bp_n, ↓forall_eq, ↓within_y, ↓within_n, ↓isIn_y, ↓isIn_n, and_true, true_and, and_self, us_at, us_ne, w32_id, um_eq, um_ne, um_um, uu_eq, uu_ne, uu_uu, vv_eq, vv_ne, vv_vv, ne_eq, not_false_eq_true, not_true_eq_false, reduceCtorEq, Int.reduceAdd, Int.reduceSub, Int.reduceMul, Int.reduceNeg, Nat.reduceEqDiff, or_true, true_or, true_implies, false_implies, Int.reduceLT, Int.reduceLE, Int.reduceEq]
    exact q
  | succ k ih =>
    intro i hi h0
    rw [mX12_keep_L115]
    simp (disch := first | omega | decide) only [cpy_out, hC, ↓rh_rcv, ↓rh_g0, ↓rh_r70, ↓rh_w70, ↓be_y, ↓be_n, ↓bf_y, ↓bf_n, ↓bl_y, ↓bl_n, ↓bm_y, ↓bm_n, ↓bg_y, ↓bg_n, ↓bs_y, ↓bs_n, ↓bo_y, ↓bo_n, ↓bp_y, ↓bp_n, ↓forall_eq, ↓within_y, ↓within_n, ↓isIn_y, ↓isIn_n, and_true, true_and, and_self, us_at, us_ne, w32_id, um_eq, um_ne, um_um, uu_eq, uu_ne, uu_uu, vv_eq, vv_ne, vv_vv, ne_eq, not_false_eq_true, not_true_eq_false, reduceCtorEq, Int.reduceAdd, Int.reduceSub, Int.reduceMul, Int.reduceNeg, Nat.reduceEqDiff, or_true, true_or, true_implies, false_implies, Int.reduceLT, Int.reduceLE, Int.reduceEq]
    rw [cpy_step (by omega)]
    exact ih (i + 1) (by omega) (by omega)
theorem kp82 {B C : Int → Int} {x : Int} (hx : 124 ≤ x ∧ x ≤ 1864) (hC : ∀ i, i < 124 → C i = B i) (q : ∃ k, mX12_keep_L115 Q k 69 x 0 (rh F u (um M 70 (cpy B C 7 (x + 1) 29)))) : ∀ (k : Nat) (i : Int), i + k = 29 → 0 ≤ i → mX12_keep_L82 Q (k + 1) 69 x i (rh F u (um M 70 (cpy B C 7 (x + 1) i))) := by
  intro k
  induction k with
  | zero =>
    intro i hi h0
    obtain rfl : i = 29 := by omega
    rw [mX12_keep_L82]
    simp (disch := first | omega | decide) only [w32_id, ↓rh_rcv, ↓rh_g0, ↓rh_r70, ↓rh_w70, ↓be_y, ↓be_n, ↓bf_y, ↓bf_n, ↓bl_y, ↓bl_n, ↓bm_y, ↓bm_n, ↓bg_y, ↓bg_n, ↓bs_y, ↓bs_n, ↓bo_y, ↓bo_n, ↓bp_y, ↓bp_n, ↓forall_eq, ↓within_y, ↓within_n, ↓isIn_y, ↓isIn_n, and_true, true_and, and_self, us_at, us_ne, w32_id, um_eq, um_ne, um_um, uu_eq, uu_ne, uu_uu, vv_eq, vv_ne, vv_vv, ne_eq, not_false_eq_true, not_true_eq_false, reduceCtorEq, Int.reduceAdd, Int.reduceSub, Int.reduceMul, Int.reduceNeg, Nat.reduceEqDiff, or_true, true_or, true_implies, false_implies, Int.reduceLT, Int.reduceLE, Int.reduceEq]
    exact q
  | succ k ih =>
    intro i hi h0
    rw [mX12_keep_L82]
    simp (disch := first | omega | decide) only [cpy_out, hC, ↓rh_rcv, ↓rh_g0, ↓rh_r70, ↓rh_w70, ↓be_y, ↓be_n, ↓bf_y, ↓bf_n, ↓bl_y, ↓bl_n, ↓bm_y, ↓bm_n, ↓bg_y, ↓bg_n, ↓bs_y, ↓bs_n, ↓bo_y, ↓bo_n, ↓bp_y, ↓bp_n, ↓forall_eq, ↓within_y, ↓within_n, ↓isIn_y, ↓isIn_n, and_true, true_and, and_self, us_at, us_ne, w32_id, um_eq, um_ne, um_um, uu_eq, uu_ne, uu_uu, vv_eq, vv_ne, vv_vv, ne_eq, not_false_eq_true, not_true_eq_false, reduceCtorEq, Int.reduceAdd, Int.reduceSub, Int.reduceMul, Int.reduceNeg, Nat.reduceEqDiff, or_true, true_or, true_implies, false_implies, Int.reduceLT, Int.reduceLE, Int.reduceEq]
    rw [cpy_step (by omega)]
    exact ih (i + 1) (by omega) (by omega)
theorem kp13 {A : Int → Int} (hA : A 3 = 30) (q : mX12_keep_J55 Q 69 (rh F u (um M 70 (us (cpy A A 184 124 1740) 3 29)))) : ∀ (k : Nat) (i : Int), i + k = 1740 → 0 ≤ i → mX12_keep_L13 Q (k + 1) 69 i (rh F u (um M 70 (cpy A A 184 124 i))) := by
  intro k
  induction k with
  | zero =>
    intro i hi h0
    obtain rfl : i = 1740 := by omega
    rw [mX12_keep_L13]
    simp (disch := first | omega | decide) only [cpy_out, hA, ↓rh_rcv, ↓rh_g0, ↓rh_r70, ↓rh_w70, ↓be_y, ↓be_n, ↓bf_y, ↓bf_n, ↓bl_y, ↓bl_n, ↓bm_y, ↓bm_n, ↓bg_y, ↓bg_n, ↓bs_y, ↓bs_n, ↓bo_y, ↓bo_n, ↓bp_y, ↓bp_n, ↓forall_eq, ↓within_y, ↓within_n, ↓isIn_y, ↓isIn_n, and_true, true_and, and_self, us_at, us_ne, w32_id, um_eq, um_ne, um_um, uu_eq, uu_ne, uu_uu, vv_eq, vv_ne, vv_vv, ne_eq, not_false_eq_true, not_true_eq_false, reduceCtorEq, Int.reduceAdd, Int.reduceSub, Int.reduceMul, Int.reduceNeg, Nat.reduceEqDiff, or_true, true_or, true_implies, false_implies, Int.reduceLT, Int.reduceLE, Int.reduceEq]
    exact q
  | succ k ih =>
    intro i hi h0
    rw [mX12_keep_L13]
    simp (disch := first | omega | decide) only [cpy_out, ↓rh_rcv, ↓rh_g0, ↓rh_r70, ↓rh_w70, ↓be_y, ↓be_n, ↓bf_y, ↓bf_n, ↓bl_y, ↓bl_n, ↓bm_y, ↓bm_n, ↓bg_y, ↓bg_n, ↓bs_y, ↓bs_n, ↓bo_y, ↓bo_n, ↓bp_y, ↓bp_n, ↓forall_eq, ↓within_y, ↓within_n, ↓isIn_y, ↓isIn_n, and_true, true_and, and_self, us_at, us_ne, w32_id, um_eq, um_ne, um_um, uu_eq, uu_ne, uu_uu, vv_eq, vv_ne, vv_vv, ne_eq, not_false_eq_true, not_true_eq_false, reduceCtorEq, Int.reduceAdd, Int.reduceSub, Int.reduceMul, Int.reduceNeg, Nat.reduceEqDiff, or_true, true_or, true_implies, false_implies, Int.reduceLT, Int.reduceLE, Int.reduceEq]
    rw [cpy_step (by omega)]
    exact ih (i + 1) (by omega) (by omega)
theorem kp55 (h : 0 ≤ M 70 3 ∧ M 70 3 < 30) (q : Q (rh F u (um M 70 (kpC (M 70) (124 + 60 * M 70 3))))) : mX12_keep_J55 Q 69 (rh F u M) := by
  simp (disch := first | omega | decide) only [mX12_keep_J55, ↓rh_rcv, ↓rh_g0, ↓rh_r70, ↓rh_w70, ↓be_y, ↓be_n, ↓bf_y, ↓bf_n, ↓bl_y, ↓bl_n, ↓bm_y, ↓bm_n, ↓bg_y, ↓bg_n, ↓bs_y, ↓bs_n, ↓bo_y, ↓bo_n, ↓bp_y, ↓bp_n, ↓forall_eq, ↓within_y, ↓within_n, ↓isIn_y, ↓isIn_n, and_true, true_and, and_self, us_at, us_ne, w32_id, um_eq, um_ne, um_um, uu_eq, uu_ne, uu_uu, vv_eq, vv_ne, vv_vv, ne_eq, not_false_eq_true, not_true_eq_false, reduceCtorEq, Int.reduceAdd, Int.reduceSub, Int.reduceMul, Int.reduceNeg, Nat.reduceEqDiff, or_true, true_or, true_implies, false_implies, Int.reduceLT, Int.reduceLE, Int.reduceEq]
  refine ⟨30, ?_⟩
  have g := kp82 (F := F) (u := u) (M := M) (Q := Q) (B := M 70) (C := us (M 70) (124 + 60 * M 70 3) (M 70 0)) (x := 124 + 60 * M 70 3) (by omega) (fun i hi => us_ne (by omega)) ⟨31, ?_⟩ 29 0 (by omega) (by omega)
  · rw [cpy_0] at g
    exact g
  · have g := kp115 (F := F) (u := u) (M := M) (Q := Q) (B := M 70) (C := cpy (M 70) (us (M 70) (124 + 60 * M 70 3) (M 70 0)) 7 (124 + 60 * M 70 3 + 1) 29) (x := 124 + 60 * M 70 3) (by omega) (fun i hi => by rw [cpy_out (by omega), us_ne (by omega)]) (by rw [cpy_out (by omega), us_ne (by omega)]) q 30 0 (by omega) (by omega)
    rw [cpy_0] at g
    exact g
theorem keep_r (h : 0 ≤ M 70 3 ∧ M 70 3 ≤ 30) (q : Q (rh F u (um M 70 (kpA (M 70))))) : mX12_keep 69 (rh F u M) Q := by
  unfold kpA kpB at q
  by_cases d : M 70 3 = 30
  · rw [if_pos d] at q
    simp only [us_eq] at q
    simp (disch := first | omega | decide) only [mX12_keep, ↓rh_rcv, ↓rh_g0, ↓rh_r70, ↓rh_w70, ↓be_y, ↓be_n, ↓bf_y, ↓bf_n, ↓bl_y, ↓bl_n, ↓bm_y, ↓bm_n, ↓bg_y, ↓bg_n, ↓bs_y, ↓bs_n, ↓bo_y, ↓bo_n, ↓bp_y, ↓bp_n, ↓forall_eq, ↓within_y, ↓within_n, ↓isIn_y, ↓isIn_n, and_true, true_and, and_self, us_at, us_ne, w32_id, um_eq, um_ne, um_um, uu_eq, uu_ne, uu_uu, vv_eq, vv_ne, vv_vv, ne_eq, not_false_eq_true, not_true_eq_false, reduceCtorEq, Int.reduceAdd, Int.reduceSub, Int.reduceMul, Int.reduceNeg, Nat.reduceEqDiff, or_true, true_or, true_implies, false_implies, Int.reduceLT, Int.reduceLE, Int.reduceEq]
    refine ⟨1741, ?_⟩
    have g := kp13 (F := F) (u := u) (M := M) (Q := Q) (A := M 70) d ?_ 1740 0 (by omega) (by omega)
    · rw [cpy_0, um_self] at g
      exact g
    · apply kp55
      · simp only [um_eq, us_eq]; omega
      · simp only [um_eq, us_eq, um_um]
        exact q
  · rw [if_neg d] at q
    simp (disch := first | omega | decide) only [mX12_keep, ↓rh_rcv, ↓rh_g0, ↓rh_r70, ↓rh_w70, ↓be_y, ↓be_n, ↓bf_y, ↓bf_n, ↓bl_y, ↓bl_n, ↓bm_y, ↓bm_n, ↓bg_y, ↓bg_n, ↓bs_y, ↓bs_n, ↓bo_y, ↓bo_n, ↓bp_y, ↓bp_n, ↓forall_eq, ↓within_y, ↓within_n, ↓isIn_y, ↓isIn_n, and_true, true_and, and_self, us_at, us_ne, w32_id, um_eq, um_ne, um_um, uu_eq, uu_ne, uu_uu, vv_eq, vv_ne, vv_vv, ne_eq, not_false_eq_true, not_true_eq_false, reduceCtorEq, Int.reduceAdd, Int.reduceSub, Int.reduceMul, Int.reduceNeg, Nat.reduceEqDiff, or_true, true_or, true_implies, false_implies, Int.reduceLT, Int.reduceLE, Int.reduceEq]
    exact kp55 (by omega) q
theorem keep_c (h : (0 ≤ v 13 1 ∧ v 13 1 < 30) ∧ 0 ≤ v 13 2 ∧ v 13 2 ≤ 30) (q : Q (kh F (vv (vv v 13 1 (if v 13 2 < 30 then v 13 1 else (v 13 1 + 1) % 30)) 13 2 (if v 13 2 < 30 then v 13 2 + 1 else v 13 2)) (um N 14 (cpy (N 12) (N 14) 0 ((v 13 1 + v 13 2) % 30 * 60) 60)) T)) : mX6_keep 13 (some 11) (kh F v N T) Q := by
  have p : 0 ≤ (v 13 1 + v 13 2) % 30 ∧ (v 13 1 + v 13 2) % 30 < 30 := by omega
  by_cases d : v 13 2 < 30
  · simp only [d, if_true, vv_self] at q
    simp (disch := first | omega | decide) only [mX6_keep, ↓kh_c11, ↓kh_g11_0, ↓kh_r12, ↓kh_w12, ↓kh_n12, ↓kh_c13, ↓kh_g13_0, ↓kh_g13_1, ↓kh_p13_1, ↓kh_g13_2, ↓kh_p13_2, ↓kh_r14, ↓kh_w14, ↓kh_n14, ↓kh_cp12_33, ↓kh_cp12_68, ↓kh_cp12_12, ↓kh_cp12_14, ↓kh_cp14_12, ↓kh_cp14_35, ↓be_y, ↓be_n, ↓bf_y, ↓bf_n, ↓bl_y, ↓bl_n, ↓bm_y, ↓bm_n, ↓bg_y, ↓bg_n, ↓bs_y, ↓bs_n, ↓bo_y, ↓bo_n, ↓bp_y, ↓bp_n, ↓forall_eq, ↓within_y, ↓within_n, ↓isIn_y, ↓isIn_n, and_true, true_and, and_self, us_at, us_ne, w32_id, um_eq, um_ne, um_um, uu_eq, uu_ne, uu_uu, vv_eq, vv_ne, vv_vv, ne_eq, not_false_eq_true, not_true_eq_false, reduceCtorEq, Int.reduceAdd, Int.reduceSub, Int.reduceMul, Int.reduceNeg, Nat.reduceEqDiff, or_true, true_or, true_implies, false_implies, Int.reduceLT, Int.reduceLE, Int.reduceEq, tm]
    exact q
  · simp only [d, if_false] at q
    have e : vv (vv v 13 1 ((v 13 1 + 1) % 30)) 13 2 (v 13 2) = vv v 13 1 ((v 13 1 + 1) % 30) := by
      have := vv_self (vv v 13 1 ((v 13 1 + 1) % 30)) 13 2
      rw [show vv v 13 1 ((v 13 1 + 1) % 30) 13 2 = v 13 2 from rfl] at this
      exact this
    rw [e] at q
    simp (disch := first | omega | decide) only [mX6_keep, ↓kh_c11, ↓kh_g11_0, ↓kh_r12, ↓kh_w12, ↓kh_n12, ↓kh_c13, ↓kh_g13_0, ↓kh_g13_1, ↓kh_p13_1, ↓kh_g13_2, ↓kh_p13_2, ↓kh_r14, ↓kh_w14, ↓kh_n14, ↓kh_cp12_33, ↓kh_cp12_68, ↓kh_cp12_12, ↓kh_cp12_14, ↓kh_cp14_12, ↓kh_cp14_35, ↓be_y, ↓be_n, ↓bf_y, ↓bf_n, ↓bl_y, ↓bl_n, ↓bm_y, ↓bm_n, ↓bg_y, ↓bg_n, ↓bs_y, ↓bs_n, ↓bo_y, ↓bo_n, ↓bp_y, ↓bp_n, ↓forall_eq, ↓within_y, ↓within_n, ↓isIn_y, ↓isIn_n, and_true, true_and, and_self, us_at, us_ne, w32_id, um_eq, um_ne, um_um, uu_eq, uu_ne, uu_uu, vv_eq, vv_ne, vv_vv, ne_eq, not_false_eq_true, not_true_eq_false, reduceCtorEq, Int.reduceAdd, Int.reduceSub, Int.reduceMul, Int.reduceNeg, Nat.reduceEqDiff, or_true, true_or, true_implies, false_implies, Int.reduceLT, Int.reduceLE, Int.reduceEq, tm]
    exact q
theorem Rel_k {n : Int} {G : hp} {e' k' : Int} {K' A' : Int → Int} (h : Rel n G v N T u M) (hk : jK e' k' K' A') (g : ∀ i, ¬ (i = 3 ∨ (124 ≤ i ∧ i < 1924)) → A' i = M 70 i) : Rel n G (vv (vv v 13 1 e') 13 2 k') (um N 14 K') T u (um M 70 A') := by
  obtain ⟨⟨hY, hK, hC, hF, hB, hT, hS, hD, hX, hG⟩, h2, h3, h4⟩ := h
  exact ⟨⟨jY_A (fun i hi => g i (by omega)) hY, hk, jC_A (fun i hi => g i (by omega)) hC, jF_A (fun i hi => g i (by omega)) hF, jB_A (fun i hi => g i (by omega)) hB, jT_A (fun i hi => g i (by omega)) hT, jS_A (fun i hi => g i (by omega)) hS, jD_A (fun i hi => g i (by omega)) hD, jX_A (fun i hi => g i (by omega)) hX, jG_A (g 1 (by omega)) hG⟩, h2, ⟨by show _ ≤ A' 0; rw [g 0 (by omega)]; exact h3.1, by show _ ≤ A' 1; rw [g 1 (by omega)]; exact h3.2⟩, h4⟩
-- a step is kept: both
theorem keep_b {n : Int} {G : hp} (h : Rel n G v N T u M) : ∃ v' K' A', Rel n G v' (um N 14 K') T u (um M 70 A') ∧ (∀ i, ¬ (i = 3 ∨ (124 ≤ i ∧ i < 1924)) → A' i = M 70 i) ∧ (∀ j, j ≠ 13 → v' j = v j) ∧ (∀ (F : hp) (Q : hp → Prop), Q (kh F v' (um N 14 K') T) → mX6_keep 13 (some 11) (kh F v N T) Q) ∧ (∀ (F : hp) (Q : hp → Prop), Q (rh F u (um M 70 A')) → mX12_keep 69 (rh F u M) Q) := by
  have hK := h.1.2.1
  obtain ⟨k1, k2⟩ := jK_keep h.1.1 hK
  exact ⟨_, _, _, Rel_k h k1 k2, k2, fun j hj => by rw [vv_ne hj, vv_ne hj], fun F Q q => keep_c ⟨hK.1, by have := hK.2.1; omega⟩ q, fun F Q q => keep_r hK.2.1.2 q⟩
end KP
section HR
variable {n x1 x2 : Int}
-- wheels are lent
theorem lend_b {G : hp} {v : Nat → Nat → Int} {N : Nat → Int → Int} {T : Nat → Int → Option Nat} {u : Nat → Int} {M : Nat → Int → Int} (h : Rel n G v N T u M) (h1 : 0 ≤ x1 ∧ x1 ≤ 1) (h2 : -9 ≤ x2 ∧ x2 ≤ 9 ∧ x2 ≠ 0) : ∃ r v' N' M', (r = 0 ∨ r = 1) ∧ Rel n G v' N' T u M' ∧ (∀ (F : hp) (Q : Int → hp → Prop), Q r (kh F v' N' T) → mX9_lendWheels 9 x1 x2 (kh F v N T) Q) ∧ (∀ (F : hp) (Q : Int → hp → Prop), Q r (rh F u M') → mX12_lend 69 x1 x2 (rh F u M) Q) := by
  have hY := h.1.1
  obtain ⟨e, -, -, -, -, -, -, y9, y10, -⟩ := jY_d hY
  have ew : N 12 (2 + x1) = M 70 (9 + x1) ∧ 0 ≤ M 70 (9 + x1) ∧ M 70 (9 + x1) ≤ 9 := by
    obtain rfl | rfl : x1 = 0 ∨ x1 = 1 := by omega
    · exact ⟨e.2.2.1, y9⟩
    · exact ⟨e.2.2.2.1, y10⟩
  have ew1 := ew.1
  by_cases c : 0 ≤ M 70 (9 + x1) + x2 ∧ M 70 (9 + x1) + x2 ≤ 9
  · obtain ⟨v', K', A', k1, k2, k3, k4, k5⟩ := keep_b h
    have ea : A' (9 + x1) = M 70 (9 + x1) := k2 _ (by omega)
    have hY' : jY (N 12) A' := k1.1.1
    refine ⟨1, v', um (um N 14 K') 12 (us (N 12) (2 + x1) (M 70 (9 + x1) + x2)), um (um M 70 A') 70 (us A' (9 + x1) (M 70 (9 + x1) + x2)), .inr rfl, Rel_y k1 (jY_w hY' h1 c) (yag_s (yag_r _) (by omega)), fun F Q q => ?_, fun F Q q => ?_⟩
    · simp (disch := first | omega | decide) only [mX9_lendWheels, mX10_wheelsOf, ↓kh_c9, ↓kh_g9_0, ↓kh_g9_1, ↓kh_c10, ↓kh_g10_0, ↓kh_g10_1, ↓kh_g10_2, ↓kh_g10_3, ↓kh_g10_4, ↓kh_g10_5, ↓kh_g10_6, ↓kh_g10_7, ↓kh_g10_8, ↓kh_g10_9, ↓kh_g10_10, ↓kh_g10_11, ↓kh_g10_12, ↓kh_p10_12, ↓kh_g10_13, ↓kh_p10_13, ↓kh_g10_14, ↓kh_p10_14, ↓kh_g10_15, ↓kh_p10_15, ↓kh_c11, ↓kh_g11_0, ↓kh_r12, ↓kh_w12, ↓kh_n12, ↓kh_c13, ↓kh_g13_0, ↓kh_g13_1, ↓kh_p13_1, ↓kh_g13_2, ↓kh_p13_2, ↓kh_cp12_33, ↓kh_cp12_68, ↓kh_cp12_12, ↓kh_cp12_14, ↓be_y, ↓be_n, ↓bf_y, ↓bf_n, ↓bl_y, ↓bl_n, ↓bm_y, ↓bm_n, ↓bg_y, ↓bg_n, ↓bs_y, ↓bs_n, ↓bo_y, ↓bo_n, ↓bp_y, ↓bp_n, ↓forall_eq, ↓within_y, ↓within_n, ↓isIn_y, ↓isIn_n, and_true, true_and, and_self, us_at, us_ne, w32_id, um_eq, um_ne, um_um, uu_eq, uu_ne, uu_uu, vv_eq, vv_ne, vv_vv, ne_eq, not_false_eq_true, not_true_eq_false, reduceCtorEq, Int.reduceAdd, Int.reduceSub, Int.reduceMul, Int.reduceNeg, Nat.reduceEqDiff, or_true, true_or, true_implies, false_implies, Int.reduceLT, Int.reduceLE, Int.reduceEq, ew1]
      refine k4 _ _ ?_
      simp (disch := first | omega | decide) only [w32_id, ↓kh_c9, ↓kh_g9_0, ↓kh_g9_1, ↓kh_c10, ↓kh_g10_0, ↓kh_g10_1, ↓kh_g10_2, ↓kh_g10_3, ↓kh_g10_4, ↓kh_g10_5, ↓kh_g10_6, ↓kh_g10_7, ↓kh_g10_8, ↓kh_g10_9, ↓kh_g10_10, ↓kh_g10_11, ↓kh_g10_12, ↓kh_p10_12, ↓kh_g10_13, ↓kh_p10_13, ↓kh_g10_14, ↓kh_p10_14, ↓kh_g10_15, ↓kh_p10_15, ↓kh_c11, ↓kh_g11_0, ↓kh_r12, ↓kh_w12, ↓kh_n12, ↓kh_cp12_33, ↓kh_cp12_68, ↓kh_cp12_12, ↓kh_cp12_14, ↓be_y, ↓be_n, ↓bf_y, ↓bf_n, ↓bl_y, ↓bl_n, ↓bm_y, ↓bm_n, ↓bg_y, ↓bg_n, ↓bs_y, ↓bs_n, ↓bo_y, ↓bo_n, ↓bp_y, ↓bp_n, ↓forall_eq, ↓within_y, ↓within_n, ↓isIn_y, ↓isIn_n, and_true, true_and, and_self, us_at, us_ne, w32_id, um_eq, um_ne, um_um, uu_eq, uu_ne, uu_uu, vv_eq, vv_ne, vv_vv, ne_eq, not_false_eq_true, not_true_eq_false, reduceCtorEq, Int.reduceAdd, Int.reduceSub, Int.reduceMul, Int.reduceNeg, Nat.reduceEqDiff, or_true, true_or, true_implies, false_implies, Int.reduceLT, Int.reduceLE, Int.reduceEq]
      exact q
    · simp (disch := first | omega | decide) only [mX12_lend, mX12_canLend, ↓rh_rcv, ↓rh_g0, ↓rh_r70, ↓rh_w70, ↓be_y, ↓be_n, ↓bf_y, ↓bf_n, ↓bl_y, ↓bl_n, ↓bm_y, ↓bm_n, ↓bg_y, ↓bg_n, ↓bs_y, ↓bs_n, ↓bo_y, ↓bo_n, ↓bp_y, ↓bp_n, ↓forall_eq, ↓within_y, ↓within_n, ↓isIn_y, ↓isIn_n, and_true, true_and, and_self, us_at, us_ne, w32_id, um_eq, um_ne, um_um, uu_eq, uu_ne, uu_uu, vv_eq, vv_ne, vv_vv, ne_eq, not_false_eq_true, not_true_eq_false, reduceCtorEq, Int.reduceAdd, Int.reduceSub, Int.reduceMul, Int.reduceNeg, Nat.reduceEqDiff, or_true, true_or, true_implies, false_implies, Int.reduceLT, Int.reduceLE, Int.reduceEq]
      refine k5 _ _ ?_
      simp (disch := first | omega | decide) only [w32_id, ↓rh_rcv, ↓rh_g0, ↓rh_r70, ↓rh_w70, ↓be_y, ↓be_n, ↓bf_y, ↓bf_n, ↓bl_y, ↓bl_n, ↓bm_y, ↓bm_n, ↓bg_y, ↓bg_n, ↓bs_y, ↓bs_n, ↓bo_y, ↓bo_n, ↓bp_y, ↓bp_n, ↓forall_eq, ↓within_y, ↓within_n, ↓isIn_y, ↓isIn_n, and_true, true_and, and_self, us_at, us_ne, w32_id, um_eq, um_ne, um_um, uu_eq, uu_ne, uu_uu, vv_eq, vv_ne, vv_vv, ne_eq, not_false_eq_true, not_true_eq_false, reduceCtorEq, Int.reduceAdd, Int.reduceSub, Int.reduceMul, Int.reduceNeg, Nat.reduceEqDiff, or_true, true_or, true_implies, false_implies, Int.reduceLT, Int.reduceLE, Int.reduceEq, ea]
      simp only [um_um] at q
      exact q
  · refine ⟨0, v, N, M, .inl rfl, h, fun F Q q => ?_, fun F Q q => ?_⟩
    · by_cases d : M 70 (9 + x1) + x2 < 0
      · simp (disch := first | omega | decide) only [mX9_lendWheels, mX10_wheelsOf, ↓kh_c9, ↓kh_g9_0, ↓kh_g9_1, ↓kh_c10, ↓kh_g10_0, ↓kh_g10_1, ↓kh_g10_2, ↓kh_g10_3, ↓kh_g10_4, ↓kh_g10_5, ↓kh_g10_6, ↓kh_g10_7, ↓kh_g10_8, ↓kh_g10_9, ↓kh_g10_10, ↓kh_g10_11, ↓kh_g10_12, ↓kh_p10_12, ↓kh_g10_13, ↓kh_p10_13, ↓kh_g10_14, ↓kh_p10_14, ↓kh_g10_15, ↓kh_p10_15, ↓kh_c11, ↓kh_g11_0, ↓kh_r12, ↓kh_w12, ↓kh_n12, ↓kh_cp12_33, ↓kh_cp12_68, ↓kh_cp12_12, ↓kh_cp12_14, ↓be_y, ↓be_n, ↓bf_y, ↓bf_n, ↓bl_y, ↓bl_n, ↓bm_y, ↓bm_n, ↓bg_y, ↓bg_n, ↓bs_y, ↓bs_n, ↓bo_y, ↓bo_n, ↓bp_y, ↓bp_n, ↓forall_eq, ↓within_y, ↓within_n, ↓isIn_y, ↓isIn_n, and_true, true_and, and_self, us_at, us_ne, w32_id, um_eq, um_ne, um_um, uu_eq, uu_ne, uu_uu, vv_eq, vv_ne, vv_vv, ne_eq, not_false_eq_true, not_true_eq_false, reduceCtorEq, Int.reduceAdd, Int.reduceSub, Int.reduceMul, Int.reduceNeg, Nat.reduceEqDiff, or_true, true_or, true_implies, false_implies, Int.reduceLT, Int.reduceLE, Int.reduceEq, ew1]
        exact q
      · simp (disch := first | omega | decide) only [mX9_lendWheels, mX10_wheelsOf, ↓kh_c9, ↓kh_g9_0, ↓kh_g9_1, ↓kh_c10, ↓kh_g10_0, ↓kh_g10_1, ↓kh_g10_2, ↓kh_g10_3, ↓kh_g10_4, ↓kh_g10_5, ↓kh_g10_6, ↓kh_g10_7, ↓kh_g10_8, ↓kh_g10_9, ↓kh_g10_10, ↓kh_g10_11, ↓kh_g10_12, ↓kh_p10_12, ↓kh_g10_13, ↓kh_p10_13, ↓kh_g10_14, ↓kh_p10_14, ↓kh_g10_15, ↓kh_p10_15, ↓kh_c11, ↓kh_g11_0, ↓kh_r12, ↓kh_w12, ↓kh_n12, ↓kh_cp12_33, ↓kh_cp12_68, ↓kh_cp12_12, ↓kh_cp12_14, ↓be_y, ↓be_n, ↓bf_y, ↓bf_n, ↓bl_y, ↓bl_n, ↓bm_y, ↓bm_n, ↓bg_y, ↓bg_n, ↓bs_y, ↓bs_n, ↓bo_y, ↓bo_n, ↓bp_y, ↓bp_n, ↓forall_eq, ↓within_y, ↓within_n, ↓isIn_y, ↓isIn_n, and_true, true_and, and_self, us_at, us_ne, w32_id, um_eq, um_ne, um_um, uu_eq, uu_ne, uu_uu, vv_eq, vv_ne, vv_vv, ne_eq, not_false_eq_true, not_true_eq_false, reduceCtorEq, Int.reduceAdd, Int.reduceSub, Int.reduceMul, Int.reduceNeg, Nat.reduceEqDiff, or_true, true_or, true_implies, false_implies, Int.reduceLT, Int.reduceLE, Int.reduceEq, ew1]
        exact q
    · simp (disch := first | omega | decide) only [mX12_lend, mX12_canLend, ↓rh_rcv, ↓rh_g0, ↓rh_r70, ↓rh_w70, ↓be_y, ↓be_n, ↓bf_y, ↓bf_n, ↓bl_y, ↓bl_n, ↓bm_y, ↓bm_n, ↓bg_y, ↓bg_n, ↓bs_y, ↓bs_n, ↓bo_y, ↓bo_n, ↓bp_y, ↓bp_n, ↓forall_eq, ↓within_y, ↓within_n, ↓isIn_y, ↓isIn_n, and_true, true_and, and_self, us_at, us_ne, w32_id, um_eq, um_ne, um_um, uu_eq, uu_ne, uu_uu, vv_eq, vv_ne, vv_vv, ne_eq, not_false_eq_true, not_true_eq_false, reduceCtorEq, Int.reduceAdd, Int.reduceSub, Int.reduceMul, Int.reduceNeg, Nat.reduceEqDiff, or_true, true_or, true_implies, false_implies, Int.reduceLT, Int.reduceLE, Int.reduceEq]
      exact q
set_option maxHeartbeats 4000000 in
theorem op_lend (h1 : -2147483648 ≤ x1 ∧ x1 ≤ 2147483647) (h2 : -2147483648 ≤ x2 ∧ x2 ≤ 2147483647) : OP n (mX11_lend 8 x1 x2) (mX12_lend 69 x1 x2) := by
  refine op_to (fun G v N T u M h => ?_)
  obtain ⟨⟨hY, hK, hC, hF, hB, hT, hS, hD, hX, hG⟩, hI, hM, hL, hW, hH, hN⟩ := id h
  have hc := jY_c hY
  by_cases c : (0 ≤ x1 ∧ x1 ≤ 1) ∧ -9 ≤ x2 ∧ x2 ≤ 9 ∧ x2 ≠ 0
  · obtain ⟨r, v', N', M', hr, k1, k2, k3⟩ := lend_b h c.1 c.2
    refine ⟨r, v', N', u, M', Rel_up k1, fun F Q q => ?_, fun F Q q => k3 F Q q⟩
    simp (disch := first | omega | decide) only [mX11_lend, ↓kh_c8, ↓kh_g8_0, ↓kh_g8_1, ↓kh_g8_2, ↓kh_g8_3, ↓kh_g8_4, ↓kh_g8_5, ↓kh_g8_6, ↓kh_g8_7, ↓kh_c9, ↓kh_g9_0, ↓kh_g9_1, ↓be_y, ↓be_n, ↓bf_y, ↓bf_n, ↓bl_y, ↓bl_n, ↓bm_y, ↓bm_n, ↓bg_y, ↓bg_n, ↓bs_y, ↓bs_n, ↓bo_y, ↓bo_n, ↓bp_y, ↓bp_n, ↓forall_eq, ↓within_y, ↓within_n, ↓isIn_y, ↓isIn_n, and_true, true_and, and_self, us_at, us_ne, w32_id, um_eq, um_ne, um_um, uu_eq, uu_ne, uu_uu, vv_eq, vv_ne, vv_vv, ne_eq, not_false_eq_true, not_true_eq_false, reduceCtorEq, Int.reduceAdd, Int.reduceSub, Int.reduceMul, Int.reduceNeg, Nat.reduceEqDiff, or_true, true_or, true_implies, false_implies, Int.reduceLT, Int.reduceLE, Int.reduceEq]
    exact k2 F _ ⟨hr, q⟩
  · refine ⟨0, v, N, u, M, Rel_up h, fun F Q q => ?_, fun F Q q => ?_⟩
    · by_cases d0 : 0 ≤ x1 ∧ x1 ≤ 1 <;> by_cases d1 : x2 = 0 <;> by_cases d2 : -9 ≤ x2 ∧ x2 ≤ 9 <;> first | (exfalso; omega) | (simp (disch := omega) only [mX11_lend, kh_c8, kh_g8_0, kh_g8_1, kh_g8_2, kh_g8_3, kh_g8_4, kh_g8_5, kh_g8_6, kh_g8_7, ↓i_pos, ↓i_neg, and_true, true_and, and_self, w32_id, us_at, us_ne, um_eq, um_ne, um_um, uu_eq, uu_ne, uu_uu, vv_eq, vv_ne, vv_vv, forall_eq, within_y, within_n, isIn_y, isIn_n, ne_eq, not_false_eq_true, not_true_eq_false, reduceCtorEq, Int.reduceAdd, Int.reduceSub, Int.reduceMul, Int.reduceNeg, Nat.reduceEqDiff, or_true, true_or, true_implies, false_implies, Int.reduceLT, Int.reduceLE, Int.reduceEq, iMax_l, iMax_r, iMin_l, iMin_r]; first | done | exact q)
    · by_cases d0 : 0 ≤ x1 ∧ x1 ≤ 1 <;> by_cases d1 : x2 = 0 <;> by_cases d2 : -9 ≤ x2 ∧ x2 ≤ 9 <;> first | (exfalso; omega) | (simp (disch := omega) only [mX12_lend, mX12_canLend, rh_rcv, rh_g0, rh_r70, rh_w70, ↓i_pos, ↓i_neg, and_true, true_and, and_self, w32_id, us_at, us_ne, um_eq, um_ne, um_um, uu_eq, uu_ne, uu_uu, vv_eq, vv_ne, vv_vv, forall_eq, within_y, within_n, isIn_y, isIn_n, ne_eq, not_false_eq_true, not_true_eq_false, reduceCtorEq, Int.reduceAdd, Int.reduceSub, Int.reduceMul, Int.reduceNeg, Nat.reduceEqDiff, or_true, true_or, true_implies, false_implies, Int.reduceLT, Int.reduceLE, Int.reduceEq, iMax_l, iMax_r, iMin_l, iMin_r]; first | done | exact q)
end HR
