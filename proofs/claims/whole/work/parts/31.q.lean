-- ===== an hour =====
def inc (x : Int) : Int := if x < 9 then x + 1 else 9
theorem inc_b {x : Int} (h : 0 ≤ x ∧ x ≤ 9) : 0 ≤ inc x ∧ inc x ≤ 9 := by unfold inc; split <;> omega
theorem iMin9 {x : Int} (h : 0 ≤ x ∧ x ≤ 9) : iMin 9 (x + 1) = inc x := by
  unfold inc
  by_cases d : x < 9
  · rw [if_pos d, iMin_r (by omega)]
  · rw [if_neg d, iMin_l (by omega)]
theorem cut9 {x : Int} {F : hp} {Q : Int → hp → Prop} (h : 0 ≤ x ∧ x ≤ 9) : mX12_cut (x + 1) 0 9 F Q ↔ Q (inc x) F := by
  rw [cut_s (by omega) (by omega) (by omega)]
  unfold inc
  by_cases d : x < 9
  · rw [if_pos d, if_neg (by omega), if_neg (by omega)]
  · rw [if_neg d, if_neg (by omega)]
    by_cases d2 : 9 < x + 1
    · rw [if_pos d2]
    · exfalso; omega
def nX (x : Int) : Int := (x * 607 + 479) % 30851
theorem nX_b (x : Int) : 0 ≤ nX x ∧ nX x ≤ 30850 := by unfold nX; omega
theorem nXf (x : Int) : (x * 607 + 479) % 30851 = nX x := rfl
-- the same, of the cells that are no book
def wR (Y A : Int → Int) : Prop := (∀ k, 0 ≤ k → k < 29 → Y k = A (za (zs k))) ∧ yok Y
theorem wR_s {Y A : Int → Int} {k i x : Int} (h : wR Y A) (hk : 0 ≤ k ∧ k < 29) (hi : i = za (zs k)) (ok : yok (us Y k x)) : wR (us Y k x) (us A i x) := by
  refine ⟨fun l g0 g1 => ?_, ok⟩
  by_cases d : l = k
  · subst d
    rw [us_eq, ← hi, us_eq]
  · rw [us_ne d, us_ne (fun e => d (zaz_inj ⟨g0, by omega⟩ (by omega) (by rw [e, hi]))), h.1 l g0 g1]
theorem wR_d {Y A : Int → Int} (h : wR Y A) : (Y 0 = A 7 ∧ Y 1 = A 8 ∧ Y 2 = A 9 ∧ Y 3 = A 10 ∧ Y 4 = A 0) ∧ (∀ c, 0 ≤ c → c < 5 → Y (6 + c) = A (31 + c) ∧ 0 ≤ A (31 + c) ∧ A (31 + c) ≤ 9) := by
  obtain ⟨h1, h2⟩ := h
  refine ⟨⟨h1 0 (by omega) (by omega), h1 1 (by omega) (by omega), h1 2 (by omega) (by omega), h1 3 (by omega) (by omega), h1 4 (by omega) (by omega)⟩, fun c g0 g1 => ?_⟩
  have g := h1 (6 + c) (by omega) (by omega)
  have e : zs (6 + c) = 25 + c := by unfold zs; repeat' (split <;> try omega)
  have e' : za (25 + c) = 31 + c := by unfold za; repeat' (split <;> try omega)
  rw [e, e'] at g
  have b := h2.2.2.2.2.2.2.2.1 c g0 g1
  rw [g] at b
  exact ⟨g, b⟩
-- single cells of a good yard
theorem yok_h {Y : Int → Int} {x : Int} (k : yok Y) (hx : 0 ≤ x ∧ x ≤ 9999) : yok (us Y 0 x) := yok_mk k (fun j hj => us_ne (by omega)) (by rw [us_eq]; exact hx) (by rw [us_ne (by omega)]; exact k.2.1) (by rw [us_ne (by omega)]; exact k.2.2.1) (by rw [us_ne (by omega)]; exact k.2.2.2.1) (by rw [us_ne (by omega)]; exact k.2.2.2.2.2.1) (by rw [us_ne (by omega)]; exact k.2.2.2.2.2.2.1) (fun i g0 g1 => by rw [us_ne (by omega)]; exact k.2.2.2.2.2.2.2.1 i g0 g1)
theorem yok_x {Y : Int → Int} {x : Int} (k : yok Y) (hx : 0 ≤ x ∧ x ≤ 30850) : yok (us Y 1 x) := yok_mk k (fun j hj => us_ne (by omega)) (by rw [us_ne (by omega)]; exact k.1) (by rw [us_eq]; exact hx) (by rw [us_ne (by omega)]; exact k.2.2.1) (by rw [us_ne (by omega)]; exact k.2.2.2.1) (by rw [us_ne (by omega)]; exact k.2.2.2.2.2.1) (by rw [us_ne (by omega)]; exact k.2.2.2.2.2.2.1) (fun i g0 g1 => by rw [us_ne (by omega)]; exact k.2.2.2.2.2.2.2.1 i g0 g1)
theorem yok_w {Y : Int → Int} {w x : Int} (k : yok Y) (hw : 0 ≤ w ∧ w ≤ 1) (hx : 0 ≤ x ∧ x ≤ 9) : yok (us Y (2 + w) x) := by
  obtain rfl | rfl : w = 0 ∨ w = 1 := by omega
  · exact yok_mk k (fun j hj => us_ne (by omega)) (by rw [us_ne (by omega)]; exact k.1) (by rw [us_ne (by omega)]; exact k.2.1) (by rw [us_at (by omega)]; exact hx) (by rw [us_ne (by omega)]; exact k.2.2.2.1) (by rw [us_ne (by omega)]; exact k.2.2.2.2.2.1) (by rw [us_ne (by omega)]; exact k.2.2.2.2.2.2.1) (fun i g0 g1 => by rw [us_ne (by omega)]; exact k.2.2.2.2.2.2.2.1 i g0 g1)
  · exact yok_mk k (fun j hj => us_ne (by omega)) (by rw [us_ne (by omega)]; exact k.1) (by rw [us_ne (by omega)]; exact k.2.1) (by rw [us_ne (by omega)]; exact k.2.2.1) (by rw [us_at (by omega)]; exact hx) (by rw [us_ne (by omega)]; exact k.2.2.2.2.2.1) (by rw [us_ne (by omega)]; exact k.2.2.2.2.2.2.1) (fun i g0 g1 => by rw [us_ne (by omega)]; exact k.2.2.2.2.2.2.2.1 i g0 g1)
theorem yok_f {Y : Int → Int} {x : Int} (k : yok Y) (hx : 0 ≤ x ∧ x ≤ 31) : yok (us Y 5 x) := yok_mk k (fun j hj => us_ne (by omega)) (by rw [us_ne (by omega)]; exact k.1) (by rw [us_ne (by omega)]; exact k.2.1) (by rw [us_ne (by omega)]; exact k.2.2.1) (by rw [us_ne (by omega)]; exact k.2.2.2.1) (by rw [us_eq]; exact hx) (by rw [us_ne (by omega)]; exact k.2.2.2.2.2.2.1) (fun i g0 g1 => by rw [us_ne (by omega)]; exact k.2.2.2.2.2.2.2.1 i g0 g1)
theorem yok_o {Y : Int → Int} {c x : Int} (k : yok Y) (hc : 0 ≤ c ∧ c ≤ 4) (hx : 0 ≤ x ∧ x ≤ 9) : yok (us Y (6 + c) x) := yok_mk k (fun j hj => us_ne (by omega)) (by rw [us_ne (by omega)]; exact k.1) (by rw [us_ne (by omega)]; exact k.2.1) (by rw [us_ne (by omega)]; exact k.2.2.1) (by rw [us_ne (by omega)]; exact k.2.2.2.1) (by rw [us_ne (by omega)]; exact k.2.2.2.2.2.1) (by rw [us_ne (by omega)]; exact k.2.2.2.2.2.2.1) (fun i g0 g1 => by
  by_cases d : 6 + i = 6 + c
  · rw [us_at d]; exact hx
  · rw [us_ne d]; exact k.2.2.2.2.2.2.2.1 i g0 g1)
theorem jY_h {Y A : Int → Int} {x : Int} (h : jY Y A) (hx : 0 ≤ x ∧ x ≤ 9999) : jY (us Y 0 x) (us A 7 x) := jY_mk (pR_h (jY_p h)) (yok_h (jY_k h) hx)
theorem jY_x {Y A : Int → Int} {x : Int} (h : jY Y A) (hx : 0 ≤ x ∧ x ≤ 30850) : jY (us Y 1 x) (us A 8 x) := jY_mk (pR_x (jY_p h)) (yok_x (jY_k h) hx)
theorem jY_w {Y A : Int → Int} {w x : Int} (h : jY Y A) (hw : 0 ≤ w ∧ w ≤ 1) (hx : 0 ≤ x ∧ x ≤ 9) : jY (us Y (2 + w) x) (us A (9 + w) x) := jY_mk (pR_w (jY_p h) hw) (yok_w (jY_k h) hw hx)
theorem jY_o {Y A : Int → Int} {c x : Int} (h : jY Y A) (hc : 0 ≤ c ∧ c ≤ 4) (hx : 0 ≤ x ∧ x ≤ 9) : jY (us Y (6 + c) x) (us A (31 + c) x) := jY_mk (pR_o (jY_p h) hc) (yok_o (jY_k h) hc hx)
theorem jY_f {Y A : Int → Int} {x : Int} (h : jY Y A) (hx : 0 ≤ x ∧ x ≤ 31) : jY (us Y 5 x) (us A 30 x) := jY_mk (pR_f (jY_p h)) (yok_f (jY_k h) hx)
theorem jY_wr {Y A : Int → Int} {c w x : Int} (h : jY Y A) (hc : -1 ≤ c ∧ c ≤ 4) (hw : 0 ≤ w ∧ w ≤ 2) (hx : 0 ≤ x ∧ x ≤ 2) : jY (wrY Y c w x) (wrA A c w x) := jY_mk (pR_wr (jY_p h) (jY_k h) hc hw hx) (yok_wr (jY_k h))
theorem wR_h {Y A : Int → Int} {x : Int} (h : wR Y A) (hx : 0 ≤ x ∧ x ≤ 9999) : wR (us Y 0 x) (us A 7 x) := wR_s h (by omega) (by decide) (yok_h h.2 hx)
theorem wR_x {Y A : Int → Int} {x : Int} (h : wR Y A) (hx : 0 ≤ x ∧ x ≤ 30850) : wR (us Y 1 x) (us A 8 x) := wR_s h (by omega) (by decide) (yok_x h.2 hx)
theorem wR_w {Y A : Int → Int} {w x : Int} (h : wR Y A) (hw : 0 ≤ w ∧ w ≤ 1) (hx : 0 ≤ x ∧ x ≤ 9) : wR (us Y (2 + w) x) (us A (9 + w) x) := wR_s h (by omega) (by unfold za zs; repeat' (split <;> try omega)) (yok_w h.2 hw hx)
theorem wR_o {Y A : Int → Int} {c x : Int} (h : wR Y A) (hc : 0 ≤ c ∧ c ≤ 4) (hx : 0 ≤ x ∧ x ≤ 9) : wR (us Y (6 + c) x) (us A (31 + c) x) := wR_s h (by omega) (by unfold za zs; repeat' (split <;> try omega)) (yok_o h.2 hc hx)
theorem wR_wr {Y A : Int → Int} {c w x : Int} (h : wR Y A) : wR (wrY Y c w x) A := ⟨fun k g0 g1 => by rw [wrY_n h.2.2.2.2.2.2.2.1 g1]; exact h.1 k g0 g1, yok_wr h.2⟩
def yaw (A A' : Int → Int) : Prop := ∀ i, ¬ (7 ≤ i ∧ i < 36) → A' i = A i
theorem yaw_r (A : Int → Int) : yaw A A := fun _ _ => rfl
theorem yaw_t {A B C : Int → Int} (h : yaw A B) (k : yaw B C) : yaw A C := fun i hi => by rw [k i hi, h i hi]
theorem yaw_s {A B : Int → Int} {i x : Int} (h : yaw A B) (hi : 7 ≤ i ∧ i < 36) : yaw A (us B i x) := fun j hj => by rw [us_ne (by omega), h j hj]
section PS
variable {u : Nat → Int} {M : Nat → Int → Int} {v : Nat → Nat → Int} {N : Nat → Int → Int} {T : Nat → Int → Option Nat}
set_option maxHeartbeats 4000000 in
theorem ps2_12 (h : jY (N 12) (M 70)) (hh : M 70 7 < 9999) : ∃ Y' A', jY Y' A' ∧ yag (M 70) A' ∧ A' 7 = M 70 7 + 1 ∧ (∀ (F : hp) (b : Int) (Q : Int → hp → Prop), Q b (kh F v (um N 12 Y') T) → mX10_passHour_J65 Q 11 b (kh F v N T)) ∧ (∀ (F : hp) (Q : hp → Prop), Q (rh F u (um M 70 A')) → mX12_pass_J94 Q 69 (rh F u M)) := by
  have k : yok (N 12) := jY_k h
  obtain ⟨e0, e1, e2, e3, e4, e5, e6⟩ := (jY_d h).1
  have e9 := (jY_d h).2.1
  have k0 := k.1
  have k1 := k.2.1
  have k4 := k.2.2.2.2.1
  by_cases d : 0 < M 70 0
  · have c0 : 0 ≤ M 70 8 % M 70 0 ∧ M 70 8 % M 70 0 < M 70 0 := ⟨Int.emod_nonneg _ (by omega), Int.emod_lt_of_pos _ d⟩
    have o := e9 (M 70 8 % M 70 0) (by omega) (by omega)
    have ib := inc_b o.2
    have nb := nX_b (M 70 8)
    have q1 := iMin9 o.2
    have q2 := nXf (M 70 8)
    have dn : ¬ M 70 0 = 0 := by omega
    have q4 : ∀ F (Q : Int → hp → Prop), mX12_cut (M 70 (31 + M 70 8 % M 70 0) + 1) 0 9 F Q ↔ Q (inc (M 70 (31 + M 70 8 % M 70 0))) F := fun F Q => cut9 o.2
    generalize hcc : M 70 8 % M 70 0 = c at c0 o ib q1 q4
    refine ⟨us (us (us (N 12) 1 (nX (M 70 8))) (6 + c) (inc (M 70 (31 + c)))) 0 (M 70 7 + 1), us (us (us (M 70) 8 (nX (M 70 8))) (31 + c) (inc (M 70 (31 + c)))) 7 (M 70 7 + 1), jY_h (jY_o (jY_x h nb) (by omega) ib) (by omega), yag_s (yag_s (yag_s (yag_r _) (by omega)) (by omega)) (by omega), us_eq _ _ _, fun F b Q q => ?_, fun F Q q => ?_⟩
    · simp (disch := first | decide | omega) only [mX10_passHour_J65, mX10_passHour_J106, mX10_countCars, mX10_draw, mX10_drawnX, kh_c11, kh_g11_0, kh_r12, kh_w12, kh_n12, kh_cp12_33, kh_cp12_68, kh_cp12_12, kh_cp12_14, ↓be_y, ↓be_n, ↓bf_y, ↓bf_n, ↓bl_y, ↓bl_n, ↓bm_y, ↓bm_n, ↓bg_y, ↓bg_n, ↓bs_y, ↓bs_n, ↓bo_y, ↓bo_n, bp_y, bp_n, and_true, true_and, and_self, us_if, if_y, if_n, if_true, if_false, w32_id, um_eq, um_ne, um_um, uu_eq, uu_ne, uu_uu, vv_eq, vv_ne, vv_vv, forall_eq, within_y, within_n, isIn_y, isIn_n, ne_eq, not_false_eq_true, not_true_eq_false, reduceCtorEq, Int.reduceAdd, Int.reduceSub, Int.reduceMul, Int.reduceNeg, Nat.reduceEqDiff, or_true, true_or, true_implies, false_implies, Int.reduceLT, Int.reduceLE, Int.reduceEq, e0, e1, e4, o.1, q1, q2, tm, hcc, dn]
      exact q
    · simp (disch := first | decide | omega) only [mX12_pass_J94, mX12_pass_J141, mX12_drawnBy, mX12_anew, q4, rh_rcv, rh_g0, rh_r70, rh_w70, ↓be_y, ↓be_n, ↓bf_y, ↓bf_n, ↓bl_y, ↓bl_n, ↓bm_y, ↓bm_n, ↓bg_y, ↓bg_n, ↓bs_y, ↓bs_n, ↓bo_y, ↓bo_n, bp_y, bp_n, and_true, true_and, and_self, us_if, if_y, if_n, if_true, if_false, w32_id, um_eq, um_ne, um_um, uu_eq, uu_ne, uu_uu, vv_eq, vv_ne, vv_vv, forall_eq, within_y, within_n, isIn_y, isIn_n, ne_eq, not_false_eq_true, not_true_eq_false, reduceCtorEq, Int.reduceAdd, Int.reduceSub, Int.reduceMul, Int.reduceNeg, Nat.reduceEqDiff, or_true, true_or, true_implies, false_implies, Int.reduceLT, Int.reduceLE, Int.reduceEq, w64_id, q2, tm, hcc, dn]
      exact q
  · refine ⟨us (N 12) 0 (M 70 7 + 1), us (M 70) 7 (M 70 7 + 1), jY_h h (by omega), yag_s (yag_r _) (by omega), us_eq _ _ _, fun F b Q q => ?_, fun F Q q => ?_⟩
    · simp (disch := first | decide | omega) only [mX10_passHour_J65, mX10_passHour_J106, mX10_countCars, kh_c11, kh_g11_0, kh_r12, kh_w12, kh_n12, kh_cp12_33, kh_cp12_68, kh_cp12_12, kh_cp12_14, ↓be_y, ↓be_n, ↓bf_y, ↓bf_n, ↓bl_y, ↓bl_n, ↓bm_y, ↓bm_n, ↓bg_y, ↓bg_n, ↓bs_y, ↓bs_n, ↓bo_y, ↓bo_n, bp_y, bp_n, and_true, true_and, and_self, us_if, if_y, if_n, if_true, if_false, w32_id, um_eq, um_ne, um_um, uu_eq, uu_ne, uu_uu, vv_eq, vv_ne, vv_vv, forall_eq, within_y, within_n, isIn_y, isIn_n, ne_eq, not_false_eq_true, not_true_eq_false, reduceCtorEq, Int.reduceAdd, Int.reduceSub, Int.reduceMul, Int.reduceNeg, Nat.reduceEqDiff, or_true, true_or, true_implies, false_implies, Int.reduceLT, Int.reduceLE, Int.reduceEq, e0, e4]
      exact q
    · simp (disch := first | decide | omega) only [mX12_pass_J94, mX12_pass_J141, rh_rcv, rh_g0, rh_r70, rh_w70, ↓be_y, ↓be_n, ↓bf_y, ↓bf_n, ↓bl_y, ↓bl_n, ↓bm_y, ↓bm_n, ↓bg_y, ↓bg_n, ↓bs_y, ↓bs_n, ↓bo_y, ↓bo_n, bp_y, bp_n, and_true, true_and, and_self, us_if, if_y, if_n, if_true, if_false, w32_id, um_eq, um_ne, um_um, uu_eq, uu_ne, uu_uu, vv_eq, vv_ne, vv_vv, forall_eq, within_y, within_n, isIn_y, isIn_n, ne_eq, not_false_eq_true, not_true_eq_false, reduceCtorEq, Int.reduceAdd, Int.reduceSub, Int.reduceMul, Int.reduceNeg, Nat.reduceEqDiff, or_true, true_or, true_implies, false_implies, Int.reduceLT, Int.reduceLE, Int.reduceEq]
      exact q
set_option maxHeartbeats 4000000 in
theorem ps1_12 (h : jY (N 12) (M 70)) (hh : M 70 7 < 9999) (h23 : u 23 = 1) : ∃ b Y' A', (b = 0 ∨ b = 1) ∧ jY Y' A' ∧ yag (M 70) A' ∧ A' 7 = M 70 7 + 1 ∧ (∀ (F : hp) (Q : Int → hp → Prop), Q b (kh F v (um N 12 Y') T) → mX10_passHour 11 (kh F v N T) Q) ∧ (∀ (F : hp) (Q : hp → Prop), Q (rh F (uu u 24 (u 24 + b)) (um M 70 A')) → mX12_pass 69 (rh F u M) Q) := by
  have k : yok (N 12) := jY_k h
  obtain ⟨e0, e1, e2, e3, e4, e5, e6⟩ := (jY_d h).1
  have k0 := k.1
  have k1 := k.2.1
  have k2 := k.2.2.1
  have k3 := k.2.2.2.1
  have k4 := k.2.2.2.2.1
  have k6 := k.2.2.2.2.2.2.1
  have nb := nX_b (M 70 8)
  have q2 := nXf (M 70 8)
  have h1 := jY_x h nb
  generalize hd : M 70 8 % 10 = d
  have db : 0 ≤ d ∧ d < 10 := by omega
  have uid : uu u 24 (u 24 + 0) = u := by
    funext j
    by_cases hj : j = 24 <;> simp [uu, hj]
  by_cases c1 : d < 2
  · have ew : N 12 (2 + d) = M 70 (9 + d) ∧ 0 ≤ M 70 (9 + d) ∧ M 70 (9 + d) ≤ 9 := by
      obtain rfl | rfl : d = 0 ∨ d = 1 := by omega
      · exact ⟨e2, by have := e2; simp only [Int.reduceAdd]; omega⟩
      · exact ⟨e3, by have := e3; simp only [Int.reduceAdd]; omega⟩
    have q4 := iMin9 ew.2
    have q5 : ∀ F (Q : Int → hp → Prop), mX12_cut (M 70 (9 + d) + 1) 0 9 F Q ↔ Q (inc (M 70 (9 + d))) F := fun F Q => cut9 ew.2
    have q6 : d % 2 = d := by omega
    have h2 := jY_w h1 (w := d) (x := inc (M 70 (9 + d))) (by omega) (inc_b ew.2)
    obtain ⟨Y', A', g1, g2, g3, g4, g5⟩ := ps2_12 (u := u) (M := um M 70 (us (us (M 70) 8 (nX (M 70 8))) (9 + d) (inc (M 70 (9 + d))))) (v := v) (N := um N 12 (us (us (N 12) 1 (nX (M 70 8))) (2 + d) (inc (M 70 (9 + d))))) (T := T) h2 (by simp (disch := omega) only [um_eq, us_ne]; exact hh)
    simp only [um_um, um_eq] at g2 g3 g4 g5
    refine ⟨0, Y', A', .inl rfl, g1, yag_t (yag_s (yag_s (yag_r _) (by omega)) (by omega)) g2, by rw [g3]; simp (disch := omega) only [us_ne], fun F Q q => ?_, fun F Q q => ?_⟩
    · simp (disch := first | decide | omega) only [mX10_passHour, mX10_draw, mX10_drawnX, mX10_gainWheel, kh_c11, kh_g11_0, kh_r12, kh_w12, kh_n12, kh_cp12_33, kh_cp12_68, kh_cp12_12, kh_cp12_14, ↓be_y, ↓be_n, ↓bf_y, ↓bf_n, ↓bl_y, ↓bl_n, ↓bm_y, ↓bm_n, ↓bg_y, ↓bg_n, ↓bs_y, ↓bs_n, ↓bo_y, ↓bo_n, bp_y, bp_n, and_true, true_and, and_self, us_if, if_y, if_n, if_true, if_false, w32_id, um_eq, um_ne, um_um, uu_eq, uu_ne, uu_uu, vv_eq, vv_ne, vv_vv, forall_eq, within_y, within_n, isIn_y, isIn_n, ne_eq, not_false_eq_true, not_true_eq_false, reduceCtorEq, Int.reduceAdd, Int.reduceSub, Int.reduceMul, Int.reduceNeg, Nat.reduceEqDiff, or_true, true_or, true_implies, false_implies, Int.reduceLT, Int.reduceLE, Int.reduceEq, e1, ew.1, q2, q4, tm, hd]
      exact g4 F 0 Q q
    · rw [uid] at q
      simp (disch := first | decide | omega) only [mX12_pass, mX12_drawnBy, mX12_anew, q5, rh_rcv, rh_g0, rh_r70, rh_w70, ↓be_y, ↓be_n, ↓bf_y, ↓bf_n, ↓bl_y, ↓bl_n, ↓bm_y, ↓bm_n, ↓bg_y, ↓bg_n, ↓bs_y, ↓bs_n, ↓bo_y, ↓bo_n, bp_y, bp_n, and_true, true_and, and_self, us_if, if_y, if_n, if_true, if_false, w32_id, um_eq, um_ne, um_um, uu_eq, uu_ne, uu_uu, vv_eq, vv_ne, vv_vv, forall_eq, within_y, within_n, isIn_y, isIn_n, ne_eq, not_false_eq_true, not_true_eq_false, reduceCtorEq, Int.reduceAdd, Int.reduceSub, Int.reduceMul, Int.reduceNeg, Nat.reduceEqDiff, or_true, true_or, true_implies, false_implies, Int.reduceLT, Int.reduceLE, Int.reduceEq, w64_id, q2, tm, hd, q6]
      rw [mX12_pass_J43, isIn_n (by omega)]
      simp (disch := first | decide | omega) only [w32_id, rh_rcv, rh_g0, rh_r70, rh_w70, ↓be_y, ↓be_n, ↓bf_y, ↓bf_n, ↓bl_y, ↓bl_n, ↓bm_y, ↓bm_n, ↓bg_y, ↓bg_n, ↓bs_y, ↓bs_n, ↓bo_y, ↓bo_n, bp_y, bp_n, and_true, true_and, and_self, us_if, if_y, if_n, if_true, if_false, w32_id, um_eq, um_ne, um_um, uu_eq, uu_ne, uu_uu, vv_eq, vv_ne, vv_vv, forall_eq, within_y, within_n, isIn_y, isIn_n, ne_eq, not_false_eq_true, not_true_eq_false, reduceCtorEq, Int.reduceAdd, Int.reduceSub, Int.reduceMul, Int.reduceNeg, Nat.reduceEqDiff, or_true, true_or, true_implies, false_implies, Int.reduceLT, Int.reduceLE, Int.reduceEq]
      exact g5 F Q q
  by_cases c2 : d < 4
  · have ew : N 12 d = M 70 (9 + (d - 2)) ∧ 0 ≤ M 70 (9 + (d - 2)) ∧ M 70 (9 + (d - 2)) ≤ 9 := by
      obtain rfl | rfl : d = 2 ∨ d = 3 := by omega
      · exact ⟨e2, by have := e2; simp only [Int.reduceAdd, Int.reduceSub]; omega⟩
      · exact ⟨e3, by have := e3; simp only [Int.reduceAdd, Int.reduceSub]; omega⟩
    have q6 : d % 2 = d - 2 := by omega
    have q7 : 2 + d - 2 = d := by omega
    by_cases c3 : 0 < M 70 (9 + (d - 2))
    · have h2 := jY_w h1 (w := d - 2) (x := M 70 (9 + (d - 2)) - 1) (by omega) (by omega)
      rw [show 2 + (d - 2) = d by omega] at h2
      have h3 := jY_wr h2 (c := -1) (w := 2) (x := d - 2) (by omega) (by omega) (by omega)
      have l11 : 0 ≤ M 70 11 ∧ M 70 11 ≤ 30 := by rw [← e6]; exact k6
      have yw : yag (M 70) (wrA (us (us (M 70) 8 (nX (M 70 8))) (9 + (d - 2)) (M 70 (9 + (d - 2)) - 1)) (-1) 2 (d - 2)) := yag_t (yag_s (yag_s (yag_r _) (by omega)) (by omega)) (yag_wr (by simp (disch := omega) only [us_ne]; exact l11))
      have w7 : wrA (us (us (M 70) 8 (nX (M 70 8))) (9 + (d - 2)) (M 70 (9 + (d - 2)) - 1)) (-1) 2 (d - 2) 7 = M 70 7 := by
        rw [← (jY_d h3).1.1, wrY_n (by simp (disch := omega) only [us_ne]; exact k6) (by omega)]
        simp (disch := omega) only [us_ne]
        exact e0
      obtain ⟨Y', A', g1, g2, g3, g4, g5⟩ := ps2_12 (u := uu u 24 (u 24 + 1)) (M := um M 70 (wrA (us (us (M 70) 8 (nX (M 70 8))) (9 + (d - 2)) (M 70 (9 + (d - 2)) - 1)) (-1) 2 (d - 2))) (v := v) (N := um N 12 (wrY (us (us (N 12) 1 (nX (M 70 8))) d (M 70 (9 + (d - 2)) - 1)) (-1) 2 (d - 2))) (T := T) h3 (by simp (disch := omega) only [um_eq]; rw [w7]; exact hh)
      simp only [um_um, um_eq] at g2 g3 g4 g5
      refine ⟨1, Y', A', .inr rfl, g1, yag_t (yw) g2, by rw [g3]; rw [w7], fun F Q q => ?_, fun F Q q => ?_⟩
      · simp (disch := first | decide | omega) only [mX10_passHour, mX10_draw, mX10_drawnX, q7, kh_c11, kh_g11_0, kh_r12, kh_w12, kh_n12, kh_cp12_33, kh_cp12_68, kh_cp12_12, kh_cp12_14, ↓be_y, ↓be_n, ↓bf_y, ↓bf_n, ↓bl_y, ↓bl_n, ↓bm_y, ↓bm_n, ↓bg_y, ↓bg_n, ↓bs_y, ↓bs_n, ↓bo_y, ↓bo_n, bp_y, bp_n, and_true, true_and, and_self, us_if, if_y, if_n, if_true, if_false, w32_id, um_eq, um_ne, um_um, uu_eq, uu_ne, uu_uu, vv_eq, vv_ne, vv_vv, forall_eq, within_y, within_n, isIn_y, isIn_n, ne_eq, not_false_eq_true, not_true_eq_false, reduceCtorEq, Int.reduceAdd, Int.reduceSub, Int.reduceMul, Int.reduceNeg, Nat.reduceEqDiff, or_true, true_or, true_implies, false_implies, Int.reduceLT, Int.reduceLE, Int.reduceEq, e1, ew.1, q2, tm, hd]
        apply cwr12
        · simp (disch := omega) only [um_eq, us_ne]; exact k6
        · simp (disch := omega) only [um_eq, us_ne]; exact k0
        · omega
        · omega
        · omega
        · simp only [um_um, um_eq]
          exact g4 F 1 Q q
      · simp (disch := first | decide | omega) only [mX12_pass, mX12_drawnBy, mX12_anew, mX12_pass_J43, rh_rcv, rh_g0, rh_g24, rh_p24, rh_r70, rh_w70, ↓be_y, ↓be_n, ↓bf_y, ↓bf_n, ↓bl_y, ↓bl_n, ↓bm_y, ↓bm_n, ↓bg_y, ↓bg_n, ↓bs_y, ↓bs_n, ↓bo_y, ↓bo_n, bp_y, bp_n, and_true, true_and, and_self, us_if, if_y, if_n, if_true, if_false, w32_id, um_eq, um_ne, um_um, uu_eq, uu_ne, uu_uu, vv_eq, vv_ne, vv_vv, forall_eq, within_y, within_n, isIn_y, isIn_n, ne_eq, not_false_eq_true, not_true_eq_false, reduceCtorEq, Int.reduceAdd, Int.reduceSub, Int.reduceMul, Int.reduceNeg, Nat.reduceEqDiff, or_true, true_or, true_implies, false_implies, Int.reduceLT, Int.reduceLE, Int.reduceEq, w64_id, q2, tm, hd, q6]
        apply write_s (by simp only [uu_ne, ne_eq, reduceCtorEq, Nat.reduceEqDiff, not_false_eq_true]; exact h23) (by simp (disch := omega) only [um_eq, us_ne]; exact l11)
        try simp only [um_um, um_eq]
        exact g5 F Q q
    · obtain ⟨Y', A', g1, g2, g3, g4, g5⟩ := ps2_12 (u := u) (M := um M 70 (us (M 70) 8 (nX (M 70 8)))) (v := v) (N := um N 12 (us (N 12) 1 (nX (M 70 8)))) (T := T) h1 (by simp (disch := omega) only [um_eq, us_ne]; exact hh)
      simp only [um_um, um_eq] at g2 g3 g4 g5
      refine ⟨0, Y', A', .inl rfl, g1, yag_t (yag_s (yag_r _) (by omega)) g2, by rw [g3]; simp (disch := omega) only [us_ne], fun F Q q => ?_, fun F Q q => ?_⟩
      · simp (disch := first | decide | omega) only [mX10_passHour, mX10_draw, mX10_drawnX, q7, kh_c11, kh_g11_0, kh_r12, kh_w12, kh_n12, kh_cp12_33, kh_cp12_68, kh_cp12_12, kh_cp12_14, ↓be_y, ↓be_n, ↓bf_y, ↓bf_n, ↓bl_y, ↓bl_n, ↓bm_y, ↓bm_n, ↓bg_y, ↓bg_n, ↓bs_y, ↓bs_n, ↓bo_y, ↓bo_n, bp_y, bp_n, and_true, true_and, and_self, us_if, if_y, if_n, if_true, if_false, w32_id, um_eq, um_ne, um_um, uu_eq, uu_ne, uu_uu, vv_eq, vv_ne, vv_vv, forall_eq, within_y, within_n, isIn_y, isIn_n, ne_eq, not_false_eq_true, not_true_eq_false, reduceCtorEq, Int.reduceAdd, Int.reduceSub, Int.reduceMul, Int.reduceNeg, Nat.reduceEqDiff, or_true, true_or, true_implies, false_implies, Int.reduceLT, Int.reduceLE, Int.reduceEq, e1, ew.1, q2, tm, hd]
        exact g4 F 0 Q q
      · rw [uid] at q
        simp (disch := first | decide | omega) only [mX12_pass, mX12_drawnBy, mX12_anew, mX12_pass_J43, rh_rcv, rh_g0, rh_g24, rh_p24, rh_r70, rh_w70, ↓be_y, ↓be_n, ↓bf_y, ↓bf_n, ↓bl_y, ↓bl_n, ↓bm_y, ↓bm_n, ↓bg_y, ↓bg_n, ↓bs_y, ↓bs_n, ↓bo_y, ↓bo_n, bp_y, bp_n, and_true, true_and, and_self, us_if, if_y, if_n, if_true, if_false, w32_id, um_eq, um_ne, um_um, uu_eq, uu_ne, uu_uu, vv_eq, vv_ne, vv_vv, forall_eq, within_y, within_n, isIn_y, isIn_n, ne_eq, not_false_eq_true, not_true_eq_false, reduceCtorEq, Int.reduceAdd, Int.reduceSub, Int.reduceMul, Int.reduceNeg, Nat.reduceEqDiff, or_true, true_or, true_implies, false_implies, Int.reduceLT, Int.reduceLE, Int.reduceEq, w64_id, q2, tm, hd, q6]
        exact g5 F Q q
  · obtain ⟨Y', A', g1, g2, g3, g4, g5⟩ := ps2_12 (u := u) (M := um M 70 (us (M 70) 8 (nX (M 70 8)))) (v := v) (N := um N 12 (us (N 12) 1 (nX (M 70 8)))) (T := T) h1 (by simp (disch := omega) only [um_eq, us_ne]; exact hh)
    simp only [um_um, um_eq] at g2 g3 g4 g5
    refine ⟨0, Y', A', .inl rfl, g1, yag_t (yag_s (yag_r _) (by omega)) g2, by rw [g3]; simp (disch := omega) only [us_ne], fun F Q q => ?_, fun F Q q => ?_⟩
    · simp (disch := first | decide | omega) only [mX10_passHour, mX10_draw, mX10_drawnX, kh_c11, kh_g11_0, kh_r12, kh_w12, kh_n12, kh_cp12_33, kh_cp12_68, kh_cp12_12, kh_cp12_14, ↓be_y, ↓be_n, ↓bf_y, ↓bf_n, ↓bl_y, ↓bl_n, ↓bm_y, ↓bm_n, ↓bg_y, ↓bg_n, ↓bs_y, ↓bs_n, ↓bo_y, ↓bo_n, bp_y, bp_n, and_true, true_and, and_self, us_if, if_y, if_n, if_true, if_false, w32_id, um_eq, um_ne, um_um, uu_eq, uu_ne, uu_uu, vv_eq, vv_ne, vv_vv, forall_eq, within_y, within_n, isIn_y, isIn_n, ne_eq, not_false_eq_true, not_true_eq_false, reduceCtorEq, Int.reduceAdd, Int.reduceSub, Int.reduceMul, Int.reduceNeg, Nat.reduceEqDiff, or_true, true_or, true_implies, false_implies, Int.reduceLT, Int.reduceLE, Int.reduceEq, e1, q2, tm, hd]
      exact g4 F 0 Q q
    · rw [uid] at q
      simp (disch := first | decide | omega) only [mX12_pass, mX12_drawnBy, mX12_anew, mX12_pass_J43, rh_rcv, rh_g0, rh_g24, rh_p24, rh_r70, rh_w70, ↓be_y, ↓be_n, ↓bf_y, ↓bf_n, ↓bl_y, ↓bl_n, ↓bm_y, ↓bm_n, ↓bg_y, ↓bg_n, ↓bs_y, ↓bs_n, ↓bo_y, ↓bo_n, bp_y, bp_n, and_true, true_and, and_self, us_if, if_y, if_n, if_true, if_false, w32_id, um_eq, um_ne, um_um, uu_eq, uu_ne, uu_uu, vv_eq, vv_ne, vv_vv, forall_eq, within_y, within_n, isIn_y, isIn_n, ne_eq, not_false_eq_true, not_true_eq_false, reduceCtorEq, Int.reduceAdd, Int.reduceSub, Int.reduceMul, Int.reduceNeg, Nat.reduceEqDiff, or_true, true_or, true_implies, false_implies, Int.reduceLT, Int.reduceLE, Int.reduceEq, w64_id, q2, tm, hd]
      exact g5 F Q q
set_option maxHeartbeats 4000000 in
theorem ps2_68 (h : wR (N 68) (M 70)) (hh : M 70 7 < 9999) : ∃ Y' A', wR Y' A' ∧ yaw (M 70) A' ∧ A' 7 = M 70 7 + 1 ∧ (∀ (F : hp) (b : Int) (Q : Int → hp → Prop), Q b (kh F v (um N 68 Y') T) → mX10_passHour_J65 Q 67 b (kh F v N T)) ∧ (∀ (F : hp) (Q : hp → Prop), Q (rh F u (um M 70 A')) → mX12_pass_J94 Q 69 (rh F u M)) := by
  have k : yok (N 68) := h.2
  obtain ⟨e0, e1, e2, e3, e4⟩ := (wR_d h).1
  have e9 := (wR_d h).2
  have k0 := k.1
  have k1 := k.2.1
  have k4 := k.2.2.2.2.1
  by_cases d : 0 < M 70 0
  · have c0 : 0 ≤ M 70 8 % M 70 0 ∧ M 70 8 % M 70 0 < M 70 0 := ⟨Int.emod_nonneg _ (by omega), Int.emod_lt_of_pos _ d⟩
    have o := e9 (M 70 8 % M 70 0) (by omega) (by omega)
    have ib := inc_b o.2
    have nb := nX_b (M 70 8)
    have q1 := iMin9 o.2
    have q2 := nXf (M 70 8)
    have dn : ¬ M 70 0 = 0 := by omega
    have q4 : ∀ F (Q : Int → hp → Prop), mX12_cut (M 70 (31 + M 70 8 % M 70 0) + 1) 0 9 F Q ↔ Q (inc (M 70 (31 + M 70 8 % M 70 0))) F := fun F Q => cut9 o.2
    generalize hcc : M 70 8 % M 70 0 = c at c0 o ib q1 q4
    refine ⟨us (us (us (N 68) 1 (nX (M 70 8))) (6 + c) (inc (M 70 (31 + c)))) 0 (M 70 7 + 1), us (us (us (M 70) 8 (nX (M 70 8))) (31 + c) (inc (M 70 (31 + c)))) 7 (M 70 7 + 1), wR_h (wR_o (wR_x h nb) (by omega) ib) (by omega), yaw_s (yaw_s (yaw_s (yaw_r _) (by omega)) (by omega)) (by omega), us_eq _ _ _, fun F b Q q => ?_, fun F Q q => ?_⟩
    · simp (disch := first | decide | omega) only [mX10_passHour_J65, mX10_passHour_J106, mX10_countCars, mX10_draw, mX10_drawnX, kh_c67, kh_g67_0, kh_r68, kh_w68, kh_n68, ↓be_y, ↓be_n, ↓bf_y, ↓bf_n, ↓bl_y, ↓bl_n, ↓bm_y, ↓bm_n, ↓bg_y, ↓bg_n, ↓bs_y, ↓bs_n, ↓bo_y, ↓bo_n, bp_y, bp_n, and_true, true_and, and_self, us_if, if_y, if_n, if_true, if_false, w32_id, um_eq, um_ne, um_um, uu_eq, uu_ne, uu_uu, vv_eq, vv_ne, vv_vv, forall_eq, within_y, within_n, isIn_y, isIn_n, ne_eq, not_false_eq_true, not_true_eq_false, reduceCtorEq, Int.reduceAdd, Int.reduceSub, Int.reduceMul, Int.reduceNeg, Nat.reduceEqDiff, or_true, true_or, true_implies, false_implies, Int.reduceLT, Int.reduceLE, Int.reduceEq, e0, e1, e4, o.1, q1, q2, tm, hcc, dn]
      exact q
    · simp (disch := first | decide | omega) only [mX12_pass_J94, mX12_pass_J141, mX12_drawnBy, mX12_anew, q4, rh_rcv, rh_g0, rh_r70, rh_w70, ↓be_y, ↓be_n, ↓bf_y, ↓bf_n, ↓bl_y, ↓bl_n, ↓bm_y, ↓bm_n, ↓bg_y, ↓bg_n, ↓bs_y, ↓bs_n, ↓bo_y, ↓bo_n, bp_y, bp_n, and_true, true_and, and_self, us_if, if_y, if_n, if_true, if_false, w32_id, um_eq, um_ne, um_um, uu_eq, uu_ne, uu_uu, vv_eq, vv_ne, vv_vv, forall_eq, within_y, within_n, isIn_y, isIn_n, ne_eq, not_false_eq_true, not_true_eq_false, reduceCtorEq, Int.reduceAdd, Int.reduceSub, Int.reduceMul, Int.reduceNeg, Nat.reduceEqDiff, or_true, true_or, true_implies, false_implies, Int.reduceLT, Int.reduceLE, Int.reduceEq, w64_id, q2, tm, hcc, dn]
      exact q
  · refine ⟨us (N 68) 0 (M 70 7 + 1), us (M 70) 7 (M 70 7 + 1), wR_h h (by omega), yaw_s (yaw_r _) (by omega), us_eq _ _ _, fun F b Q q => ?_, fun F Q q => ?_⟩
    · simp (disch := first | decide | omega) only [mX10_passHour_J65, mX10_passHour_J106, mX10_countCars, kh_c67, kh_g67_0, kh_r68, kh_w68, kh_n68, ↓be_y, ↓be_n, ↓bf_y, ↓bf_n, ↓bl_y, ↓bl_n, ↓bm_y, ↓bm_n, ↓bg_y, ↓bg_n, ↓bs_y, ↓bs_n, ↓bo_y, ↓bo_n, bp_y, bp_n, and_true, true_and, and_self, us_if, if_y, if_n, if_true, if_false, w32_id, um_eq, um_ne, um_um, uu_eq, uu_ne, uu_uu, vv_eq, vv_ne, vv_vv, forall_eq, within_y, within_n, isIn_y, isIn_n, ne_eq, not_false_eq_true, not_true_eq_false, reduceCtorEq, Int.reduceAdd, Int.reduceSub, Int.reduceMul, Int.reduceNeg, Nat.reduceEqDiff, or_true, true_or, true_implies, false_implies, Int.reduceLT, Int.reduceLE, Int.reduceEq, e0, e4]
      exact q
    · simp (disch := first | decide | omega) only [mX12_pass_J94, mX12_pass_J141, rh_rcv, rh_g0, rh_r70, rh_w70, ↓be_y, ↓be_n, ↓bf_y, ↓bf_n, ↓bl_y, ↓bl_n, ↓bm_y, ↓bm_n, ↓bg_y, ↓bg_n, ↓bs_y, ↓bs_n, ↓bo_y, ↓bo_n, bp_y, bp_n, and_true, true_and, and_self, us_if, if_y, if_n, if_true, if_false, w32_id, um_eq, um_ne, um_um, uu_eq, uu_ne, uu_uu, vv_eq, vv_ne, vv_vv, forall_eq, within_y, within_n, isIn_y, isIn_n, ne_eq, not_false_eq_true, not_true_eq_false, reduceCtorEq, Int.reduceAdd, Int.reduceSub, Int.reduceMul, Int.reduceNeg, Nat.reduceEqDiff, or_true, true_or, true_implies, false_implies, Int.reduceLT, Int.reduceLE, Int.reduceEq]
      exact q
set_option maxHeartbeats 4000000 in
theorem ps1_68 (h : wR (N 68) (M 70)) (hh : M 70 7 < 9999) (h23 : u 23 = 0) : ∃ b Y' A', (b = 0 ∨ b = 1) ∧ wR Y' A' ∧ yaw (M 70) A' ∧ A' 7 = M 70 7 + 1 ∧ (∀ (F : hp) (Q : Int → hp → Prop), Q b (kh F v (um N 68 Y') T) → mX10_passHour 67 (kh F v N T) Q) ∧ (∀ (F : hp) (Q : hp → Prop), Q (rh F (uu u 24 (u 24 + b)) (um M 70 A')) → mX12_pass 69 (rh F u M) Q) := by
  have k : yok (N 68) := h.2
  obtain ⟨e0, e1, e2, e3, e4⟩ := (wR_d h).1
  have k0 := k.1
  have k1 := k.2.1
  have k2 := k.2.2.1
  have k3 := k.2.2.2.1
  have k4 := k.2.2.2.2.1
  have k6 := k.2.2.2.2.2.2.1
  have nb := nX_b (M 70 8)
  have q2 := nXf (M 70 8)
  have h1 := wR_x h nb
  generalize hd : M 70 8 % 10 = d
  have db : 0 ≤ d ∧ d < 10 := by omega
  have uid : uu u 24 (u 24 + 0) = u := by
    funext j
    by_cases hj : j = 24 <;> simp [uu, hj]
  by_cases c1 : d < 2
  · have ew : N 68 (2 + d) = M 70 (9 + d) ∧ 0 ≤ M 70 (9 + d) ∧ M 70 (9 + d) ≤ 9 := by
      obtain rfl | rfl : d = 0 ∨ d = 1 := by omega
      · exact ⟨e2, by have := e2; simp only [Int.reduceAdd]; omega⟩
      · exact ⟨e3, by have := e3; simp only [Int.reduceAdd]; omega⟩
    have q4 := iMin9 ew.2
    have q5 : ∀ F (Q : Int → hp → Prop), mX12_cut (M 70 (9 + d) + 1) 0 9 F Q ↔ Q (inc (M 70 (9 + d))) F := fun F Q => cut9 ew.2
    have q6 : d % 2 = d := by omega
    have h2 := wR_w h1 (w := d) (x := inc (M 70 (9 + d))) (by omega) (inc_b ew.2)
    obtain ⟨Y', A', g1, g2, g3, g4, g5⟩ := ps2_68 (u := u) (M := um M 70 (us (us (M 70) 8 (nX (M 70 8))) (9 + d) (inc (M 70 (9 + d))))) (v := v) (N := um N 68 (us (us (N 68) 1 (nX (M 70 8))) (2 + d) (inc (M 70 (9 + d))))) (T := T) h2 (by simp (disch := omega) only [um_eq, us_ne]; exact hh)
    simp only [um_um, um_eq] at g2 g3 g4 g5
    refine ⟨0, Y', A', .inl rfl, g1, yaw_t (yaw_s (yaw_s (yaw_r _) (by omega)) (by omega)) g2, by rw [g3]; simp (disch := omega) only [us_ne], fun F Q q => ?_, fun F Q q => ?_⟩
    · simp (disch := first | decide | omega) only [mX10_passHour, mX10_draw, mX10_drawnX, mX10_gainWheel, kh_c67, kh_g67_0, kh_r68, kh_w68, kh_n68, ↓be_y, ↓be_n, ↓bf_y, ↓bf_n, ↓bl_y, ↓bl_n, ↓bm_y, ↓bm_n, ↓bg_y, ↓bg_n, ↓bs_y, ↓bs_n, ↓bo_y, ↓bo_n, bp_y, bp_n, and_true, true_and, and_self, us_if, if_y, if_n, if_true, if_false, w32_id, um_eq, um_ne, um_um, uu_eq, uu_ne, uu_uu, vv_eq, vv_ne, vv_vv, forall_eq, within_y, within_n, isIn_y, isIn_n, ne_eq, not_false_eq_true, not_true_eq_false, reduceCtorEq, Int.reduceAdd, Int.reduceSub, Int.reduceMul, Int.reduceNeg, Nat.reduceEqDiff, or_true, true_or, true_implies, false_implies, Int.reduceLT, Int.reduceLE, Int.reduceEq, e1, ew.1, q2, q4, tm, hd]
      exact g4 F 0 Q q
    · rw [uid] at q
      simp (disch := first | decide | omega) only [mX12_pass, mX12_drawnBy, mX12_anew, q5, rh_rcv, rh_g0, rh_r70, rh_w70, ↓be_y, ↓be_n, ↓bf_y, ↓bf_n, ↓bl_y, ↓bl_n, ↓bm_y, ↓bm_n, ↓bg_y, ↓bg_n, ↓bs_y, ↓bs_n, ↓bo_y, ↓bo_n, bp_y, bp_n, and_true, true_and, and_self, us_if, if_y, if_n, if_true, if_false, w32_id, um_eq, um_ne, um_um, uu_eq, uu_ne, uu_uu, vv_eq, vv_ne, vv_vv, forall_eq, within_y, within_n, isIn_y, isIn_n, ne_eq, not_false_eq_true, not_true_eq_false, reduceCtorEq, Int.reduceAdd, Int.reduceSub, Int.reduceMul, Int.reduceNeg, Nat.reduceEqDiff, or_true, true_or, true_implies, false_implies, Int.reduceLT, Int.reduceLE, Int.reduceEq, w64_id, q2, tm, hd, q6]
      rw [mX12_pass_J43, isIn_n (by omega)]
      simp (disch := first | decide | omega) only [w32_id, rh_rcv, rh_g0, rh_r70, rh_w70, ↓be_y, ↓be_n, ↓bf_y, ↓bf_n, ↓bl_y, ↓bl_n, ↓bm_y, ↓bm_n, ↓bg_y, ↓bg_n, ↓bs_y, ↓bs_n, ↓bo_y, ↓bo_n, bp_y, bp_n, and_true, true_and, and_self, us_if, if_y, if_n, if_true, if_false, w32_id, um_eq, um_ne, um_um, uu_eq, uu_ne, uu_uu, vv_eq, vv_ne, vv_vv, forall_eq, within_y, within_n, isIn_y, isIn_n, ne_eq, not_false_eq_true, not_true_eq_false, reduceCtorEq, Int.reduceAdd, Int.reduceSub, Int.reduceMul, Int.reduceNeg, Nat.reduceEqDiff, or_true, true_or, true_implies, false_implies, Int.reduceLT, Int.reduceLE, Int.reduceEq]
      exact g5 F Q q
  by_cases c2 : d < 4
  · have ew : N 68 d = M 70 (9 + (d - 2)) ∧ 0 ≤ M 70 (9 + (d - 2)) ∧ M 70 (9 + (d - 2)) ≤ 9 := by
      obtain rfl | rfl : d = 2 ∨ d = 3 := by omega
      · exact ⟨e2, by have := e2; simp only [Int.reduceAdd, Int.reduceSub]; omega⟩
      · exact ⟨e3, by have := e3; simp only [Int.reduceAdd, Int.reduceSub]; omega⟩
    have q6 : d % 2 = d - 2 := by omega
    have q7 : 2 + d - 2 = d := by omega
    by_cases c3 : 0 < M 70 (9 + (d - 2))
    · have h2 := wR_w h1 (w := d - 2) (x := M 70 (9 + (d - 2)) - 1) (by omega) (by omega)
      rw [show 2 + (d - 2) = d by omega] at h2
      have h3 := wR_wr (c := -1) (w := 2) (x := d - 2) h2
      obtain ⟨Y', A', g1, g2, g3, g4, g5⟩ := ps2_68 (u := uu u 24 (u 24 + 1)) (M := um M 70 (us (us (M 70) 8 (nX (M 70 8))) (9 + (d - 2)) (M 70 (9 + (d - 2)) - 1))) (v := v) (N := um N 68 (wrY (us (us (N 68) 1 (nX (M 70 8))) d (M 70 (9 + (d - 2)) - 1)) (-1) 2 (d - 2))) (T := T) h3 (by simp (disch := omega) only [um_eq]; simp (disch := omega) only [us_ne]; exact hh)
      simp only [um_um, um_eq] at g2 g3 g4 g5
      refine ⟨1, Y', A', .inr rfl, g1, yaw_t (yaw_s (yaw_s (yaw_r _) (by omega)) (by omega)) g2, by rw [g3]; simp (disch := omega) only [us_ne], fun F Q q => ?_, fun F Q q => ?_⟩
      · simp (disch := first | decide | omega) only [mX10_passHour, mX10_draw, mX10_drawnX, q7, kh_c67, kh_g67_0, kh_r68, kh_w68, kh_n68, ↓be_y, ↓be_n, ↓bf_y, ↓bf_n, ↓bl_y, ↓bl_n, ↓bm_y, ↓bm_n, ↓bg_y, ↓bg_n, ↓bs_y, ↓bs_n, ↓bo_y, ↓bo_n, bp_y, bp_n, and_true, true_and, and_self, us_if, if_y, if_n, if_true, if_false, w32_id, um_eq, um_ne, um_um, uu_eq, uu_ne, uu_uu, vv_eq, vv_ne, vv_vv, forall_eq, within_y, within_n, isIn_y, isIn_n, ne_eq, not_false_eq_true, not_true_eq_false, reduceCtorEq, Int.reduceAdd, Int.reduceSub, Int.reduceMul, Int.reduceNeg, Nat.reduceEqDiff, or_true, true_or, true_implies, false_implies, Int.reduceLT, Int.reduceLE, Int.reduceEq, e1, ew.1, q2, tm, hd]
        apply cwr68
        · simp (disch := omega) only [um_eq, us_ne]; exact k6
        · simp (disch := omega) only [um_eq, us_ne]; exact k0
        · omega
        · omega
        · omega
        · simp only [um_um, um_eq]
          exact g4 F 1 Q q
      · simp (disch := first | decide | omega) only [mX12_pass, mX12_drawnBy, mX12_anew, mX12_pass_J43, rh_rcv, rh_g0, rh_g24, rh_p24, rh_r70, rh_w70, ↓be_y, ↓be_n, ↓bf_y, ↓bf_n, ↓bl_y, ↓bl_n, ↓bm_y, ↓bm_n, ↓bg_y, ↓bg_n, ↓bs_y, ↓bs_n, ↓bo_y, ↓bo_n, bp_y, bp_n, and_true, true_and, and_self, us_if, if_y, if_n, if_true, if_false, w32_id, um_eq, um_ne, um_um, uu_eq, uu_ne, uu_uu, vv_eq, vv_ne, vv_vv, forall_eq, within_y, within_n, isIn_y, isIn_n, ne_eq, not_false_eq_true, not_true_eq_false, reduceCtorEq, Int.reduceAdd, Int.reduceSub, Int.reduceMul, Int.reduceNeg, Nat.reduceEqDiff, or_true, true_or, true_implies, false_implies, Int.reduceLT, Int.reduceLE, Int.reduceEq, w64_id, q2, tm, hd, q6]
        apply write_0 (by simp only [uu_ne, ne_eq, reduceCtorEq, Nat.reduceEqDiff, not_false_eq_true]; exact h23)
        try simp only [um_um, um_eq]
        exact g5 F Q q
    · obtain ⟨Y', A', g1, g2, g3, g4, g5⟩ := ps2_68 (u := u) (M := um M 70 (us (M 70) 8 (nX (M 70 8)))) (v := v) (N := um N 68 (us (N 68) 1 (nX (M 70 8)))) (T := T) h1 (by simp (disch := omega) only [um_eq, us_ne]; exact hh)
      simp only [um_um, um_eq] at g2 g3 g4 g5
      refine ⟨0, Y', A', .inl rfl, g1, yaw_t (yaw_s (yaw_r _) (by omega)) g2, by rw [g3]; simp (disch := omega) only [us_ne], fun F Q q => ?_, fun F Q q => ?_⟩
      · simp (disch := first | decide | omega) only [mX10_passHour, mX10_draw, mX10_drawnX, q7, kh_c67, kh_g67_0, kh_r68, kh_w68, kh_n68, ↓be_y, ↓be_n, ↓bf_y, ↓bf_n, ↓bl_y, ↓bl_n, ↓bm_y, ↓bm_n, ↓bg_y, ↓bg_n, ↓bs_y, ↓bs_n, ↓bo_y, ↓bo_n, bp_y, bp_n, and_true, true_and, and_self, us_if, if_y, if_n, if_true, if_false, w32_id, um_eq, um_ne, um_um, uu_eq, uu_ne, uu_uu, vv_eq, vv_ne, vv_vv, forall_eq, within_y, within_n, isIn_y, isIn_n, ne_eq, not_false_eq_true, not_true_eq_false, reduceCtorEq, Int.reduceAdd, Int.reduceSub, Int.reduceMul, Int.reduceNeg, Nat.reduceEqDiff, or_true, true_or, true_implies, false_implies, Int.reduceLT, Int.reduceLE, Int.reduceEq, e1, ew.1, q2, tm, hd]
        exact g4 F 0 Q q
      · rw [uid] at q
        simp (disch := first | decide | omega) only [mX12_pass, mX12_drawnBy, mX12_anew, mX12_pass_J43, rh_rcv, rh_g0, rh_g24, rh_p24, rh_r70, rh_w70, ↓be_y, ↓be_n, ↓bf_y, ↓bf_n, ↓bl_y, ↓bl_n, ↓bm_y, ↓bm_n, ↓bg_y, ↓bg_n, ↓bs_y, ↓bs_n, ↓bo_y, ↓bo_n, bp_y, bp_n, and_true, true_and, and_self, us_if, if_y, if_n, if_true, if_false, w32_id, um_eq, um_ne, um_um, uu_eq, uu_ne, uu_uu, vv_eq, vv_ne, vv_vv, forall_eq, within_y, within_n, isIn_y, isIn_n, ne_eq, not_false_eq_true, not_true_eq_false, reduceCtorEq, Int.reduceAdd, Int.reduceSub, Int.reduceMul, Int.reduceNeg, Nat.reduceEqDiff, or_true, true_or, true_implies, false_implies, Int.reduceLT, Int.reduceLE, Int.reduceEq, w64_id, q2, tm, hd, q6]
        exact g5 F Q q
  · obtain ⟨Y', A', g1, g2, g3, g4, g5⟩ := ps2_68 (u := u) (M := um M 70 (us (M 70) 8 (nX (M 70 8)))) (v := v) (N := um N 68 (us (N 68) 1 (nX (M 70 8)))) (T := T) h1 (by simp (disch := omega) only [um_eq, us_ne]; exact hh)
    simp only [um_um, um_eq] at g2 g3 g4 g5
    refine ⟨0, Y', A', .inl rfl, g1, yaw_t (yaw_s (yaw_r _) (by omega)) g2, by rw [g3]; simp (disch := omega) only [us_ne], fun F Q q => ?_, fun F Q q => ?_⟩
    · simp (disch := first | decide | omega) only [mX10_passHour, mX10_draw, mX10_drawnX, kh_c67, kh_g67_0, kh_r68, kh_w68, kh_n68, ↓be_y, ↓be_n, ↓bf_y, ↓bf_n, ↓bl_y, ↓bl_n, ↓bm_y, ↓bm_n, ↓bg_y, ↓bg_n, ↓bs_y, ↓bs_n, ↓bo_y, ↓bo_n, bp_y, bp_n, and_true, true_and, and_self, us_if, if_y, if_n, if_true, if_false, w32_id, um_eq, um_ne, um_um, uu_eq, uu_ne, uu_uu, vv_eq, vv_ne, vv_vv, forall_eq, within_y, within_n, isIn_y, isIn_n, ne_eq, not_false_eq_true, not_true_eq_false, reduceCtorEq, Int.reduceAdd, Int.reduceSub, Int.reduceMul, Int.reduceNeg, Nat.reduceEqDiff, or_true, true_or, true_implies, false_implies, Int.reduceLT, Int.reduceLE, Int.reduceEq, e1, q2, tm, hd]
      exact g4 F 0 Q q
    · rw [uid] at q
      simp (disch := first | decide | omega) only [mX12_pass, mX12_drawnBy, mX12_anew, mX12_pass_J43, rh_rcv, rh_g0, rh_g24, rh_p24, rh_r70, rh_w70, ↓be_y, ↓be_n, ↓bf_y, ↓bf_n, ↓bl_y, ↓bl_n, ↓bm_y, ↓bm_n, ↓bg_y, ↓bg_n, ↓bs_y, ↓bs_n, ↓bo_y, ↓bo_n, bp_y, bp_n, and_true, true_and, and_self, us_if, if_y, if_n, if_true, if_false, w32_id, um_eq, um_ne, um_um, uu_eq, uu_ne, uu_uu, vv_eq, vv_ne, vv_vv, forall_eq, within_y, within_n, isIn_y, isIn_n, ne_eq, not_false_eq_true, not_true_eq_false, reduceCtorEq, Int.reduceAdd, Int.reduceSub, Int.reduceMul, Int.reduceNeg, Nat.reduceEqDiff, or_true, true_or, true_implies, false_implies, Int.reduceLT, Int.reduceLE, Int.reduceEq, w64_id, q2, tm, hd]
      exact g5 F Q q
end PS
