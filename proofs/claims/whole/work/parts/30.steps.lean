-- ===== the book, the steps =====
def wrA (A : Int → Int) (c w x : Int) : Int → Int := us (us (if A 11 = 30 then us (cpy A A 1925 1924 29) 11 29 else A) (1924 + (if A 11 = 30 then us (cpy A A 1925 1924 29) 11 29 else A) 11) ((((if A 11 = 30 then us (cpy A A 1925 1924 29) 11 29 else A) 7 * 6 + c + 1) * 3 + w) * 3 + x)) 11 ((if A 11 = 30 then us (cpy A A 1925 1924 29) 11 29 else A) 11 + 1)
def wrY (Y : Int → Int) (c w x : Int) : Int → Int := us (us (if Y 29 < 30 then Y else us (cpy Y Y 31 30 29) 29 29) (30 + (if Y 29 < 30 then Y else us (cpy Y Y 31 30 29) 29 29) 29) (pk ((((if Y 29 < 30 then Y else us (cpy Y Y 31 30 29) 29 29) 0 * 6 + (c + 1)) * 3 + w) * 3 + x))) 29 ((if Y 29 < 30 then Y else us (cpy Y Y 31 30 29) 29 29) 29 + 1)
section ST
variable {F : hp} {u : Nat → Int} {M : Nat → Int → Int} {v : Nat → Nat → Int} {N : Nat → Int → Int} {T : Nat → Int → Option Nat}
theorem wrL {A : Int → Int} {c w x : Int} {Q : hp → Prop} (q : mX12_write_J71 Q 69 c w x (rh F u (um M 70 (us (cpy A A 1925 1924 29) 11 29)))) (h11 : A 11 = 30) : ∀ (n : Nat) (i : Int), i + n = 30 → 1 ≤ i → mX12_write_L23 Q (n + 1) 69 c w x i (rh F u (um M 70 (cpy A A 1925 1924 (i - 1)))) := by
  intro n
  induction n with
  | zero =>
    intro i hi h1
    obtain rfl : i = 30 := by omega
    rw [mX12_write_L23]
    simp (disch := omega) only [cpy_out, h11, rh_rcv, rh_g0, rh_r70, rh_w70, ↓i_pos, ↓i_neg, and_true, true_and, and_self, w32_id, us_at, us_ne, um_eq, um_ne, um_um, uu_eq, uu_ne, uu_uu, vv_eq, vv_ne, vv_vv, forall_eq, within_y, within_n, isIn_y, isIn_n, ne_eq, not_false_eq_true, not_true_eq_false, reduceCtorEq, Int.reduceAdd, Int.reduceSub, Int.reduceMul, Int.reduceNeg, Nat.reduceEqDiff, or_true, true_or, true_implies, false_implies, Int.reduceLT, Int.reduceLE, Int.reduceEq, iMax_l, iMax_r, iMin_l, iMin_r]
    exact q
  | succ n ih =>
    intro i hi h1
    rw [mX12_write_L23]
    simp (disch := omega) only [cpy_out, rh_rcv, rh_g0, rh_r70, rh_w70, ↓i_pos, ↓i_neg, and_true, true_and, and_self, w32_id, us_at, us_ne, um_eq, um_ne, um_um, uu_eq, uu_ne, uu_uu, vv_eq, vv_ne, vv_vv, forall_eq, within_y, within_n, isIn_y, isIn_n, ne_eq, not_false_eq_true, not_true_eq_false, reduceCtorEq, Int.reduceAdd, Int.reduceSub, Int.reduceMul, Int.reduceNeg, Nat.reduceEqDiff, or_true, true_or, true_implies, false_implies, Int.reduceLT, Int.reduceLE, Int.reduceEq, iMax_l, iMax_r, iMin_l, iMin_r]
    have e := cpy_step (f := A) (g := A) (sp := 1925) (dp := 1924) (i := i - 1) (by omega)
    rw [show 1924 + (i - 1) = 1924 + i - 1 by omega, show 1925 + (i - 1) = 1924 + i by omega, show i - 1 + 1 = i + 1 - 1 by omega] at e
    rw [e]
    exact ih (i + 1) (by omega) (by omega)
theorem write_s {c w x : Int} {Q : hp → Prop} (h0 : u 23 = 1) (h1 : 0 ≤ M 70 11 ∧ M 70 11 ≤ 30) (q : Q (rh F u (um M 70 (wrA (M 70) c w x)))) : mX12_write 69 c w x (rh F u M) Q := by
  unfold wrA at q
  by_cases d : M 70 11 = 30
  · simp only [d, if_true] at q
    simp (disch := omega) only [mX12_write, h0, rh_rcv, rh_g0, rh_g23, rh_p23, rh_r70, rh_w70, ↓i_pos, ↓i_neg, and_true, true_and, and_self, w32_id, us_at, us_ne, um_eq, um_ne, um_um, uu_eq, uu_ne, uu_uu, vv_eq, vv_ne, vv_vv, forall_eq, within_y, within_n, isIn_y, isIn_n, ne_eq, not_false_eq_true, not_true_eq_false, reduceCtorEq, Int.reduceAdd, Int.reduceSub, Int.reduceMul, Int.reduceNeg, Nat.reduceEqDiff, or_true, true_or, true_implies, false_implies, Int.reduceLT, Int.reduceLE, Int.reduceEq, iMax_l, iMax_r, iMin_l, iMin_r]
    refine ⟨30, ?_⟩
    have g := wrL (F := F) (u := u) (M := M) (A := M 70) (c := c) (w := w) (x := x) (Q := Q) ?_ d 29 1 (by omega) (by omega)
    · rw [show (1 : Int) - 1 = 0 by rfl, cpy_0] at g
      have e : um M 70 (M 70) = M := by funext j; by_cases hj : j = 70 <;> simp [um, hj]
      rw [e] at g
      exact g
    · simp (disch := omega) only [mX12_write_J71, cpy_out, rh_rcv, rh_g0, rh_r70, rh_w70, ↓i_pos, ↓i_neg, and_true, true_and, and_self, w32_id, us_at, us_ne, um_eq, um_ne, um_um, uu_eq, uu_ne, uu_uu, vv_eq, vv_ne, vv_vv, forall_eq, within_y, within_n, isIn_y, isIn_n, ne_eq, not_false_eq_true, not_true_eq_false, reduceCtorEq, Int.reduceAdd, Int.reduceSub, Int.reduceMul, Int.reduceNeg, Nat.reduceEqDiff, or_true, true_or, true_implies, false_implies, Int.reduceLT, Int.reduceLE, Int.reduceEq, iMax_l, iMax_r, iMin_l, iMin_r]
      simp (disch := omega) only [us_at, us_ne, cpy_out] at q
      exact q
  · simp only [d, if_false] at q
    simp (disch := omega) only [mX12_write, mX12_write_J71, h0, rh_rcv, rh_g0, rh_g23, rh_p23, rh_r70, rh_w70, ↓i_pos, ↓i_neg, and_true, true_and, and_self, w32_id, us_at, us_ne, um_eq, um_ne, um_um, uu_eq, uu_ne, uu_uu, vv_eq, vv_ne, vv_vv, forall_eq, within_y, within_n, isIn_y, isIn_n, ne_eq, not_false_eq_true, not_true_eq_false, reduceCtorEq, Int.reduceAdd, Int.reduceSub, Int.reduceMul, Int.reduceNeg, Nat.reduceEqDiff, or_true, true_or, true_implies, false_implies, Int.reduceLT, Int.reduceLE, Int.reduceEq, iMax_l, iMax_r, iMin_l, iMin_r]
    exact q
theorem write_0 {c w x : Int} {Q : hp → Prop} (h0 : u 23 = 0) (q : Q (rh F u M)) : mX12_write 69 c w x (rh F u M) Q := by
  simp (disch := omega) only [mX12_write, h0, rh_rcv, rh_g0, rh_g23, rh_p23, rh_r70, rh_w70, ↓i_pos, ↓i_neg, and_true, true_and, and_self, w32_id, us_at, us_ne, um_eq, um_ne, um_um, uu_eq, uu_ne, uu_uu, vv_eq, vv_ne, vv_vv, forall_eq, within_y, within_n, isIn_y, isIn_n, ne_eq, not_false_eq_true, not_true_eq_false, reduceCtorEq, Int.reduceAdd, Int.reduceSub, Int.reduceMul, Int.reduceNeg, Nat.reduceEqDiff, or_true, true_or, true_implies, false_implies, Int.reduceLT, Int.reduceLE, Int.reduceEq, iMax_l, iMax_r, iMin_l, iMin_r]
  exact q
theorem kh_cq68 {sp dp n : Int} {K : hp → Prop} (h1 : 0 ≤ sp) (h2 : 0 ≤ dp) (h3 : 0 ≤ n) (h4 : sp + n ≤ 60) (h5 : dp + n ≤ 60) : cpI (kh F v N T) (some 68) sp (some 68) dp n K ↔ K (kh F v (um N 68 (cpy (N 68) (N 68) sp dp n)) T) := by
  rw [cpI_s (n0 := 60) (n1 := 60) (f := N 68) (g := N 68) (by rw [kh_in (by decide) (by decide)]; rfl) (by rw [kh_in (by decide) (by decide)]; rfl) (by decide) (by decide) h1 h2 h3 h4 h5, kh_set (v' := v) (N' := um N 68 (cpy (N 68) (N 68) sp dp n)) (T' := T) (by decide) (by decide) (by rfl) (fun j hj => kcell_n hj)]
theorem cwr12 {c w x : Int} {Q : hp → Prop} (h1 : 0 ≤ N 12 29 ∧ N 12 29 ≤ 30) (h2 : 0 ≤ N 12 0 ∧ N 12 0 ≤ 9999) (hc : -1 ≤ c ∧ c ≤ 4) (hw : 0 ≤ w ∧ w ≤ 2) (hx : 0 ≤ x ∧ x ≤ 2) (q : Q (kh F v (um N 12 (wrY (N 12) c w x)) T)) : mX10_write 11 c w x (kh F v N T) Q := by
  unfold wrY at q
  have e := pk_w (h := N 12 0) (c := c + 1) (w := w) (x := x) h2 (by omega) hw hx
  by_cases d : N 12 29 < 30
  · simp only [d, if_true] at q
    simp (disch := omega) only [mX10_write, mX10_write_J38, e, kh_c11, kh_g11_0, kh_r12, kh_w12, kh_n12, kh_cp12_33, kh_cp12_68, kh_cp12_12, kh_cp12_14, ↓i_pos, ↓i_neg, and_true, true_and, and_self, w32_id, us_at, us_ne, um_eq, um_ne, um_um, uu_eq, uu_ne, uu_uu, vv_eq, vv_ne, vv_vv, forall_eq, within_y, within_n, isIn_y, isIn_n, ne_eq, not_false_eq_true, not_true_eq_false, reduceCtorEq, Int.reduceAdd, Int.reduceSub, Int.reduceMul, Int.reduceNeg, Nat.reduceEqDiff, or_true, true_or, true_implies, false_implies, Int.reduceLT, Int.reduceLE, Int.reduceEq, iMax_l, iMax_r, iMin_l, iMin_r]
    exact q
  · simp only [d, if_false] at q
    simp (disch := omega) only [us_at, us_ne, cpy_out] at q
    simp (disch := omega) only [mX10_write, mX10_write_J38, cpy_out, e, kh_c11, kh_g11_0, kh_r12, kh_w12, kh_n12, kh_cp12_33, kh_cp12_68, kh_cp12_12, kh_cp12_14, ↓i_pos, ↓i_neg, and_true, true_and, and_self, w32_id, us_at, us_ne, um_eq, um_ne, um_um, uu_eq, uu_ne, uu_uu, vv_eq, vv_ne, vv_vv, forall_eq, within_y, within_n, isIn_y, isIn_n, ne_eq, not_false_eq_true, not_true_eq_false, reduceCtorEq, Int.reduceAdd, Int.reduceSub, Int.reduceMul, Int.reduceNeg, Nat.reduceEqDiff, or_true, true_or, true_implies, false_implies, Int.reduceLT, Int.reduceLE, Int.reduceEq, iMax_l, iMax_r, iMin_l, iMin_r]
    exact q
theorem cwr68 {c w x : Int} {Q : hp → Prop} (h1 : 0 ≤ N 68 29 ∧ N 68 29 ≤ 30) (h2 : 0 ≤ N 68 0 ∧ N 68 0 ≤ 9999) (hc : -1 ≤ c ∧ c ≤ 4) (hw : 0 ≤ w ∧ w ≤ 2) (hx : 0 ≤ x ∧ x ≤ 2) (q : Q (kh F v (um N 68 (wrY (N 68) c w x)) T)) : mX10_write 67 c w x (kh F v N T) Q := by
  unfold wrY at q
  have e := pk_w (h := N 68 0) (c := c + 1) (w := w) (x := x) h2 (by omega) hw hx
  by_cases d : N 68 29 < 30
  · simp only [d, if_true] at q
    simp (disch := omega) only [mX10_write, mX10_write_J38, e, kh_c67, kh_g67_0, kh_r68, kh_w68, kh_n68, ↓i_pos, ↓i_neg, and_true, true_and, and_self, w32_id, us_at, us_ne, um_eq, um_ne, um_um, uu_eq, uu_ne, uu_uu, vv_eq, vv_ne, vv_vv, forall_eq, within_y, within_n, isIn_y, isIn_n, ne_eq, not_false_eq_true, not_true_eq_false, reduceCtorEq, Int.reduceAdd, Int.reduceSub, Int.reduceMul, Int.reduceNeg, Nat.reduceEqDiff, or_true, true_or, true_implies, false_implies, Int.reduceLT, Int.reduceLE, Int.reduceEq, iMax_l, iMax_r, iMin_l, iMin_r]
    exact q
  · simp only [d, if_false] at q
    simp (disch := omega) only [us_at, us_ne, cpy_out] at q
    simp (disch := omega) only [mX10_write, mX10_write_J38, cpy_out, kh_cq68, e, kh_c67, kh_g67_0, kh_r68, kh_w68, kh_n68, ↓i_pos, ↓i_neg, and_true, true_and, and_self, w32_id, us_at, us_ne, um_eq, um_ne, um_um, uu_eq, uu_ne, uu_uu, vv_eq, vv_ne, vv_vv, forall_eq, within_y, within_n, isIn_y, isIn_n, ne_eq, not_false_eq_true, not_true_eq_false, reduceCtorEq, Int.reduceAdd, Int.reduceSub, Int.reduceMul, Int.reduceNeg, Nat.reduceEqDiff, or_true, true_or, true_implies, false_implies, Int.reduceLT, Int.reduceLE, Int.reduceEq, iMax_l, iMax_r, iMin_l, iMin_r]
    exact q

theorem pR_wr {Y A : Int → Int} {c w x : Int} (h : pR Y A) (k : yok Y) (hc : -1 ≤ c ∧ c ≤ 4) (hw : 0 ≤ w ∧ w ≤ 2) (hx : 0 ≤ x ∧ x ≤ 2) : pR (wrY Y c w x) (wrA A c w x) := by
  have e7 : Y 0 = A 7 := h.1 0 (by omega) (by omega)
  have e11 : Y 29 = A 11 := h.1 29 (by omega) (by omega)
  have k0 := k.1
  have k1 := k.2.2.2.2.2.2.1
  unfold wrY wrA
  by_cases d : A 11 = 30
  · rw [if_pos d, if_neg (by omega)]
    simp (disch := omega) only [us_at, us_ne, cpy_out]
    rw [e7, show A 7 * 6 + c + 1 = A 7 * 6 + (c + 1) by omega]
    exact pR_l (pR_b (pR_l (pR_sh h)) (by omega) (by omega))
  · rw [if_neg d, if_pos (by omega), e7, e11, show A 7 * 6 + c + 1 = A 7 * 6 + (c + 1) by omega]
    exact pR_l (pR_b h (by omega) (by omega))
theorem wrY_n {Y : Int → Int} {c w x : Int} (k : 0 ≤ Y 29 ∧ Y 29 ≤ 30) {j : Int} (hj : j < 29) : wrY Y c w x j = Y j := by
  unfold wrY
  by_cases d : Y 29 < 30
  · rw [if_pos d]
    simp (disch := omega) only [us_ne]
  · rw [if_neg d]
    simp (disch := omega) only [us_ne, us_at, cpy_out]
theorem wrY_29 {Y : Int → Int} {c w x : Int} (k : 0 ≤ Y 29 ∧ Y 29 ≤ 30) : 0 ≤ wrY Y c w x 29 ∧ wrY Y c w x 29 ≤ 30 := by
  unfold wrY
  by_cases d : Y 29 < 30
  · rw [if_pos d]
    simp (disch := omega) only [us_at]
    omega
  · rw [if_neg d]
    simp (disch := omega) only [us_ne, us_at, cpy_out]
    omega
theorem yok_wr {Y : Int → Int} {c w x : Int} (k : yok Y) : yok (wrY Y c w x) := by
  have k1 := k.2.2.2.2.2.2.1
  refine yok_mk k (fun j hj => wrY_n k1 (by omega)) ?_ ?_ ?_ ?_ ?_ (wrY_29 k1) (fun i g0 g1 => ?_)
  · rw [wrY_n k1 (by omega)]; exact k.1
  · rw [wrY_n k1 (by omega)]; exact k.2.1
  · rw [wrY_n k1 (by omega)]; exact k.2.2.1
  · rw [wrY_n k1 (by omega)]; exact k.2.2.2.1
  · rw [wrY_n k1 (by omega)]; exact k.2.2.2.2.2.1
  · rw [wrY_n k1 (by omega)]; exact k.2.2.2.2.2.2.2.1 i g0 g1
-- what a change of the yard leaves
def yag (A A' : Int → Int) : Prop := ∀ i, ¬ ((7 ≤ i ∧ i < 36) ∨ (1924 ≤ i ∧ i < 1954)) → A' i = A i
theorem yag_r (A : Int → Int) : yag A A := fun _ _ => rfl
theorem yag_t {A B C : Int → Int} (h : yag A B) (k : yag B C) : yag A C := fun i hi => by rw [k i hi, h i hi]
theorem yag_s {A B : Int → Int} {i x : Int} (h : yag A B) (hi : (7 ≤ i ∧ i < 36) ∨ (1924 ≤ i ∧ i < 1954)) : yag A (us B i x) := fun j hj => by rw [us_ne (by omega), h j hj]
theorem yag_wr {A : Int → Int} {c w x : Int} (k : 0 ≤ A 11 ∧ A 11 ≤ 30) : yag A (wrA A c w x) := by
  intro i hi
  unfold wrA
  by_cases d : A 11 = 30
  · rw [if_pos d]
    simp (disch := omega) only [us_ne, us_at, cpy_out]
  · rw [if_neg d]
    simp (disch := omega) only [us_ne]
theorem SR_y {n : Int} {G : hp} {X A A' Y Y' K C1 C2 C3 C4 C5 B T1 S1 D1 : Int → Int} {e k f t1 t2 s1 s2 d1 d2 x1 x2 x3 : Int} {T : Int → Option Nat} (h : SR n G X A Y K C1 C2 C3 C4 C5 B T1 S1 D1 e k f t1 t2 s1 s2 d1 d2 x1 x2 x3 T) (hy : jY Y' A') (g : yag A A') : SR n G X A' Y' K C1 C2 C3 C4 C5 B T1 S1 D1 e k f t1 t2 s1 s2 d1 d2 x1 x2 x3 T := by
  obtain ⟨hY, hK, hC, hF, hB, hT, hS, hD, hX, hG⟩ := h
  exact ⟨hy, jK_A (fun i hi => g i (by omega)) hK, jC_A (fun i hi => g i (by omega)) hC, jF_A (fun i hi => g i (by omega)) hF, jB_A (fun i hi => g i (by omega)) hB, jT_A (fun i hi => g i (by omega)) hT, jS_A (fun i hi => g i (by omega)) hS, jD_A (fun i hi => g i (by omega)) hD, jX_A (fun i hi => g i (by omega)) hX, jG_A (g 1 (by omega)) hG⟩
theorem Rel_y {n : Int} {G : hp} {Y' A' : Int → Int} (h : Rel n G v N T u M) (hy : jY Y' A') (g : yag (M 70) A') : Rel n G v (um N 12 Y') T u (um M 70 A') := by
  obtain ⟨h1, h2, h3, h4⟩ := h
  exact ⟨SR_y h1 hy g, h2, ⟨by show _ ≤ A' 0; rw [g 0 (by omega)]; exact h3.1, by show _ ≤ A' 1; rw [g 1 (by omega)]; exact h3.2⟩, h4⟩
end ST
