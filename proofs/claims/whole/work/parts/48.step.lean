theorem xor_m1 {y : Int} (h : -2147483648 ≤ y ∧ y ≤ 2147483647) : iXor (-1 - y) (-1) = y := by
  rw [xnot]
  have e : ~~~ (Int32.ofInt (-1 - y)) = Int32.ofInt y := by
    rw [Int32.not_eq_neg_sub, show Int32.ofInt (-1 - y) = Int32.ofInt (-1) - Int32.ofInt y from Int32.ofInt_sub _ _]
    have : Int32.ofInt (-1) = -1 := by decide
    rw [this]
    generalize Int32.ofInt y = z
    apply Int32.toBitVec_inj.1
    simp
  rw [e]
  exact w32_id h.1 h.2
theorem and1 {x : Int} (h : -2147483648 ≤ x ∧ x ≤ 2147483647) : iAnd x 1 = x % 2 := by
  by_cases d : 0 ≤ x
  · exact and_p 1 (by decide) d (by omega)
  · have e3 : iAnd x 1 = iAnd 1 x := by unfold iAnd; rw [Int32.and_comm]
    obtain ⟨a, ha⟩ := Int.eq_ofNat_of_zero_le (show 0 ≤ -1 - x by omega)
    have e4 : iAnd 1 x = iAnd 1 (iXor (-1 - x) (-1)) := by rw [xor_m1 h]
    have e6 := andn (a := 1) (b := a) (by decide) (by omega)
    rw [show ((1 : Nat) : Int) = 1 from rfl] at e6
    rw [e3, e4, ha, e6, Nat.and_comm, Nat.and_one_is_mod]
    omega
def wbd (x : Int) (F : hp) (K : hp → Prop) : Prop := (w32 x < 10000 → rcv F (some 28) 3 (fun o4 => mX3_push o4 (w32 x) F (fun F3 => K F3))) ∧ (¬ w32 x < 10000 → (w32 x < 20000 → rcv F (some 28) 3 (fun o7 => mX3_valueOf o7 (x - 10000) F (fun x6 F5 => rcv F5 (some 28) 3 (fun o9 => mX3_push o9 (w32 x6) F5 (fun F8 => K F8))))) ∧ (¬ w32 x < 20000 → rcv F (some 28) 3 (fun o11 => mX3_operate o11 (x - 20000) F (fun F10 => K F10))))
section SC
variable {n x1 x2 : Int} {F : hp} {v : Nat → Nat → Int} {N : Nat → Int → Int} {T : Nat → Int → Option Nat} {u : Nat → Int} {M : Nat → Int → Int}
theorem op1 {P : Int → Int} {op h y : Int} (hop : op = 20 ∨ op = 21 ∨ op = 43 ∨ op = 28) (hh : 0 ≤ h ∧ h < 300) (hP : -1000000 ≤ P h ∧ P h ≤ 1000000) (hy : (op = 20 → y = P h % 2) ∧ (op = 43 → y = - P h) ∧ (op = 28 → y = 1 - P h) ∧ (op = 21 → y = if 0 ≤ P h ∧ P h < 3 then N 29 (11 + P h) else 0)) (hb : -1000000 ≤ y ∧ y ≤ 1000000) {K : hp → Prop} (q : K (kh F (vv v 28 2 (h + 1)) (um N 30 (us P h y)) T)) : mX3_operate 28 op (kh F (vv v 28 2 (h + 1)) (um N 30 P) T) (fun F10 => K F10) := by
  have ci := clp_i hb
  have go : ∀ z, z = y → mX3_push 28 z (kh F (vv v 28 2 h) (um N 30 P) T) (fun F1 => K F1) := fun z hz => by
    subst hz
    refine push_c hh (by omega) ?_
    rw [ci]
    exact q
  unfold mX3_operate
  simp (disch := first | omega | decide) only [w32_id, ↓kh_c28, ↓kh_g28_0, ↓kh_g28_1, ↓kh_g28_2, ↓kh_p28_2, ↓be_y, ↓be_n, ↓bf_y, ↓bf_n, ↓bl_y, ↓bl_n, ↓bm_y, ↓bm_n, ↓bg_y, ↓bg_n, ↓bs_y, ↓bs_n, ↓bo_y, ↓bo_n, ↓bp_y, ↓bp_n, ↓forall_eq, ↓within_y, ↓within_n, ↓isIn_y, ↓isIn_n, and_true, true_and, and_self, us_at, us_ne, w32_id, um_eq, um_ne, um_um, uu_eq, uu_ne, uu_uu, vv_eq, vv_ne, vv_vv, ne_eq, not_false_eq_true, not_true_eq_false, reduceCtorEq, Int.reduceAdd, Int.reduceSub, Int.reduceMul, Int.reduceNeg, Nat.reduceEqDiff, or_true, true_or, true_implies, false_implies, Int.reduceLT, Int.reduceLE, Int.reduceEq]
  refine pop_c hh ?_
  rcases hop with rfl | rfl | rfl | rfl
  · have a1 := and1 (x := P h) (by omega)
    simp (disch := first | omega | decide) only [w32_id, ↓kh_c28, ↓kh_g28_0, ↓kh_g28_1, ↓kh_g28_2, ↓kh_p28_2, ↓be_y, ↓be_n, ↓bf_y, ↓bf_n, ↓bl_y, ↓bl_n, ↓bm_y, ↓bm_n, ↓bg_y, ↓bg_n, ↓bs_y, ↓bs_n, ↓bo_y, ↓bo_n, ↓bp_y, ↓bp_n, ↓forall_eq, ↓within_y, ↓within_n, ↓isIn_y, ↓isIn_n, and_true, true_and, and_self, us_at, us_ne, w32_id, um_eq, um_ne, um_um, uu_eq, uu_ne, uu_uu, vv_eq, vv_ne, vv_vv, ne_eq, not_false_eq_true, not_true_eq_false, reduceCtorEq, Int.reduceAdd, Int.reduceSub, Int.reduceMul, Int.reduceNeg, Nat.reduceEqDiff, or_true, true_or, true_implies, false_implies, Int.reduceLT, Int.reduceLE, Int.reduceEq, a1]
    exact go _ (hy.1 rfl).symm
  · have y1 := hy.2.2.2 rfl
    by_cases d : 0 ≤ P h ∧ P h < 3
    · rw [if_pos d] at y1
      simp (disch := first | omega | decide) only [mX3_operate_J68, ↓kh_c28, ↓kh_g28_0, ↓kh_g28_1, ↓kh_g28_2, ↓kh_p28_2, ↓kh_r29, ↓kh_w29, ↓kh_n29, ↓be_y, ↓be_n, ↓bf_y, ↓bf_n, ↓bl_y, ↓bl_n, ↓bm_y, ↓bm_n, ↓bg_y, ↓bg_n, ↓bs_y, ↓bs_n, ↓bo_y, ↓bo_n, ↓bp_y, ↓bp_n, ↓forall_eq, ↓within_y, ↓within_n, ↓isIn_y, ↓isIn_n, and_true, true_and, and_self, us_at, us_ne, w32_id, um_eq, um_ne, um_um, uu_eq, uu_ne, uu_uu, vv_eq, vv_ne, vv_vv, ne_eq, not_false_eq_true, not_true_eq_false, reduceCtorEq, Int.reduceAdd, Int.reduceSub, Int.reduceMul, Int.reduceNeg, Nat.reduceEqDiff, or_true, true_or, true_implies, false_implies, Int.reduceLT, Int.reduceLE, Int.reduceEq]
      exact go _ y1.symm
    · rw [if_neg d] at y1
      by_cases d2 : P h < 0
      · simp (disch := first | omega | decide) only [mX3_operate_J67, mX3_operate_J68, ↓kh_c28, ↓kh_g28_0, ↓kh_g28_1, ↓kh_g28_2, ↓kh_p28_2, ↓kh_r29, ↓kh_w29, ↓kh_n29, ↓be_y, ↓be_n, ↓bf_y, ↓bf_n, ↓bl_y, ↓bl_n, ↓bm_y, ↓bm_n, ↓bg_y, ↓bg_n, ↓bs_y, ↓bs_n, ↓bo_y, ↓bo_n, ↓bp_y, ↓bp_n, ↓forall_eq, ↓within_y, ↓within_n, ↓isIn_y, ↓isIn_n, and_true, true_and, and_self, us_at, us_ne, w32_id, um_eq, um_ne, um_um, uu_eq, uu_ne, uu_uu, vv_eq, vv_ne, vv_vv, ne_eq, not_false_eq_true, not_true_eq_false, reduceCtorEq, Int.reduceAdd, Int.reduceSub, Int.reduceMul, Int.reduceNeg, Nat.reduceEqDiff, or_true, true_or, true_implies, false_implies, Int.reduceLT, Int.reduceLE, Int.reduceEq]
        exact go _ y1.symm
      · simp (disch := first | omega | decide) only [mX3_operate_J67, mX3_operate_J68, ↓kh_c28, ↓kh_g28_0, ↓kh_g28_1, ↓kh_g28_2, ↓kh_p28_2, ↓kh_r29, ↓kh_w29, ↓kh_n29, ↓be_y, ↓be_n, ↓bf_y, ↓bf_n, ↓bl_y, ↓bl_n, ↓bm_y, ↓bm_n, ↓bg_y, ↓bg_n, ↓bs_y, ↓bs_n, ↓bo_y, ↓bo_n, ↓bp_y, ↓bp_n, ↓forall_eq, ↓within_y, ↓within_n, ↓isIn_y, ↓isIn_n, and_true, true_and, and_self, us_at, us_ne, w32_id, um_eq, um_ne, um_um, uu_eq, uu_ne, uu_uu, vv_eq, vv_ne, vv_vv, ne_eq, not_false_eq_true, not_true_eq_false, reduceCtorEq, Int.reduceAdd, Int.reduceSub, Int.reduceMul, Int.reduceNeg, Nat.reduceEqDiff, or_true, true_or, true_implies, false_implies, Int.reduceLT, Int.reduceLE, Int.reduceEq]
        exact go _ y1.symm
  · simp (disch := first | omega | decide) only [w32_id, ↓kh_c28, ↓kh_g28_0, ↓kh_g28_1, ↓kh_g28_2, ↓kh_p28_2, ↓be_y, ↓be_n, ↓bf_y, ↓bf_n, ↓bl_y, ↓bl_n, ↓bm_y, ↓bm_n, ↓bg_y, ↓bg_n, ↓bs_y, ↓bs_n, ↓bo_y, ↓bo_n, ↓bp_y, ↓bp_n, ↓forall_eq, ↓within_y, ↓within_n, ↓isIn_y, ↓isIn_n, and_true, true_and, and_self, us_at, us_ne, w32_id, um_eq, um_ne, um_um, uu_eq, uu_ne, uu_uu, vv_eq, vv_ne, vv_vv, ne_eq, not_false_eq_true, not_true_eq_false, reduceCtorEq, Int.reduceAdd, Int.reduceSub, Int.reduceMul, Int.reduceNeg, Nat.reduceEqDiff, or_true, true_or, true_implies, false_implies, Int.reduceLT, Int.reduceLE, Int.reduceEq]
    exact go _ (hy.2.1 rfl).symm
  · simp (disch := first | omega | decide) only [w32_id, ↓kh_c28, ↓kh_g28_0, ↓kh_g28_1, ↓kh_g28_2, ↓kh_p28_2, ↓be_y, ↓be_n, ↓bf_y, ↓bf_n, ↓bl_y, ↓bl_n, ↓bm_y, ↓bm_n, ↓bg_y, ↓bg_n, ↓bs_y, ↓bs_n, ↓bo_y, ↓bo_n, ↓bp_y, ↓bp_n, ↓forall_eq, ↓within_y, ↓within_n, ↓isIn_y, ↓isIn_n, and_true, true_and, and_self, us_at, us_ne, w32_id, um_eq, um_ne, um_um, uu_eq, uu_ne, uu_uu, vv_eq, vv_ne, vv_vv, ne_eq, not_false_eq_true, not_true_eq_false, reduceCtorEq, Int.reduceAdd, Int.reduceSub, Int.reduceMul, Int.reduceNeg, Nat.reduceEqDiff, or_true, true_or, true_implies, false_implies, Int.reduceLT, Int.reduceLE, Int.reduceEq]
    exact go _ (hy.2.2.1 rfl).symm
theorem op2 {P : Int → Int} {op h : Int} (hop : (op = 26 ∨ op = 27) ∨ (30 ≤ op ∧ op ≤ 37) ∨ op = 41 ∨ op = 42) (hh : 0 ≤ h ∧ h < 299) (hP : (-1000000 ≤ P h ∧ P h ≤ 1000000) ∧ -1000000 ≤ P (h + 1) ∧ P (h + 1) ≤ 1000000) {K : hp → Prop} (q : mX3_operated op (P h) (P (h + 1)) (kh F (vv v 28 2 h) (um N 30 P) T) (fun x22 F21 => rcv F21 (some 28) 3 (fun o24 => mX3_push o24 x22 F21 (fun F23 => K F23)))) : mX3_operate 28 op (kh F (vv v 28 2 (h + 1 + 1)) (um N 30 P) T) (fun F10 => K F10) := by
  unfold mX3_operate
  simp (disch := first | omega | decide) only [w32_id, ↓kh_c28, ↓kh_g28_0, ↓kh_g28_1, ↓kh_g28_2, ↓kh_p28_2, ↓be_y, ↓be_n, ↓bf_y, ↓bf_n, ↓bl_y, ↓bl_n, ↓bm_y, ↓bm_n, ↓bg_y, ↓bg_n, ↓bs_y, ↓bs_n, ↓bo_y, ↓bo_n, ↓bp_y, ↓bp_n, ↓forall_eq, ↓within_y, ↓within_n, ↓isIn_y, ↓isIn_n, and_true, true_and, and_self, us_at, us_ne, w32_id, um_eq, um_ne, um_um, uu_eq, uu_ne, uu_uu, vv_eq, vv_ne, vv_vv, ne_eq, not_false_eq_true, not_true_eq_false, reduceCtorEq, Int.reduceAdd, Int.reduceSub, Int.reduceMul, Int.reduceNeg, Nat.reduceEqDiff, or_true, true_or, true_implies, false_implies, Int.reduceLT, Int.reduceLE, Int.reduceEq]
  refine pop_c (h := h + 1) (by omega) ?_
  simp (disch := first | omega | decide) only [w32_id, ↓kh_c28, ↓kh_g28_0, ↓kh_g28_1, ↓kh_g28_2, ↓kh_p28_2, ↓be_y, ↓be_n, ↓bf_y, ↓bf_n, ↓bl_y, ↓bl_n, ↓bm_y, ↓bm_n, ↓bg_y, ↓bg_n, ↓bs_y, ↓bs_n, ↓bo_y, ↓bo_n, ↓bp_y, ↓bp_n, ↓forall_eq, ↓within_y, ↓within_n, ↓isIn_y, ↓isIn_n, and_true, true_and, and_self, us_at, us_ne, w32_id, um_eq, um_ne, um_um, uu_eq, uu_ne, uu_uu, vv_eq, vv_ne, vv_vv, ne_eq, not_false_eq_true, not_true_eq_false, reduceCtorEq, Int.reduceAdd, Int.reduceSub, Int.reduceMul, Int.reduceNeg, Nat.reduceEqDiff, or_true, true_or, true_implies, false_implies, Int.reduceLT, Int.reduceLE, Int.reduceEq]
  refine pop_c (h := h) (by omega) ?_
  exact q
theorem od_30 {a b : Int} (ha : -1000000 ≤ a ∧ a ≤ 1000000) (hb : -1000000 ≤ b ∧ b ≤ 1000000) {F : hp} {Q : Int → hp → Prop} (q : Q (if a < b then 1 else 0) F) : mX3_operated 30 a b F Q := by
  unfold mX3_operated
  rw [w32_id (x := a) (by omega) (by omega), w32_id (x := b) (by omega) (by omega)]
  simp (disch := decide) only [w32_id, Int.reduceEq, Int.reduceLT, true_implies, false_implies, true_and, and_true, or_self, or_false, false_or, and_self]
  by_cases d : a < b
  · rw [if_pos d] at q
    exact ⟨fun _ => q, fun n => absurd d n⟩
  · rw [if_neg d] at q
    exact ⟨fun n => absurd n d, fun _ => q⟩
theorem od_31 {a b : Int} (ha : -1000000 ≤ a ∧ a ≤ 1000000) (hb : -1000000 ≤ b ∧ b ≤ 1000000) {F : hp} {Q : Int → hp → Prop} (q : Q (if b < a then 1 else 0) F) : mX3_operated 31 a b F Q := by
  unfold mX3_operated
  rw [w32_id (x := a) (by omega) (by omega), w32_id (x := b) (by omega) (by omega)]
  simp (disch := decide) only [w32_id, Int.reduceEq, Int.reduceLT, true_implies, false_implies, true_and, and_true, or_self, or_false, false_or, and_self]
  by_cases d : b < a
  · rw [if_pos d] at q
    exact ⟨fun _ => q, fun n => absurd d n⟩
  · rw [if_neg d] at q
    exact ⟨fun n => absurd n d, fun _ => q⟩
theorem od_32 {a b : Int} (ha : -1000000 ≤ a ∧ a ≤ 1000000) (hb : -1000000 ≤ b ∧ b ≤ 1000000) {F : hp} {Q : Int → hp → Prop} (q : Q (if a = b then 1 else 0) F) : mX3_operated 32 a b F Q := by
  unfold mX3_operated
  rw [w32_id (x := a) (by omega) (by omega), w32_id (x := b) (by omega) (by omega)]
  simp (disch := decide) only [w32_id, Int.reduceEq, Int.reduceLT, true_implies, false_implies, true_and, and_true, or_self, or_false, false_or, and_self]
  by_cases d : a = b
  · rw [if_pos d] at q
    exact ⟨fun _ => q, fun n => absurd d n⟩
  · rw [if_neg d] at q
    exact ⟨fun n => absurd n d, fun _ => q⟩
theorem od_33 {a b : Int} (ha : -1000000 ≤ a ∧ a ≤ 1000000) (hb : -1000000 ≤ b ∧ b ≤ 1000000) {F : hp} {Q : Int → hp → Prop} (q : Q (if ¬ a = b then 1 else 0) F) : mX3_operated 33 a b F Q := by
  unfold mX3_operated
  rw [w32_id (x := a) (by omega) (by omega), w32_id (x := b) (by omega) (by omega)]
  simp (disch := decide) only [w32_id, Int.reduceEq, Int.reduceLT, true_implies, false_implies, true_and, and_true, or_self, or_false, false_or, and_self]
  by_cases d : ¬ a = b
  · rw [if_pos d] at q
    exact ⟨fun n => by omega, fun _ => q⟩
  · rw [if_neg d] at q
    exact ⟨fun _ => q, fun n => by omega⟩
theorem od_34 {a b : Int} (ha : -1000000 ≤ a ∧ a ≤ 1000000) (hb : -1000000 ≤ b ∧ b ≤ 1000000) {F : hp} {Q : Int → hp → Prop} (q : Q (a + b) F) : mX3_operated 34 a b F Q := by
  unfold mX3_operated
  rw [w32_id (x := a) (by omega) (by omega), w32_id (x := b) (by omega) (by omega)]
  simp (disch := decide) only [w32_id, Int.reduceEq, Int.reduceLT, true_implies, false_implies, true_and, and_true, or_self, or_false, false_or, and_self]
  exact q
theorem od_35 {a b : Int} (ha : -1000000 ≤ a ∧ a ≤ 1000000) (hb : -1000000 ≤ b ∧ b ≤ 1000000) {F : hp} {Q : Int → hp → Prop} (q : Q (a - b) F) : mX3_operated 35 a b F Q := by
  unfold mX3_operated
  rw [w32_id (x := a) (by omega) (by omega), w32_id (x := b) (by omega) (by omega)]
  simp (disch := decide) only [w32_id, Int.reduceEq, Int.reduceLT, true_implies, false_implies, true_and, and_true, or_self, or_false, false_or, and_self]
  exact q
theorem od_36 {a b : Int} (ha : -1000000 ≤ a ∧ a ≤ 1000000) (hb : -1000000 ≤ b ∧ b ≤ 1000000) {F : hp} {Q : Int → hp → Prop} (q : Q (a * b) F) : mX3_operated 36 a b F Q := by
  unfold mX3_operated
  rw [w32_id (x := a) (by omega) (by omega), w32_id (x := b) (by omega) (by omega)]
  simp (disch := decide) only [w32_id, Int.reduceEq, Int.reduceLT, true_implies, false_implies, true_and, and_true, or_self, or_false, false_or, and_self]
  exact q
theorem od_37 {a b : Int} (ha : -1000000 ≤ a ∧ a ≤ 1000000) (hb : -1000000 ≤ b ∧ b ≤ 1000000) {F : hp} {Q : Int → hp → Prop} (q : Q (if b = 0 then 0 else a.tdiv b) F) : mX3_operated 37 a b F Q := by
  unfold mX3_operated
  rw [w32_id (x := a) (by omega) (by omega), w32_id (x := b) (by omega) (by omega)]
  simp (disch := decide) only [w32_id, Int.reduceEq, Int.reduceLT, true_implies, false_implies, true_and, and_true, or_self, or_false, false_or, and_self]
  have db := tdiv_b (b := b) ha
  by_cases d : b = 0
  · rw [if_pos d] at q
    exact ⟨fun _ => q, fun n => absurd d n⟩
  · rw [if_neg d] at q
    rw [w32_id (x := a.tdiv b) (by omega) (by omega)]
    exact ⟨fun n => absurd n d, fun _ => ⟨d, q⟩⟩
theorem od_41 {a b : Int} (ha : -1000000 ≤ a ∧ a ≤ 1000000) (hb : -1000000 ≤ b ∧ b ≤ 1000000) {F : hp} {Q : Int → hp → Prop} (q : Q (if a ≤ b then 1 else 0) F) : mX3_operated 41 a b F Q := by
  unfold mX3_operated
  rw [w32_id (x := a) (by omega) (by omega), w32_id (x := b) (by omega) (by omega)]
  simp (disch := decide) only [w32_id, Int.reduceEq, Int.reduceLT, true_implies, false_implies, true_and, and_true, or_self, or_false, false_or, and_self]
  by_cases d : a ≤ b
  · rw [if_pos d] at q
    exact ⟨fun n => by omega, fun _ => q⟩
  · rw [if_neg d] at q
    exact ⟨fun _ => q, fun n => by omega⟩
theorem od_42 {a b : Int} (ha : -1000000 ≤ a ∧ a ≤ 1000000) (hb : -1000000 ≤ b ∧ b ≤ 1000000) {F : hp} {Q : Int → hp → Prop} (q : Q (if b ≤ a then 1 else 0) F) : mX3_operated 42 a b F Q := by
  unfold mX3_operated
  rw [w32_id (x := a) (by omega) (by omega), w32_id (x := b) (by omega) (by omega)]
  simp (disch := decide) only [w32_id, Int.reduceEq, Int.reduceLT, true_implies, false_implies, true_and, and_true, or_self, or_false, false_or, and_self]
  by_cases d : b ≤ a
  · rw [if_pos d] at q
    exact ⟨fun n => by omega, fun _ => q⟩
  · rw [if_neg d] at q
    exact ⟨fun _ => q, fun n => by omega⟩
theorem bb_and {a b : Int} (ha : a = 0 ∨ a = 1) (hb : b = 0 ∨ b = 1) : iAnd a b = jof 21 a b ∧ iOr a b = jof 22 a b := by
  rcases ha with rfl | rfl <;> rcases hb with rfl | rfl <;> decide
theorem jof_b {o a b : Int} : jof o a b = 0 ∨ jof o a b = 1 := by
  unfold jof
  repeat' split
  all_goals simp
theorem od_26 {a b : Int} (ha : a = 0 ∨ a = 1) (hb : b = 0 ∨ b = 1) {F : hp} {Q : Int → hp → Prop} (q : Q (jof 22 a b) F) : mX3_operated 26 a b F Q := by
  have e := (bb_and ha hb).2
  have j := jof_b (o := 22) (a := a) (b := b)
  unfold mX3_operated
  rw [e, w32_id (x := jof 22 a b) (by omega) (by omega)]
  simp (disch := decide) only [w32_id, Int.reduceEq, Int.reduceLT, true_implies, false_implies, true_and, and_true, or_self, or_false, false_or, and_self]
  exact q
theorem od_27 {a b : Int} (ha : a = 0 ∨ a = 1) (hb : b = 0 ∨ b = 1) {F : hp} {Q : Int → hp → Prop} (q : Q (jof 21 a b) F) : mX3_operated 27 a b F Q := by
  have e := (bb_and ha hb).1
  have j := jof_b (o := 21) (a := a) (b := b)
  unfold mX3_operated
  rw [e, w32_id (x := jof 21 a b) (by omega) (by omega)]
  simp (disch := decide) only [w32_id, Int.reduceEq, Int.reduceLT, true_implies, false_implies, true_and, and_true, or_self, or_false, false_or, and_self]
  exact q
theorem op3 {P : Int → Int} {h y : Int} (hh : 0 ≤ h ∧ h < 298) (hP : (-1000000 ≤ P h ∧ P h ≤ 1000000) ∧ (-1000000 ≤ P (h + 1) ∧ P (h + 1) ≤ 1000000) ∧ -1000000 ≤ P (h + 1 + 1) ∧ P (h + 1 + 1) ≤ 1000000) (hy : y = if P h = 0 then P (h + 1 + 1) else P (h + 1)) {K : hp → Prop} (q : K (kh F (vv v 28 2 (h + 1)) (um N 30 (us P h y)) T)) : mX3_operate 28 22 (kh F (vv v 28 2 (h + 1 + 1 + 1)) (um N 30 P) T) (fun F10 => K F10) := by
  have hb : -1000000 ≤ y ∧ y ≤ 1000000 := by rw [hy]; split <;> omega
  have ci := clp_i hb
  have go : ∀ z, z = y → mX3_push 28 z (kh F (vv v 28 2 h) (um N 30 P) T) (fun F1 => K F1) := fun z hz => by
    subst hz
    refine push_c (by omega) (by omega) ?_
    rw [ci]
    exact q
  unfold mX3_operate
  simp (disch := first | omega | decide) only [w32_id, ↓kh_c28, ↓kh_g28_0, ↓kh_g28_1, ↓kh_g28_2, ↓kh_p28_2, ↓be_y, ↓be_n, ↓bf_y, ↓bf_n, ↓bl_y, ↓bl_n, ↓bm_y, ↓bm_n, ↓bg_y, ↓bg_n, ↓bs_y, ↓bs_n, ↓bo_y, ↓bo_n, ↓bp_y, ↓bp_n, ↓forall_eq, ↓within_y, ↓within_n, ↓isIn_y, ↓isIn_n, and_true, true_and, and_self, us_at, us_ne, w32_id, um_eq, um_ne, um_um, uu_eq, uu_ne, uu_uu, vv_eq, vv_ne, vv_vv, ne_eq, not_false_eq_true, not_true_eq_false, reduceCtorEq, Int.reduceAdd, Int.reduceSub, Int.reduceMul, Int.reduceNeg, Nat.reduceEqDiff, or_true, true_or, true_implies, false_implies, Int.reduceLT, Int.reduceLE, Int.reduceEq]
  refine pop_c (h := h + 1 + 1) (by omega) ?_
  simp (disch := first | omega | decide) only [w32_id, ↓kh_c28, ↓kh_g28_0, ↓kh_g28_1, ↓kh_g28_2, ↓kh_p28_2, ↓be_y, ↓be_n, ↓bf_y, ↓bf_n, ↓bl_y, ↓bl_n, ↓bm_y, ↓bm_n, ↓bg_y, ↓bg_n, ↓bs_y, ↓bs_n, ↓bo_y, ↓bo_n, ↓bp_y, ↓bp_n, ↓forall_eq, ↓within_y, ↓within_n, ↓isIn_y, ↓isIn_n, and_true, true_and, and_self, us_at, us_ne, w32_id, um_eq, um_ne, um_um, uu_eq, uu_ne, uu_uu, vv_eq, vv_ne, vv_vv, ne_eq, not_false_eq_true, not_true_eq_false, reduceCtorEq, Int.reduceAdd, Int.reduceSub, Int.reduceMul, Int.reduceNeg, Nat.reduceEqDiff, or_true, true_or, true_implies, false_implies, Int.reduceLT, Int.reduceLE, Int.reduceEq]
  refine pop_c (h := h + 1) (by omega) ?_
  simp (disch := first | omega | decide) only [w32_id, ↓kh_c28, ↓kh_g28_0, ↓kh_g28_1, ↓kh_g28_2, ↓kh_p28_2, ↓be_y, ↓be_n, ↓bf_y, ↓bf_n, ↓bl_y, ↓bl_n, ↓bm_y, ↓bm_n, ↓bg_y, ↓bg_n, ↓bs_y, ↓bs_n, ↓bo_y, ↓bo_n, ↓bp_y, ↓bp_n, ↓forall_eq, ↓within_y, ↓within_n, ↓isIn_y, ↓isIn_n, and_true, true_and, and_self, us_at, us_ne, w32_id, um_eq, um_ne, um_um, uu_eq, uu_ne, uu_uu, vv_eq, vv_ne, vv_vv, ne_eq, not_false_eq_true, not_true_eq_false, reduceCtorEq, Int.reduceAdd, Int.reduceSub, Int.reduceMul, Int.reduceNeg, Nat.reduceEqDiff, or_true, true_or, true_implies, false_implies, Int.reduceLT, Int.reduceLE, Int.reduceEq]
  refine pop_c (h := h) (by omega) ?_
  by_cases d : P h = 0
  · rw [if_pos d] at hy
    simp (disch := first | omega | decide) only [mX3_operate_J117, ↓kh_c28, ↓kh_g28_0, ↓kh_g28_1, ↓kh_g28_2, ↓kh_p28_2, ↓be_y, ↓be_n, ↓bf_y, ↓bf_n, ↓bl_y, ↓bl_n, ↓bm_y, ↓bm_n, ↓bg_y, ↓bg_n, ↓bs_y, ↓bs_n, ↓bo_y, ↓bo_n, ↓bp_y, ↓bp_n, ↓forall_eq, ↓within_y, ↓within_n, ↓isIn_y, ↓isIn_n, and_true, true_and, and_self, us_at, us_ne, w32_id, um_eq, um_ne, um_um, uu_eq, uu_ne, uu_uu, vv_eq, vv_ne, vv_vv, ne_eq, not_false_eq_true, not_true_eq_false, reduceCtorEq, Int.reduceAdd, Int.reduceSub, Int.reduceMul, Int.reduceNeg, Nat.reduceEqDiff, or_true, true_or, true_implies, false_implies, Int.reduceLT, Int.reduceLE, Int.reduceEq]
    exact go _ hy.symm
  · rw [if_neg d] at hy
    simp (disch := first | omega | decide) only [mX3_operate_J117, ↓kh_c28, ↓kh_g28_0, ↓kh_g28_1, ↓kh_g28_2, ↓kh_p28_2, ↓be_y, ↓be_n, ↓bf_y, ↓bf_n, ↓bl_y, ↓bl_n, ↓bm_y, ↓bm_n, ↓bg_y, ↓bg_n, ↓bs_y, ↓bs_n, ↓bo_y, ↓bo_n, ↓bp_y, ↓bp_n, ↓forall_eq, ↓within_y, ↓within_n, ↓isIn_y, ↓isIn_n, and_true, true_and, and_self, us_at, us_ne, w32_id, um_eq, um_ne, um_um, uu_eq, uu_ne, uu_uu, vv_eq, vv_ne, vv_vv, ne_eq, not_false_eq_true, not_true_eq_false, reduceCtorEq, Int.reduceAdd, Int.reduceSub, Int.reduceMul, Int.reduceNeg, Nat.reduceEqDiff, or_true, true_or, true_implies, false_implies, Int.reduceLT, Int.reduceLE, Int.reduceEq]
    exact go _ hy.symm
theorem sc1 {E Tp P : Int → Int} {o w x : Int} {s : List (Bool × Int)} (hs : sok s) (hl : s.length < 300) (hP : arr P (vas s)) (hE : o = 1 → N 29 w = E w ∧ -1000000 ≤ E w ∧ E w ≤ 1000000) (hT : ∀ t, 0 ≤ t → t < 3 → N 29 (11 + t) = Tp t) (hT0 : ∀ a, a < 0 ∨ 3 ≤ a → Tp a = 0) (hTb : ∀ a, -1000000 ≤ Tp a ∧ Tp a ≤ 1000000) (h0 : o = 0) (h1 : x = w) (h2 : 0 ≤ w ∧ w ≤ 9999) : ∃ P', arr P' (vas (evo E Tp o w s)) ∧ ∀ (F : hp) (K : hp → Prop), K (kh F (vv v 28 2 (evo E Tp o w s).length) (um N 30 P') T) → wbd x (kh F (vv v 28 2 s.length) (um N 30 P) T) K := by
  have c1 : ∀ (y : Bool × Int) (r : List (Bool × Int)), (((y :: r).length : Nat) : Int) = (r.length : Int) + 1 := fun y r => by rw [List.length_cons]; omega
  have v1 : ∀ r : List (Bool × Int), (vas r).length = r.length := vas_l
  subst h0
  have e : evo E Tp 0 w s = (true, w) :: s := rfl
  rw [e, c1]
  refine ⟨us P s.length w, by have := arr_push (x := w) hP; rw [v1] at this; exact this, fun F K q => ?_⟩
  subst h1
  unfold wbd
  simp (disch := first | omega | decide) only [w32_id, ↓kh_c28, ↓kh_g28_0, ↓kh_g28_1, ↓kh_g28_2, ↓kh_p28_2, ↓be_y, ↓be_n, ↓bf_y, ↓bf_n, ↓bl_y, ↓bl_n, ↓bm_y, ↓bm_n, ↓bg_y, ↓bg_n, ↓bs_y, ↓bs_n, ↓bo_y, ↓bo_n, ↓bp_y, ↓bp_n, ↓forall_eq, ↓within_y, ↓within_n, ↓isIn_y, ↓isIn_n, and_true, true_and, and_self, us_at, us_ne, w32_id, um_eq, um_ne, um_um, uu_eq, uu_ne, uu_uu, vv_eq, vv_ne, vv_vv, ne_eq, not_false_eq_true, not_true_eq_false, reduceCtorEq, Int.reduceAdd, Int.reduceSub, Int.reduceMul, Int.reduceNeg, Nat.reduceEqDiff, or_true, true_or, true_implies, false_implies, Int.reduceLT, Int.reduceLE, Int.reduceEq]
  refine push_c (by omega) (by omega) ?_
  rw [clp_i (by omega)]
  exact q
theorem sc2 {E Tp P : Int → Int} {o w x : Int} {s : List (Bool × Int)} (hs : sok s) (hl : s.length < 300) (hP : arr P (vas s)) (hE : o = 1 → N 29 w = E w ∧ -1000000 ≤ E w ∧ E w ≤ 1000000) (hT : ∀ t, 0 ≤ t → t < 3 → N 29 (11 + t) = Tp t) (hT0 : ∀ a, a < 0 ∨ 3 ≤ a → Tp a = 0) (hTb : ∀ a, -1000000 ≤ Tp a ∧ Tp a ≤ 1000000) (h0 : o = 1) (h1 : x = 10000 + w) (h2 : 0 ≤ w ∧ w ≤ 10) : ∃ P', arr P' (vas (evo E Tp o w s)) ∧ ∀ (F : hp) (K : hp → Prop), K (kh F (vv v 28 2 (evo E Tp o w s).length) (um N 30 P') T) → wbd x (kh F (vv v 28 2 s.length) (um N 30 P) T) K := by
  have c1 : ∀ (y : Bool × Int) (r : List (Bool × Int)), (((y :: r).length : Nat) : Int) = (r.length : Int) + 1 := fun y r => by rw [List.length_cons]; omega
  have v1 : ∀ r : List (Bool × Int), (vas r).length = r.length := vas_l
  subst h0
  have e : evo E Tp 1 w s = (true, E w) :: s := rfl
  obtain ⟨g1, g2⟩ := hE rfl
  rw [e, c1]
  refine ⟨us P s.length (E w), by have := arr_push (x := E w) hP; rw [v1] at this; exact this, fun F K q => ?_⟩
  subst h1
  have e2 : 10000 + w - 10000 = w := by omega
  unfold wbd
  simp (disch := first | omega | decide) only [mX3_valueOf, ↓kh_c28, ↓kh_g28_0, ↓kh_g28_1, ↓kh_g28_2, ↓kh_p28_2, ↓kh_r29, ↓kh_w29, ↓kh_n29, ↓be_y, ↓be_n, ↓bf_y, ↓bf_n, ↓bl_y, ↓bl_n, ↓bm_y, ↓bm_n, ↓bg_y, ↓bg_n, ↓bs_y, ↓bs_n, ↓bo_y, ↓bo_n, ↓bp_y, ↓bp_n, ↓forall_eq, ↓within_y, ↓within_n, ↓isIn_y, ↓isIn_n, and_true, true_and, and_self, us_at, us_ne, w32_id, um_eq, um_ne, um_um, uu_eq, uu_ne, uu_uu, vv_eq, vv_ne, vv_vv, ne_eq, not_false_eq_true, not_true_eq_false, reduceCtorEq, Int.reduceAdd, Int.reduceSub, Int.reduceMul, Int.reduceNeg, Nat.reduceEqDiff, or_true, true_or, true_implies, false_implies, Int.reduceLT, Int.reduceLE, Int.reduceEq, e2, g1]
  refine push_c (by omega) (by omega) ?_
  rw [clp_i (by omega)]
  exact q
theorem sc3 {E Tp P : Int → Int} {o w x : Int} {s : List (Bool × Int)} (hs : sok s) (hl : s.length < 300) (hP : arr P (vas s)) (hE : o = 1 → N 29 w = E w ∧ -1000000 ≤ E w ∧ E w ≤ 1000000) (hT : ∀ t, 0 ≤ t → t < 3 → N 29 (11 + t) = Tp t) (hT0 : ∀ a, a < 0 ∨ 3 ≤ a → Tp a = 0) (hTb : ∀ a, -1000000 ≤ Tp a ∧ Tp a ≤ 1000000) (h0 : o = 3) (h1 : x = 20022) {b a c : Int} {r : List (Bool × Int)} (hr : s = (true, b) :: (true, a) :: (false, c) :: r) : ∃ P', arr P' (vas (evo E Tp o w s)) ∧ ∀ (F : hp) (K : hp → Prop), K (kh F (vv v 28 2 (evo E Tp o w s).length) (um N 30 P') T) → wbd x (kh F (vv v 28 2 s.length) (um N 30 P) T) K := by
  have c1 : ∀ (y : Bool × Int) (r : List (Bool × Int)), (((y :: r).length : Nat) : Int) = (r.length : Int) + 1 := fun y r => by rw [List.length_cons]; omega
  have v1 : ∀ r : List (Bool × Int), (vas r).length = r.length := vas_l
  subst h0
  subst hr
  have e : evo E Tp 3 w ((true, b) :: (true, a) :: (false, c) :: r) = (true, if c = 0 then b else a) :: r := rfl
  obtain ⟨s1, hs⟩ := sok_c hs
  obtain ⟨s2, hs⟩ := sok_c hs
  obtain ⟨s3, hs⟩ := sok_c hs
  have s1 := s1.1 rfl
  have s2 := s2.1 rfl
  have s3 := s3.2 rfl
  obtain ⟨p1, hP⟩ := arr_pop (x := b) (L := a :: c :: vas r) hP
  obtain ⟨p2, hP⟩ := arr_pop (x := a) (L := c :: vas r) hP
  obtain ⟨p3, hP⟩ := arr_pop (x := c) (L := vas r) hP
  rw [List.length_cons, List.length_cons, v1, show ((r.length + 1 + 1 : Nat) : Int) = (r.length : Int) + 1 + 1 by omega] at p1
  rw [List.length_cons, v1, show ((r.length + 1 : Nat) : Int) = (r.length : Int) + 1 by omega] at p2
  rw [v1] at p3
  rw [e, c1, c1, c1, c1]
  simp only [List.length_cons] at hl
  refine ⟨us P r.length (if c = 0 then b else a), by have := arr_push (x := if c = 0 then b else a) hP; rw [v1] at this; exact this, fun F K q => ?_⟩
  have h1' : x - 20000 = 22 := by omega
  unfold wbd
  simp (disch := first | omega | decide) only [w32_id, ↓kh_c28, ↓kh_g28_0, ↓kh_g28_1, ↓kh_g28_2, ↓kh_p28_2, ↓be_y, ↓be_n, ↓bf_y, ↓bf_n, ↓bl_y, ↓bl_n, ↓bm_y, ↓bm_n, ↓bg_y, ↓bg_n, ↓bs_y, ↓bs_n, ↓bo_y, ↓bo_n, ↓bp_y, ↓bp_n, ↓forall_eq, ↓within_y, ↓within_n, ↓isIn_y, ↓isIn_n, and_true, true_and, and_self, us_at, us_ne, w32_id, um_eq, um_ne, um_um, uu_eq, uu_ne, uu_uu, vv_eq, vv_ne, vv_vv, ne_eq, not_false_eq_true, not_true_eq_false, reduceCtorEq, Int.reduceAdd, Int.reduceSub, Int.reduceMul, Int.reduceNeg, Nat.reduceEqDiff, or_true, true_or, true_implies, false_implies, Int.reduceLT, Int.reduceLE, Int.reduceEq]
  rw [h1']
  refine op3 (by omega) (by rw [p1, p2, p3]; omega) (by rw [p1, p2, p3]) q
theorem sc4 {E Tp P : Int → Int} {o w x : Int} {s : List (Bool × Int)} (hs : sok s) (hl : s.length < 300) (hP : arr P (vas s)) (hE : o = 1 → N 29 w = E w ∧ -1000000 ≤ E w ∧ E w ≤ 1000000) (hT : ∀ t, 0 ≤ t → t < 3 → N 29 (11 + t) = Tp t) (hT0 : ∀ a, a < 0 ∨ 3 ≤ a → Tp a = 0) (hTb : ∀ a, -1000000 ≤ Tp a ∧ Tp a ≤ 1000000) (h1 : (o = 2 ∧ x = 20021) ∨ (o = 4 ∧ x = 20020) ∨ (o = 5 ∧ x = 20043)) {a : Int} {r : List (Bool × Int)} (hr : s = (true, a) :: r) : ∃ P', arr P' (vas (evo E Tp o w s)) ∧ ∀ (F : hp) (K : hp → Prop), K (kh F (vv v 28 2 (evo E Tp o w s).length) (um N 30 P') T) → wbd x (kh F (vv v 28 2 s.length) (um N 30 P) T) K := by
  have c1 : ∀ (y : Bool × Int) (r : List (Bool × Int)), (((y :: r).length : Nat) : Int) = (r.length : Int) + 1 := fun y r => by rw [List.length_cons]; omega
  have v1 : ∀ r : List (Bool × Int), (vas r).length = r.length := vas_l
  subst hr
  obtain ⟨s1, hs⟩ := sok_c hs
  have s1 := s1.1 rfl
  have e : evo E Tp o w ((true, a) :: r) = (true, unf Tp o a) :: r := by unfold evo; rw [if_neg (by omega), if_neg (by omega), if_neg (by omega), if_pos (by omega)]
  obtain ⟨p3, hP⟩ := arr_pop (x := a) (L := vas r) hP
  rw [v1] at p3
  rw [e, c1, c1]
  simp only [List.length_cons] at hl
  refine ⟨us P r.length (unf Tp o a), by have := arr_push (x := unf Tp o a) hP; rw [v1] at this; exact this, fun F K q => ?_⟩
  have tb := hTb a
  have ub : -1000000 ≤ unf Tp o a ∧ unf Tp o a ≤ 1000000 := by unfold unf; split; omega; split <;> omega
  unfold wbd
  simp (disch := first | omega | decide) only [w32_id, ↓kh_c28, ↓kh_g28_0, ↓kh_g28_1, ↓kh_g28_2, ↓kh_p28_2, ↓be_y, ↓be_n, ↓bf_y, ↓bf_n, ↓bl_y, ↓bl_n, ↓bm_y, ↓bm_n, ↓bg_y, ↓bg_n, ↓bs_y, ↓bs_n, ↓bo_y, ↓bo_n, ↓bp_y, ↓bp_n, ↓forall_eq, ↓within_y, ↓within_n, ↓isIn_y, ↓isIn_n, and_true, true_and, and_self, us_at, us_ne, w32_id, um_eq, um_ne, um_um, uu_eq, uu_ne, uu_uu, vv_eq, vv_ne, vv_vv, ne_eq, not_false_eq_true, not_true_eq_false, reduceCtorEq, Int.reduceAdd, Int.reduceSub, Int.reduceMul, Int.reduceNeg, Nat.reduceEqDiff, or_true, true_or, true_implies, false_implies, Int.reduceLT, Int.reduceLE, Int.reduceEq]
  refine op1 (by omega) (by omega) (by rw [p3]; exact s1) ?_ ub q
  rw [p3]
  rcases h1 with ⟨rfl, h⟩ | ⟨rfl, h⟩ | ⟨rfl, h⟩
  · refine ⟨fun e => by omega, fun e => by omega, fun e => by omega, fun _ => ?_⟩
    show Tp a = _
    by_cases d : 0 ≤ a ∧ a < 3
    · rw [if_pos d, hT a d.1 d.2]
    · rw [if_neg d, hT0 a (by omega)]
  · exact ⟨fun _ => rfl, fun e => by omega, fun e => by omega, fun e => by omega⟩
  · exact ⟨fun e => by omega, fun _ => rfl, fun e => by omega, fun e => by omega⟩
theorem sc5 {E Tp P : Int → Int} {o w x : Int} {s : List (Bool × Int)} (hs : sok s) (hl : s.length < 300) (hP : arr P (vas s)) (hE : o = 1 → N 29 w = E w ∧ -1000000 ≤ E w ∧ E w ≤ 1000000) (hT : ∀ t, 0 ≤ t → t < 3 → N 29 (11 + t) = Tp t) (hT0 : ∀ a, a < 0 ∨ 3 ≤ a → Tp a = 0) (hTb : ∀ a, -1000000 ≤ Tp a ∧ Tp a ≤ 1000000) (h1 : 6 ≤ o ∧ o ≤ 9 ∧ x = 20028 + o) {b a : Int} {r : List (Bool × Int)} (hr : s = (true, b) :: (true, a) :: r) : ∃ P', arr P' (vas (evo E Tp o w s)) ∧ ∀ (F : hp) (K : hp → Prop), K (kh F (vv v 28 2 (evo E Tp o w s).length) (um N 30 P') T) → wbd x (kh F (vv v 28 2 s.length) (um N 30 P) T) K := by
  have c1 : ∀ (y : Bool × Int) (r : List (Bool × Int)), (((y :: r).length : Nat) : Int) = (r.length : Int) + 1 := fun y r => by rw [List.length_cons]; omega
  have v1 : ∀ r : List (Bool × Int), (vas r).length = r.length := vas_l
  subst hr
  obtain ⟨s1, hs⟩ := sok_c hs
  obtain ⟨s2, hs⟩ := sok_c hs
  have s1 := s1.1 rfl
  have s2 := s2.1 rfl
  have e : evo E Tp o w ((true, b) :: (true, a) :: r) = (true, b2f o a b) :: r := by unfold evo; rw [if_neg (by omega), if_neg (by omega), if_neg (by omega), if_neg (by omega), if_pos (by omega)]
  obtain ⟨p2, hP⟩ := arr_pop (x := b) (L := a :: vas r) hP
  obtain ⟨p3, hP⟩ := arr_pop (x := a) (L := vas r) hP
  rw [List.length_cons, v1, show ((r.length + 1 : Nat) : Int) = (r.length : Int) + 1 by omega] at p2
  rw [v1] at p3
  rw [e, c1, c1, c1]
  simp only [List.length_cons] at hl
  refine ⟨us P r.length (b2f o a b), by have := arr_push (x := b2f o a b) hP; rw [v1] at this; exact this, fun F K q => ?_⟩
  have mb := mul_b s2 s1
  have db := tdiv_b (b := b) s2
  unfold wbd
  simp (disch := first | omega | decide) only [w32_id, ↓kh_c28, ↓kh_g28_0, ↓kh_g28_1, ↓kh_g28_2, ↓kh_p28_2, ↓be_y, ↓be_n, ↓bf_y, ↓bf_n, ↓bl_y, ↓bl_n, ↓bm_y, ↓bm_n, ↓bg_y, ↓bg_n, ↓bs_y, ↓bs_n, ↓bo_y, ↓bo_n, ↓bp_y, ↓bp_n, ↓forall_eq, ↓within_y, ↓within_n, ↓isIn_y, ↓isIn_n, and_true, true_and, and_self, us_at, us_ne, w32_id, um_eq, um_ne, um_um, uu_eq, uu_ne, uu_uu, vv_eq, vv_ne, vv_vv, ne_eq, not_false_eq_true, not_true_eq_false, reduceCtorEq, Int.reduceAdd, Int.reduceSub, Int.reduceMul, Int.reduceNeg, Nat.reduceEqDiff, or_true, true_or, true_implies, false_implies, Int.reduceLT, Int.reduceLE, Int.reduceEq]
  refine op2 (by omega) (by omega) (by rw [p2, p3]; omega) ?_
  rw [p2, p3]
  have fin : ∀ z, clp z = b2f o a b → -9223372036854775808 ≤ z ∧ z ≤ 9223372036854775807 → rcv (kh F (vv v 28 2 r.length) (um N 30 P) T) (some 28) 3 (fun o24 => mX3_push o24 z (kh F (vv v 28 2 r.length) (um N 30 P) T) (fun F23 => K F23)) := fun z hz hzb => by
    simp (disch := first | omega | decide) only [w32_id, ↓kh_c28, ↓kh_g28_0, ↓kh_g28_1, ↓kh_g28_2, ↓kh_p28_2, ↓be_y, ↓be_n, ↓bf_y, ↓bf_n, ↓bl_y, ↓bl_n, ↓bm_y, ↓bm_n, ↓bg_y, ↓bg_n, ↓bs_y, ↓bs_n, ↓bo_y, ↓bo_n, ↓bp_y, ↓bp_n, ↓forall_eq, ↓within_y, ↓within_n, ↓isIn_y, ↓isIn_n, and_true, true_and, and_self, us_at, us_ne, w32_id, um_eq, um_ne, um_um, uu_eq, uu_ne, uu_uu, vv_eq, vv_ne, vv_vv, ne_eq, not_false_eq_true, not_true_eq_false, reduceCtorEq, Int.reduceAdd, Int.reduceSub, Int.reduceMul, Int.reduceNeg, Nat.reduceEqDiff, or_true, true_or, true_implies, false_implies, Int.reduceLT, Int.reduceLE, Int.reduceEq]
    refine push_c (by omega) hzb ?_
    rw [hz]
    exact q
  obtain ⟨d1, d2, d3⟩ := h1
  obtain rfl | rfl | rfl | rfl : o = 6 ∨ o = 7 ∨ o = 8 ∨ o = 9 := by omega
  · rw [show x - 20000 = 34 by omega]
    exact od_34 s2 s1 (fin _ (by unfold b2f; rw [if_pos rfl]) (by clear fin; omega))
  · rw [show x - 20000 = 35 by omega]
    exact od_35 s2 s1 (fin _ (by unfold b2f; rw [if_neg (by decide), if_pos rfl]) (by clear fin; omega))
  · rw [show x - 20000 = 36 by omega]
    exact od_36 s2 s1 (fin _ (by unfold b2f; rw [if_neg (by decide), if_neg (by decide), if_pos rfl]) (by clear fin; omega))
  · rw [show x - 20000 = 37 by omega]
    refine od_37 s2 s1 (fin _ ?_ (by split <;> omega))
    rw [show b2f 9 a b = (if b = 0 then 0 else clp (a.tdiv b)) by simp [b2f]]
    by_cases d : b = 0
    · rw [if_pos d, if_pos d]; exact clp_i (by omega)
    · rw [if_neg d, if_neg d]
theorem sc6 {E Tp P : Int → Int} {o w x : Int} {s : List (Bool × Int)} (hs : sok s) (hl : s.length < 300) (hP : arr P (vas s)) (hE : o = 1 → N 29 w = E w ∧ -1000000 ≤ E w ∧ E w ≤ 1000000) (hT : ∀ t, 0 ≤ t → t < 3 → N 29 (11 + t) = Tp t) (hT0 : ∀ a, a < 0 ∨ 3 ≤ a → Tp a = 0) (hTb : ∀ a, -1000000 ≤ Tp a ∧ Tp a ≤ 1000000) (h1 : (o = 10 ∧ x = 20030) ∨ (o = 11 ∧ x = 20041) ∨ (o = 12 ∧ x = 20031) ∨ (o = 13 ∧ x = 20042) ∨ (o = 14 ∧ x = 20032) ∨ (o = 15 ∧ x = 20033)) {b a : Int} {r : List (Bool × Int)} (hr : s = (true, b) :: (true, a) :: r) : ∃ P', arr P' (vas (evo E Tp o w s)) ∧ ∀ (F : hp) (K : hp → Prop), K (kh F (vv v 28 2 (evo E Tp o w s).length) (um N 30 P') T) → wbd x (kh F (vv v 28 2 s.length) (um N 30 P) T) K := by
  have c1 : ∀ (y : Bool × Int) (r : List (Bool × Int)), (((y :: r).length : Nat) : Int) = (r.length : Int) + 1 := fun y r => by rw [List.length_cons]; omega
  have v1 : ∀ r : List (Bool × Int), (vas r).length = r.length := vas_l
  subst hr
  obtain ⟨s1, hs⟩ := sok_c hs
  obtain ⟨s2, hs⟩ := sok_c hs
  have s1 := s1.1 rfl
  have s2 := s2.1 rfl
  have e : evo E Tp o w ((true, b) :: (true, a) :: r) = (false, askf o a b) :: r := by unfold evo; rw [if_neg (by omega), if_neg (by omega), if_neg (by omega), if_neg (by omega), if_neg (by omega), if_pos (by omega)]
  obtain ⟨p2, hP⟩ := arr_pop (x := b) (L := a :: vas r) hP
  obtain ⟨p3, hP⟩ := arr_pop (x := a) (L := vas r) hP
  rw [List.length_cons, v1, show ((r.length + 1 : Nat) : Int) = (r.length : Int) + 1 by omega] at p2
  rw [v1] at p3
  rw [e, c1, c1, c1]
  simp only [List.length_cons] at hl
  refine ⟨us P r.length (askf o a b), by have := arr_push (x := askf o a b) hP; rw [v1] at this; exact this, fun F K q => ?_⟩
  have ab : -1000000 ≤ askf o a b ∧ askf o a b ≤ 1000000 := by have := askf_b (o := o) (a := a) (b := b); omega
  unfold wbd
  simp (disch := first | omega | decide) only [w32_id, ↓kh_c28, ↓kh_g28_0, ↓kh_g28_1, ↓kh_g28_2, ↓kh_p28_2, ↓be_y, ↓be_n, ↓bf_y, ↓bf_n, ↓bl_y, ↓bl_n, ↓bm_y, ↓bm_n, ↓bg_y, ↓bg_n, ↓bs_y, ↓bs_n, ↓bo_y, ↓bo_n, ↓bp_y, ↓bp_n, ↓forall_eq, ↓within_y, ↓within_n, ↓isIn_y, ↓isIn_n, and_true, true_and, and_self, us_at, us_ne, w32_id, um_eq, um_ne, um_um, uu_eq, uu_ne, uu_uu, vv_eq, vv_ne, vv_vv, ne_eq, not_false_eq_true, not_true_eq_false, reduceCtorEq, Int.reduceAdd, Int.reduceSub, Int.reduceMul, Int.reduceNeg, Nat.reduceEqDiff, or_true, true_or, true_implies, false_implies, Int.reduceLT, Int.reduceLE, Int.reduceEq]
  refine op2 (by omega) (by omega) (by rw [p2, p3]; omega) ?_
  rw [p2, p3]
  have fin : rcv (kh F (vv v 28 2 r.length) (um N 30 P) T) (some 28) 3 (fun o24 => mX3_push o24 (askf o a b) (kh F (vv v 28 2 r.length) (um N 30 P) T) (fun F23 => K F23)) := by
    simp (disch := first | omega | decide) only [w32_id, ↓kh_c28, ↓kh_g28_0, ↓kh_g28_1, ↓kh_g28_2, ↓kh_p28_2, ↓be_y, ↓be_n, ↓bf_y, ↓bf_n, ↓bl_y, ↓bl_n, ↓bm_y, ↓bm_n, ↓bg_y, ↓bg_n, ↓bs_y, ↓bs_n, ↓bo_y, ↓bo_n, ↓bp_y, ↓bp_n, ↓forall_eq, ↓within_y, ↓within_n, ↓isIn_y, ↓isIn_n, and_true, true_and, and_self, us_at, us_ne, w32_id, um_eq, um_ne, um_um, uu_eq, uu_ne, uu_uu, vv_eq, vv_ne, vv_vv, ne_eq, not_false_eq_true, not_true_eq_false, reduceCtorEq, Int.reduceAdd, Int.reduceSub, Int.reduceMul, Int.reduceNeg, Nat.reduceEqDiff, or_true, true_or, true_implies, false_implies, Int.reduceLT, Int.reduceLE, Int.reduceEq]
    refine push_c (by omega) (by omega) ?_
    rw [clp_i ab]
    exact q
  rcases h1 with ⟨rfl, h⟩ | ⟨rfl, h⟩ | ⟨rfl, h⟩ | ⟨rfl, h⟩ | ⟨rfl, h⟩ | ⟨rfl, h⟩
  · rw [show x - 20000 = 30 by omega]
    unfold askf at fin
    rw [if_pos rfl] at fin
    exact od_30 s2 s1 fin
  · rw [show x - 20000 = 41 by omega]
    unfold askf at fin
    rw [if_neg (by decide), if_pos rfl] at fin
    exact od_41 s2 s1 fin
  · rw [show x - 20000 = 31 by omega]
    unfold askf at fin
    rw [if_neg (by decide), if_neg (by decide), if_pos rfl] at fin
    exact od_31 s2 s1 fin
  · rw [show x - 20000 = 42 by omega]
    unfold askf at fin
    rw [if_neg (by decide), if_neg (by decide), if_neg (by decide), if_pos rfl] at fin
    exact od_42 s2 s1 fin
  · rw [show x - 20000 = 32 by omega]
    unfold askf at fin
    rw [if_neg (by decide), if_neg (by decide), if_neg (by decide), if_neg (by decide), if_pos rfl] at fin
    exact od_32 s2 s1 fin
  · rw [show x - 20000 = 33 by omega]
    unfold askf at fin
    rw [if_neg (by decide), if_neg (by decide), if_neg (by decide), if_neg (by decide), if_neg (by decide)] at fin
    exact od_33 s2 s1 fin
theorem sc7 {E Tp P : Int → Int} {o w x : Int} {s : List (Bool × Int)} (hs : sok s) (hl : s.length < 300) (hP : arr P (vas s)) (hE : o = 1 → N 29 w = E w ∧ -1000000 ≤ E w ∧ E w ≤ 1000000) (hT : ∀ t, 0 ≤ t → t < 3 → N 29 (11 + t) = Tp t) (hT0 : ∀ a, a < 0 ∨ 3 ≤ a → Tp a = 0) (hTb : ∀ a, -1000000 ≤ Tp a ∧ Tp a ≤ 1000000) (h0 : o = 20) (h1 : x = 20028) {a : Int} {r : List (Bool × Int)} (hr : s = (false, a) :: r) : ∃ P', arr P' (vas (evo E Tp o w s)) ∧ ∀ (F : hp) (K : hp → Prop), K (kh F (vv v 28 2 (evo E Tp o w s).length) (um N 30 P') T) → wbd x (kh F (vv v 28 2 s.length) (um N 30 P) T) K := by
  have c1 : ∀ (y : Bool × Int) (r : List (Bool × Int)), (((y :: r).length : Nat) : Int) = (r.length : Int) + 1 := fun y r => by rw [List.length_cons]; omega
  have v1 : ∀ r : List (Bool × Int), (vas r).length = r.length := vas_l
  subst h0
  subst hr
  obtain ⟨s1, hs⟩ := sok_c hs
  have s1 := s1.2 rfl
  have e : evo E Tp 20 w ((false, a) :: r) = (false, 1 - a) :: r := rfl
  obtain ⟨p3, hP⟩ := arr_pop (x := a) (L := vas r) hP
  rw [v1] at p3
  rw [e, c1, c1]
  simp only [List.length_cons] at hl
  refine ⟨us P r.length (1 - a), by have := arr_push (x := 1 - a) hP; rw [v1] at this; exact this, fun F K q => ?_⟩
  unfold wbd
  simp (disch := first | omega | decide) only [w32_id, ↓kh_c28, ↓kh_g28_0, ↓kh_g28_1, ↓kh_g28_2, ↓kh_p28_2, ↓be_y, ↓be_n, ↓bf_y, ↓bf_n, ↓bl_y, ↓bl_n, ↓bm_y, ↓bm_n, ↓bg_y, ↓bg_n, ↓bs_y, ↓bs_n, ↓bo_y, ↓bo_n, ↓bp_y, ↓bp_n, ↓forall_eq, ↓within_y, ↓within_n, ↓isIn_y, ↓isIn_n, and_true, true_and, and_self, us_at, us_ne, w32_id, um_eq, um_ne, um_um, uu_eq, uu_ne, uu_uu, vv_eq, vv_ne, vv_vv, ne_eq, not_false_eq_true, not_true_eq_false, reduceCtorEq, Int.reduceAdd, Int.reduceSub, Int.reduceMul, Int.reduceNeg, Nat.reduceEqDiff, or_true, true_or, true_implies, false_implies, Int.reduceLT, Int.reduceLE, Int.reduceEq]
  refine op1 (by omega) (by omega) (by rw [p3]; omega) ?_ (by omega) q
  rw [p3]
  exact ⟨fun e => by omega, fun e => by omega, fun _ => rfl, fun e => by omega⟩
theorem sc8 {E Tp P : Int → Int} {o w x : Int} {s : List (Bool × Int)} (hs : sok s) (hl : s.length < 300) (hP : arr P (vas s)) (hE : o = 1 → N 29 w = E w ∧ -1000000 ≤ E w ∧ E w ≤ 1000000) (hT : ∀ t, 0 ≤ t → t < 3 → N 29 (11 + t) = Tp t) (hT0 : ∀ a, a < 0 ∨ 3 ≤ a → Tp a = 0) (hTb : ∀ a, -1000000 ≤ Tp a ∧ Tp a ≤ 1000000) (h1 : (o = 21 ∧ x = 20027) ∨ (o = 22 ∧ x = 20026)) {b a : Int} {r : List (Bool × Int)} (hr : s = (false, b) :: (false, a) :: r) : ∃ P', arr P' (vas (evo E Tp o w s)) ∧ ∀ (F : hp) (K : hp → Prop), K (kh F (vv v 28 2 (evo E Tp o w s).length) (um N 30 P') T) → wbd x (kh F (vv v 28 2 s.length) (um N 30 P) T) K := by
  have c1 : ∀ (y : Bool × Int) (r : List (Bool × Int)), (((y :: r).length : Nat) : Int) = (r.length : Int) + 1 := fun y r => by rw [List.length_cons]; omega
  have v1 : ∀ r : List (Bool × Int), (vas r).length = r.length := vas_l
  subst hr
  obtain ⟨s1, hs⟩ := sok_c hs
  obtain ⟨s2, hs⟩ := sok_c hs
  have s1 := s1.2 rfl
  have s2 := s2.2 rfl
  have e : evo E Tp o w ((false, b) :: (false, a) :: r) = (false, jof o a b) :: r := by unfold evo; rw [if_neg (by omega), if_neg (by omega), if_neg (by omega), if_neg (by omega), if_neg (by omega), if_neg (by omega), if_neg (by omega)]
  obtain ⟨p2, hP⟩ := arr_pop (x := b) (L := a :: vas r) hP
  obtain ⟨p3, hP⟩ := arr_pop (x := a) (L := vas r) hP
  rw [List.length_cons, v1, show ((r.length + 1 : Nat) : Int) = (r.length : Int) + 1 by omega] at p2
  rw [v1] at p3
  rw [e, c1, c1, c1]
  simp only [List.length_cons] at hl
  refine ⟨us P r.length (jof o a b), by have := arr_push (x := jof o a b) hP; rw [v1] at this; exact this, fun F K q => ?_⟩
  have ab : -1000000 ≤ jof o a b ∧ jof o a b ≤ 1000000 := by
    unfold jof
    repeat' split
    all_goals omega
  unfold wbd
  simp (disch := first | omega | decide) only [w32_id, ↓kh_c28, ↓kh_g28_0, ↓kh_g28_1, ↓kh_g28_2, ↓kh_p28_2, ↓be_y, ↓be_n, ↓bf_y, ↓bf_n, ↓bl_y, ↓bl_n, ↓bm_y, ↓bm_n, ↓bg_y, ↓bg_n, ↓bs_y, ↓bs_n, ↓bo_y, ↓bo_n, ↓bp_y, ↓bp_n, ↓forall_eq, ↓within_y, ↓within_n, ↓isIn_y, ↓isIn_n, and_true, true_and, and_self, us_at, us_ne, w32_id, um_eq, um_ne, um_um, uu_eq, uu_ne, uu_uu, vv_eq, vv_ne, vv_vv, ne_eq, not_false_eq_true, not_true_eq_false, reduceCtorEq, Int.reduceAdd, Int.reduceSub, Int.reduceMul, Int.reduceNeg, Nat.reduceEqDiff, or_true, true_or, true_implies, false_implies, Int.reduceLT, Int.reduceLE, Int.reduceEq]
  refine op2 (by omega) (by omega) (by rw [p2, p3]; omega) ?_
  rw [p2, p3]
  have fin : rcv (kh F (vv v 28 2 r.length) (um N 30 P) T) (some 28) 3 (fun o24 => mX3_push o24 (jof o a b) (kh F (vv v 28 2 r.length) (um N 30 P) T) (fun F23 => K F23)) := by
    simp (disch := first | omega | decide) only [w32_id, ↓kh_c28, ↓kh_g28_0, ↓kh_g28_1, ↓kh_g28_2, ↓kh_p28_2, ↓be_y, ↓be_n, ↓bf_y, ↓bf_n, ↓bl_y, ↓bl_n, ↓bm_y, ↓bm_n, ↓bg_y, ↓bg_n, ↓bs_y, ↓bs_n, ↓bo_y, ↓bo_n, ↓bp_y, ↓bp_n, ↓forall_eq, ↓within_y, ↓within_n, ↓isIn_y, ↓isIn_n, and_true, true_and, and_self, us_at, us_ne, w32_id, um_eq, um_ne, um_um, uu_eq, uu_ne, uu_uu, vv_eq, vv_ne, vv_vv, ne_eq, not_false_eq_true, not_true_eq_false, reduceCtorEq, Int.reduceAdd, Int.reduceSub, Int.reduceMul, Int.reduceNeg, Nat.reduceEqDiff, or_true, true_or, true_implies, false_implies, Int.reduceLT, Int.reduceLE, Int.reduceEq]
    refine push_c (by omega) (by omega) ?_
    rw [clp_i ab]
    exact q
  rcases h1 with ⟨rfl, h⟩ | ⟨rfl, h⟩
  · rw [show x - 20000 = 27 by omega]
    exact od_27 s2 s1 fin
  · rw [show x - 20000 = 26 by omega]
    exact od_26 s2 s1 fin
theorem step_c {E Tp P : Int → Int} {o w x : Int} {s : List (Bool × Int)} {t : List Bool} (hx : cxp x o w) (ht : tyo o (s.map (fun x => x.1)) = some t) (hs : sok s) (hl : s.length < 300) (hP : arr P (vas s)) (hE : o = 1 → N 29 w = E w ∧ -1000000 ≤ E w ∧ E w ≤ 1000000) (hT : ∀ t, 0 ≤ t → t < 3 → N 29 (11 + t) = Tp t) (hT0 : ∀ a, a < 0 ∨ 3 ≤ a → Tp a = 0) (hTb : ∀ a, -1000000 ≤ Tp a ∧ Tp a ≤ 1000000) : ∃ P', arr P' (vas (evo E Tp o w s)) ∧ ∀ (F : hp) (K : hp → Prop), K (kh F (vv v 28 2 (evo E Tp o w s).length) (um N 30 P') T) → wbd x (kh F (vv v 28 2 s.length) (um N 30 P) T) K := by
  rcases shp hx ht with ⟨rfl, h1, h2, h3⟩ | ⟨rfl, h1, h2, h3⟩ | ⟨rfl, h1, b, a, c, r, rfl, h3⟩ | ⟨h1, a, r, rfl, h3⟩ | ⟨h1, b, a, r, rfl, h3⟩ | ⟨h1, b, a, r, rfl, h3⟩ | ⟨rfl, h1, a, r, rfl, h3⟩ | ⟨h1, b, a, r, rfl, h3⟩
  · exact sc1 hs hl hP hE hT hT0 hTb rfl h1 h2
  · exact sc2 hs hl hP hE hT hT0 hTb rfl h1 h2
  · exact sc3 hs hl hP hE hT hT0 hTb rfl h1 rfl
  · exact sc4 hs hl hP hE hT hT0 hTb h1 rfl
  · exact sc5 hs hl hP hE hT hT0 hTb h1 rfl
  · exact sc6 hs hl hP hE hT hT0 hTb h1 rfl
  · exact sc7 hs hl hP hE hT hT0 hTb rfl h1 rfl
  · exact sc8 hs hl hP hE hT hT0 hTb h1 rfl
end SC
