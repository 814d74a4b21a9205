section SR
variable {n x1 x2 : Int} {F : hp} {v : Nat → Nat → Int} {N : Nat → Int → Int} {T : Nat → Int → Option Nat} {u : Nat → Int} {M : Nat → Int → Int}
theorem um_76 (M : Nat → Int → Int) (V B V' : Int → Int) : um (um (um M 76 V) 77 B) 76 V' = um (um M 76 V') 77 B := by
  funext j
  by_cases h1 : j = 77
  · subst h1; rfl
  · by_cases h2 : j = 76
    · subst h2; rfl
    · rw [um_ne h2, um_ne h1, um_ne h2, um_ne h1, um_ne h2]
def topf (A : Int → Int) (a : Int) : Int := if (0 ≤ a ∧ a < 3) ∧ 0 < A (12 + a) then A (41 + A (15 + 5 * a + (A (12 + a) - 1))) else 0
theorem topf_0 {A : Int → Int} {a : Int} (h : a < 0 ∨ 3 ≤ a) : topf A a = 0 := by unfold topf; rw [if_neg (by omega)]
theorem topf_b (hY : jY (N 12) (M 70)) (hC : jC (N 15) (N 16) (N 17) (N 18) (N 19) (M 70)) (a : Int) : 0 ≤ topf (M 70) a ∧ topf (M 70) a ≤ 9 := by
  unfold topf
  split
  · rename_i h
    have hc := jY_c hY
    have w := trk hY h.1
    have b := w.2 (M 70 (12 + a) - 1) (by omega) (by omega)
    exact (hC (M 70 (15 + 5 * a + (M 70 (12 + a) - 1))) b.2.1 (by omega)).2.1.2
  · omega
theorem top_r (hY : jY (N 12) (M 70)) (hC : jC (N 15) (N 16) (N 17) (N 18) (N 19) (M 70)) {a : Int} (ha : -1000000 ≤ a ∧ a ≤ 1000000) {Q : Int → hp → Prop} (q : Q (topf (M 70) a) (rh F u M)) : mX12_topLoad 69 a (rh F u M) Q := by
  have c1 : (w32 (iCmp a 0) < 0) = (a < 0) := cm_l (by omega)
  have c2 : (w32 (iCmp a 3) < 0) = (a < 3) := cm_l (by omega)
  have hc := jY_c hY
  by_cases d : a < 0
  · rw [topf_0 (by omega)] at q
    simp (disch := first | omega | decide) only [mX12_topLoad, c1, c2, ↓rh_rcv, ↓rh_g0, ↓rh_r70, ↓rh_w70, ↓be_y, ↓be_n, ↓bf_y, ↓bf_n, ↓bl_y, ↓bl_n, ↓bm_y, ↓bm_n, ↓bg_y, ↓bg_n, ↓bs_y, ↓bs_n, ↓bo_y, ↓bo_n, ↓bp_y, ↓bp_n, ↓forall_eq, ↓within_y, ↓within_n, ↓isIn_y, ↓isIn_n, and_true, true_and, and_self, us_at, us_ne, w32_id, um_eq, um_ne, um_um, uu_eq, uu_ne, uu_uu, vv_eq, vv_ne, vv_vv, ne_eq, not_false_eq_true, not_true_eq_false, reduceCtorEq, Int.reduceAdd, Int.reduceSub, Int.reduceMul, Int.reduceNeg, Nat.reduceEqDiff, or_true, true_or, true_implies, false_implies, Int.reduceLT, Int.reduceLE, Int.reduceEq]
    exact q
  · by_cases d2 : a < 3
    · have w := trk hY (t := a) (by omega)
      have w1 := w.1
      by_cases d3 : 0 < M 70 (12 + a)
      · have b := w.2 (M 70 (12 + a) - 1) (by omega) (by omega)
        have l := (hC (M 70 (15 + 5 * a + (M 70 (12 + a) - 1))) b.2.1 (by omega)).2.1.2
        have e : topf (M 70) a = M 70 (41 + M 70 (15 + 5 * a + (M 70 (12 + a) - 1))) := by unfold topf; rw [if_pos (by omega)]
        rw [e] at q
        simp (disch := first | omega | decide) only [mX12_topLoad, mX12_uppermost, mX12_carOn, c1, c2, ↓rh_rcv, ↓rh_g0, ↓rh_r70, ↓rh_w70, ↓be_y, ↓be_n, ↓bf_y, ↓bf_n, ↓bl_y, ↓bl_n, ↓bm_y, ↓bm_n, ↓bg_y, ↓bg_n, ↓bs_y, ↓bs_n, ↓bo_y, ↓bo_n, ↓bp_y, ↓bp_n, ↓forall_eq, ↓within_y, ↓within_n, ↓isIn_y, ↓isIn_n, and_true, true_and, and_self, us_at, us_ne, w32_id, um_eq, um_ne, um_um, uu_eq, uu_ne, uu_uu, vv_eq, vv_ne, vv_vv, ne_eq, not_false_eq_true, not_true_eq_false, reduceCtorEq, Int.reduceAdd, Int.reduceSub, Int.reduceMul, Int.reduceNeg, Nat.reduceEqDiff, or_true, true_or, true_implies, false_implies, Int.reduceLT, Int.reduceLE, Int.reduceEq]
        exact q
      · have e : topf (M 70) a = 0 := by unfold topf; rw [if_neg (by omega)]
        rw [e] at q
        simp (disch := first | omega | decide) only [mX12_topLoad, c1, c2, ↓rh_rcv, ↓rh_g0, ↓rh_r70, ↓rh_w70, ↓be_y, ↓be_n, ↓bf_y, ↓bf_n, ↓bl_y, ↓bl_n, ↓bm_y, ↓bm_n, ↓bg_y, ↓bg_n, ↓bs_y, ↓bs_n, ↓bo_y, ↓bo_n, ↓bp_y, ↓bp_n, ↓forall_eq, ↓within_y, ↓within_n, ↓isIn_y, ↓isIn_n, and_true, true_and, and_self, us_at, us_ne, w32_id, um_eq, um_ne, um_um, uu_eq, uu_ne, uu_uu, vv_eq, vv_ne, vv_vv, ne_eq, not_false_eq_true, not_true_eq_false, reduceCtorEq, Int.reduceAdd, Int.reduceSub, Int.reduceMul, Int.reduceNeg, Nat.reduceEqDiff, or_true, true_or, true_implies, false_implies, Int.reduceLT, Int.reduceLE, Int.reduceEq]
        exact q
    · rw [topf_0 (by omega)] at q
      simp (disch := first | omega | decide) only [mX12_topLoad, c1, c2, ↓rh_rcv, ↓rh_g0, ↓rh_r70, ↓rh_w70, ↓be_y, ↓be_n, ↓bf_y, ↓bf_n, ↓bl_y, ↓bl_n, ↓bm_y, ↓bm_n, ↓bg_y, ↓bg_n, ↓bs_y, ↓bs_n, ↓bo_y, ↓bo_n, ↓bp_y, ↓bp_n, ↓forall_eq, ↓within_y, ↓within_n, ↓isIn_y, ↓isIn_n, and_true, true_and, and_self, us_at, us_ne, w32_id, um_eq, um_ne, um_um, uu_eq, uu_ne, uu_uu, vv_eq, vv_ne, vv_vv, ne_eq, not_false_eq_true, not_true_eq_false, reduceCtorEq, Int.reduceAdd, Int.reduceSub, Int.reduceMul, Int.reduceNeg, Nat.reduceEqDiff, or_true, true_or, true_implies, false_implies, Int.reduceLT, Int.reduceLE, Int.reduceEq]
      exact q
theorem ask_r {o a b : Int} (ho : 10 ≤ o ∧ o ≤ 15) (ha : -1000000 ≤ a ∧ a ≤ 1000000) (hb : -1000000 ≤ b ∧ b ≤ 1000000) {Q : Int → hp → Prop} (q : Q (askf o a b) F) : mX12_isAsked o a b F Q := by
  have c1 : (w32 (iCmp a b) < 0) = (a < b) := cm_l (by omega)
  have c2 : (0 < w32 (iCmp a b)) = (b < a) := cm_g (by omega)
  have c3 : (w32 (iCmp a b) = 0) = (a = b) := cm_e (by omega)
  unfold askf at q
  unfold mX12_isAsked
  rw [c1, c2, c3]
  obtain rfl | rfl | rfl | rfl | rfl | rfl : o = 10 ∨ o = 11 ∨ o = 12 ∨ o = 13 ∨ o = 14 ∨ o = 15 := by omega
  all_goals
    simp (disch := decide) only [w32_id, Int.reduceEq, if_true, if_false, true_implies, false_implies, not_true_eq_false, not_false_eq_true, true_and, and_true] at q ⊢
    refine ⟨fun d => ?_, fun d => ?_⟩
    all_goals first
      | (rw [if_pos (by omega)] at q; exact q)
      | (rw [if_neg (by omega)] at q; exact q)
theorem two_r {o a b : Int} (ho : 6 ≤ o ∧ o ≤ 9) (ha : -1000000 ≤ a ∧ a ≤ 1000000) (hb : -1000000 ≤ b ∧ b ≤ 1000000) {Q : Int → hp → Prop} (q : Q (b2f o a b) F) : mX12_two o a b F Q := by
  have mb := mul_b ha hb
  have db := tdiv_b (b := b) ha
  have c3 : (w32 (iCmp b 0) = 0) = (b = 0) := cm_e (by omega)
  unfold b2f at q
  unfold mX12_two
  rw [c3]
  obtain rfl | rfl | rfl | rfl : o = 6 ∨ o = 7 ∨ o = 8 ∨ o = 9 := by omega
  all_goals simp (disch := decide) only [w32_id, Int.reduceEq, if_true, if_false, true_implies, false_implies, not_true_eq_false, not_false_eq_true, true_and, and_true, Int.reduceLT, or_true, or_false, false_or, true_or] at q ⊢
  · exact clip_s (by omega) q
  · exact clip_s (by omega) q
  · exact clip_s (by omega) q
  · refine ⟨fun d => ?_, fun d => ?_⟩
    · rw [if_pos d] at q; exact q
    · rw [if_neg d] at q
      rw [w64_id (by omega) (by omega), w64_id (by omega) (by omega)]
      exact ⟨d, clip_s (by omega) q⟩
theorem one_r (hY : jY (N 12) (M 70)) (hC : jC (N 15) (N 16) (N 17) (N 18) (N 19) (M 70)) {o a : Int} (ho : o = 2 ∨ o = 4 ∨ o = 5) (ha : -1000000 ≤ a ∧ a ≤ 1000000) {Q : Int → hp → Prop} (q : Q (unf (topf (M 70)) o a) (rh F u M)) : mX12_ofOne 69 o a (rh F u M) Q := by
  unfold unf at q
  rcases ho with rfl | rfl | rfl
  · rw [if_neg (by omega), if_neg (by omega)] at q
    simp (disch := first | omega | decide) only [mX12_ofOne, ↓rh_rcv, ↓rh_g0, ↓be_y, ↓be_n, ↓bf_y, ↓bf_n, ↓bl_y, ↓bl_n, ↓bm_y, ↓bm_n, ↓bg_y, ↓bg_n, ↓bs_y, ↓bs_n, ↓bo_y, ↓bo_n, ↓bp_y, ↓bp_n, ↓forall_eq, ↓within_y, ↓within_n, ↓isIn_y, ↓isIn_n, and_true, true_and, and_self, us_at, us_ne, w32_id, um_eq, um_ne, um_um, uu_eq, uu_ne, uu_uu, vv_eq, vv_ne, vv_vv, ne_eq, not_false_eq_true, not_true_eq_false, reduceCtorEq, Int.reduceAdd, Int.reduceSub, Int.reduceMul, Int.reduceNeg, Nat.reduceEqDiff, or_true, true_or, true_implies, false_implies, Int.reduceLT, Int.reduceLE, Int.reduceEq]
    exact top_r hY hC ha q
  · rw [if_neg (by omega), if_pos rfl] at q
    have tm2 : a.tmod 2 = 0 ↔ a % 2 = 0 := by
      have h1 := Int.mul_tdiv_add_tmod a 2
      have h2 := Int.emod_add_mul_ediv a 2
      have h3 := Int.tmod_lt_of_pos a (show (0 : Int) < 2 by decide)
      have h4 : -2 < a.tmod 2 := by
        have := Int.natAbs_tmod a 2
        have h5 := Nat.mod_lt a.natAbs (show (2 : Int).natAbs > 0 by decide)
        have e2 : (2 : Int).natAbs = 2 := rfl
        omega
      omega
    have tb2 : -2 ≤ a.tmod 2 ∧ a.tmod 2 ≤ 2 := by
      have := Int.natAbs_tmod a 2
      have h5 := Nat.mod_lt a.natAbs (show (2 : Int).natAbs > 0 by decide)
      have e2 : (2 : Int).natAbs = 2 := rfl
      omega
    have c3 : (w32 (iCmp ((w64 a).tmod 2) 0) = 0) = (a.tmod 2 = 0) := by rw [w64_id (by omega) (by omega)]; exact cm_e (by omega)
    unfold mX12_ofOne
    rw [c3]
    by_cases d : a % 2 = 0
    · rw [d] at q
      have d2 := tm2.mpr d
      simp (disch := first | omega | decide) only [w32_id, ↓rh_rcv, ↓rh_g0, ↓be_y, ↓be_n, ↓bf_y, ↓bf_n, ↓bl_y, ↓bl_n, ↓bm_y, ↓bm_n, ↓bg_y, ↓bg_n, ↓bs_y, ↓bs_n, ↓bo_y, ↓bo_n, ↓bp_y, ↓bp_n, ↓forall_eq, ↓within_y, ↓within_n, ↓isIn_y, ↓isIn_n, and_true, true_and, and_self, us_at, us_ne, w32_id, um_eq, um_ne, um_um, uu_eq, uu_ne, uu_uu, vv_eq, vv_ne, vv_vv, ne_eq, not_false_eq_true, not_true_eq_false, reduceCtorEq, Int.reduceAdd, Int.reduceSub, Int.reduceMul, Int.reduceNeg, Nat.reduceEqDiff, or_true, true_or, true_implies, false_implies, Int.reduceLT, Int.reduceLE, Int.reduceEq]
      exact q
    · have d2 : ¬ a.tmod 2 = 0 := fun e => d (tm2.mp e)
      rw [show a % 2 = 1 by omega] at q
      simp (disch := first | omega | decide) only [w32_id, ↓rh_rcv, ↓rh_g0, ↓be_y, ↓be_n, ↓bf_y, ↓bf_n, ↓bl_y, ↓bl_n, ↓bm_y, ↓bm_n, ↓bg_y, ↓bg_n, ↓bs_y, ↓bs_n, ↓bo_y, ↓bo_n, ↓bp_y, ↓bp_n, ↓forall_eq, ↓within_y, ↓within_n, ↓isIn_y, ↓isIn_n, and_true, true_and, and_self, us_at, us_ne, w32_id, um_eq, um_ne, um_um, uu_eq, uu_ne, uu_uu, vv_eq, vv_ne, vv_vv, ne_eq, not_false_eq_true, not_true_eq_false, reduceCtorEq, Int.reduceAdd, Int.reduceSub, Int.reduceMul, Int.reduceNeg, Nat.reduceEqDiff, or_true, true_or, true_implies, false_implies, Int.reduceLT, Int.reduceLE, Int.reduceEq]
      exact q
  · rw [if_pos rfl] at q
    simp (disch := first | omega | decide) only [mX12_ofOne, ↓rh_rcv, ↓rh_g0, ↓be_y, ↓be_n, ↓bf_y, ↓bf_n, ↓bl_y, ↓bl_n, ↓bm_y, ↓bm_n, ↓bg_y, ↓bg_n, ↓bs_y, ↓bs_n, ↓bo_y, ↓bo_n, ↓bp_y, ↓bp_n, ↓forall_eq, ↓within_y, ↓within_n, ↓isIn_y, ↓isIn_n, and_true, true_and, and_self, us_at, us_ne, w32_id, um_eq, um_ne, um_um, uu_eq, uu_ne, uu_uu, vv_eq, vv_ne, vv_vv, ne_eq, not_false_eq_true, not_true_eq_false, reduceCtorEq, Int.reduceAdd, Int.reduceSub, Int.reduceMul, Int.reduceNeg, Nat.reduceEqDiff, or_true, true_or, true_implies, false_implies, Int.reduceLT, Int.reduceLE, Int.reduceEq]
    exact q
theorem joi_r {o a b : Int} (ho : o = 21 ∨ o = 22) (ha : a = 0 ∨ a = 1) (hb : b = 0 ∨ b = 1) {Q : Int → hp → Prop} (q : Q (jof o a b) F) : mX12_joined o a b F Q := by
  unfold jof at q
  unfold mX12_joined mX12_joined_J18 mX12_joined_J30
  rcases ho with rfl | rfl <;> rcases ha with rfl | rfl <;> rcases hb with rfl | rfl
  all_goals
    simp (disch := decide) [w32_id] at q ⊢
    exact q
set_option maxHeartbeats 4000000 in
theorem step_r (hY : jY (N 12) (M 70)) (hC : jC (N 15) (N 16) (N 17) (N 18) (N 19) (M 70)) {V B : Int → Int} {o w x i a3 a4 m : Int} {s : List (Bool × Int)} {t : List Bool} (ha3 : 0 ≤ a3 ∧ a3 < 2700) (ha4 : 0 ≤ a4 ∧ a4 + 2 * i + 1 < 2724) (hi : 0 ≤ i ∧ i < m ∧ m ≤ 1000) (e3 : M 72 (a3 + 2) = m) (eo : M 72 (a4 + 2 * i) = o) (ew : M 72 (a4 + 2 * i + 1) = w) (hx : cxp x o w) (ht : tyo o (s.map (fun x => x.1)) = some t) (hs : sok s) (hl : s.length < 300) (hV : arr V (nus s)) (hB : arr B (trs s)) (hE : o = 1 → -1000000 ≤ M 75 w ∧ M 75 w ≤ 1000000) : ∃ V' B', arr V' (nus (evo (M 75) (topf (M 70)) o w s)) ∧ arr B' (trs (evo (M 75) (topf (M 70)) o w s)) ∧ ∀ (F : hp) (k : Nat) (Q : Int → hp → Prop), mX12_summedUp_L38 Q k 69 a3 a4 (nus (evo (M 75) (topf (M 70)) o w s)).length (trs (evo (M 75) (topf (M 70)) o w s)).length (i + 1) (rh F u (um (um M 76 V') 77 B')) → mX12_summedUp_L38 Q (k + 1) 69 a3 a4 (nus s).length (trs s).length i (rh F u (um (um M 76 V) 77 B)) := by
  have nl := nus_l s
  have nt : ∀ a r, nus ((true, a) :: r) = a :: nus r := fun a r => rfl
  have nf : ∀ a r, nus ((false, a) :: r) = nus r := fun a r => rfl
  have tt : ∀ a r, trs ((true, a) :: r) = trs r := fun a r => rfl
  have tf : ∀ a r, trs ((false, a) :: r) = a :: trs r := fun a r => rfl
  have c1 : ∀ (y : Int) (r : List Int), (((y :: r).length : Nat) : Int) = (r.length : Int) + 1 := fun y r => by rw [List.length_cons]; omega
  rcases shp hx ht with ⟨rfl, h1, h2, h3⟩ | ⟨rfl, h1, h2, h3⟩ | ⟨rfl, h1, b, a, c, r, rfl, h3⟩ | ⟨h1, a, r, rfl, h3⟩ | ⟨h1, b, a, r, rfl, h3⟩ | ⟨h1, b, a, r, rfl, h3⟩ | ⟨rfl, h1, a, r, rfl, h3⟩ | ⟨h1, b, a, r, rfl, h3⟩
  · have e : evo (M 75) (topf (M 70)) 0 w s = (true, w) :: s := rfl
    rw [e, nt, tt, c1]
    refine ⟨us V (nus s).length w, B, arr_push hV, hB, fun F k Q q => ?_⟩
    rw [mX12_summedUp_L38]
    simp (disch := first | omega | decide) only [mX12_summedUp_J112, mX12_summedUp_J349, ↓rh_rcv, ↓rh_g2, ↓rh_g21, ↓rh_r72, ↓rh_w72, ↓rh_r76, ↓rh_w76, ↓be_y, ↓be_n, ↓bf_y, ↓bf_n, ↓bl_y, ↓bl_n, ↓bm_y, ↓bm_n, ↓bg_y, ↓bg_n, ↓bs_y, ↓bs_n, ↓bo_y, ↓bo_n, ↓bp_y, ↓bp_n, ↓forall_eq, ↓within_y, ↓within_n, ↓isIn_y, ↓isIn_n, and_true, true_and, and_self, us_at, us_ne, w32_id, um_eq, um_ne, um_um, uu_eq, uu_ne, uu_uu, vv_eq, vv_ne, vv_vv, ne_eq, not_false_eq_true, not_true_eq_false, reduceCtorEq, Int.reduceAdd, Int.reduceSub, Int.reduceMul, Int.reduceNeg, Nat.reduceEqDiff, or_true, true_or, true_implies, false_implies, Int.reduceLT, Int.reduceLE, Int.reduceEq, e3, eo, ew, um_76]
    exact q
  · have e : evo (M 75) (topf (M 70)) 1 w s = (true, M 75 w) :: s := rfl
    have g := hE rfl
    rw [e, nt, tt, c1]
    refine ⟨us V (nus s).length (M 75 w), B, arr_push hV, hB, fun F k Q q => ?_⟩
    rw [mX12_summedUp_L38]
    simp (disch := first | omega | decide) only [mX12_summedUp_J112, mX12_summedUp_J349, ↓rh_rcv, ↓rh_g2, ↓rh_g20, ↓rh_g21, ↓rh_r72, ↓rh_w72, ↓rh_r75, ↓rh_w75, ↓rh_r76, ↓rh_w76, ↓be_y, ↓be_n, ↓bf_y, ↓bf_n, ↓bl_y, ↓bl_n, ↓bm_y, ↓bm_n, ↓bg_y, ↓bg_n, ↓bs_y, ↓bs_n, ↓bo_y, ↓bo_n, ↓bp_y, ↓bp_n, ↓forall_eq, ↓within_y, ↓within_n, ↓isIn_y, ↓isIn_n, and_true, true_and, and_self, us_at, us_ne, w32_id, um_eq, um_ne, um_um, uu_eq, uu_ne, uu_uu, vv_eq, vv_ne, vv_vv, ne_eq, not_false_eq_true, not_true_eq_false, reduceCtorEq, Int.reduceAdd, Int.reduceSub, Int.reduceMul, Int.reduceNeg, Nat.reduceEqDiff, or_true, true_or, true_implies, false_implies, Int.reduceLT, Int.reduceLE, Int.reduceEq, e3, eo, ew, um_76]
    exact q
  · have e : evo (M 75) (topf (M 70)) 3 w ((true, b) :: (true, a) :: (false, c) :: r) = (true, if c = 0 then b else a) :: r := rfl
    obtain ⟨s1, hs⟩ := sok_c hs
    obtain ⟨s2, hs⟩ := sok_c hs
    obtain ⟨s3, hs⟩ := sok_c hs
    have s3 := s3.2 rfl
    rw [nt, nt, nf] at hV nl
    rw [tt, tt, tf] at hB nl
    simp only [List.length_cons] at hl nl
    obtain ⟨p1, hV⟩ := arr_pop hV
    have hV1 := hV
    obtain ⟨p2, hV⟩ := arr_pop hV
    obtain ⟨p3, hB⟩ := arr_pop hB
    rw [c1] at p1
    rw [e, nt, nt, nt, nf, tt, tt, tt, tf, c1, c1, c1, c1]
    have z1 : ((nus r).length : Int) + 1 + 1 + -1 = (nus r).length + 1 := by omega
    have z2 : ((nus r).length : Int) + 1 - 1 = (nus r).length := by omega
    have z3 : ((trs r).length : Int) + 1 + -1 = (trs r).length := by omega
    by_cases d : c = 0
    · rw [if_pos d]
      refine ⟨us V (nus r).length b, B, arr_push hV, hB, fun F k Q q => ?_⟩
      rw [mX12_summedUp_L38]
      simp (disch := first | omega | decide) only [mX12_summedUp_J349, ↓rh_rcv, ↓rh_g2, ↓rh_g21, ↓rh_g22, ↓rh_r72, ↓rh_w72, ↓rh_r76, ↓rh_w76, ↓rh_r77, ↓rh_w77, ↓be_y, ↓be_n, ↓bf_y, ↓bf_n, ↓bl_y, ↓bl_n, ↓bm_y, ↓bm_n, ↓bg_y, ↓bg_n, ↓bs_y, ↓bs_n, ↓bo_y, ↓bo_n, ↓bp_y, ↓bp_n, ↓forall_eq, ↓within_y, ↓within_n, ↓isIn_y, ↓isIn_n, and_true, true_and, and_self, us_at, us_ne, w32_id, um_eq, um_ne, um_um, uu_eq, uu_ne, uu_uu, vv_eq, vv_ne, vv_vv, ne_eq, not_false_eq_true, not_true_eq_false, reduceCtorEq, Int.reduceAdd, Int.reduceSub, Int.reduceMul, Int.reduceNeg, Nat.reduceEqDiff, or_true, true_or, true_implies, false_implies, Int.reduceLT, Int.reduceLE, Int.reduceEq, e3, eo, ew, um_76, z1, z2, z3, p1, p2, p3]
      exact q
    · rw [if_neg d]
      refine ⟨V, B, hV1, hB, fun F k Q q => ?_⟩
      rw [mX12_summedUp_L38]
      simp (disch := first | omega | decide) only [mX12_summedUp_J349, ↓rh_rcv, ↓rh_g2, ↓rh_g21, ↓rh_g22, ↓rh_r72, ↓rh_w72, ↓rh_r76, ↓rh_w76, ↓rh_r77, ↓rh_w77, ↓be_y, ↓be_n, ↓bf_y, ↓bf_n, ↓bl_y, ↓bl_n, ↓bm_y, ↓bm_n, ↓bg_y, ↓bg_n, ↓bs_y, ↓bs_n, ↓bo_y, ↓bo_n, ↓bp_y, ↓bp_n, ↓forall_eq, ↓within_y, ↓within_n, ↓isIn_y, ↓isIn_n, and_true, true_and, and_self, us_at, us_ne, w32_id, um_eq, um_ne, um_um, uu_eq, uu_ne, uu_uu, vv_eq, vv_ne, vv_vv, ne_eq, not_false_eq_true, not_true_eq_false, reduceCtorEq, Int.reduceAdd, Int.reduceSub, Int.reduceMul, Int.reduceNeg, Nat.reduceEqDiff, or_true, true_or, true_implies, false_implies, Int.reduceLT, Int.reduceLE, Int.reduceEq, e3, eo, ew, um_76, z1, z2, z3, p1, p2, p3]
      exact q
  · obtain ⟨s1, hs⟩ := sok_c hs
    have s1 := s1.1 rfl
    have e : evo (M 75) (topf (M 70)) o w ((true, a) :: r) = (true, unf (topf (M 70)) o a) :: r := by unfold evo; rw [if_neg (by omega), if_neg (by omega), if_neg (by omega), if_pos (by omega)]
    rw [nt] at hV nl
    rw [tt] at hB nl
    simp only [List.length_cons] at hl nl
    obtain ⟨p1, hV⟩ := arr_pop hV
    rw [e, nt, nt, tt, tt, c1, c1]
    have z2 : ((nus r).length : Int) + 1 - 1 = (nus r).length := by omega
    refine ⟨us V (nus r).length (unf (topf (M 70)) o a), B, arr_push hV, hB, fun F k Q q => ?_⟩
    rw [mX12_summedUp_L38]
    simp (disch := first | omega | decide) only [w32_id, ↓rh_rcv, ↓rh_g2, ↓rh_g21, ↓rh_r72, ↓rh_w72, ↓rh_r76, ↓rh_w76, ↓be_y, ↓be_n, ↓bf_y, ↓bf_n, ↓bl_y, ↓bl_n, ↓bm_y, ↓bm_n, ↓bg_y, ↓bg_n, ↓bs_y, ↓bs_n, ↓bo_y, ↓bo_n, ↓bp_y, ↓bp_n, ↓forall_eq, ↓within_y, ↓within_n, ↓isIn_y, ↓isIn_n, and_true, true_and, and_self, us_at, us_ne, w32_id, um_eq, um_ne, um_um, uu_eq, uu_ne, uu_uu, vv_eq, vv_ne, vv_vv, ne_eq, not_false_eq_true, not_true_eq_false, reduceCtorEq, Int.reduceAdd, Int.reduceSub, Int.reduceMul, Int.reduceNeg, Nat.reduceEqDiff, or_true, true_or, true_implies, false_implies, Int.reduceLT, Int.reduceLE, Int.reduceEq, e3, eo, ew, z2, p1]
    refine one_r (M := um (um M 76 V) 77 B) hY hC (by omega) s1 ?_
    simp (disch := first | omega | decide) only [mX12_summedUp_J349, ↓rh_rcv, ↓rh_g21, ↓rh_r76, ↓rh_w76, ↓be_y, ↓be_n, ↓bf_y, ↓bf_n, ↓bl_y, ↓bl_n, ↓bm_y, ↓bm_n, ↓bg_y, ↓bg_n, ↓bs_y, ↓bs_n, ↓bo_y, ↓bo_n, ↓bp_y, ↓bp_n, ↓forall_eq, ↓within_y, ↓within_n, ↓isIn_y, ↓isIn_n, and_true, true_and, and_self, us_at, us_ne, w32_id, um_eq, um_ne, um_um, uu_eq, uu_ne, uu_uu, vv_eq, vv_ne, vv_vv, ne_eq, not_false_eq_true, not_true_eq_false, reduceCtorEq, Int.reduceAdd, Int.reduceSub, Int.reduceMul, Int.reduceNeg, Nat.reduceEqDiff, or_true, true_or, true_implies, false_implies, Int.reduceLT, Int.reduceLE, Int.reduceEq, um_76]
    exact q
  · obtain ⟨s1, hs⟩ := sok_c hs
    obtain ⟨s2, hs⟩ := sok_c hs
    have s1 := s1.1 rfl
    have s2 := s2.1 rfl
    have e : evo (M 75) (topf (M 70)) o w ((true, b) :: (true, a) :: r) = (true, b2f o a b) :: r := by unfold evo; rw [if_neg (by omega), if_neg (by omega), if_neg (by omega), if_neg (by omega), if_pos (by omega)]
    rw [nt, nt] at hV nl
    rw [tt, tt] at hB nl
    simp only [List.length_cons] at hl nl
    obtain ⟨p1, hV⟩ := arr_pop hV
    obtain ⟨p2, hV⟩ := arr_pop hV
    rw [c1] at p1
    rw [e, nt, nt, nt, tt, tt, tt, c1, c1, c1]
    have z1 : ((nus r).length : Int) + 1 + 1 + -1 = (nus r).length + 1 := by omega
    have z2 : ((nus r).length : Int) + 1 - 1 = (nus r).length := by omega
    refine ⟨us V (nus r).length (b2f o a b), B, arr_push hV, hB, fun F k Q q => ?_⟩
    rw [mX12_summedUp_L38]
    simp (disch := first | omega | decide) only [w32_id, ↓rh_rcv, ↓rh_g2, ↓rh_g21, ↓rh_r72, ↓rh_w72, ↓rh_r76, ↓rh_w76, ↓be_y, ↓be_n, ↓bf_y, ↓bf_n, ↓bl_y, ↓bl_n, ↓bm_y, ↓bm_n, ↓bg_y, ↓bg_n, ↓bs_y, ↓bs_n, ↓bo_y, ↓bo_n, ↓bp_y, ↓bp_n, ↓forall_eq, ↓within_y, ↓within_n, ↓isIn_y, ↓isIn_n, and_true, true_and, and_self, us_at, us_ne, w32_id, um_eq, um_ne, um_um, uu_eq, uu_ne, uu_uu, vv_eq, vv_ne, vv_vv, ne_eq, not_false_eq_true, not_true_eq_false, reduceCtorEq, Int.reduceAdd, Int.reduceSub, Int.reduceMul, Int.reduceNeg, Nat.reduceEqDiff, or_true, true_or, true_implies, false_implies, Int.reduceLT, Int.reduceLE, Int.reduceEq, e3, eo, ew, z1, z2, p1, p2]
    refine two_r (by omega) s2 s1 ?_
    simp (disch := first | omega | decide) only [mX12_summedUp_J349, ↓rh_rcv, ↓rh_g21, ↓rh_r76, ↓rh_w76, ↓be_y, ↓be_n, ↓bf_y, ↓bf_n, ↓bl_y, ↓bl_n, ↓bm_y, ↓bm_n, ↓bg_y, ↓bg_n, ↓bs_y, ↓bs_n, ↓bo_y, ↓bo_n, ↓bp_y, ↓bp_n, ↓forall_eq, ↓within_y, ↓within_n, ↓isIn_y, ↓isIn_n, and_true, true_and, and_self, us_at, us_ne, w32_id, um_eq, um_ne, um_um, uu_eq, uu_ne, uu_uu, vv_eq, vv_ne, vv_vv, ne_eq, not_false_eq_true, not_true_eq_false, reduceCtorEq, Int.reduceAdd, Int.reduceSub, Int.reduceMul, Int.reduceNeg, Nat.reduceEqDiff, or_true, true_or, true_implies, false_implies, Int.reduceLT, Int.reduceLE, Int.reduceEq, um_76]
    exact q
  · obtain ⟨s1, hs⟩ := sok_c hs
    obtain ⟨s2, hs⟩ := sok_c hs
    have s1 := s1.1 rfl
    have s2 := s2.1 rfl
    have e : evo (M 75) (topf (M 70)) o w ((true, b) :: (true, a) :: r) = (false, askf o a b) :: r := by unfold evo; rw [if_neg (by omega), if_neg (by omega), if_neg (by omega), if_neg (by omega), if_neg (by omega), if_pos (by omega)]
    rw [nt, nt] at hV nl
    rw [tt, tt] at hB nl
    simp only [List.length_cons] at hl nl
    obtain ⟨p1, hV⟩ := arr_pop hV
    obtain ⟨p2, hV⟩ := arr_pop hV
    rw [c1] at p1
    rw [e, nt, nt, nf, tt, tt, tf, c1, c1, c1]
    have z1 : ((nus r).length : Int) + 1 + 1 + -2 = (nus r).length := by omega
    have a01 : askf o a b = 0 ∨ askf o a b = 1 := askf_b
    refine ⟨V, us B (trs r).length (askf o a b), hV, arr_push hB, fun F k Q q => ?_⟩
    rw [mX12_summedUp_L38]
    simp (disch := first | omega | decide) only [w32_id, ↓rh_rcv, ↓rh_g2, ↓rh_g21, ↓rh_g22, ↓rh_r72, ↓rh_w72, ↓rh_r76, ↓rh_w76, ↓be_y, ↓be_n, ↓bf_y, ↓bf_n, ↓bl_y, ↓bl_n, ↓bm_y, ↓bm_n, ↓bg_y, ↓bg_n, ↓bs_y, ↓bs_n, ↓bo_y, ↓bo_n, ↓bp_y, ↓bp_n, ↓forall_eq, ↓within_y, ↓within_n, ↓isIn_y, ↓isIn_n, and_true, true_and, and_self, us_at, us_ne, w32_id, um_eq, um_ne, um_um, uu_eq, uu_ne, uu_uu, vv_eq, vv_ne, vv_vv, ne_eq, not_false_eq_true, not_true_eq_false, reduceCtorEq, Int.reduceAdd, Int.reduceSub, Int.reduceMul, Int.reduceNeg, Nat.reduceEqDiff, or_true, true_or, true_implies, false_implies, Int.reduceLT, Int.reduceLE, Int.reduceEq, e3, eo, ew, z1, p1, p2]
    refine ask_r (by omega) s2 s1 ⟨a01, ?_⟩
    simp (disch := first | omega | decide) only [mX12_summedUp_J349, ↓rh_rcv, ↓rh_g22, ↓rh_r77, ↓rh_w77, ↓be_y, ↓be_n, ↓bf_y, ↓bf_n, ↓bl_y, ↓bl_n, ↓bm_y, ↓bm_n, ↓bg_y, ↓bg_n, ↓bs_y, ↓bs_n, ↓bo_y, ↓bo_n, ↓bp_y, ↓bp_n, ↓forall_eq, ↓within_y, ↓within_n, ↓isIn_y, ↓isIn_n, and_true, true_and, and_self, us_at, us_ne, w32_id, um_eq, um_ne, um_um, uu_eq, uu_ne, uu_uu, vv_eq, vv_ne, vv_vv, ne_eq, not_false_eq_true, not_true_eq_false, reduceCtorEq, Int.reduceAdd, Int.reduceSub, Int.reduceMul, Int.reduceNeg, Nat.reduceEqDiff, or_true, true_or, true_implies, false_implies, Int.reduceLT, Int.reduceLE, Int.reduceEq, um_76]
    exact q
  · obtain ⟨s1, hs⟩ := sok_c hs
    have s1 := s1.2 rfl
    have e : evo (M 75) (topf (M 70)) 20 w ((false, a) :: r) = (false, 1 - a) :: r := rfl
    rw [nf] at hV nl
    rw [tf] at hB nl
    simp only [List.length_cons] at hl nl
    obtain ⟨p1, hB⟩ := arr_pop hB
    rw [e, nf, nf, tf, tf, c1, c1]
    have z2 : ((trs r).length : Int) + 1 - 1 = (trs r).length := by omega
    refine ⟨V, us B (trs r).length (1 - a), hV, arr_push hB, fun F k Q q => ?_⟩
    rw [mX12_summedUp_L38]
    rcases s1 with rfl | rfl
    · simp (disch := first | omega | decide) only [mX12_summedUp_J312, mX12_summedUp_J349, ↓rh_rcv, ↓rh_g2, ↓rh_g21, ↓rh_g22, ↓rh_r72, ↓rh_w72, ↓rh_r76, ↓rh_w76, ↓rh_r77, ↓rh_w77, ↓be_y, ↓be_n, ↓bf_y, ↓bf_n, ↓bl_y, ↓bl_n, ↓bm_y, ↓bm_n, ↓bg_y, ↓bg_n, ↓bs_y, ↓bs_n, ↓bo_y, ↓bo_n, ↓bp_y, ↓bp_n, ↓forall_eq, ↓within_y, ↓within_n, ↓isIn_y, ↓isIn_n, and_true, true_and, and_self, us_at, us_ne, w32_id, um_eq, um_ne, um_um, uu_eq, uu_ne, uu_uu, vv_eq, vv_ne, vv_vv, ne_eq, not_false_eq_true, not_true_eq_false, reduceCtorEq, Int.reduceAdd, Int.reduceSub, Int.reduceMul, Int.reduceNeg, Nat.reduceEqDiff, or_true, true_or, true_implies, false_implies, Int.reduceLT, Int.reduceLE, Int.reduceEq, e3, eo, ew, z2, p1]
      exact q
    · simp (disch := first | omega | decide) only [mX12_summedUp_J312, mX12_summedUp_J349, ↓rh_rcv, ↓rh_g2, ↓rh_g21, ↓rh_g22, ↓rh_r72, ↓rh_w72, ↓rh_r76, ↓rh_w76, ↓rh_r77, ↓rh_w77, ↓be_y, ↓be_n, ↓bf_y, ↓bf_n, ↓bl_y, ↓bl_n, ↓bm_y, ↓bm_n, ↓bg_y, ↓bg_n, ↓bs_y, ↓bs_n, ↓bo_y, ↓bo_n, ↓bp_y, ↓bp_n, ↓forall_eq, ↓within_y, ↓within_n, ↓isIn_y, ↓isIn_n, and_true, true_and, and_self, us_at, us_ne, w32_id, um_eq, um_ne, um_um, uu_eq, uu_ne, uu_uu, vv_eq, vv_ne, vv_vv, ne_eq, not_false_eq_true, not_true_eq_false, reduceCtorEq, Int.reduceAdd, Int.reduceSub, Int.reduceMul, Int.reduceNeg, Nat.reduceEqDiff, or_true, true_or, true_implies, false_implies, Int.reduceLT, Int.reduceLE, Int.reduceEq, e3, eo, ew, z2, p1]
      exact q
  · obtain ⟨s1, hs⟩ := sok_c hs
    obtain ⟨s2, hs⟩ := sok_c hs
    have s1 := s1.2 rfl
    have s2 := s2.2 rfl
    have e : evo (M 75) (topf (M 70)) o w ((false, b) :: (false, a) :: r) = (false, jof o a b) :: r := by unfold evo; rw [if_neg (by omega), if_neg (by omega), if_neg (by omega), if_neg (by omega), if_neg (by omega), if_neg (by omega), if_neg (by omega)]
    rw [nf, nf] at hV nl
    rw [tf, tf] at hB nl
    simp only [List.length_cons] at hl nl
    obtain ⟨p1, hB⟩ := arr_pop hB
    obtain ⟨p2, hB⟩ := arr_pop hB
    rw [c1] at p1
    rw [e, nf, nf, nf, tf, tf, tf, c1, c1, c1]
    have z1 : ((trs r).length : Int) + 1 + 1 + -1 = (trs r).length + 1 := by omega
    have z2 : ((trs r).length : Int) + 1 - 1 = (trs r).length := by omega
    have a01 : jof o a b = 0 ∨ jof o a b = 1 := by
      unfold jof
      repeat' split
      all_goals simp
    refine ⟨V, us B (trs r).length (jof o a b), hV, arr_push hB, fun F k Q q => ?_⟩
    rw [mX12_summedUp_L38]
    simp (disch := first | omega | decide) only [w32_id, ↓rh_rcv, ↓rh_g2, ↓rh_g21, ↓rh_g22, ↓rh_r72, ↓rh_w72, ↓rh_r76, ↓rh_w76, ↓rh_r77, ↓rh_w77, ↓be_y, ↓be_n, ↓bf_y, ↓bf_n, ↓bl_y, ↓bl_n, ↓bm_y, ↓bm_n, ↓bg_y, ↓bg_n, ↓bs_y, ↓bs_n, ↓bo_y, ↓bo_n, ↓bp_y, ↓bp_n, ↓forall_eq, ↓within_y, ↓within_n, ↓isIn_y, ↓isIn_n, and_true, true_and, and_self, us_at, us_ne, w32_id, um_eq, um_ne, um_um, uu_eq, uu_ne, uu_uu, vv_eq, vv_ne, vv_vv, ne_eq, not_false_eq_true, not_true_eq_false, reduceCtorEq, Int.reduceAdd, Int.reduceSub, Int.reduceMul, Int.reduceNeg, Nat.reduceEqDiff, or_true, true_or, true_implies, false_implies, Int.reduceLT, Int.reduceLE, Int.reduceEq, e3, eo, ew, z1, z2, p1, p2]
    refine joi_r (by omega) s2 s1 ⟨a01, ?_⟩
    simp (disch := first | omega | decide) only [mX12_summedUp_J349, ↓rh_rcv, ↓rh_g22, ↓rh_r77, ↓rh_w77, ↓be_y, ↓be_n, ↓bf_y, ↓bf_n, ↓bl_y, ↓bl_n, ↓bm_y, ↓bm_n, ↓bg_y, ↓bg_n, ↓bs_y, ↓bs_n, ↓bo_y, ↓bo_n, ↓bp_y, ↓bp_n, ↓forall_eq, ↓within_y, ↓within_n, ↓isIn_y, ↓isIn_n, and_true, true_and, and_self, us_at, us_ne, w32_id, um_eq, um_ne, um_um, uu_eq, uu_ne, uu_uu, vv_eq, vv_ne, vv_vv, ne_eq, not_false_eq_true, not_true_eq_false, reduceCtorEq, Int.reduceAdd, Int.reduceSub, Int.reduceMul, Int.reduceNeg, Nat.reduceEqDiff, or_true, true_or, true_implies, false_implies, Int.reduceLT, Int.reduceLE, Int.reduceEq, um_76]
    exact q
end SR
