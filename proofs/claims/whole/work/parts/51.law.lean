def cl99 (r : Int) : Int := if r < -99 then -99 else if 99 < r then 99 else r
theorem cl99_c {r : Int} (h : -1000000 ≤ r ∧ r ≤ 1000000) : iMax (-99) (iMin 99 r) = cl99 r := by
  unfold cl99
  by_cases d : r < -99
  · rw [if_pos d, iMin_r (by omega), iMax_l (by omega)]
  · rw [if_neg d]
    by_cases e : 99 < r
    · rw [if_pos e, iMin_l (by omega), iMax_r (by omega)]
    · rw [if_neg e, iMin_r (by omega), iMax_r (by omega)]
theorem cl99_b (r : Int) : -99 ≤ cl99 r ∧ cl99 r ≤ 99 := by
  unfold cl99
  split
  · omega
  · split <;> omega
def env (w : Int) (E E' : Int → Int) : Prop := ∀ j, 0 ≤ j → j ≤ 10 → (w = 0 → j < 9) → (w = 1 → j < 6 ∨ 8 < j) → E j = E' j ∧ -1000000 ≤ E' j ∧ E' j ≤ 1000000
section LA
variable {n x1 x2 : Int} {F G : hp} {v : Nat → Nat → Int} {N : Nat → Int → Int} {T : Nat → Int → Option Nat} {u : Nat → Int} {M : Nat → Int → Int}
theorem says_y {w k0 j0 : Int} (hk0 : 0 ≤ k0 ∧ k0 < 4) (hw : w = 0 ∨ w = 1) (hj : 0 ≤ j0 ∧ j0 < M 72 (681 * k0) ∧ M 72 (681 * k0) ≤ 24) (hx : M 72 (681 * k0 + 1 + 3 * j0) = w) (hb : ∀ i, 0 ≤ i → i < j0 → M 72 (681 * k0 + 1 + 3 * i) ≠ w ∧ 0 ≤ M 72 (681 * k0 + 1 + 3 * i) ∧ M 72 (681 * k0 + 1 + 3 * i) ≤ 7) {F : hp} {Q : Int → hp → Prop} (q : mX12_summedUp 69 k0 j0 (rh F u M) (fun x6 F5 => mX12_cut x6 (-99) 99 F5 (fun x9 F8 => Q x9 F8))) : ∀ (k : Nat) (i : Int), i + k = j0 → 0 ≤ i → mX12_says_L2 Q (k + 1) 69 k0 w i (rh F u M) := by
  intro k
  induction k with
  | zero =>
    intro i hi h0
    obtain rfl : i = j0 := by omega
    rw [mX12_says_L2]
    simp (disch := first | omega | decide) only [w32_id, ↓rh_rcv, ↓rh_g0, ↓rh_g2, ↓rh_r72, ↓rh_w72, ↓be_y, ↓be_n, ↓bf_y, ↓bf_n, ↓bl_y, ↓bl_n, ↓bm_y, ↓bm_n, ↓bg_y, ↓bg_n, ↓bs_y, ↓bs_n, ↓bo_y, ↓bo_n, ↓bp_y, ↓bp_n, ↓forall_eq, ↓within_y, ↓within_n, ↓isIn_y, ↓isIn_n, and_true, true_and, and_self, us_at, us_ne, w32_id, um_eq, um_ne, um_um, uu_eq, uu_ne, uu_uu, vv_eq, vv_ne, vv_vv, ne_eq, not_false_eq_true, not_true_eq_false, reduceCtorEq, Int.reduceAdd, Int.reduceSub, Int.reduceMul, Int.reduceNeg, Nat.reduceEqDiff, or_true, true_or, true_implies, false_implies, Int.reduceLT, Int.reduceLE, Int.reduceEq, hx]
    exact q
  | succ k ih =>
    intro i hi h0
    have b := hb i h0 (by omega)
    rw [mX12_says_L2]
    simp (disch := first | omega | decide) only [w32_id, ↓rh_rcv, ↓rh_g0, ↓rh_g2, ↓rh_r72, ↓rh_w72, ↓be_y, ↓be_n, ↓bf_y, ↓bf_n, ↓bl_y, ↓bl_n, ↓bm_y, ↓bm_n, ↓bg_y, ↓bg_n, ↓bs_y, ↓bs_n, ↓bo_y, ↓bo_n, ↓bp_y, ↓bp_n, ↓forall_eq, ↓within_y, ↓within_n, ↓isIn_y, ↓isIn_n, and_true, true_and, and_self, us_at, us_ne, w32_id, um_eq, um_ne, um_um, uu_eq, uu_ne, uu_uu, vv_eq, vv_ne, vv_vv, ne_eq, not_false_eq_true, not_true_eq_false, reduceCtorEq, Int.reduceAdd, Int.reduceSub, Int.reduceMul, Int.reduceNeg, Nat.reduceEqDiff, or_true, true_or, true_implies, false_implies, Int.reduceLT, Int.reduceLE, Int.reduceEq]
    exact ih (i + 1) (by omega) (by omega)
theorem says_n {w k0 : Int} (hk0 : 0 ≤ k0 ∧ k0 < 4) (hw : w = 0 ∨ w = 1) (hj : 0 ≤ M 72 (681 * k0) ∧ M 72 (681 * k0) ≤ 24) (hb : ∀ i, 0 ≤ i → i < M 72 (681 * k0) → M 72 (681 * k0 + 1 + 3 * i) ≠ w ∧ 0 ≤ M 72 (681 * k0 + 1 + 3 * i) ∧ M 72 (681 * k0 + 1 + 3 * i) ≤ 7) {F : hp} {Q : Int → hp → Prop} (q : Q 1 (rh F u M)) : ∀ (k : Nat) (i : Int), i + k = M 72 (681 * k0) → 0 ≤ i → mX12_says_L2 Q (k + 1) 69 k0 w i (rh F u M) := by
  intro k
  induction k with
  | zero =>
    intro i hi h0
    rw [mX12_says_L2]
    simp (disch := first | omega | decide) only [w32_id, ↓rh_rcv, ↓rh_g0, ↓rh_g2, ↓rh_r72, ↓rh_w72, ↓be_y, ↓be_n, ↓bf_y, ↓bf_n, ↓bl_y, ↓bl_n, ↓bm_y, ↓bm_n, ↓bg_y, ↓bg_n, ↓bs_y, ↓bs_n, ↓bo_y, ↓bo_n, ↓bp_y, ↓bp_n, ↓forall_eq, ↓within_y, ↓within_n, ↓isIn_y, ↓isIn_n, and_true, true_and, and_self, us_at, us_ne, w32_id, um_eq, um_ne, um_um, uu_eq, uu_ne, uu_uu, vv_eq, vv_ne, vv_vv, ne_eq, not_false_eq_true, not_true_eq_false, reduceCtorEq, Int.reduceAdd, Int.reduceSub, Int.reduceMul, Int.reduceNeg, Nat.reduceEqDiff, or_true, true_or, true_implies, false_implies, Int.reduceLT, Int.reduceLE, Int.reduceEq]
    exact q
  | succ k ih =>
    intro i hi h0
    have b := hb i h0 (by omega)
    rw [mX12_says_L2]
    simp (disch := first | omega | decide) only [w32_id, ↓rh_rcv, ↓rh_g0, ↓rh_g2, ↓rh_r72, ↓rh_w72, ↓be_y, ↓be_n, ↓bf_y, ↓bf_n, ↓bl_y, ↓bl_n, ↓bm_y, ↓bm_n, ↓bg_y, ↓bg_n, ↓bs_y, ↓bs_n, ↓bo_y, ↓bo_n, ↓bp_y, ↓bp_n, ↓forall_eq, ↓within_y, ↓within_n, ↓isIn_y, ↓isIn_n, and_true, true_and, and_self, us_at, us_ne, w32_id, um_eq, um_ne, um_um, uu_eq, uu_ne, uu_uu, vv_eq, vv_ne, vv_vv, ne_eq, not_false_eq_true, not_true_eq_false, reduceCtorEq, Int.reduceAdd, Int.reduceSub, Int.reduceMul, Int.reduceNeg, Nat.reduceEqDiff, or_true, true_or, true_implies, false_implies, Int.reduceLT, Int.reduceLE, Int.reduceEq]
    exact ih (i + 1) (by omega) (by omega)
def lno (G : hp) (X : Int → Int) (h : Nat) (k0 w : Int) : Prop := (∀ (F : hp) (v : Nat → Nat → Int) (N : Nat → Int → Int) (T : Nat → Int → Option Nat) (Q : Int → hp → Prop), (∀ h, 87 ≤ h → F h = G h) → Q 0 (kh F v N T) → mX8_hasLaw h w (kh F v N T) Q) ∧ (∀ (F : hp) (u : Nat → Int) (M : Nat → Int → Int) (Q : Int → hp → Prop), M 72 = X → Q 1 (rh F u M) → mX12_says 69 k0 w (rh F u M) Q)
def lyes (G : hp) (X : Int → Int) (h : Nat) (k0 w : Int) : Prop := (∀ (F : hp) (v : Nat → Nat → Int) (N : Nat → Int → Int) (T : Nat → Int → Option Nat) (Q : Int → hp → Prop), (∀ h, 87 ≤ h → F h = G h) → Q 1 (kh F v N T) → mX8_hasLaw h w (kh F v N T) Q) ∧ (∀ (v : Nat → Nat → Int) (N : Nat → Int → Int) (T : Nat → Int → Option Nat) (u : Nat → Int) (M : Nat → Int → Int), M 72 = X → jY (N 12) (M 70) → jC (N 15) (N 16) (N 17) (N 18) (N 19) (M 70) → (∀ t, 0 ≤ t → t < 3 → N 29 (11 + t) = topf (M 70) t) → env w (N 29) (M 75) → ∃ r h' P' V' B', (-99 ≤ r ∧ r ≤ 99) ∧ (∀ (F : hp) (Q : Int → hp → Prop), (∀ h, 87 ≤ h → F h = G h) → Q r (kh F (vv v 28 2 h') (um N 30 P') T) → mX3_weigh 28 (some h) w (kh F v N T) Q) ∧ (∀ (F : hp) (Q : Int → hp → Prop), Q r (rh F u (um (um M 76 V') 77 B')) → mX12_says 69 k0 w (rh F u M) Q))
theorem say_b {X : Int → Int} {rf : Option Nat} {k0 w : Int} (hTX : TX G rf X k0) (hk0 : 0 ≤ k0 ∧ k0 < 4) (hw : w = 0 ∨ w = 1) : ∃ h fs, rf = some h ∧ 87 ≤ h ∧ G h = some (cO 8 fs) ∧ (lno G X h k0 w ∨ lyes G X h k0 w) := by
  obtain ⟨h, hc, ho, hb, nc, m, fc, fo, fb, ⟨r1, r2, r3, r4, r5⟩, ⟨g1, g2, g3, g4⟩, ⟨n1, n2, n3⟩, hm, hcl, l0, l1⟩ := hTX
  have hl : lwok w fb fo X k0 nc m := by rcases hw with rfl | rfl; exact l0; exact l1
  have sb : ∀ i, 0 ≤ i → i < nc → 0 ≤ X (681 * k0 + 1 + 3 * i) ∧ X (681 * k0 + 1 + 3 * i) ≤ 7 := fun i i0 i1 => (hcl i i0 i1).1
  refine ⟨h, _, r1, r2, g1, ?_⟩
  rcases hl with ⟨a1, a2⟩ | ⟨a0, j, ⟨j0, j1⟩, j2, j3, j4, j5, ⟨p1, p2, p3⟩, ty, cx⟩
  · left
    refine ⟨fun F v N T Q hF q => ?_, fun F u M Q hM q => ?_⟩
    · unfold mX8_hasLaw
      rw [kt_g (x := some hb) (by rw [hF h r2]; exact g1) r2 rfl, kt_r (by rw [hF hb r5]; exact g4) r5 (by omega) (by omega) (by omega), a1, w32_id (by decide) (by decide)]
      exact ⟨fun _ => q, fun d => absurd rfl d⟩
    · refine ⟨nc.toNat + 1, says_n hk0 hw ?_ (fun i i0 i1 => ?_) q nc.toNat 0 ?_ (by omega)⟩
      · rw [hM, n1]; omega
      · rw [hM] at i1 ⊢
        rw [n1] at i1
        exact ⟨a2 i i0 i1, sb i i0 i1⟩
      · rw [hM, n1]; omega
  · right
    refine ⟨fun F v N T Q hF q => ?_, fun v N T u M hM hY hC hT hE => ?_⟩
    · unfold mX8_hasLaw
      rw [kt_g (x := some hb) (by rw [hF h r2]; exact g1) r2 rfl, kt_r (by rw [hF hb r5]; exact g4) r5 (by omega) (by omega) (by omega), w32_id (x := fb (2 * w)) (by omega) (by omega)]
      exact ⟨fun d => by omega, fun _ => q⟩
    · have cx2 : ∀ i, fb (2 * w) ≤ i → i < fb (2 * w + 1) → cxp (fo i) (M 72 (681 * k0 + 73 + 2 * i)) (M 72 (681 * k0 + 73 + 2 * i + 1)) ∧ (M 72 (681 * k0 + 73 + 2 * i) = 1 → N 29 (M 72 (681 * k0 + 73 + 2 * i + 1)) = M 75 (M 72 (681 * k0 + 73 + 2 * i + 1)) ∧ -1000000 ≤ M 75 (M 72 (681 * k0 + 73 + 2 * i + 1)) ∧ M 75 (M 72 (681 * k0 + 73 + 2 * i + 1)) ≤ 1000000) := fun i i0 i1 => by
        rw [hM]
        obtain ⟨c1, c2⟩ := cx i i0 i1
        refine ⟨c1, fun e => ?_⟩
        obtain ⟨c3, c4⟩ := c2 e
        have c5 : 0 ≤ X (681 * k0 + 73 + 2 * i + 1) ∧ X (681 * k0 + 73 + 2 * i + 1) ≤ 10 := by
          rcases c1 with ⟨z, -⟩ | ⟨-, -, z⟩ | ⟨z, -⟩
          · omega
          · exact z
          · omega
        exact hE _ c5.1 c5.2 c3 c4
      obtain ⟨r, h', P', V', B', b0, b1, b2⟩ := ev_l (v := v) (T := T) (u := u) (G := G) hY hC (h := h) (ho := ho) (fs := [vr (some hc), vr (some ho), vr (some hb)]) (m := m) (q := fb (2 * w + 1)) (k0 := k0) (j0 := j) (fo := fo) ⟨g1, r2, rfl, g3, r4⟩ hm p3 hk0 (by omega) (by rw [hM]; exact j5) hT p1 cx2 (fb (2 * w + 1) - fb (2 * w)).toNat (fb (2 * w)) [] (N 30) (M 76) (M 77) (by omega) (by omega) (by simpa using p1) (fun x hx => by cases hx) (by rw [hM]; exact ty) rfl rfl rfl
      have c9 := cl99_b r
      rw [cl99_c b0] at b1
      rw [um_self] at b1
      have mm : um (um M 76 (M 76)) 77 (M 77) = M := by rw [um_self, um_self]
      rw [mm] at b2
      refine ⟨cl99 r, h', P', V', B', c9, fun F Q hF q => ?_, fun F Q q => ?_⟩
      · have gg := b1 F Q hF q
        have m1 : iMin (fb (2 * w + 1)) m = fb (2 * w + 1) := iMin_l (by omega)
        have m2 : iMax 0 (fb (2 * w)) = fb (2 * w) := iMax_r (by omega)
        unfold mX3_weigh
        rw [kh_p28_2, kt_c (by rw [hF h r2]; exact g1) r2]
        unfold mX8_codeBehind
        rw [kt_g (x := some hb) (by rw [hF h r2]; exact g1) r2 rfl, kt_r (by rw [hF hb r5]; exact g4) r5 (by omega) (by omega) (by omega)]
        dsimp only
        rw [kt_g (x := some ho) (by rw [hF h r2]; exact g1) r2 rfl, kt_n (by rw [hF ho r4]; exact g3) r4 (by omega) (by omega)]
        intro z1 hz1
        rw [kt_c (by rw [hF h r2]; exact g1) r2]
        unfold mX8_codeFrom
        rw [kt_g (x := some hb) (by rw [hF h r2]; exact g1) r2 rfl, kt_r (by rw [hF hb r5]; exact g4) r5 (by omega) (by omega) (by omega)]
        dsimp only
        intro z2 hz2
        rw [m1] at hz1
        rw [m2] at hz2
        subst hz1 hz2
        exact ⟨_, gg⟩
      · have x5 : M 72 (681 * k0 + 1 + 3 * j + 1) = fb (2 * w) := by rw [hM]; exact j4
        refine ⟨j.toNat + 1, says_y hk0 hw ?_ (by rw [hM]; exact j2) (fun i i0 i1 => ?_) ?_ j.toNat 0 (by omega) (by omega)⟩
        · rw [hM, n1]; omega
        · rw [hM]
          exact ⟨j3 i i0 i1, sb i i0 (by omega)⟩
        · unfold mX12_summedUp
          intro z1 hz1 z2 hz2
          subst hz1 hz2
          simp (disch := first | omega | decide) only [w32_id, ↓rh_rcv, ↓rh_g2, ↓rh_r72, ↓rh_w72, ↓be_y, ↓be_n, ↓bf_y, ↓bf_n, ↓bl_y, ↓bl_n, ↓bm_y, ↓bm_n, ↓bg_y, ↓bg_n, ↓bs_y, ↓bs_n, ↓bo_y, ↓bo_n, ↓bp_y, ↓bp_n, ↓forall_eq, ↓within_y, ↓within_n, ↓isIn_y, ↓isIn_n, and_true, true_and, and_self, us_at, us_ne, w32_id, um_eq, um_ne, um_um, uu_eq, uu_ne, uu_uu, vv_eq, vv_ne, vv_vv, ne_eq, not_false_eq_true, not_true_eq_false, reduceCtorEq, Int.reduceAdd, Int.reduceSub, Int.reduceMul, Int.reduceNeg, Nat.reduceEqDiff, or_true, true_or, true_implies, false_implies, Int.reduceLT, Int.reduceLE, Int.reduceEq, x5]
          refine ⟨_, b2 F _ ?_⟩
          rw [cut_s (by omega) (by omega) (by omega)]
          unfold cl99 at q
          exact q
end LA
