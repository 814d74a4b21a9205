def frn (N N' : Nat → Int → Int) : Prop := ∀ j, j ≠ 60 → j ≠ 61 → N' j = N j
def pw9 (k : Nat) : Int := if k = 0 then 0 else if k = 1 then 1 else if k = 2 then 9 else 81
section HI
variable {n P : Int} {v : Nat → Nat → Int} {T : Nat → Int → Option Nat} {u : Nat → Int} {A : Int → Int}
set_option maxHeartbeats 4000000 in
theorem his_b {h m : Int} (hh : 0 ≤ h ∧ h < 729) (hm : 0 ≤ m ∧ m ≤ 3) (hn : 0 ≤ n ∧ n ≤ 5) (hP : 0 ≤ P ∧ P ≤ 2147483647) (hz : ∀ a b, 0 ≤ a → a < n → 0 ≤ b → b < n → tb P (5 * a + b) = !zForb A a b) : ∀ (k : Nat) (j : Int) (s : std) (N : Nat → Int → Int) (M : Nat → Int → Int), j + k = m → 0 ≤ j → svl n s → rrep s (M 80) (M 81) → M 70 = A → jS (v 23 1) (v 23 2) (N 24) A → jC (N 15) (N 16) (N 17) (N 18) (N 19) A → jF (v 10 15) A → ∃ b N' M', (b = 0 ∨ b = 1) ∧ frn N N' ∧ frm M M' ∧ (∀ (F : hp) (Q : Int → hp → Prop), Q b (kh F v N' T) → mX11_fitsAllSeen_L24 Q (k + 1) 8 h P n (enc s) j (pw9 k) (kh F v N T)) ∧ (∀ (F : hp) (Q : Int → hp → Prop) (X : hp → Prop), (∀ F', mX12_isHistory_L20 Q (k + 1) 69 h m (j + 1) F' → X F') → Q b (rh F u M') → mX12_isSeenAt 69 j (rh F u M) (fun x5 F4 => (w32 x5 = 0 → Q 0 F4) ∧ (¬ w32 x5 = 0 → X F4))) := by
  intro k
  induction k with
  | zero =>
    intro j s N M hj h0 hs hr hA hS hC hF
    obtain ⟨b, b0, c1, r1⟩ := seen_b hs hn hS (m := j) (by omega)
    refine ⟨b, N, M, b0, fun _ _ _ => rfl, fun _ _ _ => rfl, fun F Q q => ?_, fun F Q X hX q => ?_⟩
    · have e : pw9 0 = 0 := rfl
      rw [mX11_fitsAllSeen_L24, e]
      simp (disch := first | omega | decide) only [w32_id, ↓kh_c8, ↓kh_g8_0, ↓kh_g8_1, ↓kh_g8_2, ↓kh_g8_3, ↓kh_g8_4, ↓kh_g8_5, ↓kh_g8_6, ↓kh_g8_7, ↓be_y, ↓be_n, ↓bf_y, ↓bf_n, ↓bl_y, ↓bl_n, ↓bm_y, ↓bm_n, ↓bg_y, ↓bg_n, ↓bs_y, ↓bs_n, ↓bo_y, ↓bo_n, ↓bp_y, ↓bp_n, ↓forall_eq, ↓within_y, ↓within_n, ↓isIn_y, ↓isIn_n, and_true, true_and, and_self, us_at, us_ne, w32_id, um_eq, um_ne, um_um, uu_eq, uu_ne, uu_uu, vv_eq, vv_ne, vv_vv, ne_eq, not_false_eq_true, not_true_eq_false, reduceCtorEq, Int.reduceAdd, Int.reduceSub, Int.reduceMul, Int.reduceNeg, Nat.reduceEqDiff, or_true, true_or, true_implies, false_implies, Int.reduceLT, Int.reduceLE, Int.reduceEq]
      exact c1 F v N T _ hS ⟨b0, q⟩
    · refine r1 F u M _ hr hA ?_
      rcases b0 with rfl | rfl
      · rw [be_y (by omega)]; exact q
      · rw [be_n (by omega)]
        refine hX _ ?_
        rw [mX12_isHistory_L20]
        simp (disch := first | omega | decide) only [w32_id, ↓rh_rcv, ↓rh_g0, ↓be_y, ↓be_n, ↓bf_y, ↓bf_n, ↓bl_y, ↓bl_n, ↓bm_y, ↓bm_n, ↓bg_y, ↓bg_n, ↓bs_y, ↓bs_n, ↓bo_y, ↓bo_n, ↓bp_y, ↓bp_n, ↓forall_eq, ↓within_y, ↓within_n, ↓isIn_y, ↓isIn_n, and_true, true_and, and_self, us_at, us_ne, w32_id, um_eq, um_ne, um_um, uu_eq, uu_ne, uu_uu, vv_eq, vv_ne, vv_vv, ne_eq, not_false_eq_true, not_true_eq_false, reduceCtorEq, Int.reduceAdd, Int.reduceSub, Int.reduceMul, Int.reduceNeg, Nat.reduceEqDiff, or_true, true_or, true_implies, false_implies, Int.reduceLT, Int.reduceLE, Int.reduceEq]
        exact q
  | succ k ih =>
    intro j s N M hj h0 hs hr hA hS hC hF
    have hk : k = 0 ∨ k = 1 ∨ k = 2 := by omega
    have pk9 : (k = 0 ∧ pw9 (k + 1) = 1 ∧ pw9 k = 0) ∨ (k = 1 ∧ pw9 (k + 1) = 9 ∧ pw9 k = 1) ∨ (k = 2 ∧ pw9 (k + 1) = 81 ∧ pw9 k = 9) := by
      rcases hk with rfl | rfl | rfl
      · exact .inl ⟨rfl, rfl, rfl⟩
      · exact .inr (.inl ⟨rfl, rfl, rfl⟩)
      · exact .inr (.inr ⟨rfl, rfl, rfl⟩)
    obtain ⟨b, b0, c1, r1⟩ := seen_b hs hn hS (m := j) (by omega)
    obtain ⟨dd, db, dc, dr⟩ : ∃ dd : Int, (0 ≤ dd ∧ dd < 9) ∧ (w32 (h.tdiv (pw9 (k + 1)))).tmod 9 = dd ∧ (∀ (F : hp) (Q : Int → hp → Prop), mX12_isHistory_J58 (fun o' a1' a2' a3' F' => mX12_isHistory_L20 Q (k + 1) o' a1' a2' a3' F') Q 69 h m (j + 1) dd F → mX12_isHistory_L20 Q (k + 1 + 1) 69 h m (j + 1) F) := by
      rcases pk9 with ⟨rfl, e1, e2⟩ | ⟨rfl, e1, e2⟩ | ⟨rfl, e1, e2⟩
      · refine ⟨h % 9, by omega, ?_, fun F Q q => ?_⟩
        · rw [e1, td hh.1, Int.ediv_one, w32_id (by omega) (by omega), tm hh.1]
        · rw [mX12_isHistory_L20]
          simp (disch := first | omega | decide) only [w32_id, ↓rh_rcv, ↓rh_g0, ↓be_y, ↓be_n, ↓bf_y, ↓bf_n, ↓bl_y, ↓bl_n, ↓bm_y, ↓bm_n, ↓bg_y, ↓bg_n, ↓bs_y, ↓bs_n, ↓bo_y, ↓bo_n, ↓bp_y, ↓bp_n, ↓forall_eq, ↓within_y, ↓within_n, ↓isIn_y, ↓isIn_n, and_true, true_and, and_self, us_at, us_ne, w32_id, um_eq, um_ne, um_um, uu_eq, uu_ne, uu_uu, vv_eq, vv_ne, vv_vv, ne_eq, not_false_eq_true, not_true_eq_false, reduceCtorEq, Int.reduceAdd, Int.reduceSub, Int.reduceMul, Int.reduceNeg, Nat.reduceEqDiff, or_true, true_or, true_implies, false_implies, Int.reduceLT, Int.reduceLE, Int.reduceEq, tm]
          exact q
      · refine ⟨h / 9 % 9, by omega, ?_, fun F Q q => ?_⟩
        · rw [e1, td hh.1, w32_id (by omega) (by omega), tm (by omega)]
        · rw [mX12_isHistory_L20]
          simp (disch := first | omega | decide) only [w32_id, ↓rh_rcv, ↓rh_g0, ↓be_y, ↓be_n, ↓bf_y, ↓bf_n, ↓bl_y, ↓bl_n, ↓bm_y, ↓bm_n, ↓bg_y, ↓bg_n, ↓bs_y, ↓bs_n, ↓bo_y, ↓bo_n, ↓bp_y, ↓bp_n, ↓forall_eq, ↓within_y, ↓within_n, ↓isIn_y, ↓isIn_n, and_true, true_and, and_self, us_at, us_ne, w32_id, um_eq, um_ne, um_um, uu_eq, uu_ne, uu_uu, vv_eq, vv_ne, vv_vv, ne_eq, not_false_eq_true, not_true_eq_false, reduceCtorEq, Int.reduceAdd, Int.reduceSub, Int.reduceMul, Int.reduceNeg, Nat.reduceEqDiff, or_true, true_or, true_implies, false_implies, Int.reduceLT, Int.reduceLE, Int.reduceEq, tm, td]
          exact q
      · refine ⟨h / 81, by omega, ?_, fun F Q q => ?_⟩
        · rw [e1, td hh.1, w32_id (by omega) (by omega), tm (by omega)]
          omega
        · rw [mX12_isHistory_L20]
          simp (disch := first | omega | decide) only [w32_id, ↓rh_rcv, ↓rh_g0, ↓be_y, ↓be_n, ↓bf_y, ↓bf_n, ↓bl_y, ↓bl_n, ↓bm_y, ↓bm_n, ↓bg_y, ↓bg_n, ↓bs_y, ↓bs_n, ↓bo_y, ↓bo_n, ↓bp_y, ↓bp_n, ↓forall_eq, ↓within_y, ↓within_n, ↓isIn_y, ↓isIn_n, and_true, true_and, and_self, us_at, us_ne, w32_id, um_eq, um_ne, um_um, uu_eq, uu_ne, uu_uu, vv_eq, vv_ne, vv_vv, ne_eq, not_false_eq_true, not_true_eq_false, reduceCtorEq, Int.reduceAdd, Int.reduceSub, Int.reduceMul, Int.reduceNeg, Nat.reduceEqDiff, or_true, true_or, true_implies, false_implies, Int.reduceLT, Int.reduceLE, Int.reduceEq, tm, td]
          exact q
    have p0 : 0 < pw9 (k + 1) ∧ pw9 (k + 1) ≤ 81 := by omega
    have p9 : (pw9 (k + 1)).tdiv 9 = pw9 k := by
      rw [td (by omega)]
      omega
    rcases b0 with rfl | rfl
    · refine ⟨0, N, M, .inl rfl, fun _ _ _ => rfl, fun _ _ _ => rfl, fun F Q q => ?_, fun F Q X hX q => ?_⟩
      · rw [mX11_fitsAllSeen_L24]
        simp (disch := first | omega | decide) only [w32_id, ↓kh_c8, ↓kh_g8_0, ↓kh_g8_1, ↓kh_g8_2, ↓kh_g8_3, ↓kh_g8_4, ↓kh_g8_5, ↓kh_g8_6, ↓kh_g8_7, ↓be_y, ↓be_n, ↓bf_y, ↓bf_n, ↓bl_y, ↓bl_n, ↓bm_y, ↓bm_n, ↓bg_y, ↓bg_n, ↓bs_y, ↓bs_n, ↓bo_y, ↓bo_n, ↓bp_y, ↓bp_n, ↓forall_eq, ↓within_y, ↓within_n, ↓isIn_y, ↓isIn_n, and_true, true_and, and_self, us_at, us_ne, w32_id, um_eq, um_ne, um_um, uu_eq, uu_ne, uu_uu, vv_eq, vv_ne, vv_vv, ne_eq, not_false_eq_true, not_true_eq_false, reduceCtorEq, Int.reduceAdd, Int.reduceSub, Int.reduceMul, Int.reduceNeg, Nat.reduceEqDiff, or_true, true_or, true_implies, false_implies, Int.reduceLT, Int.reduceLE, Int.reduceEq]
        refine c1 F v N T _ hS ?_
        rw [be_y (by omega)]
        exact q
      · refine r1 F u M _ hr hA ?_
        rw [be_y (by omega)]; exact q
    obtain ⟨U, W, w1, w2⟩ := tops_c (v := v) (N := N) (T := T) hs hn
    have mc : ∀ (F : hp) (Q : Int → hp → Prop) (x : Int), ((stp P s dd = none ∧ x = -1) ∨ ∃ s', stp P s dd = some s' ∧ x = enc s') → Q x (kh F v (um (um N 60 U) 61 W) T) → mX4_moved 56 (enc s) dd P (kh F v (um (um N 60 U) 61 W) T) Q := fun F Q x hx q => by
      refine moved_c hs hn.2 hP w1 db ?_
      rcases hx with ⟨e, rfl⟩ | ⟨s', e, rfl⟩
      · rw [e]; exact q
      · rw [e]; exact q
    obtain ⟨b2, M1, k1, k2⟩ := shunt_r (u := u) (M := M) (v := v) (N := N) hs hn hr (by rw [hA]; exact hC) (by rw [hA]; exact hF) (by rw [hA]; exact hz) (f := dd / 3) (t := dd % 3) (by omega) (by omega)
    have fN : frn N (um (um N 60 U) 61 W) := fun j a b => by rw [um_ne b, um_ne a]
    have cls : ∀ (F : hp) (Q : Int → hp → Prop) (x : Int), ((stp P s dd = none ∧ x = -1) ∨ ∃ s', stp P s dd = some s' ∧ x = enc s') → ((w32 x = (-1) → Q 0 (kh F v (um (um N 60 U) 61 W) T)) ∧ (¬ w32 x = (-1) → mX11_fitsAllSeen_L24 Q (k + 1) 8 h P n x (j + 1) (pw9 k) (kh F v (um (um N 60 U) 61 W) T))) → mX11_fitsAllSeen_L24 Q (k + 1 + 1) 8 h P n (enc s) j (pw9 (k + 1)) (kh F v N T) := fun F Q x hx q => by
      rw [mX11_fitsAllSeen_L24]
      simp (disch := first | omega | decide) only [w32_id, ↓kh_c8, ↓kh_g8_0, ↓kh_g8_1, ↓kh_g8_2, ↓kh_g8_3, ↓kh_g8_4, ↓kh_g8_5, ↓kh_g8_6, ↓kh_g8_7, ↓be_y, ↓be_n, ↓bf_y, ↓bf_n, ↓bl_y, ↓bl_n, ↓bm_y, ↓bm_n, ↓bg_y, ↓bg_n, ↓bs_y, ↓bs_n, ↓bo_y, ↓bo_n, ↓bp_y, ↓bp_n, ↓forall_eq, ↓within_y, ↓within_n, ↓isIn_y, ↓isIn_n, and_true, true_and, and_self, us_at, us_ne, w32_id, um_eq, um_ne, um_um, uu_eq, uu_ne, uu_uu, vv_eq, vv_ne, vv_vv, ne_eq, not_false_eq_true, not_true_eq_false, reduceCtorEq, Int.reduceAdd, Int.reduceSub, Int.reduceMul, Int.reduceNeg, Nat.reduceEqDiff, or_true, true_or, true_implies, false_implies, Int.reduceLT, Int.reduceLE, Int.reduceEq]
      refine c1 F v N T _ hS ?_
      rw [be_n (by omega), kh_g8_4]
      refine ⟨by omega, ?_⟩
      rw [kh_c56]
      unfold mX4_codeBehind
      rw [kh_c56]
      refine w2 F _ ?_
      rw [kh_c56, dc]
      refine mc F _ x hx ?_
      simp only [forall_eq, p9]
      exact q
    rcases k1 with ⟨rfl, g1, rfl⟩ | ⟨rfl, g1, g2, g3⟩
    · have e := stp_n hs hn.2 db g1
      refine ⟨0, _, M1, .inl rfl, fN, fun _ _ _ => rfl, fun F Q q => cls F Q (-1) (.inl ⟨e, rfl⟩) ?_, fun F Q X hX q => ?_⟩
      · rw [be_y (by omega)]; exact q
      · refine r1 F u M1 _ hr hA ?_
        rw [be_n (by omega)]
        refine hX _ ?_
        refine dr _ _ ?_
        simp (disch := first | omega | decide) only [mX12_isHistory_J58, ↓rh_rcv, ↓rh_g0, ↓be_y, ↓be_n, ↓bf_y, ↓bf_n, ↓bl_y, ↓bl_n, ↓bm_y, ↓bm_n, ↓bg_y, ↓bg_n, ↓bs_y, ↓bs_n, ↓bo_y, ↓bo_n, ↓bp_y, ↓bp_n, ↓forall_eq, ↓within_y, ↓within_n, ↓isIn_y, ↓isIn_n, and_true, true_and, and_self, us_at, us_ne, w32_id, um_eq, um_ne, um_um, uu_eq, uu_ne, uu_uu, vv_eq, vv_ne, vv_vv, ne_eq, not_false_eq_true, not_true_eq_false, reduceCtorEq, Int.reduceAdd, Int.reduceSub, Int.reduceMul, Int.reduceNeg, Nat.reduceEqDiff, or_true, true_or, true_implies, false_implies, Int.reduceLT, Int.reduceLE, Int.reduceEq, tm, td]
        refine k2 F _ ?_
        rw [be_y (by omega)]
        exact q
    · have e := stp_y hs hn.2 db g1
      obtain ⟨s1, -, -⟩ := mo_all hs hn.2 (f := dd / 3) (t := dd % 3) (by omega) (by omega) g1.1 g1.2.1
      have eb := enc_b s1 hn.2
      obtain ⟨b', N', M', i0, i1, i2, i3, i4⟩ := ih (j + 1) _ (um (um N 60 U) 61 W) M1 (by omega) (by omega) s1 g2 (by rw [g3 70 (by decide) (by decide)]; exact hA) hS hC hF
      refine ⟨b', N', M', i0, fun j a b => by rw [i1 j a b, fN j a b], fun j a b => by rw [i2 j a b, g3 j a b], fun F Q q => cls F Q _ (.inr ⟨_, e, rfl⟩) ?_, fun F Q X hX q => ?_⟩
      · rw [be_n (by omega)]; exact i3 F Q q
      · refine r1 F u M _ hr hA ?_
        rw [be_n (by omega)]
        refine hX _ ?_
        refine dr _ _ ?_
        simp (disch := first | omega | decide) only [mX12_isHistory_J58, ↓rh_rcv, ↓rh_g0, ↓be_y, ↓be_n, ↓bf_y, ↓bf_n, ↓bl_y, ↓bl_n, ↓bm_y, ↓bm_n, ↓bg_y, ↓bg_n, ↓bs_y, ↓bs_n, ↓bo_y, ↓bo_n, ↓bp_y, ↓bp_n, ↓forall_eq, ↓within_y, ↓within_n, ↓isIn_y, ↓isIn_n, and_true, true_and, and_self, us_at, us_ne, w32_id, um_eq, um_ne, um_um, uu_eq, uu_ne, uu_uu, vv_eq, vv_ne, vv_vv, ne_eq, not_false_eq_true, not_true_eq_false, reduceCtorEq, Int.reduceAdd, Int.reduceSub, Int.reduceMul, Int.reduceNeg, Nat.reduceEqDiff, or_true, true_or, true_implies, false_implies, Int.reduceLT, Int.reduceLE, Int.reduceEq, tm, td]
        refine k2 F _ ?_
        rw [be_n (by omega), rh_rcv]
        exact i4 F Q _ (fun _ g => g) q
end HI
