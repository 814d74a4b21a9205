def rstq (tk plc bh : Nat → Int) (cn : Nat) (mo : Bool) (L : Int) (W : Int → Int) (j : Nat) (pl : List Int) (o : List (Int × Int)) (w : Bool) (u : Nat → Int) (M : Nat → Int → Int) : Prop := rtk tk plc bh j u ∧ pls pl u M ∧ ots o u M ∧ u 18 = (if w then 1 else 0) ∧ u 14 = (if mo then 0 else 1) ∧ (wfp pl ∧ cnm pl ≤ 8 ∧ o.length + pl.length ≤ j ∧ j ≤ cn) ∧ u 4 = L ∧ M 73 = W
section RS
variable {tk plc bh : Nat → Int} {cn : Nat} {mo : Bool} {L : Int} {W : Int → Int} {u : Nat → Int} {M : Nat → Int → Int} {F : hp} {pl : List Int} {o : List (Int × Int)} {j : Nat} {w : Bool}
theorem frp_t {u u' u'' : Nat → Int} (a : frp u u') (b : frp u' u'') : frp u u'' := fun k h1 h2 h3 h4 h5 h6 h7 h8 h9 => by rw [b k h1 h2 h3 h4 h5 h6 h7 h8 h9, a k h1 h2 h3 h4 h5 h6 h7 h8 h9]
theorem frp_q {u u' : Nat → Int} (a : frq u u') : frp u u' := fun k h1 h2 h3 h4 h5 h6 h7 h8 h9 => a k h6 h7 h8
theorem frp_u {u u' : Nat → Int} (a : fru u u') : frp u u' := fun k h1 h2 h3 h4 h5 h6 h7 h8 h9 => a k (by omega)
theorem frp_w {u : Nat → Int} {i : Nat} {x : Int} (h : i = 13 ∨ i = 16 ∨ i = 17 ∨ i = 18) : frp u (uu u i x) := fun k h1 h2 h3 h4 h5 h6 h7 h8 h9 => uu_ne (by omega)
theorem ots_u {u u' : Nat → Int} (e1 : u' 13 = u 13) (e2 : u' 12 = u 12) (h : ots o u M) : ots o u' M := by
  obtain ⟨a, b, c⟩ := h
  exact ⟨by rw [e1]; exact a, by rw [e2]; exact b, fun i p hi => by rw [e2]; exact c i p hi⟩
theorem ots_m {M M' : Nat → Int → Int} (e : M' 72 = M 72) (h : ots o u M) : ots o u M' := by
  obtain ⟨a, b, c⟩ := h
  exact ⟨a, b, fun i p hi => by rw [e]; exact c i p hi⟩
theorem pls_u {u u' : Nat → Int} (e1 : u' 16 = u 16) (e2 : u' 17 = u 17) (h : pls pl u M) : pls pl u' M := by
  obtain ⟨a, b, c⟩ := h
  exact ⟨by rw [e1]; exact a, by rw [e2]; exact b, c⟩
theorem rtk_u {u u' : Nat → Int} (e : ∀ k, 7 ≤ k → k ≤ 11 → u' k = u k) (h : rtk tk plc bh j u) : rtk tk plc bh j u' := by
  unfold rtk at h ⊢
  rw [e 7 (by decide) (by decide), e 8 (by decide) (by decide), e 9 (by decide) (by decide), e 10 (by decide) (by decide), e 11 (by decide) (by decide)]
  exact h
-- a number or a name is written, and on
theorem oneq_r (nx : ntx tk plc bh cn L W) (cb : cn ≤ 300) (a b : Int) (h : rstq tk plc bh cn mo L W j pl o false u M) (hj : j < cn) : ∃ u' M', rstq tk plc bh cn mo L W (j + 1) (stl 7 pl (o ++ [(a, b)])).1 (stl 7 pl (o ++ [(a, b)])).2 true u' M' ∧ frp u u' ∧ frX (u 12) M M' ∧ ∀ (F : hp) (Q : Int → hp → Prop), Q 0 (rh F u' M') → mX12_beginOne_J81 Q 69 (some 69) a b (rh F u M) := by
  obtain ⟨h1, h2, h3, h4, h5, ⟨h6, h7, h8, h9⟩, h10, h11⟩ := h
  obtain ⟨M1, a1, a2, a3, a4⟩ := emit_r (a := a) (b := b) (Q := fun _ => True) h3 (by omega)
  obtain ⟨u2, b1, b2, b3⟩ := nx j (uu u 13 ((o.length : Int) + 1)) M1 hj (by rw [uu_ne (by decide)]; exact h10) (by rw [a2.1 73 (by decide) (by decide)]; exact h11) (rtk_u (fun k k1 k2 => uu_ne (by omega)) h1)
  have p2 : pls pl (uu u2 18 1) M1 := ⟨by rw [uu_ne (by decide), b2 16 (by decide), uu_ne (by decide)]; exact h2.1, by rw [uu_ne (by decide), b2 17 (by decide), uu_ne (by decide)]; exact h2.2.1, by rw [a3]; exact h2.2.2⟩
  have o2 : ots (o ++ [(a, b)]) (uu u2 18 1) M1 := ots_u (by rw [uu_ne (by decide), b2 13 (by decide)]) (by rw [uu_ne (by decide), b2 12 (by decide)]) a1
  have ll : (o ++ [(a, b)]).length = o.length + 1 := by rw [List.length_append, List.length_singleton]
  obtain ⟨u3, M3, c1, c2, c3, c4, c5, c6⟩ := settle_r (l := 7) (by omega) pl (o ++ [(a, b)]) (uu u2 18 1) M1 h6 h7 (by omega) p2 o2
  have e12 : (uu u2 18 1) 12 = u 12 := by rw [uu_ne (by decide), b2 12 (by decide), uu_ne (by decide)]
  rw [e12] at c4
  obtain ⟨s1, s2, s3, s4⟩ := stl_i (l := 7) pl (o ++ [(a, b)]) h6
  refine ⟨u3, M3, ⟨?_, c1, c2, ?_, ?_, ⟨s1, by omega, by omega, by omega⟩, ?_, ?_⟩, ?_, frX_t a2 c4, fun F Q q => ?_⟩
  · exact rtk_u (fun k k1 k2 => by rw [c3 k (by omega) (by omega) (by omega), uu_ne (by omega)]) b1
  · rw [c3 18 (by decide) (by decide) (by decide), uu_eq]; rfl
  · rw [c3 14 (by decide) (by decide) (by decide), uu_ne (by decide), b2 14 (by decide), uu_ne (by decide)]; exact h5
  · rw [c3 4 (by decide) (by decide) (by decide), uu_ne (by decide), b2 4 (by decide), uu_ne (by decide)]; exact h10
  · rw [c4.1 73 (by decide) (by decide), a2.1 73 (by decide) (by decide)]; exact h11
  · exact frp_t (frp_t (frp_t (frp_w (.inl rfl)) (frp_u b2)) (frp_w (by omega))) (frp_q c3)
  · simp (disch := first | omega | decide) only [mX12_beginOne_J81, ↓rh_rcv, ↓rh_g18, ↓rh_p18, ↓be_y, ↓be_n, ↓bf_y, ↓bf_n, ↓bl_y, ↓bl_n, ↓bm_y, ↓bm_n, ↓bg_y, ↓bg_n, ↓bs_y, ↓bs_n, ↓bo_y, ↓bo_n, ↓bp_y, ↓bp_n, ↓forall_eq, ↓within_y, ↓within_n, ↓isIn_y, ↓isIn_n, and_true, true_and, and_self, us_at, us_ne, w32_id, um_eq, um_ne, um_um, uu_eq, uu_ne, uu_uu, vv_eq, vv_ne, vv_vv, ne_eq, not_false_eq_true, not_true_eq_false, reduceCtorEq, Int.reduceAdd, Int.reduceSub, Int.reduceMul, Int.reduceNeg, Nat.reduceEqDiff, or_true, true_or, true_implies, false_implies, Int.reduceLT, Int.reduceLE, Int.reduceEq]
    refine a4 F _ ?_
    simp (disch := first | omega | decide) only [w32_id, ↓rh_rcv, ↓rh_g18, ↓rh_p18, ↓be_y, ↓be_n, ↓bf_y, ↓bf_n, ↓bl_y, ↓bl_n, ↓bm_y, ↓bm_n, ↓bg_y, ↓bg_n, ↓bs_y, ↓bs_n, ↓bo_y, ↓bo_n, ↓bp_y, ↓bp_n, ↓forall_eq, ↓within_y, ↓within_n, ↓isIn_y, ↓isIn_n, and_true, true_and, and_self, us_at, us_ne, w32_id, um_eq, um_ne, um_um, uu_eq, uu_ne, uu_uu, vv_eq, vv_ne, vv_vv, ne_eq, not_false_eq_true, not_true_eq_false, reduceCtorEq, Int.reduceAdd, Int.reduceSub, Int.reduceMul, Int.reduceNeg, Nat.reduceEqDiff, or_true, true_or, true_implies, false_implies, Int.reduceLT, Int.reduceLE, Int.reduceEq]
    refine b3 F _ ?_
    simp (disch := first | omega | decide) only [mX12_settle, ↓rh_rcv, ↓rh_g18, ↓rh_p18, ↓be_y, ↓be_n, ↓bf_y, ↓bf_n, ↓bl_y, ↓bl_n, ↓bm_y, ↓bm_n, ↓bg_y, ↓bg_n, ↓bs_y, ↓bs_n, ↓bo_y, ↓bo_n, ↓bp_y, ↓bp_n, ↓forall_eq, ↓within_y, ↓within_n, ↓isIn_y, ↓isIn_n, and_true, true_and, and_self, us_at, us_ne, w32_id, um_eq, um_ne, um_um, uu_eq, uu_ne, uu_uu, vv_eq, vv_ne, vv_vv, ne_eq, not_false_eq_true, not_true_eq_false, reduceCtorEq, Int.reduceAdd, Int.reduceSub, Int.reduceMul, Int.reduceNeg, Nat.reduceEqDiff, or_true, true_or, true_implies, false_implies, Int.reduceLT, Int.reduceLE, Int.reduceEq]
    exact ⟨_, c6 F _ q⟩
-- one more is open
theorem opd_r (nx : ntx tk plc bh cn L W) (cb : cn ≤ 300) {x : Int} (hx : isM x ∧ 0 ≤ x ∧ x ≤ 43) (h : rstq tk plc bh cn mo L W j pl o false u M) (hj : j < cn) (hc : cnm pl < 8) : ∃ u' M', rstq tk plc bh cn mo L W (j + 1) (x :: pl) o false u' M' ∧ frp u u' ∧ frX (u 12) M M' ∧ ∀ (F : hp) (Q : Int → hp → Prop), Q 0 (rh F u' M') → mX12_opened 69 x (rh F u M) Q := by
  obtain ⟨h1, h2, h3, h4, h5, ⟨h6, h7, h8, h9⟩, h10, h11⟩ := h
  have len := wfp_len h6 h7
  obtain ⟨u2, b1, b2, b3⟩ := nx j (uu (uu u 17 ((cnm pl : Int) + 1)) 16 ((pl.length : Int) + 1)) (um M 74 (us (M 74) pl.length x)) hj (by rw [uu_ne (by decide), uu_ne (by decide)]; exact h10) (by rw [um_ne (by decide)]; exact h11) (rtk_u (fun k k1 k2 => by rw [uu_ne (by omega), uu_ne (by omega)]) h1)
  refine ⟨u2, um M 74 (us (M 74) pl.length x), ⟨b1, ⟨?_, ?_, ?_⟩, ?_, ?_, ?_, ⟨⟨hx.2, .inl hx.1, h6⟩, ?_, ?_, by omega⟩, ?_, ?_⟩, ?_, ⟨fun j _ j2 => um_ne j2, fun i _ => by rw [um_ne (by decide)]⟩, fun F Q q => ?_⟩
  · rw [b2 16 (by decide), uu_eq]; simp only [List.length_cons]; omega
  · rw [b2 17 (by decide), uu_ne (by decide), uu_eq, cnm_y hx.1]; omega
  · rw [um_eq]; exact ⟨us_eq _ _ _, pil_us pl (by omega) h2.2.2⟩
  · exact ots_m (um_ne (by decide)) (ots_u (by rw [b2 13 (by decide), uu_ne (by decide), uu_ne (by decide)]) (by rw [b2 12 (by decide), uu_ne (by decide), uu_ne (by decide)]) h3)
  · rw [b2 18 (by decide), uu_ne (by decide), uu_ne (by decide)]; exact h4
  · rw [b2 14 (by decide), uu_ne (by decide), uu_ne (by decide)]; exact h5
  · rw [cnm_y hx.1]; omega
  · simp only [List.length_cons]; omega
  · rw [b2 4 (by decide), uu_ne (by decide), uu_ne (by decide)]; exact h10
  · rw [um_ne (by decide)]; exact h11
  · exact frp_t (frp_t (frp_w (by omega)) (frp_w (by omega))) (frp_u b2)
  · have e16 := h2.1
    have e17 := h2.2.1
    simp (disch := first | omega | decide) only [mX12_opened, ↓rh_rcv, ↓rh_g15, ↓rh_g16, ↓rh_p16, ↓rh_g17, ↓rh_p17, ↓rh_r74, ↓rh_w74, ↓be_y, ↓be_n, ↓bf_y, ↓bf_n, ↓bl_y, ↓bl_n, ↓bm_y, ↓bm_n, ↓bg_y, ↓bg_n, ↓bs_y, ↓bs_n, ↓bo_y, ↓bo_n, ↓bp_y, ↓bp_n, ↓forall_eq, ↓within_y, ↓within_n, ↓isIn_y, ↓isIn_n, and_true, true_and, and_self, us_at, us_ne, w32_id, um_eq, um_ne, um_um, uu_eq, uu_ne, uu_uu, vv_eq, vv_ne, vv_vv, ne_eq, not_false_eq_true, not_true_eq_false, reduceCtorEq, Int.reduceAdd, Int.reduceSub, Int.reduceMul, Int.reduceNeg, Nat.reduceEqDiff, or_true, true_or, true_implies, false_implies, Int.reduceLT, Int.reduceLE, Int.reduceEq, e16, e17]
    exact b3 F _ q
theorem opd_8 {x : Int} (h : pls pl u M) (hc : cnm pl = 8) {Q : Int → hp → Prop} (q : Q 3 (rh F u M)) : mX12_opened 69 x (rh F u M) Q := by
  have e17 := h.2.1
  simp (disch := first | omega | decide) only [mX12_opened, ↓rh_rcv, ↓rh_g17, ↓rh_p17, ↓be_y, ↓be_n, ↓bf_y, ↓bf_n, ↓bl_y, ↓bl_n, ↓bm_y, ↓bm_n, ↓bg_y, ↓bg_n, ↓bs_y, ↓bs_n, ↓bo_y, ↓bo_n, ↓bp_y, ↓bp_n, ↓forall_eq, ↓within_y, ↓within_n, ↓isIn_y, ↓isIn_n, and_true, true_and, and_self, us_at, us_ne, w32_id, um_eq, um_ne, um_um, uu_eq, uu_ne, uu_uu, vv_eq, vv_ne, vv_vv, ne_eq, not_false_eq_true, not_true_eq_false, reduceCtorEq, Int.reduceAdd, Int.reduceSub, Int.reduceMul, Int.reduceNeg, Nat.reduceEqDiff, or_true, true_or, true_implies, false_implies, Int.reduceLT, Int.reduceLE, Int.reduceEq, e17]
  exact q
theorem isOf_r (h5 : u 14 = (if mo then 0 else 1)) {c : Int} (hc : 0 ≤ c ∧ c ≤ 10) {b : Int} (hb : (b = 1 ∧ okn mo c) ∨ (b = 0 ∧ ¬ okn mo c)) {Q : Int → hp → Prop} (q : Q b (rh F u M)) : mX12_isOf 69 c (rh F u M) Q := by
  by_cases d : c < 6
  · have b1 : b = 1 := by
      rcases hb with hb | hb
      · exact hb.1
      · exact absurd ⟨fun _ => by omega, fun _ => by omega⟩ hb.2
    subst b1
    simp (disch := first | omega | decide) only [mX12_isOf, mX12_isOf_J30, ↓rh_rcv, ↓rh_g14, ↓rh_p14, ↓be_y, ↓be_n, ↓bf_y, ↓bf_n, ↓bl_y, ↓bl_n, ↓bm_y, ↓bm_n, ↓bg_y, ↓bg_n, ↓bs_y, ↓bs_n, ↓bo_y, ↓bo_n, ↓bp_y, ↓bp_n, ↓forall_eq, ↓within_y, ↓within_n, ↓isIn_y, ↓isIn_n, and_true, true_and, and_self, us_at, us_ne, w32_id, um_eq, um_ne, um_um, uu_eq, uu_ne, uu_uu, vv_eq, vv_ne, vv_vv, ne_eq, not_false_eq_true, not_true_eq_false, reduceCtorEq, Int.reduceAdd, Int.reduceSub, Int.reduceMul, Int.reduceNeg, Nat.reduceEqDiff, or_true, true_or, true_implies, false_implies, Int.reduceLT, Int.reduceLE, Int.reduceEq]
    exact q
  · cases mo with
    | true =>
      have h5 : u 14 = 0 := h5
      by_cases d2 : c < 9
      · have b1 : b = 1 := by
          rcases hb with hb | hb
          · exact hb.1
          · exact absurd ⟨fun _ => by omega, fun t => absurd t (by decide)⟩ hb.2
        subst b1
        simp (disch := first | omega | decide) only [mX12_isOf, mX12_isOf_J30, ↓rh_rcv, ↓rh_g14, ↓rh_p14, ↓be_y, ↓be_n, ↓bf_y, ↓bf_n, ↓bl_y, ↓bl_n, ↓bm_y, ↓bm_n, ↓bg_y, ↓bg_n, ↓bs_y, ↓bs_n, ↓bo_y, ↓bo_n, ↓bp_y, ↓bp_n, ↓forall_eq, ↓within_y, ↓within_n, ↓isIn_y, ↓isIn_n, and_true, true_and, and_self, us_at, us_ne, w32_id, um_eq, um_ne, um_um, uu_eq, uu_ne, uu_uu, vv_eq, vv_ne, vv_vv, ne_eq, not_false_eq_true, not_true_eq_false, reduceCtorEq, Int.reduceAdd, Int.reduceSub, Int.reduceMul, Int.reduceNeg, Nat.reduceEqDiff, or_true, true_or, true_implies, false_implies, Int.reduceLT, Int.reduceLE, Int.reduceEq, h5]
        exact q
      · have b1 : b = 0 := by
          rcases hb with hb | hb
          · have := hb.2.1 rfl; omega
          · exact hb.1
        subst b1
        simp (disch := first | omega | decide) only [mX12_isOf, mX12_isOf_J30, ↓rh_rcv, ↓rh_g14, ↓rh_p14, ↓be_y, ↓be_n, ↓bf_y, ↓bf_n, ↓bl_y, ↓bl_n, ↓bm_y, ↓bm_n, ↓bg_y, ↓bg_n, ↓bs_y, ↓bs_n, ↓bo_y, ↓bo_n, ↓bp_y, ↓bp_n, ↓forall_eq, ↓within_y, ↓within_n, ↓isIn_y, ↓isIn_n, and_true, true_and, and_self, us_at, us_ne, w32_id, um_eq, um_ne, um_um, uu_eq, uu_ne, uu_uu, vv_eq, vv_ne, vv_vv, ne_eq, not_false_eq_true, not_true_eq_false, reduceCtorEq, Int.reduceAdd, Int.reduceSub, Int.reduceMul, Int.reduceNeg, Nat.reduceEqDiff, or_true, true_or, true_implies, false_implies, Int.reduceLT, Int.reduceLE, Int.reduceEq, h5]
        exact q
    | false =>
      have h5 : u 14 = 1 := h5
      by_cases d2 : c < 9
      · have b1 : b = 0 := by
          rcases hb with hb | hb
          · have := hb.2.2 rfl; omega
          · exact hb.1
        subst b1
        simp (disch := first | omega | decide) only [mX12_isOf, mX12_isOf_J30, ↓rh_rcv, ↓rh_g14, ↓rh_p14, ↓be_y, ↓be_n, ↓bf_y, ↓bf_n, ↓bl_y, ↓bl_n, ↓bm_y, ↓bm_n, ↓bg_y, ↓bg_n, ↓bs_y, ↓bs_n, ↓bo_y, ↓bo_n, ↓bp_y, ↓bp_n, ↓forall_eq, ↓within_y, ↓within_n, ↓isIn_y, ↓isIn_n, and_true, true_and, and_self, us_at, us_ne, w32_id, um_eq, um_ne, um_um, uu_eq, uu_ne, uu_uu, vv_eq, vv_ne, vv_vv, ne_eq, not_false_eq_true, not_true_eq_false, reduceCtorEq, Int.reduceAdd, Int.reduceSub, Int.reduceMul, Int.reduceNeg, Nat.reduceEqDiff, or_true, true_or, true_implies, false_implies, Int.reduceLT, Int.reduceLE, Int.reduceEq, h5]
        exact q
      · have b1 : b = 1 := by
          rcases hb with hb | hb
          · exact hb.1
          · exact absurd ⟨fun t => absurd t (by decide), fun _ => by omega⟩ hb.2
        subst b1
        simp (disch := first | omega | decide) only [mX12_isOf, mX12_isOf_J30, ↓rh_rcv, ↓rh_g14, ↓rh_p14, ↓be_y, ↓be_n, ↓bf_y, ↓bf_n, ↓bl_y, ↓bl_n, ↓bm_y, ↓bm_n, ↓bg_y, ↓bg_n, ↓bs_y, ↓bs_n, ↓bo_y, ↓bo_n, ↓bp_y, ↓bp_n, ↓forall_eq, ↓within_y, ↓within_n, ↓isIn_y, ↓isIn_n, and_true, true_and, and_self, us_at, us_ne, w32_id, um_eq, um_ne, um_um, uu_eq, uu_ne, uu_uu, vv_eq, vv_ne, vv_vv, ne_eq, not_false_eq_true, not_true_eq_false, reduceCtorEq, Int.reduceAdd, Int.reduceSub, Int.reduceMul, Int.reduceNeg, Nat.reduceEqDiff, or_true, true_or, true_implies, false_implies, Int.reduceLT, Int.reduceLE, Int.reduceEq, h5]
        exact q
-- a token that is no number and no name
theorem bg_39 (h1 : rtk tk plc bh j u) (c1 : tk j < 100) (c2 : ¬ (0 ≤ tk j ∧ tk j ≤ 10)) {Q : Int → hp → Prop} (q : mX12_beginOne_J39 Q 69 (-1) (rh F u M)) : mX12_beginOne 69 (rh F u M) Q := by
  have tt := tkr_t h1.2.2
  have n1 : ¬ u 9 = 1 := fun t => by have := (tkr_1 h1.2.2).1 t; omega
  simp (disch := first | omega | decide) only [mX12_beginOne, mX12_beginOne_J20, ↓rh_rcv, ↓rh_g9, ↓rh_p9, ↓be_y, ↓be_n, ↓bf_y, ↓bf_n, ↓bl_y, ↓bl_n, ↓bm_y, ↓bm_n, ↓bg_y, ↓bg_n, ↓bs_y, ↓bs_n, ↓bo_y, ↓bo_n, ↓bp_y, ↓bp_n, ↓forall_eq, ↓within_y, ↓within_n, ↓isIn_y, ↓isIn_n, and_true, true_and, and_self, us_at, us_ne, w32_id, um_eq, um_ne, um_um, uu_eq, uu_ne, uu_uu, vv_eq, vv_ne, vv_vv, ne_eq, not_false_eq_true, not_true_eq_false, reduceCtorEq, Int.reduceAdd, Int.reduceSub, Int.reduceMul, Int.reduceNeg, Nat.reduceEqDiff, or_true, true_or, true_implies, false_implies, Int.reduceLT, Int.reduceLE, Int.reduceEq]
  refine nameo_r h1.2.2 ?_
  rw [if_neg c2]
  simp (disch := first | omega | decide) only [w32_id, ↓rh_rcv, ↓rh_g9, ↓rh_p9, ↓be_y, ↓be_n, ↓bf_y, ↓bf_n, ↓bl_y, ↓bl_n, ↓bm_y, ↓bm_n, ↓bg_y, ↓bg_n, ↓bs_y, ↓bs_n, ↓bo_y, ↓bo_n, ↓bp_y, ↓bp_n, ↓forall_eq, ↓within_y, ↓within_n, ↓isIn_y, ↓isIn_n, and_true, true_and, and_self, us_at, us_ne, w32_id, um_eq, um_ne, um_um, uu_eq, uu_ne, uu_uu, vv_eq, vv_ne, vv_vv, ne_eq, not_false_eq_true, not_true_eq_false, reduceCtorEq, Int.reduceAdd, Int.reduceSub, Int.reduceMul, Int.reduceNeg, Nat.reduceEqDiff, or_true, true_or, true_implies, false_implies, Int.reduceLT, Int.reduceLE, Int.reduceEq]
  exact q
theorem bg_opn (h1 : rtk tk plc bh j u) (hB : isB (tk j)) {Q : Int → hp → Prop} (q : mX12_opened 69 (opc (tk j)) (rh F u M) Q) : mX12_beginOne_J39 Q 69 (-1) (rh F u M) := by
  have tt := tkr_t h1.2.2
  have n1 : ¬ u 9 = 1 := fun t => by have := (tkr_1 h1.2.2).1 t; unfold isB isU at hB; omega
  have s38 : u 9 = 40 ↔ tk j = 38 := tkr_s h1.2.2 (x := 38) (by omega)
  have s35 : u 9 = 45 ↔ tk j = 35 := tkr_s h1.2.2 (x := 35) (by omega)
  rcases hB with c | c | c | c | c
  · have e9 := s38.2 c
    have eo : opc (tk j) = 40 := by rw [c]; rfl
    rw [eo] at q
    simp (disch := first | omega | decide) only [mX12_beginOne_J39, ↓rh_rcv, ↓rh_g9, ↓rh_p9, ↓be_y, ↓be_n, ↓bf_y, ↓bf_n, ↓bl_y, ↓bl_n, ↓bm_y, ↓bm_n, ↓bg_y, ↓bg_n, ↓bs_y, ↓bs_n, ↓bo_y, ↓bo_n, ↓bp_y, ↓bp_n, ↓forall_eq, ↓within_y, ↓within_n, ↓isIn_y, ↓isIn_n, and_true, true_and, and_self, us_at, us_ne, w32_id, um_eq, um_ne, um_um, uu_eq, uu_ne, uu_uu, vv_eq, vv_ne, vv_vv, ne_eq, not_false_eq_true, not_true_eq_false, reduceCtorEq, Int.reduceAdd, Int.reduceSub, Int.reduceMul, Int.reduceNeg, Nat.reduceEqDiff, or_true, true_or, true_implies, false_implies, Int.reduceLT, Int.reduceLE, Int.reduceEq, e9]
    exact q
  · have m1 : ¬ u 9 = 40 := fun t => by have := s38.1 t; omega
    have m2 : ¬ u 9 = 45 := fun t => by have := s35.1 t; omega
    have eo : opc (tk j) = 41 := by rw [c]; rfl
    rw [eo] at q
    have y1 := fun Q => isw_n (F := F) (M := M) (Q := Q) h1.2.2 (x := 20) (by omega) (by omega)
    have y2 := fun Q => isw_n (F := F) (M := M) (Q := Q) h1.2.2 (x := 21) (by omega) (by omega)
    have y3 := fun Q => isw_y (F := F) (M := M) (Q := Q) h1.2.2 (x := 22) (by omega) c
    simp (disch := first | omega | decide) only [mX12_beginOne_J39, ↓rh_rcv, ↓rh_g9, ↓rh_p9, ↓be_y, ↓be_n, ↓bf_y, ↓bf_n, ↓bl_y, ↓bl_n, ↓bm_y, ↓bm_n, ↓bg_y, ↓bg_n, ↓bs_y, ↓bs_n, ↓bo_y, ↓bo_n, ↓bp_y, ↓bp_n, ↓forall_eq, ↓within_y, ↓within_n, ↓isIn_y, ↓isIn_n, and_true, true_and, and_self, us_at, us_ne, w32_id, um_eq, um_ne, um_um, uu_eq, uu_ne, uu_uu, vv_eq, vv_ne, vv_vv, ne_eq, not_false_eq_true, not_true_eq_false, reduceCtorEq, Int.reduceAdd, Int.reduceSub, Int.reduceMul, Int.reduceNeg, Nat.reduceEqDiff, or_true, true_or, true_implies, false_implies, Int.reduceLT, Int.reduceLE, Int.reduceEq, w_odd, w_top, w_if, y1, y2, y3]
    exact q
  · have e9 := s35.2 c
    have eo : opc (tk j) = 5 := by rw [c]; rfl
    rw [eo] at q
    simp (disch := first | omega | decide) only [mX12_beginOne_J39, ↓rh_rcv, ↓rh_g9, ↓rh_p9, ↓be_y, ↓be_n, ↓bf_y, ↓bf_n, ↓bl_y, ↓bl_n, ↓bm_y, ↓bm_n, ↓bg_y, ↓bg_n, ↓bs_y, ↓bs_n, ↓bo_y, ↓bo_n, ↓bp_y, ↓bp_n, ↓forall_eq, ↓within_y, ↓within_n, ↓isIn_y, ↓isIn_n, and_true, true_and, and_self, us_at, us_ne, w32_id, um_eq, um_ne, um_um, uu_eq, uu_ne, uu_uu, vv_eq, vv_ne, vv_vv, ne_eq, not_false_eq_true, not_true_eq_false, reduceCtorEq, Int.reduceAdd, Int.reduceSub, Int.reduceMul, Int.reduceNeg, Nat.reduceEqDiff, or_true, true_or, true_implies, false_implies, Int.reduceLT, Int.reduceLE, Int.reduceEq, e9]
    exact q
  · have m1 : ¬ u 9 = 40 := fun t => by have := s38.1 t; omega
    have m2 : ¬ u 9 = 45 := fun t => by have := s35.1 t; omega
    have eo : opc (tk j) = 4 := by rw [c]; rfl
    rw [eo] at q
    have y1 := fun Q => isw_y (F := F) (M := M) (Q := Q) h1.2.2 (x := 20) (by omega) c
    simp (disch := first | omega | decide) only [mX12_beginOne_J39, ↓rh_rcv, ↓rh_g9, ↓rh_p9, ↓be_y, ↓be_n, ↓bf_y, ↓bf_n, ↓bl_y, ↓bl_n, ↓bm_y, ↓bm_n, ↓bg_y, ↓bg_n, ↓bs_y, ↓bs_n, ↓bo_y, ↓bo_n, ↓bp_y, ↓bp_n, ↓forall_eq, ↓within_y, ↓within_n, ↓isIn_y, ↓isIn_n, and_true, true_and, and_self, us_at, us_ne, w32_id, um_eq, um_ne, um_um, uu_eq, uu_ne, uu_uu, vv_eq, vv_ne, vv_vv, ne_eq, not_false_eq_true, not_true_eq_false, reduceCtorEq, Int.reduceAdd, Int.reduceSub, Int.reduceMul, Int.reduceNeg, Nat.reduceEqDiff, or_true, true_or, true_implies, false_implies, Int.reduceLT, Int.reduceLE, Int.reduceEq, w_odd, y1]
    exact q
  · have m1 : ¬ u 9 = 40 := fun t => by have := s38.1 t; omega
    have m2 : ¬ u 9 = 45 := fun t => by have := s35.1 t; omega
    have eo : opc (tk j) = 2 := by rw [c]; rfl
    rw [eo] at q
    have y1 := fun Q => isw_n (F := F) (M := M) (Q := Q) h1.2.2 (x := 20) (by omega) (by omega)
    have y2 := fun Q => isw_y (F := F) (M := M) (Q := Q) h1.2.2 (x := 21) (by omega) c
    simp (disch := first | omega | decide) only [mX12_beginOne_J39, ↓rh_rcv, ↓rh_g9, ↓rh_p9, ↓be_y, ↓be_n, ↓bf_y, ↓bf_n, ↓bl_y, ↓bl_n, ↓bm_y, ↓bm_n, ↓bg_y, ↓bg_n, ↓bs_y, ↓bs_n, ↓bo_y, ↓bo_n, ↓bp_y, ↓bp_n, ↓forall_eq, ↓within_y, ↓within_n, ↓isIn_y, ↓isIn_n, and_true, true_and, and_self, us_at, us_ne, w32_id, um_eq, um_ne, um_um, uu_eq, uu_ne, uu_uu, vv_eq, vv_ne, vv_vv, ne_eq, not_false_eq_true, not_true_eq_false, reduceCtorEq, Int.reduceAdd, Int.reduceSub, Int.reduceMul, Int.reduceNeg, Nat.reduceEqDiff, or_true, true_or, true_implies, false_implies, Int.reduceLT, Int.reduceLE, Int.reduceEq, w_odd, w_top, y1, y2]
    exact q
theorem bg_not (h1 : rtk tk plc bh j u) (hB : tk j < 100 ∧ ¬ isB (tk j)) {Q : Int → hp → Prop} (q : (tk j = 28 → mX12_isAskAhead 69 (rh F u M) (fun x31 F30 => (w32 x31 = 0 → Q 1 F30) ∧ (¬ w32 x31 = 0 → rcv F30 (some 69) 12 (fun o35 => mX12_opened o35 20 F30 (fun x34 F33 => Q x34 F33))))) ∧ (tk j ≠ 28 → Q 1 (rh F u M))) : mX12_beginOne_J39 Q 69 (-1) (rh F u M) := by
  have tt := tkr_t h1.2.2
  unfold isB isU at hB
  have n1 : ¬ u 9 = 1 := fun t => by have := (tkr_1 h1.2.2).1 t; omega
  have s38 : u 9 = 40 ↔ tk j = 38 := tkr_s h1.2.2 (x := 38) (by omega)
  have s35 : u 9 = 45 ↔ tk j = 35 := tkr_s h1.2.2 (x := 35) (by omega)
  have m1 : ¬ u 9 = 40 := fun t => by have := s38.1 t; omega
  have m2 : ¬ u 9 = 45 := fun t => by have := s35.1 t; omega
  have y1 := fun Q => isw_n (F := F) (M := M) (Q := Q) h1.2.2 (x := 20) (by omega) (by omega)
  have y2 := fun Q => isw_n (F := F) (M := M) (Q := Q) h1.2.2 (x := 21) (by omega) (by omega)
  have y3 := fun Q => isw_n (F := F) (M := M) (Q := Q) h1.2.2 (x := 22) (by omega) (by omega)
  by_cases c : tk j = 28
  · have y4 := fun Q => isw_y (F := F) (M := M) (Q := Q) h1.2.2 (x := 28) (by omega) c
    simp (disch := first | omega | decide) only [mX12_beginOne_J39, ↓rh_rcv, ↓rh_g9, ↓rh_p9, ↓be_y, ↓be_n, ↓bf_y, ↓bf_n, ↓bl_y, ↓bl_n, ↓bm_y, ↓bm_n, ↓bg_y, ↓bg_n, ↓bs_y, ↓bs_n, ↓bo_y, ↓bo_n, ↓bp_y, ↓bp_n, ↓forall_eq, ↓within_y, ↓within_n, ↓isIn_y, ↓isIn_n, and_true, true_and, and_self, us_at, us_ne, w32_id, um_eq, um_ne, um_um, uu_eq, uu_ne, uu_uu, vv_eq, vv_ne, vv_vv, ne_eq, not_false_eq_true, not_true_eq_false, reduceCtorEq, Int.reduceAdd, Int.reduceSub, Int.reduceMul, Int.reduceNeg, Nat.reduceEqDiff, or_true, true_or, true_implies, false_implies, Int.reduceLT, Int.reduceLE, Int.reduceEq, w_odd, w_top, w_if, w_not, y1, y2, y3, y4]
    exact q.1 c
  · have y4 := fun Q => isw_n (F := F) (M := M) (Q := Q) h1.2.2 (x := 28) (by omega) c
    simp (disch := first | omega | decide) only [mX12_beginOne_J39, ↓rh_rcv, ↓rh_g9, ↓rh_p9, ↓be_y, ↓be_n, ↓bf_y, ↓bf_n, ↓bl_y, ↓bl_n, ↓bm_y, ↓bm_n, ↓bg_y, ↓bg_n, ↓bs_y, ↓bs_n, ↓bo_y, ↓bo_n, ↓bp_y, ↓bp_n, ↓forall_eq, ↓within_y, ↓within_n, ↓isIn_y, ↓isIn_n, and_true, true_and, and_self, us_at, us_ne, w32_id, um_eq, um_ne, um_um, uu_eq, uu_ne, uu_uu, vv_eq, vv_ne, vv_vv, ne_eq, not_false_eq_true, not_true_eq_false, reduceCtorEq, Int.reduceAdd, Int.reduceSub, Int.reduceMul, Int.reduceNeg, Nat.reduceEqDiff, or_true, true_or, true_implies, false_implies, Int.reduceLT, Int.reduceLE, Int.reduceEq, w_odd, w_top, w_if, w_not, y1, y2, y3, y4]
    exact q.2 c
end RS
