def opa : List Int → Int
  | [] => -1
  | x :: r => if 40 ≤ x then (r.length : Int) else opa r
section RM
variable {tk plc bh : Nat → Int} {cn : Nat} {L : Int} {W : Int → Int} {u : Nat → Int} {M : Nat → Int → Int} {F : hp} {pl : List Int} {o : List (Int × Int)}
theorem opa_l : ∀ (pl : List Int) (n : Nat) (Q : Int → hp → Prop), (pl.length : Int) = n → n ≤ 160 → wfp pl → pil (M 74) pl → Q (opa pl) (rh F u M) → mX12_openAt_L7 Q (pl.length + 1) 69 ((n : Int) - 1) (rh F u M)
  | [], n, Q, hn, hb, hw, hp, q => by
    rw [List.length_nil] at hn
    have e : (n : Int) - 1 = -1 := by omega
    rw [e, mX12_openAt_L7]
    simp (disch := first | omega | decide) only [w32_id, ↓rh_rcv, ↓rh_g15, ↓be_y, ↓be_n, ↓bf_y, ↓bf_n, ↓bl_y, ↓bl_n, ↓bm_y, ↓bm_n, ↓bg_y, ↓bg_n, ↓bs_y, ↓bs_n, ↓bo_y, ↓bo_n, ↓bp_y, ↓bp_n, ↓forall_eq, ↓within_y, ↓within_n, ↓isIn_y, ↓isIn_n, and_true, true_and, and_self, us_at, us_ne, w32_id, um_eq, um_ne, um_um, uu_eq, uu_ne, uu_uu, vv_eq, vv_ne, vv_vv, ne_eq, not_false_eq_true, not_true_eq_false, reduceCtorEq, Int.reduceAdd, Int.reduceSub, Int.reduceMul, Int.reduceNeg, Nat.reduceEqDiff, or_true, true_or, true_implies, false_implies, Int.reduceLT, Int.reduceLE, Int.reduceEq]
    exact q
  | x :: r, n, Q, hn, hb, hw, hp, q => by
    simp only [List.length_cons] at hn
    have e : (n : Int) - 1 = (r.length : Int) := by omega
    have rx : M 74 (r.length : Int) = x := hp.1
    have xb := hw.1
    rw [opa] at q
    rw [e, List.length_cons, mX12_openAt_L7]
    by_cases d : 40 ≤ x
    · rw [if_pos d] at q
      simp (disch := first | omega | decide) only [w32_id, ↓rh_rcv, ↓rh_g15, ↓rh_r74, ↓rh_w74, ↓be_y, ↓be_n, ↓bf_y, ↓bf_n, ↓bl_y, ↓bl_n, ↓bm_y, ↓bm_n, ↓bg_y, ↓bg_n, ↓bs_y, ↓bs_n, ↓bo_y, ↓bo_n, ↓bp_y, ↓bp_n, ↓forall_eq, ↓within_y, ↓within_n, ↓isIn_y, ↓isIn_n, and_true, true_and, and_self, us_at, us_ne, w32_id, um_eq, um_ne, um_um, uu_eq, uu_ne, uu_uu, vv_eq, vv_ne, vv_vv, ne_eq, not_false_eq_true, not_true_eq_false, reduceCtorEq, Int.reduceAdd, Int.reduceSub, Int.reduceMul, Int.reduceNeg, Nat.reduceEqDiff, or_true, true_or, true_implies, false_implies, Int.reduceLT, Int.reduceLE, Int.reduceEq, rx]
      exact q
    · rw [if_neg d] at q
      have g := opa_l r r.length Q rfl (by omega) hw.2.2 hp.2 q
      rw [show (r.length : Int) - 1 = (r.length : Int) + -1 by omega] at g
      simp (disch := first | omega | decide) only [w32_id, ↓rh_rcv, ↓rh_g15, ↓rh_r74, ↓rh_w74, ↓be_y, ↓be_n, ↓bf_y, ↓bf_n, ↓bl_y, ↓bl_n, ↓bm_y, ↓bm_n, ↓bg_y, ↓bg_n, ↓bs_y, ↓bs_n, ↓bo_y, ↓bo_n, ↓bp_y, ↓bp_n, ↓forall_eq, ↓within_y, ↓within_n, ↓isIn_y, ↓isIn_n, and_true, true_and, and_self, us_at, us_ne, w32_id, um_eq, um_ne, um_um, uu_eq, uu_ne, uu_uu, vv_eq, vv_ne, vv_vv, ne_eq, not_false_eq_true, not_true_eq_false, reduceCtorEq, Int.reduceAdd, Int.reduceSub, Int.reduceMul, Int.reduceNeg, Nat.reduceEqDiff, or_true, true_or, true_implies, false_implies, Int.reduceLT, Int.reduceLE, Int.reduceEq, rx]
      exact g
theorem opa_o : ∀ pl : List Int, wfp pl → (opa pl = -1 ∧ opn pl = -1) ∨ (0 ≤ opa pl ∧ opa pl < pl.length ∧ 40 ≤ opn pl ∧ opn pl ≤ 43 ∧ ∀ A : Int → Int, pil A pl → A (opa pl) = opn pl)
  | [], _ => .inl ⟨rfl, rfl⟩
  | x :: r, h => by
    rw [opa, opn]
    have xb := h.1
    by_cases d : 40 ≤ x
    · rw [if_pos d, if_pos d]
      right
      refine ⟨by omega, by simp only [List.length_cons]; omega, d, by omega, fun A hA => hA.1⟩
    · rw [if_neg d, if_neg d]
      rcases opa_o r h.2.2 with t | ⟨a, b, c, e, f⟩
      · exact .inl t
      · exact .inr ⟨a, by simp only [List.length_cons]; omega, c, e, fun A hA => f A hA.2⟩
theorem opa_r {Q : Int → hp → Prop} (hw : wfp pl) (hc : cnm pl ≤ 8) (hp : pls pl u M) (q : Q (opa pl) (rh F u M)) : mX12_openAt 69 (rh F u M) Q := by
  have len := wfp_len hw hc
  have e := hp.1
  simp (disch := first | omega | decide) only [mX12_openAt, ↓rh_rcv, ↓rh_g16, ↓rh_p16, ↓be_y, ↓be_n, ↓bf_y, ↓bf_n, ↓bl_y, ↓bl_n, ↓bm_y, ↓bm_n, ↓bg_y, ↓bg_n, ↓bs_y, ↓bs_n, ↓bo_y, ↓bo_n, ↓bp_y, ↓bp_n, ↓forall_eq, ↓within_y, ↓within_n, ↓isIn_y, ↓isIn_n, and_true, true_and, and_self, us_at, us_ne, w32_id, um_eq, um_ne, um_um, uu_eq, uu_ne, uu_uu, vv_eq, vv_ne, vv_vv, ne_eq, not_false_eq_true, not_true_eq_false, reduceCtorEq, Int.reduceAdd, Int.reduceSub, Int.reduceMul, Int.reduceNeg, Nat.reduceEqDiff, or_true, true_or, true_implies, false_implies, Int.reduceLT, Int.reduceLE, Int.reduceEq, e]
  exact ⟨_, opa_l pl pl.length Q rfl (by omega) hw hp.2.2 q⟩
theorem opn_r {Q : Int → hp → Prop} (hw : wfp pl) (hc : cnm pl ≤ 8) (hp : pls pl u M) (q : Q (opn pl) (rh F u M)) : mX12_openNow 69 (rh F u M) Q := by
  have len := wfp_len hw hc
  simp (disch := first | omega | decide) only [mX12_openNow, ↓rh_rcv, ↓rh_g15, ↓be_y, ↓be_n, ↓bf_y, ↓bf_n, ↓bl_y, ↓bl_n, ↓bm_y, ↓bm_n, ↓bg_y, ↓bg_n, ↓bs_y, ↓bs_n, ↓bo_y, ↓bo_n, ↓bp_y, ↓bp_n, ↓forall_eq, ↓within_y, ↓within_n, ↓isIn_y, ↓isIn_n, and_true, true_and, and_self, us_at, us_ne, w32_id, um_eq, um_ne, um_um, uu_eq, uu_ne, uu_uu, vv_eq, vv_ne, vv_vv, ne_eq, not_false_eq_true, not_true_eq_false, reduceCtorEq, Int.reduceAdd, Int.reduceSub, Int.reduceMul, Int.reduceNeg, Nat.reduceEqDiff, or_true, true_or, true_implies, false_implies, Int.reduceLT, Int.reduceLE, Int.reduceEq]
  refine opa_r hw hc hp ?_
  rcases opa_o pl hw with ⟨a, b⟩ | ⟨a, b, c, d, f⟩
  · rw [b] at q
    rw [a]
    simp (disch := first | omega | decide) only [w32_id, ↓rh_rcv, ↓rh_g15, ↓be_y, ↓be_n, ↓bf_y, ↓bf_n, ↓bl_y, ↓bl_n, ↓bm_y, ↓bm_n, ↓bg_y, ↓bg_n, ↓bs_y, ↓bs_n, ↓bo_y, ↓bo_n, ↓bp_y, ↓bp_n, ↓forall_eq, ↓within_y, ↓within_n, ↓isIn_y, ↓isIn_n, and_true, true_and, and_self, us_at, us_ne, w32_id, um_eq, um_ne, um_um, uu_eq, uu_ne, uu_uu, vv_eq, vv_ne, vv_vv, ne_eq, not_false_eq_true, not_true_eq_false, reduceCtorEq, Int.reduceAdd, Int.reduceSub, Int.reduceMul, Int.reduceNeg, Nat.reduceEqDiff, or_true, true_or, true_implies, false_implies, Int.reduceLT, Int.reduceLE, Int.reduceEq]
    exact q
  · have rd := f _ hp.2.2
    simp (disch := first | omega | decide) only [w32_id, ↓rh_rcv, ↓rh_g15, ↓be_y, ↓be_n, ↓bf_y, ↓bf_n, ↓bl_y, ↓bl_n, ↓bm_y, ↓bm_n, ↓bg_y, ↓bg_n, ↓bs_y, ↓bs_n, ↓bo_y, ↓bo_n, ↓bp_y, ↓bp_n, ↓forall_eq, ↓within_y, ↓within_n, ↓isIn_y, ↓isIn_n, and_true, true_and, and_self, us_at, us_ne, w32_id, um_eq, um_ne, um_um, uu_eq, uu_ne, uu_uu, vv_eq, vv_ne, vv_vv, ne_eq, not_false_eq_true, not_true_eq_false, reduceCtorEq, Int.reduceAdd, Int.reduceSub, Int.reduceMul, Int.reduceNeg, Nat.reduceEqDiff, or_true, true_or, true_implies, false_implies, Int.reduceLT, Int.reduceLE, Int.reduceEq]
    refine opa_r hw hc hp ?_
    simp (disch := first | omega | decide) only [w32_id, ↓rh_rcv, ↓rh_r74, ↓rh_w74, ↓be_y, ↓be_n, ↓bf_y, ↓bf_n, ↓bl_y, ↓bl_n, ↓bm_y, ↓bm_n, ↓bg_y, ↓bg_n, ↓bs_y, ↓bs_n, ↓bo_y, ↓bo_n, ↓bp_y, ↓bp_n, ↓forall_eq, ↓within_y, ↓within_n, ↓isIn_y, ↓isIn_n, and_true, true_and, and_self, us_at, us_ne, w32_id, um_eq, um_ne, um_um, uu_eq, uu_ne, uu_uu, vv_eq, vv_ne, vv_vv, ne_eq, not_false_eq_true, not_true_eq_false, reduceCtorEq, Int.reduceAdd, Int.reduceSub, Int.reduceMul, Int.reduceNeg, Nat.reduceEqDiff, or_true, true_or, true_implies, false_implies, Int.reduceLT, Int.reduceLE, Int.reduceEq, rd]
    exact q
theorem cmpq_l (b : Int) : ∀ (pl : List Int) (n : Nat) (Q : Int → hp → Prop), (pl.length : Int) = n → n ≤ 160 → wfp pl → pil (M 74) pl → ((b = 1 ∧ cmd pl) ∨ (b = 0 ∧ ¬ cmd pl)) → Q b (rh F u M) → mX12_isCompared_L7 Q (pl.length + 1) 69 ((n : Int) - 1) (rh F u M)
  | [], n, Q, hn, hb, hw, hp, hc, q => by
    rw [List.length_nil] at hn
    have e : (n : Int) - 1 = -1 := by omega
    have b0 : b = 0 := by
      rcases hc with ⟨-, t⟩ | ⟨t, -⟩
      · exact absurd t id
      · exact t
    subst b0
    rw [e, mX12_isCompared_L7]
    simp (disch := first | omega | decide) only [mX12_isCompared_J30, ↓rh_rcv, ↓rh_g15, ↓be_y, ↓be_n, ↓bf_y, ↓bf_n, ↓bl_y, ↓bl_n, ↓bm_y, ↓bm_n, ↓bg_y, ↓bg_n, ↓bs_y, ↓bs_n, ↓bo_y, ↓bo_n, ↓bp_y, ↓bp_n, ↓forall_eq, ↓within_y, ↓within_n, ↓isIn_y, ↓isIn_n, and_true, true_and, and_self, us_at, us_ne, w32_id, um_eq, um_ne, um_um, uu_eq, uu_ne, uu_uu, vv_eq, vv_ne, vv_vv, ne_eq, not_false_eq_true, not_true_eq_false, reduceCtorEq, Int.reduceAdd, Int.reduceSub, Int.reduceMul, Int.reduceNeg, Nat.reduceEqDiff, or_true, true_or, true_implies, false_implies, Int.reduceLT, Int.reduceLE, Int.reduceEq]
    exact q
  | x :: r, n, Q, hn, hb, hw, hp, hc, q => by
    simp only [List.length_cons] at hn
    have e : (n : Int) - 1 = (r.length : Int) := by omega
    have rx : M 74 (r.length : Int) = x := hp.1
    have xb := hw.1
    have rb := rk_b x
    rw [cmd] at hc
    rw [e, List.length_cons, mX12_isCompared_L7]
    by_cases d : 4 < rk x
    · rw [if_pos d] at hc
      have g := cmpq_l b r r.length Q rfl (by omega) hw.2.2 hp.2 hc q
      rw [show (r.length : Int) - 1 = (r.length : Int) + -1 by omega] at g
      simp (disch := first | omega | decide) only [rank_r, ↓rh_rcv, ↓rh_g15, ↓rh_r74, ↓rh_w74, ↓be_y, ↓be_n, ↓bf_y, ↓bf_n, ↓bl_y, ↓bl_n, ↓bm_y, ↓bm_n, ↓bg_y, ↓bg_n, ↓bs_y, ↓bs_n, ↓bo_y, ↓bo_n, ↓bp_y, ↓bp_n, ↓forall_eq, ↓within_y, ↓within_n, ↓isIn_y, ↓isIn_n, and_true, true_and, and_self, us_at, us_ne, w32_id, um_eq, um_ne, um_um, uu_eq, uu_ne, uu_uu, vv_eq, vv_ne, vv_vv, ne_eq, not_false_eq_true, not_true_eq_false, reduceCtorEq, Int.reduceAdd, Int.reduceSub, Int.reduceMul, Int.reduceNeg, Nat.reduceEqDiff, or_true, true_or, true_implies, false_implies, Int.reduceLT, Int.reduceLE, Int.reduceEq, rx]
      exact g
    · rw [if_neg d] at hc
      rcases hc with ⟨rfl, t⟩ | ⟨rfl, t⟩
      · simp (disch := first | omega | decide) only [mX12_isCompared_J30, rank_r, ↓rh_rcv, ↓rh_g15, ↓rh_r74, ↓rh_w74, ↓be_y, ↓be_n, ↓bf_y, ↓bf_n, ↓bl_y, ↓bl_n, ↓bm_y, ↓bm_n, ↓bg_y, ↓bg_n, ↓bs_y, ↓bs_n, ↓bo_y, ↓bo_n, ↓bp_y, ↓bp_n, ↓forall_eq, ↓within_y, ↓within_n, ↓isIn_y, ↓isIn_n, and_true, true_and, and_self, us_at, us_ne, w32_id, um_eq, um_ne, um_um, uu_eq, uu_ne, uu_uu, vv_eq, vv_ne, vv_vv, ne_eq, not_false_eq_true, not_true_eq_false, reduceCtorEq, Int.reduceAdd, Int.reduceSub, Int.reduceMul, Int.reduceNeg, Nat.reduceEqDiff, or_true, true_or, true_implies, false_implies, Int.reduceLT, Int.reduceLE, Int.reduceEq, rx]
        exact q
      · simp (disch := first | omega | decide) only [mX12_isCompared_J30, rank_r, ↓rh_rcv, ↓rh_g15, ↓rh_r74, ↓rh_w74, ↓be_y, ↓be_n, ↓bf_y, ↓bf_n, ↓bl_y, ↓bl_n, ↓bm_y, ↓bm_n, ↓bg_y, ↓bg_n, ↓bs_y, ↓bs_n, ↓bo_y, ↓bo_n, ↓bp_y, ↓bp_n, ↓forall_eq, ↓within_y, ↓within_n, ↓isIn_y, ↓isIn_n, and_true, true_and, and_self, us_at, us_ne, w32_id, um_eq, um_ne, um_um, uu_eq, uu_ne, uu_uu, vv_eq, vv_ne, vv_vv, ne_eq, not_false_eq_true, not_true_eq_false, reduceCtorEq, Int.reduceAdd, Int.reduceSub, Int.reduceMul, Int.reduceNeg, Nat.reduceEqDiff, or_true, true_or, true_implies, false_implies, Int.reduceLT, Int.reduceLE, Int.reduceEq, rx]
        exact q
theorem cmpq_r {b : Int} {Q : Int → hp → Prop} (hw : wfp pl) (hc : cnm pl ≤ 8) (hp : pls pl u M) (hb : (b = 1 ∧ cmd pl) ∨ (b = 0 ∧ ¬ cmd pl)) (q : Q b (rh F u M)) : mX12_isCompared 69 (rh F u M) Q := by
  have len := wfp_len hw hc
  have e := hp.1
  simp (disch := first | omega | decide) only [mX12_isCompared, ↓rh_rcv, ↓rh_g16, ↓rh_p16, ↓be_y, ↓be_n, ↓bf_y, ↓bf_n, ↓bl_y, ↓bl_n, ↓bm_y, ↓bm_n, ↓bg_y, ↓bg_n, ↓bs_y, ↓bs_n, ↓bo_y, ↓bo_n, ↓bp_y, ↓bp_n, ↓forall_eq, ↓within_y, ↓within_n, ↓isIn_y, ↓isIn_n, and_true, true_and, and_self, us_at, us_ne, w32_id, um_eq, um_ne, um_um, uu_eq, uu_ne, uu_uu, vv_eq, vv_ne, vv_vv, ne_eq, not_false_eq_true, not_true_eq_false, reduceCtorEq, Int.reduceAdd, Int.reduceSub, Int.reduceMul, Int.reduceNeg, Nat.reduceEqDiff, or_true, true_or, true_implies, false_implies, Int.reduceLT, Int.reduceLE, Int.reduceEq, e]
  exact ⟨_, cmpq_l b pl pl.length Q rfl (by omega) hw hp.2.2 hb q⟩
theorem aah_r {b : Int} {Q : Int → hp → Prop} (hw : wfp pl) (hc : cnm pl ≤ 8) (hp : pls pl u M) (hb : (b = 1 ∧ aah pl) ∨ (b = 0 ∧ ¬ aah pl)) (q : Q b (rh F u M)) : mX12_isAskAhead 69 (rh F u M) Q := by
  have len := wfp_len hw hc
  have ob : -1 ≤ opn pl ∧ opn pl ≤ 43 := by rcases opa_o pl hw with ⟨a, b⟩ | ⟨a, b, c, d, f⟩ <;> omega
  simp (disch := first | omega | decide) only [mX12_isAskAhead, ↓rh_rcv, ↓rh_g15, ↓be_y, ↓be_n, ↓bf_y, ↓bf_n, ↓bl_y, ↓bl_n, ↓bm_y, ↓bm_n, ↓bg_y, ↓bg_n, ↓bs_y, ↓bs_n, ↓bo_y, ↓bo_n, ↓bp_y, ↓bp_n, ↓forall_eq, ↓within_y, ↓within_n, ↓isIn_y, ↓isIn_n, and_true, true_and, and_self, us_at, us_ne, w32_id, um_eq, um_ne, um_um, uu_eq, uu_ne, uu_uu, vv_eq, vv_ne, vv_vv, ne_eq, not_false_eq_true, not_true_eq_false, reduceCtorEq, Int.reduceAdd, Int.reduceSub, Int.reduceMul, Int.reduceNeg, Nat.reduceEqDiff, or_true, true_or, true_implies, false_implies, Int.reduceLT, Int.reduceLE, Int.reduceEq]
  refine opn_r hw hc hp ?_
  by_cases d : opn pl = 41
  · cases pl with
    | nil => exact absurd d (by decide)
    | cons x r =>
      obtain ⟨p1, p2, rx, p4⟩ := id hp
      simp only [List.length_cons] at p1 len
      have e1 : u 16 - 1 = (r.length : Int) := by omega
      have xb := hw.1
      have rb := rk_b x
      have ha : aah (x :: r) ↔ (40 ≤ x ∨ (1 ≤ rk x ∧ rk x ≤ 3)) := ⟨fun t => t.2, fun t => ⟨d, t⟩⟩
      rw [ha] at hb
      by_cases d2 : 40 ≤ x
      · have b1 : b = 1 := by omega
        subst b1
        simp (disch := first | omega | decide) only [mX12_isAskAhead_J47, ↓rh_rcv, ↓rh_g15, ↓rh_g16, ↓rh_p16, ↓rh_r74, ↓rh_w74, ↓be_y, ↓be_n, ↓bf_y, ↓bf_n, ↓bl_y, ↓bl_n, ↓bm_y, ↓bm_n, ↓bg_y, ↓bg_n, ↓bs_y, ↓bs_n, ↓bo_y, ↓bo_n, ↓bp_y, ↓bp_n, ↓forall_eq, ↓within_y, ↓within_n, ↓isIn_y, ↓isIn_n, and_true, true_and, and_self, us_at, us_ne, w32_id, um_eq, um_ne, um_um, uu_eq, uu_ne, uu_uu, vv_eq, vv_ne, vv_vv, ne_eq, not_false_eq_true, not_true_eq_false, reduceCtorEq, Int.reduceAdd, Int.reduceSub, Int.reduceMul, Int.reduceNeg, Nat.reduceEqDiff, or_true, true_or, true_implies, false_implies, Int.reduceLT, Int.reduceLE, Int.reduceEq, e1, rx]
        exact q
      · by_cases d3 : 1 ≤ rk x ∧ rk x ≤ 3
        · have b1 : b = 1 := by omega
          subst b1
          simp (disch := first | omega | decide) only [mX12_isAskAhead_J47, rank_r, ↓rh_rcv, ↓rh_g15, ↓rh_g16, ↓rh_p16, ↓rh_r74, ↓rh_w74, ↓be_y, ↓be_n, ↓bf_y, ↓bf_n, ↓bl_y, ↓bl_n, ↓bm_y, ↓bm_n, ↓bg_y, ↓bg_n, ↓bs_y, ↓bs_n, ↓bo_y, ↓bo_n, ↓bp_y, ↓bp_n, ↓forall_eq, ↓within_y, ↓within_n, ↓isIn_y, ↓isIn_n, and_true, true_and, and_self, us_at, us_ne, w32_id, um_eq, um_ne, um_um, uu_eq, uu_ne, uu_uu, vv_eq, vv_ne, vv_vv, ne_eq, not_false_eq_true, not_true_eq_false, reduceCtorEq, Int.reduceAdd, Int.reduceSub, Int.reduceMul, Int.reduceNeg, Nat.reduceEqDiff, or_true, true_or, true_implies, false_implies, Int.reduceLT, Int.reduceLE, Int.reduceEq, e1, rx]
          exact q
        · have b1 : b = 0 := by omega
          subst b1
          simp (disch := first | omega | decide) only [mX12_isAskAhead_J47, rank_r, ↓rh_rcv, ↓rh_g15, ↓rh_g16, ↓rh_p16, ↓rh_r74, ↓rh_w74, ↓be_y, ↓be_n, ↓bf_y, ↓bf_n, ↓bl_y, ↓bl_n, ↓bm_y, ↓bm_n, ↓bg_y, ↓bg_n, ↓bs_y, ↓bs_n, ↓bo_y, ↓bo_n, ↓bp_y, ↓bp_n, ↓forall_eq, ↓within_y, ↓within_n, ↓isIn_y, ↓isIn_n, and_true, true_and, and_self, us_at, us_ne, w32_id, um_eq, um_ne, um_um, uu_eq, uu_ne, uu_uu, vv_eq, vv_ne, vv_vv, ne_eq, not_false_eq_true, not_true_eq_false, reduceCtorEq, Int.reduceAdd, Int.reduceSub, Int.reduceMul, Int.reduceNeg, Nat.reduceEqDiff, or_true, true_or, true_implies, false_implies, Int.reduceLT, Int.reduceLE, Int.reduceEq, e1, rx]
          exact q
  · have b0 : b = 0 := by
      rcases hb with ⟨-, t⟩ | ⟨t, -⟩
      · exact absurd t.1 d
      · exact t
    subst b0
    simp (disch := first | omega | decide) only [w32_id, ↓rh_rcv, ↓rh_g15, ↓be_y, ↓be_n, ↓bf_y, ↓bf_n, ↓bl_y, ↓bl_n, ↓bm_y, ↓bm_n, ↓bg_y, ↓bg_n, ↓bs_y, ↓bs_n, ↓bo_y, ↓bo_n, ↓bp_y, ↓bp_n, ↓forall_eq, ↓within_y, ↓within_n, ↓isIn_y, ↓isIn_n, and_true, true_and, and_self, us_at, us_ne, w32_id, um_eq, um_ne, um_um, uu_eq, uu_ne, uu_uu, vv_eq, vv_ne, vv_vv, ne_eq, not_false_eq_true, not_true_eq_false, reduceCtorEq, Int.reduceAdd, Int.reduceSub, Int.reduceMul, Int.reduceNeg, Nat.reduceEqDiff, or_true, true_or, true_implies, false_implies, Int.reduceLT, Int.reduceLE, Int.reduceEq]
    exact q
-- what settle leaves
theorem stl_i {l : Int} : ∀ (pl : List Int) (o : List (Int × Int)), wfp pl → wfp (stl l pl o).1 ∧ cnm (stl l pl o).1 ≤ cnm pl ∧ (stl l pl o).2.length + (stl l pl o).1.length = o.length + pl.length ∧ (∀ x, (stl l pl o).1.head? = some x → rk x < l)
  | [], o, _ => ⟨trivial, Nat.le_refl _, rfl, fun x hx => absurd hx (by simp [stl])⟩
  | x :: r, o, h => by
    rw [stl]
    by_cases d : l ≤ rk x
    · rw [if_pos d]
      obtain ⟨a, b, c, e⟩ := stl_i (l := l) r (o ++ [(x, 0)]) h.2.2
      refine ⟨a, by rw [cnm]; split <;> omega, by rw [c, List.length_append, List.length_singleton, List.length_cons]; omega, e⟩
    · rw [if_neg d]
      refine ⟨h, Nat.le_refl _, rfl, fun y hy => ?_⟩
      simp only [List.head?_cons, Option.some.injEq] at hy
      subst hy
      omega
theorem stl_c : ∀ (pl : List Int) (o : List (Int × Int)), ¬ cmd pl → ∀ x, (stl 5 pl o).1.head? = some x → rk x ≠ 4
  | [], o, _ => fun x hx => absurd hx (by simp [stl])
  | y :: r, o, h => fun x hx => by
    rw [stl] at hx
    rw [cmd] at h
    by_cases d : 5 ≤ rk y
    · rw [if_pos d] at hx
      rw [if_pos (by omega)] at h
      exact stl_c r _ h x hx
    · rw [if_neg d] at hx
      rw [if_neg (by omega)] at h
      simp only [List.head?_cons, Option.some.injEq] at hx
      subst hx
      exact h
theorem stl_o : ∀ (pl : List Int) (o : List (Int × Int)), 0 ≤ opn pl → wfp pl → ∃ t, (stl 1 pl o).1 = opn pl :: t ∧ 40 ≤ opn pl
  | [], o, h, _ => absurd h (by decide)
  | y :: r, o, h, hw => by
    rw [opn] at h ⊢
    rw [stl]
    have yb := hw.1
    by_cases d : 40 ≤ y
    · have : rk y = 0 := by unfold rk; rw [if_pos d]
      rw [if_pos d, if_neg (by omega)]
      exact ⟨r, rfl, d⟩
    · have : 1 ≤ rk y := by unfold rk; rw [if_neg d]; repeat' split
                            all_goals omega
      rw [if_neg d] at h ⊢
      rw [if_pos this]
      exact stl_o r _ h hw.2.2
theorem pot_rk {y : Int} (hyb : 0 ≤ y ∧ y ≤ 43) : (rk y ≤ 0 → pot y = 0) ∧ (rk y ≤ 1 → pot y ≤ 1) ∧ (rk y ≤ 3 → pot y ≤ 2) ∧ (rk y ≤ 4 → pot y ≤ 3) ∧ (rk y ≤ 5 → pot y ≤ 4) := by
  have : ∀ y : Nat, y < 44 → (rk y ≤ 0 → pot y = 0) ∧ (rk y ≤ 1 → pot y ≤ 1) ∧ (rk y ≤ 3 → pot y ≤ 2) ∧ (rk y ≤ 4 → pot y ≤ 3) ∧ (rk y ≤ 5 → pot y ≤ 4) := by decide +kernel
  have := this y.toNat (by omega)
  rw [Int.toNat_of_nonneg hyb.1] at this
  exact this
theorem wfp_h {x : Int} {r : List Int} (h : wfp pl) (e : pl = x :: r) : 0 ≤ x ∧ x ≤ 43 := by subst e; exact h.1
end RM
