-- ===== the way to a stand =====
def par (q : qt) (j : Nat) : Nat := match q[j]? with
  | some x => x.2.1
  | none => 0
def pmv (q : qt) (j : Nat) : Nat := match q[j]? with
  | some x => x.2.2
  | none => 0
def pst1 (q : qt) (s0 : std) (j : Nat) : std := match q[j]? with
  | some x => x.1
  | none => s0
def dep (q : qt) : Nat → Nat → Nat
  | 0, _ => 0
  | f + 1, j => if j = 0 then 0 else dep q f (par q j) + 1
def anc (q : qt) : Nat → Nat → Nat
  | 0, j => j
  | t + 1, j => anc q t (par q j)
section WY
variable {n P : Int} {v : Nat → Nat → Int} {N : Nat → Int → Int} {T : Nat → Int → Option Nat} {u : Nat → Int} {M : Nat → Int → Int} {s0 s s' w : std} {q : qt}
theorem par_b (ho : qok n s0 q) {j : Nat} (hj : j < q.length) (h0 : 0 < j) : par q j < j ∧ pmv q j < 9 := by
  have e : q[j]? = some q[j] := List.getElem?_eq_getElem hj
  have := ho.2.2.2 j _ e h0
  unfold par pmv
  rw [e]
  exact this
theorem dep_b (q : qt) : ∀ f j, dep q f j ≤ f := by
  intro f
  induction f with
  | zero => exact fun _ => Nat.le_refl _
  | succ f ih =>
    intro j
    rw [dep]
    split
    · omega
    · have := ih (par q j); omega
def cwy (q : qt) (N : Nat → Int → Int) : Prop := ∀ (j : Nat) x, q[j]? = some x → N 57 j = enc x.1 ∧ N 58 j = 9 * (x.2.1 : Int) + x.2.2
theorem cwy_r (h : cwy q N) {j : Nat} (hj : j < q.length) : N 58 j = 9 * (par q j : Int) + pmv q j := by
  have e : q[j]? = some q[j] := List.getElem?_eq_getElem hj
  have := (h j _ e).2
  unfold par pmv
  rw [e]
  exact this
theorem rwy_r (ho : qok n s0 q) (h : rin n q M) {j : Nat} (hj : j < q.length) (h0 : 0 < j) : M 83 (num (pst1 q s0 j)) = pmv q j ∧ M 82 (num (pst1 q s0 j)) = num (pst1 q s0 (par q j)) := by
  have e : q[j]? = some q[j] := List.getElem?_eq_getElem hj
  have pl := (par_b ho hj h0).1
  have e2 : q[par q j]? = some (q[par q j]'(by omega)) := List.getElem?_eq_getElem (by omega)
  obtain ⟨-, -, t⟩ := h.1 j _ e
  obtain ⟨t1, t2⟩ := t h0
  unfold pst1 pmv
  rw [e2, e]
  refine ⟨t1, t2 _ ?_⟩
  have : par q j = q[j].2.1 := by unfold par; rw [e]
  rw [← this]
  exact e2
theorem rwy_0 (ho : qok n s0 q) (h : rin n q M) : M 82 (num (pst1 q s0 0)) = -1 := by
  obtain ⟨-, t, -⟩ := h.1 0 _ ho.1
  unfold pst1
  rw [ho.1]
  exact t rfl
theorem pst1_v (ho : qok n s0 q) (j : Nat) : svl n (pst1 q s0 j) := by
  unfold pst1
  cases e : q[j]? with
  | none => exact ho.2.1 _ (List.mem_of_getElem? ho.1)
  | some x => exact ho.2.1 x (List.mem_of_getElem? e)
theorem cm4 (hn : 0 ≤ n ∧ n ≤ 5) (ho : qok n s0 q) (hc : cwy q N) {F : hp} {Q : Int → hp → Prop} : ∀ (f j : Nat) (a2 : Int), j < f → j < q.length → 0 ≤ a2 → a2 + j < 2520 → Q (a2 + dep q f j) (kh F v N T) → mX4_countMovesTo_L4 Q f 56 a2 j (kh F v N T) := by
  intro f
  induction f with
  | zero => intro j a2 h; omega
  | succ f ih =>
    intro j a2 hf hj h0 hb q'
    have ll := qok_len hn ho
    rw [dep] at q'
    rw [mX4_countMovesTo_L4]
    by_cases d : j = 0
    · subst d
      rw [if_pos rfl, show a2 + ((0 : Nat) : Int) = a2 by omega] at q'
      simp (disch := first | omega | decide) only [w32_id, ↓kh_c56, ↓kh_g56_0, ↓kh_g56_1, ↓kh_g56_2, ↓kh_g56_3, ↓kh_g56_4, ↓kh_g56_5, ↓kh_p56_5, ↓kh_g56_6, ↓kh_p56_6, ↓kh_g56_7, ↓kh_p56_7, ↓be_y, ↓be_n, ↓bf_y, ↓bf_n, ↓bl_y, ↓bl_n, ↓bm_y, ↓bm_n, ↓bg_y, ↓bg_n, ↓bs_y, ↓bs_n, ↓bo_y, ↓bo_n, ↓bp_y, ↓bp_n, ↓forall_eq, ↓within_y, ↓within_n, ↓isIn_y, ↓isIn_n, and_true, true_and, and_self, us_at, us_ne, w32_id, um_eq, um_ne, um_um, uu_eq, uu_ne, uu_uu, vv_eq, vv_ne, vv_vv, ne_eq, not_false_eq_true, not_true_eq_false, reduceCtorEq, Int.reduceAdd, Int.reduceSub, Int.reduceMul, Int.reduceNeg, Nat.reduceEqDiff, or_true, true_or, true_implies, false_implies, Int.reduceLT, Int.reduceLE, Int.reduceEq]
      exact q'
    · rw [if_neg d] at q'
      have pb := par_b ho hj (by omega)
      have rd := cwy_r hc hj
      have e9 : (9 * (par q j : Int) + pmv q j).tdiv 9 = par q j := by rw [td (by omega)]; omega
      have g := ih (par q j) (a2 + 1) (by omega) (by omega) (by omega) (by omega) (by rw [show a2 + 1 + (dep q f (par q j) : Int) = a2 + ((dep q f (par q j) + 1 : Nat) : Int) by omega]; exact q')
      simp (disch := first | omega | decide) only [w32_id, ↓kh_c56, ↓kh_g56_0, ↓kh_g56_1, ↓kh_g56_2, ↓kh_g56_3, ↓kh_g56_4, ↓kh_g56_5, ↓kh_p56_5, ↓kh_g56_6, ↓kh_p56_6, ↓kh_g56_7, ↓kh_p56_7, ↓kh_r58, ↓kh_w58, ↓kh_n58, ↓be_y, ↓be_n, ↓bf_y, ↓bf_n, ↓bl_y, ↓bl_n, ↓bm_y, ↓bm_n, ↓bg_y, ↓bg_n, ↓bs_y, ↓bs_n, ↓bo_y, ↓bo_n, ↓bp_y, ↓bp_n, ↓forall_eq, ↓within_y, ↓within_n, ↓isIn_y, ↓isIn_n, and_true, true_and, and_self, us_at, us_ne, w32_id, um_eq, um_ne, um_um, uu_eq, uu_ne, uu_uu, vv_eq, vv_ne, vv_vv, ne_eq, not_false_eq_true, not_true_eq_false, reduceCtorEq, Int.reduceAdd, Int.reduceSub, Int.reduceMul, Int.reduceNeg, Nat.reduceEqDiff, or_true, true_or, true_implies, false_implies, Int.reduceLT, Int.reduceLE, Int.reduceEq, rd, e9]
      exact g
theorem mw5 (hn : 0 ≤ n ∧ n ≤ 5) (ho : qok n s0 q) (hc : cwy q N) {F : hp} {Q : Int → hp → Prop} {a2 : Int} : ∀ (t f j : Nat) (a4 : Int), t < dep q f j → j < q.length → 0 ≤ a4 → a4 + t = a2 → a2 < 2600 → Q (pmv q (anc q t j)) (kh F v N T) → mX4_moveOnWayTo_L5 Q (t + 1) 56 a2 j a4 (kh F v N T) := by
  intro t
  induction t with
  | zero =>
    intro f j a4 hd hj h0 ha hb z
    have ll := qok_len hn ho
    have j0 : 0 < j := by
      cases f with
      | zero => rw [dep] at hd; omega
      | succ f =>
        rw [dep] at hd
        by_cases d : j = 0
        · rw [if_pos d] at hd; omega
        · omega
    rw [anc] at z
    have pb := par_b ho hj j0
    have rd := cwy_r hc hj
    have e9 : (9 * (par q j : Int) + pmv q j).tmod 9 = pmv q j := by rw [tm (by omega)]; omega
    have ha' : a4 = a2 := by omega
    subst ha'
    rw [mX4_moveOnWayTo_L5]
    simp (disch := first | omega | decide) only [mX4_moveOnWayTo_J31, ↓kh_c56, ↓kh_g56_0, ↓kh_g56_1, ↓kh_g56_2, ↓kh_g56_3, ↓kh_g56_4, ↓kh_g56_5, ↓kh_p56_5, ↓kh_g56_6, ↓kh_p56_6, ↓kh_g56_7, ↓kh_p56_7, ↓kh_r58, ↓kh_w58, ↓kh_n58, ↓be_y, ↓be_n, ↓bf_y, ↓bf_n, ↓bl_y, ↓bl_n, ↓bm_y, ↓bm_n, ↓bg_y, ↓bg_n, ↓bs_y, ↓bs_n, ↓bo_y, ↓bo_n, ↓bp_y, ↓bp_n, ↓forall_eq, ↓within_y, ↓within_n, ↓isIn_y, ↓isIn_n, and_true, true_and, and_self, us_at, us_ne, w32_id, um_eq, um_ne, um_um, uu_eq, uu_ne, uu_uu, vv_eq, vv_ne, vv_vv, ne_eq, not_false_eq_true, not_true_eq_false, reduceCtorEq, Int.reduceAdd, Int.reduceSub, Int.reduceMul, Int.reduceNeg, Nat.reduceEqDiff, or_true, true_or, true_implies, false_implies, Int.reduceLT, Int.reduceLE, Int.reduceEq, rd, e9]
    exact z
  | succ t ih =>
    intro f j a4 hd hj h0 ha hb z
    have ll := qok_len hn ho
    cases f with
    | zero => rw [dep] at hd; omega
    | succ f =>
      rw [dep] at hd
      by_cases d : j = 0
      · rw [if_pos d] at hd; omega
      · rw [if_neg d] at hd
        rw [anc] at z
        have pb := par_b ho hj (by omega)
        have rd := cwy_r hc hj
        have e9 : (9 * (par q j : Int) + pmv q j).tdiv 9 = par q j := by rw [td (by omega)]; omega
        have g := ih f (par q j) (a4 + 1) (by omega) (by omega) (by omega) (by omega) hb z
        rw [mX4_moveOnWayTo_L5]
        simp (disch := first | omega | decide) only [w32_id, ↓kh_c56, ↓kh_g56_0, ↓kh_g56_1, ↓kh_g56_2, ↓kh_g56_3, ↓kh_g56_4, ↓kh_g56_5, ↓kh_p56_5, ↓kh_g56_6, ↓kh_p56_6, ↓kh_g56_7, ↓kh_p56_7, ↓kh_r58, ↓kh_w58, ↓kh_n58, ↓be_y, ↓be_n, ↓bf_y, ↓bf_n, ↓bl_y, ↓bl_n, ↓bm_y, ↓bm_n, ↓bg_y, ↓bg_n, ↓bs_y, ↓bs_n, ↓bo_y, ↓bo_n, ↓bp_y, ↓bp_n, ↓forall_eq, ↓within_y, ↓within_n, ↓isIn_y, ↓isIn_n, and_true, true_and, and_self, us_at, us_ne, w32_id, um_eq, um_ne, um_um, uu_eq, uu_ne, uu_uu, vv_eq, vv_ne, vv_vv, ne_eq, not_false_eq_true, not_true_eq_false, reduceCtorEq, Int.reduceAdd, Int.reduceSub, Int.reduceMul, Int.reduceNeg, Nat.reduceEqDiff, or_true, true_or, true_implies, false_implies, Int.reduceLT, Int.reduceLE, Int.reduceEq, rd, e9]
        exact g
theorem shw30 (hn : 0 ≤ n ∧ n ≤ 5) (ho : qok n s0 q) (hr : rin n q M) {F : hp} {Q : Int → hp → Prop} {a1 : Int} : ∀ (f j : Nat) (a2 : Int), j < f → j < q.length → mX12_shunts_L30 Q 1 69 a1 (a2 + dep q f j) (num (pst1 q s0 0)) (rh F u M) → mX12_shunts_L30 Q f 69 a1 a2 (num (pst1 q s0 j)) (rh F u M) := by
  intro f
  induction f with
  | zero => intro j a2 h; omega
  | succ f ih =>
    intro j a2 hf hj z
    rw [dep] at z
    have nb0 := num_b hn (pst1_v ho j)
    by_cases d : j = 0
    · subst d
      rw [if_pos rfl, show a2 + ((0 : Nat) : Int) = a2 by omega] at z
      have e1 := rwy_0 ho hr
      rw [mX12_shunts_L30] at z ⊢
      simp (disch := first | omega | decide) only [w32_id, ↓rh_rcv, ↓rh_g29, ↓rh_r82, ↓rh_w82, ↓be_y, ↓be_n, ↓bf_y, ↓bf_n, ↓bl_y, ↓bl_n, ↓bm_y, ↓bm_n, ↓bg_y, ↓bg_n, ↓bs_y, ↓bs_n, ↓bo_y, ↓bo_n, ↓bp_y, ↓bp_n, ↓forall_eq, ↓within_y, ↓within_n, ↓isIn_y, ↓isIn_n, and_true, true_and, and_self, us_at, us_ne, w32_id, um_eq, um_ne, um_um, uu_eq, uu_ne, uu_uu, vv_eq, vv_ne, vv_vv, ne_eq, not_false_eq_true, not_true_eq_false, reduceCtorEq, Int.reduceAdd, Int.reduceSub, Int.reduceMul, Int.reduceNeg, Nat.reduceEqDiff, or_true, true_or, true_implies, false_implies, Int.reduceLT, Int.reduceLE, Int.reduceEq, e1] at z ⊢
      exact z
    · rw [if_neg d] at z
      have pb := par_b ho hj (by omega)
      obtain ⟨-, e2⟩ := rwy_r ho hr hj (by omega)
      have nb := num_b hn (pst1_v ho (par q j))
      have g := ih (par q j) (a2 + 1) (by omega) (by omega) (by rw [show a2 + 1 + (dep q f (par q j) : Int) = a2 + ((dep q f (par q j) + 1 : Nat) : Int) by omega]; exact z)
      rw [mX12_shunts_L30]
      simp (disch := first | omega | decide) only [w32_id, ↓rh_rcv, ↓rh_g29, ↓rh_r82, ↓rh_w82, ↓be_y, ↓be_n, ↓bf_y, ↓bf_n, ↓bl_y, ↓bl_n, ↓bm_y, ↓bm_n, ↓bg_y, ↓bg_n, ↓bs_y, ↓bs_n, ↓bo_y, ↓bo_n, ↓bp_y, ↓bp_n, ↓forall_eq, ↓within_y, ↓within_n, ↓isIn_y, ↓isIn_n, and_true, true_and, and_self, us_at, us_ne, w32_id, um_eq, um_ne, um_um, uu_eq, uu_ne, uu_uu, vv_eq, vv_ne, vv_vv, ne_eq, not_false_eq_true, not_true_eq_false, reduceCtorEq, Int.reduceAdd, Int.reduceSub, Int.reduceMul, Int.reduceNeg, Nat.reduceEqDiff, or_true, true_or, true_implies, false_implies, Int.reduceLT, Int.reduceLE, Int.reduceEq, e2]
      exact g
theorem shw89 (hn : 0 ≤ n ∧ n ≤ 5) (ho : qok n s0 q) (hr : rin n q M) {F : hp} {Q : Int → hp → Prop} {a1 : Int} (h1 : 0 ≤ a1 ∧ a1 < 3000) : ∀ (t f j : Nat) (a4 : Int), t < dep q f j → j < q.length → a4 = a1 + t → a4 < 3000 → Q (pmv q (anc q t j)) (rh F u M) → mX12_shunts_L89 Q (t + 1) 69 a1 (num (pst1 q s0 j)) a4 (rh F u M) := by
  intro t
  induction t with
  | zero =>
    intro f j a4 hd hj ha hb z
    have j0 : 0 < j := by
      cases f with
      | zero => rw [dep] at hd; omega
      | succ f =>
        rw [dep] at hd
        by_cases d : j = 0
        · rw [if_pos d] at hd; omega
        · omega
    rw [anc] at z
    obtain ⟨e1, -⟩ := rwy_r ho hr hj j0
    have nb0 := num_b hn (pst1_v ho j)
    rw [mX12_shunts_L89]
    simp (disch := first | omega | decide) only [w32_id, ↓rh_rcv, ↓rh_g30, ↓rh_r83, ↓rh_w83, ↓be_y, ↓be_n, ↓bf_y, ↓bf_n, ↓bl_y, ↓bl_n, ↓bm_y, ↓bm_n, ↓bg_y, ↓bg_n, ↓bs_y, ↓bs_n, ↓bo_y, ↓bo_n, ↓bp_y, ↓bp_n, ↓forall_eq, ↓within_y, ↓within_n, ↓isIn_y, ↓isIn_n, and_true, true_and, and_self, us_at, us_ne, w32_id, um_eq, um_ne, um_um, uu_eq, uu_ne, uu_uu, vv_eq, vv_ne, vv_vv, ne_eq, not_false_eq_true, not_true_eq_false, reduceCtorEq, Int.reduceAdd, Int.reduceSub, Int.reduceMul, Int.reduceNeg, Nat.reduceEqDiff, or_true, true_or, true_implies, false_implies, Int.reduceLT, Int.reduceLE, Int.reduceEq, e1]
    exact z
  | succ t ih =>
    intro f j a4 hd hj ha hb z
    cases f with
    | zero => rw [dep] at hd; omega
    | succ f =>
      rw [dep] at hd
      by_cases d : j = 0
      · rw [if_pos d] at hd; omega
      · rw [if_neg d] at hd
        rw [anc] at z
        have pb := par_b ho hj (by omega)
        obtain ⟨-, e2⟩ := rwy_r ho hr hj (by omega)
        have nb0 := num_b hn (pst1_v ho j)
        have g := ih f (par q j) (a4 + -1) (by omega) (by omega) (by omega) (by omega) z
        rw [mX12_shunts_L89]
        simp (disch := first | omega | decide) only [w32_id, ↓rh_rcv, ↓rh_g29, ↓rh_r82, ↓rh_w82, ↓be_y, ↓be_n, ↓bf_y, ↓bf_n, ↓bl_y, ↓bl_n, ↓bm_y, ↓bm_n, ↓bg_y, ↓bg_n, ↓bs_y, ↓bs_n, ↓bo_y, ↓bo_n, ↓bp_y, ↓bp_n, ↓forall_eq, ↓within_y, ↓within_n, ↓isIn_y, ↓isIn_n, and_true, true_and, and_self, us_at, us_ne, w32_id, um_eq, um_ne, um_um, uu_eq, uu_ne, uu_uu, vv_eq, vv_ne, vv_vv, ne_eq, not_false_eq_true, not_true_eq_false, reduceCtorEq, Int.reduceAdd, Int.reduceSub, Int.reduceMul, Int.reduceNeg, Nat.reduceEqDiff, or_true, true_or, true_implies, false_implies, Int.reduceLT, Int.reduceLE, Int.reduceEq, e2]
        exact g
theorem pg2 (hn : 0 ≤ n ∧ n ≤ 5) (ho : qok n s0 q) (hc : cwy q N) (hv : v 56 5 = (q.length : Int)) (hw : svl n w) {F : hp} {Q : Int → hp → Prop} (z : Q (wat w q) (kh F v N T)) : ∀ (k i : Nat), i + k = q.length → (∀ j x, j < i → q[j]? = some x → x.1 ≠ w) → mX4_placeOfGoal_L2 Q (k + 1) 56 (enc w) i (kh F v N T) := by
  have ll := qok_len hn ho
  have eb := enc_b hw hn.2
  intro k
  induction k with
  | zero =>
    intro i hi hj
    have e : q.findIdx? (fun x => x.1 == w) = none := by
      rw [List.findIdx?_eq_none_iff]
      intro x hx
      obtain ⟨j, l, ej⟩ := List.mem_iff_getElem.1 hx
      have := hj j x (by omega) (by rw [List.getElem?_eq_getElem l, ej])
      exact beq_eq_false_iff_ne.2 this
    unfold wat at z
    rw [e] at z
    rw [mX4_placeOfGoal_L2]
    simp (disch := first | omega | decide) only [w32_id, ↓kh_c56, ↓kh_g56_0, ↓kh_g56_1, ↓kh_g56_2, ↓kh_g56_3, ↓kh_g56_4, ↓kh_g56_5, ↓kh_p56_5, ↓kh_g56_6, ↓kh_p56_6, ↓kh_g56_7, ↓kh_p56_7, ↓be_y, ↓be_n, ↓bf_y, ↓bf_n, ↓bl_y, ↓bl_n, ↓bm_y, ↓bm_n, ↓bg_y, ↓bg_n, ↓bs_y, ↓bs_n, ↓bo_y, ↓bo_n, ↓bp_y, ↓bp_n, ↓forall_eq, ↓within_y, ↓within_n, ↓isIn_y, ↓isIn_n, and_true, true_and, and_self, us_at, us_ne, w32_id, um_eq, um_ne, um_um, uu_eq, uu_ne, uu_uu, vv_eq, vv_ne, vv_vv, ne_eq, not_false_eq_true, not_true_eq_false, reduceCtorEq, Int.reduceAdd, Int.reduceSub, Int.reduceMul, Int.reduceNeg, Nat.reduceEqDiff, or_true, true_or, true_implies, false_implies, Int.reduceLT, Int.reduceLE, Int.reduceEq, hv]
    exact z
  | succ k ih =>
    intro i hi hj
    have il : i < q.length := by omega
    have e : q[i]? = some q[i] := List.getElem?_eq_getElem il
    have rd := (hc i _ e).1
    have sv := ho.2.1 _ (List.getElem_mem il)
    have eb2 := enc_b sv hn.2
    rw [mX4_placeOfGoal_L2]
    by_cases d : q[i].1 = w
    · have e2 : wat w q = i := by
        unfold wat
        have : q.findIdx? (fun x => x.1 == w) = some i := by
          rw [List.findIdx?_eq_some_iff_getElem]
          refine ⟨il, beq_iff_eq.2 d, fun j hj' => ?_⟩
          have := hj j q[j] hj' (List.getElem?_eq_getElem (by omega))
          simpa using this
        rw [this]
      rw [e2] at z
      have rd2 : N 57 i = enc w := by rw [rd, d]
      simp (disch := first | omega | decide) only [w32_id, ↓kh_c56, ↓kh_g56_0, ↓kh_g56_1, ↓kh_g56_2, ↓kh_g56_3, ↓kh_g56_4, ↓kh_g56_5, ↓kh_p56_5, ↓kh_g56_6, ↓kh_p56_6, ↓kh_g56_7, ↓kh_p56_7, ↓kh_r57, ↓kh_w57, ↓kh_n57, ↓be_y, ↓be_n, ↓bf_y, ↓bf_n, ↓bl_y, ↓bl_n, ↓bm_y, ↓bm_n, ↓bg_y, ↓bg_n, ↓bs_y, ↓bs_n, ↓bo_y, ↓bo_n, ↓bp_y, ↓bp_n, ↓forall_eq, ↓within_y, ↓within_n, ↓isIn_y, ↓isIn_n, and_true, true_and, and_self, us_at, us_ne, w32_id, um_eq, um_ne, um_um, uu_eq, uu_ne, uu_uu, vv_eq, vv_ne, vv_vv, ne_eq, not_false_eq_true, not_true_eq_false, reduceCtorEq, Int.reduceAdd, Int.reduceSub, Int.reduceMul, Int.reduceNeg, Nat.reduceEqDiff, or_true, true_or, true_implies, false_implies, Int.reduceLT, Int.reduceLE, Int.reduceEq, hv, rd2]
      exact z
    · have ne : ¬ enc q[i].1 = enc w := fun t => d (enc_inj hn sv hw t)
      have g := ih (i + 1) (by omega) (fun j x hj' hx => by
        by_cases f : j < i
        · exact hj j x f hx
        · obtain rfl : j = i := by omega
          rw [e] at hx
          injection hx with hx
          rw [← hx]; exact d)
      rw [show ((i + 1 : Nat) : Int) = (i : Int) + 1 by omega] at g
      simp (disch := first | omega | decide) only [w32_id, ↓kh_c56, ↓kh_g56_0, ↓kh_g56_1, ↓kh_g56_2, ↓kh_g56_3, ↓kh_g56_4, ↓kh_g56_5, ↓kh_p56_5, ↓kh_g56_6, ↓kh_p56_6, ↓kh_g56_7, ↓kh_p56_7, ↓kh_r57, ↓kh_w57, ↓kh_n57, ↓be_y, ↓be_n, ↓bf_y, ↓bf_n, ↓bl_y, ↓bl_n, ↓bm_y, ↓bm_n, ↓bg_y, ↓bg_n, ↓bs_y, ↓bs_n, ↓bo_y, ↓bo_n, ↓bp_y, ↓bp_n, ↓forall_eq, ↓within_y, ↓within_n, ↓isIn_y, ↓isIn_n, and_true, true_and, and_self, us_at, us_ne, w32_id, um_eq, um_ne, um_um, uu_eq, uu_ne, uu_uu, vv_eq, vv_ne, vv_vv, ne_eq, not_false_eq_true, not_true_eq_false, reduceCtorEq, Int.reduceAdd, Int.reduceSub, Int.reduceMul, Int.reduceNeg, Nat.reduceEqDiff, or_true, true_or, true_implies, false_implies, Int.reduceLT, Int.reduceLE, Int.reduceEq, hv, rd]
      exact g
end WY
